set_option maxHeartbeats 4000000 in
set_option maxRecDepth 100000 in
theorem law_c12 {p : Program} {l : Launch} {e : Env} {s : State} {m : MethodId} {below : List Frame} {meth : Method} {c : Code} {D : va_G} {E : sE} {a : Nat → Nat} {cA : Nat → ClassId} {a' : Nat → Nat} {cB : Nat → ClassId} {b L : Nat} {xs : Nat → Int32} {t : Nat} {x3 : Int32} {H : Heap} {locs : List Loc} {ls : Array Slot} (C0 : lw_At p s m meth c b L xs) (hSg : gS D E (tG cA) (lZ s) s) (hSm : gS D E (tM cB) (lZ s) s) (h1 : vp_in (x3 + 1) L) (h2 : vp_in (x3 + 2) L) (h3 : vp_in (x3 + 3) L) (ht : t < 1000) (hW : LW D s a cA a' cB t H locs) (hl : lv_has ls 4 [(0, .ref b), (1, .ref (a 0)), (2, .ref (a' 0)), (3, .int x3)]) (kk : ∀ (H : Heap) (locs : List Loc), LW D s a cA a' cB (t + 1) H locs → W p l e room_1 s m #[Value.ref b] below meth c H locs 45 4118 (lw_Z below #[Value.ref b] s) (F0 m 683 ls [])) : W p l e room_1 s m #[Value.ref b] below meth c H locs 45 4118 (lw_Z below #[Value.ref b] s) (F0 m 410 ls []) := by
  obtain ⟨hx, hb, hr, hml, hown, hts0, hX, hbl, hlocks, hgv⟩ := C0
  have hts : ∀ w ∈ wsL_law, w.before #[Value.ref b] s = true := fun w h => hts0 w (wsL_law_in w h)
  have hown : s.vm.findClass RL = some m.cls := hown
  have hbA : ¬ lZ s b := Nat.not_le.mpr hbl
  obtain ⟨g_isCharted, g_isKept, g_hedgesRead, g_evensDone, g_plen, g_number, g_setCount, g_standing, g_turn, g_cuts, g_ssize, g_kstanding, g_kturn, g_kcuts, g_kssize, g_seed, g_whiteWon, g_cutsDone, g_lett, g_onB, g_abv, g_sets, g_kinds, g_sbranches, g_sbeginners, g_swon, g_kkinds, g_ksbranches, g_ksbeginners, g_kswon, g_lcuts, g_valu, g_won, g_chance, m_hedges, m_branches, m_stand, m_turn, m_cuts, m_asks, m_seen, m_pageLength, m_isWhole, m_newBranches, m_gameCuts, m_isKept, m_keptHedge, m_keptStand, m_keptTurn, m_keptCuts, m_keptSeen, m_seedNow, m_hsh, m_kindOf, m_onOf, m_seenBranch, m_seenBegins, m_seenWins, m_page, m_winner, m_lasting, m_worthBy, m_wonBy, m_keptKind, m_keptBranch, m_keptBegins, m_keptWins, m_partsBy, I, hW⟩ := hW
  obtain ⟨r, g_isCharted2, g_lcuts2, g_valu2, g_won2, g_chance2, m_winner2, m_lasting2, eg, em, I2⟩ := E_lasts I (xs ((x3 + 1).toNatClampNeg))
  have hG : gMi l yX10_lasts wsX10_lasts rm_X10_lasts D E (tG cA) [.ref (a 0), .int (xs ((x3 + 1).toNatClampNeg))] (wG a cA g_isCharted g_isKept g_hedgesRead g_evensDone g_plen g_number g_setCount g_standing g_turn g_cuts g_ssize g_kstanding g_kturn g_kcuts g_kssize g_seed g_whiteWon g_cutsDone g_lett g_onB g_abv g_sets g_kinds g_sbranches g_sbeginners g_swon g_kkinds g_ksbranches g_ksbeginners g_kswon g_lcuts g_valu g_won g_chance) (wG a cA g_isCharted2 g_isKept g_hedgesRead g_evensDone g_plen g_number g_setCount g_standing g_turn g_cuts g_ssize g_kstanding g_kturn g_kcuts g_kssize g_seed g_whiteWon g_cutsDone g_lett g_onB g_abv g_sets g_kinds g_sbranches g_sbeginners g_swon g_kkinds g_ksbranches g_ksbeginners g_kswon g_lcuts2 g_valu2 g_won2 g_chance2) r := k_X10_lasts (xs ((x3 + 1).toNatClampNeg)) (INV_hnm I) (INV_hsc I) (INV_hss I) (INV_hsd I) _ eg.symm
  have hM : gMi l yX11_lasts wsX11_lasts rm_X11_lasts D E (tM cB) [.ref (a' 0), .int (xs ((x3 + 1).toNatClampNeg))] (wM a' cB m_hedges m_branches m_stand m_turn m_cuts m_asks m_seen m_pageLength m_isWhole m_newBranches m_gameCuts m_isKept m_keptHedge m_keptStand m_keptTurn m_keptCuts m_keptSeen m_seedNow m_hsh m_kindOf m_onOf m_seenBranch m_seenBegins m_seenWins m_page m_winner m_lasting m_worthBy m_wonBy m_keptKind m_keptBranch m_keptBegins m_keptWins m_partsBy) (wM a' cB m_hedges m_branches m_stand m_turn m_cuts m_asks m_seen m_pageLength m_isWhole m_newBranches m_gameCuts m_isKept m_keptHedge m_keptStand m_keptTurn m_keptCuts m_keptSeen m_seedNow m_hsh m_kindOf m_onOf m_seenBranch m_seenBegins m_seenWins m_page m_winner2 m_lasting2 m_worthBy m_wonBy m_keptKind m_keptBranch m_keptBegins m_keptWins m_partsBy) r := k_X11_lasts (xs ((x3 + 1).toNatClampNeg)) (INV_mbr I) (INV_mst I) _ em.symm
  clear eg em
  refine lv_aload_n hx hb dL_law_410 rfl (lv_at hl 1 rfl) ?_
  refine lv_aload_n hx hb dL_law_411 rfl (lv_at hl 0 rfl) ?_
  refine lv_iload_n hx hb dL_law_412 rfl (lv_at hl 3 rfl) ?_
  refine lv_iconst (v := 1) hx hb dL_law_413 (by decide) ?_
  refine lv_iadd hx hb dL_law_414 ?_
  refine va_sld hx hb hX hbl hbA hW.S h1 dL_law_415 ?_
  refine h_Vi (r := r) (As := [.int (xs ((x3 + 1).toNatClampNeg))]) (rest := []) (ci := 10) (cq := (RX10, TX10, 14)) (q0 := 0) ⟨hx, hb, hml, hown, hts⟩ hSg hW hG (cwV 1 hts gL_law_X10_lasts rfl rfl rfl (by decide +kernel) ⟨Nat.le_of_ble_eq_true rfl, Nat.le_of_ble_eq_true rfl⟩) rfl rfl rfl hl.1 rfl (Nat.le_of_ble_eq_true rfl) dL_law_416 ⟨Nat.le_of_ble_eq_true rfl, Nat.le_of_ble_eq_true rfl⟩ (fun H locs hW => ?_)
  refine lv_aload_n hx hb dL_law_419 rfl (lv_at hl 2 rfl) ?_
  refine lv_aload_n hx hb dL_law_420 rfl (lv_at hl 0 rfl) ?_
  refine lv_iload_n hx hb dL_law_421 rfl (lv_at hl 3 rfl) ?_
  refine lv_iconst (v := 1) hx hb dL_law_422 (by decide) ?_
  refine lv_iadd hx hb dL_law_423 ?_
  refine va_sld hx hb hX hbl hbA hW.S h1 dL_law_424 ?_
  refine h_Vi (r := r) (As := [.int (xs ((x3 + 1).toNatClampNeg))]) (rest := [.int r]) (ci := 11) (cq := (RX11, TX11, 34)) (q0 := 0) ⟨hx, hb, hml, hown, hts⟩ hSm hW.swap hM (cwV 1 hts gL_law_X11_lasts rfl rfl rfl (by decide +kernel) ⟨Nat.le_of_ble_eq_true rfl, Nat.le_of_ble_eq_true rfl⟩) rfl rfl rfl hl.1 rfl (Nat.le_of_ble_eq_true rfl) dL_law_425 ⟨Nat.le_of_ble_eq_true rfl, Nat.le_of_ble_eq_true rfl⟩ (fun H locs hW => ?_)
  refine lv_icmp_eq (tgt := 683) hx hb dL_law_428 (by decide) (fun _ => ?_) (fun q => absurd rfl q)
  exact kk H locs ⟨_, _, _, _, _, _, _, _, _, _, _, _, _, _, _, _, _, _, _, _, _, _, _, _, _, _, _, _, _, _, _, _, _, _, _, _, _, _, _, _, _, _, _, _, _, _, _, _, _, _, _, _, _, _, _, _, _, _, _, _, _, _, _, _, _, _, _, _, I2, hW.swap⟩
set_option maxHeartbeats 4000000 in
set_option maxRecDepth 100000 in
theorem law_c13 {p : Program} {l : Launch} {e : Env} {s : State} {m : MethodId} {below : List Frame} {meth : Method} {c : Code} {D : va_G} {E : sE} {a : Nat → Nat} {cA : Nat → ClassId} {a' : Nat → Nat} {cB : Nat → ClassId} {b L : Nat} {xs : Nat → Int32} {t : Nat} {x3 : Int32} {H : Heap} {locs : List Loc} {ls : Array Slot} (C0 : lw_At p s m meth c b L xs) (hSg : gS D E (tG cA) (lZ s) s) (hSm : gS D E (tM cB) (lZ s) s) (h1 : vp_in (x3 + 1) L) (h2 : vp_in (x3 + 2) L) (h3 : vp_in (x3 + 3) L) (ht : t < 1000) (hW : LW D s a cA a' cB t H locs) (hl : lv_has ls 4 [(0, .ref b), (1, .ref (a 0)), (2, .ref (a' 0)), (3, .int x3)]) (kk : ∀ (H : Heap) (locs : List Loc), LW D s a cA a' cB (t + 1) H locs → W p l e room_1 s m #[Value.ref b] below meth c H locs 45 4118 (lw_Z below #[Value.ref b] s) (F0 m 683 ls [])) : W p l e room_1 s m #[Value.ref b] below meth c H locs 45 4118 (lw_Z below #[Value.ref b] s) (F0 m 433 ls []) := by
  obtain ⟨hx, hb, hr, hml, hown, hts0, hX, hbl, hlocks, hgv⟩ := C0
  have hts : ∀ w ∈ wsL_law, w.before #[Value.ref b] s = true := fun w h => hts0 w (wsL_law_in w h)
  have hown : s.vm.findClass RL = some m.cls := hown
  have hbA : ¬ lZ s b := Nat.not_le.mpr hbl
  obtain ⟨g_isCharted, g_isKept, g_hedgesRead, g_evensDone, g_plen, g_number, g_setCount, g_standing, g_turn, g_cuts, g_ssize, g_kstanding, g_kturn, g_kcuts, g_kssize, g_seed, g_whiteWon, g_cutsDone, g_lett, g_onB, g_abv, g_sets, g_kinds, g_sbranches, g_sbeginners, g_swon, g_kkinds, g_ksbranches, g_ksbeginners, g_kswon, g_lcuts, g_valu, g_won, g_chance, m_hedges, m_branches, m_stand, m_turn, m_cuts, m_asks, m_seen, m_pageLength, m_isWhole, m_newBranches, m_gameCuts, m_isKept, m_keptHedge, m_keptStand, m_keptTurn, m_keptCuts, m_keptSeen, m_seedNow, m_hsh, m_kindOf, m_onOf, m_seenBranch, m_seenBegins, m_seenWins, m_page, m_winner, m_lasting, m_worthBy, m_wonBy, m_keptKind, m_keptBranch, m_keptBegins, m_keptWins, m_partsBy, I, hW⟩ := hW
  obtain ⟨r, g_isCharted2, g_lcuts2, g_valu2, g_won2, g_chance2, m_worthBy2, eg, em, I2⟩ := E_worth I 
  have hG : gMi l yX10_worth wsX10_worth rm_X10_worth D E (tG cA) [.ref (a 0)] (wG a cA g_isCharted g_isKept g_hedgesRead g_evensDone g_plen g_number g_setCount g_standing g_turn g_cuts g_ssize g_kstanding g_kturn g_kcuts g_kssize g_seed g_whiteWon g_cutsDone g_lett g_onB g_abv g_sets g_kinds g_sbranches g_sbeginners g_swon g_kkinds g_ksbranches g_ksbeginners g_kswon g_lcuts g_valu g_won g_chance) (wG a cA g_isCharted2 g_isKept g_hedgesRead g_evensDone g_plen g_number g_setCount g_standing g_turn g_cuts g_ssize g_kstanding g_kturn g_kcuts g_kssize g_seed g_whiteWon g_cutsDone g_lett g_onB g_abv g_sets g_kinds g_sbranches g_sbeginners g_swon g_kkinds g_ksbranches g_ksbeginners g_kswon g_lcuts2 g_valu2 g_won2 g_chance2) r := k_X10_worth (INV_hnm I) (INV_hsc I) (INV_hss I) (INV_hsd I) _ eg.symm
  have hM : gMi l yX11_worth wsX11_worth rm_X11_worth D E (tM cB) [.ref (a' 0)] (wM a' cB m_hedges m_branches m_stand m_turn m_cuts m_asks m_seen m_pageLength m_isWhole m_newBranches m_gameCuts m_isKept m_keptHedge m_keptStand m_keptTurn m_keptCuts m_keptSeen m_seedNow m_hsh m_kindOf m_onOf m_seenBranch m_seenBegins m_seenWins m_page m_winner m_lasting m_worthBy m_wonBy m_keptKind m_keptBranch m_keptBegins m_keptWins m_partsBy) (wM a' cB m_hedges m_branches m_stand m_turn m_cuts m_asks m_seen m_pageLength m_isWhole m_newBranches m_gameCuts m_isKept m_keptHedge m_keptStand m_keptTurn m_keptCuts m_keptSeen m_seedNow m_hsh m_kindOf m_onOf m_seenBranch m_seenBegins m_seenWins m_page m_winner m_lasting m_worthBy2 m_wonBy m_keptKind m_keptBranch m_keptBegins m_keptWins m_partsBy) r := k_X11_worth (INV_mbr I) (INV_mst I) _ em.symm
  clear eg em
  refine lv_aload_n hx hb dL_law_433 rfl (lv_at hl 1 rfl) ?_
  refine h_Vi (r := r) (As := []) (rest := []) (ci := 10) (cq := (RX10, TX10, 14)) (q0 := 0) ⟨hx, hb, hml, hown, hts⟩ hSg hW hG (cwV 0 hts gL_law_X10_worth rfl rfl rfl (by decide +kernel) ⟨Nat.le_of_ble_eq_true rfl, Nat.le_of_ble_eq_true rfl⟩) rfl rfl rfl hl.1 rfl (Nat.le_of_ble_eq_true rfl) dL_law_434 ⟨Nat.le_of_ble_eq_true rfl, Nat.le_of_ble_eq_true rfl⟩ (fun H locs hW => ?_)
  refine lv_aload_n hx hb dL_law_437 rfl (lv_at hl 2 rfl) ?_
  refine h_Vi (r := r) (As := []) (rest := [.int r]) (ci := 11) (cq := (RX11, TX11, 34)) (q0 := 0) ⟨hx, hb, hml, hown, hts⟩ hSm hW.swap hM (cwV 0 hts gL_law_X11_worth rfl rfl rfl (by decide +kernel) ⟨Nat.le_of_ble_eq_true rfl, Nat.le_of_ble_eq_true rfl⟩) rfl rfl rfl hl.1 rfl (Nat.le_of_ble_eq_true rfl) dL_law_438 ⟨Nat.le_of_ble_eq_true rfl, Nat.le_of_ble_eq_true rfl⟩ (fun H locs hW => ?_)
  refine lv_icmp_eq (tgt := 683) hx hb dL_law_441 (by decide) (fun _ => ?_) (fun q => absurd rfl q)
  exact kk H locs ⟨_, _, _, _, _, _, _, _, _, _, _, _, _, _, _, _, _, _, _, _, _, _, _, _, _, _, _, _, _, _, _, _, _, _, _, _, _, _, _, _, _, _, _, _, _, _, _, _, _, _, _, _, _, _, _, _, _, _, _, _, _, _, _, _, _, _, _, _, I2, hW.swap⟩
set_option maxHeartbeats 4000000 in
set_option maxRecDepth 100000 in
theorem law_c14 {p : Program} {l : Launch} {e : Env} {s : State} {m : MethodId} {below : List Frame} {meth : Method} {c : Code} {D : va_G} {E : sE} {a : Nat → Nat} {cA : Nat → ClassId} {a' : Nat → Nat} {cB : Nat → ClassId} {b L : Nat} {xs : Nat → Int32} {t : Nat} {x3 : Int32} {H : Heap} {locs : List Loc} {ls : Array Slot} (C0 : lw_At p s m meth c b L xs) (hSg : gS D E (tG cA) (lZ s) s) (hSm : gS D E (tM cB) (lZ s) s) (h1 : vp_in (x3 + 1) L) (h2 : vp_in (x3 + 2) L) (h3 : vp_in (x3 + 3) L) (ht : t < 1000) (hW : LW D s a cA a' cB t H locs) (hl : lv_has ls 4 [(0, .ref b), (1, .ref (a 0)), (2, .ref (a' 0)), (3, .int x3)]) (kk : ∀ (H : Heap) (locs : List Loc), LW D s a cA a' cB (t + 1) H locs → W p l e room_1 s m #[Value.ref b] below meth c H locs 45 4118 (lw_Z below #[Value.ref b] s) (F0 m 683 ls [])) : W p l e room_1 s m #[Value.ref b] below meth c H locs 45 4118 (lw_Z below #[Value.ref b] s) (F0 m 446 ls []) := by
  obtain ⟨hx, hb, hr, hml, hown, hts0, hX, hbl, hlocks, hgv⟩ := C0
  have hts : ∀ w ∈ wsL_law, w.before #[Value.ref b] s = true := fun w h => hts0 w (wsL_law_in w h)
  have hown : s.vm.findClass RL = some m.cls := hown
  have hbA : ¬ lZ s b := Nat.not_le.mpr hbl
  obtain ⟨g_isCharted, g_isKept, g_hedgesRead, g_evensDone, g_plen, g_number, g_setCount, g_standing, g_turn, g_cuts, g_ssize, g_kstanding, g_kturn, g_kcuts, g_kssize, g_seed, g_whiteWon, g_cutsDone, g_lett, g_onB, g_abv, g_sets, g_kinds, g_sbranches, g_sbeginners, g_swon, g_kkinds, g_ksbranches, g_ksbeginners, g_kswon, g_lcuts, g_valu, g_won, g_chance, m_hedges, m_branches, m_stand, m_turn, m_cuts, m_asks, m_seen, m_pageLength, m_isWhole, m_newBranches, m_gameCuts, m_isKept, m_keptHedge, m_keptStand, m_keptTurn, m_keptCuts, m_keptSeen, m_seedNow, m_hsh, m_kindOf, m_onOf, m_seenBranch, m_seenBegins, m_seenWins, m_page, m_winner, m_lasting, m_worthBy, m_wonBy, m_keptKind, m_keptBranch, m_keptBegins, m_keptWins, m_partsBy, I, hW⟩ := hW
  obtain ⟨r, g_isCharted2, g_lcuts2, g_valu2, g_won2, g_chance2, m_worthBy2, eg, em, I2⟩ := E_tree I (xs ((x3 + 1).toNatClampNeg))
  have hG : gMi l yX10_tree wsX10_tree rm_X10_tree D E (tG cA) [.ref (a 0), .int (xs ((x3 + 1).toNatClampNeg))] (wG a cA g_isCharted g_isKept g_hedgesRead g_evensDone g_plen g_number g_setCount g_standing g_turn g_cuts g_ssize g_kstanding g_kturn g_kcuts g_kssize g_seed g_whiteWon g_cutsDone g_lett g_onB g_abv g_sets g_kinds g_sbranches g_sbeginners g_swon g_kkinds g_ksbranches g_ksbeginners g_kswon g_lcuts g_valu g_won g_chance) (wG a cA g_isCharted2 g_isKept g_hedgesRead g_evensDone g_plen g_number g_setCount g_standing g_turn g_cuts g_ssize g_kstanding g_kturn g_kcuts g_kssize g_seed g_whiteWon g_cutsDone g_lett g_onB g_abv g_sets g_kinds g_sbranches g_sbeginners g_swon g_kkinds g_ksbranches g_ksbeginners g_kswon g_lcuts2 g_valu2 g_won2 g_chance2) r := k_X10_tree (xs ((x3 + 1).toNatClampNeg)) (INV_hnm I) (INV_hsc I) (INV_hss I) (INV_hsd I) _ eg.symm
  have hM : gMi l yX11_tree wsX11_tree rm_X11_tree D E (tM cB) [.ref (a' 0), .int (xs ((x3 + 1).toNatClampNeg))] (wM a' cB m_hedges m_branches m_stand m_turn m_cuts m_asks m_seen m_pageLength m_isWhole m_newBranches m_gameCuts m_isKept m_keptHedge m_keptStand m_keptTurn m_keptCuts m_keptSeen m_seedNow m_hsh m_kindOf m_onOf m_seenBranch m_seenBegins m_seenWins m_page m_winner m_lasting m_worthBy m_wonBy m_keptKind m_keptBranch m_keptBegins m_keptWins m_partsBy) (wM a' cB m_hedges m_branches m_stand m_turn m_cuts m_asks m_seen m_pageLength m_isWhole m_newBranches m_gameCuts m_isKept m_keptHedge m_keptStand m_keptTurn m_keptCuts m_keptSeen m_seedNow m_hsh m_kindOf m_onOf m_seenBranch m_seenBegins m_seenWins m_page m_winner m_lasting m_worthBy2 m_wonBy m_keptKind m_keptBranch m_keptBegins m_keptWins m_partsBy) r := k_X11_tree (xs ((x3 + 1).toNatClampNeg)) (INV_mbr I) (INV_mst I) _ em.symm
  clear eg em
  refine lv_aload_n hx hb dL_law_446 rfl (lv_at hl 1 rfl) ?_
  refine lv_aload_n hx hb dL_law_447 rfl (lv_at hl 0 rfl) ?_
  refine lv_iload_n hx hb dL_law_448 rfl (lv_at hl 3 rfl) ?_
  refine lv_iconst (v := 1) hx hb dL_law_449 (by decide) ?_
  refine lv_iadd hx hb dL_law_450 ?_
  refine va_sld hx hb hX hbl hbA hW.S h1 dL_law_451 ?_
  refine h_Vi (r := r) (As := [.int (xs ((x3 + 1).toNatClampNeg))]) (rest := []) (ci := 10) (cq := (RX10, TX10, 14)) (q0 := 0) ⟨hx, hb, hml, hown, hts⟩ hSg hW hG (cwV 1 hts gL_law_X10_tree rfl rfl rfl (by decide +kernel) ⟨Nat.le_of_ble_eq_true rfl, Nat.le_of_ble_eq_true rfl⟩) rfl rfl rfl hl.1 rfl (Nat.le_of_ble_eq_true rfl) dL_law_452 ⟨Nat.le_of_ble_eq_true rfl, Nat.le_of_ble_eq_true rfl⟩ (fun H locs hW => ?_)
  refine lv_aload_n hx hb dL_law_455 rfl (lv_at hl 2 rfl) ?_
  refine lv_aload_n hx hb dL_law_456 rfl (lv_at hl 0 rfl) ?_
  refine lv_iload_n hx hb dL_law_457 rfl (lv_at hl 3 rfl) ?_
  refine lv_iconst (v := 1) hx hb dL_law_458 (by decide) ?_
  refine lv_iadd hx hb dL_law_459 ?_
  refine va_sld hx hb hX hbl hbA hW.S h1 dL_law_460 ?_
  refine h_Vi (r := r) (As := [.int (xs ((x3 + 1).toNatClampNeg))]) (rest := [.int r]) (ci := 11) (cq := (RX11, TX11, 34)) (q0 := 0) ⟨hx, hb, hml, hown, hts⟩ hSm hW.swap hM (cwV 1 hts gL_law_X11_tree rfl rfl rfl (by decide +kernel) ⟨Nat.le_of_ble_eq_true rfl, Nat.le_of_ble_eq_true rfl⟩) rfl rfl rfl hl.1 rfl (Nat.le_of_ble_eq_true rfl) dL_law_461 ⟨Nat.le_of_ble_eq_true rfl, Nat.le_of_ble_eq_true rfl⟩ (fun H locs hW => ?_)
  refine lv_icmp_eq (tgt := 683) hx hb dL_law_464 (by decide) (fun _ => ?_) (fun q => absurd rfl q)
  exact kk H locs ⟨_, _, _, _, _, _, _, _, _, _, _, _, _, _, _, _, _, _, _, _, _, _, _, _, _, _, _, _, _, _, _, _, _, _, _, _, _, _, _, _, _, _, _, _, _, _, _, _, _, _, _, _, _, _, _, _, _, _, _, _, _, _, _, _, _, _, _, _, I2, hW.swap⟩
set_option maxHeartbeats 4000000 in
set_option maxRecDepth 100000 in
theorem law_c15 {p : Program} {l : Launch} {e : Env} {s : State} {m : MethodId} {below : List Frame} {meth : Method} {c : Code} {D : va_G} {E : sE} {a : Nat → Nat} {cA : Nat → ClassId} {a' : Nat → Nat} {cB : Nat → ClassId} {b L : Nat} {xs : Nat → Int32} {t : Nat} {x3 : Int32} {H : Heap} {locs : List Loc} {ls : Array Slot} (C0 : lw_At p s m meth c b L xs) (hSg : gS D E (tG cA) (lZ s) s) (hSm : gS D E (tM cB) (lZ s) s) (h1 : vp_in (x3 + 1) L) (h2 : vp_in (x3 + 2) L) (h3 : vp_in (x3 + 3) L) (ht : t < 1000) (hW : LW D s a cA a' cB t H locs) (hl : lv_has ls 4 [(0, .ref b), (1, .ref (a 0)), (2, .ref (a' 0)), (3, .int x3)]) (kk : ∀ (H : Heap) (locs : List Loc), LW D s a cA a' cB (t + 1) H locs → W p l e room_1 s m #[Value.ref b] below meth c H locs 45 4118 (lw_Z below #[Value.ref b] s) (F0 m 683 ls [])) : W p l e room_1 s m #[Value.ref b] below meth c H locs 45 4118 (lw_Z below #[Value.ref b] s) (F0 m 469 ls []) := by
  obtain ⟨hx, hb, hr, hml, hown, hts0, hX, hbl, hlocks, hgv⟩ := C0
  have hts : ∀ w ∈ wsL_law, w.before #[Value.ref b] s = true := fun w h => hts0 w (wsL_law_in w h)
  have hown : s.vm.findClass RL = some m.cls := hown
  have hbA : ¬ lZ s b := Nat.not_le.mpr hbl
  obtain ⟨g_isCharted, g_isKept, g_hedgesRead, g_evensDone, g_plen, g_number, g_setCount, g_standing, g_turn, g_cuts, g_ssize, g_kstanding, g_kturn, g_kcuts, g_kssize, g_seed, g_whiteWon, g_cutsDone, g_lett, g_onB, g_abv, g_sets, g_kinds, g_sbranches, g_sbeginners, g_swon, g_kkinds, g_ksbranches, g_ksbeginners, g_kswon, g_lcuts, g_valu, g_won, g_chance, m_hedges, m_branches, m_stand, m_turn, m_cuts, m_asks, m_seen, m_pageLength, m_isWhole, m_newBranches, m_gameCuts, m_isKept, m_keptHedge, m_keptStand, m_keptTurn, m_keptCuts, m_keptSeen, m_seedNow, m_hsh, m_kindOf, m_onOf, m_seenBranch, m_seenBegins, m_seenWins, m_page, m_winner, m_lasting, m_worthBy, m_wonBy, m_keptKind, m_keptBranch, m_keptBegins, m_keptWins, m_partsBy, I, hW⟩ := hW
  obtain ⟨r, g_isCharted2, g_evensDone2, g_lcuts2, g_valu2, g_won2, g_chance2, m_asks2, m_kindOf2, m_winner2, eg, em, I2⟩ := E_even I 
  have hG : gMi l yX10_even wsX10_even rm_X10_even D E (tG cA) [.ref (a 0)] (wG a cA g_isCharted g_isKept g_hedgesRead g_evensDone g_plen g_number g_setCount g_standing g_turn g_cuts g_ssize g_kstanding g_kturn g_kcuts g_kssize g_seed g_whiteWon g_cutsDone g_lett g_onB g_abv g_sets g_kinds g_sbranches g_sbeginners g_swon g_kkinds g_ksbranches g_ksbeginners g_kswon g_lcuts g_valu g_won g_chance) (wG a cA g_isCharted2 g_isKept g_hedgesRead g_evensDone2 g_plen g_number g_setCount g_standing g_turn g_cuts g_ssize g_kstanding g_kturn g_kcuts g_kssize g_seed g_whiteWon g_cutsDone g_lett g_onB g_abv g_sets g_kinds g_sbranches g_sbeginners g_swon g_kkinds g_ksbranches g_ksbeginners g_kswon g_lcuts2 g_valu2 g_won2 g_chance2) r := k_X10_even (INV_hnm I) (INV_hsc I) (INV_hss I) (INV_hsd I) _ eg.symm
  have hM : gMi l yX11_even wsX11_even rm_X11_even D E (tM cB) [.ref (a' 0)] (wM a' cB m_hedges m_branches m_stand m_turn m_cuts m_asks m_seen m_pageLength m_isWhole m_newBranches m_gameCuts m_isKept m_keptHedge m_keptStand m_keptTurn m_keptCuts m_keptSeen m_seedNow m_hsh m_kindOf m_onOf m_seenBranch m_seenBegins m_seenWins m_page m_winner m_lasting m_worthBy m_wonBy m_keptKind m_keptBranch m_keptBegins m_keptWins m_partsBy) (wM a' cB m_hedges m_branches m_stand m_turn m_cuts m_asks2 m_seen m_pageLength m_isWhole m_newBranches m_gameCuts m_isKept m_keptHedge m_keptStand m_keptTurn m_keptCuts m_keptSeen m_seedNow m_hsh m_kindOf2 m_onOf m_seenBranch m_seenBegins m_seenWins m_page m_winner2 m_lasting m_worthBy m_wonBy m_keptKind m_keptBranch m_keptBegins m_keptWins m_partsBy) r := k_X11_even (INV_mbr I) (INV_mst I) _ em.symm
  clear eg em
  refine lv_aload_n hx hb dL_law_469 rfl (lv_at hl 1 rfl) ?_
  refine h_Vi (r := r) (As := []) (rest := []) (ci := 10) (cq := (RX10, TX10, 14)) (q0 := 0) ⟨hx, hb, hml, hown, hts⟩ hSg hW hG (cwV 0 hts gL_law_X10_even rfl rfl rfl (by decide +kernel) ⟨Nat.le_of_ble_eq_true rfl, Nat.le_of_ble_eq_true rfl⟩) rfl rfl rfl hl.1 rfl (Nat.le_of_ble_eq_true rfl) dL_law_470 ⟨Nat.le_of_ble_eq_true rfl, Nat.le_of_ble_eq_true rfl⟩ (fun H locs hW => ?_)
  refine lv_aload_n hx hb dL_law_473 rfl (lv_at hl 2 rfl) ?_
  refine h_Vi (r := r) (As := []) (rest := [.int r]) (ci := 11) (cq := (RX11, TX11, 34)) (q0 := 0) ⟨hx, hb, hml, hown, hts⟩ hSm hW.swap hM (cwV 0 hts gL_law_X11_even rfl rfl rfl (by decide +kernel) ⟨Nat.le_of_ble_eq_true rfl, Nat.le_of_ble_eq_true rfl⟩) rfl rfl rfl hl.1 rfl (Nat.le_of_ble_eq_true rfl) dL_law_474 ⟨Nat.le_of_ble_eq_true rfl, Nat.le_of_ble_eq_true rfl⟩ (fun H locs hW => ?_)
  refine lv_icmp_eq (tgt := 683) hx hb dL_law_477 (by decide) (fun _ => ?_) (fun q => absurd rfl q)
  exact kk H locs ⟨_, _, _, _, _, _, _, _, _, _, _, _, _, _, _, _, _, _, _, _, _, _, _, _, _, _, _, _, _, _, _, _, _, _, _, _, _, _, _, _, _, _, _, _, _, _, _, _, _, _, _, _, _, _, _, _, _, _, _, _, _, _, _, _, _, _, _, _, I2, hW.swap⟩
set_option maxHeartbeats 4000000 in
set_option maxRecDepth 100000 in
theorem law_c16 {p : Program} {l : Launch} {e : Env} {s : State} {m : MethodId} {below : List Frame} {meth : Method} {c : Code} {D : va_G} {E : sE} {a : Nat → Nat} {cA : Nat → ClassId} {a' : Nat → Nat} {cB : Nat → ClassId} {b L : Nat} {xs : Nat → Int32} {t : Nat} {x3 : Int32} {H : Heap} {locs : List Loc} {ls : Array Slot} (C0 : lw_At p s m meth c b L xs) (hSg : gS D E (tG cA) (lZ s) s) (hSm : gS D E (tM cB) (lZ s) s) (h1 : vp_in (x3 + 1) L) (h2 : vp_in (x3 + 2) L) (h3 : vp_in (x3 + 3) L) (ht : t < 1000) (hW : LW D s a cA a' cB t H locs) (hl : lv_has ls 4 [(0, .ref b), (1, .ref (a 0)), (2, .ref (a' 0)), (3, .int x3)]) (kk : ∀ (H : Heap) (locs : List Loc), LW D s a cA a' cB (t + 1) H locs → W p l e room_1 s m #[Value.ref b] below meth c H locs 45 4118 (lw_Z below #[Value.ref b] s) (F0 m 683 ls [])) : W p l e room_1 s m #[Value.ref b] below meth c H locs 45 4118 (lw_Z below #[Value.ref b] s) (F0 m 482 ls []) := by
  obtain ⟨hx, hb, hr, hml, hown, hts0, hX, hbl, hlocks, hgv⟩ := C0
  have hts : ∀ w ∈ wsL_law, w.before #[Value.ref b] s = true := fun w h => hts0 w (wsL_law_in w h)
  have hown : s.vm.findClass RL = some m.cls := hown
  have hbA : ¬ lZ s b := Nat.not_le.mpr hbl
  obtain ⟨g_isCharted, g_isKept, g_hedgesRead, g_evensDone, g_plen, g_number, g_setCount, g_standing, g_turn, g_cuts, g_ssize, g_kstanding, g_kturn, g_kcuts, g_kssize, g_seed, g_whiteWon, g_cutsDone, g_lett, g_onB, g_abv, g_sets, g_kinds, g_sbranches, g_sbeginners, g_swon, g_kkinds, g_ksbranches, g_ksbeginners, g_kswon, g_lcuts, g_valu, g_won, g_chance, m_hedges, m_branches, m_stand, m_turn, m_cuts, m_asks, m_seen, m_pageLength, m_isWhole, m_newBranches, m_gameCuts, m_isKept, m_keptHedge, m_keptStand, m_keptTurn, m_keptCuts, m_keptSeen, m_seedNow, m_hsh, m_kindOf, m_onOf, m_seenBranch, m_seenBegins, m_seenWins, m_page, m_winner, m_lasting, m_worthBy, m_wonBy, m_keptKind, m_keptBranch, m_keptBegins, m_keptWins, m_partsBy, I, hW⟩ := hW
  obtain ⟨r, g_isCharted2, g_lcuts2, g_valu2, g_won2, g_chance2, m_partsBy2, eg, em, I2⟩ := E_likely I (xs ((x3 + 1).toNatClampNeg))
  have hG : gMi l yX10_likely wsX10_likely rm_X10_likely D E (tG cA) [.ref (a 0), .int (xs ((x3 + 1).toNatClampNeg))] (wG a cA g_isCharted g_isKept g_hedgesRead g_evensDone g_plen g_number g_setCount g_standing g_turn g_cuts g_ssize g_kstanding g_kturn g_kcuts g_kssize g_seed g_whiteWon g_cutsDone g_lett g_onB g_abv g_sets g_kinds g_sbranches g_sbeginners g_swon g_kkinds g_ksbranches g_ksbeginners g_kswon g_lcuts g_valu g_won g_chance) (wG a cA g_isCharted2 g_isKept g_hedgesRead g_evensDone g_plen g_number g_setCount g_standing g_turn g_cuts g_ssize g_kstanding g_kturn g_kcuts g_kssize g_seed g_whiteWon g_cutsDone g_lett g_onB g_abv g_sets g_kinds g_sbranches g_sbeginners g_swon g_kkinds g_ksbranches g_ksbeginners g_kswon g_lcuts2 g_valu2 g_won2 g_chance2) r := k_X10_likely (xs ((x3 + 1).toNatClampNeg)) (INV_hnm I) (INV_hsc I) (INV_hss I) (INV_hsd I) _ eg.symm
  have hM : gMi l yX11_likely wsX11_likely rm_X11_likely D E (tM cB) [.ref (a' 0), .int (xs ((x3 + 1).toNatClampNeg))] (wM a' cB m_hedges m_branches m_stand m_turn m_cuts m_asks m_seen m_pageLength m_isWhole m_newBranches m_gameCuts m_isKept m_keptHedge m_keptStand m_keptTurn m_keptCuts m_keptSeen m_seedNow m_hsh m_kindOf m_onOf m_seenBranch m_seenBegins m_seenWins m_page m_winner m_lasting m_worthBy m_wonBy m_keptKind m_keptBranch m_keptBegins m_keptWins m_partsBy) (wM a' cB m_hedges m_branches m_stand m_turn m_cuts m_asks m_seen m_pageLength m_isWhole m_newBranches m_gameCuts m_isKept m_keptHedge m_keptStand m_keptTurn m_keptCuts m_keptSeen m_seedNow m_hsh m_kindOf m_onOf m_seenBranch m_seenBegins m_seenWins m_page m_winner m_lasting m_worthBy m_wonBy m_keptKind m_keptBranch m_keptBegins m_keptWins m_partsBy2) r := k_X11_likely (xs ((x3 + 1).toNatClampNeg)) (INV_mbr I) (INV_mst I) _ em.symm
  clear eg em
  refine lv_aload_n hx hb dL_law_482 rfl (lv_at hl 1 rfl) ?_
  refine lv_aload_n hx hb dL_law_483 rfl (lv_at hl 0 rfl) ?_
  refine lv_iload_n hx hb dL_law_484 rfl (lv_at hl 3 rfl) ?_
  refine lv_iconst (v := 1) hx hb dL_law_485 (by decide) ?_
  refine lv_iadd hx hb dL_law_486 ?_
  refine va_sld hx hb hX hbl hbA hW.S h1 dL_law_487 ?_
  refine h_Vi (r := r) (As := [.int (xs ((x3 + 1).toNatClampNeg))]) (rest := []) (ci := 10) (cq := (RX10, TX10, 14)) (q0 := 0) ⟨hx, hb, hml, hown, hts⟩ hSg hW hG (cwV 1 hts gL_law_X10_likely rfl rfl rfl (by decide +kernel) ⟨Nat.le_of_ble_eq_true rfl, Nat.le_of_ble_eq_true rfl⟩) rfl rfl rfl hl.1 rfl (Nat.le_of_ble_eq_true rfl) dL_law_488 ⟨Nat.le_of_ble_eq_true rfl, Nat.le_of_ble_eq_true rfl⟩ (fun H locs hW => ?_)
  refine lv_aload_n hx hb dL_law_491 rfl (lv_at hl 2 rfl) ?_
  refine lv_aload_n hx hb dL_law_492 rfl (lv_at hl 0 rfl) ?_
  refine lv_iload_n hx hb dL_law_493 rfl (lv_at hl 3 rfl) ?_
  refine lv_iconst (v := 1) hx hb dL_law_494 (by decide) ?_
  refine lv_iadd hx hb dL_law_495 ?_
  refine va_sld hx hb hX hbl hbA hW.S h1 dL_law_496 ?_
  refine h_Vi (r := r) (As := [.int (xs ((x3 + 1).toNatClampNeg))]) (rest := [.int r]) (ci := 11) (cq := (RX11, TX11, 34)) (q0 := 0) ⟨hx, hb, hml, hown, hts⟩ hSm hW.swap hM (cwV 1 hts gL_law_X11_likely rfl rfl rfl (by decide +kernel) ⟨Nat.le_of_ble_eq_true rfl, Nat.le_of_ble_eq_true rfl⟩) rfl rfl rfl hl.1 rfl (Nat.le_of_ble_eq_true rfl) dL_law_497 ⟨Nat.le_of_ble_eq_true rfl, Nat.le_of_ble_eq_true rfl⟩ (fun H locs hW => ?_)
  refine lv_icmp_eq (tgt := 683) hx hb dL_law_500 (by decide) (fun _ => ?_) (fun q => absurd rfl q)
  exact kk H locs ⟨_, _, _, _, _, _, _, _, _, _, _, _, _, _, _, _, _, _, _, _, _, _, _, _, _, _, _, _, _, _, _, _, _, _, _, _, _, _, _, _, _, _, _, _, _, _, _, _, _, _, _, _, _, _, _, _, _, _, _, _, _, _, _, _, _, _, _, _, I2, hW.swap⟩
set_option maxHeartbeats 4000000 in
set_option maxRecDepth 100000 in
theorem law_c17 {p : Program} {l : Launch} {e : Env} {s : State} {m : MethodId} {below : List Frame} {meth : Method} {c : Code} {D : va_G} {E : sE} {a : Nat → Nat} {cA : Nat → ClassId} {a' : Nat → Nat} {cB : Nat → ClassId} {b L : Nat} {xs : Nat → Int32} {t : Nat} {x3 : Int32} {H : Heap} {locs : List Loc} {ls : Array Slot} (C0 : lw_At p s m meth c b L xs) (hSg : gS D E (tG cA) (lZ s) s) (hSm : gS D E (tM cB) (lZ s) s) (h1 : vp_in (x3 + 1) L) (h2 : vp_in (x3 + 2) L) (h3 : vp_in (x3 + 3) L) (ht : t < 1000) (hW : LW D s a cA a' cB t H locs) (hl : lv_has ls 4 [(0, .ref b), (1, .ref (a 0)), (2, .ref (a' 0)), (3, .int x3)]) (kk : ∀ (H : Heap) (locs : List Loc), LW D s a cA a' cB (t + 1) H locs → W p l e room_1 s m #[Value.ref b] below meth c H locs 45 4118 (lw_Z below #[Value.ref b] s) (F0 m 683 ls [])) : W p l e room_1 s m #[Value.ref b] below meth c H locs 45 4118 (lw_Z below #[Value.ref b] s) (F0 m 505 ls []) := by
  obtain ⟨hx, hb, hr, hml, hown, hts0, hX, hbl, hlocks, hgv⟩ := C0
  have hts : ∀ w ∈ wsL_law, w.before #[Value.ref b] s = true := fun w h => hts0 w (wsL_law_in w h)
  have hown : s.vm.findClass RL = some m.cls := hown
  have hbA : ¬ lZ s b := Nat.not_le.mpr hbl
  obtain ⟨g_isCharted, g_isKept, g_hedgesRead, g_evensDone, g_plen, g_number, g_setCount, g_standing, g_turn, g_cuts, g_ssize, g_kstanding, g_kturn, g_kcuts, g_kssize, g_seed, g_whiteWon, g_cutsDone, g_lett, g_onB, g_abv, g_sets, g_kinds, g_sbranches, g_sbeginners, g_swon, g_kkinds, g_ksbranches, g_ksbeginners, g_kswon, g_lcuts, g_valu, g_won, g_chance, m_hedges, m_branches, m_stand, m_turn, m_cuts, m_asks, m_seen, m_pageLength, m_isWhole, m_newBranches, m_gameCuts, m_isKept, m_keptHedge, m_keptStand, m_keptTurn, m_keptCuts, m_keptSeen, m_seedNow, m_hsh, m_kindOf, m_onOf, m_seenBranch, m_seenBegins, m_seenWins, m_page, m_winner, m_lasting, m_worthBy, m_wonBy, m_keptKind, m_keptBranch, m_keptBegins, m_keptWins, m_partsBy, I, hW⟩ := hW
  by_cases z : xs ((x3 + 3).toNatClampNeg) = 0
  · skip
    obtain ⟨r, g_ssize2, g_sbranches2, g_sbeginners2, g_swon2, m_seen2, m_seenBranch2, m_seenBegins2, m_seenWins2, eg, em, I2⟩ := E_see I (xs ((x3 + 1).toNatClampNeg)) (xs ((x3 + 2).toNatClampNeg)) 0 (by decide)
    have hG : gMi l yX10_see wsX10_see rm_X10_see D E (tG cA) [.ref (a 0), .int (xs ((x3 + 1).toNatClampNeg)), .int (xs ((x3 + 2).toNatClampNeg)), .int 0] (wG a cA g_isCharted g_isKept g_hedgesRead g_evensDone g_plen g_number g_setCount g_standing g_turn g_cuts g_ssize g_kstanding g_kturn g_kcuts g_kssize g_seed g_whiteWon g_cutsDone g_lett g_onB g_abv g_sets g_kinds g_sbranches g_sbeginners g_swon g_kkinds g_ksbranches g_ksbeginners g_kswon g_lcuts g_valu g_won g_chance) (wG a cA g_isCharted g_isKept g_hedgesRead g_evensDone g_plen g_number g_setCount g_standing g_turn g_cuts g_ssize2 g_kstanding g_kturn g_kcuts g_kssize g_seed g_whiteWon g_cutsDone g_lett g_onB g_abv g_sets g_kinds g_sbranches2 g_sbeginners2 g_swon2 g_kkinds g_ksbranches g_ksbeginners g_kswon g_lcuts g_valu g_won g_chance) r := k_X10_see (xs ((x3 + 1).toNatClampNeg)) (xs ((x3 + 2).toNatClampNeg)) 0 (INV_hnm I) (INV_hsz I) _ eg.symm
    have hM : gMi l yX11_see wsX11_see rm_X11_see D E (tM cB) [.ref (a' 0), .int (xs ((x3 + 1).toNatClampNeg)), .int (xs ((x3 + 2).toNatClampNeg)), .int 0] (wM a' cB m_hedges m_branches m_stand m_turn m_cuts m_asks m_seen m_pageLength m_isWhole m_newBranches m_gameCuts m_isKept m_keptHedge m_keptStand m_keptTurn m_keptCuts m_keptSeen m_seedNow m_hsh m_kindOf m_onOf m_seenBranch m_seenBegins m_seenWins m_page m_winner m_lasting m_worthBy m_wonBy m_keptKind m_keptBranch m_keptBegins m_keptWins m_partsBy) (wM a' cB m_hedges m_branches m_stand m_turn m_cuts m_asks m_seen2 m_pageLength m_isWhole m_newBranches m_gameCuts m_isKept m_keptHedge m_keptStand m_keptTurn m_keptCuts m_keptSeen m_seedNow m_hsh m_kindOf m_onOf m_seenBranch2 m_seenBegins2 m_seenWins2 m_page m_winner m_lasting m_worthBy m_wonBy m_keptKind m_keptBranch m_keptBegins m_keptWins m_partsBy) r := k_X11_see (xs ((x3 + 1).toNatClampNeg)) (xs ((x3 + 2).toNatClampNeg)) 0 (INV_mbr I) (INV_mse I) _ em.symm
    clear eg em
    refine lv_aload_n hx hb dL_law_505 rfl (lv_at hl 1 rfl) ?_
    refine lv_aload_n hx hb dL_law_506 rfl (lv_at hl 0 rfl) ?_
    refine lv_iload_n hx hb dL_law_507 rfl (lv_at hl 3 rfl) ?_
    refine lv_iconst (v := 1) hx hb dL_law_508 (by decide) ?_
    refine lv_iadd hx hb dL_law_509 ?_
    refine va_sld hx hb hX hbl hbA hW.S h1 dL_law_510 ?_
    refine lv_aload_n hx hb dL_law_511 rfl (lv_at hl 0 rfl) ?_
    refine lv_iload_n hx hb dL_law_512 rfl (lv_at hl 3 rfl) ?_
    refine lv_iconst (v := 2) hx hb dL_law_513 (by decide) ?_
    refine lv_iadd hx hb dL_law_514 ?_
    refine va_sld hx hb hX hbl hbA hW.S h2 dL_law_515 ?_
    refine lv_aload_n hx hb dL_law_516 rfl (lv_at hl 0 rfl) ?_
    refine lv_iload_n hx hb dL_law_517 rfl (lv_at hl 3 rfl) ?_
    refine lv_iconst (v := 3) hx hb dL_law_518 (by decide) ?_
    refine lv_iadd hx hb dL_law_519 ?_
    refine va_sld hx hb hX hbl hbA hW.S h3 dL_law_520 ?_
    refine lv_if_eq (tgt := 528) hx hb dL_law_521 (by decide) (fun _ => ?_) (fun q => absurd z q)
    refine lv_iconst (v := 0) hx hb dL_law_528 (by decide) ?_
    refine h_Vi (r := r) (As := [.int (xs ((x3 + 1).toNatClampNeg)), .int (xs ((x3 + 2).toNatClampNeg)), .int 0]) (rest := []) (ci := 10) (cq := (RX10, TX10, 14)) (q0 := 0) ⟨hx, hb, hml, hown, hts⟩ hSg hW hG (cwV 3 hts gL_law_X10_see rfl rfl rfl (by decide +kernel) ⟨Nat.le_of_ble_eq_true rfl, Nat.le_of_ble_eq_true rfl⟩) rfl rfl rfl hl.1 rfl (Nat.le_of_ble_eq_true rfl) dL_law_529 ⟨Nat.le_of_ble_eq_true rfl, Nat.le_of_ble_eq_true rfl⟩ (fun H locs hW => ?_)
    refine lv_aload_n hx hb dL_law_532 rfl (lv_at hl 2 rfl) ?_
    refine lv_aload_n hx hb dL_law_533 rfl (lv_at hl 0 rfl) ?_
    refine lv_iload_n hx hb dL_law_534 rfl (lv_at hl 3 rfl) ?_
    refine lv_iconst (v := 1) hx hb dL_law_535 (by decide) ?_
    refine lv_iadd hx hb dL_law_536 ?_
    refine va_sld hx hb hX hbl hbA hW.S h1 dL_law_537 ?_
    refine lv_aload_n hx hb dL_law_538 rfl (lv_at hl 0 rfl) ?_
    refine lv_iload_n hx hb dL_law_539 rfl (lv_at hl 3 rfl) ?_
    refine lv_iconst (v := 2) hx hb dL_law_540 (by decide) ?_
    refine lv_iadd hx hb dL_law_541 ?_
    refine va_sld hx hb hX hbl hbA hW.S h2 dL_law_542 ?_
    refine lv_aload_n hx hb dL_law_543 rfl (lv_at hl 0 rfl) ?_
    refine lv_iload_n hx hb dL_law_544 rfl (lv_at hl 3 rfl) ?_
    refine lv_iconst (v := 3) hx hb dL_law_545 (by decide) ?_
    refine lv_iadd hx hb dL_law_546 ?_
    refine va_sld hx hb hX hbl hbA hW.S h3 dL_law_547 ?_
    refine lv_if_eq (tgt := 555) hx hb dL_law_548 (by decide) (fun _ => ?_) (fun q => absurd z q)
    refine lv_iconst (v := 0) hx hb dL_law_555 (by decide) ?_
    refine h_Vi (r := r) (As := [.int (xs ((x3 + 1).toNatClampNeg)), .int (xs ((x3 + 2).toNatClampNeg)), .int 0]) (rest := [.int r]) (ci := 11) (cq := (RX11, TX11, 34)) (q0 := 0) ⟨hx, hb, hml, hown, hts⟩ hSm hW.swap hM (cwV 3 hts gL_law_X11_see rfl rfl rfl (by decide +kernel) ⟨Nat.le_of_ble_eq_true rfl, Nat.le_of_ble_eq_true rfl⟩) rfl rfl rfl hl.1 rfl (Nat.le_of_ble_eq_true rfl) dL_law_556 ⟨Nat.le_of_ble_eq_true rfl, Nat.le_of_ble_eq_true rfl⟩ (fun H locs hW => ?_)
    refine lv_icmp_eq (tgt := 683) hx hb dL_law_559 (by decide) (fun _ => ?_) (fun q => absurd rfl q)
    exact kk H locs ⟨_, _, _, _, _, _, _, _, _, _, _, _, _, _, _, _, _, _, _, _, _, _, _, _, _, _, _, _, _, _, _, _, _, _, _, _, _, _, _, _, _, _, _, _, _, _, _, _, _, _, _, _, _, _, _, _, _, _, _, _, _, _, _, _, _, _, _, _, I2, hW.swap⟩
  · skip
    obtain ⟨r, g_ssize2, g_sbranches2, g_sbeginners2, g_swon2, m_seen2, m_seenBranch2, m_seenBegins2, m_seenWins2, eg, em, I2⟩ := E_see I (xs ((x3 + 1).toNatClampNeg)) (xs ((x3 + 2).toNatClampNeg)) 1 (by decide)
    have hG : gMi l yX10_see wsX10_see rm_X10_see D E (tG cA) [.ref (a 0), .int (xs ((x3 + 1).toNatClampNeg)), .int (xs ((x3 + 2).toNatClampNeg)), .int 1] (wG a cA g_isCharted g_isKept g_hedgesRead g_evensDone g_plen g_number g_setCount g_standing g_turn g_cuts g_ssize g_kstanding g_kturn g_kcuts g_kssize g_seed g_whiteWon g_cutsDone g_lett g_onB g_abv g_sets g_kinds g_sbranches g_sbeginners g_swon g_kkinds g_ksbranches g_ksbeginners g_kswon g_lcuts g_valu g_won g_chance) (wG a cA g_isCharted g_isKept g_hedgesRead g_evensDone g_plen g_number g_setCount g_standing g_turn g_cuts g_ssize2 g_kstanding g_kturn g_kcuts g_kssize g_seed g_whiteWon g_cutsDone g_lett g_onB g_abv g_sets g_kinds g_sbranches2 g_sbeginners2 g_swon2 g_kkinds g_ksbranches g_ksbeginners g_kswon g_lcuts g_valu g_won g_chance) r := k_X10_see (xs ((x3 + 1).toNatClampNeg)) (xs ((x3 + 2).toNatClampNeg)) 1 (INV_hnm I) (INV_hsz I) _ eg.symm
    have hM : gMi l yX11_see wsX11_see rm_X11_see D E (tM cB) [.ref (a' 0), .int (xs ((x3 + 1).toNatClampNeg)), .int (xs ((x3 + 2).toNatClampNeg)), .int 1] (wM a' cB m_hedges m_branches m_stand m_turn m_cuts m_asks m_seen m_pageLength m_isWhole m_newBranches m_gameCuts m_isKept m_keptHedge m_keptStand m_keptTurn m_keptCuts m_keptSeen m_seedNow m_hsh m_kindOf m_onOf m_seenBranch m_seenBegins m_seenWins m_page m_winner m_lasting m_worthBy m_wonBy m_keptKind m_keptBranch m_keptBegins m_keptWins m_partsBy) (wM a' cB m_hedges m_branches m_stand m_turn m_cuts m_asks m_seen2 m_pageLength m_isWhole m_newBranches m_gameCuts m_isKept m_keptHedge m_keptStand m_keptTurn m_keptCuts m_keptSeen m_seedNow m_hsh m_kindOf m_onOf m_seenBranch2 m_seenBegins2 m_seenWins2 m_page m_winner m_lasting m_worthBy m_wonBy m_keptKind m_keptBranch m_keptBegins m_keptWins m_partsBy) r := k_X11_see (xs ((x3 + 1).toNatClampNeg)) (xs ((x3 + 2).toNatClampNeg)) 1 (INV_mbr I) (INV_mse I) _ em.symm
    clear eg em
    refine lv_aload_n hx hb dL_law_505 rfl (lv_at hl 1 rfl) ?_
    refine lv_aload_n hx hb dL_law_506 rfl (lv_at hl 0 rfl) ?_
    refine lv_iload_n hx hb dL_law_507 rfl (lv_at hl 3 rfl) ?_
    refine lv_iconst (v := 1) hx hb dL_law_508 (by decide) ?_
    refine lv_iadd hx hb dL_law_509 ?_
    refine va_sld hx hb hX hbl hbA hW.S h1 dL_law_510 ?_
    refine lv_aload_n hx hb dL_law_511 rfl (lv_at hl 0 rfl) ?_
    refine lv_iload_n hx hb dL_law_512 rfl (lv_at hl 3 rfl) ?_
    refine lv_iconst (v := 2) hx hb dL_law_513 (by decide) ?_
    refine lv_iadd hx hb dL_law_514 ?_
    refine va_sld hx hb hX hbl hbA hW.S h2 dL_law_515 ?_
    refine lv_aload_n hx hb dL_law_516 rfl (lv_at hl 0 rfl) ?_
    refine lv_iload_n hx hb dL_law_517 rfl (lv_at hl 3 rfl) ?_
    refine lv_iconst (v := 3) hx hb dL_law_518 (by decide) ?_
    refine lv_iadd hx hb dL_law_519 ?_
    refine va_sld hx hb hX hbl hbA hW.S h3 dL_law_520 ?_
    refine lv_if_eq (tgt := 528) hx hb dL_law_521 (by decide) (fun q => absurd q z) (fun _ => ?_)
    refine lv_iconst (v := 1) hx hb dL_law_524 (by decide) ?_
    refine lv_goto (tgt := 529) hx hb dL_law_525 (by decide) ?_
    refine h_Vi (r := r) (As := [.int (xs ((x3 + 1).toNatClampNeg)), .int (xs ((x3 + 2).toNatClampNeg)), .int 1]) (rest := []) (ci := 10) (cq := (RX10, TX10, 14)) (q0 := 0) ⟨hx, hb, hml, hown, hts⟩ hSg hW hG (cwV 3 hts gL_law_X10_see rfl rfl rfl (by decide +kernel) ⟨Nat.le_of_ble_eq_true rfl, Nat.le_of_ble_eq_true rfl⟩) rfl rfl rfl hl.1 rfl (Nat.le_of_ble_eq_true rfl) dL_law_529 ⟨Nat.le_of_ble_eq_true rfl, Nat.le_of_ble_eq_true rfl⟩ (fun H locs hW => ?_)
    refine lv_aload_n hx hb dL_law_532 rfl (lv_at hl 2 rfl) ?_
    refine lv_aload_n hx hb dL_law_533 rfl (lv_at hl 0 rfl) ?_
    refine lv_iload_n hx hb dL_law_534 rfl (lv_at hl 3 rfl) ?_
    refine lv_iconst (v := 1) hx hb dL_law_535 (by decide) ?_
    refine lv_iadd hx hb dL_law_536 ?_
    refine va_sld hx hb hX hbl hbA hW.S h1 dL_law_537 ?_
    refine lv_aload_n hx hb dL_law_538 rfl (lv_at hl 0 rfl) ?_
    refine lv_iload_n hx hb dL_law_539 rfl (lv_at hl 3 rfl) ?_
    refine lv_iconst (v := 2) hx hb dL_law_540 (by decide) ?_
    refine lv_iadd hx hb dL_law_541 ?_
    refine va_sld hx hb hX hbl hbA hW.S h2 dL_law_542 ?_
    refine lv_aload_n hx hb dL_law_543 rfl (lv_at hl 0 rfl) ?_
    refine lv_iload_n hx hb dL_law_544 rfl (lv_at hl 3 rfl) ?_
    refine lv_iconst (v := 3) hx hb dL_law_545 (by decide) ?_
    refine lv_iadd hx hb dL_law_546 ?_
    refine va_sld hx hb hX hbl hbA hW.S h3 dL_law_547 ?_
    refine lv_if_eq (tgt := 555) hx hb dL_law_548 (by decide) (fun q => absurd q z) (fun _ => ?_)
    refine lv_iconst (v := 1) hx hb dL_law_551 (by decide) ?_
    refine lv_goto (tgt := 556) hx hb dL_law_552 (by decide) ?_
    refine h_Vi (r := r) (As := [.int (xs ((x3 + 1).toNatClampNeg)), .int (xs ((x3 + 2).toNatClampNeg)), .int 1]) (rest := [.int r]) (ci := 11) (cq := (RX11, TX11, 34)) (q0 := 0) ⟨hx, hb, hml, hown, hts⟩ hSm hW.swap hM (cwV 3 hts gL_law_X11_see rfl rfl rfl (by decide +kernel) ⟨Nat.le_of_ble_eq_true rfl, Nat.le_of_ble_eq_true rfl⟩) rfl rfl rfl hl.1 rfl (Nat.le_of_ble_eq_true rfl) dL_law_556 ⟨Nat.le_of_ble_eq_true rfl, Nat.le_of_ble_eq_true rfl⟩ (fun H locs hW => ?_)
    refine lv_icmp_eq (tgt := 683) hx hb dL_law_559 (by decide) (fun _ => ?_) (fun q => absurd rfl q)
    exact kk H locs ⟨_, _, _, _, _, _, _, _, _, _, _, _, _, _, _, _, _, _, _, _, _, _, _, _, _, _, _, _, _, _, _, _, _, _, _, _, _, _, _, _, _, _, _, _, _, _, _, _, _, _, _, _, _, _, _, _, _, _, _, _, _, _, _, _, _, _, _, _, I2, hW.swap⟩
