set_option maxHeartbeats 4000000 in
set_option maxRecDepth 100000 in
theorem law_loop {p : Program} {l : Launch} {e : Env} {s : State} {m : MethodId} {below : List Frame} {meth : Method} {c : Code} {D : va_G} {E : sE} {a : Nat → Nat} {cA : Nat → ClassId} {a' : Nat → Nat} {cB : Nat → ClassId} {b L : Nat} {xs : Nat → Int32} (hL : L ≤ 2048) (C0 : lw_At p s m meth c b L xs) (hSg : gS D E (tG cA) (lZ s) s) (hSm : gS D E (tM cB) (lZ s) s) : ∀ (n t : Nat), L + 1 ≤ 4 * t + n → 4 * t ≤ L → ∀ (H : Heap) (locs : List Loc) (ls : Array Slot), LW D s a cA a' cB t H locs → lv_has ls 4 [(0, .ref b), (1, .ref (a 0)), (2, .ref (a' 0)), (3, .int (nI (4 * t)))] → W p l e room_1 s m #[Value.ref b] below meth c H locs 45 4118 (lw_Z below #[Value.ref b] s) (F0 m 18 ls []) := by
  obtain ⟨hx, hb, hr, hml, hown, hts0, hX, hbl, hlocks, hgv⟩ := id C0
  have hbA : ¬ lZ s b := Nat.not_le.mpr hbl
  intro n
  induction n with
  | zero =>
    intro t h1 h2
    exact absurd h1 (by omega)
  | succ n ih =>
    intro t hn htL H locs ls hW hl
    have hS : va_S (lZ s) s.heap H locs := by
      obtain ⟨g_isCharted, g_isKept, g_hedgesRead, g_evensDone, g_plen, g_number, g_setCount, g_standing, g_turn, g_cuts, g_ssize, g_kstanding, g_kturn, g_kcuts, g_kssize, g_seed, g_whiteWon, g_cutsDone, g_lett, g_onB, g_abv, g_sets, g_kinds, g_sbranches, g_sbeginners, g_swon, g_kkinds, g_ksbranches, g_ksbeginners, g_kswon, g_lcuts, g_valu, g_won, g_chance, m_hedges, m_branches, m_stand, m_turn, m_cuts, m_asks, m_seen, m_pageLength, m_isWhole, m_newBranches, m_gameCuts, m_isKept, m_keptHedge, m_keptStand, m_keptTurn, m_keptCuts, m_keptSeen, m_seedNow, m_hsh, m_kindOf, m_onOf, m_seenBranch, m_seenBegins, m_seenWins, m_page, m_winner, m_lasting, m_worthBy, m_wonBy, m_keptKind, m_keptBranch, m_keptBegins, m_keptWins, m_partsBy, -, q⟩ := hW
      exact q.S
    refine lv_iload_n hx hb dL_law_18 rfl (lv_at hl 3 rfl) ?_
    refine lv_aload_n hx hb dL_law_19 rfl (lv_at hl 0 rfl) ?_
    refine va_slen hx hb hX hbl hbA hS dL_law_20 ?_
    refine lv_iconst (v := 4) hx hb dL_law_21 (by decide) ?_
    refine lv_isub hx hb dL_law_22 ?_
    have tL : (Int32.ofNat L).toInt = (L : Int) := nI_toInt (n := L) (by omega)
    have t4 : (4 : Int32).toInt = 4 := rfl
    have e4 : (Int32.ofNat L - 4).toInt = (L : Int) - 4 := by rw [i_sub (by omega) (by omega), tL, t4]
    have ei : (nI (4 * t)).toInt = ((4 * t : Nat) : Int) := nI_toInt (by omega)
    refine lv_icmp_gt (tgt := 689) hx hb dL_law_23 (by decide) (fun q => ?_) (fun q => ?_)
    · refine lv_iconst (v := 1) hx hb dL_law_689 (by decide) ?_
      refine va_forget (fun q hq => hS.2.2 q hq) ?_
      exact lw_ret hx hb hr hlocks dL_law_690
    · have hlt : 4 * t + 4 ≤ L := by
        have := i_nlt q
        omega
      have h0 : vp_in (nI (4 * t)) L := vp_in_nI (by omega) (by omega)
      have h1 : vp_in (nI (4 * t) + 1) L := by rw [nI_1]; exact vp_in_nI (by omega) (by omega)
      have h2 : vp_in (nI (4 * t) + 2) L := by rw [show (2 : Int32) = nI 2 from rfl, nI_add]; exact vp_in_nI (by omega) (by omega)
      have h3 : vp_in (nI (4 * t) + 3) L := by rw [show (3 : Int32) = nI 3 from rfl, nI_add]; exact vp_in_nI (by omega) (by omega)
      have kk : ∀ (H : Heap) (locs : List Loc), LW D s a cA a' cB (t + 1) H locs → W p l e room_1 s m #[Value.ref b] below meth c H locs 45 4118 (lw_Z below #[Value.ref b] s) (F0 m 683 ls []) := by
        intro H locs hW
        refine lv_iinc (v := nI (4 * (t + 1))) (lv' := [(3, .int (nI (4 * (t + 1)))), (0, .ref b), (1, .ref (a 0)), (2, .ref (a' 0))]) hx hb dL_law_683 hl (k := 3) rfl (show nI (4 * t) + nI 4 = _ by rw [nI_add]; rfl) (by decide) rfl (fun ls hl => ?_)
        refine lv_goto (tgt := 18) hx hb dL_law_686 (by decide) ?_
        exact ih (t + 1) (by omega) (by omega) H locs ls hW (lv_sub hl [1, 2, 3, 0] rfl)
      refine lv_aload_n hx hb dL_law_26 rfl (lv_at hl 0 rfl) ?_
      refine lv_iload_n hx hb dL_law_27 rfl (lv_at hl 3 rfl) ?_
      refine va_sld hx hb hX hbl hbA hS h0 dL_law_28 ?_
      refine lv_bipush (v := 31) hx hb dL_law_29 (by decide) ?_
      refine lv_iand hx hb dL_law_31 ?_
      refine lv_topi (fun v ev => ?_)
      have hv : 0 ≤ v.toInt ∧ v.toInt ≤ 31 := by
        rw [ev, Int32.and_comm]
        exact i_and (x := 31) (by decide)
      by_cases h23 : 23 < v.toInt
      · exact lv_tableOut (tgt := 683) hx hb dL_law_32 (Or.inr h23) (by decide) (kk H locs (LW_t hW))
      · have ht : t < 1000 := by omega
        have hz : ¬ v.toInt < 0 := by omega
        obtain ⟨j, hj⟩ : ∃ j : Nat, v.toInt = (j : Int) := ⟨v.toInt.toNat, by omega⟩
        have hj2 : j < 24 := by omega
        rcases (show j = 0 ∨ j = 1 ∨ j = 2 ∨ j = 3 ∨ j = 4 ∨ j = 5 ∨ j = 6 ∨ j = 7 ∨ j = 8 ∨ j = 9 ∨ j = 10 ∨ j = 11 ∨ j = 12 ∨ j = 13 ∨ j = 14 ∨ j = 15 ∨ j = 16 ∨ j = 17 ∨ j = 18 ∨ j = 19 ∨ j = 20 ∨ j = 21 ∨ j = 22 ∨ j = 23 by omega) with rfl | rfl | rfl | rfl | rfl | rfl | rfl | rfl | rfl | rfl | rfl | rfl | rfl | rfl | rfl | rfl | rfl | rfl | rfl | rfl | rfl | rfl | rfl | rfl
        · exact lv_tableIn (off := 112) (tgt := 144) hx hb dL_law_32 hz h23 (by rw [hj]; first | rfl | decide) (by decide) (law_c0 C0 hSg hSm h1 h2 h3 ht hW hl kk)
        · exact lv_tableIn (off := 135) (tgt := 167) hx hb dL_law_32 hz h23 (by rw [hj]; first | rfl | decide) (by decide) (law_c1 C0 hSg hSm h1 h2 h3 ht hW hl kk)
        · exact lv_tableIn (off := 148) (tgt := 180) hx hb dL_law_32 hz h23 (by rw [hj]; first | rfl | decide) (by decide) (law_c2 C0 hSg hSm h1 h2 h3 ht hW hl kk)
        · exact lv_tableIn (off := 161) (tgt := 193) hx hb dL_law_32 hz h23 (by rw [hj]; first | rfl | decide) (by decide) (law_c3 C0 hSg hSm h1 h2 h3 ht hW hl kk)
        · exact lv_tableIn (off := 174) (tgt := 206) hx hb dL_law_32 hz h23 (by rw [hj]; first | rfl | decide) (by decide) (law_c4 C0 hSg hSm h1 h2 h3 ht hW hl kk)
        · exact lv_tableIn (off := 207) (tgt := 239) hx hb dL_law_32 hz h23 (by rw [hj]; first | rfl | decide) (by decide) (law_c5 C0 hSg hSm h1 h2 h3 ht hW hl kk)
        · exact lv_tableIn (off := 240) (tgt := 272) hx hb dL_law_32 hz h23 (by rw [hj]; first | rfl | decide) (by decide) (law_c6 C0 hSg hSm h1 h2 h3 ht hW hl kk)
        · exact lv_tableIn (off := 263) (tgt := 295) hx hb dL_law_32 hz h23 (by rw [hj]; first | rfl | decide) (by decide) (law_c7 C0 hSg hSm h1 h2 h3 ht hW hl kk)
        · exact lv_tableIn (off := 286) (tgt := 318) hx hb dL_law_32 hz h23 (by rw [hj]; first | rfl | decide) (by decide) (law_c8 C0 hSg hSm h1 h2 h3 ht hW hl kk)
        · exact lv_tableIn (off := 299) (tgt := 331) hx hb dL_law_32 hz h23 (by rw [hj]; first | rfl | decide) (by decide) (law_c9 C0 hSg hSm h1 h2 h3 ht hW hl kk)
        · exact lv_tableIn (off := 332) (tgt := 364) hx hb dL_law_32 hz h23 (by rw [hj]; first | rfl | decide) (by decide) (law_c10 C0 hSg hSm h1 h2 h3 ht hW hl kk)
        · exact lv_tableIn (off := 355) (tgt := 387) hx hb dL_law_32 hz h23 (by rw [hj]; first | rfl | decide) (by decide) (law_c11 C0 hSg hSm h1 h2 h3 ht hW hl kk)
        · exact lv_tableIn (off := 378) (tgt := 410) hx hb dL_law_32 hz h23 (by rw [hj]; first | rfl | decide) (by decide) (law_c12 C0 hSg hSm h1 h2 h3 ht hW hl kk)
        · exact lv_tableIn (off := 401) (tgt := 433) hx hb dL_law_32 hz h23 (by rw [hj]; first | rfl | decide) (by decide) (law_c13 C0 hSg hSm h1 h2 h3 ht hW hl kk)
        · exact lv_tableIn (off := 414) (tgt := 446) hx hb dL_law_32 hz h23 (by rw [hj]; first | rfl | decide) (by decide) (law_c14 C0 hSg hSm h1 h2 h3 ht hW hl kk)
        · exact lv_tableIn (off := 437) (tgt := 469) hx hb dL_law_32 hz h23 (by rw [hj]; first | rfl | decide) (by decide) (law_c15 C0 hSg hSm h1 h2 h3 ht hW hl kk)
        · exact lv_tableIn (off := 450) (tgt := 482) hx hb dL_law_32 hz h23 (by rw [hj]; first | rfl | decide) (by decide) (law_c16 C0 hSg hSm h1 h2 h3 ht hW hl kk)
        · exact lv_tableIn (off := 473) (tgt := 505) hx hb dL_law_32 hz h23 (by rw [hj]; first | rfl | decide) (by decide) (law_c17 C0 hSg hSm h1 h2 h3 ht hW hl kk)
        · exact lv_tableIn (off := 532) (tgt := 564) hx hb dL_law_32 hz h23 (by rw [hj]; first | rfl | decide) (by decide) (law_c18 C0 hSg hSm h1 h2 h3 ht hW hl kk)
        · exact lv_tableIn (off := 545) (tgt := 577) hx hb dL_law_32 hz h23 (by rw [hj]; first | rfl | decide) (by decide) (law_c19 C0 hSg hSm h1 h2 h3 ht hW hl kk)
        · exact lv_tableIn (off := 588) (tgt := 620) hx hb dL_law_32 hz h23 (by rw [hj]; first | rfl | decide) (by decide) (law_c20 C0 hSg hSm h1 h2 h3 ht hW hl kk)
        · exact lv_tableIn (off := 601) (tgt := 633) hx hb dL_law_32 hz h23 (by rw [hj]; first | rfl | decide) (by decide) (law_c21 C0 hSg hSm h1 h2 h3 ht hW hl kk)
        · exact lv_tableIn (off := 614) (tgt := 646) hx hb dL_law_32 hz h23 (by rw [hj]; first | rfl | decide) (by decide) (law_c22 C0 hSg hSm h1 h2 h3 ht hW hl kk)
        · exact lv_tableIn (off := 637) (tgt := 669) hx hb dL_law_32 hz h23 (by rw [hj]; first | rfl | decide) (by decide) (law_c23 C0 hSg hSm h1 h2 h3 ht hW hl kk)
