/-! both answer alike: what a branch tells -/
theorem bit_01 (x : Int32) {b : Nat} (h : b < 32) : ((x >>> (nI b &&& 31)) &&& (1 : Int32)) = 0 ∨ ((x >>> (nI b &&& 31)) &&& (1 : Int32)) = 1 := by
  rw [bit_eq x h]
  cases bt x b
  · exact Or.inl rfl
  · exact Or.inr rfl
theorem br_0 {N A M s : Nat} {ic : Int32} {O K abv sets lc va sb sg sw T wb : Nat → Int32} {won chn : Nat → Int64} (I1 : CH1 N A M ic O K abv sets lc va won chn) (hs : seenOK s sg sw) {b : Nat} (hb : b < N) : ∃ r ic2 lc2 va2 won2 chn2 T2 wb2, f_X10_branch ic (nI N) (nI M) (nI A) (nI s) O abv sets K sb sg sw lc va won chn (nI b) (nI 0) = (r, ic2, lc2, va2, won2, chn2) ∧ f_X11_branchNow (nI N) (nI A) (nI s) K O sb sg sw T wb (nI b) (nI 0) = (r, K, T2, wb2) ∧ CH1 N A M ic2 O K abv sets lc2 va2 won2 chn2 := by
  obtain ⟨hN, ho, hK, ha, hsO, hM, hse, hA, hst, hic⟩ := id I1
  have u := (unk_0 hN).mpr ⟨b, hb, rfl⟩
  refine ⟨K b, ic, lc, va, won, chn, T, wb, ?_, ?_, I1⟩
  · rw [f_X10_branch_s, if_pos u, if_pos (show nI 0 = (0 : Int32) from rfl), nI_clamp (by omega : b < 2 ^ 31)]
  · rw [f_X11_branchNow_s, if_pos (show nI 0 = (0 : Int32) from rfl), nI_clamp (by omega : b < 2 ^ 31)]
theorem br_1 {N A M s : Nat} {ic : Int32} {O K abv sets lc va sb sg sw T wb : Nat → Int32} {won chn : Nat → Int64} (I1 : CH1 N A M ic O K abv sets lc va won chn) (hs : seenOK s sg sw) {b : Nat} (hb : b < N) : ∃ r ic2 lc2 va2 won2 chn2 T2 wb2, f_X10_branch ic (nI N) (nI M) (nI A) (nI s) O abv sets K sb sg sw lc va won chn (nI b) (nI 1) = (r, ic2, lc2, va2, won2, chn2) ∧ f_X11_branchNow (nI N) (nI A) (nI s) K O sb sg sw T wb (nI b) (nI 1) = (r, K, T2, wb2) ∧ CH1 N A M ic2 O K abv sets lc2 va2 won2 chn2 := by
  obtain ⟨hN, ho, hK, ha, hsO, hM, hse, hA, hst, hic⟩ := id I1
  have u := (unk_0 hN).mpr ⟨b, hb, rfl⟩
  refine ⟨O b, ic, lc, va, won, chn, T, wb, ?_, ?_, I1⟩
  · rw [f_X10_branch_s, if_pos u, if_neg (show ¬ nI 1 = (0 : Int32) by decide), if_pos (show nI 1 = (1 : Int32) from rfl), nI_clamp (by omega : b < 2 ^ 31)]
  · rw [f_X11_branchNow_s, if_neg (show ¬ nI 1 = (0 : Int32) by decide), if_pos (show nI 1 = (1 : Int32) from rfl), nI_clamp (by omega : b < 2 ^ 31)]
theorem br_2 {N A M s : Nat} {ic : Int32} {O K abv sets lc va sb sg sw T wb : Nat → Int32} {won chn : Nat → Int64} (I1 : CH1 N A M ic O K abv sets lc va won chn) (hs : seenOK s sg sw) {b : Nat} (hb : b < N) : ∃ r ic2 lc2 va2 won2 chn2 T2 wb2, f_X10_branch ic (nI N) (nI M) (nI A) (nI s) O abv sets K sb sg sw lc va won chn (nI b) (nI 2) = (r, ic2, lc2, va2, won2, chn2) ∧ f_X11_branchNow (nI N) (nI A) (nI s) K O sb sg sw T wb (nI b) (nI 2) = (r, K, T2, wb2) ∧ CH1 N A M ic2 O K abv sets lc2 va2 won2 chn2 := by
  obtain ⟨hN, ho, hK, ha, hsO, hM, hse, hA, hst, hic⟩ := id I1
  have u := (unk_0 hN).mpr ⟨b, hb, rfl⟩
  refine ⟨(nI A >>> (nI b &&& 31)) &&& (1 : Int32), ic, lc, va, won, chn, T, wb, ?_, ?_, I1⟩
  · rw [f_X10_branch_s, if_pos u, if_neg (show ¬ nI 2 = (0 : Int32) by decide), if_neg (show ¬ nI 2 = (1 : Int32) by decide), if_pos (show nI 2 = (2 : Int32) from rfl)]
  · rw [f_X11_branchNow_s, if_neg (show ¬ nI 2 = (0 : Int32) by decide), if_neg (show ¬ nI 2 = (1 : Int32) by decide), if_pos (show nI 2 = (2 : Int32) from rfl), bit_eq _ (by omega), isIn_eq _ (by omega)]
    cases bt (nI A) b <;> rfl
theorem br_3 {N A M s : Nat} {ic : Int32} {O K abv sets lc va sb sg sw T wb : Nat → Int32} {won chn : Nat → Int64} (I1 : CH1 N A M ic O K abv sets lc va won chn) (hs : seenOK s sg sw) {b : Nat} (hb : b < N) : ∃ r ic2 lc2 va2 won2 chn2 T2 wb2, f_X10_branch ic (nI N) (nI M) (nI A) (nI s) O abv sets K sb sg sw lc va won chn (nI b) (nI 3) = (r, ic2, lc2, va2, won2, chn2) ∧ f_X11_branchNow (nI N) (nI A) (nI s) K O sb sg sw T wb (nI b) (nI 3) = (r, K, T2, wb2) ∧ CH1 N A M ic2 O K abv sets lc2 va2 won2 chn2 := by
  obtain ⟨hN, ho, hK, ha, hsO, hM, hse, hA, hst, hic⟩ := id I1
  have u := (unk_0 hN).mpr ⟨b, hb, rfl⟩
  refine ⟨(f_X6_choices (nI N) abv K (nI 0) (nI A) >>> (nI b &&& 31)) &&& (1 : Int32), ic, lc, va, won, chn, T, wb, ?_, ?_, I1⟩
  · rw [f_X10_branch_s, if_pos u, if_neg (show ¬ nI 3 = (0 : Int32) by decide), if_neg (show ¬ nI 3 = (1 : Int32) by decide), if_neg (show ¬ nI 3 = (2 : Int32) by decide), if_pos (show nI 3 = (3 : Int32) from rfl)]
    rfl
  · rw [f_X11_branchNow_s, if_neg (show ¬ nI 3 = (0 : Int32) by decide), if_neg (show ¬ nI 3 = (1 : Int32) by decide), if_neg (show ¬ nI 3 = (2 : Int32) by decide), if_pos (show nI 3 = (3 : Int32) from rfl)]
    have k := ch_mC hN ho ha hK (w := 0) (by omega) hst b hb
    show (if f_X11_mayCut (nI N) K O (nI 0) (nI b) (nI A) = 0 then ((0 : Int32), K, T, wb) else ((1 : Int32), K, T, wb)) = _
    by_cases c : f_X11_mayCut (nI N) K O (nI 0) (nI b) (nI A) = 0
    · rw [if_pos c, k.mpr (fun z => z c)]
    · rw [if_neg c, (bit_01 _ (by omega)).resolve_left (fun z => k.mp z c)]
theorem br_4 {N A M s : Nat} {ic : Int32} {O K abv sets lc va sb sg sw T wb : Nat → Int32} {won chn : Nat → Int64} (I1 : CH1 N A M ic O K abv sets lc va won chn) (hs : seenOK s sg sw) {b : Nat} (hb : b < N) : ∃ r ic2 lc2 va2 won2 chn2 T2 wb2, f_X10_branch ic (nI N) (nI M) (nI A) (nI s) O abv sets K sb sg sw lc va won chn (nI b) (nI 4) = (r, ic2, lc2, va2, won2, chn2) ∧ f_X11_branchNow (nI N) (nI A) (nI s) K O sb sg sw T wb (nI b) (nI 4) = (r, K, T2, wb2) ∧ CH1 N A M ic2 O K abv sets lc2 va2 won2 chn2 := by
  obtain ⟨hN, ho, hK, ha, hsO, hM, hse, hA, hst, hic⟩ := id I1
  have u := (unk_0 hN).mpr ⟨b, hb, rfl⟩
  refine ⟨(f_X6_choices (nI N) abv K (nI 1) (nI A) >>> (nI b &&& 31)) &&& (1 : Int32), ic, lc, va, won, chn, T, wb, ?_, ?_, I1⟩
  · rw [f_X10_branch_s, if_pos u, if_neg (show ¬ nI 4 = (0 : Int32) by decide), if_neg (show ¬ nI 4 = (1 : Int32) by decide), if_neg (show ¬ nI 4 = (2 : Int32) by decide), if_neg (show ¬ nI 4 = (3 : Int32) by decide), if_pos (show nI 4 = (4 : Int32) from rfl)]
    rfl
  · rw [f_X11_branchNow_s, if_neg (show ¬ nI 4 = (0 : Int32) by decide), if_neg (show ¬ nI 4 = (1 : Int32) by decide), if_neg (show ¬ nI 4 = (2 : Int32) by decide), if_neg (show ¬ nI 4 = (3 : Int32) by decide), if_pos (show nI 4 = (4 : Int32) from rfl)]
    have k := ch_mC hN ho ha hK (w := 1) (by omega) hst b hb
    show (if f_X11_mayCut (nI N) K O (nI 1) (nI b) (nI A) = 0 then ((0 : Int32), K, T, wb) else ((1 : Int32), K, T, wb)) = _
    by_cases c : f_X11_mayCut (nI N) K O (nI 1) (nI b) (nI A) = 0
    · rw [if_pos c, k.mpr (fun z => z c)]
    · rw [if_neg c, (bit_01 _ (by omega)).resolve_left (fun z => k.mp z c)]
theorem br_5 {N A M s : Nat} {ic : Int32} {O K abv sets lc va sb sg sw T wb : Nat → Int32} {won chn : Nat → Int64} (I1 : CH1 N A M ic O K abv sets lc va won chn) (hs : seenOK s sg sw) {b : Nat} (hb : b < N) : ∃ r ic2 lc2 va2 won2 chn2 T2 wb2, f_X10_branch ic (nI N) (nI M) (nI A) (nI s) O abv sets K sb sg sw lc va won chn (nI b) (nI 5) = (r, ic2, lc2, va2, won2, chn2) ∧ f_X11_branchNow (nI N) (nI A) (nI s) K O sb sg sw T wb (nI b) (nI 5) = (r, K, T2, wb2) ∧ CH1 N A M ic2 O K abv sets lc2 va2 won2 chn2 := by
  obtain ⟨hN, ho, hK, ha, hsO, hM, hse, hA, hst, hic⟩ := id I1
  have u := (unk_0 hN).mpr ⟨b, hb, rfl⟩
  refine ⟨AB N O b, ic, lc, va, won, chn, T, wb, ?_, ?_, I1⟩
  · rw [f_X10_branch_s, if_pos u, if_neg (show ¬ nI 5 = (0 : Int32) by decide), if_neg (show ¬ nI 5 = (1 : Int32) by decide), if_neg (show ¬ nI 5 = (2 : Int32) by decide), if_neg (show ¬ nI 5 = (3 : Int32) by decide), if_neg (show ¬ nI 5 = (4 : Int32) by decide), if_pos (show nI 5 = (5 : Int32) from rfl), nI_clamp (by omega : b < 2 ^ 31), ha b hb]
  · rw [f_X11_branchNow_s, if_neg (show ¬ nI 5 = (0 : Int32) by decide), if_neg (show ¬ nI 5 = (1 : Int32) by decide), if_neg (show ¬ nI 5 = (2 : Int32) by decide), if_neg (show ¬ nI 5 = (3 : Int32) by decide), if_neg (show ¬ nI 5 = (4 : Int32) by decide), if_pos (show nI 5 = (5 : Int32) from rfl)]
    rfl
theorem br_6 {N A M s : Nat} {ic : Int32} {O K abv sets lc va sb sg sw T wb : Nat → Int32} {won chn : Nat → Int64} (I1 : CH1 N A M ic O K abv sets lc va won chn) (hs : seenOK s sg sw) {b : Nat} (hb : b < N) : ∃ r ic2 lc2 va2 won2 chn2 T2 wb2, f_X10_branch ic (nI N) (nI M) (nI A) (nI s) O abv sets K sb sg sw lc va won chn (nI b) (nI 6) = (r, ic2, lc2, va2, won2, chn2) ∧ f_X11_branchNow (nI N) (nI A) (nI s) K O sb sg sw T wb (nI b) (nI 6) = (r, K, T2, wb2) ∧ CH1 N A M ic2 O K abv sets lc2 va2 won2 chn2 := by
  obtain ⟨hN, ho, hK, ha, hsO, hM, hse, hA, hst, hic⟩ := id I1
  have u := (unk_0 hN).mpr ⟨b, hb, rfl⟩
  obtain ⟨lc2, va2, won2, chn2, e, ok, J⟩ := c_ok I1 (by omega)
  obtain ⟨T2, wb2, e2, _, _⟩ := so_eq hN (T := T) (wb := wb) (sb := sb) hA hst (fun w hw => ((ok A hA hst).1 w hw).1) (by omega : b < 8) hs
  refine ⟨f_X10_sortsOf (nI A) (nI s) sb sg sw won2 (nI b), 1, lc2, va2, won2, chn2, T2, wb2, ?_, ?_, J⟩
  · rw [f_X10_branch_s, if_pos u, if_neg (show ¬ nI 6 = (0 : Int32) by decide), if_neg (show ¬ nI 6 = (1 : Int32) by decide), if_neg (show ¬ nI 6 = (2 : Int32) by decide), if_neg (show ¬ nI 6 = (3 : Int32) by decide), if_neg (show ¬ nI 6 = (4 : Int32) by decide), if_neg (show ¬ nI 6 = (5 : Int32) by decide), if_pos (show nI 6 = (6 : Int32) from rfl), e]
  · rw [f_X11_branchNow_s, if_neg (show ¬ nI 6 = (0 : Int32) by decide), if_neg (show ¬ nI 6 = (1 : Int32) by decide), if_neg (show ¬ nI 6 = (2 : Int32) by decide), if_neg (show ¬ nI 6 = (3 : Int32) by decide), if_neg (show ¬ nI 6 = (4 : Int32) by decide), if_neg (show ¬ nI 6 = (5 : Int32) by decide), if_pos (show nI 6 = (6 : Int32) from rfl), e2]
theorem br_7 {N A M s : Nat} {ic : Int32} {O K abv sets lc va sb sg sw T wb : Nat → Int32} {won chn : Nat → Int64} (I1 : CH1 N A M ic O K abv sets lc va won chn) (hs : seenOK s sg sw) {b : Nat} (hb : b < N) : ∃ r ic2 lc2 va2 won2 chn2 T2 wb2, f_X10_branch ic (nI N) (nI M) (nI A) (nI s) O abv sets K sb sg sw lc va won chn (nI b) (nI 7) = (r, ic2, lc2, va2, won2, chn2) ∧ f_X11_branchNow (nI N) (nI A) (nI s) K O sb sg sw T wb (nI b) (nI 7) = (r, K, T2, wb2) ∧ CH1 N A M ic2 O K abv sets lc2 va2 won2 chn2 := by
  obtain ⟨hN, ho, hK, ha, hsO, hM, hse, hA, hst, hic⟩ := id I1
  have u := (unk_0 hN).mpr ⟨b, hb, rfl⟩
  obtain ⟨lc2, va2, won2, chn2, e, ok, J⟩ := c_ok I1 (by omega)
  obtain ⟨T2, wb2, e2⟩ := le_eq hN (T := T) (wb := wb) (sb := sb) hA hst (fun w hw => ((ok A hA hst).1 w hw).1) (by omega : b < 8) hs
  refine ⟨f_X10_whomToLetBegin (nI A) (nI s) sb sg sw won2 (nI b), 1, lc2, va2, won2, chn2, T2, wb2, ?_, ?_, J⟩
  · rw [f_X10_branch_s, if_pos u, if_neg (show ¬ nI 7 = (0 : Int32) by decide), if_neg (show ¬ nI 7 = (1 : Int32) by decide), if_neg (show ¬ nI 7 = (2 : Int32) by decide), if_neg (show ¬ nI 7 = (3 : Int32) by decide), if_neg (show ¬ nI 7 = (4 : Int32) by decide), if_neg (show ¬ nI 7 = (5 : Int32) by decide), if_neg (show ¬ nI 7 = (6 : Int32) by decide), if_pos (show nI 7 = (7 : Int32) from rfl), e]
  · rw [f_X11_branchNow_s, if_neg (show ¬ nI 7 = (0 : Int32) by decide), if_neg (show ¬ nI 7 = (1 : Int32) by decide), if_neg (show ¬ nI 7 = (2 : Int32) by decide), if_neg (show ¬ nI 7 = (3 : Int32) by decide), if_neg (show ¬ nI 7 = (4 : Int32) by decide), if_neg (show ¬ nI 7 = (5 : Int32) by decide), if_neg (show ¬ nI 7 = (6 : Int32) by decide), e2]
theorem br_eq {N A M s : Nat} {ic : Int32} {O K abv sets lc va sb sg sw T wb : Nat → Int32} {won chn : Nat → Int64} (I1 : CH1 N A M ic O K abv sets lc va won chn) (hs : seenOK s sg sw) {b : Nat} (hb : b < N) {q : Nat} (hq : q ≤ 7) : ∃ r ic2 lc2 va2 won2 chn2 T2 wb2, f_X10_branch ic (nI N) (nI M) (nI A) (nI s) O abv sets K sb sg sw lc va won chn (nI b) (nI q) = (r, ic2, lc2, va2, won2, chn2) ∧ f_X11_branchNow (nI N) (nI A) (nI s) K O sb sg sw T wb (nI b) (nI q) = (r, K, T2, wb2) ∧ CH1 N A M ic2 O K abv sets lc2 va2 won2 chn2 := by
  rcases (show q = 0 ∨ q = 1 ∨ q = 2 ∨ q = 3 ∨ q = 4 ∨ q = 5 ∨ q = 6 ∨ q = 7 by omega) with e | e | e | e | e | e | e | e <;> subst e
  · exact br_0 I1 hs hb
  · exact br_1 I1 hs hb
  · exact br_2 I1 hs hb
  · exact br_3 I1 hs hb
  · exact br_4 I1 hs hb
  · exact br_5 I1 hs hb
  · exact br_6 I1 hs hb
  · exact br_7 I1 hs hb
theorem wi7 {p : Int32} : f_X11_within p (0 : Int32) (7 : Int32) = 0 ↔ ¬ ∃ j, j ≤ 7 ∧ p = nI j := wi_0 (m := 7) (by omega)
theorem E_branch {t : Nat} {g_isCharted : Int32} {g_isKept : Int32} {g_hedgesRead : Int32} {g_evensDone : Int32} {g_plen : Int32} {g_number : Int32} {g_setCount : Int32} {g_standing : Int32} {g_turn : Int32} {g_cuts : Int32} {g_ssize : Int32} {g_kstanding : Int32} {g_kturn : Int32} {g_kcuts : Int32} {g_kssize : Int32} {g_seed : Int32} {g_whiteWon : Int32} {g_cutsDone : Int32} {g_lett : Nat → Int32} {g_onB : Nat → Int32} {g_abv : Nat → Int32} {g_sets : Nat → Int32} {g_kinds : Nat → Int32} {g_sbranches : Nat → Int32} {g_sbeginners : Nat → Int32} {g_swon : Nat → Int32} {g_kkinds : Nat → Int32} {g_ksbranches : Nat → Int32} {g_ksbeginners : Nat → Int32} {g_kswon : Nat → Int32} {g_lcuts : Nat → Int32} {g_valu : Nat → Int32} {g_won : Nat → Int64} {g_chance : Nat → Int64} {m_hedges : Int32} {m_branches : Int32} {m_stand : Int32} {m_turn : Int32} {m_cuts : Int32} {m_asks : Int32} {m_seen : Int32} {m_pageLength : Int32} {m_isWhole : Int32} {m_newBranches : Int32} {m_gameCuts : Int32} {m_isKept : Int32} {m_keptHedge : Int32} {m_keptStand : Int32} {m_keptTurn : Int32} {m_keptCuts : Int32} {m_keptSeen : Int32} {m_seedNow : Int64} {m_hsh : Int64} {m_kindOf : Nat → Int32} {m_onOf : Nat → Int32} {m_seenBranch : Nat → Int32} {m_seenBegins : Nat → Int32} {m_seenWins : Nat → Int32} {m_page : Nat → Int32} {m_winner : Nat → Int32} {m_lasting : Nat → Int32} {m_worthBy : Nat → Int32} {m_wonBy : Nat → Int32} {m_keptKind : Nat → Int32} {m_keptBranch : Nat → Int32} {m_keptBegins : Nat → Int32} {m_keptWins : Nat → Int32} {m_partsBy : Nat → Int64} (I : INV t g_isCharted g_isKept g_hedgesRead g_evensDone g_plen g_number g_setCount g_standing g_turn g_cuts g_ssize g_kstanding g_kturn g_kcuts g_kssize g_seed g_whiteWon g_cutsDone g_lett g_onB g_abv g_sets g_kinds g_sbranches g_sbeginners g_swon g_kkinds g_ksbranches g_ksbeginners g_kswon g_lcuts g_valu g_won g_chance m_hedges m_branches m_stand m_turn m_cuts m_asks m_seen m_pageLength m_isWhole m_newBranches m_gameCuts m_isKept m_keptHedge m_keptStand m_keptTurn m_keptCuts m_keptSeen m_seedNow m_hsh m_kindOf m_onOf m_seenBranch m_seenBegins m_seenWins m_page m_winner m_lasting m_worthBy m_wonBy m_keptKind m_keptBranch m_keptBegins m_keptWins m_partsBy) (p1 : Int32) (p2 : Int32) : ∃ (r : Int32) (g_isCharted2 : Int32) (g_lcuts2 : Nat → Int32) (g_valu2 : Nat → Int32) (g_won2 : Nat → Int64) (g_chance2 : Nat → Int64) (m_kindOf2 : Nat → Int32) (m_winner2 : Nat → Int32) (m_wonBy2 : Nat → Int32), f_X10_branch g_isCharted g_number g_setCount g_standing g_ssize g_onB g_abv g_sets g_kinds g_sbranches g_sbeginners g_swon g_lcuts g_valu g_won g_chance p1 p2 = (r, g_isCharted2, g_lcuts2, g_valu2, g_won2, g_chance2) ∧ f_X11_branch m_branches m_stand m_seen m_kindOf m_onOf m_seenBranch m_seenBegins m_seenWins m_winner m_wonBy p1 p2 = (r, m_kindOf2, m_winner2, m_wonBy2) ∧ INV (t + 1) g_isCharted2 g_isKept g_hedgesRead g_evensDone g_plen g_number g_setCount g_standing g_turn g_cuts g_ssize g_kstanding g_kturn g_kcuts g_kssize g_seed g_whiteWon g_cutsDone g_lett g_onB g_abv g_sets g_kinds g_sbranches g_sbeginners g_swon g_kkinds g_ksbranches g_ksbeginners g_kswon g_lcuts2 g_valu2 g_won2 g_chance2 m_hedges m_branches m_stand m_turn m_cuts m_asks m_seen m_pageLength m_isWhole m_newBranches m_gameCuts m_isKept m_keptHedge m_keptStand m_keptTurn m_keptCuts m_keptSeen m_seedNow m_hsh m_kindOf2 m_onOf m_seenBranch m_seenBegins m_seenWins m_page m_winner2 m_lasting m_worthBy m_wonBy2 m_keptKind m_keptBranch m_keptBegins m_keptWins m_partsBy := by
  obtain ⟨N, A, L, M, h, c, e, s, kh, kA, kc, ks, rfl, rfl, rfl, rfl, rfl, rfl, rfl, rfl, rfl, rfl, rfl, rfl, rfl, rfl, rfl, rfl, rfl, rfl, rfl, rfl, rfl, rfl, rfl, rfl, rfl, rfl, rfl, rfl, rfl, rfl, rfl, rfl, rfl, rfl, I0⟩ := I
  obtain ⟨I1, ⟨hL, hP⟩, hT, hh, hc, he, hsn, I2⟩ := id I0
  obtain ⟨hN, ho, hK, ha, hsO, hM, hse, hA, hst, hic⟩ := id I1
  obtain ⟨a1, a2, a3, a4, a5, a6, a7, a8⟩ := id I0
  by_cases c1 : ∃ b, b < N ∧ p1 = nI b
  · have u := (unk_0 hN).mpr c1
    have v := fun z => (isB_0 hN).mp z c1
    by_cases c2 : ∃ j, j ≤ 7 ∧ p2 = nI j
    · obtain ⟨b, hb, rfl⟩ := c1
      obtain ⟨q, hq, rfl⟩ := c2
      obtain ⟨r, ic2, lc2, va2, won2, chn2, T2, wb2, e1, e2, J⟩ := br_eq I1 hsn (sb := g_sbranches) (T := m_winner) (wb := m_wonBy) hb hq
      have hm : f_X11_branch (nI N) (nI A) (nI s) g_kinds g_onB g_sbranches g_sbeginners g_swon m_winner m_wonBy (nI b) (nI q) = (r, g_kinds, T2, wb2) := by
        rw [f_X11_branch_s, if_neg v, if_neg (fun z => wi7.mp z ⟨q, hq, rfl⟩), e2]
      exact ⟨_, _, _, _, _, _, _, _, _, e1, hm, ⟨N, A, L, M, h, c, e, s, kh, kA, kc, ks, rfl, rfl, rfl, rfl, rfl, rfl, rfl, rfl, rfl, rfl, rfl, rfl, rfl, rfl, rfl, rfl, rfl, rfl, rfl, rfl, rfl, rfl, rfl, rfl, rfl, rfl, rfl, rfl, rfl, rfl, rfl, rfl, rfl, rfl,  ⟨J, a2, a3, by omega, a5, a6, a7, a8⟩⟩⟩
    · have ne : ∀ j, j ≤ 7 → ¬ p2 = nI j := fun j hj z => c2 ⟨j, hj, z⟩
      have hg : f_X10_branch g_isCharted (nI N) (nI M) (nI A) (nI s) g_onB g_abv g_sets g_kinds g_sbranches g_sbeginners g_swon g_lcuts g_valu g_won g_chance p1 p2 = ((-102 : Int32), g_isCharted, g_lcuts, g_valu, g_won, g_chance) := by
        rw [f_X10_branch_s, if_pos u, if_neg (show ¬ p2 = (0 : Int32) from ne 0 (by omega)), if_neg (show ¬ p2 = (1 : Int32) from ne 1 (by omega)), if_neg (show ¬ p2 = (2 : Int32) from ne 2 (by omega)), if_neg (show ¬ p2 = (3 : Int32) from ne 3 (by omega)), if_neg (show ¬ p2 = (4 : Int32) from ne 4 (by omega)), if_neg (show ¬ p2 = (5 : Int32) from ne 5 (by omega)), if_neg (show ¬ p2 = (6 : Int32) from ne 6 (by omega)), if_neg (show ¬ p2 = (7 : Int32) from ne 7 (by omega))]
      have hm : f_X11_branch (nI N) (nI A) (nI s) g_kinds g_onB g_sbranches g_sbeginners g_swon m_winner m_wonBy p1 p2 = ((-102 : Int32), g_kinds, m_winner, m_wonBy) := by
        rw [f_X11_branch_s, if_neg v, if_pos (wi7.mpr c2)]
      exact ⟨_, _, _, _, _, _, _, _, _, hg, hm, ⟨N, A, L, M, h, c, e, s, kh, kA, kc, ks, rfl, rfl, rfl, rfl, rfl, rfl, rfl, rfl, rfl, rfl, rfl, rfl, rfl, rfl, rfl, rfl, rfl, rfl, rfl, rfl, rfl, rfl, rfl, rfl, rfl, rfl, rfl, rfl, rfl, rfl, rfl, rfl, rfl, rfl,  CO_t (by omega) I0⟩⟩
  · have hg : f_X10_branch g_isCharted (nI N) (nI M) (nI A) (nI s) g_onB g_abv g_sets g_kinds g_sbranches g_sbeginners g_swon g_lcuts g_valu g_won g_chance p1 p2 = ((-101 : Int32), g_isCharted, g_lcuts, g_valu, g_won, g_chance) := by
      rw [f_X10_branch_s, if_neg (fun z => c1 ((unk_0 hN).mp z))]
    have hm : f_X11_branch (nI N) (nI A) (nI s) g_kinds g_onB g_sbranches g_sbeginners g_swon m_winner m_wonBy p1 p2 = ((-101 : Int32), g_kinds, m_winner, m_wonBy) := by
      rw [f_X11_branch_s, if_pos ((isB_0 hN).mpr c1)]
    exact ⟨_, _, _, _, _, _, _, _, _, hg, hm, ⟨N, A, L, M, h, c, e, s, kh, kA, kc, ks, rfl, rfl, rfl, rfl, rfl, rfl, rfl, rfl, rfl, rfl, rfl, rfl, rfl, rfl, rfl, rfl, rfl, rfl, rfl, rfl, rfl, rfl, rfl, rfl, rfl, rfl, rfl, rfl, rfl, rfl, rfl, rfl, rfl, rfl,  CO_t (by omega) I0⟩⟩
