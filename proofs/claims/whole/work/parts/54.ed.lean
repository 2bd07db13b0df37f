/-! counts -/
theorem gr_L {nb : Int32} {O : Nat → Int32} : ∀ (m : Nat) (x k : Int32), f_X8_onTheGround_L4 m nb O x k = f_X11_onGround_L4 m nb O x k := by
  intro m
  induction m with
  | zero => intro x k; rfl
  | succ m ih =>
    intro x k
    rw [f_X8_onTheGround_L4_s, f_X11_onGround_L4_s, ih, ih]
    have e : x + (0 : Int32) = x := Int32.add_zero x
    rw [e]
theorem gr_eq {nb : Int32} {O : Nat → Int32} : f_X8_onTheGround nb O = f_X11_onGround nb O := gr_L 9 0 0
theorem cnt_eq {N A : Nat} {O K abv : Nat → Int32} {hh ev pl tu cu ss : Int32} (hN : N ≤ 8) (ho : hOn N O) (ha : ∀ b, b < N → abv b = AB N O b) (hK : ∀ b, b < N → isK (K b)) (hst : stds N O (nI A)) (p1 : Int32) : f_X10_count hh ev pl (nI N) (nI A) tu cu ss O abv K p1 = f_X11_howMany hh (nI N) (nI A) tu cu ev ss pl K O p1 := by
  rw [f_X10_count_s, f_X11_howMany_s, size_bc (st_hi hN hst), gr_eq]
  have e0 := mcs_ch hN ho ha hK (w := 0) (by omega) hst
  have e1 := mcs_ch hN ho ha hK (w := 1) (by omega) hst
  have h0 := size_bc (x := f_X6_choices (nI N) abv K (nI 0) (nI A)) (fun e he => ch_hi hN ha hK e (by omega))
  have h1 := size_bc (x := f_X6_choices (nI N) abv K (nI 1) (nI A)) (fun e he => ch_hi hN ha hK e (by omega))
  rw [← e0] at h0
  rw [← e1] at h1
  by_cases c4 : p1 = (4 : Int32)
  · subst c4
    have : f_X6_choices (nI N) abv K (0 : Int32) (nI A) = f_X11_mayCuts (nI N) K O (nI 0) (nI A) := e0.symm
    rw [this, h0]
    rfl
  · by_cases c5 : p1 = (5 : Int32)
    · subst c5
      have : f_X6_choices (nI N) abv K (1 : Int32) (nI A) = f_X11_mayCuts (nI N) K O (nI 1) (nI A) := e1.symm
      rw [this, h1]
      rfl
    · rw [if_neg c4, if_neg c4, if_neg c5, if_neg c5]
      rfl
theorem E_count {t : Nat} {g_isCharted : Int32} {g_isKept : Int32} {g_hedgesRead : Int32} {g_evensDone : Int32} {g_plen : Int32} {g_number : Int32} {g_setCount : Int32} {g_standing : Int32} {g_turn : Int32} {g_cuts : Int32} {g_ssize : Int32} {g_kstanding : Int32} {g_kturn : Int32} {g_kcuts : Int32} {g_kssize : Int32} {g_seed : Int32} {g_whiteWon : Int32} {g_cutsDone : Int32} {g_lett : Nat → Int32} {g_onB : Nat → Int32} {g_abv : Nat → Int32} {g_sets : Nat → Int32} {g_kinds : Nat → Int32} {g_sbranches : Nat → Int32} {g_sbeginners : Nat → Int32} {g_swon : Nat → Int32} {g_kkinds : Nat → Int32} {g_ksbranches : Nat → Int32} {g_ksbeginners : Nat → Int32} {g_kswon : Nat → Int32} {g_lcuts : Nat → Int32} {g_valu : Nat → Int32} {g_won : Nat → Int64} {g_chance : Nat → Int64} {m_hedges : Int32} {m_branches : Int32} {m_stand : Int32} {m_turn : Int32} {m_cuts : Int32} {m_asks : Int32} {m_seen : Int32} {m_pageLength : Int32} {m_isWhole : Int32} {m_newBranches : Int32} {m_gameCuts : Int32} {m_isKept : Int32} {m_keptHedge : Int32} {m_keptStand : Int32} {m_keptTurn : Int32} {m_keptCuts : Int32} {m_keptSeen : Int32} {m_seedNow : Int64} {m_hsh : Int64} {m_kindOf : Nat → Int32} {m_onOf : Nat → Int32} {m_seenBranch : Nat → Int32} {m_seenBegins : Nat → Int32} {m_seenWins : Nat → Int32} {m_page : Nat → Int32} {m_winner : Nat → Int32} {m_lasting : Nat → Int32} {m_worthBy : Nat → Int32} {m_wonBy : Nat → Int32} {m_keptKind : Nat → Int32} {m_keptBranch : Nat → Int32} {m_keptBegins : Nat → Int32} {m_keptWins : Nat → Int32} {m_partsBy : Nat → Int64} (I : INV t g_isCharted g_isKept g_hedgesRead g_evensDone g_plen g_number g_setCount g_standing g_turn g_cuts g_ssize g_kstanding g_kturn g_kcuts g_kssize g_seed g_whiteWon g_cutsDone g_lett g_onB g_abv g_sets g_kinds g_sbranches g_sbeginners g_swon g_kkinds g_ksbranches g_ksbeginners g_kswon g_lcuts g_valu g_won g_chance m_hedges m_branches m_stand m_turn m_cuts m_asks m_seen m_pageLength m_isWhole m_newBranches m_gameCuts m_isKept m_keptHedge m_keptStand m_keptTurn m_keptCuts m_keptSeen m_seedNow m_hsh m_kindOf m_onOf m_seenBranch m_seenBegins m_seenWins m_page m_winner m_lasting m_worthBy m_wonBy m_keptKind m_keptBranch m_keptBegins m_keptWins m_partsBy) (p1 : Int32) : ∃ (r : Int32), f_X10_count g_hedgesRead g_evensDone g_plen g_number g_standing g_turn g_cuts g_ssize g_onB g_abv g_kinds p1 = r ∧ f_X11_count m_hedges m_branches m_stand m_turn m_cuts m_asks m_seen m_pageLength m_kindOf m_onOf p1 = r ∧ INV (t + 1) g_isCharted g_isKept g_hedgesRead g_evensDone g_plen g_number g_setCount g_standing g_turn g_cuts g_ssize g_kstanding g_kturn g_kcuts g_kssize g_seed g_whiteWon g_cutsDone g_lett g_onB g_abv g_sets g_kinds g_sbranches g_sbeginners g_swon g_kkinds g_ksbranches g_ksbeginners g_kswon g_lcuts g_valu g_won g_chance m_hedges m_branches m_stand m_turn m_cuts m_asks m_seen m_pageLength m_isWhole m_newBranches m_gameCuts m_isKept m_keptHedge m_keptStand m_keptTurn m_keptCuts m_keptSeen m_seedNow m_hsh m_kindOf m_onOf m_seenBranch m_seenBegins m_seenWins m_page m_winner m_lasting m_worthBy m_wonBy m_keptKind m_keptBranch m_keptBegins m_keptWins m_partsBy := by
  obtain ⟨N, A, L, M, h, c, e, s, kh, kA, kc, ks, rfl, rfl, rfl, rfl, rfl, rfl, rfl, rfl, rfl, rfl, rfl, rfl, rfl, rfl, rfl, rfl, rfl, rfl, rfl, rfl, rfl, rfl, rfl, rfl, rfl, rfl, rfl, rfl, rfl, rfl, rfl, rfl, rfl, rfl, I0⟩ := I
  obtain ⟨I1, ⟨hL, hP⟩, hT, hh, hc, he, hsn, I2⟩ := id I0
  obtain ⟨hN, ho, hK, ha, hsO, hM, hse, hA, hst, hic⟩ := id I1
  refine ⟨_, ?_, rfl, ⟨N, A, L, M, h, c, e, s, kh, kA, kc, ks, rfl, rfl, rfl, rfl, rfl, rfl, rfl, rfl, rfl, rfl, rfl, rfl, rfl, rfl, rfl, rfl, rfl, rfl, rfl, rfl, rfl, rfl, rfl, rfl, rfl, rfl, rfl, rfl, rfl, rfl, rfl, rfl, rfl, rfl,  CO_t (by omega) I0⟩⟩
  rw [f_X11_count_s]
  exact cnt_eq hN ho ha hK hst p1
