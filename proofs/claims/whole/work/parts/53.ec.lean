/-! both answer alike: growth, counts, images -/
theorem foot_0 {N : Nat} (hN : N ≤ 8) {O : Nat → Int32} (ho : hOn N O) {b : Nat} (hb : b < N) {s : Int32} : f_X8_hasFooting O (nI b) s = 0 ↔ ∃ j, j < b ∧ O b = nI j ∧ bt s j = false := by
  rw [f_X8_hasFooting_s, nI_clamp (by omega : b < 2 ^ 31)]
  rcases ho b hb with e | ⟨j, hj, e⟩
  · rw [if_pos e]
    constructor
    · intro h; exact absurd h (by decide)
    · rintro ⟨j, hj, e2, _⟩
      rw [e] at e2
      exact absurd e2.symm (nI_ne_m1 (by omega))
  · rw [e, if_neg (nI_ne_m1 (by omega))]
    constructor
    · intro h
      by_cases c : ((s >>> (nI j &&& 31)) &&& (1 : Int32)) = 0
      · exact ⟨j, hj, rfl, (bit_ne s (by omega)).mp c⟩
      · rw [if_neg c] at h; exact absurd h (by decide)
    · rintro ⟨j2, hj2, e2, e3⟩
      rw [nI_inj (by omega) (by omega)] at e2
      subst e2
      rw [if_pos ((bit_ne s (by omega)).mpr e3)]
theorem E_grow {t : Nat} {g_isCharted : Int32} {g_isKept : Int32} {g_hedgesRead : Int32} {g_evensDone : Int32} {g_plen : Int32} {g_number : Int32} {g_setCount : Int32} {g_standing : Int32} {g_turn : Int32} {g_cuts : Int32} {g_ssize : Int32} {g_kstanding : Int32} {g_kturn : Int32} {g_kcuts : Int32} {g_kssize : Int32} {g_seed : Int32} {g_whiteWon : Int32} {g_cutsDone : Int32} {g_lett : Nat → Int32} {g_onB : Nat → Int32} {g_abv : Nat → Int32} {g_sets : Nat → Int32} {g_kinds : Nat → Int32} {g_sbranches : Nat → Int32} {g_sbeginners : Nat → Int32} {g_swon : Nat → Int32} {g_kkinds : Nat → Int32} {g_ksbranches : Nat → Int32} {g_ksbeginners : Nat → Int32} {g_kswon : Nat → Int32} {g_lcuts : Nat → Int32} {g_valu : Nat → Int32} {g_won : Nat → Int64} {g_chance : Nat → Int64} {m_hedges : Int32} {m_branches : Int32} {m_stand : Int32} {m_turn : Int32} {m_cuts : Int32} {m_asks : Int32} {m_seen : Int32} {m_pageLength : Int32} {m_isWhole : Int32} {m_newBranches : Int32} {m_gameCuts : Int32} {m_isKept : Int32} {m_keptHedge : Int32} {m_keptStand : Int32} {m_keptTurn : Int32} {m_keptCuts : Int32} {m_keptSeen : Int32} {m_seedNow : Int64} {m_hsh : Int64} {m_kindOf : Nat → Int32} {m_onOf : Nat → Int32} {m_seenBranch : Nat → Int32} {m_seenBegins : Nat → Int32} {m_seenWins : Nat → Int32} {m_page : Nat → Int32} {m_winner : Nat → Int32} {m_lasting : Nat → Int32} {m_worthBy : Nat → Int32} {m_wonBy : Nat → Int32} {m_keptKind : Nat → Int32} {m_keptBranch : Nat → Int32} {m_keptBegins : Nat → Int32} {m_keptWins : Nat → Int32} {m_partsBy : Nat → Int64} (I : INV t g_isCharted g_isKept g_hedgesRead g_evensDone g_plen g_number g_setCount g_standing g_turn g_cuts g_ssize g_kstanding g_kturn g_kcuts g_kssize g_seed g_whiteWon g_cutsDone g_lett g_onB g_abv g_sets g_kinds g_sbranches g_sbeginners g_swon g_kkinds g_ksbranches g_ksbeginners g_kswon g_lcuts g_valu g_won g_chance m_hedges m_branches m_stand m_turn m_cuts m_asks m_seen m_pageLength m_isWhole m_newBranches m_gameCuts m_isKept m_keptHedge m_keptStand m_keptTurn m_keptCuts m_keptSeen m_seedNow m_hsh m_kindOf m_onOf m_seenBranch m_seenBegins m_seenWins m_page m_winner m_lasting m_worthBy m_wonBy m_keptKind m_keptBranch m_keptBegins m_keptWins m_partsBy) (p1 : Int32) : ∃ (r : Int32) (g_standing2 : Int32) (m_stand2 : Int32), f_X10_grow g_number g_standing g_onB p1 = (r, g_standing2) ∧ f_X11_grow m_branches m_stand m_onOf p1 = (r, m_stand2) ∧ INV (t + 1) g_isCharted g_isKept g_hedgesRead g_evensDone g_plen g_number g_setCount g_standing2 g_turn g_cuts g_ssize g_kstanding g_kturn g_kcuts g_kssize g_seed g_whiteWon g_cutsDone g_lett g_onB g_abv g_sets g_kinds g_sbranches g_sbeginners g_swon g_kkinds g_ksbranches g_ksbeginners g_kswon g_lcuts g_valu g_won g_chance m_hedges m_branches m_stand2 m_turn m_cuts m_asks m_seen m_pageLength m_isWhole m_newBranches m_gameCuts m_isKept m_keptHedge m_keptStand m_keptTurn m_keptCuts m_keptSeen m_seedNow m_hsh m_kindOf m_onOf m_seenBranch m_seenBegins m_seenWins m_page m_winner m_lasting m_worthBy m_wonBy m_keptKind m_keptBranch m_keptBegins m_keptWins m_partsBy := by
  obtain ⟨N, A, L, M, h, c, e, s, kh, kA, kc, ks, rfl, rfl, rfl, rfl, rfl, rfl, rfl, rfl, rfl, rfl, rfl, rfl, rfl, rfl, rfl, rfl, rfl, rfl, rfl, rfl, rfl, rfl, rfl, rfl, rfl, rfl, rfl, rfl, rfl, rfl, rfl, rfl, rfl, rfl, I0⟩ := I
  obtain ⟨I1, ⟨hL, hP⟩, hT, hh, hc, he, hsn, I2⟩ := id I0
  obtain ⟨hN, ho, hK, ha, hsO, hM, hse, hA, hst, hic⟩ := id I1
  obtain ⟨a1, a2, a3, a4, a5, a6, a7, a8⟩ := id I0
  by_cases c1 : ∃ b, b < N ∧ p1 = nI b
  · have u := (unk_0 hN).mpr c1
    have v := fun z => (isB_0 hN).mp z c1
    obtain ⟨b, hb, rfl⟩ := c1
    by_cases c2 : bt (nI A) b = true
    · have hg : f_X10_grow (nI N) (nI A) g_onB (nI b) = ((-103 : Int32), nI A) := by
        rw [f_X10_grow_s, if_pos u, if_neg (fun z => by rw [bit_ne _ (by omega), c2] at z; cases z)]
      have hm : f_X11_grow (nI N) (nI A) g_onB (nI b) = ((-103 : Int32), nI A) := by
        rw [f_X11_grow_s, if_neg v, if_neg (fun z => by rw [isIn_0 _ (by omega), c2] at z; cases z)]
      exact ⟨_, _, _, hg, hm, ⟨N, A, L, M, h, c, e, s, kh, kA, kc, ks, rfl, rfl, rfl, rfl, rfl, rfl, rfl, rfl, rfl, rfl, rfl, rfl, rfl, rfl, rfl, rfl, rfl, rfl, rfl, rfl, rfl, rfl, rfl, rfl, rfl, rfl, rfl, rfl, rfl, rfl, rfl, rfl, rfl, rfl,  CO_t (by omega) I0⟩⟩
    · have c2' : bt (nI A) b = false := by simpa using c2
      have u2 := (bit_ne (nI A) (j := b) (by omega)).mpr c2'
      have v2 := (isIn_0 (nI A) (j := b) (by omega)).mpr c2'
      by_cases c3 : f_X8_hasFooting g_onB (nI b) (nI A) = 0
      · have hg : f_X10_grow (nI N) (nI A) g_onB (nI b) = ((-103 : Int32), nI A) := by
          rw [f_X10_grow_s, if_pos u, if_pos u2, if_pos c3]
        have hm : f_X11_grow (nI N) (nI A) g_onB (nI b) = ((-103 : Int32), nI A) := by
          obtain ⟨j, hj, e1, e2⟩ := (foot_0 hN ho hb).mp c3
          rw [f_X11_grow_s, if_neg v, if_pos v2, nI_clamp (by omega : b < 2 ^ 31), e1, if_neg (nI_ne_m1 (by omega)), if_pos ((isIn_0 _ (by omega)).mpr e2)]
        exact ⟨_, _, _, hg, hm, ⟨N, A, L, M, h, c, e, s, kh, kA, kc, ks, rfl, rfl, rfl, rfl, rfl, rfl, rfl, rfl, rfl, rfl, rfl, rfl, rfl, rfl, rfl, rfl, rfl, rfl, rfl, rfl, rfl, rfl, rfl, rfl, rfl, rfl, rfl, rfl, rfl, rfl, rfl, rfl, rfl, rfl,  CO_t (by omega) I0⟩⟩
      · have hbt : ∀ e, e < 32 → bt (nI A ||| ((1 : Int32) <<< (nI b &&& 31))) e = (bt (nI A) e || decide (e = b)) := fun e he => by rw [b_or, bt_s1 (by omega) he]
        have hhi : ∀ e, N ≤ e → bt (nI A ||| ((1 : Int32) <<< (nI b &&& 31))) e = false := fun e he => by
          rcases Nat.lt_or_ge e 32 with g | g
          · rw [hbt e g, hst.1 e he]
            have : ¬ e = b := by omega
            simp [this]
          · exact b_big g
        have hst2 : stds N g_onB (nI A ||| ((1 : Int32) <<< (nI b &&& 31))) := by
          refine ⟨hhi, fun e he h1 j h2 h3 => ?_⟩
          rw [hbt e (by omega)] at h1
          rw [hbt j (by omega)]
          by_cases q : e = b
          · subst q
            cases g : bt (nI A) j
            · exact absurd ((foot_0 hN ho hb).mpr ⟨j, h3, h2, g⟩) c3
            · rfl
          · have h1' : bt (nI A) e = true := by simpa [q] using h1
            rw [hst.2 e he h1' j h2 h3]; rfl
        obtain ⟨A2, hA2, eA⟩ := bits8 (x := nI A ||| ((1 : Int32) <<< (nI b &&& 31))) (fun e he => hhi e (by omega))
        rw [eA] at hst2
        have hg : f_X10_grow (nI N) (nI A) g_onB (nI b) = (f_X11_size (nI A2), nI A2) := by
          rw [f_X10_grow_s, if_pos u, if_pos u2, if_neg c3, eA, size_bc (st_hi hN hst2)]
        have hm : f_X11_grow (nI N) (nI A) g_onB (nI b) = (f_X11_size (nI A2), nI A2) := by
          rw [f_X11_grow_s, if_neg v, if_pos v2, nI_clamp (by omega : b < 2 ^ 31), eA]
          rcases ho b hb with e1 | ⟨j, hj, e1⟩
          · rw [if_pos e1]
          · rw [e1, if_neg (nI_ne_m1 (by omega)), if_neg (fun z => c3 ((foot_0 hN ho hb).mpr ⟨j, hj, e1, (isIn_0 _ (by omega)).mp z⟩))]
        exact ⟨_, _, _, hg, hm, ⟨N, A2, L, M, h, c, e, s, kh, kA, kc, ks, rfl, rfl, rfl, rfl, rfl, rfl, rfl, rfl, rfl, rfl, rfl, rfl, rfl, rfl, rfl, rfl, rfl, rfl, rfl, rfl, rfl, rfl, rfl, rfl, rfl, rfl, rfl, rfl, rfl, rfl, rfl, rfl, rfl, rfl,  ⟨⟨hN, ho, hK, ha, hsO, hM, hse, hA2, hst2, hic⟩, a2, a3, by omega, a5, a6, a7, a8⟩⟩⟩
  · have hg : f_X10_grow (nI N) (nI A) g_onB p1 = ((-101 : Int32), nI A) := by
      rw [f_X10_grow_s, if_neg (fun z => c1 ((unk_0 hN).mp z))]
    have hm : f_X11_grow (nI N) (nI A) g_onB p1 = ((-101 : Int32), nI A) := by
      rw [f_X11_grow_s, if_pos ((isB_0 hN).mpr c1)]
    exact ⟨_, _, _, hg, hm, ⟨N, A, L, M, h, c, e, s, kh, kA, kc, ks, rfl, rfl, rfl, rfl, rfl, rfl, rfl, rfl, rfl, rfl, rfl, rfl, rfl, rfl, rfl, rfl, rfl, rfl, rfl, rfl, rfl, rfl, rfl, rfl, rfl, rfl, rfl, rfl, rfl, rfl, rfl, rfl, rfl, rfl,  CO_t (by omega) I0⟩⟩
