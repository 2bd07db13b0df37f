/-! both answer alike: branches, cuts, what is seen, images, counts -/
theorem unk_0 {N : Nat} (hN : N ≤ 8) {p : Int32} : f_X10_isUnknown (nI N) p = 0 ↔ ∃ b, b < N ∧ p = nI b := by
  constructor
  · intro h
    have k := r_isUnknown (number := nI N) (b := p)
    rw [h] at k
    have t0 : (0 : Int32).toInt = 0 := rfl
    rw [tI (by omega)] at k
    obtain ⟨j, hj, e⟩ := of_rg (x := p) (N := N) (by omega) (by omega)
    exact ⟨j, hj, e⟩
  · rintro ⟨b, hb, rfl⟩
    unfold f_X10_isUnknown
    rw [if_neg (nI_pos (by omega)), if_pos (nI_lt hb (by omega))]
theorem isB_0 {N : Nat} (hN : N ≤ 8) {p : Int32} : f_X11_isBranch (nI N) p = 0 ↔ ¬ ∃ b, b < N ∧ p = nI b := by
  have tN := tI (j := N) (by omega)
  have t1 : (1 : Int32).toInt = 1 := rfl
  have t0 : (0 : Int32).toInt = 0 := rfl
  have es := i_sub (x := nI N) (y := 1) (by omega) (by omega)
  constructor
  · rintro h ⟨b, hb, rfl⟩
    unfold f_X11_isBranch at h
    have tb := tI (j := b) (by omega)
    rw [f_X11_within_s, if_neg (nI_pos (by omega)), if_neg (fun q => by have := i_lt q; omega)] at h
    exact absurd h (by decide)
  · intro h
    have k := r_isBranch (branches := nI N) (b := p) (by omega)
    rcases k with k | ⟨k1, k2, k3⟩
    · exact Int32.toInt_inj.mp k
    · rw [tN] at k3
      obtain ⟨j, hj, e⟩ := of_rg (x := p) (N := N) (by omega) (by omega)
      exact absurd ⟨j, hj, e⟩ h
theorem wi_0 {p : Int32} {m : Nat} (hm : m < 1000) : f_X11_within p (0 : Int32) (nI m) = 0 ↔ ¬ ∃ j, j ≤ m ∧ p = nI j := by
  have tm := tI (j := m) (by omega)
  have t0 : (0 : Int32).toInt = 0 := rfl
  constructor
  · rintro h ⟨j, hj, rfl⟩
    rw [f_X11_within_s, if_neg (nI_pos (by omega)), if_neg (nI_nlt hj (by omega))] at h
    exact absurd h (by decide)
  · intro h
    rcases r_within (a := p) (b := 0) (c := nI m) with k | ⟨k1, k2, k3⟩
    · exact Int32.toInt_inj.mp k
    · obtain ⟨j, hj, e⟩ := of_rg (x := p) (N := m + 1) (by omega) (by omega)
      exact absurd ⟨j, by omega, e⟩ h
theorem wi4 {p : Int32} : f_X11_within p (0 : Int32) (4 : Int32) = 0 ↔ ¬ ∃ j, j ≤ 4 ∧ p = nI j := wi_0 (m := 4) (by omega)
theorem wi1 {p : Int32} : f_X11_within p (0 : Int32) (1 : Int32) = 0 ↔ ¬ ∃ j, j ≤ 1 ∧ p = nI j := wi_0 (m := 1) (by omega)
theorem side_0 {p : Int32} : f_X10_isNoSide p = 0 ↔ ∃ j, j ≤ 1 ∧ p = nI j := by
  constructor
  · intro h
    have k := r_isNoSide (b := p)
    rw [h] at k
    have t0 : (0 : Int32).toInt = 0 := rfl
    obtain ⟨j, hj, e⟩ := of_rg (x := p) (N := 2) (by omega) (by omega)
    exact ⟨j, by omega, e⟩
  · rintro ⟨j, hj, rfl⟩
    rcases (show j = 0 ∨ j = 1 by omega) with e | e <;> subst e <;> decide
theorem sz_L {x : Int32} : ∀ (m k : Nat), 8 < k + m → k ≤ 8 → f_X11_size_L4 m x (nI (cb x k)) (nI k) = nI (cb x 8) := by
  intro m
  induction m with
  | zero => intro k h1 h2; omega
  | succ m ih =>
    intro k h1 h2
    rw [f_X11_size_L4_s]
    by_cases hk : k = 8
    · subst hk
      rw [if_pos (show (8 : Int32) ≤ nI 8 by decide)]
    · rw [if_neg (show ¬ (8 : Int32) ≤ nI k from nI_ge (b := 8) (by omega) (by omega)), bit_eq x (by omega), nI_1]
      have e : nI (cb x k) + (if bt x k then (1 : Int32) else 0) = nI (cb x (k + 1)) := by
        rw [cb_s]
        cases bt x k
        · show nI (cb x k) + nI 0 = _
          rw [nI_add]; rfl
        · show nI (cb x k) + nI 1 = _
          rw [nI_add]; rfl
      rw [e]
      exact ih (k + 1) (by omega) (by omega)
theorem size_cb (x : Int32) : f_X11_size x = nI (cb x 8) := sz_L 9 0 (by omega) (by omega)
theorem size_bc {x : Int32} (h : ∀ e, 8 ≤ e → bt x e = false) : f_J6_bitCount_0f7a4 x = f_X11_size x := by
  rw [size_cb, bc_cb h]
theorem st_hi {N : Nat} (hN : N ≤ 8) {O : Nat → Int32} {s : Int32} (h : stds N O s) : ∀ e, 8 ≤ e → bt s e = false := fun e he => h.1 e (by omega)
theorem mcs_L {N : Nat} (hN : N ≤ 8) {K O : Nat → Int32} {w A : Nat} : ∀ (m k : Nat) (x : Int32), N < k + m → k ≤ N → (∀ e, k ≤ e → bt x e = false) → ∀ e, e < 32 → (bt (f_X11_mayCuts_L5 m (nI N) K O (nI w) (nI A) x (nI k)) e = true ↔ (bt x e = true ∨ (k ≤ e ∧ e < N ∧ mC N K O w e A))) := by
  intro m
  induction m with
  | zero => intro k x h1 h2; omega
  | succ m ih =>
    intro k x h1 h2 h3 e he
    rw [f_X11_mayCuts_L5_s, nI_1]
    by_cases hk : k = N
    · subst hk
      rw [if_pos (nI_le (Nat.le_refl _) (by omega))]
      exact ⟨Or.inl, fun h => h.elim id (fun ⟨g1, g2, _⟩ => by omega)⟩
    · have hlt : k < N := by omega
      rw [if_neg (nI_ge hlt (by omega))]
      by_cases c : f_X11_mayCut (nI N) K O (nI w) (nI k) (nI A) = 0
      · rw [if_pos c]
        have ex : x ||| (0 : Int32) = x := by
          apply b_ext
          intro i hi
          rw [b_or, b_0]
          simp
        rw [ex, ih (k + 1) x (by omega) (by omega) (fun e he => h3 e (by omega)) e he]
        constructor
        · rintro (h | ⟨g1, g2⟩)
          · exact Or.inl h
          · exact Or.inr ⟨by omega, g2⟩
        · rintro (h | ⟨g1, g2, g3⟩)
          · exact Or.inl h
          · rcases Nat.eq_or_lt_of_le g1 with q | q
            · subst q; exact absurd c g3
            · exact Or.inr ⟨q, g2, g3⟩
      · rw [if_neg c, ih (k + 1) _ (by omega) (by omega) (fun e2 he2 => by
          rcases Nat.lt_or_ge e2 32 with g | g
          · rw [b_or, h3 e2 (by omega), bt_s1 (by omega) g]
            have : ¬ e2 = k := by omega
            simp [this]
          · exact b_big g) e he, b_or, bt_s1 (by omega) he]
        constructor
        · rintro (h | ⟨g1, g2⟩)
          · by_cases q : e = k
            · subst q; exact Or.inr ⟨Nat.le_refl _, hlt, c⟩
            · simp [q] at h; exact Or.inl h
          · exact Or.inr ⟨by omega, g2⟩
        · rintro (h | ⟨g1, g2, g3⟩)
          · left; rw [h]; rfl
          · rcases Nat.eq_or_lt_of_le g1 with q | q
            · subst q; left; simp
            · exact Or.inr ⟨q, g2, g3⟩
theorem mcs_ch {N : Nat} (hN : N ≤ 8) {K O abv : Nat → Int32} (ho : hOn N O) (ha : ∀ b, b < N → abv b = AB N O b) (hk : ∀ b, b < N → isK (K b)) {w A : Nat} (hw : w ≤ 1) (hs : stds N O (nI A)) : f_X11_mayCuts (nI N) K O (nI w) (nI A) = f_X6_choices (nI N) abv K (nI w) (nI A) := by
  apply b_ext
  intro e he
  have h1 := mcs_L hN (K := K) (O := O) (w := w) (A := A) 9 0 0 (by omega) (by omega) (fun e _ => b_0 e) e he
  have h2 := ch_bt hN ha hk (w := w) (S := A) he
  have h3 : bt (f_X11_mayCuts (nI N) K O (nI w) (nI A)) e = true ↔ bt (f_X6_choices (nI N) abv K (nI w) (nI A)) e = true := by
    refine h1.trans ?_
    rw [b_0, h2]
    constructor
    · rintro (h | ⟨g1, g2, g3⟩)
      · cases h
      · exact ⟨g2, (mC_gC hN ho g2 (hk e g2) hw hs).mp g3⟩
    · rintro ⟨g2, g3⟩
      exact Or.inr ⟨by omega, g2, (mC_gC hN ho g2 (hk e g2) hw hs).mpr g3⟩
  cases hx : bt (f_X11_mayCuts (nI N) K O (nI w) (nI A)) e <;> cases hy : bt (f_X6_choices (nI N) abv K (nI w) (nI A)) e <;> simp_all
theorem tu_w {tu : Int32} (h : tu = 0 ∨ tu = 1) : ∃ w, w ≤ 1 ∧ tu = nI w := by
  rcases h with e | e
  · exact ⟨0, by omega, e⟩
  · exact ⟨1, by omega, e⟩
theorem isK_of {j : Nat} (h : j ≤ 4) : isK (nI j) := by
  rcases (show j = 0 ∨ j = 1 ∨ j = 2 ∨ j = 3 ∨ j = 4 by omega) with e | e | e | e | e <;> subst e
  · exact Or.inl rfl
  · exact Or.inr (Or.inl rfl)
  · exact Or.inr (Or.inr (Or.inl rfl))
  · exact Or.inr (Or.inr (Or.inr (Or.inl rfl)))
  · exact Or.inr (Or.inr (Or.inr (Or.inr rfl)))
theorem kr_0 {p : Int32} : (p < 0 ∨ ¬ p < (5 : Int32)) ↔ ¬ ∃ j, j ≤ 4 ∧ p = nI j := by
  have t0 : (0 : Int32).toInt = 0 := rfl
  have t5 : (5 : Int32).toInt = 5 := rfl
  constructor
  · rintro h ⟨j, hj, rfl⟩
    rcases h with h | h
    · exact nI_pos (by omega) h
    · exact h (nI_lt (b := 5) (by omega) (by omega))
  · intro h
    apply Classical.byContradiction
    intro q
    have q1 : ¬ p < 0 := fun z => q (Or.inl z)
    have q2 : p < (5 : Int32) := Classical.not_not.mp (fun z => q (Or.inr z))
    have := i_nlt q1
    have := i_lt q2
    obtain ⟨j, hj, e⟩ := of_rg (x := p) (N := 5) (by omega) (by omega)
    exact h ⟨j, by omega, e⟩
theorem E_graft {t : Nat} {g_isCharted : Int32} {g_isKept : Int32} {g_hedgesRead : Int32} {g_evensDone : Int32} {g_plen : Int32} {g_number : Int32} {g_setCount : Int32} {g_standing : Int32} {g_turn : Int32} {g_cuts : Int32} {g_ssize : Int32} {g_kstanding : Int32} {g_kturn : Int32} {g_kcuts : Int32} {g_kssize : Int32} {g_seed : Int32} {g_whiteWon : Int32} {g_cutsDone : Int32} {g_lett : Nat → Int32} {g_onB : Nat → Int32} {g_abv : Nat → Int32} {g_sets : Nat → Int32} {g_kinds : Nat → Int32} {g_sbranches : Nat → Int32} {g_sbeginners : Nat → Int32} {g_swon : Nat → Int32} {g_kkinds : Nat → Int32} {g_ksbranches : Nat → Int32} {g_ksbeginners : Nat → Int32} {g_kswon : Nat → Int32} {g_lcuts : Nat → Int32} {g_valu : Nat → Int32} {g_won : Nat → Int64} {g_chance : Nat → Int64} {m_hedges : Int32} {m_branches : Int32} {m_stand : Int32} {m_turn : Int32} {m_cuts : Int32} {m_asks : Int32} {m_seen : Int32} {m_pageLength : Int32} {m_isWhole : Int32} {m_newBranches : Int32} {m_gameCuts : Int32} {m_isKept : Int32} {m_keptHedge : Int32} {m_keptStand : Int32} {m_keptTurn : Int32} {m_keptCuts : Int32} {m_keptSeen : Int32} {m_seedNow : Int64} {m_hsh : Int64} {m_kindOf : Nat → Int32} {m_onOf : Nat → Int32} {m_seenBranch : Nat → Int32} {m_seenBegins : Nat → Int32} {m_seenWins : Nat → Int32} {m_page : Nat → Int32} {m_winner : Nat → Int32} {m_lasting : Nat → Int32} {m_worthBy : Nat → Int32} {m_wonBy : Nat → Int32} {m_keptKind : Nat → Int32} {m_keptBranch : Nat → Int32} {m_keptBegins : Nat → Int32} {m_keptWins : Nat → Int32} {m_partsBy : Nat → Int64} (I : INV t g_isCharted g_isKept g_hedgesRead g_evensDone g_plen g_number g_setCount g_standing g_turn g_cuts g_ssize g_kstanding g_kturn g_kcuts g_kssize g_seed g_whiteWon g_cutsDone g_lett g_onB g_abv g_sets g_kinds g_sbranches g_sbeginners g_swon g_kkinds g_ksbranches g_ksbeginners g_kswon g_lcuts g_valu g_won g_chance m_hedges m_branches m_stand m_turn m_cuts m_asks m_seen m_pageLength m_isWhole m_newBranches m_gameCuts m_isKept m_keptHedge m_keptStand m_keptTurn m_keptCuts m_keptSeen m_seedNow m_hsh m_kindOf m_onOf m_seenBranch m_seenBegins m_seenWins m_page m_winner m_lasting m_worthBy m_wonBy m_keptKind m_keptBranch m_keptBegins m_keptWins m_partsBy) (p1 : Int32) (p2 : Int32) : ∃ (r : Int32) (g_isCharted2 : Int32) (g_kinds2 : Nat → Int32) (m_kindOf2 : Nat → Int32), f_X10_graft g_isCharted g_number g_kinds p1 p2 = (r, g_isCharted2, g_kinds2) ∧ f_X11_graft m_branches m_kindOf p1 p2 = (r, m_kindOf2) ∧ INV (t + 1) g_isCharted2 g_isKept g_hedgesRead g_evensDone g_plen g_number g_setCount g_standing g_turn g_cuts g_ssize g_kstanding g_kturn g_kcuts g_kssize g_seed g_whiteWon g_cutsDone g_lett g_onB g_abv g_sets g_kinds2 g_sbranches g_sbeginners g_swon g_kkinds g_ksbranches g_ksbeginners g_kswon g_lcuts g_valu g_won g_chance m_hedges m_branches m_stand m_turn m_cuts m_asks m_seen m_pageLength m_isWhole m_newBranches m_gameCuts m_isKept m_keptHedge m_keptStand m_keptTurn m_keptCuts m_keptSeen m_seedNow m_hsh m_kindOf2 m_onOf m_seenBranch m_seenBegins m_seenWins m_page m_winner m_lasting m_worthBy m_wonBy m_keptKind m_keptBranch m_keptBegins m_keptWins m_partsBy := by
  obtain ⟨N, A, L, M, h, c, e, s, kh, kA, kc, ks, rfl, rfl, rfl, rfl, rfl, rfl, rfl, rfl, rfl, rfl, rfl, rfl, rfl, rfl, rfl, rfl, rfl, rfl, rfl, rfl, rfl, rfl, rfl, rfl, rfl, rfl, rfl, rfl, rfl, rfl, rfl, rfl, rfl, rfl, I0⟩ := I
  obtain ⟨I1, ⟨hL, hP⟩, hT, hh, hc, he, hsn, I2⟩ := id I0
  obtain ⟨hN, ho, hK, ha, hsO, hM, hse, hA, hst, hic⟩ := id I1
  by_cases c1 : ∃ b, b < N ∧ p1 = nI b
  · have u := (unk_0 hN).mpr c1
    have v := fun z => (isB_0 hN).mp z c1
    by_cases c2 : ∃ j, j ≤ 4 ∧ p2 = nI j
    · obtain ⟨b, hb, rfl⟩ := c1
      obtain ⟨j, hj, rfl⟩ := c2
      have hg : f_X10_graft g_isCharted (nI N) g_kinds (nI b) (nI j) = (g_kinds b, (0 : Int32), upd g_kinds b (nI j)) := by
        rw [f_X10_graft_s, if_pos u, if_neg (nI_pos (by omega)), if_pos (show nI j < (5 : Int32) from nI_lt (b := 5) (by omega) (by omega)), nI_clamp (by omega : b < 2 ^ 31)]
      have hm : f_X11_graft (nI N) g_kinds (nI b) (nI j) = (g_kinds b, upd g_kinds b (nI j)) := by
        rw [f_X11_graft_s, if_neg v, if_neg (fun z => wi4.mp z ⟨j, hj, rfl⟩), nI_clamp (by omega : b < 2 ^ 31)]
      obtain ⟨a1, a2, a3, a4, a5⟩ := id I0
      refine ⟨_, _, _, _, hg, hm, ⟨N, A, L, M, h, c, e, s, kh, kA, kc, ks, rfl, rfl, rfl, rfl, rfl, rfl, rfl, rfl, rfl, rfl, rfl, rfl, rfl, rfl, rfl, rfl, rfl, rfl, rfl, rfl, rfl, rfl, rfl, rfl, rfl, rfl, rfl, rfl, rfl, rfl, rfl, rfl, rfl, rfl,  ⟨⟨hN, ho, fun b' hb' => ?_, ha, hsO, hM, hse, hA, hst, Or.inl rfl⟩, a2, a3, by omega, a5⟩⟩⟩
      by_cases q : b' = b
      · subst q; rw [pk_us]; exact isK_of hj
      · rw [pk_un q]; exact hK b' hb'
    · have hg : f_X10_graft g_isCharted (nI N) g_kinds p1 p2 = ((-102 : Int32), g_isCharted, g_kinds) := by
        rw [f_X10_graft_s, if_pos u]
        by_cases q : p2 < 0
        · rw [if_pos q]
        · rw [if_neg q, if_neg ((kr_0.mpr c2).resolve_left q)]
      have hm : f_X11_graft (nI N) g_kinds p1 p2 = ((-102 : Int32), g_kinds) := by
        rw [f_X11_graft_s, if_neg v, if_pos (wi4.mpr c2)]
      exact ⟨_, _, _, _, hg, hm, ⟨N, A, L, M, h, c, e, s, kh, kA, kc, ks, rfl, rfl, rfl, rfl, rfl, rfl, rfl, rfl, rfl, rfl, rfl, rfl, rfl, rfl, rfl, rfl, rfl, rfl, rfl, rfl, rfl, rfl, rfl, rfl, rfl, rfl, rfl, rfl, rfl, rfl, rfl, rfl, rfl, rfl,  CO_t (by omega) I0⟩⟩
  · have hg : f_X10_graft g_isCharted (nI N) g_kinds p1 p2 = ((-101 : Int32), g_isCharted, g_kinds) := by
      rw [f_X10_graft_s, if_neg (fun z => c1 ((unk_0 hN).mp z))]
    have hm : f_X11_graft (nI N) g_kinds p1 p2 = ((-101 : Int32), g_kinds) := by
      rw [f_X11_graft_s, if_pos ((isB_0 hN).mpr c1)]
    exact ⟨_, _, _, _, hg, hm, ⟨N, A, L, M, h, c, e, s, kh, kA, kc, ks, rfl, rfl, rfl, rfl, rfl, rfl, rfl, rfl, rfl, rfl, rfl, rfl, rfl, rfl, rfl, rfl, rfl, rfl, rfl, rfl, rfl, rfl, rfl, rfl, rfl, rfl, rfl, rfl, rfl, rfl, rfl, rfl, rfl, rfl,  CO_t (by omega) I0⟩⟩
set_option maxRecDepth 100000 in
theorem as_tab : ∀ k, k < 5 → ∀ j, j < 5 → ∀ b, b < 8 → (if (((([31, 18, 4, 8, 16] : List Int32).getD j 0) >>> (nI k &&& 31)) &&& (1 : Int32)) = 0 then (-1 : Int32) else nI b) = (if nI j = 0 then nI b else if nI k = nI j then nI b else if nI j = (1 : Int32) then (if nI k = (4 : Int32) then nI b else (-1 : Int32)) else (-1 : Int32)) := by decide +kernel
theorem E_as {t : Nat} {g_isCharted : Int32} {g_isKept : Int32} {g_hedgesRead : Int32} {g_evensDone : Int32} {g_plen : Int32} {g_number : Int32} {g_setCount : Int32} {g_standing : Int32} {g_turn : Int32} {g_cuts : Int32} {g_ssize : Int32} {g_kstanding : Int32} {g_kturn : Int32} {g_kcuts : Int32} {g_kssize : Int32} {g_seed : Int32} {g_whiteWon : Int32} {g_cutsDone : Int32} {g_lett : Nat → Int32} {g_onB : Nat → Int32} {g_abv : Nat → Int32} {g_sets : Nat → Int32} {g_kinds : Nat → Int32} {g_sbranches : Nat → Int32} {g_sbeginners : Nat → Int32} {g_swon : Nat → Int32} {g_kkinds : Nat → Int32} {g_ksbranches : Nat → Int32} {g_ksbeginners : Nat → Int32} {g_kswon : Nat → Int32} {g_lcuts : Nat → Int32} {g_valu : Nat → Int32} {g_won : Nat → Int64} {g_chance : Nat → Int64} {m_hedges : Int32} {m_branches : Int32} {m_stand : Int32} {m_turn : Int32} {m_cuts : Int32} {m_asks : Int32} {m_seen : Int32} {m_pageLength : Int32} {m_isWhole : Int32} {m_newBranches : Int32} {m_gameCuts : Int32} {m_isKept : Int32} {m_keptHedge : Int32} {m_keptStand : Int32} {m_keptTurn : Int32} {m_keptCuts : Int32} {m_keptSeen : Int32} {m_seedNow : Int64} {m_hsh : Int64} {m_kindOf : Nat → Int32} {m_onOf : Nat → Int32} {m_seenBranch : Nat → Int32} {m_seenBegins : Nat → Int32} {m_seenWins : Nat → Int32} {m_page : Nat → Int32} {m_winner : Nat → Int32} {m_lasting : Nat → Int32} {m_worthBy : Nat → Int32} {m_wonBy : Nat → Int32} {m_keptKind : Nat → Int32} {m_keptBranch : Nat → Int32} {m_keptBegins : Nat → Int32} {m_keptWins : Nat → Int32} {m_partsBy : Nat → Int64} (I : INV t g_isCharted g_isKept g_hedgesRead g_evensDone g_plen g_number g_setCount g_standing g_turn g_cuts g_ssize g_kstanding g_kturn g_kcuts g_kssize g_seed g_whiteWon g_cutsDone g_lett g_onB g_abv g_sets g_kinds g_sbranches g_sbeginners g_swon g_kkinds g_ksbranches g_ksbeginners g_kswon g_lcuts g_valu g_won g_chance m_hedges m_branches m_stand m_turn m_cuts m_asks m_seen m_pageLength m_isWhole m_newBranches m_gameCuts m_isKept m_keptHedge m_keptStand m_keptTurn m_keptCuts m_keptSeen m_seedNow m_hsh m_kindOf m_onOf m_seenBranch m_seenBegins m_seenWins m_page m_winner m_lasting m_worthBy m_wonBy m_keptKind m_keptBranch m_keptBegins m_keptWins m_partsBy) (p1 : Int32) (p2 : Int32) : ∃ (r : Int32), f_X10_as g_number g_kinds p1 p2 = r ∧ f_X11_as m_branches m_kindOf p1 p2 = r ∧ INV (t + 1) g_isCharted g_isKept g_hedgesRead g_evensDone g_plen g_number g_setCount g_standing g_turn g_cuts g_ssize g_kstanding g_kturn g_kcuts g_kssize g_seed g_whiteWon g_cutsDone g_lett g_onB g_abv g_sets g_kinds g_sbranches g_sbeginners g_swon g_kkinds g_ksbranches g_ksbeginners g_kswon g_lcuts g_valu g_won g_chance m_hedges m_branches m_stand m_turn m_cuts m_asks m_seen m_pageLength m_isWhole m_newBranches m_gameCuts m_isKept m_keptHedge m_keptStand m_keptTurn m_keptCuts m_keptSeen m_seedNow m_hsh m_kindOf m_onOf m_seenBranch m_seenBegins m_seenWins m_page m_winner m_lasting m_worthBy m_wonBy m_keptKind m_keptBranch m_keptBegins m_keptWins m_partsBy := by
  obtain ⟨N, A, L, M, h, c, e, s, kh, kA, kc, ks, rfl, rfl, rfl, rfl, rfl, rfl, rfl, rfl, rfl, rfl, rfl, rfl, rfl, rfl, rfl, rfl, rfl, rfl, rfl, rfl, rfl, rfl, rfl, rfl, rfl, rfl, rfl, rfl, rfl, rfl, rfl, rfl, rfl, rfl, I0⟩ := I
  obtain ⟨I1, ⟨hL, hP⟩, hT, hh, hc, he, hsn, I2⟩ := id I0
  obtain ⟨hN, ho, hK, ha, hsO, hM, hse, hA, hst, hic⟩ := id I1
  by_cases c1 : ∃ b, b < N ∧ p1 = nI b
  · have u := (unk_0 hN).mpr c1
    have v := fun z => (isB_0 hN).mp z c1
    by_cases c2 : ∃ j, j ≤ 4 ∧ p2 = nI j
    · obtain ⟨b, hb, rfl⟩ := c1
      obtain ⟨j, hj, rfl⟩ := c2
      obtain ⟨k, hk5, ek⟩ := isK_nI (hK b hb)
      refine ⟨_, ?_, rfl, ⟨N, A, L, M, h, c, e, s, kh, kA, kc, ks, rfl, rfl, rfl, rfl, rfl, rfl, rfl, rfl, rfl, rfl, rfl, rfl, rfl, rfl, rfl, rfl, rfl, rfl, rfl, rfl, rfl, rfl, rfl, rfl, rfl, rfl, rfl, rfl, rfl, rfl, rfl, rfl, rfl, rfl,  CO_t (by omega) I0⟩⟩
      rw [f_X10_as_s, if_pos u, if_neg (nI_pos (by omega)), if_pos (show nI j < (5 : Int32) from nI_lt (b := 5) (by omega) (by omega)), nI_clamp (by omega : b < 2 ^ 31), nI_clamp (by omega : j < 2 ^ 31), f_X11_as_s, if_neg v, if_neg (show ¬ f_X11_within (nI j) (0 : Int32) (4 : Int32) = 0 from fun z => wi4.mp z ⟨j, hj, rfl⟩), nI_clamp (by omega : b < 2 ^ 31), ek]
      exact as_tab k hk5 j (by omega) b (by omega)
    · have hg : f_X10_as (nI N) g_kinds p1 p2 = (-102 : Int32) := by
        rw [f_X10_as_s, if_pos u]
        by_cases q : p2 < 0
        · rw [if_pos q]
        · rw [if_neg q, if_neg ((kr_0.mpr c2).resolve_left q)]
      have hm : f_X11_as (nI N) g_kinds p1 p2 = (-102 : Int32) := by
        rw [f_X11_as_s, if_neg v, if_pos (wi4.mpr c2)]
      exact ⟨_, hg, hm, ⟨N, A, L, M, h, c, e, s, kh, kA, kc, ks, rfl, rfl, rfl, rfl, rfl, rfl, rfl, rfl, rfl, rfl, rfl, rfl, rfl, rfl, rfl, rfl, rfl, rfl, rfl, rfl, rfl, rfl, rfl, rfl, rfl, rfl, rfl, rfl, rfl, rfl, rfl, rfl, rfl, rfl,  CO_t (by omega) I0⟩⟩
  · have hg : f_X10_as (nI N) g_kinds p1 p2 = (-101 : Int32) := by
      rw [f_X10_as_s, if_neg (fun z => c1 ((unk_0 hN).mp z))]
    have hm : f_X11_as (nI N) g_kinds p1 p2 = (-101 : Int32) := by
      rw [f_X11_as_s, if_pos ((isB_0 hN).mpr c1)]
    exact ⟨_, hg, hm, ⟨N, A, L, M, h, c, e, s, kh, kA, kc, ks, rfl, rfl, rfl, rfl, rfl, rfl, rfl, rfl, rfl, rfl, rfl, rfl, rfl, rfl, rfl, rfl, rfl, rfl, rfl, rfl, rfl, rfl, rfl, rfl, rfl, rfl, rfl, rfl, rfl, rfl, rfl, rfl, rfl, rfl,  CO_t (by omega) I0⟩⟩
theorem E_see {t : Nat} {g_isCharted : Int32} {g_isKept : Int32} {g_hedgesRead : Int32} {g_evensDone : Int32} {g_plen : Int32} {g_number : Int32} {g_setCount : Int32} {g_standing : Int32} {g_turn : Int32} {g_cuts : Int32} {g_ssize : Int32} {g_kstanding : Int32} {g_kturn : Int32} {g_kcuts : Int32} {g_kssize : Int32} {g_seed : Int32} {g_whiteWon : Int32} {g_cutsDone : Int32} {g_lett : Nat → Int32} {g_onB : Nat → Int32} {g_abv : Nat → Int32} {g_sets : Nat → Int32} {g_kinds : Nat → Int32} {g_sbranches : Nat → Int32} {g_sbeginners : Nat → Int32} {g_swon : Nat → Int32} {g_kkinds : Nat → Int32} {g_ksbranches : Nat → Int32} {g_ksbeginners : Nat → Int32} {g_kswon : Nat → Int32} {g_lcuts : Nat → Int32} {g_valu : Nat → Int32} {g_won : Nat → Int64} {g_chance : Nat → Int64} {m_hedges : Int32} {m_branches : Int32} {m_stand : Int32} {m_turn : Int32} {m_cuts : Int32} {m_asks : Int32} {m_seen : Int32} {m_pageLength : Int32} {m_isWhole : Int32} {m_newBranches : Int32} {m_gameCuts : Int32} {m_isKept : Int32} {m_keptHedge : Int32} {m_keptStand : Int32} {m_keptTurn : Int32} {m_keptCuts : Int32} {m_keptSeen : Int32} {m_seedNow : Int64} {m_hsh : Int64} {m_kindOf : Nat → Int32} {m_onOf : Nat → Int32} {m_seenBranch : Nat → Int32} {m_seenBegins : Nat → Int32} {m_seenWins : Nat → Int32} {m_page : Nat → Int32} {m_winner : Nat → Int32} {m_lasting : Nat → Int32} {m_worthBy : Nat → Int32} {m_wonBy : Nat → Int32} {m_keptKind : Nat → Int32} {m_keptBranch : Nat → Int32} {m_keptBegins : Nat → Int32} {m_keptWins : Nat → Int32} {m_partsBy : Nat → Int64} (I : INV t g_isCharted g_isKept g_hedgesRead g_evensDone g_plen g_number g_setCount g_standing g_turn g_cuts g_ssize g_kstanding g_kturn g_kcuts g_kssize g_seed g_whiteWon g_cutsDone g_lett g_onB g_abv g_sets g_kinds g_sbranches g_sbeginners g_swon g_kkinds g_ksbranches g_ksbeginners g_kswon g_lcuts g_valu g_won g_chance m_hedges m_branches m_stand m_turn m_cuts m_asks m_seen m_pageLength m_isWhole m_newBranches m_gameCuts m_isKept m_keptHedge m_keptStand m_keptTurn m_keptCuts m_keptSeen m_seedNow m_hsh m_kindOf m_onOf m_seenBranch m_seenBegins m_seenWins m_page m_winner m_lasting m_worthBy m_wonBy m_keptKind m_keptBranch m_keptBegins m_keptWins m_partsBy) (p1 : Int32) (p2 : Int32) (p3 : Int32) (hp3 : p3 = 0 ∨ p3 = 1) : ∃ (r : Int32) (g_ssize2 : Int32) (g_sbranches2 : Nat → Int32) (g_sbeginners2 : Nat → Int32) (g_swon2 : Nat → Int32) (m_seen2 : Int32) (m_seenBranch2 : Nat → Int32) (m_seenBegins2 : Nat → Int32) (m_seenWins2 : Nat → Int32), f_X10_see g_number g_ssize g_sbranches g_sbeginners g_swon p1 p2 p3 = (r, g_ssize2, g_sbranches2, g_sbeginners2, g_swon2) ∧ f_X11_see m_branches m_seen m_seenBranch m_seenBegins m_seenWins p1 p2 p3 = (r, m_seen2, m_seenBranch2, m_seenBegins2, m_seenWins2) ∧ INV (t + 1) g_isCharted g_isKept g_hedgesRead g_evensDone g_plen g_number g_setCount g_standing g_turn g_cuts g_ssize2 g_kstanding g_kturn g_kcuts g_kssize g_seed g_whiteWon g_cutsDone g_lett g_onB g_abv g_sets g_kinds g_sbranches2 g_sbeginners2 g_swon2 g_kkinds g_ksbranches g_ksbeginners g_kswon g_lcuts g_valu g_won g_chance m_hedges m_branches m_stand m_turn m_cuts m_asks m_seen2 m_pageLength m_isWhole m_newBranches m_gameCuts m_isKept m_keptHedge m_keptStand m_keptTurn m_keptCuts m_keptSeen m_seedNow m_hsh m_kindOf m_onOf m_seenBranch2 m_seenBegins2 m_seenWins2 m_page m_winner m_lasting m_worthBy m_wonBy m_keptKind m_keptBranch m_keptBegins m_keptWins m_partsBy := by
  obtain ⟨N, A, L, M, h, c, e, s, kh, kA, kc, ks, rfl, rfl, rfl, rfl, rfl, rfl, rfl, rfl, rfl, rfl, rfl, rfl, rfl, rfl, rfl, rfl, rfl, rfl, rfl, rfl, rfl, rfl, rfl, rfl, rfl, rfl, rfl, rfl, rfl, rfl, rfl, rfl, rfl, rfl, I0⟩ := I
  obtain ⟨I1, ⟨hL, hP⟩, hT, hh, hc, he, hsn, I2⟩ := id I0
  obtain ⟨hN, ho, hK, ha, hsO, hM, hse, hA, hst, hic⟩ := id I1
  obtain ⟨a1, a2, a3, a4, a5, a6, a7, a8⟩ := id I0
  by_cases c1 : ∃ b, b < N ∧ p1 = nI b
  · have u := (unk_0 hN).mpr c1
    have v := fun z => (isB_0 hN).mp z c1
    by_cases c2 : ∃ j, j ≤ 1 ∧ p2 = nI j
    · have u2 := side_0.mpr c2
      have v2 : ¬ f_X11_within p2 (0 : Int32) (1 : Int32) = 0 := fun z => wi1.mp z c2
      have h6 := hsn.1
      by_cases c3 : s = 6
      · subst c3
        have hg : f_X10_see (nI N) (nI 6) g_sbranches g_sbeginners g_swon p1 p2 p3 = ((-104 : Int32), nI 6, g_sbranches, g_sbeginners, g_swon) := by
          rw [f_X10_see_s, if_pos u, if_pos u2, if_neg (by decide)]
        have hm : f_X11_see (nI N) (nI 6) g_sbranches g_sbeginners g_swon p1 p2 p3 = ((-104 : Int32), nI 6, g_sbranches, g_sbeginners, g_swon) := by
          rw [f_X11_see_s, if_neg v, if_neg v2, if_pos (show nI 6 = (6 : Int32) from rfl)]
        exact ⟨_, _, _, _, _, _, _, _, _, hg, hm, ⟨N, A, L, M, h, c, e, 6, kh, kA, kc, ks, rfl, rfl, rfl, rfl, rfl, rfl, rfl, rfl, rfl, rfl, rfl, rfl, rfl, rfl, rfl, rfl, rfl, rfl, rfl, rfl, rfl, rfl, rfl, rfl, rfl, rfl, rfl, rfl, rfl, rfl, rfl, rfl, rfl, rfl,  CO_t (by omega) I0⟩⟩
      · have l6 : nI s < (6 : Int32) := nI_lt (b := 6) (by omega) (by omega)
        have hnb : vp_nar .boolean p3 = p3 := by rcases hp3 with e | e <;> rw [e] <;> rfl
        have hadd : f_X7_add_now (nI s) g_sbranches g_sbeginners g_swon p1 p2 p3 = (nI (s + 1), upd g_sbranches s p1, upd g_sbeginners s p2, upd g_swon s p3) := by
          rw [f_X7_add_now_s, if_neg (show ¬ (6 : Int32) ≤ nI s from nI_ge (b := 6) (by omega) (by omega)), nI_1, nI_clamp (by omega : s < 2 ^ 31), hnb]
        have hg : f_X10_see (nI N) (nI s) g_sbranches g_sbeginners g_swon p1 p2 p3 = (nI (s + 1), nI (s + 1), upd g_sbranches s p1, upd g_sbeginners s p2, upd g_swon s p3) := by
          rw [f_X10_see_s, if_pos u, if_pos u2, if_pos l6, hadd]
        have hm : f_X11_see (nI N) (nI s) g_sbranches g_sbeginners g_swon p1 p2 p3 = (nI (s + 1), nI (s + 1), upd g_sbranches s p1, upd g_sbeginners s p2, upd g_swon s p3) := by
          rw [f_X11_see_s, if_neg v, if_neg v2, if_neg (show ¬ nI s = (6 : Int32) from fun q => c3 ((nI_inj (b := 6) (by omega) (by omega)).mp q)), nI_1, nI_clamp (by omega : s < 2 ^ 31)]
          rcases hp3 with e | e
          · rw [e, if_pos rfl]
          · rw [e, if_neg (by decide)]
        refine ⟨_, _, _, _, _, _, _, _, _, hg, hm, ⟨N, A, L, M, h, c, e, s+1, kh, kA, kc, ks, rfl, rfl, rfl, rfl, rfl, rfl, rfl, rfl, rfl, rfl, rfl, rfl, rfl, rfl, rfl, rfl, rfl, rfl, rfl, rfl, rfl, rfl, rfl, rfl, rfl, rfl, rfl, rfl, rfl, rfl, rfl, rfl, rfl, rfl,  ⟨a1, a2, a3, by omega, a5, a6, ⟨by omega, fun k hk => ?_, fun k => ?_⟩, a8⟩⟩⟩
        · by_cases q : k = s
          · subst q; rw [pk_us]
            obtain ⟨j, hj, e⟩ := c2
            rw [e]; exact nI_01 hj
          · rw [pk_un q]; exact hsn.2.1 k (by omega)
        · by_cases q : k = s
          · subst q; rw [pk_us]; exact hp3
          · rw [pk_un q]; exact hsn.2.2 k
    · have hg : f_X10_see (nI N) (nI s) g_sbranches g_sbeginners g_swon p1 p2 p3 = ((-102 : Int32), nI s, g_sbranches, g_sbeginners, g_swon) := by
        rw [f_X10_see_s, if_pos u, if_neg (fun z => c2 (side_0.mp z))]
      have hm : f_X11_see (nI N) (nI s) g_sbranches g_sbeginners g_swon p1 p2 p3 = ((-102 : Int32), nI s, g_sbranches, g_sbeginners, g_swon) := by
        rw [f_X11_see_s, if_neg v, if_pos (wi1.mpr c2)]
      exact ⟨_, _, _, _, _, _, _, _, _, hg, hm, ⟨N, A, L, M, h, c, e, s, kh, kA, kc, ks, rfl, rfl, rfl, rfl, rfl, rfl, rfl, rfl, rfl, rfl, rfl, rfl, rfl, rfl, rfl, rfl, rfl, rfl, rfl, rfl, rfl, rfl, rfl, rfl, rfl, rfl, rfl, rfl, rfl, rfl, rfl, rfl, rfl, rfl,  CO_t (by omega) I0⟩⟩
  · have hg : f_X10_see (nI N) (nI s) g_sbranches g_sbeginners g_swon p1 p2 p3 = ((-101 : Int32), nI s, g_sbranches, g_sbeginners, g_swon) := by
      rw [f_X10_see_s, if_neg (fun z => c1 ((unk_0 hN).mp z))]
    have hm : f_X11_see (nI N) (nI s) g_sbranches g_sbeginners g_swon p1 p2 p3 = ((-101 : Int32), nI s, g_sbranches, g_sbeginners, g_swon) := by
      rw [f_X11_see_s, if_pos ((isB_0 hN).mpr c1)]
    exact ⟨_, _, _, _, _, _, _, _, _, hg, hm, ⟨N, A, L, M, h, c, e, s, kh, kA, kc, ks, rfl, rfl, rfl, rfl, rfl, rfl, rfl, rfl, rfl, rfl, rfl, rfl, rfl, rfl, rfl, rfl, rfl, rfl, rfl, rfl, rfl, rfl, rfl, rfl, rfl, rfl, rfl, rfl, rfl, rfl, rfl, rfl, rfl, rfl,  CO_t (by omega) I0⟩⟩
theorem E_cut {t : Nat} {g_isCharted : Int32} {g_isKept : Int32} {g_hedgesRead : Int32} {g_evensDone : Int32} {g_plen : Int32} {g_number : Int32} {g_setCount : Int32} {g_standing : Int32} {g_turn : Int32} {g_cuts : Int32} {g_ssize : Int32} {g_kstanding : Int32} {g_kturn : Int32} {g_kcuts : Int32} {g_kssize : Int32} {g_seed : Int32} {g_whiteWon : Int32} {g_cutsDone : Int32} {g_lett : Nat → Int32} {g_onB : Nat → Int32} {g_abv : Nat → Int32} {g_sets : Nat → Int32} {g_kinds : Nat → Int32} {g_sbranches : Nat → Int32} {g_sbeginners : Nat → Int32} {g_swon : Nat → Int32} {g_kkinds : Nat → Int32} {g_ksbranches : Nat → Int32} {g_ksbeginners : Nat → Int32} {g_kswon : Nat → Int32} {g_lcuts : Nat → Int32} {g_valu : Nat → Int32} {g_won : Nat → Int64} {g_chance : Nat → Int64} {m_hedges : Int32} {m_branches : Int32} {m_stand : Int32} {m_turn : Int32} {m_cuts : Int32} {m_asks : Int32} {m_seen : Int32} {m_pageLength : Int32} {m_isWhole : Int32} {m_newBranches : Int32} {m_gameCuts : Int32} {m_isKept : Int32} {m_keptHedge : Int32} {m_keptStand : Int32} {m_keptTurn : Int32} {m_keptCuts : Int32} {m_keptSeen : Int32} {m_seedNow : Int64} {m_hsh : Int64} {m_kindOf : Nat → Int32} {m_onOf : Nat → Int32} {m_seenBranch : Nat → Int32} {m_seenBegins : Nat → Int32} {m_seenWins : Nat → Int32} {m_page : Nat → Int32} {m_winner : Nat → Int32} {m_lasting : Nat → Int32} {m_worthBy : Nat → Int32} {m_wonBy : Nat → Int32} {m_keptKind : Nat → Int32} {m_keptBranch : Nat → Int32} {m_keptBegins : Nat → Int32} {m_keptWins : Nat → Int32} {m_partsBy : Nat → Int64} (I : INV t g_isCharted g_isKept g_hedgesRead g_evensDone g_plen g_number g_setCount g_standing g_turn g_cuts g_ssize g_kstanding g_kturn g_kcuts g_kssize g_seed g_whiteWon g_cutsDone g_lett g_onB g_abv g_sets g_kinds g_sbranches g_sbeginners g_swon g_kkinds g_ksbranches g_ksbeginners g_kswon g_lcuts g_valu g_won g_chance m_hedges m_branches m_stand m_turn m_cuts m_asks m_seen m_pageLength m_isWhole m_newBranches m_gameCuts m_isKept m_keptHedge m_keptStand m_keptTurn m_keptCuts m_keptSeen m_seedNow m_hsh m_kindOf m_onOf m_seenBranch m_seenBegins m_seenWins m_page m_winner m_lasting m_worthBy m_wonBy m_keptKind m_keptBranch m_keptBegins m_keptWins m_partsBy) (p1 : Int32) : ∃ (r : Int32) (g_standing2 : Int32) (g_turn2 : Int32) (g_cuts2 : Int32) (m_stand2 : Int32) (m_turn2 : Int32) (m_cuts2 : Int32), f_X10_cut g_number g_standing g_turn g_cuts g_abv g_kinds p1 = (r, g_standing2, g_turn2, g_cuts2) ∧ f_X11_cut m_branches m_stand m_turn m_cuts m_kindOf m_onOf p1 = (r, m_stand2, m_turn2, m_cuts2) ∧ INV (t + 1) g_isCharted g_isKept g_hedgesRead g_evensDone g_plen g_number g_setCount g_standing2 g_turn2 g_cuts2 g_ssize g_kstanding g_kturn g_kcuts g_kssize g_seed g_whiteWon g_cutsDone g_lett g_onB g_abv g_sets g_kinds g_sbranches g_sbeginners g_swon g_kkinds g_ksbranches g_ksbeginners g_kswon g_lcuts g_valu g_won g_chance m_hedges m_branches m_stand2 m_turn2 m_cuts2 m_asks m_seen m_pageLength m_isWhole m_newBranches m_gameCuts m_isKept m_keptHedge m_keptStand m_keptTurn m_keptCuts m_keptSeen m_seedNow m_hsh m_kindOf m_onOf m_seenBranch m_seenBegins m_seenWins m_page m_winner m_lasting m_worthBy m_wonBy m_keptKind m_keptBranch m_keptBegins m_keptWins m_partsBy := by
  obtain ⟨N, A, L, M, h, c, e, s, kh, kA, kc, ks, rfl, rfl, rfl, rfl, rfl, rfl, rfl, rfl, rfl, rfl, rfl, rfl, rfl, rfl, rfl, rfl, rfl, rfl, rfl, rfl, rfl, rfl, rfl, rfl, rfl, rfl, rfl, rfl, rfl, rfl, rfl, rfl, rfl, rfl, I0⟩ := I
  obtain ⟨I1, ⟨hL, hP⟩, hT, hh, hc, he, hsn, I2⟩ := id I0
  obtain ⟨hN, ho, hK, ha, hsO, hM, hse, hA, hst, hic⟩ := id I1
  obtain ⟨a1, a2, a3, a4, a5, a6, a7, a8⟩ := id I0
  by_cases c1 : ∃ b, b < N ∧ p1 = nI b
  · have u := (unk_0 hN).mpr c1
    have v := fun z => (isB_0 hN).mp z c1
    obtain ⟨b, hb, rfl⟩ := c1
    obtain ⟨w, hw, ew⟩ := tu_w hT
    have hcb : (((f_X6_choices (nI N) g_abv g_kinds g_turn (nI A)) >>> (nI b &&& 31)) &&& (1 : Int32)) = 0 ↔ f_X11_mayCut (nI N) g_kinds g_onB g_turn (nI b) (nI A) = 0 := by
      rw [ew, ch_bit hN ha hK hb, ← mC_gC hN ho hb (hK b hb) hw hst]
      exact Classical.not_not
    by_cases c2 : f_X11_mayCut (nI N) g_kinds g_onB g_turn (nI b) (nI A) = 0
    · have hg : f_X10_cut (nI N) (nI A) g_turn (nI c) g_abv g_kinds (nI b) = ((-103 : Int32), nI A, g_turn, nI c) := by
        rw [f_X10_cut_s, if_pos u, if_pos (hcb.mpr c2)]
      have hm : f_X11_cut (nI N) (nI A) g_turn (nI c) g_kinds g_onB (nI b) = ((-103 : Int32), nI A, g_turn, nI c) := by
        rw [f_X11_cut_s, if_neg v, if_pos c2]
      exact ⟨_, _, _, _, _, _, _, hg, hm, ⟨N, A, L, M, h, c, e, s, kh, kA, kc, ks, rfl, rfl, rfl, rfl, rfl, rfl, rfl, rfl, rfl, rfl, rfl, rfl, rfl, rfl, rfl, rfl, rfl, rfl, rfl, rfl, rfl, rfl, rfl, rfl, rfl, rfl, rfl, rfl, rfl, rfl, rfl, rfl, rfl, rfl,  CO_t (by omega) I0⟩⟩
    · by_cases c3 : c = 999
      · subst c3
        have hg : f_X10_cut (nI N) (nI A) g_turn (nI 999) g_abv g_kinds (nI b) = ((-104 : Int32), nI A, g_turn, nI 999) := by
          rw [f_X10_cut_s, if_pos u, if_neg (fun z => c2 (hcb.mp z)), if_neg (by decide)]
        have hm : f_X11_cut (nI N) (nI A) g_turn (nI 999) g_kinds g_onB (nI b) = ((-104 : Int32), nI A, g_turn, nI 999) := by
          rw [f_X11_cut_s, if_neg v, if_neg c2, if_pos (show nI 999 = (999 : Int32) from rfl)]
        exact ⟨_, _, _, _, _, _, _, hg, hm, ⟨N, A, L, M, h, 999, e, s, kh, kA, kc, ks, rfl, rfl, rfl, rfl, rfl, rfl, rfl, rfl, rfl, rfl, rfl, rfl, rfl, rfl, rfl, rfl, rfl, rfl, rfl, rfl, rfl, rfl, rfl, rfl, rfl, rfl, rfl, rfl, rfl, rfl, rfl, rfl, rfl, rfl,  CO_t (by omega) I0⟩⟩
      · obtain ⟨l1, l2⟩ := LV_nI (N := N) (on := g_onB) (b := b) hA
        have hst2 : stds N g_onB (nI (lv N g_onB b A)) := by rw [← l1]; exact LV_st hN ho hb hst
        have hg : f_X10_cut (nI N) (nI A) g_turn (nI c) g_abv g_kinds (nI b) = (f_X11_size (nI A) - f_X11_size (nI (lv N g_onB b A)), nI (lv N g_onB b A), (1 : Int32) - g_turn, nI (c + 1)) := by
          rw [f_X10_cut_s, if_pos u, if_neg (fun z => c2 (hcb.mp z)), if_pos (show nI c < (999 : Int32) from nI_lt (b := 999) (by omega) (by omega)), leftBy_LV (by omega) (ha b hb), l1, nI_1, size_bc (st_hi hN hst), size_bc (st_hi hN hst2)]
        have hm : f_X11_cut (nI N) (nI A) g_turn (nI c) g_kinds g_onB (nI b) = (f_X11_size (nI A) - f_X11_size (nI (lv N g_onB b A)), nI (lv N g_onB b A), (1 : Int32) - g_turn, nI (c + 1)) := by
          rw [f_X11_cut_s, if_neg v, if_neg c2, if_neg (show ¬ nI c = (999 : Int32) from fun q => c3 ((nI_inj (b := 999) (by omega) (by omega)).mp q)), leaves_LV, l1, nI_1]
        have e2 : (1 : Int32) - g_turn = 0 ∨ (1 : Int32) - g_turn = 1 := by rcases hT with q | q <;> rw [q] <;> decide
        exact ⟨_, _, _, _, _, _, _, hg, hm, ⟨N, (lv N g_onB b A), L, M, h, c+1, e, s, kh, kA, kc, ks, rfl, rfl, rfl, rfl, rfl, rfl, rfl, rfl, rfl, rfl, rfl, rfl, rfl, rfl, rfl, rfl, rfl, rfl, rfl, rfl, rfl, rfl, rfl, rfl, rfl, rfl, rfl, rfl, rfl, rfl, rfl, rfl, rfl, rfl,  ⟨⟨hN, ho, hK, ha, hsO, hM, hse, l2, hst2, hic⟩, a2, e2, by omega, by omega, a6, a7, a8⟩⟩⟩
  · have hg : f_X10_cut (nI N) (nI A) g_turn (nI c) g_abv g_kinds p1 = ((-101 : Int32), nI A, g_turn, nI c) := by
      rw [f_X10_cut_s, if_neg (fun z => c1 ((unk_0 hN).mp z))]
    have hm : f_X11_cut (nI N) (nI A) g_turn (nI c) g_kinds g_onB p1 = ((-101 : Int32), nI A, g_turn, nI c) := by
      rw [f_X11_cut_s, if_pos ((isB_0 hN).mpr c1)]
    exact ⟨_, _, _, _, _, _, _, hg, hm, ⟨N, A, L, M, h, c, e, s, kh, kA, kc, ks, rfl, rfl, rfl, rfl, rfl, rfl, rfl, rfl, rfl, rfl, rfl, rfl, rfl, rfl, rfl, rfl, rfl, rfl, rfl, rfl, rfl, rfl, rfl, rfl, rfl, rfl, rfl, rfl, rfl, rfl, rfl, rfl, rfl, rfl,  CO_t (by omega) I0⟩⟩
