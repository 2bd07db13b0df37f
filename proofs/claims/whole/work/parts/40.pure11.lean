/-! the charts, filled -/
def aOK (N : Nat) (on K lc va : Nat → Int32) (won chn : Nat → Int64) (S : Nat) : Prop := (∀ w, w ≤ 1 → oW N on K won w S ∧ oL N on K lc w S ∧ oP N on K chn w S) ∧ oV N on K va S
theorem uLs {f : Nat → Int64} {k : Nat} {x : Int64} : vp_updL f k x k = x := pk_uLs
theorem uLn {f : Nat → Int64} {k j : Nat} {x : Int64} (h : j ≠ k) : vp_updL f k x j = f j := pk_uLn h
theorem oW_keep {N : Nat} {on K : Nat → Int32} {won : Nat → Int64} {w S w' S' : Nat} {V : Int64} (h : oW N on K won w' S') (hS : S < 256) (hS' : S' < 256) (hne : S' ≠ S ∨ w' ≠ w) : oW N on K (vp_updL won (w * 256 + S) V) w' S' := by
  intro i hi
  rw [uLn (by omega)]
  exact h i hi
theorem oP_keep {N : Nat} {on K : Nat → Int32} {chn : Nat → Int64} {w S w' S' : Nat} {V : Int64} (h : oP N on K chn w' S') (hS : S < 256) (hS' : S' < 256) (hne : S' ≠ S ∨ w' ≠ w) : oP N on K (vp_updL chn (w * 256 + S) V) w' S' := by
  unfold oP
  rw [uLn (by omega)]
  exact h
theorem oL_keep {N : Nat} {on K lc : Nat → Int32} {w S w' S' : Nat} {V : Int32} (h : oL N on K lc w' S') (hS : S < 256) (hS' : S' < 256) (hne : S' ≠ S ∨ w' ≠ w) : oL N on K (upd lc (w * 256 + S) V) w' S' := by
  refine ⟨?_, h.2⟩
  rw [pk_un (by omega)]
  exact h.1
theorem oV_keep {N : Nat} {on K va : Nat → Int32} {S S' : Nat} {V : Int32} (h : oV N on K va S') (hne : S' ≠ S) : oV N on K (upd va S V) S' := by
  refine ⟨?_, h.2⟩
  rw [pk_un hne]
  exact h.1
theorem ch_step {N : Nat} (hN : N ≤ 8) {on abv K lc va : Nat → Int32} {won chn : Nat → Int64} (ho : hOn N on) (ha : ∀ b, b < N → abv b = AB N on b) (hk : ∀ b, b < N → isK (K b)) {S : Nat} (hS : S < 256) (hs : stds N on (nI S)) (low : ∀ S', S' < S → stds N on (nI S') → aOK N on K lc va won chn S') :
    ∃ (lc2 va2 : Nat → Int32) (won2 chn2 : Nat → Int64),
      f_X4_enter (nI N) abv K (f_X4_enter (nI N) abv K won (nI 0) (nI S)) (nI 1) (nI S) = won2 ∧
      f_X1_enter (nI N) abv (f_X1_enter (nI N) abv lc won2 (nI 0) (nI S) (f_X6_choices (nI N) abv K (nI 0) (nI S))) won2 (nI 1) (nI S) (f_X6_choices (nI N) abv K (nI 1) (nI S)) = lc2 ∧
      f_X9_enter (nI N) abv va (nI S) (f_X6_choices (nI N) abv K (nI 0) (nI S)) (f_X6_choices (nI N) abv K (nI 1) (nI S)) = va2 ∧
      f_X0_enter (nI N) abv (f_X0_enter (nI N) abv chn (nI 0) (nI S) (f_X6_choices (nI N) abv K (nI 0) (nI S))) (nI 1) (nI S) (f_X6_choices (nI N) abv K (nI 1) (nI S)) = chn2 ∧
      aOK N on K lc2 va2 won2 chn2 S ∧ ∀ S', S' < 256 → S' ≠ S → aOK N on K lc va won chn S' → aOK N on K lc2 va2 won2 chn2 S' := by
  obtain ⟨V0, w1, w2⟩ := eW hN ho ha hk (w := 0) (by omega) hS hs (fun S' h1 h2 => ((low S' h1 h2).1 1 (by omega)).1)
  have lowW1 : ∀ S', S' < S → stds N on (nI S') → oW N on K (vp_updL won (0 * 256 + S) V0) 0 S' := fun S' h1 h2 => oW_keep ((low S' h1 h2).1 0 (by omega)).1 hS (by omega) (Or.inl (by omega))
  obtain ⟨V1, w3, w4⟩ := eW hN ho ha hk (w := 1) (won := vp_updL won (0 * 256 + S) V0) (by omega) hS hs lowW1
  have hW0 : oW N on K (vp_updL (vp_updL won (0 * 256 + S) V0) (1 * 256 + S) V1) 0 S := by
    intro i hi
    rw [uLn (by omega), uLs]
    exact w2 i hi
  have hW1 : oW N on K (vp_updL (vp_updL won (0 * 256 + S) V0) (1 * 256 + S) V1) 1 S := by
    intro i hi
    rw [uLs]
    exact w4 i hi
  have keepW : ∀ w' S', S' < 256 → S' ≠ S → oW N on K won w' S' → oW N on K (vp_updL (vp_updL won (0 * 256 + S) V0) (1 * 256 + S) V1) w' S' := fun w' S' h1 h2 h => oW_keep (oW_keep h hS h1 (Or.inl h2)) hS h1 (Or.inl h2)
  generalize hwon2 : vp_updL (vp_updL won (0 * 256 + S) V0) (1 * 256 + S) V1 = won2 at hW0 hW1 keepW w3
  have l0 := eL hN (lc := lc) (won := won2) ho ha hk (w := 0) (by omega) hS hs hW0 (fun S' h1 h2 => ⟨keepW 1 S' (by omega) (by omega) ((low S' h1 h2).1 1 (by omega)).1, ((low S' h1 h2).1 1 (by omega)).2.1⟩)
  have l1 := eL hN (lc := upd lc (0 * 256 + S) (TL N on K (2 * S + 0))) (won := won2) ho ha hk (w := 1) (by omega) hS hs hW1 (fun S' h1 h2 => ⟨keepW 0 S' (by omega) (by omega) ((low S' h1 h2).1 0 (by omega)).1, oL_keep ((low S' h1 h2).1 0 (by omega)).2.1 hS (by omega) (Or.inl (by omega))⟩)
  have v0 := eV hN (va := va) ho ha hk hS hs (fun S' h1 h2 => (low S' h1 h2).2)
  have c0 := eC hN (chn := chn) ho ha hk (w := 0) (by omega) hS hs (fun S' h1 h2 => ((low S' h1 h2).1 1 (by omega)).2.2)
  have c1 := eC hN (chn := vp_updL chn (0 * 256 + S) (TP N on K (2 * S + 0))) ho ha hk (w := 1) (by omega) hS hs (fun S' h1 h2 => oP_keep ((low S' h1 h2).1 0 (by omega)).2.2 hS (by omega) (Or.inl (by omega)))
  refine ⟨upd (upd lc (0 * 256 + S) (TL N on K (2 * S + 0))) (1 * 256 + S) (TL N on K (2 * S + 1)), upd va S (TV N on K S), won2, vp_updL (vp_updL chn (0 * 256 + S) (TP N on K (2 * S + 0))) (1 * 256 + S) (TP N on K (2 * S + 1)), by rw [w1, w3], (congrArg (fun z => f_X1_enter (nI N) abv z won2 (nI 1) (nI S) (f_X6_choices (nI N) abv K (nI 1) (nI S))) l0.1).trans l1.1, v0.1, (congrArg (fun z => f_X0_enter (nI N) abv z (nI 1) (nI S) (f_X6_choices (nI N) abv K (nI 1) (nI S))) c0).trans c1, ⟨?_, ?_⟩, ?_⟩
  · intro w hw
    rcases (show w = 0 ∨ w = 1 by omega) with e | e
    · subst e
      refine ⟨hW0, ⟨?_, l0.2⟩, ?_⟩
      · rw [pk_un (by omega), pk_us]
      · unfold oP
        rw [uLn (by omega), uLs]
    · subst e
      refine ⟨hW1, ⟨?_, l1.2⟩, ?_⟩
      · rw [pk_us]
      · unfold oP
        rw [uLs]
  · refine ⟨?_, v0.2⟩
    rw [pk_us]
  · intro S' h1 h2 h
    refine ⟨fun w hw => ⟨keepW w S' h1 h2 (h.1 w hw).1, oL_keep (oL_keep (h.1 w hw).2.1 hS h1 (Or.inl h2)) hS h1 (Or.inl h2), oP_keep (oP_keep (h.1 w hw).2.2 hS h1 (Or.inl h2)) hS h1 (Or.inl h2)⟩, oV_keep h.2 h2⟩
/-- the list of the sets that can stand -/
def sOK (N : Nat) (on sets : Nat → Int32) (M : Nat) : Prop := M ≤ 256 ∧ (∀ i, i < M → ∃ S, S < 256 ∧ sets i = nI S ∧ stds N on (nI S)) ∧ (∀ i j S S', i < j → j < M → S < 256 → S' < 256 → sets i = nI S → sets j = nI S' → S < S') ∧ (∀ S, S < 256 → stds N on (nI S) → ∃ i, i < M ∧ sets i = nI S)
theorem chart_L {N : Nat} (hN : N ≤ 8) {on abv K sets : Nat → Int32} (ho : hOn N on) (ha : ∀ b, b < N → abv b = AB N on b) (hk : ∀ b, b < N → isK (K b)) {M : Nat} (hs : sOK N on sets M) (ic : Int32) :
    ∀ (m k : Nat) (lc va : Nat → Int32) (won chn : Nat → Int64), M < k + m → k ≤ M → (∀ i S, i < k → S < 256 → sets i = nI S → aOK N on K lc va won chn S) →
      ∃ lc2 va2 won2 chn2, f_X10_chart_L10 m ic (nI N) (nI M) abv sets K lc va won chn (nI k) = ((1 : Int32), lc2, va2, won2, chn2) ∧ ∀ S, S < 256 → stds N on (nI S) → aOK N on K lc2 va2 won2 chn2 S := by
  obtain ⟨s1, s2, s3, s4⟩ := hs
  intro m
  induction m with
  | zero => intro k lc va won chn h1 h2; omega
  | succ m ih =>
    intro k lc va won chn h1 h2 h3
    rw [f_X10_chart_L10_s, nI_1, nI_clamp (by omega : k < 2 ^ 31)]
    by_cases hkM : k = M
    · subst hkM
      rw [if_pos (nI_le (Nat.le_refl _) (by omega))]
      refine ⟨lc, va, won, chn, rfl, fun S hS hst => ?_⟩
      obtain ⟨i, hi, e⟩ := s4 S hS hst
      exact h3 i S hi hS e
    · have hlt : k < M := by omega
      rw [if_neg (nI_ge hlt (by omega))]
      obtain ⟨S, hS, eS, hst⟩ := s2 k hlt
      have low : ∀ S', S' < S → stds N on (nI S') → aOK N on K lc va won chn S' := by
        intro S' g1 g2
        obtain ⟨i, hi, e⟩ := s4 S' (by omega) g2
        refine h3 i S' ?_ (by omega) e
        rcases Nat.lt_or_ge i k with q | q
        · exact q
        · exfalso
          rcases Nat.eq_or_lt_of_le q with z | z
          · subst z
            have := (nI_inj (by omega) (by omega)).mp (eS.symm.trans e)
            omega
          · have := s3 k i S S' z hi hS (by omega) eS e
            omega
      obtain ⟨lc2, va2, won2, chn2, e1, e2, e3, e4, e5, e6⟩ := ch_step hN ho ha hk hS hst low
      rw [eS]
      have e1' : f_X4_enter (nI N) abv K (f_X4_enter (nI N) abv K won (0 : Int32) (nI S)) (1 : Int32) (nI S) = won2 := e1
      have e2' : f_X1_enter (nI N) abv (f_X1_enter (nI N) abv lc won2 (0 : Int32) (nI S) (f_X6_choices (nI N) abv K (0 : Int32) (nI S))) won2 (1 : Int32) (nI S) (f_X6_choices (nI N) abv K (1 : Int32) (nI S)) = lc2 := e2
      have e3' : f_X9_enter (nI N) abv va (nI S) (f_X6_choices (nI N) abv K (0 : Int32) (nI S)) (f_X6_choices (nI N) abv K (1 : Int32) (nI S)) = va2 := e3
      have e4' : f_X0_enter (nI N) abv (f_X0_enter (nI N) abv chn (0 : Int32) (nI S) (f_X6_choices (nI N) abv K (0 : Int32) (nI S))) (1 : Int32) (nI S) (f_X6_choices (nI N) abv K (1 : Int32) (nI S)) = chn2 := e4
      rw [e1', e2', e3', e4']
      refine ih (k + 1) lc2 va2 won2 chn2 (by omega) (by omega) ?_
      intro i S' hi hS' eS'
      by_cases q : S' = S
      · subst q; exact e5
      · refine e6 S' hS' q (h3 i S' ?_ hS' eS')
        rcases Nat.eq_or_lt_of_le (Nat.lt_succ_iff.mp hi) with z | z
        · subst z
          exact absurd ((nI_inj (by omega) (by omega)).mp (eS'.symm.trans eS)) q
        · exact z
def allOK (N : Nat) (on K lc va : Nat → Int32) (won chn : Nat → Int64) : Prop := ∀ S, S < 256 → stds N on (nI S) → aOK N on K lc va won chn S
theorem chart_ok {N : Nat} (hN : N ≤ 8) {on abv K sets lc va : Nat → Int32} {won chn : Nat → Int64} (ho : hOn N on) (ha : ∀ b, b < N → abv b = AB N on b) (hk : ∀ b, b < N → isK (K b)) {M : Nat} (hs : sOK N on sets M) {ic : Int32} (hic : ic = 0 ∨ (ic = 1 ∧ allOK N on K lc va won chn)) :
    ∃ lc2 va2 won2 chn2, f_X10_chart ic (nI N) (nI M) abv sets K lc va won chn = ((1 : Int32), lc2, va2, won2, chn2) ∧ allOK N on K lc2 va2 won2 chn2 := by
  rw [f_X10_chart_s]
  rcases hic with e | ⟨e, h⟩
  · rw [if_pos e]
    exact chart_L hN ho ha hk hs ic 257 0 lc va won chn (by have := hs.1; omega) (by omega) (fun i S h => by omega)
  · rw [if_neg (by rw [e]; decide), e]
    exact ⟨lc, va, won, chn, rfl, h⟩
