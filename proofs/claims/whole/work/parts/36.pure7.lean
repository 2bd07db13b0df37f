/-! how long: the class's chart of lengths and the reference's -/
theorem lf_congr2L {N : Nat} (hN : N ≤ 8) {K on W W' T T' : Nat → Int32} {S w : Nat} (hS : S < 256) (hw : w ≤ 1) (h : ∀ b, b < N → mC N K on w b S → T' (2 * lv N on b S + (1 - w)) = T (2 * lv N on b S + (1 - w)) ∧ W' (2 * lv N on b S + (1 - w)) = W (2 * lv N on b S + (1 - w))) (x3 : Int32) :
    ∀ (m k : Nat) (x4 : Int32), N < k + m → k ≤ N → f_X11_lastingFrom_L35 m (nI N) K on W' T' (nI S) (nI w) x3 x4 (nI k) = f_X11_lastingFrom_L35 m (nI N) K on W T (nI S) (nI w) x3 x4 (nI k) := by
  intro m
  induction m with
  | zero => intro k x4 h1 h2; omega
  | succ m ih =>
    intro k x4 h1 h2
    by_cases hk : k = N
    · subst hk
      rw [lf_end hN, lf_end hN]
    · rw [lf_step hN hS hw m k (by omega), lf_step hN hS hw m k (by omega)]
      by_cases c1 : f_X11_mayCut (nI N) K on (nI w) (nI k) (nI S) = 0
      · rw [if_pos c1, if_pos c1]
        exact ih (k + 1) _ (by omega) (by omega)
      · rw [if_neg c1, if_neg c1, (h k (by omega) c1).1, (h k (by omega) c1).2]
        exact ih (k + 1) _ (by omega) (by omega)
theorem lf_congr2 {N : Nat} (hN : N ≤ 8) {K on W W' T T' : Nat → Int32} {S w : Nat} (hS : S < 256) (hw : w ≤ 1) (h0 : W' (2 * S + w) = W (2 * S + w)) (h : ∀ b, b < N → mC N K on w b S → T' (2 * lv N on b S + (1 - w)) = T (2 * lv N on b S + (1 - w)) ∧ W' (2 * lv N on b S + (1 - w)) = W (2 * lv N on b S + (1 - w))) : f_X11_lastingFrom (nI N) K on W' T' (nI S) (nI w) = f_X11_lastingFrom (nI N) K on W T (nI S) (nI w) := by
  rw [lf_s hS hw, lf_s hS hw, lf_congr2L hN hS hw h _ 9 0 _ (by omega) (by omega), lf_congr2L hN hS hw h _ 9 0 _ (by omega) (by omega), h0]
theorem uL {N : Nat} (hN : N ≤ 8) {on K W T : Nat → Int32} {A : Nat} (hA : A < 256) (hAF : sub A (FU N)) (hW : ∀ S, S < 256 → sub S A → ∀ w, w ≤ 1 → W (2 * S + w) = TW N on K (2 * S + w)) (h : ∀ S w, S < A + 1 → w ≤ 1 → sub S A → T (2 * S + w) = f_X11_lastingFrom (nI N) K on W T (nI S) (nI w)) : ∀ S, S < 256 → sub S A → ∀ w, w ≤ 1 → T (2 * S + w) = TL N on K (2 * S + w) := by
  have tr : ∀ S, sub S A → sub S (FU N) := fun S hs => sub_bt.mpr (fun i hi q => sub_bt.mp hAF i hi (sub_bt.mp hs i hi q))
  intro S
  induction S using Nat.strongRecOn with
  | ind S ih =>
    intro hS hs w hw
    rw [h S w (by have := sub_le hS hA hs; omega) hw hs, TL_fx hN hS hw (tr S hs)]
    refine lf_congr2 hN hS hw (hW S hS hs w hw) (fun b hb hm => ?_)
    have := mC_lt (by omega) hS hm
    have hs2 := sub_lv (N := N) (on := on) (b := b) (by omega) hS hs
    exact ⟨ih _ this (LV_nI hS).2 hs2 (1 - w) (by omega), hW _ (LV_nI hS).2 hs2 (1 - w) (by omega)⟩
theorem n32 {x : Int32} (h : -1 ≤ x.toInt ∧ x.toInt < 256) : (x + (1 : Int32)).toInt = x.toInt + 1 := i_s1 (by omega)
theorem c1a (x : Int32) : (1 : Int32) + x = x + 1 := Int32.add_comm 1 x
theorem lf_step0 {N : Nat} (hN : N ≤ 8) {K on W T : Nat → Int32} {S w : Nat} (hS : S < 256) (hw : w ≤ 1) (m k : Nat) (hk : k < N) (x4 : Int32) :
    f_X11_lastingFrom_L35 (m + 1) (nI N) K on W T (nI S) (nI w) (0 : Int32) x4 (nI k) =
      if f_X11_mayCut (nI N) K on (nI w) (nI k) (nI S) = 0 then f_X11_lastingFrom_L35 m (nI N) K on W T (nI S) (nI w) (0 : Int32) x4 (nI (k + 1))
      else f_X11_lastingFrom_L35 m (nI N) K on W T (nI S) (nI w) (0 : Int32) (if T (2 * lv N on k S + (1 - w)) ≤ x4 then x4 else T (2 * lv N on k S + (1 - w))) (nI (k + 1)) := by
  rw [lf_step hN hS hw m k hk (0 : Int32) x4]
  by_cases q : T (2 * lv N on k S + (1 - w)) ≤ x4
  · simp [q]
  · simp [q]
theorem lf_step1 {N : Nat} (hN : N ≤ 8) {K on W T : Nat → Int32} {S w : Nat} (hS : S < 256) (hw : w ≤ 1) (m k : Nat) (hk : k < N) (x4 : Int32) :
    f_X11_lastingFrom_L35 (m + 1) (nI N) K on W T (nI S) (nI w) (1 : Int32) x4 (nI k) =
      if f_X11_mayCut (nI N) K on (nI w) (nI k) (nI S) = 0 then f_X11_lastingFrom_L35 m (nI N) K on W T (nI S) (nI w) (1 : Int32) x4 (nI (k + 1))
      else f_X11_lastingFrom_L35 m (nI N) K on W T (nI S) (nI w) (1 : Int32) (if W (2 * lv N on k S + (1 - w)) = nI w then (if x4 ≤ T (2 * lv N on k S + (1 - w)) then x4 else T (2 * lv N on k S + (1 - w))) else x4) (nI (k + 1)) := by
  rw [lf_step hN hS hw m k hk (1 : Int32) x4]
  by_cases q : x4 ≤ T (2 * lv N on k S + (1 - w)) <;> by_cases z : W (2 * lv N on k S + (1 - w)) = nI w
  · simp [q, z]
  · simp [q, z]
  · simp [q, z]
  · simp [q, z]
theorem eL0 {N : Nat} (hN : N ≤ 8) {K on abv W T lc : Nat → Int32} {won : Nat → Int64} (ha : ∀ b, b < N → abv b = AB N on b) {w S : Nat} (hw : w ≤ 1) (hS : S < 256) {ch : Int32} (hch : ∀ b, b < N → (((ch >>> (nI b &&& 31)) &&& (1 : Int32)) = 0 ↔ ¬ mC N K on w b S))
    (hT : ∀ b, b < N → mC N K on w b S → lc ((1 - w) * 256 + lv N on b S) = T (2 * lv N on b S + (1 - w)) ∧ 0 ≤ (T (2 * lv N on b S + (1 - w))).toInt ∧ (T (2 * lv N on b S + (1 - w))).toInt < S) :
    ∀ (m k : Nat) (best : Int32), N < k + m → k ≤ N → -1 ≤ best.toInt → best.toInt < S ∨ best.toInt = -1 →
      f_X1_enter_L17 m (nI N) abv lc won (nI w) (nI S) ch (0 : Int32) (best + (1 : Int32)) (nI k) = upd lc (w * 256 + S) (f_X11_lastingFrom_L35 m (nI N) K on W T (nI S) (nI w) (0 : Int32) best (nI k)) ∧
      0 ≤ (f_X11_lastingFrom_L35 m (nI N) K on W T (nI S) (nI w) (0 : Int32) best (nI k)).toInt ∧ (f_X11_lastingFrom_L35 m (nI N) K on W T (nI S) (nI w) (0 : Int32) best (nI k)).toInt ≤ S := by
  intro m
  induction m with
  | zero => intro k best h1 h2; omega
  | succ m ih =>
    intro k best h1 h2 h3 h4
    by_cases hk : k = N
    · subst hk
      rw [lf_end hN, f_X1_enter_L17_s, if_pos (nI_le (Nat.le_refl _) (by omega)), place_ix hw hS]
      have := n32 (x := best) (by omega)
      exact ⟨rfl, by omega, by omega⟩
    · have hlt : k < N := by omega
      rw [lf_step0 hN hS hw m k hlt, f_X1_enter_L17_s, nI_1, if_neg (nI_ge hlt (by omega)), leftBy_LV (by omega) (ha k hlt), (LV_nI hS).1, one_sub hw, place_ix (by omega) (LV_nI hS).2]
      by_cases c : mC N K on w k S
      · rw [if_neg (fun q => (hch k hlt).mp q c), if_pos rfl, if_neg c]
        obtain ⟨t1, t2, t3⟩ := hT k hlt c
        rw [t1, c1a]
        generalize T (2 * lv N on k S + (1 - w)) = t at t1 t2 t3
        have e1 := n32 (x := best) (by omega)
        have e2 := n32 (x := t) (by omega)
        by_cases q : t ≤ best
        · have q1 := i_le q
          rw [if_pos q, if_neg (fun z => by have := i_lt z; omega)]
          exact ih (k + 1) best (by omega) (by omega) h3 h4
        · have q1 := i_nle q
          rw [if_neg q, if_pos (Int32.lt_iff_toInt_lt.mpr (by omega))]
          exact ih (k + 1) t (by omega) (by omega) (by omega) (Or.inl (by omega))
      · rw [if_pos ((hch k hlt).mpr c), if_pos (Classical.not_not.mp c)]
        exact ih (k + 1) best (by omega) (by omega) h3 h4
theorem eL1 {N : Nat} (hN : N ≤ 8) {K on abv W T lc : Nat → Int32} {won : Nat → Int64} (ha : ∀ b, b < N → abv b = AB N on b) {w S : Nat} (hw : w ≤ 1) (hS : S < 256) {ch : Int32} (hch : ∀ b, b < N → (((ch >>> (nI b &&& 31)) &&& (1 : Int32)) = 0 ↔ ¬ mC N K on w b S))
    (hT : ∀ b, b < N → mC N K on w b S → lc ((1 - w) * 256 + lv N on b S) = T (2 * lv N on b S + (1 - w)) ∧ 0 ≤ (T (2 * lv N on b S + (1 - w))).toInt ∧ (T (2 * lv N on b S + (1 - w))).toInt < S)
    (hw2 : ∀ b, b < N → mC N K on w b S → (f_X4_isWonBy won (nI (1 - w)) (nI (lv N on b S)) = 0 ↔ W (2 * lv N on b S + (1 - w)) = nI w)) :
    ∀ (m k : Nat) (best x5 : Int32), N < k + m → k ≤ N → ((best = (1048576 : Int32) ∧ x5 = 0) ∨ (0 ≤ best.toInt ∧ best.toInt < S ∧ x5 = best + (1 : Int32))) →
      ((∃ b, k ≤ b ∧ b < N ∧ mC N K on w b S ∧ W (2 * lv N on b S + (1 - w)) = nI w) ∨ ¬ best = (1048576 : Int32)) →
      f_X1_enter_L17 m (nI N) abv lc won (nI w) (nI S) ch (1 : Int32) x5 (nI k) = upd lc (w * 256 + S) (f_X11_lastingFrom_L35 m (nI N) K on W T (nI S) (nI w) (1 : Int32) best (nI k)) ∧
      0 ≤ (f_X11_lastingFrom_L35 m (nI N) K on W T (nI S) (nI w) (1 : Int32) best (nI k)).toInt ∧ (f_X11_lastingFrom_L35 m (nI N) K on W T (nI S) (nI w) (1 : Int32) best (nI k)).toInt ≤ S := by
  intro m
  induction m with
  | zero => intro k best x5 h1 h2; omega
  | succ m ih =>
    intro k best x5 h1 h2 h3 h4
    have d10 : ¬ (1 : Int32) = 0 := by decide
    by_cases hk : k = N
    · subst hk
      rw [lf_end hN, f_X1_enter_L17_s, if_pos (nI_le (Nat.le_refl _) (by omega)), place_ix hw hS]
      have nf : ¬ best = (1048576 : Int32) := h4.elim (fun ⟨b, g1, g2, _⟩ => by omega) id
      obtain ⟨g1, g2, g3⟩ := h3.resolve_left (fun z => nf z.1)
      have := n32 (x := best) (by omega)
      exact ⟨by rw [g3], by omega, by omega⟩
    · have hlt : k < N := by omega
      have next : ∀ P : Prop, ¬ (mC N K on w k S ∧ W (2 * lv N on k S + (1 - w)) = nI w) → ((∃ b, k ≤ b ∧ b < N ∧ mC N K on w b S ∧ W (2 * lv N on b S + (1 - w)) = nI w) ∨ P) → ((∃ b, k + 1 ≤ b ∧ b < N ∧ mC N K on w b S ∧ W (2 * lv N on b S + (1 - w)) = nI w) ∨ P) := by
        intro P hn h
        rcases h with ⟨b, g1, g2, g3⟩ | h
        · rcases Nat.eq_or_lt_of_le g1 with q | q
          · subst q; exact absurd g3 hn
          · exact Or.inl ⟨b, q, g2, g3⟩
        · exact Or.inr h
      rw [lf_step1 hN hS hw m k hlt, f_X1_enter_L17_s, nI_1, if_neg (nI_ge hlt (by omega)), leftBy_LV (by omega) (ha k hlt), (LV_nI hS).1, one_sub hw, place_ix (by omega) (LV_nI hS).2]
      by_cases c : mC N K on w k S
      · rw [if_neg (fun q => (hch k hlt).mp q c), if_neg d10, if_neg c]
        obtain ⟨t1, t2, t3⟩ := hT k hlt c
        have hwk := hw2 k hlt c
        by_cases z : W (2 * lv N on k S + (1 - w)) = nI w
        · rw [if_pos (hwk.mpr z), if_pos z, t1, c1a]
          generalize T (2 * lv N on k S + (1 - w)) = t at t1 t2 t3
          have e2 := n32 (x := t) (by omega)
          have tF : ¬ t = (1048576 : Int32) := by
            intro q; rw [q] at t3
            have : (1048576 : Int32).toInt = 1048576 := rfl
            omega
          rcases h3 with ⟨g1, g2⟩ | ⟨g1, g2, g3⟩
          · rw [if_pos g2, if_neg (by rw [g1]; intro q; have := i_le q; have tt : (1048576 : Int32).toInt = 1048576 := rfl; omega)]
            exact ih (k + 1) t _ (by omega) (by omega) (Or.inr ⟨t2, t3, rfl⟩) (Or.inr tF)
          · have e1 := n32 (x := best) (by omega)
            have nf : ¬ best = (1048576 : Int32) := by
              intro q; rw [q] at g2
              have : (1048576 : Int32).toInt = 1048576 := rfl
              omega
            rw [if_neg (by rw [g3]; intro q; have := i_eq q; have t0 : (0 : Int32).toInt = 0 := rfl; omega), g3]
            by_cases q : best ≤ t
            · have q1 := i_le q
              rw [if_pos q, if_neg (fun y => by have := i_lt y; omega)]
              exact ih (k + 1) best _ (by omega) (by omega) (Or.inr ⟨g1, g2, rfl⟩) (Or.inr nf)
            · have q1 := i_nle q
              rw [if_neg q, if_pos (Int32.lt_iff_toInt_lt.mpr (by omega))]
              exact ih (k + 1) t _ (by omega) (by omega) (Or.inr ⟨t2, t3, rfl⟩) (Or.inr tF)
        · rw [if_neg (fun q => z (hwk.mp q)), if_neg z]
          exact ih (k + 1) best x5 (by omega) (by omega) h3 (next _ (fun y => z y.2) h4)
      · rw [if_pos ((hch k hlt).mpr c), if_pos (Classical.not_not.mp c)]
        exact ih (k + 1) best x5 (by omega) (by omega) h3 (next _ (fun y => c y.1) h4)
/-- what the chart of lengths says of a set -/
def oL (N : Nat) (on K : Nat → Int32) (lc : Nat → Int32) (w S : Nat) : Prop := lc (w * 256 + S) = TL N on K (2 * S + w) ∧ 0 ≤ (TL N on K (2 * S + w)).toInt ∧ (TL N on K (2 * S + w)).toInt ≤ S
theorem eL {N : Nat} (hN : N ≤ 8) {on abv K lc : Nat → Int32} {won : Nat → Int64} (ho : hOn N on) (ha : ∀ b, b < N → abv b = AB N on b) (hk : ∀ b, b < N → isK (K b)) {w S : Nat} (hw : w ≤ 1) (hS : S < 256) (hs : stds N on (nI S))
    (hwS : oW N on K won w S) (low : ∀ S', S' < S → stds N on (nI S') → oW N on K won (1 - w) S' ∧ oL N on K lc (1 - w) S') :
    f_X1_enter (nI N) abv lc won (nI w) (nI S) (f_X6_choices (nI N) abv K (nI w) (nI S)) = upd lc (w * 256 + S) (TL N on K (2 * S + w)) ∧ 0 ≤ (TL N on K (2 * S + w)).toInt ∧ (TL N on K (2 * S + w)).toInt ≤ S := by
  have hch : ∀ b, b < N → (((f_X6_choices (nI N) abv K (nI w) (nI S) >>> (nI b &&& 31)) &&& (1 : Int32)) = 0 ↔ ¬ mC N K on w b S) := fun b hb => by
    rw [ch_bit hN ha hk hb, mC_gC hN ho hb (hk b hb) hw hs]
  have hst : ∀ b, b < N → stds N on (nI (lv N on b S)) := fun b hb => by rw [← (LV_nI hS).1]; exact LV_st hN ho hb hs
  have hT : ∀ b, b < N → mC N K on w b S → lc ((1 - w) * 256 + lv N on b S) = TL N on K (2 * lv N on b S + (1 - w)) ∧ 0 ≤ (TL N on K (2 * lv N on b S + (1 - w))).toInt ∧ (TL N on K (2 * lv N on b S + (1 - w))).toInt < S := by
    intro b hb hm
    have hlt := mC_lt (by omega) hS hm
    obtain ⟨g1, g2, g3⟩ := (low _ hlt (hst b hb)).2
    exact ⟨g1, g2, by omega⟩
  have hw2 : ∀ b, b < N → mC N K on w b S → (f_X4_isWonBy won (nI (1 - w)) (nI (lv N on b S)) = 0 ↔ TW N on K (2 * lv N on b S + (1 - w)) = nI w) := by
    intro b hb hm
    have hlt := mC_lt (by omega) hS hm
    rw [wonBy_TW (by omega) (LV_nI hS).2 (low _ hlt (hst b hb)).1]
    exact TW_not hN (LV_nI hS).2 hw (st_FU hN (hst b hb))
  rw [TL_fx hN hS hw (st_FU hN hs), lf_s hS hw, f_X1_enter_s]
  have hwin := wonBy_TW hw hS hwS
  by_cases c : TW N on K (2 * S + w) = nI w
  · rw [if_pos c, (wonBy_01.resolve_left (fun q => hwin.mp q c) : f_X4_isWonBy won (nI w) (nI S) = 1)]
    obtain ⟨b, g1, g2, g3⟩ := (TW_iff hN hS hw (st_FU hN hs)).mp c
    exact eL1 hN ha hw hS hch hT hw2 9 0 _ _ (by omega) (by omega) (Or.inl ⟨rfl, rfl⟩) (Or.inl ⟨b, by omega, g1, g2, g3⟩)
  · rw [if_neg c, hwin.mpr c]
    exact eL0 hN ha hw hS hch hT 9 0 (-1) (by omega) (by omega) (by decide) (Or.inr (by decide))
