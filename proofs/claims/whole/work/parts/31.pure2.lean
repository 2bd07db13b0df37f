/-! bare, standing, cut -/
/-- a set that can stand: with each branch that on which it is -/
def stds (N : Nat) (on : Nat → Int32) (s : Int32) : Prop := (∀ e, N ≤ e → bt s e = false) ∧ ∀ e, e < N → bt s e = true → ∀ j, on e = nI j → j < e → bt s j = true
theorem bare_L {N : Nat} (hN : N ≤ 8) {on : Nat → Int32} {b : Nat} {s : Int32} :
    ∀ (m k : Nat) (x3 : Int32), N < k + m → k ≤ N → (x3 = 0 ∨ x3 = 1) →
      (f_X11_isBare_L7 m (nI N) on (nI b) s x3 (nI k) = 0 ↔ (x3 = 0 ∨ ∃ e, k ≤ e ∧ e < N ∧ on e = nI b ∧ bt s e = true)) := by
  intro m
  induction m with
  | zero => intro k x3 h1 h2; omega
  | succ m ih =>
    intro k x3 h1 h2 h3
    rw [f_X11_isBare_L7_s, nI_clamp (by omega : k < 2 ^ 31), nI_1]
    by_cases hk : k = N
    · subst hk
      rw [if_pos (nI_le (Nat.le_refl _) (by omega))]
      exact ⟨Or.inl, fun h => h.elim id (fun ⟨e, h4, h5, _⟩ => by omega)⟩
    · have hlt : k < N := by omega
      rw [if_neg (nI_ge hlt (by omega))]
      by_cases q0 : x3 = 0
      · rw [if_pos q0, ih (k + 1) 0 (by omega) (by omega) (Or.inl rfl)]
        exact ⟨fun _ => Or.inl q0, fun _ => Or.inl rfl⟩
      · rw [if_neg q0]
        by_cases q1 : on k = nI b
        · rw [if_pos q1]
          by_cases q2 : bt s k = true
          · rw [if_neg (by rw [isIn_eq s (by omega), q2]; decide), ih (k + 1) 0 (by omega) (by omega) (Or.inl rfl)]
            exact ⟨fun _ => Or.inr ⟨k, Nat.le_refl _, hlt, q1, q2⟩, fun _ => Or.inl rfl⟩
          · rw [if_pos ((isIn_0 s (by omega)).mpr (by simpa using q2)), ih (k + 1) 1 (by omega) (by omega) (Or.inr rfl)]
            constructor
            · rintro (h | ⟨e, h4, h5, h6, h7⟩)
              · exact absurd h (by decide)
              · exact Or.inr ⟨e, by omega, h5, h6, h7⟩
            · rintro (h | ⟨e, h4, h5, h6, h7⟩)
              · exact absurd h q0
              · by_cases g : e = k
                · subst g; exact absurd h7 q2
                · exact Or.inr ⟨e, by omega, h5, h6, h7⟩
        · rw [if_neg q1, ih (k + 1) 1 (by omega) (by omega) (Or.inr rfl)]
          constructor
          · rintro (h | ⟨e, h4, h5, h6, h7⟩)
            · exact absurd h (by decide)
            · exact Or.inr ⟨e, by omega, h5, h6, h7⟩
          · rintro (h | ⟨e, h4, h5, h6, h7⟩)
            · exact absurd h q0
            · by_cases g : e = k
              · subst g; exact absurd h6 q1
              · exact Or.inr ⟨e, by omega, h5, h6, h7⟩
theorem bare_0 {N : Nat} (hN : N ≤ 8) {on : Nat → Int32} {b : Nat} (hb : b < N) {s : Int32} : f_X11_isBare (nI N) on (nI b) s = 0 ↔ ∃ e, b < e ∧ e < N ∧ on e = nI b ∧ bt s e = true := by
  rw [f_X11_isBare_s, nI_1, bare_L hN 9 (b + 1) 1 (by omega) (by omega) (Or.inr rfl)]
  constructor
  · rintro (h | ⟨e, h4, h5⟩)
    · exact absurd h (by decide)
    · exact ⟨e, by omega, h5⟩
  · rintro ⟨e, h4, h5⟩
    exact Or.inr ⟨e, by omega, h5⟩
theorem and_0 {x y : Int32} : (x &&& y) = 0 ↔ ∀ i, i < 32 → ¬ (bt x i = true ∧ bt y i = true) := by
  constructor
  · intro h i hi ⟨h1, h2⟩
    have : bt (x &&& y) i = false := by rw [h]; exact b_0 i
    rw [b_and, h1, h2] at this
    cases this
  · intro h
    apply b_ext
    intro i hi
    rw [b_and, b_0]
    have := h i hi
    cases hx : bt x i <;> cases hy : bt y i <;> simp_all
/-- on a set that can stand: nothing on it stands iff nothing straight on it stands -/
theorem bare_iff {N : Nat} (hN : N ≤ 8) {on : Nat → Int32} (ho : hOn N on) {b : Nat} (hb : b < N) {s : Int32} (hs : stds N on s) : f_X11_isBare (nI N) on (nI b) s = 0 ↔ ¬ (s &&& AB N on b) = 0 := by
  rw [bare_0 hN hb, and_0]
  obtain ⟨a1, a2, a3⟩ := above_bt hN ho hb
  constructor
  · rintro ⟨e, h1, h2, h3, h4⟩ h
    exact h e (by omega) ⟨h4, (a3 e h1 h2).mpr (Or.inl h3)⟩
  · intro h
    -- the least that stands above b is straight on it
    have key : ∀ e, e < N → bt s e = true → bt (AB N on b) e = true → ∃ e, b < e ∧ e < N ∧ on e = nI b ∧ bt s e = true := by
      intro e
      induction e using Nat.strongRecOn with
      | ind e ih =>
        intro he h1 h2
        have hbe : b < e := by
          rcases Nat.lt_or_ge b e with g | g
          · exact g
          · rw [a1 e g] at h2; cases h2
        rcases (a3 e hbe he).mp h2 with h3 | ⟨j, j1, j2, j3⟩
        · exact ⟨e, hbe, he, h3, h1⟩
        · exact ih j j1 (by omega) (hs.2 e he h1 j j2 j1) j3
    apply Classical.byContradiction
    intro hn
    apply h
    intro i hi ⟨h1, h2⟩
    apply hn
    have : i < N := by
      rcases Nat.lt_or_ge i N with g | g
      · exact g
      · rw [a2 i g] at h2; cases h2
    exact key i this h1 h2
/-- what a cut leaves -/
def LV (N : Nat) (on : Nat → Int32) (b : Nat) (s : Int32) : Int32 := s &&& ((AB N on b ||| ((1 : Int32) <<< (nI b &&& 31))) ^^^ (-1 : Int32))
theorem leaves_LV (N : Nat) (on : Nat → Int32) (b : Nat) (s : Int32) : f_X11_leaves (nI N) on (nI b) s = LV N on b s := rfl
theorem LV_bt {N : Nat} {on : Nat → Int32} {b : Nat} (hb : b < 8) {s : Int32} {i : Nat} (hi : i < 32) : bt (LV N on b s) i = (bt s i && !(bt (AB N on b) i || decide (i = b))) := by
  unfold LV
  rw [b_and, bt_not _ hi, b_or, bt_s1 (by omega) hi]
theorem LV_lt {N : Nat} {on : Nat → Int32} {b : Nat} (hb : b < 8) {s : Int32} (h0 : 0 ≤ s.toInt) (h : bt s b = true) : (LV N on b s).toInt < s.toInt := by
  refine and_lt h0 (b := b) (by omega) h ?_
  rw [bt_not _ (by omega), b_or, bt_s1 (by omega) (by omega)]
  simp
theorem LV_rg {N : Nat} {on : Nat → Int32} {b : Nat} {s : Int32} (h0 : 0 ≤ s.toInt ∧ s.toInt < 256) : 0 ≤ (LV N on b s).toInt ∧ (LV N on b s).toInt < 256 := by
  have := i_and (x := s) (y := ((AB N on b ||| ((1 : Int32) <<< (nI b &&& 31))) ^^^ (-1 : Int32))) h0.1
  unfold LV
  omega
theorem LV_st {N : Nat} (hN : N ≤ 8) {on : Nat → Int32} (ho : hOn N on) {b : Nat} (hb : b < N) {s : Int32} (hs : stds N on s) : stds N on (LV N on b s) := by
  obtain ⟨a1, a2, a3⟩ := above_bt hN ho hb
  refine ⟨fun e he => ?_, fun e he h j hj hje => ?_⟩
  · rcases Nat.lt_or_ge e 32 with g | g
    · rw [LV_bt (by omega) g, hs.1 e he]; rfl
    · exact b_big g
  · rw [LV_bt (by omega) (by omega)] at h ⊢
    have h1 : bt s e = true := by cases hh : bt s e <;> simp_all
    have h2 : bt (AB N on b) e = false := by cases hh : bt (AB N on b) e <;> simp_all
    have h3 : ¬ e = b := by intro q; subst q; simp_all
    rw [hs.2 e he h1 j hj hje]
    have hbe : ∀ g : Prop, (b < e → g) → (¬ b < e → g) → g := fun g p q => (Classical.em (b < e)).elim p q
    have h4 : bt (AB N on b) j = false := by
      apply hbe
      · intro lt
        cases hh : bt (AB N on b) j with
        | false => rfl
        | true => rw [(a3 e lt he).mpr (Or.inr ⟨j, hje, hj, hh⟩)] at h2; cases h2
      · intro nlt
        exact a1 j (by omega)
    have h5 : ¬ j = b := by
      intro q
      subst q
      have := (a3 e hje he).mpr (Or.inl hj)
      rw [this] at h2; cases h2
    rw [h4]
    simp [h5]
/-- may a side cut it: as the class says -/
def KC (N : Nat) (on : Nat → Int32) (who : Int32) (b : Nat) (s : Int32) : Int32 := if who = (1 : Int32) then 5 else if (s &&& AB N on b) = 0 then 19 else 3
theorem kcb_KC {N : Nat} {on abv : Nat → Int32} {b : Nat} (hb : b < 8) (ha : abv b = AB N on b) {who s : Int32} : f_X6_kindsCutBy abv who (nI b) s = KC N on who b s := by
  unfold f_X6_kindsCutBy KC
  rw [nI_clamp (by omega : b < 2 ^ 31), ha]
  split
  · rfl
  · split <;> simp
theorem leftBy_LV {N : Nat} {on abv : Nat → Int32} {b : Nat} (hb : b < 8) (ha : abv b = AB N on b) {s : Int32} : f_X6_leftBy abv (nI b) s = LV N on b s := by
  unfold f_X6_leftBy LV
  rw [nI_clamp (by omega : b < 2 ^ 31), ha]
def isK (k : Int32) : Prop := k = 0 ∨ k = 1 ∨ k = 2 ∨ k = 3 ∨ k = 4
theorem mayCut_0 {N : Nat} (hN : N ≤ 8) {on : Nat → Int32} (ho : hOn N on) {K : Nat → Int32} {b : Nat} (hb : b < N) (hk : isK (K b)) {who s : Int32} (hw : who = 0 ∨ who = 1) (hs : stds N on s) :
    f_X11_mayCut (nI N) K on who (nI b) s = 0 ↔ ¬ (bt s b = true ∧ bt (KC N on who b s) (K b).toNatClampNeg = true) := by
  unfold f_X11_mayCut
  rw [nI_clamp (by omega : b < 2 ^ 31), isIn_eq s (by omega : b < 32)]
  cases hbt : bt s b
  · simp
  · have hb0 := bare_iff hN ho hb hs
    unfold KC
    rcases hk with e | e | e | e | e <;> rcases hw with w | w <;> rw [e, w]
    all_goals (by_cases q : (s &&& AB N on b) = 0)
    all_goals first
      | (rw [if_neg (by decide)]; simp [q]; decide)
      | (have hb1 := hb0.mp; have hb2 := hb0.mpr; rw [if_neg (by decide)]; simp [q, hb0]; decide)
      | (rw [if_neg (by decide)]; simp [q, hb0]; done)
theorem mayCut_01 {N : Nat} {on K : Nat → Int32} {b : Nat} {who s : Int32} : f_X11_mayCut (nI N) K on who (nI b) s = 0 ∨ f_X11_mayCut (nI N) K on who (nI b) s = 1 := by
  unfold f_X11_mayCut
  repeat' split
  all_goals first | exact Or.inl rfl | exact Or.inr rfl
