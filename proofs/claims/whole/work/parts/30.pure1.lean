def bt (x : Int32) (i : Nat) : Bool := x.toBitVec.getLsbD i
theorem b_ext {x y : Int32} (h : ∀ i, i < 32 → bt x i = bt y i) : x = y := Int32.toBitVec_inj.mp (BitVec.eq_of_getLsbD_eq (fun i hi => h i hi))
theorem b_or (x y : Int32) (i : Nat) : bt (x ||| y) i = (bt x i || bt y i) := by unfold bt; rw [Int32.toBitVec_or, BitVec.getLsbD_or]
theorem b_and (x y : Int32) (i : Nat) : bt (x &&& y) i = (bt x i && bt y i) := by unfold bt; rw [Int32.toBitVec_and, BitVec.getLsbD_and]
theorem b_xor (x y : Int32) (i : Nat) : bt (x ^^^ y) i = (bt x i ^^ bt y i) := by unfold bt; rw [Int32.toBitVec_xor, BitVec.getLsbD_xor]
theorem b_big {x : Int32} {i : Nat} (h : 32 ≤ i) : bt x i = false := BitVec.getLsbD_of_ge _ _ h
theorem b_m1 : ∀ i, i < 32 → bt (-1) i = true := by decide +kernel
theorem b_0 (i : Nat) : bt 0 i = false := BitVec.getLsbD_zero
theorem s_l : ∀ n, n < 32 → ((nI n &&& 31).toBitVec.smod 32).toNat = n := by decide +kernel
theorem s_u : ∀ n, n < 32 → (((nI n).toUInt32 &&& Int32.toUInt32 31).toBitVec % 32).toNat = n := by decide +kernel
theorem b_shl (n : Nat) (hn : n < 32) (x : Int32) {i : Nat} (hi : i < 32) : bt (x <<< (nI n &&& 31)) i = (decide (n ≤ i) && bt x (i - n)) := by
  unfold bt
  rw [Int32.toBitVec_shiftLeft]
  show (x.toBitVec <<< ((nI n &&& 31).toBitVec.smod 32).toNat).getLsbD i = _
  rw [s_l n hn, BitVec.getLsbD_shiftLeft]
  rcases Nat.lt_or_ge i n with h | h
  · simp [h, Nat.not_le.mpr h]
  · simp [hi, h, Nat.not_lt.mpr h]
theorem b_sshr (n : Nat) (hn : n < 32) (x : Int32) {i : Nat} (hi : i < 32) : bt (x >>> (nI n &&& 31)) i = if n + i < 32 then bt x (n + i) else bt x 31 := by
  unfold bt
  rw [Int32.toBitVec_shiftRight]
  show (x.toBitVec.sshiftRight ((nI n &&& 31).toBitVec.smod 32).toNat).getLsbD i = _
  rw [s_l n hn, BitVec.getLsbD_sshiftRight, BitVec.msb_eq_getLsbD_last]
  simp [hi]
/-! bits of sets -/
theorem bt_one : ∀ i, i < 32 → bt 1 i = decide (i = 0) := by decide +kernel
theorem bt_nI {j : Nat} (i : Nat) (h : i < 32) : bt (nI j) i = j.testBit i := by
  show (BitVec.ofNat 32 j).getLsbD i = _
  rw [BitVec.getLsbD_ofNat]
  simp [h]
theorem bit_eq (x : Int32) {j : Nat} (h : j < 32) : ((x >>> (nI j &&& 31)) &&& (1 : Int32)) = if bt x j then 1 else 0 := by
  apply b_ext
  intro i hi
  rw [b_and, b_sshr j h x hi, bt_one i hi]
  by_cases e : i = 0
  · subst e
    rw [Nat.add_zero, if_pos h]
    cases bt x j <;> simp [b_0, bt_one]
  · cases bt x j <;> simp [e, b_0, bt_one i hi]
theorem bit_ne (x : Int32) {j : Nat} (h : j < 32) : (((x >>> (nI j &&& 31)) &&& (1 : Int32)) = 0) ↔ bt x j = false := by
  rw [bit_eq x h]
  cases bt x j <;> simp
theorem isIn_eq (x : Int32) {j : Nat} (h : j < 32) : f_X11_isIn x (nI j) = if bt x j then 1 else 0 := by
  unfold f_X11_isIn
  rw [bit_eq x h]
  cases bt x j <;> simp
theorem isIn_0 (x : Int32) {j : Nat} (h : j < 32) : f_X11_isIn x (nI j) = 0 ↔ bt x j = false := by
  rw [isIn_eq x h]
  cases bt x j <;> simp
theorem bt_s1 {j : Nat} (h : j < 32) {i : Nat} (hi : i < 32) : bt ((1 : Int32) <<< (nI j &&& 31)) i = decide (i = j) := by
  rw [b_shl j h 1 hi]
  by_cases e : i = j
  · subst e
    simp [bt_one 0 (by omega)]
  · by_cases g : j ≤ i
    · rw [bt_one _ (by omega)]
      have : ¬ i - j = 0 := by omega
      simp [e, this]
    · simp [g, e]
theorem bt_not (x : Int32) {i : Nat} (hi : i < 32) : bt (x ^^^ (-1 : Int32)) i = !bt x i := by
  rw [b_xor, b_m1 i hi]
  cases bt x i <;> rfl
theorem of_nn {x : Int32} (h : 0 ≤ x.toInt) : ∃ j : Nat, j < 2 ^ 31 ∧ x = nI j := nI_of (x := x) (fun q => by have := i_lt q; have t0 : (0 : Int32).toInt = 0 := rfl; omega)
theorem of_rg {x : Int32} {N : Nat} (hN : N < 2 ^ 31) (h : 0 ≤ x.toInt ∧ x.toInt < (N : Int)) : ∃ j : Nat, j < N ∧ x = nI j := by
  obtain ⟨j, hj, e⟩ := of_nn h.1
  refine ⟨j, ?_, e⟩
  rw [e, nI_toInt hj] at h
  omega
theorem tI {j : Nat} (h : j < 2 ^ 31) : (nI j).toInt = (j : Int) := nI_toInt h
theorem bt_sm {x : Int32} (h : 0 ≤ x.toInt ∧ x.toInt < 256) {i : Nat} (hi : 8 ≤ i) : bt x i = false := by
  obtain ⟨j, hj, e⟩ := of_rg (N := 256) (by decide) h
  subst e
  rcases Nat.lt_or_ge i 32 with g | g
  · rw [bt_nI i g]
    exact Nat.testBit_lt_two_pow (Nat.lt_of_lt_of_le (show j < 2 ^ 8 by omega) (Nat.pow_le_pow_right (by decide) hi))
  · exact b_big g
/-- fewer bits of a number that isn't negative: less -/
theorem and_lt {s y : Int32} (h : 0 ≤ s.toInt) {b : Nat} (hb : b < 32) (h1 : bt s b = true) (h2 : bt y b = false) : (s &&& y).toInt < s.toInt := by
  have g := i_and (x := s) (y := y) h
  have ne : (s &&& y).toInt ≠ s.toInt := by
    intro q
    have q := Int32.toInt_inj.mp q
    have : bt (s &&& y) b = bt s b := by rw [q]
    rw [b_and, h1, h2] at this
    cases this
  omega
/-! how the hedge stands -/
def hOn (N : Nat) (on : Nat → Int32) : Prop := ∀ e, e < N → on e = -1 ∨ ∃ j, j < e ∧ on e = nI j
def AB (N : Nat) (on : Nat → Int32) (b : Nat) : Int32 := f_X11_above (nI N) on (nI b)
theorem nI_ne_m1 {j : Nat} (h : j < 2 ^ 31) : ¬ nI j = (-1 : Int32) := by
  intro q
  have := i_eq q
  rw [nI_toInt h] at this
  have t : (-1 : Int32).toInt = -1 := rfl
  omega
theorem nI_inj {a b : Nat} (ha : a < 2 ^ 31) (hb : b < 2 ^ 31) : nI a = nI b ↔ a = b := nI_eq ha hb
theorem above_L {N : Nat} (hN : N ≤ 8) {on : Nat → Int32} (ho : hOn N on) {b : Nat} :
    ∀ (m k : Nat) (x2 : Int32), N < k + m → k ≤ N → (∀ e, k ≤ e → bt x2 e = false) →
      (∀ e, e < k → bt (f_X11_above_L6 m (nI N) on (nI b) x2 (nI k)) e = bt x2 e) ∧
      (∀ e, N ≤ e → bt (f_X11_above_L6 m (nI N) on (nI b) x2 (nI k)) e = false) ∧
      (∀ e, k ≤ e → e < N → (bt (f_X11_above_L6 m (nI N) on (nI b) x2 (nI k)) e = true ↔ (on e = nI b ∨ ∃ j, j < e ∧ on e = nI j ∧ bt (f_X11_above_L6 m (nI N) on (nI b) x2 (nI k)) j = true))) := by
  intro m
  induction m with
  | zero => intro k x2 h1 h2; omega
  | succ m ih =>
    intro k x2 h1 h2 h3
    rw [f_X11_above_L6_s, nI_clamp (by omega : k < 2 ^ 31), nI_1]
    by_cases hk : k = N
    · subst hk
      rw [if_pos (nI_le (Nat.le_refl _) (by omega))]
      exact ⟨fun _ _ => rfl, h3, fun e h4 h5 => by omega⟩
    · have hlt : k < N := by omega
      rw [if_neg (nI_ge hlt (by omega))]
      -- a step with the bit v at k
      have step : ∀ (v : Bool) (x' : Int32), (∀ e, e < 32 → bt x' e = (bt x2 e || (v && decide (e = k)))) → (v = true ↔ (on k = nI b ∨ ∃ j, j < k ∧ on k = nI j ∧ bt x2 j = true)) →
          (∀ e, e < k → bt (f_X11_above_L6 m (nI N) on (nI b) x' (nI (k + 1))) e = bt x2 e) ∧
          (∀ e, N ≤ e → bt (f_X11_above_L6 m (nI N) on (nI b) x' (nI (k + 1))) e = false) ∧
          (∀ e, k ≤ e → e < N → (bt (f_X11_above_L6 m (nI N) on (nI b) x' (nI (k + 1))) e = true ↔ (on e = nI b ∨ ∃ j, j < e ∧ on e = nI j ∧ bt (f_X11_above_L6 m (nI N) on (nI b) x' (nI (k + 1))) j = true))) := by
        intro v x' hx hv
        have h4 : ∀ e, k + 1 ≤ e → bt x' e = false := by
          intro e he
          rcases Nat.lt_or_ge e 32 with g | g
          · rw [hx e g, h3 e (by omega)]
            have : ¬ e = k := by omega
            simp [this]
          · exact b_big g
        obtain ⟨i1, i2, i3⟩ := ih (k + 1) x' (by omega) (by omega) h4
        have low : ∀ e, e < k → bt (f_X11_above_L6 m (nI N) on (nI b) x' (nI (k + 1))) e = bt x2 e := by
          intro e he
          rw [i1 e (by omega), hx e (by omega)]
          have : ¬ e = k := by omega
          simp [this]
        refine ⟨low, i2, ?_⟩
        intro e h5 h6
        by_cases q : e = k
        · subst q
          rw [i1 e (by omega), hx e (by omega), h3 e (Nat.le_refl _)]
          simp only [decide_true, Bool.and_true, Bool.false_or]
          rw [hv]
          constructor
          · rintro (h | ⟨j, j1, j2, j3⟩)
            · exact Or.inl h
            · exact Or.inr ⟨j, j1, j2, by rw [low j j1]; exact j3⟩
          · rintro (h | ⟨j, j1, j2, j3⟩)
            · exact Or.inl h
            · exact Or.inr ⟨j, j1, j2, by rw [low j j1] at j3; exact j3⟩
        · exact i3 e (by omega) h6
      have hset : ∀ e, e < 32 → bt (x2 ||| ((1 : Int32) <<< (nI k &&& 31))) e = (bt x2 e || (true && decide (e = k))) := by
        intro e he
        rw [b_or, bt_s1 (by omega) he]
        simp
      have hnot : ∀ e, e < 32 → bt (x2 ||| (0 : Int32)) e = (bt x2 e || (false && decide (e = k))) := by
        intro e he
        rw [b_or, b_0]
        simp
      by_cases q1 : on k = nI b
      · rw [if_pos q1]
        exact step true _ hset ⟨fun _ => Or.inl q1, fun _ => rfl⟩
      · rw [if_neg q1]
        by_cases q2 : on k = (-1 : Int32)
        · rw [if_pos q2]
          refine step false _ hnot ⟨fun z => Bool.noConfusion z, ?_⟩
          rintro (h | ⟨j, j1, j2, j3⟩)
          · exact absurd h q1
          · exact absurd (j2.symm.trans q2) (nI_ne_m1 (by omega))
        · rw [if_neg q2]
          rcases ho k hlt with h | ⟨j, j1, j2⟩
          · exact absurd h q2
          · rw [j2] at q1 ⊢
            have hj : j < 32 := by omega
            by_cases q3 : bt x2 j = true
            · rw [if_neg (by rw [isIn_eq x2 hj, q3]; decide)]
              exact step true _ hset ⟨fun _ => Or.inr ⟨j, j1, j2, q3⟩, fun _ => rfl⟩
            · rw [if_pos ((isIn_0 x2 hj).mpr (by simpa using q3))]
              refine step false _ hnot ⟨fun z => Bool.noConfusion z, ?_⟩
              rintro (h | ⟨i, i1, i2, i3⟩)
              · exact absurd (j2.symm.trans h) q1
              · have : i = j := (nI_inj (by omega) (by omega)).mp (i2.symm.trans j2)
                subst this
                exact absurd i3 q3
theorem above_bt {N : Nat} (hN : N ≤ 8) {on : Nat → Int32} (ho : hOn N on) {b : Nat} (hb : b < N) :
    (∀ e, e ≤ b → bt (AB N on b) e = false) ∧ (∀ e, N ≤ e → bt (AB N on b) e = false) ∧
    (∀ e, b < e → e < N → (bt (AB N on b) e = true ↔ (on e = nI b ∨ ∃ j, j < e ∧ on e = nI j ∧ bt (AB N on b) j = true))) := by
  have h := above_L hN ho (b := b) 9 (b + 1) 0 (by omega) (by omega) (fun e _ => b_0 e)
  rw [← nI_1] at h
  obtain ⟨h1, h2, h3⟩ := h
  exact ⟨fun e he => (h1 e (by omega)).trans (b_0 e), h2, fun e h4 h5 => h3 e (by omega) h5⟩
