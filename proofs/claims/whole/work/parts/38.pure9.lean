/-! worth: the simplest number -/
theorem two_j {j : Nat} (h : j ≤ 8) : 2 ^ j ≤ 256 ∧ 1 ≤ 2 ^ j := ⟨Nat.pow_le_pow_right (n := 2) (by decide) h, Nat.one_le_two_pow⟩
theorem sp_pos {n : Nat} {lo hi u : Int32} (h : 0 ≤ lo) : f_X11_simplest_L14 (n + 1) lo hi u = if u ≤ 0 then (-9999 : Int32) else if hi ≤ ((lo / u + (1 : Int32)) * u) then f_X11_simplest_L14 n lo hi (u / (2 : Int32)) else ((lo / u + (1 : Int32)) * u) := by
  have h1 : ¬ lo < 0 := fun q => by have := i_lt q; have := i_le h; omega
  rw [f_X11_simplest_L14_s]
  by_cases c : 0 < hi
  · simp only [if_neg h1, if_pos h, if_pos c]
  · simp only [if_neg h1, if_pos h, if_neg c]
theorem sp_neg {n : Nat} {lo hi u : Int32} (h : lo < 0) (h2 : hi ≤ 0) : f_X11_simplest_L14 (n + 1) lo hi u = if u ≤ 0 then (-9999 : Int32) else if ((hi / u - (1 : Int32)) * u) ≤ lo then f_X11_simplest_L14 n lo hi (u / (2 : Int32)) else ((hi / u - (1 : Int32)) * u) := by
  have h1 : ¬ 0 ≤ lo := fun q => by have := i_le q; have := i_lt h; omega
  have h3 : ¬ 0 < hi := fun q => by have := i_lt q; have := i_le h2; omega
  rw [f_X11_simplest_L14_s]
  simp only [if_pos h, if_neg h1, if_neg h3]
/-- the next one beyond a at the step 2^j -/
def nx (a j : Nat) : Nat := (a / 2 ^ j + 1) * 2 ^ j
theorem nx_gt (a j : Nat) : a < nx a j ∧ nx a j ≤ a + 2 ^ j := by
  unfold nx
  have h := Nat.div_add_mod a (2 ^ j)
  have h2 := Nat.mod_lt a (Nat.two_pow_pos j)
  rw [Nat.add_mul, Nat.one_mul, Nat.mul_comm]
  omega
theorem nx_dvd {a j d : Nat} (h : d ≤ j) : 2 ^ d ∣ nx a j := Nat.dvd_trans (Nat.pow_dvd_pow 2 h) (Nat.dvd_mul_left _ _)
theorem nx_d {a b d : Nat} (h : 2 ^ (d + 1) ∣ a) (h2 : 2 ^ (d + 1) ∣ b) (hab : a < b) : nx a d < b := by
  obtain ⟨p, hp⟩ := h
  obtain ⟨q, hq⟩ := h2
  have e : 2 ^ (d + 1) = 2 ^ d * 2 := Nat.pow_succ 2 d
  rw [e] at hp hq
  have hpos := Nat.two_pow_pos d
  have hd : a / 2 ^ d = 2 * p := by
    rw [hp, Nat.mul_assoc, Nat.mul_div_cancel_left _ hpos]
  unfold nx
  rw [hd]
  have hpq : p < q := by
    apply Classical.byContradiction
    intro hn
    have : q ≤ p := by omega
    have := Nat.mul_le_mul_left (2 ^ d * 2) this
    omega
  have h3 : (2 * p + 1) * 2 ^ d < (2 * q) * 2 ^ d := Nat.mul_lt_mul_of_pos_right (by omega) hpos
  have h4 : 2 * q * 2 ^ d = b := by rw [hq, Nat.mul_comm, Nat.mul_assoc]
  omega
theorem nx_nI {a j : Nat} (ha : a ≤ 1048576) (hj : j ≤ 8) : (nI a / nI (2 ^ j) + (1 : Int32)) * nI (2 ^ j) = nI (nx a j) := by
  obtain ⟨t1, t2⟩ := two_j hj
  rw [pk_div (by omega) (by omega) (by omega), nI_1, pk_mul]
  rfl
theorem half_nI {j : Nat} (hj : j ≤ 8) (h1 : 1 ≤ j) : nI (2 ^ j) / (2 : Int32) = nI (2 ^ (j - 1)) := by
  obtain ⟨t1, t2⟩ := two_j hj
  have e : nI (2 ^ j) / nI 2 = nI (2 ^ j / 2) := pk_div (by omega) (by decide) (by decide)
  have e2 : 2 ^ j / 2 = 2 ^ (j - 1) := by
    obtain ⟨k, rfl⟩ : ∃ k, j = k + 1 := ⟨j - 1, by omega⟩
    rw [Nat.pow_succ]
    simp
  rw [← e2]
  exact e
theorem spA : ∀ (j m a b d : Nat) (x0 x1 : Int32), 1 ≤ d → d ≤ j → j ≤ 8 → j + 1 ≤ m → a < b → b ≤ 1048576 → 2 ^ (d + 1) ∣ a → 2 ^ (d + 1) ∣ b → ∃ v : Nat, f_X11_simplest_L14 m (nI a) (nI b) (nI (2 ^ j)) = nI v ∧ f_X9_simplestBetween_L48 m x0 x1 (1 : Int32) (nI a) (nI b) (nI (2 ^ j)) = nI v ∧ a < v ∧ v < b ∧ v ≤ a + 256 ∧ 2 ^ d ∣ v := by
  intro j
  induction j with
  | zero => intro m a b d x0 x1 h1 h2; omega
  | succ j ih =>
    intro m a b d x0 x1 h1 h2 h3 h4 h5 h6 h7 h8
    obtain ⟨m, rfl⟩ : ∃ k, m = k + 1 := ⟨m - 1, by omega⟩
    obtain ⟨t1, t2⟩ := two_j h3
    obtain ⟨g1, g2⟩ := nx_gt a (j + 1)
    have t3 : 2 ≤ 2 ^ (j + 1) := by rw [Nat.pow_succ]; have := (two_j (show j ≤ 8 by omega)).2; omega
    rw [sp_pos (nI_pos' (by omega)), if_neg (nI_nle (by omega) (by omega)), f_X9_simplestBetween_L48_s, nx_nI (by omega) h3, if_neg (show ¬ nI (2 ^ (j + 1)) ≤ (1 : Int32) from nI_ge (a := 1) (by omega) (by omega))]
    by_cases c : b ≤ nx a (j + 1)
    · rw [if_pos (nI_le c (by omega)), if_pos (nI_le c (by omega)), half_nI h3 (by omega)]
      have hd : d ≤ j := by
        rcases Nat.lt_or_ge j d with q | q
        · have : d = j + 1 := by omega
          subst this
          have := nx_d h7 h8 h5
          omega
        · exact q
      exact ih m a b d x0 x1 h1 hd (by omega) (by omega) h5 h6 h7 h8
    · rw [if_neg (nI_ge (by omega) (by omega)), if_neg (nI_ge (by omega) (by omega))]
      exact ⟨nx a (j + 1), rfl, Int32.one_mul _, g1, by omega, by omega, nx_dvd h2⟩
theorem neg_nI {a : Nat} (h : a < 2 ^ 31) : (-nI a).toInt = -(a : Int) := sb_negT h
theorem down_nI {a j : Nat} (ha : a ≤ 1048576) (hj : j ≤ 8) : ((-nI a) / nI (2 ^ j) - (1 : Int32)) * nI (2 ^ j) = -nI (nx a j) := by
  obtain ⟨t1, t2⟩ := two_j hj
  obtain ⟨g1, g2⟩ := nx_gt a j
  have hq : a / 2 ^ j ≤ a := Nat.div_le_self _ _
  have hn : nx a j = (a / 2 ^ j + 1) * 2 ^ j := rfl
  have e0 : (-nI a).toInt.tdiv (nI (2 ^ j)).toInt = -((a / 2 ^ j : Nat) : Int) := by
    rw [neg_nI (by omega), tI (by omega), Int.neg_tdiv, ← Int.ofNat_tdiv]
  generalize a / 2 ^ j = q at hq hn e0
  have e1 : ((-nI a) / nI (2 ^ j)).toInt = -(q : Int) := by
    rw [Int32.toInt_div, e0]
    exact i_bm (by omega) (by omega)
  have t : (1 : Int32).toInt = 1 := rfl
  have e2 : ((-nI a) / nI (2 ^ j) - (1 : Int32)).toInt = -((q + 1 : Nat) : Int) := by
    rw [i_sub (by rw [e1, t]; omega) (by rw [e1, t]; omega), e1, t]
    omega
  have e4 : -((q + 1 : Nat) : Int) * ((2 ^ j : Nat) : Int) = -((nx a j : Nat) : Int) := by
    rw [hn, Int.neg_mul, ← Int.natCast_mul]
  apply Int32.toInt_inj.mp
  rw [neg_nI (by omega), i_mul (by rw [e2, tI (by omega), e4]; omega) (by rw [e2, tI (by omega), e4]; omega), e2, tI (by omega), e4]
theorem spB : ∀ (j m a b d : Nat) (x0 x1 : Int32), 1 ≤ d → d ≤ j → j ≤ 8 → j + 1 ≤ m → a < b → b ≤ 1048576 → 2 ^ (d + 1) ∣ a → 2 ^ (d + 1) ∣ b → ∃ v : Nat, f_X11_simplest_L14 m (-nI b) (-nI a) (nI (2 ^ j)) = -nI v ∧ f_X9_simplestBetween_L48 m x0 x1 (-1 : Int32) (nI a) (nI b) (nI (2 ^ j)) = -nI v ∧ a < v ∧ v < b ∧ v ≤ a + 256 ∧ 2 ^ d ∣ v := by
  intro j
  induction j with
  | zero => intro m a b d x0 x1 h1 h2; omega
  | succ j ih =>
    intro m a b d x0 x1 h1 h2 h3 h4 h5 h6 h7 h8
    obtain ⟨m, rfl⟩ : ∃ k, m = k + 1 := ⟨m - 1, by omega⟩
    obtain ⟨t1, t2⟩ := two_j h3
    obtain ⟨g1, g2⟩ := nx_gt a (j + 1)
    have t3 : 2 ≤ 2 ^ (j + 1) := by rw [Nat.pow_succ]; have := (two_j (show j ≤ 8 by omega)).2; omega
    have t0 : (0 : Int32).toInt = 0 := rfl
    rw [sp_neg (Int32.lt_iff_toInt_lt.mpr (by rw [neg_nI (by omega), t0]; omega)) (Int32.le_iff_toInt_le.mpr (by rw [neg_nI (by omega), t0]; omega)), if_neg (nI_nle (by omega) (by omega)), f_X9_simplestBetween_L48_s, nx_nI (by omega) h3, down_nI (by omega) h3, if_neg (show ¬ nI (2 ^ (j + 1)) ≤ (1 : Int32) from nI_ge (a := 1) (by omega) (by omega))]
    by_cases c : b ≤ nx a (j + 1)
    · rw [if_pos ((sb_nle (by omega) (by omega)).mpr c), if_pos (nI_le c (by omega)), half_nI h3 (by omega)]
      have hd : d ≤ j := by
        rcases Nat.lt_or_ge j d with q | q
        · have : d = j + 1 := by omega
          subst this
          have := nx_d h7 h8 h5
          omega
        · exact q
      exact ih m a b d x0 x1 h1 hd (by omega) (by omega) h5 h6 h7 h8
    · rw [if_neg (fun z => c ((sb_nle (by omega) (by omega)).mp z)), if_neg (nI_ge (by omega) (by omega))]
      refine ⟨nx a (j + 1), rfl, ?_, g1, by omega, by omega, nx_dvd h2⟩
      exact (Int32.neg_mul 1 _).trans (by rw [Int32.one_mul])
/-- both take the same, and it is so coarse, and so near -/
theorem sp_eq {lo hi : Int32} {d : Nat} (hd : 1 ≤ d) (hd8 : d ≤ 8) (hlt : lo.toInt < hi.toInt) (hl : -1048576 ≤ lo.toInt) (hh : hi.toInt ≤ 1048576) (dl : 2 ^ (d + 1) ∣ lo.toInt.natAbs) (dh : 2 ^ (d + 1) ∣ hi.toInt.natAbs) :
    f_X11_simplest lo hi = f_X9_simplestBetween lo hi ∧ 2 ^ d ∣ (f_X11_simplest lo hi).toInt.natAbs ∧ (0 ≤ lo.toInt → lo.toInt < (f_X11_simplest lo hi).toInt ∧ (f_X11_simplest lo hi).toInt ≤ lo.toInt + 256) ∧ (hi.toInt ≤ 0 → (f_X11_simplest lo hi).toInt < hi.toInt ∧ hi.toInt - 256 ≤ (f_X11_simplest lo hi).toInt) ∧ (lo.toInt < 0 → 0 < hi.toInt → (f_X11_simplest lo hi).toInt = 0) := by
  have t0 : (0 : Int32).toInt = 0 := rfl
  by_cases c1 : 0 ≤ lo.toInt
  · obtain ⟨a, ha, ea⟩ := of_nn c1
    obtain ⟨b, hb, eb⟩ := of_nn (show 0 ≤ hi.toInt by omega)
    subst ea
    subst eb
    rw [tI ha, tI hb] at hlt
    rw [tI hb] at hh
    rw [tI ha] at dl
    rw [tI hb] at dh
    have p0 : (0 : Int32) ≤ nI a := nI_pos' ha
    have n0 : ¬ nI a < (0 : Int32) := nI_pos ha
    obtain ⟨v, e1, e2, e3, e4, e5, e6⟩ := spA 8 10 a b d (nI a) (nI b) hd hd8 (by omega) (by omega) (by omega) (by omega) (by simpa using dl) (by simpa using dh)
    have f1 : f_X11_simplest (nI a) (nI b) = nI v := by
      unfold f_X11_simplest
      rw [if_pos p0]
      exact e1
    have f2 : f_X9_simplestBetween (nI a) (nI b) = nI v := by
      unfold f_X9_simplestBetween
      rw [if_pos p0, if_neg n0, if_neg n0, if_neg n0]
      exact e2
    rw [f1, f2, tI (by omega), tI ha, tI hb]
    refine ⟨rfl, by simpa using e6, fun _ => by omega, fun q => by omega, fun q => by omega⟩
  · by_cases c2 : hi.toInt ≤ 0
    · obtain ⟨a, ea⟩ : ∃ a : Nat, hi = -nI a ∧ a ≤ 1048576 := by
        refine ⟨hi.toInt.natAbs, ?_, by omega⟩
        apply Int32.toInt_inj.mp
        rw [neg_nI (by omega)]
        omega
      obtain ⟨b, eb⟩ : ∃ b : Nat, lo = -nI b ∧ b ≤ 1048576 := by
        refine ⟨lo.toInt.natAbs, ?_, by omega⟩
        apply Int32.toInt_inj.mp
        rw [neg_nI (by omega)]
        omega
      obtain ⟨ea, ha⟩ := ea
      obtain ⟨eb, hb⟩ := eb
      subst ea
      subst eb
      rw [neg_nI (by omega), neg_nI (by omega)] at hlt
      rw [neg_nI (by omega)] at dl dh
      have n0 : ¬ (0 : Int32) ≤ -nI b := fun q => by have := i_le q; rw [neg_nI (by omega)] at this; omega
      have p0 : -nI b < (0 : Int32) := Int32.lt_iff_toInt_lt.mpr (by rw [neg_nI (by omega), t0]; omega)
      have p1 : -nI a ≤ (0 : Int32) := Int32.le_iff_toInt_le.mpr (by rw [neg_nI (by omega), t0]; omega)
      obtain ⟨v, e1, e2, e3, e4, e5, e6⟩ := spB 8 10 a b d (-nI b) (-nI a) hd hd8 (by omega) (by omega) (by omega) (by omega) (by simpa using dh) (by simpa using dl)
      have f1 : f_X11_simplest (-nI b) (-nI a) = -nI v := by
        unfold f_X11_simplest
        rw [if_neg n0, if_pos p1]
        exact e1
      have f2 : f_X9_simplestBetween (-nI b) (-nI a) = -nI v := by
        unfold f_X9_simplestBetween
        rw [if_neg n0, if_pos p1, if_pos p0, if_pos p0, if_pos p0, Int32.neg_neg, Int32.neg_neg]
        exact e2
      rw [f1, f2, neg_nI (by omega), neg_nI (by omega), neg_nI (by omega)]
      refine ⟨rfl, by simpa using e6, fun q => by omega, fun _ => by omega, fun _ q => by omega⟩
    · have n0 : ¬ (0 : Int32) ≤ lo := fun q => by have := i_le q; omega
      have n1 : ¬ hi ≤ (0 : Int32) := fun q => by have := i_le q; omega
      have f1 : f_X11_simplest lo hi = 0 := by
        unfold f_X11_simplest
        rw [if_neg n0, if_neg n1]
      have f2 : f_X9_simplestBetween lo hi = 0 := by
        unfold f_X9_simplestBetween
        rw [if_neg n0, if_neg n1]
      rw [f1, f2]
      refine ⟨rfl, ?_, fun q => by omega, fun q => by omega, fun _ _ => rfl⟩
      rw [t0]
      exact Nat.dvd_zero _
