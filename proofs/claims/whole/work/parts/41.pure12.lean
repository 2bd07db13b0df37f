/-! which sets can stand -/
theorem hf_0 {on : Nat → Int32} {N b : Nat} (ho : hOn N on) (hN : N ≤ 8) (hb : b < N) {s : Int32} : f_X8_hasFooting on (nI b) s = 0 ↔ ¬ ∀ j, on b = nI j → j < b → bt s j = true := by
  unfold f_X8_hasFooting
  rw [nI_clamp (by omega : b < 2 ^ 31)]
  rcases ho b hb with e | ⟨j, hj, e⟩
  · rw [if_pos e]
    refine ⟨fun q => absurd q (by decide), fun q => absurd (fun j h1 h2 => ?_) q⟩
    exact absurd (h1.symm.trans e) (nI_ne_m1 (by omega))
  · rw [if_neg (by rw [e]; exact nI_ne_m1 (by omega)), e]
    cases hh : bt s j
    · rw [if_pos ((bit_ne _ (by omega)).mpr hh)]
      refine ⟨fun _ q => ?_, fun _ => rfl⟩
      rw [q j rfl hj] at hh
      cases hh
    · rw [if_neg (by rw [bit_ne _ (by omega), hh]; decide)]
      refine ⟨fun q => absurd q (by decide), fun q => absurd (fun i h1 h2 => ?_) q⟩
      have := (nI_inj (by omega) (by omega)).mp h1
      rw [← this]
      exact hh
theorem cs_L {on : Nat → Int32} {N : Nat} (ho : hOn N on) (hN : N ≤ 8) {s : Int32} :
    ∀ (m k : Nat), N < k + m → k ≤ N → (f_X8_canStand_L2 m (nI N) on s (nI k) = 0 ↔ ¬ ∀ e, k ≤ e → e < N → bt s e = true → ∀ j, on e = nI j → j < e → bt s j = true) := by
  intro m
  induction m with
  | zero => intro k h1 h2; omega
  | succ m ih =>
    intro k h1 h2
    rw [f_X8_canStand_L2_s, nI_1]
    by_cases hk : k = N
    · subst hk
      rw [if_pos (nI_le (Nat.le_refl _) (by omega))]
      exact ⟨fun q => absurd q (by decide), fun q => absurd (fun e g1 g2 => by omega) q⟩
    · have hlt : k < N := by omega
      rw [if_neg (nI_ge hlt (by omega))]
      have go : (bt s k = true → ∀ j, on k = nI j → j < k → bt s j = true) → ((¬ ∀ e, k + 1 ≤ e → e < N → bt s e = true → ∀ j, on e = nI j → j < e → bt s j = true) ↔ ¬ ∀ e, k ≤ e → e < N → bt s e = true → ∀ j, on e = nI j → j < e → bt s j = true) := by
        intro hk0
        constructor
        · intro q z
          exact q (fun e g1 => z e (by omega))
        · intro q z
          refine q (fun e g1 g2 => ?_)
          rcases Nat.eq_or_lt_of_le g1 with y | y
          · subst y; exact hk0
          · exact z e y g2
      by_cases c : bt s k = true
      · rw [if_neg (by rw [bit_ne _ (by omega), c]; decide)]
        by_cases c2 : f_X8_hasFooting on (nI k) s = 0
        · rw [if_pos c2]
          refine ⟨fun _ z => ?_, fun _ => rfl⟩
          exact (hf_0 ho hN hlt).mp c2 (z k (Nat.le_refl _) hlt c)
        · rw [if_neg c2, ih (k + 1) (by omega) (by omega)]
          exact go (fun _ => Classical.not_not.mp (fun z => c2 ((hf_0 ho hN hlt).mpr z)))
      · rw [if_pos ((bit_ne _ (by omega)).mpr (by simpa using c)), ih (k + 1) (by omega) (by omega)]
        exact go (fun z => absurd z c)
theorem hiN {N S : Nat} (h : S < 2 ^ N) : ∀ e, N ≤ e → bt (nI S) e = false := by
  intro e he
  rcases Nat.lt_or_ge e 32 with g | g
  · rw [bt_nI e g]
    exact Nat.testBit_lt_two_pow (Nat.lt_of_lt_of_le h (Nat.pow_le_pow_right (by decide) he))
  · exact b_big g
theorem cs_st {on : Nat → Int32} {N S : Nat} (ho : hOn N on) (hN : N ≤ 8) (hS : S < 2 ^ N) : f_X8_canStand (nI N) on (nI S) = 0 ↔ ¬ stds N on (nI S) := by
  have h := cs_L ho hN (s := nI S) 9 0 (by omega) (by omega)
  refine h.trans ⟨fun q z => q (fun e _ g2 => z.2 e g2), fun q z => q ⟨hiN hS, fun e g2 => z e (by omega) g2⟩⟩
theorem shl_nI {N : Nat} (hN : N ≤ 8) : (1 : Int32) <<< (nI N &&& 31) = nI (2 ^ N) := by
  have : ∀ n, n < 9 → (1 : Int32) <<< (nI n &&& 31) = nI (2 ^ n) := by decide +kernel
  exact this N (by omega)
/-- the list so far: of the sets below x -/
def sL (N : Nat) (on sets : Nat → Int32) (M x : Nat) : Prop := M ≤ x ∧ (∀ i, i < M → ∃ S, S < x ∧ sets i = nI S ∧ stds N on (nI S)) ∧ (∀ i j S S', i < j → j < M → S < 256 → S' < 256 → sets i = nI S → sets j = nI S' → S < S') ∧ (∀ S, S < x → stds N on (nI S) → ∃ i, i < M ∧ sets i = nI S) ∧ (∀ i, 0 ≤ (sets i).toInt ∧ (sets i).toInt < 256)
theorem fs_L {on : Nat → Int32} {N : Nat} (ho : hOn N on) (hN : N ≤ 8) :
    ∀ (m x M : Nat) (sets : Nat → Int32), 2 ^ N < x + m → x ≤ 2 ^ N → sL N on sets M x → ∃ M2 sets2, f_X8_findSets_L7 m (nI N) (nI M) on sets (nI x) = (nI M2, sets2) ∧ sL N on sets2 M2 (2 ^ N) := by
  have h256 : 2 ^ N ≤ 256 := (two_j hN).1
  intro m
  induction m with
  | zero => intro x M sets h1 h2; omega
  | succ m ih =>
    intro x M sets h1 h2 h3
    have hMx := h3.1
    rw [f_X8_findSets_L7_s, shl_nI hN, nI_1, nI_1, nI_clamp (by omega : M < 2 ^ 31)]
    by_cases hx : x = 2 ^ N
    · subst hx
      rw [if_pos (nI_le (Nat.le_refl _) (by omega))]
      exact ⟨M, sets, rfl, h3⟩
    · have hlt : x < 2 ^ N := by omega
      rw [if_neg (nI_ge hlt (by omega))]
      obtain ⟨s1, s2, s3, s4, s5⟩ := h3
      by_cases c : f_X8_canStand (nI N) on (nI x) = 0
      · rw [if_pos c]
        refine ih (x + 1) M sets (by omega) (by omega) ⟨by omega, fun i hi => ?_, s3, fun S hS hst => ?_, s5⟩
        · obtain ⟨S, g1, g2⟩ := s2 i hi
          exact ⟨S, by omega, g2⟩
        · rcases Nat.eq_or_lt_of_le (Nat.lt_succ_iff.mp hS) with y | y
          · subst y; exact absurd hst ((cs_st ho hN hlt).mp c)
          · exact s4 S y hst
      · rw [if_neg c]
        have hst : stds N on (nI x) := Classical.not_not.mp (fun z => c ((cs_st ho hN hlt).mpr z))
        have lo : ∀ i, i < M → upd sets M (nI x) i = sets i := fun i hi => pk_un (by omega)
        refine ih (x + 1) (M + 1) _ (by omega) (by omega) ⟨by omega, fun i hi => ?_, fun i j S S' g1 g2 g3 g4 g5 g6 => ?_, fun S hS hst2 => ?_, fun i => ?_⟩
        · rcases Nat.eq_or_lt_of_le (Nat.lt_succ_iff.mp hi) with y | y
          · subst y; exact ⟨x, by omega, pk_us, hst⟩
          · obtain ⟨S, g1, g2, g3⟩ := s2 i y
            exact ⟨S, by omega, by rw [lo i y]; exact g2, g3⟩
        · rcases Nat.eq_or_lt_of_le (Nat.lt_succ_iff.mp g2) with y | y
          · subst y
            rw [pk_us] at g6
            rw [lo i g1] at g5
            obtain ⟨S2, q1, q2, q3⟩ := s2 i g1
            have e1 := (nI_inj (by omega) (by omega)).mp (g5.symm.trans q2)
            have e2 := (nI_inj (by omega) (by omega)).mp g6
            omega
          · rw [lo i (by omega)] at g5
            rw [lo j y] at g6
            exact s3 i j S S' g1 y g3 g4 g5 g6
        · rcases Nat.eq_or_lt_of_le (Nat.lt_succ_iff.mp hS) with y | y
          · subst y; exact ⟨M, by omega, pk_us⟩
          · obtain ⟨i, g1, g2⟩ := s4 S y hst2
            exact ⟨i, by omega, by rw [lo i g1]; exact g2⟩
        · by_cases y : i = M
          · subst y
            rw [pk_us, tI (by omega)]
            omega
          · rw [pk_un y]; exact s5 i
theorem fs_ok {on sets : Nat → Int32} {N : Nat} (ho : hOn N on) (hN : N ≤ 8) {sc : Int32} (hr : ∀ i, 0 ≤ (sets i).toInt ∧ (sets i).toInt < 256) : ∃ M2 sets2, f_X8_findSets (nI N) sc on sets = (nI M2, sets2) ∧ sOK N on sets2 M2 ∧ ∀ i, 0 ≤ (sets2 i).toInt ∧ (sets2 i).toInt < 256 := by
  have h256 : 2 ^ N ≤ 256 := (two_j hN).1
  obtain ⟨M2, sets2, e, s1, s2, s3, s4, s5⟩ := fs_L ho hN 257 0 0 sets (by omega) (Nat.zero_le _) ⟨Nat.le_refl _, fun i h => by omega, fun i j S S' _ h => by omega, fun S h => by omega, hr⟩
  refine ⟨M2, sets2, e, ⟨by omega, fun i hi => ?_, s3, fun S hS hst => ?_⟩, s5⟩
  · obtain ⟨S, g1, g2⟩ := s2 i hi
    exact ⟨S, by omega, g2⟩
  · refine s4 S ?_ hst
    have := sub_le hS (FU_lt hN) (st_FU hN hst)
    have := Nat.two_pow_pos N
    unfold FU at *
    omega
/-! what is on what, from above -/
/-- the bits that a branch has got from those above x -/
def pA (N : Nat) (on abv : Nat → Int32) (x : Nat) : Prop := ∀ b, b < N → ∀ e, (bt (abv b) e = true ↔ ∃ c, x < c ∧ c < N ∧ on c = nI b ∧ (e = c ∨ bt (AB N on c) e = true))
/-- AB by what is straight on it -/
theorem AB_up {N : Nat} (hN : N ≤ 8) {on : Nat → Int32} (ho : hOn N on) {b : Nat} (hb : b < N) (e : Nat) : bt (AB N on b) e = true ↔ ∃ c, b < c ∧ c < N ∧ on c = nI b ∧ (e = c ∨ bt (AB N on c) e = true) := by
  obtain ⟨a1, a2, a3⟩ := above_bt hN ho hb
  constructor
  · induction e using Nat.strongRecOn with
    | ind e ih =>
      intro h
      have hbe : b < e := by
        rcases Nat.lt_or_ge b e with g | g
        · exact g
        · rw [a1 e g] at h; cases h
      have heN : e < N := by
        rcases Nat.lt_or_ge e N with g | g
        · exact g
        · rw [a2 e g] at h; cases h
      rcases (a3 e hbe heN).mp h with g | ⟨j, j1, j2, j3⟩
      · exact ⟨e, hbe, heN, g, Or.inl rfl⟩
      · obtain ⟨c, c1, c2, c3, c4⟩ := ih j j1 j3
        refine ⟨c, c1, c2, c3, Or.inr ?_⟩
        obtain ⟨b1, b2, b3⟩ := above_bt hN ho c2
        have hce : c < e := by
          rcases c4 with y | y
          · omega
          · rcases Nat.lt_or_ge c j with g | g
            · omega
            · rw [b1 j g] at y; cases y
        refine (b3 e hce heN).mpr ?_
        rcases c4 with y | y
        · left; rw [j2, y]
        · exact Or.inr ⟨j, j1, j2, y⟩
  · rintro ⟨c, c1, c2, c3, c4⟩
    have hc : bt (AB N on b) c = true := (a3 c c1 c2).mpr (Or.inl c3)
    rcases c4 with y | y
    · rw [y]; exact hc
    · obtain ⟨b1, b2, b3⟩ := above_bt hN ho c2
      induction e using Nat.strongRecOn with
      | ind e ih =>
        have hce : c < e := by
          rcases Nat.lt_or_ge c e with g | g
          · exact g
          · rw [b1 e g] at y; cases y
        have heN : e < N := by
          rcases Nat.lt_or_ge e N with g | g
          · exact g
          · rw [b2 e g] at y; cases y
        refine (a3 e (by omega) heN).mpr (Or.inr ?_)
        rcases (b3 e hce heN).mp y with g | ⟨j, j1, j2, j3⟩
        · exact ⟨c, hce, g, hc⟩
        · exact ⟨j, j1, j2, ih j j1 j3⟩
theorem ab_L {N : Nat} (hN : N ≤ 8) {on : Nat → Int32} (ho : hOn N on) {plen sc : Int32} {lett sets : Nat → Int32} :
    ∀ (x m : Nat) (abv : Nat → Int32), x < m → x < N → pA N on abv x → ∃ abv2, f_X8_readFrom_L54 m plen (nI N) sc lett on abv sets (nI x) = (nI N, (f_X8_findSets (nI N) sc on sets).1, on, abv2, (f_X8_findSets (nI N) sc on sets).2) ∧ ∀ b, b < N → abv2 b = AB N on b := by
  intro x
  induction x with
  | zero =>
    intro m abv h1 h2 h3
    obtain ⟨m, rfl⟩ : ∃ k, m = k + 1 := ⟨m - 1, by omega⟩
    rw [f_X8_readFrom_L54_s, if_pos (show nI 0 ≤ 0 by decide)]
    refine ⟨abv, rfl, fun b hb => ?_⟩
    apply b_ext
    intro e he
    have g1 := h3 b hb e
    have g2 := AB_up hN ho hb e
    have : bt (abv b) e = true ↔ bt (AB N on b) e = true := by
      rw [g1, g2]
      constructor
      · rintro ⟨c, c1, c2, c3, c4⟩
        refine ⟨c, ?_, c2, c3, c4⟩
        rcases ho c c2 with q | ⟨j, j1, j2⟩
        · exact absurd (c3.symm.trans q) (nI_ne_m1 (by omega))
        · have := (nI_inj (by omega) (by omega)).mp (c3.symm.trans j2)
          omega
      · rintro ⟨c, c1, c2, c3, c4⟩
        exact ⟨c, by omega, c2, c3, c4⟩
    cases hx : bt (abv b) e <;> cases hy : bt (AB N on b) e <;> simp_all
  | succ x ih =>
    intro m abv h1 h2 h3
    obtain ⟨m, rfl⟩ : ∃ k, m = k + 1 := ⟨m - 1, by omega⟩
    have em1 : nI (x + 1) + (-1 : Int32) = nI x := pk_m1 x
    rw [f_X8_readFrom_L54_s, if_neg (nI_nle (by omega) (by omega)), nI_clamp (by omega : x + 1 < 2 ^ 31), em1]
    have t0 : (0 : Int32).toInt = 0 := rfl
    rcases ho (x + 1) h2 with q | ⟨j, j1, j2⟩
    · rw [if_pos (by rw [q]; decide)]
      refine ih m abv (by omega) (by omega) (fun b hb e => ?_)
      rw [h3 b hb e]
      constructor
      · rintro ⟨c, c1, c2⟩
        exact ⟨c, by omega, c2⟩
      · rintro ⟨c, c1, c2, c3, c4⟩
        refine ⟨c, ?_, c2, c3, c4⟩
        rcases Nat.eq_or_lt_of_le c1 with y | y
        · have : c = x + 1 := y.symm
          subst this
          exact absurd (c3.symm.trans q) (nI_ne_m1 (by omega))
        · exact y
    · rw [if_neg (by rw [j2]; exact nI_pos (by omega)), j2, if_neg (nI_ge (by omega) (by omega)), nI_clamp (by omega : j < 2 ^ 31)]
      refine ih m _ (by omega) (by omega) (fun b hb e => ?_)
      have full : ∀ e, bt (f_X8_withAllOn abv (nI (x + 1))) e = true ↔ (e = x + 1 ∨ bt (AB N on (x + 1)) e = true) := by
        intro e
        unfold f_X8_withAllOn
        rw [nI_clamp (by omega : x + 1 < 2 ^ 31), b_or]
        have g := h3 (x + 1) h2 e
        have g2 := AB_up hN ho h2 e
        have g3 : bt (abv (x + 1)) e = true ↔ bt (AB N on (x + 1)) e = true := g.trans g2.symm
        rcases Nat.lt_or_ge e 32 with y | y
        · rw [bt_s1 (by omega) y]
          by_cases z : e = x + 1
          · simp [z]
          · cases hx : bt (abv (x + 1)) e <;> cases hy : bt (AB N on (x + 1)) e <;> simp_all
        · rw [b_big y, b_big y]
          have : bt (AB N on (x + 1)) e = false := b_big y
          rw [this]
          have : ¬ e = x + 1 := by omega
          simp [this]
      by_cases z : b = j
      · subst z
        rw [pk_us, b_or]
        have g := h3 b hb e
        have f := full e
        constructor
        · intro h
          cases hx : bt (abv b) e with
          | true =>
            obtain ⟨c, c1, c2⟩ := g.mp hx
            exact ⟨c, by omega, c2⟩
          | false =>
            rw [hx] at h
            simp at h
            exact ⟨x + 1, by omega, h2, j2, f.mp h⟩
        · rintro ⟨c, c1, c2, c3, c4⟩
          rcases Nat.eq_or_lt_of_le c1 with y | y
          · have : c = x + 1 := y.symm
            subst this
            rw [f.mpr c4]
            simp
          · rw [g.mpr ⟨c, y, c2, c3, c4⟩]
            rfl
      · rw [pk_un z, h3 b hb e]
        constructor
        · rintro ⟨c, c1, c2⟩
          exact ⟨c, by omega, c2⟩
        · rintro ⟨c, c1, c2, c3, c4⟩
          refine ⟨c, ?_, c2, c3, c4⟩
          rcases Nat.eq_or_lt_of_le c1 with y | y
          · have : c = x + 1 := y.symm
            subst this
            exact absurd ((nI_inj (by omega) (by omega)).mp (c3.symm.trans j2)) z
          · exact y
