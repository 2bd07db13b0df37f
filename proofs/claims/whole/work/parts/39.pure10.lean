/-! worth: the charts -/
theorem cb_mono {x y : Int32} : ∀ k, (∀ i, i < k → bt x i = true → bt y i = true) → cb x k ≤ cb y k := by
  intro k
  induction k with
  | zero => intro _; exact Nat.le_refl _
  | succ k ih =>
    intro h
    have h1 := ih (fun i hi => h i (by omega))
    have h2 := h k (by omega)
    rw [cb_s, cb_s]
    cases hx : bt x k <;> cases hy : bt y k <;> simp_all <;> omega
theorem cb_lt {x y : Int32} {b : Nat} : ∀ k, b < k → (∀ i, i < k → bt x i = true → bt y i = true) → bt x b = false → bt y b = true → cb x k < cb y k := by
  intro k
  induction k with
  | zero => intro h; omega
  | succ k ih =>
    intro hb h hx0 hy0
    rw [cb_s, cb_s]
    by_cases q : b = k
    · subst q
      have := cb_mono b (fun i hi => h i (by omega))
      rw [hx0, hy0]
      simp
      omega
    · have := ih (by omega) (fun i hi => h i (by omega)) hx0 hy0
      have h2 := h k (by omega)
      cases hx : bt x k <;> cases hy : bt y k <;> simp_all <;> omega
def pcn (S : Nat) : Nat := cb (nI S) 8
theorem pcn_lv {N : Nat} {on : Nat → Int32} {b S : Nat} (hb : b < 8) (hS : S < 256) (h : bt (nI S) b = true) : pcn (lv N on b S) < pcn S := by
  unfold pcn
  have e := (LV_nI (N := N) (on := on) (b := b) hS).1
  refine cb_lt 8 hb (fun i hi h1 => ?_) ?_ h
  · rw [← e, LV_bt hb (by omega)] at h1
    cases hh : bt (nI S) i <;> simp_all
  · rw [← e, LV_bt hb (by omega)]
    simp
def vOK (v : Int32) (c : Nat) : Prop := v = (-9999 : Int32) ∨ (2 ^ (9 - c) ∣ v.toInt.natAbs ∧ v.toInt.natAbs ≤ 256 * c)
/-- a bound so far -/
def jO (v f : Int32) (c : Nat) : Prop := v = f ∨ (1 ≤ c ∧ 2 ^ (10 - c) ∣ v.toInt.natAbs ∧ v.toInt.natAbs ≤ 256 * (c - 1))
theorem vOK_j {v f : Int32} {c c' : Nat} (h : vOK v c') (hc : c' < c) (hn : ¬ v = (-9999 : Int32)) : jO v f c := by
  rcases h with h | ⟨h1, h2⟩
  · exact absurd h hn
  · refine Or.inr ⟨by omega, Nat.dvd_trans (Nat.pow_dvd_pow 2 (by omega)) h1, ?_⟩
    exact Nat.le_trans h2 (Nat.mul_le_mul_left _ (by omega))
theorem gO_step {N : Nat} (hN : N ≤ 8) {K on abv va : Nat → Int32} (ha : ∀ b, b < N → abv b = AB N on b) {S : Nat} (hS : S < 256) {ch0 ch1 : Int32} (h0 : ∀ b, b < N → (bt ch0 b = true ↔ mC N K on 0 b S)) (h1 : ∀ b, b < N → (bt ch1 b = true ↔ mC N K on 1 b S)) (m k : Nat) (hk : k < N) (lo hi : Int32) :
    f_X9_simplestOf_L11 (m + 1) (nI N) abv va (nI S) ch0 ch1 lo hi (nI k) =
      if f_X11_mayCut (nI N) K on (0 : Int32) (nI k) (nI S) = 0 ∧ f_X11_mayCut (nI N) K on (1 : Int32) (nI k) (nI S) = 0 then f_X9_simplestOf_L11 m (nI N) abv va (nI S) ch0 ch1 lo hi (nI (k + 1))
      else if va (lv N on k S) = (-9999 : Int32) then (-9999 : Int32)
      else f_X9_simplestOf_L11 m (nI N) abv va (nI S) ch0 ch1
        (if f_X11_mayCut (nI N) K on (0 : Int32) (nI k) (nI S) = 0 then lo else if va (lv N on k S) ≤ lo then lo else va (lv N on k S))
        (if f_X11_mayCut (nI N) K on (1 : Int32) (nI k) (nI S) = 0 then hi else if hi ≤ va (lv N on k S) then hi else va (lv N on k S)) (nI (k + 1)) := by
  rw [f_X9_simplestOf_L11_s, nI_1, if_neg (nI_ge hk (by omega)), leftBy_LV (by omega) (ha k hk), (LV_nI hS).1, nI_clamp (Nat.lt_trans (LV_nI hS).2 (by decide))]
  have b0 : ((ch0 >>> (nI k &&& 31)) &&& (1 : Int32)) = 0 ↔ f_X11_mayCut (nI N) K on (0 : Int32) (nI k) (nI S) = 0 := by
    rw [bit_ne _ (by omega)]
    have := h0 k hk
    unfold mC at this
    cases hh : bt ch0 k
    · rw [hh] at this
      exact ⟨fun _ => Classical.not_not.mp (fun q => Bool.noConfusion (this.mpr q)), fun _ => rfl⟩
    · exact ⟨fun q => Bool.noConfusion q, fun q => absurd q (this.mp hh)⟩
  have b1 : ((ch1 >>> (nI k &&& 31)) &&& (1 : Int32)) = 0 ↔ f_X11_mayCut (nI N) K on (1 : Int32) (nI k) (nI S) = 0 := by
    rw [bit_ne _ (by omega)]
    have := h1 k hk
    unfold mC at this
    cases hh : bt ch1 k
    · rw [hh] at this
      exact ⟨fun _ => Classical.not_not.mp (fun q => Bool.noConfusion (this.mpr q)), fun _ => rfl⟩
    · exact ⟨fun q => Bool.noConfusion q, fun q => absurd q (this.mp hh)⟩
  have b2 : (((ch0 ||| ch1) >>> (nI k &&& 31)) &&& (1 : Int32)) = 0 ↔ (f_X11_mayCut (nI N) K on (0 : Int32) (nI k) (nI S) = 0 ∧ f_X11_mayCut (nI N) K on (1 : Int32) (nI k) (nI S) = 0) := by
    rw [← b0, ← b1, bit_ne _ (by omega), bit_ne _ (by omega), bit_ne _ (by omega), b_or]
    cases bt ch0 k <;> cases bt ch1 k <;> simp
  have mx : ∀ x y : Int32, (if x < y then y else x) = if y ≤ x then x else y := by
    intro x y
    by_cases q : y ≤ x
    · rw [if_pos q, if_neg (fun z => by have := i_lt z; have := i_le q; omega)]
    · rw [if_neg q, if_pos (Int32.lt_iff_toInt_lt.mpr (i_nle q))]
  have mn : ∀ x y : Int32, (if y < x then y else x) = if x ≤ y then x else y := by
    intro x y
    by_cases q : x ≤ y
    · rw [if_pos q, if_neg (fun z => by have := i_lt z; have := i_le q; omega)]
    · rw [if_neg q, if_pos (Int32.lt_iff_toInt_lt.mpr (i_nle q))]
  generalize f_X11_mayCut (nI N) K on (0 : Int32) (nI k) (nI S) = c0 at b0 b2 ⊢
  generalize f_X11_mayCut (nI N) K on (1 : Int32) (nI k) (nI S) = c1 at b1 b2 ⊢
  by_cases q0 : c0 = 0 <;> by_cases q1 : c1 = 0
  · rw [if_pos (b2.mpr ⟨q0, q1⟩), if_pos ⟨q0, q1⟩]
  · rw [if_neg (fun z => q1 (b2.mp z).2)]
    simp only [if_neg (fun z : c0 = 0 ∧ c1 = 0 => q1 z.2), if_pos (b0.mpr q0), if_neg (mt b1.mp q1), if_pos q0, if_neg q1, mn]
  · rw [if_neg (fun z => q0 (b2.mp z).1)]
    simp only [if_neg (fun z : c0 = 0 ∧ c1 = 0 => q0 z.1), if_neg (mt b0.mp q0), if_pos (b1.mpr q1), if_neg q0, if_pos q1, mx]
  · rw [if_neg (fun z => q0 (b2.mp z).1)]
    simp only [if_neg (fun z : c0 = 0 ∧ c1 = 0 => q0 z.1), if_neg (mt b0.mp q0), if_neg (mt b1.mp q1), if_neg q0, if_neg q1, mx, mn]
theorem eV_L {N : Nat} (hN : N ≤ 8) {K on abv va T : Nat → Int32} (ha : ∀ b, b < N → abv b = AB N on b) {S c : Nat} (hS : S < 256) (hc8 : c ≤ 8) {ch0 ch1 : Int32} (h0 : ∀ b, b < N → (bt ch0 b = true ↔ mC N K on 0 b S)) (h1 : ∀ b, b < N → (bt ch1 b = true ↔ mC N K on 1 b S))
    (hT : ∀ b, b < N → (mC N K on 0 b S ∨ mC N K on 1 b S) → va (lv N on b S) = T (lv N on b S) ∧ ∃ c', c' < c ∧ vOK (T (lv N on b S)) c') :
    ∀ (m k : Nat) (lo hi : Int32), N < k + m → k ≤ N → jO lo (-1048576) c → jO hi 1048576 c →
      f_X9_simplestOf_L11 m (nI N) abv va (nI S) ch0 ch1 lo hi (nI k) = f_X11_worthFrom_L9 m (nI N) K on T (nI S) lo hi (nI k) ∧ vOK (f_X11_worthFrom_L9 m (nI N) K on T (nI S) lo hi (nI k)) c := by
  intro m
  induction m with
  | zero => intro k lo hi g1 g2; omega
  | succ m ih =>
    intro k lo hi g1 g2 g3 g4
    by_cases hk : k = N
    · subst hk
      rw [wo_end hN, f_X9_simplestOf_L11_s, if_pos (nI_le (Nat.le_refl _) (by omega))]
      by_cases q : hi ≤ lo
      · rw [if_pos q, if_pos q]
        exact ⟨rfl, Or.inl rfl⟩
      · rw [if_neg q, if_neg q]
        have q1 := i_nle q
        have tF : (1048576 : Int32).toInt = 1048576 := rfl
        have tG : (-1048576 : Int32).toInt = -1048576 := rfl
        -- the step d
        have hd : ∃ d, 1 ≤ d ∧ d ≤ 8 ∧ (c = 0 → d = 8) ∧ (1 ≤ c → d = 9 - c) := by
          rcases Nat.eq_zero_or_pos c with e | e
          · exact ⟨8, by omega, by omega, fun _ => rfl, fun z => by omega⟩
          · exact ⟨9 - c, by omega, by omega, fun z => by omega, fun _ => rfl⟩
        obtain ⟨d, d1, d8, dz, dp⟩ := hd
        have far : 2 ^ (d + 1) ∣ 1048576 := by
          have : 1048576 = 2 ^ 20 := by decide
          rw [this]
          exact Nat.pow_dvd_pow 2 (by omega)
        have jd : ∀ v f : Int32, f.toInt.natAbs = 1048576 → jO v f c → 2 ^ (d + 1) ∣ v.toInt.natAbs ∧ v.toInt.natAbs ≤ 1048576 := by
          intro v f hf h
          rcases h with h | ⟨p1, p2, p3⟩
          · rw [h, hf]; exact ⟨far, Nat.le_refl _⟩
          · have e : d + 1 = 10 - c := by have := dp p1; omega
            rw [e]
            exact ⟨p2, by omega⟩
        obtain ⟨l1, l2⟩ := jd lo (-1048576) (by rw [tG]; rfl) g3
        obtain ⟨u1, u2⟩ := jd hi 1048576 (by rw [tF]; rfl) g4
        obtain ⟨s1, s2, s3, s4, s5⟩ := sp_eq d1 d8 q1 (by omega) (by omega) l1 u1
        refine ⟨s1.symm, Or.inr ?_⟩
        rcases Nat.eq_zero_or_pos c with e | e
        · have e1 : lo = -1048576 := g3.elim id (fun z => by omega)
          have e2 : hi = 1048576 := g4.elim id (fun z => by omega)
          have e3 := s5 (by rw [e1, tG]; omega) (by rw [e2, tF]; omega)
          rw [e3]
          exact ⟨Nat.dvd_zero _, Nat.zero_le _⟩
        · have e9 := dp e
          rw [e9] at s2
          refine ⟨s2, ?_⟩
          by_cases p1 : 0 ≤ lo.toInt
          · have := s3 p1
            rcases g3 with z | ⟨z1, z2, z3⟩
            · rw [z, tG] at p1; omega
            · omega
          · by_cases p2 : hi.toInt ≤ 0
            · have := s4 p2
              rcases g4 with z | ⟨z1, z2, z3⟩
              · rw [z, tF] at p2; omega
              · omega
            · have := s5 (by omega) (by omega)
              omega
    · have hlt : k < N := by omega
      rw [wo_step hN hS m k hlt, gO_step hN ha hS h0 h1 m k hlt]
      by_cases q : f_X11_mayCut (nI N) K on (0 : Int32) (nI k) (nI S) = 0 ∧ f_X11_mayCut (nI N) K on (1 : Int32) (nI k) (nI S) = 0
      · rw [if_pos q, if_pos q]
        exact ih (k + 1) lo hi (by omega) (by omega) g3 g4
      · rw [if_neg q, if_neg q]
        have hm : mC N K on 0 k S ∨ mC N K on 1 k S := by
          by_cases z : f_X11_mayCut (nI N) K on (0 : Int32) (nI k) (nI S) = 0
          · exact Or.inr (fun y => q ⟨z, y⟩)
          · exact Or.inl z
        obtain ⟨t1, c', t2, t3⟩ := hT k hlt hm
        rw [t1]
        by_cases z : T (lv N on k S) = (-9999 : Int32)
        · rw [if_pos z, if_pos z]
          exact ⟨rfl, Or.inl rfl⟩
        · rw [if_neg z, if_neg z]
          refine ih (k + 1) _ _ (by omega) (by omega) ?_ ?_
          · split
            · exact g3
            · split
              · exact g3
              · exact vOK_j t3 t2 z
          · split
            · exact g4
            · split
              · exact g4
              · exact vOK_j t3 t2 z
def oV (N : Nat) (on K : Nat → Int32) (va : Nat → Int32) (S : Nat) : Prop := va S = TV N on K S ∧ vOK (TV N on K S) (pcn S)
theorem eV {N : Nat} (hN : N ≤ 8) {on abv K va : Nat → Int32} (ho : hOn N on) (ha : ∀ b, b < N → abv b = AB N on b) (hk : ∀ b, b < N → isK (K b)) {S : Nat} (hS : S < 256) (hs : stds N on (nI S))
    (low : ∀ S', S' < S → stds N on (nI S') → oV N on K va S') :
    f_X9_enter (nI N) abv va (nI S) (f_X6_choices (nI N) abv K (nI 0) (nI S)) (f_X6_choices (nI N) abv K (nI 1) (nI S)) = upd va S (TV N on K S) ∧ vOK (TV N on K S) (pcn S) := by
  have hch : ∀ w, w ≤ 1 → ∀ b, b < N → (bt (f_X6_choices (nI N) abv K (nI w) (nI S)) b = true ↔ mC N K on w b S) := fun w hw b hb => by
    rw [ch_bt hN ha hk (by omega), mC_gC hN ho hb (hk b hb) hw hs]
    exact ⟨fun h => h.2, fun h => ⟨hb, h⟩⟩
  have hT : ∀ b, b < N → (mC N K on 0 b S ∨ mC N K on 1 b S) → va (lv N on b S) = TV N on K (lv N on b S) ∧ ∃ c', c' < pcn S ∧ vOK (TV N on K (lv N on b S)) c' := by
    intro b hb hm
    have hin : bt (nI S) b = true := hm.elim (fun z => mayCut_in (by omega) z) (fun z => mayCut_in (by omega) z)
    obtain ⟨g1, g2⟩ := low _ (lvn_lt (by omega) hS hin) (by rw [← (LV_nI hS).1]; exact LV_st hN ho hb hs)
    exact ⟨g1, pcn (lv N on b S), pcn_lv (by omega) hS hin, g2⟩
  have h := eV_L hN ha hS (cb_le _ 8) (hch 0 (by omega)) (hch 1 (by omega)) hT 9 0 (-1048576) 1048576 (by omega) (by omega) (Or.inl rfl) (Or.inl rfl)
  rw [f_X9_enter_s, nI_clamp (by omega : S < 2 ^ 31), TV_fx hN hS (st_FU hN hs)]
  refine ⟨?_, h.2⟩
  exact congrArg (upd va S) h.1
theorem wo_congr2L {N : Nat} (hN : N ≤ 8) {K on T T' : Nat → Int32} {S : Nat} (hS : S < 256) (h : ∀ b, b < N → (mC N K on 0 b S ∨ mC N K on 1 b S) → T' (lv N on b S) = T (lv N on b S)) :
    ∀ (m k : Nat) (x2 x3 : Int32), N < k + m → k ≤ N → f_X11_worthFrom_L9 m (nI N) K on T' (nI S) x2 x3 (nI k) = f_X11_worthFrom_L9 m (nI N) K on T (nI S) x2 x3 (nI k) := by
  intro m
  induction m with
  | zero => intro k x2 x3 h1 h2; omega
  | succ m ih =>
    intro k x2 x3 h1 h2
    by_cases hk : k = N
    · subst hk
      rw [wo_end hN, wo_end hN]
    · rw [wo_step hN hS m k (by omega), wo_step hN hS m k (by omega)]
      by_cases c : f_X11_mayCut (nI N) K on (0 : Int32) (nI k) (nI S) = 0 ∧ f_X11_mayCut (nI N) K on (1 : Int32) (nI k) (nI S) = 0
      · rw [if_pos c, if_pos c]
        exact ih (k + 1) _ _ (by omega) (by omega)
      · rw [if_neg c, if_neg c]
        have hm : mC N K on 0 k S ∨ mC N K on 1 k S := by
          by_cases z : f_X11_mayCut (nI N) K on (0 : Int32) (nI k) (nI S) = 0
          · exact Or.inr (fun y => c ⟨z, y⟩)
          · exact Or.inl z
        rw [h k (by omega) hm, ih (k + 1) _ _ (by omega) (by omega)]
theorem uV {N : Nat} (hN : N ≤ 8) {on K T : Nat → Int32} {A : Nat} (hA : A < 256) (hAF : sub A (FU N)) (h : ∀ S, S < A + 1 → sub S A → T S = f_X11_worthFrom (nI N) K on T (nI S)) : ∀ S, S < 256 → sub S A → T S = TV N on K S := by
  have tr : ∀ S, sub S A → sub S (FU N) := fun S hs => sub_bt.mpr (fun i hi q => sub_bt.mp hAF i hi (sub_bt.mp hs i hi q))
  intro S
  induction S using Nat.strongRecOn with
  | ind S ih =>
    intro hS hs
    rw [h S (by have := sub_le hS hA hs; omega) hs, TV_fx hN hS (tr S hs)]
    refine wo_congr2L hN hS (fun b hb hm => ?_) 9 0 _ _ (by omega) (by omega)
    have hin : bt (nI S) b = true := hm.elim (fun z => mayCut_in (by omega) z) (fun z => mayCut_in (by omega) z)
    exact ih _ (lvn_lt (by omega) hS hin) (LV_nI hS).2 (sub_lv (by omega) hS hs)
