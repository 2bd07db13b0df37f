/-! the reference's other tables -/
theorem fill2 {α : Type} {A : Nat} (hA : A < 256) (G : (Nat → α) → Nat → Nat → α) (loc : ∀ (T T' : Nat → α) (S w : Nat), S < 256 → w ≤ 1 → (∀ i, i < 2 * S → T' i = T i) → G T' S w = G T S w)
    (L : Nat → (Nat → α) → Nat → (Nat → α)) (h0 : ∀ m T k, A < k → k < 257 → L (m + 1) T k = T) (h1 : ∀ m T k, k ≤ A → sub k A → L (m + 1) T k = L m (va_up (va_up T (2 * k) (G T k 0)) (2 * k + 1) (G (va_up T (2 * k) (G T k 0)) k 1)) (k + 1)) (h2 : ∀ m T k, k ≤ A → ¬ sub k A → L (m + 1) T k = L m T (k + 1)) :
    ∀ (m k : Nat) (T : Nat → α), A + 1 < k + m → k ≤ A + 1 → (∀ S w, S < k → w ≤ 1 → sub S A → T (2 * S + w) = G T S w) → ∀ S w, S < A + 1 → w ≤ 1 → sub S A → L m T k (2 * S + w) = G (L m T k) S w := by
  intro m
  induction m with
  | zero => intro k T g1 g2; omega
  | succ m ih =>
    intro k T g1 g2 g3
    by_cases hk : k = A + 1
    · subst hk
      rw [h0 m T (A + 1) (by omega) (by omega)]
      exact g3
    · by_cases q : sub k A
      · rw [h1 m T k (by omega) q]
        refine ih (k + 1) _ (by omega) (by omega) ?_
        generalize hv0 : G T k 0 = v0
        generalize hv1 : G (va_up T (2 * k) v0) k 1 = v1
        have lo : ∀ i, i < 2 * k → va_up (va_up T (2 * k) v0) (2 * k + 1) v1 i = T i := by
          intro i hi
          rw [va_up_ne _ _ (by omega), va_up_ne _ _ (by omega)]
        intro S w hS hw hs
        rcases Nat.lt_or_ge S k with g | g
        · rw [lo _ (by omega), g3 S w g hw hs]
          exact (loc _ _ _ _ (by omega) hw (fun i hi => lo i (by omega))).symm
        · have : S = k := by omega
          subst this
          rcases (show w = 0 ∨ w = 1 by omega) with e | e
          · subst e
            show va_up (va_up T (2 * S) v0) (2 * S + 1) v1 (2 * S) = _
            rw [va_up_ne _ _ (by omega), va_up_self]
            exact hv0.symm.trans (loc _ _ _ _ (by omega) (by omega) lo).symm
          · subst e
            rw [va_up_self]
            refine hv1.symm.trans (loc _ _ _ _ (by omega) (by omega) (fun i hi => ?_)).symm
            rw [va_up_ne _ _ (by omega)]
      · rw [h2 m T k (by omega) q]
        refine ih (k + 1) _ (by omega) (by omega) ?_
        intro S w hS hw hs
        rcases Nat.lt_or_ge S k with g | g
        · exact g3 S w g hw hs
        · have : S = k := by omega
          subst this
          exact absurd hs q
/-! lasting -/
theorem lf_step {N : Nat} (hN : N ≤ 8) {K on W T : Nat → Int32} {S w : Nat} (hS : S < 256) (hw : w ≤ 1) (m k : Nat) (hk : k < N) (x3 x4 : Int32) :
    f_X11_lastingFrom_L35 (m + 1) (nI N) K on W T (nI S) (nI w) x3 x4 (nI k) =
      if f_X11_mayCut (nI N) K on (nI w) (nI k) (nI S) = 0 then f_X11_lastingFrom_L35 m (nI N) K on W T (nI S) (nI w) x3 x4 (nI (k + 1))
      else f_X11_lastingFrom_L35 m (nI N) K on W T (nI S) (nI w) x3
        (if (if x3 = 0 then ¬ T (2 * lv N on k S + (1 - w)) ≤ x4 else W (2 * lv N on k S + (1 - w)) = nI w ∧ ¬ x4 ≤ T (2 * lv N on k S + (1 - w))) then T (2 * lv N on k S + (1 - w)) else x4) (nI (k + 1)) := by
  rw [f_X11_lastingFrom_L35_s, nI_1, leaves_LV, (LV_nI hS).1, ix_21w hw (LV_nI hS).2, if_neg (nI_ge hk (by omega))]
  by_cases c1 : f_X11_mayCut (nI N) K on (nI w) (nI k) (nI S) = 0
  · rw [if_pos c1, if_pos c1]
  · rw [if_neg c1, if_neg c1]
    by_cases c2 : x3 = 0
    · rw [if_pos c2]
      by_cases c3 : T (2 * lv N on k S + (1 - w)) ≤ x4
      · simp [c2, c3]
      · simp [c2, c3]
    · rw [if_neg c2]
      by_cases c3 : W (2 * lv N on k S + (1 - w)) = nI w
      · by_cases c4 : x4 ≤ T (2 * lv N on k S + (1 - w))
        · simp [c2, c3, c4]
        · simp [c2, c3, c4]
      · simp [c2, c3]
theorem lf_end {N : Nat} (hN : N ≤ 8) {K on W T : Nat → Int32} {s who x3 x4 : Int32} (m : Nat) : f_X11_lastingFrom_L35 (m + 1) (nI N) K on W T s who x3 x4 (nI N) = x4 + (1 : Int32) := by
  rw [f_X11_lastingFrom_L35_s, if_pos (nI_le (Nat.le_refl _) (by omega))]
theorem lf_congrL {N : Nat} (hN : N ≤ 8) {K on W T T' : Nat → Int32} {S w : Nat} (hS : S < 256) (hw : w ≤ 1) (h : ∀ i, i < 2 * S → T' i = T i) (x3 : Int32) :
    ∀ (m k : Nat) (x4 : Int32), N < k + m → k ≤ N → f_X11_lastingFrom_L35 m (nI N) K on W T' (nI S) (nI w) x3 x4 (nI k) = f_X11_lastingFrom_L35 m (nI N) K on W T (nI S) (nI w) x3 x4 (nI k) := by
  intro m
  induction m with
  | zero => intro k x4 h1 h2; omega
  | succ m ih =>
    intro k x4 h1 h2
    by_cases hk : k = N
    · subst hk
      rw [lf_end hN, lf_end hN]
    · rw [lf_step hN hS hw m k (by omega), lf_step hN hS hw m k (by omega)]
      by_cases c1 : f_X11_mayCut (nI N) K on (nI w) (nI k) (nI S) = 0
      · rw [if_pos c1, if_pos c1]
        exact ih (k + 1) _ (by omega) (by omega)
      · rw [if_neg c1, if_neg c1]
        have := mC_lt (K := K) (w := w) (b := k) (by omega) hS c1
        rw [h (2 * lv N on k S + (1 - w)) (by omega)]
        exact ih (k + 1) _ (by omega) (by omega)
theorem lf_s {N : Nat} {K on W T : Nat → Int32} {S w : Nat} (hS : S < 256) (hw : w ≤ 1) : f_X11_lastingFrom (nI N) K on W T (nI S) (nI w) = if W (2 * S + w) = nI w then f_X11_lastingFrom_L35 9 (nI N) K on W T (nI S) (nI w) (1 : Int32) (1048576 : Int32) (nI 0) else f_X11_lastingFrom_L35 9 (nI N) K on W T (nI S) (nI w) (0 : Int32) (-1 : Int32) (nI 0) := by
  rw [f_X11_lastingFrom_s, ix_2w hw hS]
  by_cases c : W (2 * S + w) = nI w
  · simp [c]; rfl
  · simp [c]; rfl
theorem lf_congr {N : Nat} (hN : N ≤ 8) {K on W T T' : Nat → Int32} {S w : Nat} (hS : S < 256) (hw : w ≤ 1) (h : ∀ i, i < 2 * S → T' i = T i) : f_X11_lastingFrom (nI N) K on W T' (nI S) (nI w) = f_X11_lastingFrom (nI N) K on W T (nI S) (nI w) := by
  rw [lf_s hS hw, lf_s hS hw, lf_congrL hN hS hw h _ 9 0 _ (by omega) (by omega), lf_congrL hN hS hw h _ 9 0 _ (by omega) (by omega)]
theorem layL_w {N : Nat} {K on : Nat → Int32} {A : Nat} : ∀ (m : Nat) (W T : Nat → Int32) (x : Int32), (f_X11_layLasting_L6 m (nI N) (nI A) K on W T x).1 = W := by
  intro m
  induction m with
  | zero => intros; rfl
  | succ m ih =>
    intro W T x
    rw [f_X11_layLasting_L6_s]
    split
    · rfl
    · split <;> exact ih _ _ _
theorem layL_fx {N : Nat} (hN : N ≤ 8) {K on W T : Nat → Int32} {A : Nat} (hA : A < 256) : ∀ S w, S < A + 1 → w ≤ 1 → sub S A → (f_X11_layLasting_L6 257 (nI N) (nI A) K on W T (nI 0)).2 (2 * S + w) = f_X11_lastingFrom (nI N) K on W (f_X11_layLasting_L6 257 (nI N) (nI A) K on W T (nI 0)).2 (nI S) (nI w) := by
  refine fill2 hA (fun T S w => f_X11_lastingFrom (nI N) K on W T (nI S) (nI w)) (fun T T' S w hS hw h => lf_congr hN hS hw h) (fun m T k => (f_X11_layLasting_L6 m (nI N) (nI A) K on W T (nI k)).2) ?_ ?_ ?_ 257 0 T (by omega) (by omega) (fun S w h => by omega)
  · intro m T k hk hk2
    show (f_X11_layLasting_L6 (m + 1) (nI N) (nI A) K on W T (nI k)).2 = T
    rw [f_X11_layLasting_L6_s, if_pos (nI_lt hk (by omega))]
  · intro m T k hk q
    unfold sub at q
    show (f_X11_layLasting_L6 (m + 1) (nI N) (nI A) K on W T (nI k)).2 = _
    rw [f_X11_layLasting_L6_s, if_neg (nI_nlt hk (by omega)), if_pos q, ix_2 (by omega), ix_21 (by omega), nI_1]
    rfl
  · intro m T k hk q
    unfold sub at q
    show (f_X11_layLasting_L6 (m + 1) (nI N) (nI A) K on W T (nI k)).2 = _
    rw [f_X11_layLasting_L6_s, if_neg (nI_nlt hk (by omega)), if_neg q, nI_1]
/-! parts -/
theorem pf_step {N : Nat} (hN : N ≤ 8) {K on : Nat → Int32} {T : Nat → Int64} {S w : Nat} (hS : S < 256) (hw : w ≤ 1) (m k : Nat) (hk : k < N) (x3 : Int64) (x5 : Int32) :
    f_X11_partsFrom_L8 (m + 1) (nI N) K on T (nI S) (nI w) x3 x5 (nI k) =
      if f_X11_mayCut (nI N) K on (nI w) (nI k) (nI S) = 0 then f_X11_partsFrom_L8 m (nI N) K on T (nI S) (nI w) x3 x5 (nI (k + 1))
      else f_X11_partsFrom_L8 m (nI N) K on T (nI S) (nI w) (x3 + T (2 * lv N on k S + (1 - w))) (x5 + (1 : Int32)) (nI (k + 1)) := by
  rw [f_X11_partsFrom_L8_s, nI_1, leaves_LV, (LV_nI hS).1, ix_21w hw (LV_nI hS).2, if_neg (nI_ge hk (by omega))]
theorem pf_end {N : Nat} (hN : N ≤ 8) {K on : Nat → Int32} {T : Nat → Int64} {s who : Int32} {x3 : Int64} {x5 : Int32} (m : Nat) : f_X11_partsFrom_L8 (m + 1) (nI N) K on T s who x3 x5 (nI N) = if x5 ≤ 0 then (if who = 0 then (0 : Int64) else (182891520000 : Int64)) else x3 / x5.toInt64 := by
  rw [f_X11_partsFrom_L8_s, if_pos (nI_le (Nat.le_refl _) (by omega))]
theorem pf_congrL {N : Nat} (hN : N ≤ 8) {K on : Nat → Int32} {T T' : Nat → Int64} {S w : Nat} (hS : S < 256) (hw : w ≤ 1) (h : ∀ i, i < 2 * S → T' i = T i) :
    ∀ (m k : Nat) (x3 : Int64) (x5 : Int32), N < k + m → k ≤ N → f_X11_partsFrom_L8 m (nI N) K on T' (nI S) (nI w) x3 x5 (nI k) = f_X11_partsFrom_L8 m (nI N) K on T (nI S) (nI w) x3 x5 (nI k) := by
  intro m
  induction m with
  | zero => intro k x3 x5 h1 h2; omega
  | succ m ih =>
    intro k x3 x5 h1 h2
    by_cases hk : k = N
    · subst hk
      rw [pf_end hN, pf_end hN]
    · rw [pf_step hN hS hw m k (by omega), pf_step hN hS hw m k (by omega)]
      by_cases c1 : f_X11_mayCut (nI N) K on (nI w) (nI k) (nI S) = 0
      · rw [if_pos c1, if_pos c1]
        exact ih (k + 1) _ _ (by omega) (by omega)
      · rw [if_neg c1, if_neg c1]
        have := mC_lt (K := K) (w := w) (b := k) (by omega) hS c1
        rw [h (2 * lv N on k S + (1 - w)) (by omega)]
        exact ih (k + 1) _ _ (by omega) (by omega)
theorem pf_congr {N : Nat} (hN : N ≤ 8) {K on : Nat → Int32} {T T' : Nat → Int64} {S w : Nat} (hS : S < 256) (hw : w ≤ 1) (h : ∀ i, i < 2 * S → T' i = T i) : f_X11_partsFrom (nI N) K on T' (nI S) (nI w) = f_X11_partsFrom (nI N) K on T (nI S) (nI w) :=
  pf_congrL hN hS hw h 9 0 _ _ (by omega) (by omega)
theorem layP_fx {N : Nat} (hN : N ≤ 8) {K on : Nat → Int32} {T : Nat → Int64} {A : Nat} (hA : A < 256) (x1 : Int32) : ∀ S w, S < A + 1 → w ≤ 1 → sub S A → (f_X11_likelyNow_L2 257 (nI N) (nI A) K on T x1 (nI 0)).2 (2 * S + w) = f_X11_partsFrom (nI N) K on (f_X11_likelyNow_L2 257 (nI N) (nI A) K on T x1 (nI 0)).2 (nI S) (nI w) := by
  refine fill2 hA (fun T S w => f_X11_partsFrom (nI N) K on T (nI S) (nI w)) (fun T T' S w hS hw h => pf_congr hN hS hw h) (fun m T k => (f_X11_likelyNow_L2 m (nI N) (nI A) K on T x1 (nI k)).2) ?_ ?_ ?_ 257 0 T (by omega) (by omega) (fun S w h => by omega)
  · intro m T k hk hk2
    show (f_X11_likelyNow_L2 (m + 1) (nI N) (nI A) K on T x1 (nI k)).2 = T
    rw [f_X11_likelyNow_L2_s, if_pos (nI_lt hk (by omega))]
  · intro m T k hk q
    unfold sub at q
    show (f_X11_likelyNow_L2 (m + 1) (nI N) (nI A) K on T x1 (nI k)).2 = _
    rw [f_X11_likelyNow_L2_s, if_neg (nI_nlt hk (by omega)), if_pos q, ix_2 (by omega), ix_21 (by omega), nI_1]
    rfl
  · intro m T k hk q
    unfold sub at q
    show (f_X11_likelyNow_L2 (m + 1) (nI N) (nI A) K on T x1 (nI k)).2 = _
    rw [f_X11_likelyNow_L2_s, if_neg (nI_nlt hk (by omega)), if_neg q, nI_1]
theorem likely_r {N : Nat} {K on : Nat → Int32} {A : Nat} (hA : A < 256) {w : Nat} (hw : w ≤ 1) : ∀ (m k : Nat) (T : Nat → Int64), A + 1 < k + m → k ≤ A + 1 → (f_X11_likelyNow_L2 m (nI N) (nI A) K on T (nI w) (nI k)).1 = ((f_X11_likelyNow_L2 m (nI N) (nI A) K on T (nI w) (nI k)).2 (2 * A + w) * (1000000 : Int64) / (182891520000 : Int64)).toInt32 := by
  intro m
  induction m with
  | zero => intro k T h1 h2; omega
  | succ m ih =>
    intro k T h1 h2
    rw [f_X11_likelyNow_L2_s, nI_1, ix_2w hw hA]
    by_cases hk : A < k
    · rw [if_pos (nI_lt hk (by omega))]
    · rw [if_neg (nI_nlt (by omega) (by omega))]
      split
      · exact ih (k + 1) _ (by omega) (by omega)
      · exact ih (k + 1) _ (by omega) (by omega)
/-! worth -/
theorem wo_step {N : Nat} (hN : N ≤ 8) {K on T : Nat → Int32} {S : Nat} (hS : S < 256) (m k : Nat) (hk : k < N) (x2 x3 : Int32) :
    f_X11_worthFrom_L9 (m + 1) (nI N) K on T (nI S) x2 x3 (nI k) =
      if f_X11_mayCut (nI N) K on (0 : Int32) (nI k) (nI S) = 0 ∧ f_X11_mayCut (nI N) K on (1 : Int32) (nI k) (nI S) = 0 then f_X11_worthFrom_L9 m (nI N) K on T (nI S) x2 x3 (nI (k + 1))
      else if T (lv N on k S) = (-9999 : Int32) then (-9999 : Int32)
      else f_X11_worthFrom_L9 m (nI N) K on T (nI S)
        (if f_X11_mayCut (nI N) K on (0 : Int32) (nI k) (nI S) = 0 then x2 else if T (lv N on k S) ≤ x2 then x2 else T (lv N on k S))
        (if f_X11_mayCut (nI N) K on (1 : Int32) (nI k) (nI S) = 0 then x3 else if x3 ≤ T (lv N on k S) then x3 else T (lv N on k S)) (nI (k + 1)) := by
  rw [f_X11_worthFrom_L9_s, nI_1, leaves_LV, (LV_nI hS).1, nI_clamp (Nat.lt_trans (LV_nI hS).2 (by decide)), if_neg (nI_ge hk (by omega))]
  generalize f_X11_mayCut (nI N) K on (0 : Int32) (nI k) (nI S) = c0
  generalize f_X11_mayCut (nI N) K on (1 : Int32) (nI k) (nI S) = c1
  generalize T (lv N on k S) = t
  by_cases h0 : c0 = 0 <;> by_cases h1 : c1 = 0
  · simp only [if_pos h0, if_pos h1, if_pos (And.intro h0 h1)]
  · simp only [if_pos h0, if_neg h1, if_neg (fun z : c0 = 0 ∧ c1 = 0 => h1 z.2)]
    by_cases h4 : x3 ≤ t
    · simp only [if_pos h4]
    · simp only [if_neg h4]
  · simp only [if_neg h0, if_pos h1, if_neg (fun z : c0 = 0 ∧ c1 = 0 => h0 z.1)]
    by_cases h3 : t ≤ x2
    · simp only [if_pos h3]
    · simp only [if_neg h3]
  · simp only [if_neg h0, if_neg h1, if_neg (fun z : c0 = 0 ∧ c1 = 0 => h0 z.1)]
    by_cases h3 : t ≤ x2 <;> by_cases h4 : x3 ≤ t
    · simp only [if_pos h3, if_pos h4]
    · simp only [if_pos h3, if_neg h4]
    · simp only [if_neg h3, if_pos h4]
    · simp only [if_neg h3, if_neg h4]
theorem wo_end {N : Nat} (hN : N ≤ 8) {K on T : Nat → Int32} {s x2 x3 : Int32} (m : Nat) : f_X11_worthFrom_L9 (m + 1) (nI N) K on T s x2 x3 (nI N) = if x3 ≤ x2 then (-9999 : Int32) else f_X11_simplest x2 x3 := by
  rw [f_X11_worthFrom_L9_s, if_pos (nI_le (Nat.le_refl _) (by omega))]
theorem wo_congrL {N : Nat} (hN : N ≤ 8) {K on T T' : Nat → Int32} {S : Nat} (hS : S < 256) (h : ∀ i, i < S → T' i = T i) :
    ∀ (m k : Nat) (x2 x3 : Int32), N < k + m → k ≤ N → f_X11_worthFrom_L9 m (nI N) K on T' (nI S) x2 x3 (nI k) = f_X11_worthFrom_L9 m (nI N) K on T (nI S) x2 x3 (nI k) := by
  intro m
  induction m with
  | zero => intro k x2 x3 h1 h2; omega
  | succ m ih =>
    intro k x2 x3 h1 h2
    by_cases hk : k = N
    · subst hk
      rw [wo_end hN, wo_end hN]
    · rw [wo_step hN hS m k (by omega), wo_step hN hS m k (by omega)]
      by_cases c : f_X11_mayCut (nI N) K on (0 : Int32) (nI k) (nI S) = 0 ∧ f_X11_mayCut (nI N) K on (1 : Int32) (nI k) (nI S) = 0
      · rw [if_pos c, if_pos c]
        exact ih (k + 1) _ _ (by omega) (by omega)
      · rw [if_neg c, if_neg c]
        have hlt : lv N on k S < S := by
          by_cases c0 : f_X11_mayCut (nI N) K on (0 : Int32) (nI k) (nI S) = 0
          · exact mC_lt (K := K) (w := 1) (b := k) (by omega) hS (fun z => c ⟨c0, z⟩)
          · exact mC_lt (K := K) (w := 0) (b := k) (by omega) hS c0
        rw [h _ hlt, ih (k + 1) _ _ (by omega) (by omega)]
theorem wo_congr {N : Nat} (hN : N ≤ 8) {K on T T' : Nat → Int32} {S : Nat} (hS : S < 256) (h : ∀ i, i < S → T' i = T i) : f_X11_worthFrom (nI N) K on T' (nI S) = f_X11_worthFrom (nI N) K on T (nI S) :=
  wo_congrL hN hS h 9 0 _ _ (by omega) (by omega)
theorem layWo_L {N : Nat} (hN : N ≤ 8) {K on : Nat → Int32} {A : Nat} (hA : A < 256) :
    ∀ (m k : Nat) (T : Nat → Int32), A + 1 < k + m → k ≤ A + 1 → (∀ S, S < k → sub S A → T S = f_X11_worthFrom (nI N) K on T (nI S)) → ∀ S, S < A + 1 → sub S A → f_X11_layWorth_L2 m (nI N) (nI A) K on T (nI k) S = f_X11_worthFrom (nI N) K on (f_X11_layWorth_L2 m (nI N) (nI A) K on T (nI k)) (nI S) := by
  intro m
  induction m with
  | zero => intro k T h1 h2; omega
  | succ m ih =>
    intro k T h1 h2 h3
    rw [f_X11_layWorth_L2_s, nI_1]
    by_cases hk : k = A + 1
    · subst hk
      rw [if_pos (nI_lt (by omega) (by omega))]
      exact h3
    · rw [if_neg (nI_nlt (by omega) (by omega))]
      have hk2 : k < 256 := by omega
      by_cases q : (nI k &&& (nI A ^^^ (-1 : Int32))) = 0
      · rw [if_pos q, nI_clamp (by omega : k < 2 ^ 31)]
        refine ih (k + 1) _ (by omega) (by omega) ?_
        generalize hv : f_X11_worthFrom (nI N) K on T (nI k) = v
        have lo : ∀ i, i < k → upd T k v i = T i := fun i hi => pk_un (by omega)
        intro S hS hs
        rcases Nat.lt_or_ge S k with g | g
        · rw [lo _ g, h3 S g hs]
          exact (wo_congr hN (by omega) (fun i hi => lo i (by omega))).symm
        · have : S = k := by omega
          subst this
          rw [pk_us]
          exact hv.symm.trans (wo_congr hN hk2 lo).symm
      · rw [if_neg q]
        refine ih (k + 1) _ (by omega) (by omega) ?_
        intro S hS hs
        rcases Nat.lt_or_ge S k with g | g
        · exact h3 S g hs
        · have : S = k := by omega
          subst this
          exact absurd hs q
theorem layWo {N : Nat} (hN : N ≤ 8) {K on T : Nat → Int32} {A : Nat} (hA : A < 256) : ∀ S, S < A + 1 → sub S A → f_X11_layWorth (nI N) (nI A) K on T S = f_X11_worthFrom (nI N) K on (f_X11_layWorth (nI N) (nI A) K on T) (nI S) :=
  layWo_L hN hA 257 0 T (by omega) (by omega) (fun S h => by omega)
