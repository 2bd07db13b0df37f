/-! copies -/
def cp (n : Nat) (f g : Nat → Int32) : Nat → Int32 := fun i => if i < n then f i else g i
theorem cp_0 (f g : Nat → Int32) : cp 0 f g = g := funext (fun i => if_neg (by omega))
theorem cp_s (k : Nat) (f g : Nat → Int32) : upd (cp k f g) k (f k) = cp (k + 1) f g := by
  funext i
  by_cases q : i = k
  · subst q; rw [pk_us]; exact (if_pos (by omega)).symm
  · rw [pk_un q]
    show (if i < k then f i else g i) = (if i < k + 1 then f i else g i)
    by_cases c : i < k
    · rw [if_pos c, if_pos (by omega)]
    · rw [if_neg c, if_neg (by omega)]
theorem cp_v (f g : Nat → Int32) : va_cpy f g ((0 : Int32)).toNatClampNeg ((0 : Int32)).toNatClampNeg ((8 : Int32)).toNatClampNeg = cp 8 f g := by
  funext i
  show (if 0 ≤ i ∧ i < 0 + 8 then f (0 + (i - 0)) else g i) = if i < 8 then f i else g i
  by_cases c : i < 8
  · rw [if_pos (by omega), if_pos c, Nat.zero_add, Nat.sub_zero]
  · rw [if_neg (by omega), if_neg c]
theorem cp_lt {n : Nat} {f g : Nat → Int32} {i : Nat} (h : i < n) : cp n f g i = f i := if_pos h
theorem cp_01 {n : Nat} {f g : Nat → Int32} (hf : ∀ k, f k = 0 ∨ f k = 1) (hg : ∀ k, g k = 0 ∨ g k = 1) (i : Nat) : cp n f g i = 0 ∨ cp n f g i = 1 := by
  by_cases c : i < n
  · rw [cp_lt c]; exact hf i
  · rw [show cp n f g i = g i from if_neg c]; exact hg i
theorem nb01 {v : Int32} (h : v = 0 ∨ v = 1) : vp_nar .boolean v = v := by rcases h with e | e <;> rw [e] <;> rfl
theorem cpK_L {sz ks : Int32} {f1 f2 f3 g1 g2 g3 : Nat → Int32} (hw : ∀ k, f3 k = 0 ∨ f3 k = 1) : ∀ (m k : Nat), 6 < k + m → k ≤ 6 → f_X7_copyFrom_kept_L10 m sz ks f1 f2 f3 (cp k f1 g1) (cp k f2 g2) (cp k f3 g3) (nI k) = (ks, cp 6 f1 g1, cp 6 f2 g2, cp 6 f3 g3) := by
  intro m
  induction m with
  | zero => intro k h1 h2; omega
  | succ m ih =>
    intro k h1 h2
    rw [f_X7_copyFrom_kept_L10_s]
    by_cases hk : k = 6
    · subst hk
      rw [if_pos (show (6 : Int32) ≤ nI 6 by decide)]
    · rw [if_neg (show ¬ (6 : Int32) ≤ nI k from nI_ge (b := 6) (by omega) (by omega)), nI_1, nI_clamp (by omega : k < 2 ^ 31), nb01 (hw k), cp_s, cp_s, cp_s]
      exact ih (k + 1) (by omega) (by omega)
theorem cpN_L {sz ks : Int32} {f1 f2 f3 g1 g2 g3 : Nat → Int32} (hw : ∀ k, f3 k = 0 ∨ f3 k = 1) : ∀ (m k : Nat), 6 < k + m → k ≤ 6 → f_X7_copyFrom_now_L10 m sz ks (cp k f1 g1) (cp k f2 g2) (cp k f3 g3) f1 f2 f3 (nI k) = (sz, cp 6 f1 g1, cp 6 f2 g2, cp 6 f3 g3) := by
  intro m
  induction m with
  | zero => intro k h1 h2; omega
  | succ m ih =>
    intro k h1 h2
    rw [f_X7_copyFrom_now_L10_s]
    by_cases hk : k = 6
    · subst hk
      rw [if_pos (show (6 : Int32) ≤ nI 6 by decide)]
    · rw [if_neg (show ¬ (6 : Int32) ≤ nI k from nI_ge (b := 6) (by omega) (by omega)), nI_1, nI_clamp (by omega : k < 2 ^ 31), nb01 (hw k), cp_s, cp_s, cp_s]
      exact ih (k + 1) (by omega) (by omega)
theorem im2_L {a1 a2 a3 a4 a5 a6 a7 a8 a9 a10 a11 a12 : Int32} {b0 kk f1 f2 f3 g1 g2 g3 : Nat → Int32} : ∀ (m k : Nat), 6 < k + m → k ≤ 6 → f_X11_image_L83 m a1 a2 a3 a4 a5 a6 a7 a8 a9 a10 a11 a12 b0 f1 f2 f3 kk (cp k f1 g1) (cp k f2 g2) (cp k f3 g3) (nI k) = (a5, a7, a8, a9, a10, a11, a12, kk, cp 6 f1 g1, cp 6 f2 g2, cp 6 f3 g3) := by
  intro m
  induction m with
  | zero => intro k h1 h2; omega
  | succ m ih =>
    intro k h1 h2
    rw [f_X11_image_L83_s]
    by_cases hk : k = 6
    · subst hk
      rw [if_pos (show (6 : Int32) ≤ nI 6 by decide)]
    · rw [if_neg (show ¬ (6 : Int32) ≤ nI k from nI_ge (b := 6) (by omega) (by omega)), nI_1, nI_clamp (by omega : k < 2 ^ 31), cp_s, cp_s, cp_s]
      exact ih (k + 1) (by omega) (by omega)
theorem im1_L {a1 a2 a3 a4 a5 a6 a7 a8 a9 a10 a11 a12 : Int32} {b0 kk f1 f2 f3 g1 g2 g3 : Nat → Int32} : ∀ (m k : Nat), 8 < k + m → k ≤ 8 → f_X11_image_L57 m a1 a2 a3 a4 a5 a6 a7 a8 a9 a10 a11 a12 b0 f1 f2 f3 (cp k b0 kk) g1 g2 g3 (nI k) = (a5, a7, a8, a9, a10, a11, a12, cp 8 b0 kk, cp 6 f1 g1, cp 6 f2 g2, cp 6 f3 g3) := by
  intro m
  induction m with
  | zero => intro k h1 h2; omega
  | succ m ih =>
    intro k h1 h2
    rw [f_X11_image_L57_s]
    by_cases hk : k = 8
    · subst hk
      rw [if_pos (show (8 : Int32) ≤ nI 8 by decide)]
      have := im2_L (a1 := a1) (a2 := a2) (a3 := a3) (a4 := a4) (a5 := a5) (a6 := a6) (a7 := a7) (a8 := a8) (a9 := a9) (a10 := a10) (a11 := a11) (a12 := a12) (b0 := b0) (kk := cp 8 b0 kk) (f1 := f1) (f2 := f2) (f3 := f3) (g1 := g1) (g2 := g2) (g3 := g3) 7 0 (by omega) (by omega)
      rw [cp_0, cp_0, cp_0] at this
      exact this
    · rw [if_neg (show ¬ (8 : Int32) ≤ nI k from nI_ge (b := 8) (by omega) (by omega)), nI_1, nI_clamp (by omega : k < 2 ^ 31), cp_s]
      exact ih (k + 1) (by omega) (by omega)
theorem re2_L {a1 a2 a3 a4 a5 a6 a7 a8 a9 a10 a11 : Int32} {b0 kk f1 f2 f3 g1 g2 g3 : Nat → Int32} : ∀ (m k : Nat), 6 < k + m → k ≤ 6 → f_X11_restore_L81 m a1 a2 a3 a4 a5 a6 a7 a8 a9 a10 a11 kk (cp k f1 g1) (cp k f2 g2) (cp k f3 g3) b0 f1 f2 f3 (nI k) = (a4, a2, a3, a4, a5, kk, cp 6 f1 g1, cp 6 f2 g2, cp 6 f3 g3) := by
  intro m
  induction m with
  | zero => intro k h1 h2; omega
  | succ m ih =>
    intro k h1 h2
    rw [f_X11_restore_L81_s]
    by_cases hk : k = 6
    · subst hk
      rw [if_pos (show (6 : Int32) ≤ nI 6 by decide)]
    · rw [if_neg (show ¬ (6 : Int32) ≤ nI k from nI_ge (b := 6) (by omega) (by omega)), nI_1, nI_clamp (by omega : k < 2 ^ 31), cp_s, cp_s, cp_s]
      exact ih (k + 1) (by omega) (by omega)
theorem re1_L {a1 a2 a3 a4 a5 a6 a7 a8 a9 a10 a11 : Int32} {b0 kk f1 f2 f3 g1 g2 g3 : Nat → Int32} : ∀ (m k : Nat), 8 < k + m → k ≤ 8 → f_X11_restore_L55 m a1 a2 a3 a4 a5 a6 a7 a8 a9 a10 a11 (cp k b0 kk) g1 g2 g3 b0 f1 f2 f3 (nI k) = (a4, a2, a3, a4, a5, cp 8 b0 kk, cp 6 f1 g1, cp 6 f2 g2, cp 6 f3 g3) := by
  intro m
  induction m with
  | zero => intro k h1 h2; omega
  | succ m ih =>
    intro k h1 h2
    rw [f_X11_restore_L55_s]
    by_cases hk : k = 8
    · subst hk
      rw [if_pos (show (8 : Int32) ≤ nI 8 by decide)]
      have := re2_L (a1 := a1) (a2 := a2) (a3 := a3) (a4 := a4) (a5 := a5) (a6 := a6) (a7 := a7) (a8 := a8) (a9 := a9) (a10 := a10) (a11 := a11) (b0 := b0) (kk := cp 8 b0 kk) (f1 := f1) (f2 := f2) (f3 := f3) (g1 := g1) (g2 := g2) (g3 := g3) 7 0 (by omega) (by omega)
      rw [cp_0, cp_0, cp_0] at this
      exact this
    · rw [if_neg (show ¬ (8 : Int32) ≤ nI k from nI_ge (b := 8) (by omega) (by omega)), nI_1, nI_clamp (by omega : k < 2 ^ 31), cp_s]
      exact ih (k + 1) (by omega) (by omega)
theorem cpK {sz ks : Int32} {f1 f2 f3 g1 g2 g3 : Nat → Int32} (hw : ∀ k, f3 k = 0 ∨ f3 k = 1) : f_X7_copyFrom_kept sz ks f1 f2 f3 g1 g2 g3 = (sz, cp 6 f1 g1, cp 6 f2 g2, cp 6 f3 g3) := by
  have := cpK_L (sz := sz) (ks := sz) (f1 := f1) (f2 := f2) (g1 := g1) (g2 := g2) (g3 := g3) hw 7 0 (by omega) (by omega)
  rw [cp_0, cp_0, cp_0] at this
  exact this
theorem cpN {sz ks : Int32} {f1 f2 f3 g1 g2 g3 : Nat → Int32} (hw : ∀ k, f3 k = 0 ∨ f3 k = 1) : f_X7_copyFrom_now sz ks g1 g2 g3 f1 f2 f3 = (ks, cp 6 f1 g1, cp 6 f2 g2, cp 6 f3 g3) := by
  have := cpN_L (sz := ks) (ks := ks) (f1 := f1) (f2 := f2) (g1 := g1) (g2 := g2) (g3 := g3) hw 7 0 (by omega) (by omega)
  rw [cp_0, cp_0, cp_0] at this
  exact this
theorem im1 {a1 a2 a3 a4 a5 a6 a7 a8 a9 a10 a11 a12 : Int32} {b0 kk f1 f2 f3 g1 g2 g3 : Nat → Int32} : f_X11_image_L57 9 a1 a2 a3 a4 a5 a6 a7 a8 a9 a10 a11 a12 b0 f1 f2 f3 kk g1 g2 g3 (0 : Int32) = (a5, a7, a8, a9, a10, a11, a12, cp 8 b0 kk, cp 6 f1 g1, cp 6 f2 g2, cp 6 f3 g3) := by
  have := im1_L (a1 := a1) (a2 := a2) (a3 := a3) (a4 := a4) (a5 := a5) (a6 := a6) (a7 := a7) (a8 := a8) (a9 := a9) (a10 := a10) (a11 := a11) (a12 := a12) (b0 := b0) (kk := kk) (f1 := f1) (f2 := f2) (f3 := f3) (g1 := g1) (g2 := g2) (g3 := g3) 9 0 (by omega) (by omega)
  rw [cp_0] at this
  exact this
theorem re1 {a1 a2 a3 a4 a5 a6 a7 a8 a9 a10 a11 : Int32} {b0 kk f1 f2 f3 g1 g2 g3 : Nat → Int32} : f_X11_restore_L55 9 a1 a2 a3 a4 a5 a6 a7 a8 a9 a10 a11 kk g1 g2 g3 b0 f1 f2 f3 (0 : Int32) = (a4, a2, a3, a4, a5, cp 8 b0 kk, cp 6 f1 g1, cp 6 f2 g2, cp 6 f3 g3) := by
  have := re1_L (a1 := a1) (a2 := a2) (a3 := a3) (a4 := a4) (a5 := a5) (a6 := a6) (a7 := a7) (a8 := a8) (a9 := a9) (a10 := a10) (a11 := a11) (b0 := b0) (kk := kk) (f1 := f1) (f2 := f2) (f3 := f3) (g1 := g1) (g2 := g2) (g3 := g3) 9 0 (by omega) (by omega)
  rw [cp_0] at this
  exact this
theorem nh_0 {N : Nat} (hN : N ≤ 8) : f_X10_hasNoHedge (nI N) = 0 ↔ ¬ N = 0 := by
  unfold f_X10_hasNoHedge
  by_cases c : N = 0
  · subst c; exact ⟨fun h => absurd h (by decide), fun h => absurd rfl h⟩
  · have n0 : ¬ nI N = 0 := nI_ne0 (by omega) (by omega)
    rw [if_neg n0]
    exact ⟨fun _ => c, fun _ => rfl⟩
