/-! the reference's table of winners -/
def lv (N : Nat) (on : Nat → Int32) (b S : Nat) : Nat := (LV N on b (nI S)).toInt.toNat
theorem LV_nI {N : Nat} {on : Nat → Int32} {b S : Nat} (hS : S < 256) : LV N on b (nI S) = nI (lv N on b S) ∧ lv N on b S < 256 := by
  have h := LV_rg (N := N) (on := on) (b := b) (s := nI S) (by rw [tI (by omega)]; omega)
  obtain ⟨j, hj, e⟩ := of_rg (N := 256) (by decide) h
  have : lv N on b S = j := by
    unfold lv
    rw [e, tI (by omega)]
    rfl
  rw [this]
  exact ⟨e, hj⟩
theorem lvn_lt {N : Nat} {on : Nat → Int32} {b S : Nat} (hb : b < 8) (hS : S < 256) (h : bt (nI S) b = true) : lv N on b S < S := by
  have h1 := LV_lt (N := N) (on := on) hb (s := nI S) (by rw [tI (by omega)]; omega) h
  obtain ⟨h2, h3⟩ := LV_nI (N := N) (on := on) (b := b) hS
  rw [h2, tI (by omega), tI (by omega)] at h1
  omega
theorem mayCut_in {N : Nat} {K on : Nat → Int32} {who : Int32} {b : Nat} (hb : b < 8) {s : Int32} (h : ¬ f_X11_mayCut (nI N) K on who (nI b) s = 0) : bt s b = true := by
  cases hh : bt s b with
  | true => rfl
  | false =>
    exfalso
    apply h
    unfold f_X11_mayCut
    rw [if_pos ((isIn_0 s (by omega)).mpr hh)]
theorem ix_2w {S w : Nat} (hw : w ≤ 1) (hS : S < 256) : ((2 : Int32) * nI S + nI w).toNatClampNeg = 2 * S + w := by
  have e : (2 : Int32) * nI S + nI w = nI (2 * S + w) := by
    show nI 2 * nI S + nI w = _
    rw [pk_mul, nI_add]
  rw [e, nI_clamp (by omega)]
theorem ix_2 {S : Nat} (hS : S < 256) : ((2 : Int32) * nI S).toNatClampNeg = 2 * S := by
  have e : (2 : Int32) * nI S = nI (2 * S) := by
    show nI 2 * nI S = _
    rw [pk_mul]
  rw [e, nI_clamp (by omega)]
theorem ix_21 {S : Nat} (hS : S < 256) : ((2 : Int32) * nI S + (1 : Int32)).toNatClampNeg = 2 * S + 1 := ix_2w (w := 1) (by omega) hS
theorem ix_21w {S w : Nat} (hw : w ≤ 1) (hS : S < 256) : ((2 : Int32) * nI S + (1 : Int32) - nI w).toNatClampNeg = 2 * S + (1 - w) := by
  have e : (2 : Int32) * nI S + (1 : Int32) - nI w = nI (2 * S + (1 - w)) := by
    show nI 2 * nI S + nI 1 - nI w = _
    rw [pk_mul, nI_add, pk_sub (by omega)]
    congr 1
    omega
  rw [e, nI_clamp (by omega)]
/-- a cut of the side w by the branch b, in the reference -/
def mC (N : Nat) (K on : Nat → Int32) (w b S : Nat) : Prop := ¬ f_X11_mayCut (nI N) K on (nI w) (nI b) (nI S) = 0
theorem mC_lt {N : Nat} {K on : Nat → Int32} {w b S : Nat} (hb : b < 8) (hS : S < 256) (h : mC N K on w b S) : lv N on b S < S := lvn_lt hb hS (mayCut_in hb h)
theorem wf_L {N : Nat} (hN : N ≤ 8) {K on T : Nat → Int32} {S w : Nat} (hS : S < 256) (hw : w ≤ 1) :
    ∀ (m k : Nat), N < k + m → k ≤ N →
      ((∃ b, k ≤ b ∧ b < N ∧ mC N K on w b S ∧ T (2 * lv N on b S + (1 - w)) = nI w) → f_X11_winnerFrom_L2 m (nI N) K on T (nI S) (nI w) (nI k) = nI w) ∧
      ((¬ ∃ b, k ≤ b ∧ b < N ∧ mC N K on w b S ∧ T (2 * lv N on b S + (1 - w)) = nI w) → f_X11_winnerFrom_L2 m (nI N) K on T (nI S) (nI w) (nI k) = nI (1 - w)) := by
  intro m
  induction m with
  | zero => intro k h1 h2; omega
  | succ m ih =>
    intro k h1 h2
    rw [f_X11_winnerFrom_L2_s, nI_1]
    by_cases hk : k = N
    · subst hk
      rw [if_pos (nI_le (Nat.le_refl _) (by omega))]
      refine ⟨fun ⟨b, h3, h4, _⟩ => by omega, fun _ => ?_⟩
      show nI 1 - nI w = _
      exact pk_sub hw
    · have hlt : k < N := by omega
      rw [if_neg (nI_ge hlt (by omega))]
      obtain ⟨i1, i2⟩ := ih (k + 1) (by omega) (by omega)
      have more : ∀ P : Nat → Prop, ¬ P k → ((∃ b, k ≤ b ∧ b < N ∧ P b) ↔ (∃ b, k + 1 ≤ b ∧ b < N ∧ P b)) := by
        intro P hP
        constructor
        · rintro ⟨b, h3, h4, h5⟩
          refine ⟨b, ?_, h4, h5⟩
          rcases Nat.eq_or_lt_of_le h3 with q | q
          · subst q; exact absurd h5 hP
          · exact q
        · rintro ⟨b, h3, h4⟩
          exact ⟨b, by omega, h4⟩
      by_cases q : f_X11_mayCut (nI N) K on (nI w) (nI k) (nI S) = 0
      · rw [if_pos q]
        rw [more (fun b => mC N K on w b S ∧ T (2 * lv N on b S + (1 - w)) = nI w) (fun h => h.1 q)]
        exact ⟨i1, i2⟩
      · rw [if_neg q, leaves_LV, (LV_nI hS).1, ix_21w hw (LV_nI hS).2]
        by_cases t : T (2 * lv N on k S + (1 - w)) = nI w
        · rw [if_pos t]
          exact ⟨fun _ => rfl, fun h => absurd ⟨k, Nat.le_refl _, hlt, q, t⟩ h⟩
        · rw [if_neg t]
          rw [more (fun b => mC N K on w b S ∧ T (2 * lv N on b S + (1 - w)) = nI w) (fun h => t h.2)]
          exact ⟨i1, i2⟩
theorem wf_yes {N : Nat} (hN : N ≤ 8) {K on T : Nat → Int32} {S w : Nat} (hS : S < 256) (hw : w ≤ 1) (h : ∃ b, b < N ∧ mC N K on w b S ∧ T (2 * lv N on b S + (1 - w)) = nI w) : f_X11_winnerFrom (nI N) K on T (nI S) (nI w) = nI w := by
  obtain ⟨b, h1, h2⟩ := h
  exact (wf_L hN hS hw 9 0 (by omega) (by omega)).1 ⟨b, by omega, h1, h2⟩
theorem wf_no {N : Nat} (hN : N ≤ 8) {K on T : Nat → Int32} {S w : Nat} (hS : S < 256) (hw : w ≤ 1) (h : ¬ ∃ b, b < N ∧ mC N K on w b S ∧ T (2 * lv N on b S + (1 - w)) = nI w) : f_X11_winnerFrom (nI N) K on T (nI S) (nI w) = nI (1 - w) :=
  (wf_L hN hS hw 9 0 (by omega) (by omega)).2 (fun ⟨b, _, h1, h2⟩ => h ⟨b, h1, h2⟩)
theorem wf_iff {N : Nat} (hN : N ≤ 8) {K on T : Nat → Int32} {S w : Nat} (hS : S < 256) (hw : w ≤ 1) : f_X11_winnerFrom (nI N) K on T (nI S) (nI w) = nI w ↔ ∃ b, b < N ∧ mC N K on w b S ∧ T (2 * lv N on b S + (1 - w)) = nI w := by
  constructor
  · intro h
    apply Classical.byContradiction
    intro hn
    rw [wf_no hN hS hw hn, nI_inj (by omega) (by omega)] at h
    omega
  · exact wf_yes hN hS hw
/-- it looks at what is below alone -/
theorem wf_congr {N : Nat} (hN : N ≤ 8) {K on T T' : Nat → Int32} {S w : Nat} (hS : S < 256) (hw : w ≤ 1) (h : ∀ i, i < 2 * S → T' i = T i) : f_X11_winnerFrom (nI N) K on T' (nI S) (nI w) = f_X11_winnerFrom (nI N) K on T (nI S) (nI w) := by
  have e : (∃ b, b < N ∧ mC N K on w b S ∧ T' (2 * lv N on b S + (1 - w)) = nI w) ↔ (∃ b, b < N ∧ mC N K on w b S ∧ T (2 * lv N on b S + (1 - w)) = nI w) := by
    constructor
    · rintro ⟨b, h1, h2, h3⟩
      have := mC_lt (by omega) hS h2
      exact ⟨b, h1, h2, by rw [← h _ (by omega)]; exact h3⟩
    · rintro ⟨b, h1, h2, h3⟩
      have := mC_lt (by omega) hS h2
      exact ⟨b, h1, h2, by rw [h _ (by omega)]; exact h3⟩
  by_cases q : ∃ b, b < N ∧ mC N K on w b S ∧ T (2 * lv N on b S + (1 - w)) = nI w
  · rw [wf_yes hN hS hw q, wf_yes hN hS hw (e.mpr q)]
  · rw [wf_no hN hS hw q, wf_no hN hS hw (fun z => q (e.mp z))]
/-- a part of what stands -/
def sub (S A : Nat) : Prop := (nI S &&& (nI A ^^^ (-1 : Int32))) = 0
theorem sub_bt {S A : Nat} : sub S A ↔ ∀ i, i < 32 → bt (nI S) i = true → bt (nI A) i = true := by
  unfold sub
  rw [and_0]
  constructor
  · intro h i hi h1
    have := h i hi
    rw [bt_not _ hi] at this
    cases hh : bt (nI A) i with
    | true => rfl
    | false => exact absurd ⟨h1, by rw [hh]; rfl⟩ this
  · intro h i hi ⟨h1, h2⟩
    rw [bt_not _ hi, h i hi h1] at h2
    cases h2
theorem sub_rf (A : Nat) : sub A A := sub_bt.mpr (fun _ _ h => h)
theorem sub_lv {N : Nat} {on : Nat → Int32} {b S A : Nat} (hb : b < 8) (hS : S < 256) (h : sub S A) : sub (lv N on b S) A := by
  rw [sub_bt] at h ⊢
  intro i hi h1
  rw [← (LV_nI hS).1, LV_bt hb hi] at h1
  apply h i hi
  cases hh : bt (nI S) i <;> simp_all
def fxW (N : Nat) (K on : Nat → Int32) (A : Nat) (T : Nat → Int32) (k : Nat) : Prop := ∀ S w, S < k → w ≤ 1 → sub S A → T (2 * S + w) = f_X11_winnerFrom (nI N) K on T (nI S) (nI w)
theorem fxW_step {N : Nat} (hN : N ≤ 8) {K on T : Nat → Int32} {A k : Nat} (hk : k < 256) (h : fxW N K on A T k) :
    fxW N K on A (upd (upd T (2 * k) (f_X11_winnerFrom (nI N) K on T (nI k) (nI 0))) (2 * k + 1) (f_X11_winnerFrom (nI N) K on (upd T (2 * k) (f_X11_winnerFrom (nI N) K on T (nI k) (nI 0))) (nI k) (nI 1))) (k + 1) := by
  generalize hv0 : f_X11_winnerFrom (nI N) K on T (nI k) (nI 0) = v0
  generalize hv1 : f_X11_winnerFrom (nI N) K on (upd T (2 * k) v0) (nI k) (nI 1) = v1
  have lo : ∀ i, i < 2 * k → upd (upd T (2 * k) v0) (2 * k + 1) v1 i = T i := by
    intro i hi
    rw [pk_un (by omega), pk_un (by omega)]
  intro S w hS hw hs
  rcases Nat.lt_or_ge S k with g | g
  · rw [lo _ (by omega), h S w g hw hs]
    exact (wf_congr hN (by omega) hw (fun i hi => lo i (by omega))).symm
  · have : S = k := by omega
    subst this
    rcases (show w = 0 ∨ w = 1 by omega) with e | e
    · subst e
      show upd (upd T (2 * S) v0) (2 * S + 1) v1 (2 * S) = _
      rw [pk_un (by omega), pk_us]
      exact hv0.symm.trans (wf_congr hN hk (by omega) lo).symm
    · subst e
      rw [pk_us]
      refine hv1.symm.trans (wf_congr hN hk (by omega) (fun i hi => ?_)).symm
      rw [pk_un (by omega)]
theorem layW_L {N : Nat} (hN : N ≤ 8) {K on : Nat → Int32} {A : Nat} (hA : A < 256) :
    ∀ (m k : Nat) (T : Nat → Int32), A + 1 < k + m → k ≤ A + 1 → fxW N K on A T k → fxW N K on A (f_X11_layWinners_L2 m (nI N) (nI A) K on T (nI k)) (A + 1) := by
  intro m
  induction m with
  | zero => intro k T h1 h2; omega
  | succ m ih =>
    intro k T h1 h2 h3
    rw [f_X11_layWinners_L2_s, nI_1]
    by_cases hk : k = A + 1
    · subst hk
      rw [if_pos (nI_lt (by omega) (by omega))]
      exact h3
    · rw [if_neg (nI_nlt (by omega) (by omega))]
      have hk2 : k < 256 := by omega
      by_cases q : (nI k &&& (nI A ^^^ (-1 : Int32))) = 0
      · rw [if_pos q, ix_2 hk2, ix_21 hk2]
        exact ih (k + 1) _ (by omega) (by omega) (fxW_step hN hk2 h3)
      · rw [if_neg q]
        refine ih (k + 1) _ (by omega) (by omega) ?_
        intro S w hS hw hs
        rcases Nat.lt_or_ge S k with g | g
        · exact h3 S w g hw hs
        · have : S = k := by omega
          subst this
          exact absurd hs q
theorem layW {N : Nat} (hN : N ≤ 8) {K on T : Nat → Int32} {A : Nat} (hA : A < 256) : fxW N K on A (f_X11_layWinners (nI N) (nI A) K on T) (A + 1) :=
  layW_L hN hA 257 0 T (by omega) (by omega) (fun S w h => by omega)
