/-! the page -/
def pgP (P : Nat → Int32) : Prop := ∀ k, ∃ j, j < 128 ∧ P k = nI j
def CH (L : Nat) (P : Nat → Int32) (p : Nat) : Int32 := if L ≤ p then 0 else P p
theorem CH_g {L : Nat} {P : Nat → Int32} {p : Nat} (hL : L ≤ 26) (hp : p < 100) : f_X5_at (nI L) P (nI p) = CH L P p := by
  unfold f_X5_at CH
  rw [if_neg (nI_pos (by omega)), nI_clamp (by omega : p < 2 ^ 31)]
  by_cases c : L ≤ p
  · rw [if_pos c, if_pos (nI_le c (by omega))]
  · rw [if_neg c, if_neg (nI_ge (by omega) (by omega))]
theorem CH_m {L : Nat} {P : Nat → Int32} {p : Nat} (hL : L ≤ 26) (hp : p < 100) : f_X11_at (nI L) P (nI p) = CH L P p := by
  unfold f_X11_at CH
  rw [nI_clamp (by omega : p < 2 ^ 31)]
  by_cases c : L ≤ p
  · rw [if_pos c, if_pos (nI_le c (by omega))]
  · rw [if_neg c, if_neg (nI_ge (by omega) (by omega))]
theorem CH_j {L : Nat} {P : Nat → Int32} (hP : pgP P) (p : Nat) : ∃ j, j < 128 ∧ CH L P p = nI j := by
  unfold CH
  split
  · exact ⟨0, by omega, rfl⟩
  · exact hP p
theorem CH_0 {L : Nat} {P : Nat → Int32} {p : Nat} (h : L ≤ p) : CH L P p = 0 := if_pos h
set_option maxRecDepth 100000 in
theorem kb128 : ∀ j, j < 128 → f_J0_indexOf_0f7a4 (nI j) = f_X11_kindBy (nI j) ∧ (f_X11_kindBy (nI j) < 0 ↔ f_X11_kindBy (nI j) = -1) := by decide +kernel
def gG (x : Int32) (n : Int32) : Int32 := if x = (45 : Int32) then (1 : Int32) else if x < (48 : Int32) then (0 : Int32) else if ((48 : Int32) + n) ≤ x then (0 : Int32) else (1 : Int32)
set_option maxRecDepth 100000 in
theorem gr128 : ∀ n, n < 8 → ∀ j, j < 128 → (gG (nI j) (nI n) = 0 ↔ ((¬ nI j = (45 : Int32)) ∧ f_X11_within (nI j - (48 : Int32)) (0 : Int32) (nI n - (1 : Int32)) = 0)) := by decide +kernel
theorem rem3 {p : Nat} (hp : p < 100) : nI p - nI p / (3 : Int32) * (3 : Int32) = nI (p % 3) := pk_rem (d := 3) (by omega) (by omega) (by omega)
theorem div3 {p : Nat} (hp : p < 100) : nI p / (3 : Int32) = nI (p / 3) := pk_div (d := 3) (by omega) (by omega) (by omega)
def fB (L : Nat) (P : Nat → Int32) (p : Nat) : Prop := f_X5_fits (nI L) P (nI p) = 0
theorem fB_K {L : Nat} {P : Nat → Int32} (hL : L ≤ 26) (hP : pgP P) {n : Nat} (hn : n < 8) : fB L P (3 * n) ↔ f_X11_kindBy (CH L P (3 * n)) = (-1 : Int32) := by
  unfold fB f_X5_fits
  rw [CH_g hL (by omega), rem3 (by omega), show 3 * n % 3 = 0 by omega, if_pos (show nI (3 * n) < (23 : Int32) from nI_lt (b := 23) (by omega) (by omega)), if_pos (show nI 0 = (0 : Int32) from rfl)]
  obtain ⟨j, hj, e⟩ := CH_j (L := L) hP (3 * n)
  rw [e, (kb128 j hj).1, ← (kb128 j hj).2]
  by_cases c : f_X11_kindBy (nI j) < 0
  · rw [if_pos c]; exact ⟨fun _ => c, fun _ => rfl⟩
  · rw [if_neg c]; exact ⟨fun q => absurd q (by decide), fun q => absurd q c⟩
theorem fB_G {L : Nat} {P : Nat → Int32} (hL : L ≤ 26) (hP : pgP P) {n : Nat} (hn : n < 8) : fB L P (3 * n + 1) ↔ ((¬ CH L P (3 * n + 1) = (45 : Int32)) ∧ f_X11_within (CH L P (3 * n + 1) - (48 : Int32)) (0 : Int32) (nI n - (1 : Int32)) = 0) := by
  unfold fB f_X5_fits
  rw [CH_g hL (by omega), rem3 (by omega), div3 (by omega), show (3 * n + 1) % 3 = 1 by omega, show (3 * n + 1) / 3 = n by omega, if_pos (show nI (3 * n + 1) < (23 : Int32) from nI_lt (b := 23) (by omega) (by omega)), if_neg (show ¬ nI 1 = (0 : Int32) by decide), if_pos (show nI 1 = (1 : Int32) from rfl)]
  obtain ⟨j, hj, e⟩ := CH_j (L := L) hP (3 * n + 1)
  rw [e]
  exact gr128 n hn j hj
theorem fB_C {L : Nat} {P : Nat → Int32} (hL : L ≤ 26) {n : Nat} (hn : n < 7) : fB L P (3 * n + 2) ↔ ¬ CH L P (3 * n + 2) = (44 : Int32) := by
  unfold fB f_X5_fits
  rw [CH_g hL (by omega), rem3 (by omega), show (3 * n + 2) % 3 = 2 by omega, if_pos (show nI (3 * n + 2) < (23 : Int32) from nI_lt (b := 23) (by omega) (by omega)), if_neg (show ¬ nI 2 = (0 : Int32) by decide), if_neg (show ¬ nI 2 = (1 : Int32) by decide)]
  by_cases c : CH L P (3 * n + 2) = (44 : Int32)
  · rw [if_pos c]; exact ⟨fun q => absurd q (by decide), fun q => absurd c q⟩
  · rw [if_neg c]; exact ⟨fun _ => c, fun _ => rfl⟩
theorem fB_23 {L : Nat} {P : Nat → Int32} {p : Nat} (hp : 23 ≤ p) (hp2 : p < 100) : fB L P p := by
  unfold fB f_X5_fits
  rw [if_neg (show ¬ nI p < (23 : Int32) from nI_nlt (b := 23) hp (by omega))]
theorem fB_end {L : Nat} {P : Nat → Int32} (hL : L ≤ 26) (hP : pgP P) : fB L P L := by
  have h0 := CH_0 (L := L) (P := P) (Nat.le_refl L)
  rcases Nat.lt_or_ge L 23 with g | g
  · rcases (show L % 3 = 0 ∨ L % 3 = 1 ∨ L % 3 = 2 by omega) with e | e | e
    · have hn : L = 3 * (L / 3) := by omega
      rw [hn] at h0
      have := (fB_K (n := L / 3) hL hP (by omega)).mpr (by rw [← hn, hn, h0]; decide)
      rw [← hn] at this
      exact this
    · have hn : L = 3 * (L / 3) + 1 := by omega
      have key : ∀ n, n < 8 → f_X11_within ((0 : Int32) - (48 : Int32)) (0 : Int32) (nI n - (1 : Int32)) = 0 := by decide +kernel
      have := (fB_G (L := L) (P := P) (n := L / 3) hL hP (by omega)).mpr (by rw [← hn, h0]; exact ⟨by decide, key _ (by omega)⟩)
      rw [← hn] at this
      exact this
    · have hn : L = 3 * (L / 3) + 2 := by omega
      have := (fB_C (L := L) (P := P) (n := L / 3) hL (by omega)).mpr (by rw [← hn, h0]; decide)
      rw [← hn] at this
      exact this
  · exact fB_23 g (by omega)
theorem fw_L {L : Nat} {P : Nat → Int32} (hL : L ≤ 26) (hP : pgP P) : ∀ (m x : Nat), L < x + m → x ≤ L → (∀ p, p < x → ¬ fB L P p) → ∃ R, f_X5_firstWrong_L2 m (nI L) P (nI x) = nI R ∧ R ≤ L ∧ fB L P R ∧ ∀ p, p < R → ¬ fB L P p := by
  intro m
  induction m with
  | zero => intro x h1 h2; omega
  | succ m ih =>
    intro x h1 h2 h3
    rw [f_X5_firstWrong_L2_s, nI_1]
    by_cases hx : x = L
    · subst hx
      rw [if_pos (nI_le (Nat.le_refl _) (by omega))]
      exact ⟨x, rfl, Nat.le_refl _, fB_end hL hP, h3⟩
    · rw [if_neg (nI_ge (by omega) (by omega))]
      by_cases c : f_X5_fits (nI L) P (nI x) = 0
      · rw [if_pos c]
        exact ⟨x, rfl, h2, c, h3⟩
      · rw [if_neg c]
        refine ih (x + 1) (by omega) (by omega) (fun p hp => ?_)
        rcases Nat.eq_or_lt_of_le (Nat.lt_succ_iff.mp hp) with y | y
        · subst y; exact c
        · exact h3 p y
theorem rd_L {L : Nat} {P : Nat → Int32} (hL : L ≤ 26) (hP : pgP P) : ∀ (m n : Nat), 8 ≤ n + m → n ≤ 7 → 1 ≤ m → (∀ p, p < 3 * n → ¬ fB L P p) →
    ∃ R iw nb, f_X11_read_L12 m (nI L) (0 : Int32) (nI n) P (nI (3 * n)) = (nI R, iw, nb) ∧ R ≤ 23 ∧ fB L P R ∧ (∀ p, p < R → ¬ fB L P p) ∧ ((iw = 1 ∧ R = L ∧ L % 3 = 2 ∧ nb = nI ((L + 1) / 3)) ∨ (iw = 0 ∧ ¬ (R = L ∧ L % 3 = 2))) := by
  intro m
  induction m with
  | zero => intro n h1 h2 h3; omega
  | succ m ih =>
    intro n h1 h2 h3 h4
    have e2 : nI (3 * n) + (2 : Int32) = nI (3 * n + 2) := nI_add (3 * n) 2
    have e3 : nI (3 * n + 2) + (1 : Int32) = nI (3 * (n + 1)) := by rw [nI_1]; congr 1
    rw [f_X11_read_L12_s, if_neg (show ¬ (8 : Int32) ≤ nI n from nI_ge (b := 8) (by omega) (by omega)), nI_1, nI_1, e2, e3, CH_m hL (by omega), CH_m hL (by omega), CH_m hL (by omega)]
    by_cases c1 : f_X11_kindBy (CH L P (3 * n)) = (-1 : Int32)
    · rw [if_pos c1]
      exact ⟨3 * n, 0, nI n, rfl, by omega, (fB_K hL hP (by omega)).mpr c1, h4, Or.inr ⟨rfl, by omega⟩⟩
    · rw [if_neg c1]
      have k1 : ∀ p, p < 3 * n + 1 → ¬ fB L P p := fun p hp => by
        rcases Nat.eq_or_lt_of_le (Nat.lt_succ_iff.mp hp) with y | y
        · subst y; exact fun z => c1 ((fB_K hL hP (by omega)).mp z)
        · exact h4 p y
      -- what follows a good ground
      have rest : ¬ fB L P (3 * n + 1) → ∃ R iw nb,
          (if nI (3 * n + 2) = nI L then
            if nI (n + 1) = (8 : Int32) then ((nI (3 * n + 2)), (1 : Int32), (nI (n + 1)))
            else if CH L P (3 * n + 2) = (44 : Int32) then f_X11_read_L12 m (nI L) (1 : Int32) (nI (n + 1)) P (nI (3 * (n + 1))) else ((nI (3 * n + 2)), (1 : Int32), (nI (n + 1)))
          else
            if nI (n + 1) = (8 : Int32) then ((nI (3 * n + 2)), (0 : Int32), (nI (n + 1)))
            else if CH L P (3 * n + 2) = (44 : Int32) then f_X11_read_L12 m (nI L) (0 : Int32) (nI (n + 1)) P (nI (3 * (n + 1))) else ((nI (3 * n + 2)), (0 : Int32), (nI (n + 1)))) = (nI R, iw, nb) ∧ R ≤ 23 ∧ fB L P R ∧ (∀ p, p < R → ¬ fB L P p) ∧ ((iw = 1 ∧ R = L ∧ L % 3 = 2 ∧ nb = nI ((L + 1) / 3)) ∨ (iw = 0 ∧ ¬ (R = L ∧ L % 3 = 2))) := by
        intro g
        have k2 : ∀ p, p < 3 * n + 2 → ¬ fB L P p := fun p hp => by
          rcases Nat.eq_or_lt_of_le (Nat.lt_succ_iff.mp hp) with y | y
          · subst y; exact g
          · exact k1 p y
        by_cases c8 : n = 7
        · subst c8
          have f23 : fB L P (3 * 7 + 2) := fB_23 (by omega) (by omega)
          by_cases cL : 3 * 7 + 2 = L
          · rw [if_pos (by rw [cL]), if_pos (show nI (7 + 1) = (8 : Int32) from rfl)]
            exact ⟨3 * 7 + 2, 1, nI (7 + 1), rfl, by omega, f23, k2, Or.inl ⟨rfl, cL, by omega, by rw [← cL]⟩⟩
          · rw [if_neg (fun z => cL ((nI_inj (by omega) (by omega)).mp z)), if_pos (show nI (7 + 1) = (8 : Int32) from rfl)]
            exact ⟨3 * 7 + 2, 0, nI (7 + 1), rfl, by omega, f23, k2, Or.inr ⟨rfl, fun z => cL z.1⟩⟩
        · have n8 : ¬ nI (n + 1) = (8 : Int32) := fun z => by
            have := (nI_inj (a := n + 1) (b := 8) (by omega) (by omega)).mp z
            omega
          by_cases cL : 3 * n + 2 = L
          · have h0 : CH L P (3 * n + 2) = 0 := CH_0 (by omega)
            rw [if_pos (by rw [cL]), if_neg n8, if_neg (by rw [h0]; decide)]
            refine ⟨3 * n + 2, 1, nI (n + 1), rfl, by omega, (fB_C hL (by omega)).mpr (by rw [h0]; decide), k2, Or.inl ⟨rfl, cL, by omega, ?_⟩⟩
            congr 1
            omega
          · rw [if_neg (fun z => cL ((nI_inj (by omega) (by omega)).mp z)), if_neg n8]
            by_cases cc : CH L P (3 * n + 2) = (44 : Int32)
            · rw [if_pos cc]
              refine ih (n + 1) (by omega) (by omega) (by omega) (fun p hp => ?_)
              rcases (show p < 3 * n + 2 ∨ p = 3 * n + 2 by omega) with y | y
              · exact k2 p y
              · subst y; exact fun z => (fB_C hL (by omega)).mp z cc
            · rw [if_neg cc]
              exact ⟨3 * n + 2, 0, nI (n + 1), rfl, by omega, (fB_C hL (by omega)).mpr cc, k2, Or.inr ⟨rfl, fun z => cL z.1⟩⟩
      by_cases c2 : CH L P (3 * n + 1) = (45 : Int32)
      · rw [if_pos c2]
        exact rest (fun z => ((fB_G hL hP (by omega)).mp z).1 c2)
      · rw [if_neg c2]
        by_cases c3 : f_X11_within (CH L P (3 * n + 1) - (48 : Int32)) (0 : Int32) (nI n - (1 : Int32)) = 0
        · rw [if_pos c3]
          exact ⟨3 * n + 1, 0, nI n, rfl, by omega, (fB_G hL hP (by omega)).mpr ⟨c2, c3⟩, k1, Or.inr ⟨rfl, by omega⟩⟩
        · rw [if_neg c3]
          exact rest (fun z => c3 ((fB_G hL hP (by omega)).mp z).2)
/-- both read the page alike -/
theorem page_eq {L : Nat} {P : Nat → Int32} (hL : L ≤ 26) (hP : pgP P) (iw0 nb0 : Int32) : ∃ R iw nb, f_X11_read (nI L) iw0 nb0 P = (nI R, iw, nb) ∧ f_X5_firstWrong (nI L) P = nI R ∧ R ≤ L ∧ (∀ p, p < R → ¬ fB L P p) ∧ ((iw = 1 ∧ R = L ∧ L % 3 = 2 ∧ nb = nI ((L + 1) / 3) ∧ f_X5_isWhole (nI L) P = 1) ∨ (iw = 0 ∧ f_X5_isWhole (nI L) P = 0)) := by
  obtain ⟨R, iw, nb, e1, e2, e3, e4, e5⟩ := rd_L hL hP 10 0 (by omega) (by omega) (by omega) (fun p h => by omega)
  obtain ⟨R', g1, g2, g3, g4⟩ := fw_L hL hP 27 0 (by omega) (by omega) (fun p h => by omega)
  have hR : R' = R := by
    rcases Nat.lt_or_ge R' R with q | q
    · exact absurd g3 (e4 R' q)
    · rcases Nat.eq_or_lt_of_le q with y | y
      · exact y.symm
      · exact absurd e3 (g4 R y)
  subst hR
  have g1' : f_X5_firstWrong (nI L) P = nI R' := g1
  refine ⟨R', iw, nb, e1, g1', g2, e4, ?_⟩
  have hw : f_X5_isWhole (nI L) P = if L % 3 = 2 then (if R' = L then 1 else 0) else 0 := by
    rw [f_X5_isWhole_s, rem3 (by omega), g1']
    by_cases c : L % 3 = 2
    · rw [if_pos c, if_pos (by rw [c]; rfl)]
      by_cases d : R' = L
      · rw [if_pos d, if_pos (by rw [d])]
      · rw [if_neg d, if_neg (fun z => d ((nI_inj (by omega) (by omega)).mp z))]
    · rw [if_neg c, if_neg (show ¬ nI (L % 3) = (2 : Int32) from fun z => c ((nI_inj (a := L % 3) (b := 2) (by omega) (by omega)).mp z))]
  rcases e5 with ⟨a1, a2, a3, a4⟩ | ⟨a1, a2⟩
  · exact Or.inl ⟨a1, a2, a3, a4, by rw [hw, if_pos a3, if_pos a2]⟩
  · refine Or.inr ⟨a1, ?_⟩
    rw [hw]
    by_cases c : L % 3 = 2
    · rw [if_pos c, if_neg (fun z => a2 ⟨z, c⟩)]
    · rw [if_neg c]
