/-! both answer alike: of which kind a branch is by who won, whom to let begin -/
def wv (N : Nat) (O K : Nat → Int32) (A b j w : Nat) : Int32 := if TW N O (upd K b (nI j)) (2 * A + w) = nI w then 1 else 0
theorem ls_L {N : Nat} (hN : N ≤ 8) {O K : Nat → Int32} {A : Nat} (hA : A < 256) (hst : stds N O (nI A)) {b : Nat} (hb : b < 8) :
    ∀ (m kd : Nat) (cur T wb : Nat → Int32), 5 < kd + m → kd ≤ 5 → (∀ v, upd cur b v = upd K b v) → (∀ j, j < kd → ∀ w, w ≤ 1 → wb (2 * j + w) = wv N O K A b j w) → ∃ T2 wb2, f_X11_laySorts_L9 m (nI N) (nI A) cur O T wb (nI b) (K b) (nI kd) = (K, T2, wb2) ∧ ∀ j, j < 5 → ∀ w, w ≤ 1 → wb2 (2 * j + w) = wv N O K A b j w := by
  intro m
  induction m with
  | zero => intro kd cur T wb h1 h2; omega
  | succ m ih =>
    intro kd cur T wb h1 h2 hc hw
    rw [f_X11_laySorts_L9_s, nI_1, nI_clamp (by omega : b < 2 ^ 31)]
    by_cases hk : kd = 5
    · subst hk
      rw [if_pos (show (4 : Int32) < nI 5 by decide), hc, upd_id]
      exact ⟨T, wb, rfl, hw⟩
    · rw [if_neg (show ¬ (4 : Int32) < nI kd from nI_nlt (a := 4) (by omega) (by omega)), hc (nI kd), ix_2 hA, ix_21 hA, ix_2 (by omega : kd < 256), ix_21 (by omega : kd < 256)]
      have e0 : f_X11_layWinners (nI N) (nI A) (upd K b (nI kd)) O T (2 * A) = TW N O (upd K b (nI kd)) (2 * A + 0) := rW hN hA hst A hA (sub_rf A) 0 (by omega)
      have e1 := rW hN hA hst (K := upd K b (nI kd)) (T := T) A hA (sub_rf A) 1 (by omega)
      have hc2 : ∀ v, upd (upd K b (nI kd)) b v = upd K b v := fun v => upd_upd
      have go := ih (kd + 1) (upd K b (nI kd)) (f_X11_layWinners (nI N) (nI A) (upd K b (nI kd)) O T) (upd (upd wb (2 * kd) (wv N O K A b kd 0)) (2 * kd + 1) (wv N O K A b kd 1)) (by omega) (by omega) hc2 (fun j hj w hw2 => by
        by_cases q : j = kd
        · subst q
          rcases (show w = 0 ∨ w = 1 by omega) with g | g <;> subst g
          · rw [pk_un (by omega)]; exact pk_us
          · exact pk_us
        · rw [pk_un (by omega), pk_un (by omega)]
          exact hw j (by omega) w hw2)
      have v0 : wv N O K A b kd 0 = if TW N O (upd K b (nI kd)) (2 * A + 0) = 0 then 1 else 0 := rfl
      have v1 : wv N O K A b kd 1 = if TW N O (upd K b (nI kd)) (2 * A + 1) = 1 then 1 else 0 := rfl
      rw [e0, e1]
      by_cases q0 : TW N O (upd K b (nI kd)) (2 * A + 0) = 0 <;> by_cases q1 : TW N O (upd K b (nI kd)) (2 * A + 1) = 1
      · rw [if_pos q0, if_pos q1]; rw [v0, v1, if_pos q0, if_pos q1] at go; exact go
      · rw [if_pos q0, if_neg q1]; rw [v0, v1, if_pos q0, if_neg q1] at go; exact go
      · rw [if_neg q0, if_pos q1]; rw [v0, v1, if_neg q0, if_pos q1] at go; exact go
      · rw [if_neg q0, if_neg q1]; rw [v0, v1, if_neg q0, if_neg q1] at go; exact go
def gd (s b kd : Nat) (sb sg sw wb : Nat → Int32) (k : Nat) : Prop := ∀ i, k ≤ i → i < s → sb i = nI b → wb (2 * kd + (sg i).toNatClampNeg) = sw i
theorem so_in {s b kd : Nat} (hs : s ≤ 6) (hkd : kd < 5) {sb sg sw wb K O T : Nat → Int32} (hsg : ∀ k, k < s → (sg k = 0 ∨ sg k = 1)) {n st x2 : Int32} {kont : Int32 → Int32 → Int32 × (Nat → Int32) × (Nat → Int32) × (Nat → Int32)} :
    ∀ (m k : Nat) (x4 : Int32), s < k + m → k ≤ s → ∃ x4' x5', f_X11_sortsOf_L20 kont m n st (nI s) K O sb sg sw T wb (nI b) x2 (nI kd) x4 (nI k) = kont x4' x5' ∧ (x4' = 0 ↔ ¬ (¬ x4 = 0 ∧ gd s b kd sb sg sw wb k)) := by
  intro m
  induction m with
  | zero => intro k x4 h1 h2; omega
  | succ m ih =>
    intro k x4 h1 h2
    rw [f_X11_sortsOf_L20_s, nI_1]
    by_cases hk : k = s
    · subst hk
      rw [if_pos (nI_le (Nat.le_refl _) (by omega))]
      refine ⟨_, _, rfl, ?_⟩
      constructor
      · intro h q; exact q.1 h
      · intro h
        apply Classical.byContradiction
        intro q
        exact h ⟨q, fun i h1 h2 => by omega⟩
    · have hlt : k < s := by omega
      rw [if_neg (nI_ge hlt (by omega)), nI_clamp (by omega : k < 2 ^ 31)]
      have ix : ((2 : Int32) * nI kd + sg k).toNatClampNeg = 2 * kd + (sg k).toNatClampNeg := by
        rcases hsg k hlt with e | e
        · rw [e]; exact ix_2w (w := 0) (by omega) (by omega)
        · rw [e]; exact ix_2w (w := 1) (by omega) (by omega)
      rw [ix]
      by_cases c0 : x4 = 0
      · rw [if_pos c0]
        obtain ⟨y4, y5, e, h⟩ := ih (k + 1) 0 (by omega) (by omega)
        exact ⟨y4, y5, e, h.trans ⟨fun _ q => q.1 c0, fun _ q => q.1 rfl⟩⟩
      · rw [if_neg c0]
        have n1 : ¬ (1 : Int32) = 0 := by decide
        by_cases c1 : sb k = nI b
        · rw [if_pos c1]
          by_cases c2 : wb (2 * kd + (sg k).toNatClampNeg) = sw k
          · rw [if_pos c2]
            obtain ⟨y4, y5, e, h⟩ := ih (k + 1) 1 (by omega) (by omega)
            refine ⟨y4, y5, e, h.trans ?_⟩
            constructor
            · intro q z; exact q ⟨n1, fun i h1 h2 => z.2 i (by omega) h2⟩
            · intro q z
              refine q ⟨c0, fun i h1 h2 h3 => ?_⟩
              rcases Nat.eq_or_lt_of_le h1 with g | g
              · subst g; exact c2
              · exact z.2 i (by omega) h2 h3
          · rw [if_neg c2]
            obtain ⟨y4, y5, e, h⟩ := ih (k + 1) 0 (by omega) (by omega)
            exact ⟨y4, y5, e, h.trans ⟨fun _ q => c2 (q.2 k (Nat.le_refl _) hlt c1), fun _ q => q.1 rfl⟩⟩
        · rw [if_neg c1]
          obtain ⟨y4, y5, e, h⟩ := ih (k + 1) 1 (by omega) (by omega)
          refine ⟨y4, y5, e, h.trans ?_⟩
          constructor
          · intro q z; exact q ⟨n1, fun i h1 h2 => z.2 i (by omega) h2⟩
          · intro q z
            refine q ⟨c0, fun i h1 h2 h3 => ?_⟩
            rcases Nat.eq_or_lt_of_le h1 with g | g
            · subst g; exact absurd h3 c1
            · exact z.2 i (by omega) h2 h3
theorem so_L {s b : Nat} (hs : s ≤ 6) {sb sg sw wb K O T : Nat → Int32} (hsg : ∀ k, k < s → (sg k = 0 ∨ sg k = 1)) {n st : Int32} :
    ∀ (m kd : Nat) (x2 : Int32), 5 < kd + m → kd ≤ 5 → (∀ e, kd ≤ e → bt x2 e = false) → ∃ x, f_X11_sortsOf_L9 m n st (nI s) K O sb sg sw T wb (nI b) x2 (nI kd) = (x, K, T, wb) ∧ ∀ e, e < 32 → (bt x e = true ↔ (bt x2 e = true ∨ (kd ≤ e ∧ e < 5 ∧ gd s b e sb sg sw wb 0))) := by
  intro m
  induction m with
  | zero => intro kd x2 h1 h2; omega
  | succ m ih =>
    intro kd x2 h1 h2 h3
    rw [f_X11_sortsOf_L9_s, nI_1]
    by_cases hk : kd = 5
    · subst hk
      rw [if_pos (show (4 : Int32) < nI 5 by decide)]
      exact ⟨x2, rfl, fun e he => ⟨Or.inl, fun h => h.elim id (fun g => by omega)⟩⟩
    · rw [if_neg (show ¬ (4 : Int32) < nI kd from nI_nlt (a := 4) (by omega) (by omega))]
      obtain ⟨y4, y5, e, h⟩ := so_in (b := b) hs (by omega : kd < 5) (sb := sb) (sw := sw) (wb := wb) (K := K) (O := O) (T := T) hsg (n := n) (st := st) (x2 := x2) (kont := fun (x4_2 : Int32) (x5_3 : Int32) => if x4_2 = 0 then f_X11_sortsOf_L9 m n st (nI s) K O sb sg sw T wb (nI b) (x2 ||| (0 : Int32)) (nI (kd + 1)) else f_X11_sortsOf_L9 m n st (nI s) K O sb sg sw T wb (nI b) (x2 ||| ((1 : Int32) <<< (nI kd &&& 31))) (nI (kd + 1))) 7 0 1 (by omega) (by omega)
      have n1 : ¬ (1 : Int32) = 0 := by decide
      by_cases c : gd s b kd sb sg sw wb 0
      · have hy : ¬ y4 = 0 := fun z => h.mp z ⟨n1, c⟩
        obtain ⟨x, g1, g2⟩ := ih (kd + 1) (x2 ||| ((1 : Int32) <<< (nI kd &&& 31))) (by omega) (by omega) (fun e2 he2 => by
          rcases Nat.lt_or_ge e2 32 with g | g
          · rw [b_or, h3 e2 (by omega), bt_s1 (by omega) g]
            have : ¬ e2 = kd := by omega
            simp [this]
          · exact b_big g)
        refine ⟨x, (Eq.trans e (if_neg hy)).trans g1, fun e2 he2 => ?_⟩
        rw [g2 e2 he2, b_or, bt_s1 (by omega) he2]
        constructor
        · rintro (z | ⟨z1, z2⟩)
          · by_cases q : e2 = kd
            · subst q; exact Or.inr ⟨Nat.le_refl _, by omega, c⟩
            · simp [q] at z; exact Or.inl z
          · exact Or.inr ⟨by omega, z2⟩
        · rintro (z | ⟨z1, z2, z3⟩)
          · left; rw [z]; rfl
          · rcases Nat.eq_or_lt_of_le z1 with q | q
            · subst q; left; simp
            · exact Or.inr ⟨q, z2, z3⟩
      · have hy : y4 = 0 := h.mpr (fun z => c z.2)
        have ex : x2 ||| (0 : Int32) = x2 := by
          apply b_ext
          intro i hi
          rw [b_or, b_0]
          simp
        obtain ⟨x, g1, g2⟩ := ih (kd + 1) x2 (by omega) (by omega) (fun e2 he2 => h3 e2 (by omega))
        refine ⟨x, (Eq.trans e (if_pos hy)).trans (by rw [ex]; exact g1), fun e2 he2 => ?_⟩
        rw [g2 e2 he2]
        constructor
        · rintro (z | ⟨z1, z2⟩)
          · exact Or.inl z
          · exact Or.inr ⟨by omega, z2⟩
        · rintro (z | ⟨z1, z2, z3⟩)
          · exact Or.inl z
          · rcases Nat.eq_or_lt_of_le z1 with q | q
            · subst q; exact absurd z3 c
            · exact Or.inr ⟨q, z2, z3⟩
theorem gs_L {s : Nat} {b A : Int32} (hs : s ≤ 6) {sb sg sw : Nat → Int32} {won : Nat → Int64} : ∀ (m k : Nat) (x2 : Int32), s < k + m → k ≤ s → ∀ e, e < 32 → (bt (f_X10_sortsOf_L5 m A (nI s) sb sg sw won b x2 (nI k)) e = true ↔ (bt x2 e = true ∧ ∀ i, k ≤ i → i < s → sb i = b → (if sw i = 0 then bt (f_X4_winningKinds won (sg i) b A) e = false else bt (f_X4_winningKinds won (sg i) b A) e = true))) := by
  intro m
  induction m with
  | zero => intro k x2 h1 h2; omega
  | succ m ih =>
    intro k x2 h1 h2 e he
    rw [f_X10_sortsOf_L5_s, nI_1]
    by_cases hk : k = s
    · subst hk
      rw [if_pos (nI_le (Nat.le_refl _) (by omega))]
      exact ⟨fun h => ⟨h, fun i h1 h2 => by omega⟩, fun h => h.1⟩
    · have hlt : k < s := by omega
      rw [if_neg (nI_ge hlt (by omega)), nI_clamp (by omega : k < 2 ^ 31)]
      by_cases c1 : sb k = b
      · rw [if_pos c1]
        by_cases c2 : sw k = 0
        · rw [if_pos c2, ih (k + 1) _ (by omega) (by omega) e he, b_and, bt_not _ he]
          constructor
          · rintro ⟨z1, z2⟩
            have y1 : bt x2 e = true := by revert z1; cases bt x2 e <;> simp
            have y2 : bt (f_X4_winningKinds won (sg k) b A) e = false := by revert z1; cases bt x2 e <;> simp
            refine ⟨y1, fun i h1 h2 h3 => ?_⟩
            rcases Nat.eq_or_lt_of_le h1 with g | g
            · subst g; rw [if_pos c2]; exact y2
            · exact z2 i (by omega) h2 h3
          · rintro ⟨z1, z2⟩
            have y2 := z2 k (Nat.le_refl _) hlt c1
            rw [if_pos c2] at y2
            refine ⟨by rw [z1, y2]; rfl, fun i h1 h2 h3 => z2 i (by omega) h2 h3⟩
        · rw [if_neg c2, ih (k + 1) _ (by omega) (by omega) e he, b_and]
          constructor
          · rintro ⟨z1, z2⟩
            have y1 : bt x2 e = true := by revert z1; cases bt x2 e <;> simp
            have y2 : bt (f_X4_winningKinds won (sg k) b A) e = true := by revert z1; cases bt x2 e <;> simp
            refine ⟨y1, fun i h1 h2 h3 => ?_⟩
            rcases Nat.eq_or_lt_of_le h1 with g | g
            · subst g; rw [if_neg c2]; exact y2
            · exact z2 i (by omega) h2 h3
          · rintro ⟨z1, z2⟩
            have y2 := z2 k (Nat.le_refl _) hlt c1
            rw [if_neg c2] at y2
            refine ⟨by rw [z1, y2]; rfl, fun i h1 h2 h3 => z2 i (by omega) h2 h3⟩
      · rw [if_neg c1, ih (k + 1) _ (by omega) (by omega) e he]
        constructor
        · rintro ⟨z1, z2⟩
          refine ⟨z1, fun i h1 h2 h3 => ?_⟩
          rcases Nat.eq_or_lt_of_le h1 with g | g
          · subst g; exact absurd h3 c1
          · exact z2 i (by omega) h2 h3
        · rintro ⟨z1, z2⟩
          exact ⟨z1, fun i h1 h2 h3 => z2 i (by omega) h2 h3⟩
theorem wk_wv {N : Nat} {O K : Nat → Int32} {won : Nat → Int64} {A : Nat} (hA : A < 256) {w : Nat} (hw : w ≤ 1) (o : oW N O K won w A) {b kd : Nat} (hb : b < 8) (hk : kd < 5) : wv N O K A b kd w = if bt (f_X4_winningKinds won (nI w) (nI b) (nI A)) kd then 1 else 0 := by
  rw [wk_bt hw hA hb hk]
  have k := o (5 * b + kd) (by omega)
  rw [Ki_upd hb hk] at k
  unfold wv
  by_cases q : lb (won (w * 256 + A)) (5 * b + kd) = true
  · rw [if_pos (k.mp q), if_pos q]
  · rw [if_neg (fun z => q (k.mpr z)), if_neg q]
theorem so_eq {N : Nat} (hN : N ≤ 8) {O K T wb sb sg sw : Nat → Int32} {A : Nat} (hA : A < 256) (hst : stds N O (nI A)) {won : Nat → Int64} (ow : ∀ w, w ≤ 1 → oW N O K won w A) {b s : Nat} (hb : b < 8) (hs : seenOK s sg sw) : ∃ T2 wb2, f_X11_sortsOf (nI N) (nI A) (nI s) K O sb sg sw T wb (nI b) = (f_X10_sortsOf (nI A) (nI s) sb sg sw won (nI b), K, T2, wb2) ∧ (∀ j, j < 5 → ∀ w, w ≤ 1 → wb2 (2 * j + w) = if bt (f_X4_winningKinds won (nI w) (nI b) (nI A)) j then 1 else 0) ∧ (∀ e, 5 ≤ e → bt (f_X10_sortsOf (nI A) (nI s) sb sg sw won (nI b)) e = false) := by
  obtain ⟨s6, hsg, hsw⟩ := hs
  obtain ⟨T2, wb2, e1, h1⟩ := ls_L hN hA hst hb (K := K) 6 0 K T wb (by omega) (by omega) (fun v => rfl) (fun j hj => by omega)
  have hwb : ∀ j, j < 5 → ∀ w, w ≤ 1 → wb2 (2 * j + w) = if bt (f_X4_winningKinds won (nI w) (nI b) (nI A)) j then 1 else 0 := fun j hj w hw => (h1 j hj w hw).trans (wk_wv hA hw (ow w hw) hb hj)
  obtain ⟨x, e2, h2⟩ := so_L (b := b) s6 (sb := sb) (sw := sw) (wb := wb2) (K := K) (O := O) (T := T2) hsg (n := nI N) (st := nI A) 6 0 0 (by omega) (by omega) (fun e _ => b_0 e)
  have h3 := gs_L (b := nI b) (A := nI A) s6 (sb := sb) (sg := sg) (sw := sw) (won := won) 7 0 31 (by omega) (by omega)
  have hx : x = f_X10_sortsOf (nI A) (nI s) sb sg sw won (nI b) := by
    apply b_ext
    intro e he
    have key : bt x e = true ↔ bt (f_X10_sortsOf (nI A) (nI s) sb sg sw won (nI b)) e = true := by
      rw [h2 e he, b_0]
      refine Iff.trans ?_ (h3 e he).symm
      rw [b31 e he]
      constructor
      · rintro (q | ⟨_, q1, q2⟩)
        · cases q
        · refine ⟨by simp [q1], fun i i1 i2 i3 => ?_⟩
          have g := q2 i i1 i2 i3
          have wg : ∀ w, w ≤ 1 → wb2 (2 * e + w) = sw i → (if sw i = 0 then bt (f_X4_winningKinds won (nI w) (nI b) (nI A)) e = false else bt (f_X4_winningKinds won (nI w) (nI b) (nI A)) e = true) := fun w hw z => by
            rw [hwb e q1 w hw] at z
            rw [← z]
            cases bt (f_X4_winningKinds won (nI w) (nI b) (nI A)) e <;> decide
          rcases hsg i i2 with y | y
          · rw [y] at g ⊢; exact wg 0 (by omega) g
          · rw [y] at g ⊢; exact wg 1 (by omega) g
      · rintro ⟨q1, q2⟩
        have q5 : e < 5 := by simpa using q1
        refine Or.inr ⟨by omega, q5, fun i i1 i2 i3 => ?_⟩
        have g := q2 i i1 i2 i3
        have wg : ∀ w, w ≤ 1 → (if sw i = 0 then bt (f_X4_winningKinds won (nI w) (nI b) (nI A)) e = false else bt (f_X4_winningKinds won (nI w) (nI b) (nI A)) e = true) → wb2 (2 * e + w) = sw i := fun w hw z => by
          rw [hwb e q5 w hw]
          rcases hsw i with y | y
          · rw [y, if_pos rfl] at z
            rw [y, z]; rfl
          · rw [y, if_neg (by decide)] at z
            rw [y, z]; rfl
        rcases hsg i i2 with y | y
        · rw [y] at g ⊢; exact wg 0 (by omega) g
        · rw [y] at g ⊢; exact wg 1 (by omega) g
    cases q1 : bt x e <;> cases q2 : bt (f_X10_sortsOf (nI A) (nI s) sb sg sw won (nI b)) e
    · rfl
    · rw [q1, q2] at key; exact absurd (key.mpr rfl) (by decide)
    · rw [q1, q2] at key; exact absurd (key.mp rfl) (by decide)
    · rfl
  refine ⟨T2, wb2, ?_, hwb, fun e he => ?_⟩
  · rw [f_X11_sortsOf_s, f_X11_laySorts_s, nI_clamp (by omega : b < 2 ^ 31)]
    have e1' : f_X11_laySorts_L9 6 (nI N) (nI A) K O T wb (nI b) (K b) (0 : Int32) = (K, T2, wb2) := e1
    rw [e1', ← hx]
    exact e2
  · rcases Nat.lt_or_ge e 32 with g | g
    · rw [← hx]
      cases q : bt x e
      · rfl
      · rcases (h2 e g).mp q with z | ⟨_, z, _⟩
        · rw [b_0] at z; cases z
        · omega
    · exact b_big g
theorem cb_split (x y : Int32) : ∀ k, k ≤ 32 → cb x k = cb (x &&& y) k + cb (x &&& (y ^^^ (-1 : Int32))) k := by
  intro k
  induction k with
  | zero => intro _; rfl
  | succ k ih =>
    intro hk
    rw [cb_s, cb_s, cb_s, ih (by omega), b_and, b_and, bt_not _ (by omega)]
    cases bt x k <;> cases bt y k <;> simp <;> omega
theorem wst_L {wb : Nat → Int32} {x wk : Int32} {w : Nat} (hw : w ≤ 1) (hwb : ∀ j, j < 5 → wb (2 * j + w) = if bt wk j then 1 else 0) : ∀ (m k : Nat), 5 < k + m → k ≤ 5 → f_X11_worstBy_L5 m wb x (nI w) (nI (cb (x &&& wk) k)) (nI k) = if nI (cb (x &&& wk) 5) ≤ f_X11_size x - nI (cb (x &&& wk) 5) then f_X11_size x - nI (cb (x &&& wk) 5) else nI (cb (x &&& wk) 5) := by
  intro m
  induction m with
  | zero => intro k h1 h2; omega
  | succ m ih =>
    intro k h1 h2
    rw [f_X11_worstBy_L5_s]
    by_cases hk : k = 5
    · subst hk
      rw [if_pos (show (4 : Int32) < nI 5 by decide)]
    · rw [if_neg (show ¬ (4 : Int32) < nI k from nI_nlt (a := 4) (by omega) (by omega)), ix_2w hw (by omega : k < 256), hwb k (by omega), nI_1]
      have go := ih (k + 1) (by omega) (by omega)
      rw [cb_s, b_and] at go
      by_cases c : bt x k = true
      · rw [if_neg (fun z => by rw [isIn_0 _ (by omega), c] at z; cases z)]
        rw [c] at go
        cases g : bt wk k
        · rw [g] at go
          have e : nI (cb (x &&& wk) k) + (if false = true then (1 : Int32) else 0) = nI (cb (x &&& wk) k + (if (true && false) = true then 1 else 0)) := by
            show nI (cb (x &&& wk) k) + nI 0 = _
            rw [nI_add]; rfl
          rw [e]; exact go
        · rw [g] at go
          have e : nI (cb (x &&& wk) k) + (if true = true then (1 : Int32) else 0) = nI (cb (x &&& wk) k + (if (true && true) = true then 1 else 0)) := by
            show nI (cb (x &&& wk) k) + nI 1 = _
            rw [nI_add]; rfl
          rw [e]; exact go
      · have c' : bt x k = false := by simpa using c
        rw [if_pos ((isIn_0 _ (by omega)).mpr c')]
        rw [c'] at go
        have e : nI (cb (x &&& wk) k) + (0 : Int32) = nI (cb (x &&& wk) k + (if (false && bt wk k) = true then 1 else 0)) := by
          show nI (cb (x &&& wk) k) + nI 0 = _
          rw [nI_add]; rfl
        rw [e]; exact go
theorem wst_eq {wb : Nat → Int32} {x wk : Int32} {w : Nat} (hw : w ≤ 1) (hwb : ∀ j, j < 5 → wb (2 * j + w) = if bt wk j then 1 else 0) (hx : ∀ e, 5 ≤ e → bt x e = false) : f_X11_worstBy wb x (nI w) = f_X10_mostLeft x wk := by
  have h := wst_L (x := x) hw hwb 6 0 (by omega) (by omega)
  have hy : ∀ e, 5 ≤ e → bt (x &&& wk) e = false := fun e he => by rw [b_and, hx e he]; rfl
  have hz : ∀ e, 5 ≤ e → bt (x &&& (wk ^^^ (-1 : Int32))) e = false := fun e he => by rw [b_and, hx e he]; rfl
  have t5 : cb (x &&& wk) 8 = cb (x &&& wk) 5 := cb_top hy 8 (by omega)
  have sp := cb_split x wk 8 (by omega)
  have l1 := cb_le (x &&& wk) 8
  have l2 := cb_le (x &&& (wk ^^^ (-1 : Int32))) 8
  rw [size_cb, ← t5, sp] at h
  have ed : nI (cb (x &&& wk) 8 + cb (x &&& (wk ^^^ (-1 : Int32))) 8) - nI (cb (x &&& wk) 8) = nI (cb (x &&& (wk ^^^ (-1 : Int32))) 8) := by
    rw [pk_sub (by omega)]
    congr 1
    omega
  rw [ed] at h
  rw [f_X10_mostLeft_s, bc_cb (fun e he => hy e (by omega)), bc_cb (fun e he => hz e (by omega))]
  refine Eq.trans h ?_
  generalize cb (x &&& wk) 8 = u at *
  generalize cb (x &&& (wk ^^^ (-1 : Int32))) 8 = v at *
  by_cases c : u < v
  · rw [if_pos (nI_le (by omega) (by omega)), if_pos (nI_lt c (by omega))]
  · rw [if_neg (nI_nlt (by omega) (by omega))]
    by_cases c2 : u = v
    · subst c2
      rw [if_pos (nI_le (Nat.le_refl _) (by omega))]
    · rw [if_neg (nI_ge (by omega) (by omega))]
theorem le_eq {N : Nat} (hN : N ≤ 8) {O K T wb sb sg sw : Nat → Int32} {A : Nat} (hA : A < 256) (hst : stds N O (nI A)) {won : Nat → Int64} (ow : ∀ w, w ≤ 1 → oW N O K won w A) {b s : Nat} (hb : b < 8) (hs : seenOK s sg sw) : ∃ T2 wb2, f_X11_letOf (nI N) (nI A) (nI s) K O sb sg sw T wb (nI b) = (f_X10_whomToLetBegin (nI A) (nI s) sb sg sw won (nI b), K, T2, wb2) := by
  obtain ⟨T2, wb2, e, h1, h2⟩ := so_eq hN (T := T) (wb := wb) (sb := sb) hA hst ow hb hs
  refine ⟨T2, wb2, ?_⟩
  rw [f_X11_letOf_s, e, f_X10_whomToLetBegin_s]
  have w0 := wst_eq (w := 0) (by omega) (fun j hj => h1 j hj 0 (by omega)) h2
  have w1 := wst_eq (w := 1) (by omega) (fun j hj => h1 j hj 1 (by omega)) h2
  generalize f_X10_sortsOf (nI A) (nI s) sb sg sw won (nI b) = x at *
  show (if x = 0 then ((-1 : Int32), K, T2, wb2) else if f_X11_worstBy wb2 x (nI 0) ≤ f_X11_worstBy wb2 x (nI 1) then ((0 : Int32), K, T2, wb2) else ((1 : Int32), K, T2, wb2)) = ((if x = 0 then (-1 : Int32) else if f_X10_mostLeft x (f_X4_winningKinds won (nI 0) (nI b) (nI A)) ≤ f_X10_mostLeft x (f_X4_winningKinds won (nI 1) (nI b) (nI A)) then (0 : Int32) else (1 : Int32)), K, T2, wb2)
  rw [w0, w1]
  by_cases c : x = 0
  · rw [if_pos c, if_pos c]
  · rw [if_neg c, if_neg c]
    by_cases c2 : f_X10_mostLeft x (f_X4_winningKinds won (nI 0) (nI b) (nI A)) ≤ f_X10_mostLeft x (f_X4_winningKinds won (nI 1) (nI b) (nI A))
    · rw [if_pos c2, if_pos c2]
    · rw [if_neg c2, if_neg c2]
