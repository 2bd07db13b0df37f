/-! a hedge is read -/
def fK (K P : Nat → Int32) (k : Nat) : Nat → Int32 := fun b => if b < k then f_X11_kindBy (P (3 * b)) else K b
def fO (O P : Nat → Int32) (k : Nat) : Nat → Int32 := fun b => if b < k then (if P (3 * b + 1) = (45 : Int32) then (-1 : Int32) else P (3 * b + 1) - (48 : Int32)) else O b
theorem fK_s (K P : Nat → Int32) (k : Nat) : upd (fK K P k) k (f_X11_kindBy (P (3 * k))) = fK K P (k + 1) := by
  funext b
  unfold fK upd
  by_cases c : b = k
  · subst c; rw [if_pos rfl, if_pos (by omega)]
  · rw [if_neg c]
    dsimp only
    by_cases d : b < k
    · rw [if_pos d, if_pos (by omega)]
    · rw [if_neg d, if_neg (by omega)]
theorem fO_s (O P : Nat → Int32) (k : Nat) : upd (fO O P k) k (if P (3 * k + 1) = (45 : Int32) then (-1 : Int32) else P (3 * k + 1) - (48 : Int32)) = fO O P (k + 1) := by
  funext b
  unfold fO upd
  by_cases c : b = k
  · subst c; rw [if_pos rfl, if_pos (show b < b + 1 by omega)]
  · rw [if_neg c]
    dsimp only
    by_cases d : b < k
    · rw [if_pos d, if_pos (show b < k + 1 by omega)]
    · rw [if_neg d, if_neg (show ¬ b < k + 1 by omega)]
theorem fK_0 (K P : Nat → Int32) : fK K P 0 = K := funext (fun b => if_neg (by omega))
theorem fO_0 (O P : Nat → Int32) : fO O P 0 = O := funext (fun b => if_neg (by omega))
theorem ix_3 {b : Nat} (hb : b < 8) : ((3 : Int32) * nI b).toNatClampNeg = 3 * b := by
  have e : (3 : Int32) * nI b = nI (3 * b) := pk_mul 3 b
  rw [e, nI_clamp (by omega)]
theorem ix_31 {b : Nat} (hb : b < 8) : ((3 : Int32) * nI b + (1 : Int32)).toNatClampNeg = 3 * b + 1 := by
  have e : (3 : Int32) * nI b = nI (3 * b) := pk_mul 3 b
  rw [e, nI_1, nI_clamp (by omega)]
theorem mh_L {P : Nat → Int32} {N : Nat} (hN : N ≤ 8) {he st tu cu se pl iw nb : Int32} {K O : Nat → Int32} :
    ∀ (m k : Nat), N < k + m → k ≤ N → f_X11_hedge_L25 m he (nI N) st tu cu se pl iw nb (fK K P k) (fO O P k) P (nI k) = (nI N, he + (1 : Int32), nI N, ((1 : Int32) <<< (nI N &&& 31)) - (1 : Int32), (0 : Int32), (0 : Int32), (0 : Int32), (0 : Int32), iw, nb, fK K P N, fO O P N) := by
  intro m
  induction m with
  | zero => intro k h1 h2; omega
  | succ m ih =>
    intro k h1 h2
    rw [f_X11_hedge_L25_s]
    by_cases hk : k = N
    · subst hk
      rw [if_pos (nI_le (Nat.le_refl _) (by omega))]
    · rw [if_neg (nI_ge (by omega) (by omega)), ix_3 (by omega), ix_31 (by omega), nI_1, nI_clamp (by omega : k < 2 ^ 31), fK_s]
      have h := ih (k + 1) (by omega) (by omega)
      rw [← fO_s O P k] at h
      by_cases c : P (3 * k + 1) = (45 : Int32)
      · rw [if_pos c] at h ⊢
        exact h
      · rw [if_neg c] at h ⊢
        exact h
set_option maxRecDepth 100000 in
theorem kd128 : ∀ j, j < 128 → ¬ f_X11_kindBy (nI j) = (-1 : Int32) → (if (0 : Int32) < f_X11_kindBy (nI j) then f_X11_kindBy (nI j) else (0 : Int32)) = f_X11_kindBy (nI j) ∧ (f_X11_kindBy (nI j) = 0 ∨ f_X11_kindBy (nI j) = 1 ∨ f_X11_kindBy (nI j) = 2 ∨ f_X11_kindBy (nI j) = 3 ∨ f_X11_kindBy (nI j) = 4) := by decide +kernel
set_option maxRecDepth 100000 in
theorem gd128 : ∀ n, n < 8 → ∀ j, j < 128 → ¬ gG (nI j) (nI n) = 0 → (if nI j < (48 : Int32) then (-1 : Int32) else if ((48 : Int32) + nI n) ≤ nI j then (-1 : Int32) else nI j - (48 : Int32)) = (if nI j = (45 : Int32) then (-1 : Int32) else nI j - (48 : Int32)) ∧ (nI j = (45 : Int32) ∨ (48 ≤ j ∧ j < 48 + n)) := by decide +kernel
theorem CH_in {L : Nat} {P : Nat → Int32} {p : Nat} (h : p < L) : CH L P p = P p := if_neg (by omega)
theorem kd_fit {L : Nat} {P : Nat → Int32} (hL : L ≤ 26) (hP : pgP P) {b : Nat} (hb : b < 8) (hl : 3 * b < L) (h : ¬ fB L P (3 * b)) : f_X5_kindAt (nI L) P (nI b) = f_X11_kindBy (P (3 * b)) ∧ isK (f_X11_kindBy (P (3 * b))) := by
  have h1 := fun z => h ((fB_K hL hP hb).mpr z)
  obtain ⟨j, hj, e⟩ := hP (3 * b)
  rw [CH_in hl, e] at h1
  obtain ⟨k1, k2⟩ := kd128 j hj h1
  refine ⟨?_, by rw [e]; exact k2⟩
  unfold f_X5_kindAt
  have e3 : (3 : Int32) * nI b = nI (3 * b) := pk_mul 3 b
  rw [e3, CH_g hL (by omega), CH_in hl, e, (kb128 j hj).1]
  exact k1
theorem gd_fit {L : Nat} {P : Nat → Int32} (hL : L ≤ 26) (hP : pgP P) {b : Nat} (hb : b < 8) (hl : 3 * b + 1 < L) (h : ¬ fB L P (3 * b + 1)) : f_X5_groundAt (nI L) P (nI b) = (if P (3 * b + 1) = (45 : Int32) then (-1 : Int32) else P (3 * b + 1) - (48 : Int32)) ∧ ((if P (3 * b + 1) = (45 : Int32) then (-1 : Int32) else P (3 * b + 1) - (48 : Int32)) = -1 ∨ ∃ j, j < b ∧ (if P (3 * b + 1) = (45 : Int32) then (-1 : Int32) else P (3 * b + 1) - (48 : Int32)) = nI j) := by
  have h1 := fun z => h ((fB_G hL hP hb).mpr z)
  obtain ⟨j, hj, e⟩ := hP (3 * b + 1)
  rw [CH_in hl, e] at h1
  obtain ⟨k1, k2⟩ := gd128 b hb j hj (fun z => h1 ((gr128 b hb j hj).mp z))
  have e3 : (3 : Int32) * nI b = nI (3 * b) := pk_mul 3 b
  constructor
  · unfold f_X5_groundAt
    rw [e3, nI_1, CH_g hL (by omega), CH_in hl, e]
    exact k1
  · rw [e]
    rcases k2 with q | ⟨q1, q2⟩
    · rw [if_pos q]; exact Or.inl rfl
    · by_cases c : nI j = (45 : Int32)
      · rw [if_pos c]; exact Or.inl rfl
      · rw [if_neg c]
        exact Or.inr ⟨j - 48, by omega, pk_sub (b := 48) q1⟩
theorem bw_L {L : Nat} {P : Nat → Int32} (hL : L ≤ 26) (hP : pgP P) {N : Nat} (hN : N ≤ 8) (hfit : ∀ b, b < N → 3 * b < L ∧ ¬ fB L P (3 * b)) {st tu cu ss : Int32} {K : Nat → Int32} :
    ∀ (m k : Nat), N < k + m → k ≤ N → f_X3_beginWith_now_L2 m (nI L) st tu cu ss P (fK K P k) (nI N) (nI k) = (((1 : Int32) <<< (nI N &&& 31)) - (1 : Int32), (0 : Int32), (0 : Int32), (0 : Int32), fK K P N) := by
  intro m
  induction m with
  | zero => intro k h1 h2; omega
  | succ m ih =>
    intro k h1 h2
    rw [f_X3_beginWith_now_L2_s]
    by_cases hk : k = N
    · subst hk
      rw [if_pos (nI_le (Nat.le_refl _) (by omega))]
    · have hlt : k < N := by omega
      rw [if_neg (nI_ge hlt (by omega)), nI_1, nI_clamp (by omega : k < 2 ^ 31), (kd_fit hL hP (by omega) (hfit k hlt).1 (hfit k hlt).2).1, fK_s]
      exact ih (k + 1) (by omega) (by omega)
theorem rf_L {L : Nat} {P : Nat → Int32} (hL : L ≤ 26) (hP : pgP P) {N : Nat} (hN : N ≤ 8) (hN1 : 1 ≤ N) (hfit : ∀ b, b < N → 3 * b + 1 < L ∧ ¬ fB L P (3 * b + 1)) {sc : Int32} {O sets : Nat → Int32} :
    ∀ (m k : Nat) (abv : Nat → Int32), N < k + m → k ≤ N → (∀ b, b < k → abv b = 0) → ∃ abv2, f_X8_readFrom_L15 m (nI L) (nI N) sc P (fO O P k) abv sets (nI k) = (nI N, (f_X8_findSets (nI N) sc (fO O P N) sets).1, fO O P N, abv2, (f_X8_findSets (nI N) sc (fO O P N) sets).2) ∧ ∀ b, b < N → abv2 b = AB N (fO O P N) b := by
  have ho : hOn N (fO O P N) := by
    intro e he
    unfold fO
    rw [if_pos he]
    exact (gd_fit hL hP (by omega) (hfit e he).1 (hfit e he).2).2
  intro m
  induction m with
  | zero => intro k abv h1 h2; omega
  | succ m ih =>
    intro k abv h1 h2 h3
    rw [f_X8_readFrom_L15_s]
    by_cases hk : k = N
    · subst hk
      rw [if_pos (nI_le (Nat.le_refl _) (by omega))]
      have e : nI k - (1 : Int32) = nI (k - 1) := pk_sub (a := k) (b := 1) hN1
      rw [e]
      refine ab_L hN ho (k - 1) 9 abv (by omega) (by omega) (fun b hb e => ?_)
      rw [h3 b hb, b_0]
      exact ⟨fun z => Bool.noConfusion z, fun ⟨c, c1, c2, _⟩ => by omega⟩
    · have hlt : k < N := by omega
      rw [if_neg (nI_ge hlt (by omega)), nI_1, nI_clamp (by omega : k < 2 ^ 31), (gd_fit hL hP (by omega) (hfit k hlt).1 (hfit k hlt).2).1, fO_s]
      refine ih (k + 1) _ (by omega) (by omega) (fun b hb => ?_)
      by_cases q : b = k
      · subst q; exact pk_us
      · rw [pk_un q]; exact h3 b (by omega)
theorem hedge_no {L : Nat} {P : Nat → Int32} (hL : L ≤ 26) (hP : pgP P) {ic ik hr nu sc st tu cu ss he br se iw nb : Int32} {O abv sets K : Nat → Int32} (h : f_X5_isWhole (nI L) P = 0) :
    f_X10_hedge ic ik hr (nI L) nu sc st tu cu ss P O abv sets K = ((-103 : Int32), ic, ik, hr, nI L, nu, sc, st, tu, cu, ss, O, abv, sets, K) ∧ ∃ iw2 nb2, f_X11_hedge he br st tu cu se (nI L) iw nb K O P = ((-103 : Int32), he, br, st, tu, cu, se, nI L, iw2, nb2, K, O) := by
  obtain ⟨R, iw2, nb2, e1, e2, e3, e4, e5⟩ := page_eq hL hP iw nb
  have e6 : iw2 = 0 := by
    rcases e5 with ⟨a1, a2, a3, a4, a5⟩ | ⟨a1, a2⟩
    · rw [h] at a5; exact absurd a5 (by decide)
    · exact a1
  constructor
  · rw [f_X10_hedge_s, if_pos h]
  · refine ⟨iw2, nb2, ?_⟩
    rw [f_X11_hedge_s, e1]
    show (if iw2 = 0 then _ else _) = _
    rw [if_pos e6]
theorem hedge_yes {L : Nat} {P : Nat → Int32} (hL : L ≤ 26) (hP : pgP P) {ic ik hr nu sc st tu cu ss he br se iw nb : Int32} {O abv sets K : Nat → Int32} (hr2 : ∀ i, 0 ≤ (sets i).toInt ∧ (sets i).toInt < 256) (h : ¬ f_X5_isWhole (nI L) P = 0) :
    ∃ (N M2 : Nat) (abv2 sets2 O2 K2 : Nat → Int32) (iw2 nb2 : Int32), N ≤ 8 ∧ 1 ≤ N ∧
      f_X10_hedge ic ik hr (nI L) nu sc st tu cu ss P O abv sets K = (nI N, (0 : Int32), (0 : Int32), hr + (1 : Int32), (0 : Int32), nI N, nI M2, nI (2 ^ N - 1), (0 : Int32), (0 : Int32), (0 : Int32), O2, abv2, sets2, K2) ∧
      f_X11_hedge he br st tu cu se (nI L) iw nb K O P = (nI N, he + (1 : Int32), nI N, nI (2 ^ N - 1), (0 : Int32), (0 : Int32), (0 : Int32), (0 : Int32), iw2, nb2, K2, O2) ∧
      hOn N O2 ∧ (∀ b, b < N → isK (K2 b)) ∧ (∀ b, b < N → abv2 b = AB N O2 b) ∧ sOK N O2 sets2 M2 ∧ (∀ i, 0 ≤ (sets2 i).toInt ∧ (sets2 i).toInt < 256) ∧ K2 = fK K P N ∧ O2 = fO O P N := by
  obtain ⟨R, iw2, nb2, e1, e2, e3, e4, e5⟩ := page_eq hL hP iw nb
  obtain ⟨a1, a2, a3, a4, a5⟩ := e5.resolve_right (fun z => h z.2)
  subst a2
  have hL23 : R ≤ 23 := by
    rcases Nat.lt_or_ge 23 R with q | q
    · exact absurd (fB_23 (by omega) (by omega)) (e4 23 q)
    · exact q
  obtain ⟨N, hN⟩ : ∃ N, N = (R + 1) / 3 := ⟨_, rfl⟩
  have hR : R = 3 * N - 1 := by omega
  have hN8 : N ≤ 8 := by omega
  have hN1 : 1 ≤ N := by omega
  have fitK : ∀ b, b < N → 3 * b < R ∧ ¬ fB R P (3 * b) := fun b hb => ⟨by omega, e4 _ (by omega)⟩
  have fitG : ∀ b, b < N → 3 * b + 1 < R ∧ ¬ fB R P (3 * b + 1) := fun b hb => ⟨by omega, e4 _ (by omega)⟩
  have ho : hOn N (fO O P N) := by
    intro e he
    unfold fO
    rw [if_pos he]
    exact (gd_fit hL hP (by omega) (fitG e he).1 (fitG e he).2).2
  have hK : ∀ b, b < N → isK (fK K P N b) := by
    intro b hb
    unfold fK
    rw [if_pos hb]
    exact (kd_fit hL hP (by omega) (fitK b hb).1 (fitK b hb).2).2
  obtain ⟨abv2, g1, g2⟩ := rf_L hL hP hN8 hN1 fitG (sc := sc) (O := O) (sets := sets) 9 0 abv (by omega) (by omega) (fun b hb => by omega)
  rw [fO_0] at g1
  obtain ⟨M2, sets2, f1, f2, f3⟩ := fs_ok ho hN8 (sc := sc) hr2
  rw [f1] at g1
  have st2 : ((1 : Int32) <<< (nI N &&& 31)) - (1 : Int32) = nI (2 ^ N - 1) := by
    rw [shl_nI hN8]
    exact pk_sub (b := 1) Nat.one_le_two_pow
  have hbr : f_X5_branches (nI R) = nI N := by
    unfold f_X5_branches
    rw [nI_1, div3 (by omega), hN]
  have hrf : f_X8_readFrom (nI R) nu sc P O abv sets = (nI N, nI M2, fO O P N, abv2, sets2) := by
    rw [f_X8_readFrom_s, hbr, if_neg (show ¬ (8 : Int32) < nI N from nI_nlt (a := 8) hN8 (by omega))]
    exact g1
  have hbw := bw_L hL hP hN8 fitK (st := st) (tu := tu) (cu := cu) (ss := ss) (K := K) 9 0 (by omega) (by omega)
  rw [fK_0, st2] at hbw
  have hbw2 : f_X3_beginWith_now (nI R) st tu cu ss P K (nI N) = (nI (2 ^ N - 1), (0 : Int32), (0 : Int32), (0 : Int32), fK K P N) := hbw
  refine ⟨N, M2, abv2, sets2, fO O P N, fK K P N, iw2, nb2, hN8, hN1, ?_, ?_, ho, hK, g2, f2, f3, rfl, rfl⟩
  · rw [f_X10_hedge_s, if_neg h, hrf]
    show (fun z_2 : Int32 × Int32 × Int32 × Int32 × (Nat → Int32) => _) (f_X3_beginWith_now (nI R) st tu cu ss P K (nI N)) = _
    rw [hbw2]
    rfl
  · have hm := mh_L (P := P) hN8 (he := he) (st := st) (tu := tu) (cu := cu) (se := se) (pl := nI R) (iw := iw2) (nb := nb2) (K := K) (O := O) 9 0 (by omega) (by omega)
    rw [fK_0, fO_0, st2] at hm
    rw [f_X11_hedge_s, e1]
    show (if iw2 = 0 then _ else f_X11_hedge_L25 9 he nb2 st tu cu se (nI R) iw2 nb2 K O P (0 : Int32)) = _
    rw [if_neg (by rw [a1]; decide), a4, ← hN]
    rw [a4, ← hN] at hm
    exact hm
