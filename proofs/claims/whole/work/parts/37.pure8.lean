/-! how likely -/
def cb (x : Int32) : Nat → Nat
  | 0 => 0
  | k + 1 => cb x k + (if bt x k then 1 else 0)
theorem cb_s (x : Int32) (k : Nat) : cb x (k + 1) = cb x k + (if bt x k then 1 else 0) := rfl
set_option maxRecDepth 100000 in
theorem bc256 : ∀ j, j < 256 → f_J6_bitCount_0f7a4 (nI j) = nI (cb (nI j) 8) := by decide +kernel
theorem bits8 {x : Int32} (h : ∀ e, 8 ≤ e → bt x e = false) : ∃ j, j < 256 ∧ x = nI j := by
  obtain ⟨j, hj, e⟩ := pk_andE x (m := 255) 8 (by decide)
  refine ⟨j, hj, ?_⟩
  rw [← e]
  apply b_ext
  intro i hi
  rw [b_and]
  have : ∀ i, i < 32 → bt 255 i = decide (i < 8) := by decide +kernel
  rw [this i hi]
  rcases Nat.lt_or_ge i 8 with g | g
  · simp [g]
  · rw [h i g]; rfl
theorem bc_cb {x : Int32} (h : ∀ e, 8 ≤ e → bt x e = false) : f_J6_bitCount_0f7a4 x = nI (cb x 8) := by
  obtain ⟨j, hj, e⟩ := bits8 h
  rw [e]
  exact bc256 j hj
theorem cb_le (x : Int32) (k : Nat) : cb x k ≤ k := by
  induction k with
  | zero => exact Nat.le_refl _
  | succ k ih =>
    rw [cb_s]
    split <;> omega
theorem cb_top {x : Int32} {N : Nat} (h : ∀ e, N ≤ e → bt x e = false) : ∀ k, N ≤ k → cb x k = cb x N := by
  intro k
  induction k with
  | zero => intro hk; rw [Nat.le_zero.mp hk]
  | succ k ih =>
    intro hk
    by_cases q : N = k + 1
    · rw [q]
    · rw [cb_s, ih (by omega), h k (by omega)]
      rfl
theorem ch_hi {N : Nat} (hN : N ≤ 8) {on abv K : Nat → Int32} (ha : ∀ b, b < N → abv b = AB N on b) (hk : ∀ b, b < N → isK (K b)) {w S : Nat} : ∀ e, N ≤ e → bt (f_X6_choices (nI N) abv K (nI w) (nI S)) e = false := by
  intro e he
  rcases Nat.lt_or_ge e 32 with g | g
  · cases hh : bt (f_X6_choices (nI N) abv K (nI w) (nI S)) e with
    | false => rfl
    | true => have := ((ch_bt hN ha hk g).mp hh).1; omega
  · exact b_big g
theorem eC_L {N : Nat} (hN : N ≤ 8) {K on abv : Nat → Int32} {T chn : Nat → Int64} (ha : ∀ b, b < N → abv b = AB N on b) {w S : Nat} (hw : w ≤ 1) (hS : S < 256) {ch ways : Int32} (hch : ∀ b, b < N → (bt ch b = true ↔ mC N K on w b S))
    (hT : ∀ b, b < N → mC N K on w b S → chn ((1 - w) * 256 + lv N on b S) = T (2 * lv N on b S + (1 - w))) :
    ∀ (m k : Nat) (sum : Int64), N < k + m → k ≤ N → ∃ tot : Int64,
      f_X0_enter_L40 m (nI N) abv chn (nI w) (nI S) ch ways sum (nI k) = vp_updL chn (w * 256 + S) (tot / ways.toInt64) ∧
      f_X11_partsFrom_L8 m (nI N) K on T (nI S) (nI w) sum (nI (cb ch k)) (nI k) = if nI (cb ch N) ≤ 0 then (if nI w = 0 then (0 : Int64) else (182891520000 : Int64)) else tot / (nI (cb ch N)).toInt64 := by
  intro m
  induction m with
  | zero => intro k sum h1 h2; omega
  | succ m ih =>
    intro k sum h1 h2
    by_cases hk : k = N
    · subst hk
      refine ⟨sum, ?_, pf_end hN m⟩
      rw [f_X0_enter_L40_s, if_pos (nI_le (Nat.le_refl _) (by omega)), place_ix hw hS]
    · have hlt : k < N := by omega
      rw [pf_step hN hS hw m k hlt, f_X0_enter_L40_s, nI_1, if_neg (nI_ge hlt (by omega)), leftBy_LV (by omega) (ha k hlt), (LV_nI hS).1, one_sub hw, place_ix (by omega) (LV_nI hS).2]
      by_cases c : mC N K on w k S
      · have hb := (hch k hlt).mpr c
        rw [if_neg (by rw [bit_ne _ (by omega), hb]; decide), if_neg c, hT k hlt c]
        have e : nI (cb ch k) + (1 : Int32) = nI (cb ch (k + 1)) := by
          rw [nI_1, cb_s, hb]; rfl
        rw [e]
        exact ih (k + 1) _ (by omega) (by omega)
      · have hb : bt ch k = false := by
          cases hh : bt ch k with
          | false => rfl
          | true => exact absurd ((hch k hlt).mp hh) c
        rw [if_pos ((bit_ne _ (by omega)).mpr hb), if_pos (Classical.not_not.mp c)]
        have e : cb ch k = cb ch (k + 1) := by rw [cb_s, hb]; rfl
        rw [e]
        exact ih (k + 1) _ (by omega) (by omega)
def oP (N : Nat) (on K : Nat → Int32) (chn : Nat → Int64) (w S : Nat) : Prop := chn (w * 256 + S) = TP N on K (2 * S + w)
theorem eC {N : Nat} (hN : N ≤ 8) {on abv K : Nat → Int32} {chn : Nat → Int64} (ho : hOn N on) (ha : ∀ b, b < N → abv b = AB N on b) (hk : ∀ b, b < N → isK (K b)) {w S : Nat} (hw : w ≤ 1) (hS : S < 256) (hs : stds N on (nI S))
    (low : ∀ S', S' < S → stds N on (nI S') → oP N on K chn (1 - w) S') :
    f_X0_enter (nI N) abv chn (nI w) (nI S) (f_X6_choices (nI N) abv K (nI w) (nI S)) = vp_updL chn (w * 256 + S) (TP N on K (2 * S + w)) := by
  have hch : ∀ b, b < N → (bt (f_X6_choices (nI N) abv K (nI w) (nI S)) b = true ↔ mC N K on w b S) := fun b hb => by
    rw [ch_bt hN ha hk (by omega), mC_gC hN ho hb (hk b hb) hw hs]
    exact ⟨fun h => h.2, fun h => ⟨hb, h⟩⟩
  have hT : ∀ b, b < N → mC N K on w b S → chn ((1 - w) * 256 + lv N on b S) = TP N on K (2 * lv N on b S + (1 - w)) := by
    intro b hb hm
    exact low _ (mC_lt (by omega) hS hm) (by rw [← (LV_nI hS).1]; exact LV_st hN ho hb hs)
  have hhi := ch_hi hN ha hk (w := w) (S := S)
  have hcb := cb_top hhi 8 hN
  have hways : f_J6_bitCount_0f7a4 (f_X6_choices (nI N) abv K (nI w) (nI S)) = nI (cb (f_X6_choices (nI N) abv K (nI w) (nI S)) N) := by
    rw [bc_cb (fun e he => hhi e (by omega)), hcb]
  obtain ⟨tot, e1, e2⟩ := eC_L hN ha hw hS hch hT (ways := f_J6_bitCount_0f7a4 (f_X6_choices (nI N) abv K (nI w) (nI S))) 9 0 0 (by omega) (by omega)
  rw [TP_fx hN hS hw (st_FU hN hs)]
  have e3 : f_X11_partsFrom (nI N) K on (TP N on K) (nI S) (nI w) = _ := e2
  rw [e3, f_X0_enter_s]
  have hle := cb_le (f_X6_choices (nI N) abv K (nI w) (nI S)) N
  rw [hways] at e1 ⊢
  generalize cb (f_X6_choices (nI N) abv K (nI w) (nI S)) N = cc at e1 hle ⊢
  by_cases c : cc = 0
  · subst c
    rw [if_pos (show nI 0 = 0 from rfl), if_pos (show nI 0 ≤ 0 by decide), place_ix hw hS]
    rcases (show w = 0 ∨ w = 1 by omega) with e | e
    · subst e
      rw [if_neg (by decide), if_pos (show nI 0 = 0 from rfl)]
    · subst e
      rw [if_pos (show nI 1 = (1 : Int32) from rfl), if_neg (by decide)]
  · have n0 : ¬ nI cc = 0 := nI_ne0 (by omega) (by omega)
    rw [if_neg n0, if_neg (nI_nle (by omega) (by omega))]
    exact e1
theorem pf_congr2L {N : Nat} (hN : N ≤ 8) {K on : Nat → Int32} {T T' : Nat → Int64} {S w : Nat} (hS : S < 256) (hw : w ≤ 1) (h : ∀ b, b < N → mC N K on w b S → T' (2 * lv N on b S + (1 - w)) = T (2 * lv N on b S + (1 - w))) :
    ∀ (m k : Nat) (x3 : Int64) (x5 : Int32), N < k + m → k ≤ N → f_X11_partsFrom_L8 m (nI N) K on T' (nI S) (nI w) x3 x5 (nI k) = f_X11_partsFrom_L8 m (nI N) K on T (nI S) (nI w) x3 x5 (nI k) := by
  intro m
  induction m with
  | zero => intro k x3 x5 h1 h2; omega
  | succ m ih =>
    intro k x3 x5 h1 h2
    by_cases hk : k = N
    · subst hk
      rw [pf_end hN, pf_end hN]
    · rw [pf_step hN hS hw m k (by omega), pf_step hN hS hw m k (by omega)]
      by_cases c1 : f_X11_mayCut (nI N) K on (nI w) (nI k) (nI S) = 0
      · rw [if_pos c1, if_pos c1]
        exact ih (k + 1) _ _ (by omega) (by omega)
      · rw [if_neg c1, if_neg c1, h k (by omega) c1]
        exact ih (k + 1) _ _ (by omega) (by omega)
theorem uP {N : Nat} (hN : N ≤ 8) {on K : Nat → Int32} {T : Nat → Int64} {A : Nat} (hA : A < 256) (hAF : sub A (FU N)) (h : ∀ S w, S < A + 1 → w ≤ 1 → sub S A → T (2 * S + w) = f_X11_partsFrom (nI N) K on T (nI S) (nI w)) : ∀ S, S < 256 → sub S A → ∀ w, w ≤ 1 → T (2 * S + w) = TP N on K (2 * S + w) := by
  have tr : ∀ S, sub S A → sub S (FU N) := fun S hs => sub_bt.mpr (fun i hi q => sub_bt.mp hAF i hi (sub_bt.mp hs i hi q))
  intro S
  induction S using Nat.strongRecOn with
  | ind S ih =>
    intro hS hs w hw
    rw [h S w (by have := sub_le hS hA hs; omega) hw hs, TP_fx hN hS hw (tr S hs)]
    exact pf_congr2L hN hS hw (fun b hb hm => ih _ (mC_lt (by omega) hS hm) (LV_nI hS).2 (sub_lv (by omega) hS hs) (1 - w) (by omega)) 9 0 _ _ (by omega) (by omega)
