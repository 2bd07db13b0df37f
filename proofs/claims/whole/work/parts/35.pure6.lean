/-! the spec: the reference's tables with all standing -/
def FU (N : Nat) : Nat := 2 ^ N - 1
theorem FU_lt {N : Nat} (hN : N ≤ 8) : FU N < 256 := by
  have : 2 ^ N ≤ 2 ^ 8 := Nat.pow_le_pow_right (by decide) hN
  unfold FU
  omega
theorem sub_le {S A : Nat} (hS : S < 256) (hA : A < 256) (h : sub S A) : S ≤ A := by
  rw [sub_bt] at h
  have e : nI A &&& nI S = nI S := by
    apply b_ext
    intro i hi
    rw [b_and]
    cases hh : bt (nI S) i
    · simp
    · simp [h i hi hh]
  have g := i_and (x := nI A) (y := nI S) (by rw [tI (by omega)]; omega)
  rw [e, tI (by omega), tI (by omega)] at g
  omega
theorem st_FU {N : Nat} (hN : N ≤ 8) {on : Nat → Int32} {S : Nat} (h : stds N on (nI S)) : sub S (FU N) := by
  rw [sub_bt]
  intro i hi h1
  have : i < N := by
    rcases Nat.lt_or_ge i N with g | g
    · exact g
    · rw [h.1 i g] at h1; cases h1
  rw [bt_nI i hi]
  unfold FU
  rw [Nat.testBit_two_pow_sub_one]
  simp [this]
def TW (N : Nat) (on K : Nat → Int32) : Nat → Int32 := f_X11_layWinners (nI N) (nI (FU N)) K on (fun _ => 0)
def TL (N : Nat) (on K : Nat → Int32) : Nat → Int32 := (f_X11_layLasting_L6 257 (nI N) (nI (FU N)) K on (TW N on K) (fun _ => 0) (nI 0)).2
def TV (N : Nat) (on K : Nat → Int32) : Nat → Int32 := f_X11_layWorth (nI N) (nI (FU N)) K on (fun _ => 0)
def TP (N : Nat) (on K : Nat → Int32) : Nat → Int64 := (f_X11_likelyNow_L2 257 (nI N) (nI (FU N)) K on (fun _ => 0) (nI 0) (nI 0)).2
theorem TW_fx {N : Nat} (hN : N ≤ 8) {on K : Nat → Int32} {S w : Nat} (hS : S < 256) (hw : w ≤ 1) (h : sub S (FU N)) : TW N on K (2 * S + w) = f_X11_winnerFrom (nI N) K on (TW N on K) (nI S) (nI w) :=
  layW hN (FU_lt hN) S w (by have := sub_le hS (FU_lt hN) h; omega) hw h
theorem TL_fx {N : Nat} (hN : N ≤ 8) {on K : Nat → Int32} {S w : Nat} (hS : S < 256) (hw : w ≤ 1) (h : sub S (FU N)) : TL N on K (2 * S + w) = f_X11_lastingFrom (nI N) K on (TW N on K) (TL N on K) (nI S) (nI w) :=
  layL_fx hN (FU_lt hN) S w (by have := sub_le hS (FU_lt hN) h; omega) hw h
theorem TV_fx {N : Nat} (hN : N ≤ 8) {on K : Nat → Int32} {S : Nat} (hS : S < 256) (h : sub S (FU N)) : TV N on K S = f_X11_worthFrom (nI N) K on (TV N on K) (nI S) :=
  layWo hN (FU_lt hN) S (by have := sub_le hS (FU_lt hN) h; omega) h
theorem TP_fx {N : Nat} (hN : N ≤ 8) {on K : Nat → Int32} {S w : Nat} (hS : S < 256) (hw : w ≤ 1) (h : sub S (FU N)) : TP N on K (2 * S + w) = f_X11_partsFrom (nI N) K on (TP N on K) (nI S) (nI w) :=
  layP_fx hN (FU_lt hN) (nI 0) S w (by have := sub_le hS (FU_lt hN) h; omega) hw h
theorem TW_iff {N : Nat} (hN : N ≤ 8) {on K : Nat → Int32} {S w : Nat} (hS : S < 256) (hw : w ≤ 1) (h : sub S (FU N)) : TW N on K (2 * S + w) = nI w ↔ ∃ b, b < N ∧ mC N K on w b S ∧ TW N on K (2 * lv N on b S + (1 - w)) = nI w := by
  rw [TW_fx hN hS hw h]
  exact wf_iff hN hS hw
theorem TW_01 {N : Nat} (hN : N ≤ 8) {on K : Nat → Int32} {S w : Nat} (hS : S < 256) (hw : w ≤ 1) (h : sub S (FU N)) : TW N on K (2 * S + w) = nI w ∨ TW N on K (2 * S + w) = nI (1 - w) := by
  rw [TW_fx hN hS hw h]
  by_cases q : ∃ b, b < N ∧ mC N K on w b S ∧ TW N on K (2 * lv N on b S + (1 - w)) = nI w
  · exact Or.inl (wf_yes hN hS hw q)
  · exact Or.inr (wf_no hN hS hw q)
theorem w_ne {w : Nat} (hw : w ≤ 1) : ¬ nI (1 - w) = nI w := by
  rw [nI_inj (by omega) (by omega)]
  omega
theorem TW_not {N : Nat} (hN : N ≤ 8) {on K : Nat → Int32} {S w : Nat} (hS : S < 256) (hw : w ≤ 1) (h : sub S (FU N)) : (¬ TW N on K (2 * S + (1 - w)) = nI (1 - w)) ↔ TW N on K (2 * S + (1 - w)) = nI w := by
  have e : 1 - (1 - w) = w := by omega
  have k := TW_01 hN (on := on) (K := K) (w := 1 - w) hS (by omega) h
  rw [e] at k
  constructor
  · intro q
    exact k.resolve_left q
  · intro q r
    exact w_ne hw (r.symm.trans q)
/-! any such table says the same of the parts of what stands -/
theorem uW {N : Nat} (hN : N ≤ 8) {on K T : Nat → Int32} {A : Nat} (hA : A < 256) (hAF : sub A (FU N)) (h : fxW N K on A T (A + 1)) : ∀ S, S < 256 → sub S A → ∀ w, w ≤ 1 → T (2 * S + w) = TW N on K (2 * S + w) := by
  have tr : ∀ S, sub S A → sub S (FU N) := fun S hs => sub_bt.mpr (fun i hi q => sub_bt.mp hAF i hi (sub_bt.mp hs i hi q))
  intro S
  induction S using Nat.strongRecOn with
  | ind S ih =>
    intro hS hs w hw
    rw [h S w (by have := sub_le hS hA hs; omega) hw hs, TW_fx hN hS hw (tr S hs)]
    have e : (∃ b, b < N ∧ mC N K on w b S ∧ T (2 * lv N on b S + (1 - w)) = nI w) ↔ (∃ b, b < N ∧ mC N K on w b S ∧ TW N on K (2 * lv N on b S + (1 - w)) = nI w) := by
      constructor
      · rintro ⟨b, h1, h2, h3⟩
        have := mC_lt (by omega) hS h2
        exact ⟨b, h1, h2, by rw [← ih _ this (LV_nI hS).2 (sub_lv (by omega) hS hs) (1 - w) (by omega)]; exact h3⟩
      · rintro ⟨b, h1, h2, h3⟩
        have := mC_lt (by omega) hS h2
        exact ⟨b, h1, h2, by rw [ih _ this (LV_nI hS).2 (sub_lv (by omega) hS hs) (1 - w) (by omega)]; exact h3⟩
    by_cases q : ∃ b, b < N ∧ mC N K on w b S ∧ TW N on K (2 * lv N on b S + (1 - w)) = nI w
    · rw [wf_yes hN hS hw q, wf_yes hN hS hw (e.mpr q)]
    · rw [wf_no hN hS hw q, wf_no hN hS hw (fun z => q (e.mp z))]
/-! the class's outcomes -/
theorem eW_L {N : Nat} (hN : N ≤ 8) {on abv K : Nat → Int32} {won : Nat → Int64} (ha : ∀ b, b < N → abv b = AB N on b) {w S : Nat} (hw : w ≤ 1) (hS : S < 256) :
    ∀ (m k : Nat) (x3 : Int64), N < k + m → k ≤ N → ∃ V : Int64, f_X4_enter_L5 m (nI N) abv K won (nI w) (nI S) x3 (nI k) = vp_updL won (w * 256 + S) V ∧
      ∀ i, i < 64 → (lb V i = true ↔ (lb x3 i = true ∨ ∃ b, k ≤ b ∧ b < N ∧ bt (nI S) b = true ∧ lb (f_X4_hedgesWithCut abv K (nI w) (nI b) (nI S)) i = true ∧ lb (won ((1 - w) * 256 + lv N on b S)) i = false)) := by
  intro m
  induction m with
  | zero => intro k x3 h1 h2; omega
  | succ m ih =>
    intro k x3 h1 h2
    rw [f_X4_enter_L5_s, nI_1, place_ix hw hS, one_sub hw]
    by_cases hk : k = N
    · subst hk
      rw [if_pos (nI_le (Nat.le_refl _) (by omega))]
      exact ⟨x3, rfl, fun i hi => ⟨Or.inl, fun h => h.elim id (fun ⟨b, g1, g2, _⟩ => by omega)⟩⟩
    · have hlt : k < N := by omega
      rw [if_neg (nI_ge hlt (by omega)), leftBy_LV (by omega) (ha k hlt), (LV_nI hS).1, place_ix (by omega) (LV_nI hS).2]
      by_cases c : bt (nI S) k = true
      · rw [if_neg (by rw [bit_ne _ (by omega), c]; decide)]
        obtain ⟨V, e1, e2⟩ := ih (k + 1) (x3 ||| ((f_X4_hedgesWithCut abv K (nI w) (nI k) (nI S)) &&& ((won ((1 - w) * 256 + lv N on k S)) ^^^ (-1 : Int64)))) (by omega) (by omega)
        refine ⟨V, e1, fun i hi => ?_⟩
        rw [e2 i hi, lb_or, lb_and, lb_not _ hi]
        constructor
        · rintro (h | ⟨b, g1, g2⟩)
          · cases hx : lb x3 i with
            | true => exact Or.inl rfl
            | false =>
              rw [hx] at h
              simp at h
              exact Or.inr ⟨k, Nat.le_refl _, hlt, c, h.1, h.2⟩
          · exact Or.inr ⟨b, by omega, g2⟩
        · rintro (h | ⟨b, g1, g2, g3, g4, g5⟩)
          · left; rw [h]; rfl
          · rcases Nat.eq_or_lt_of_le g1 with q | q
            · subst q
              left
              rw [g4, g5]
              simp
            · exact Or.inr ⟨b, q, g2, g3, g4, g5⟩
      · rw [if_pos ((bit_ne _ (by omega)).mpr (by simpa using c))]
        obtain ⟨V, e1, e2⟩ := ih (k + 1) x3 (by omega) (by omega)
        refine ⟨V, e1, fun i hi => ?_⟩
        rw [e2 i hi]
        constructor
        · rintro (h | ⟨b, g1, g2⟩)
          · exact Or.inl h
          · exact Or.inr ⟨b, by omega, g2⟩
        · rintro (h | ⟨b, g1, g2, g3, g4⟩)
          · exact Or.inl h
          · rcases Nat.eq_or_lt_of_le g1 with q | q
            · subst q; exact absurd g3 c
            · exact Or.inr ⟨b, q, g2, g3, g4⟩
/-- what the chart of outcomes says of a set -/
def oW (N : Nat) (on K : Nat → Int32) (won : Nat → Int64) (w S : Nat) : Prop := ∀ i, i < 41 → (lb (won (w * 256 + S)) i = true ↔ TW N on (Ki K i) (2 * S + w) = nI w)
theorem eW {N : Nat} (hN : N ≤ 8) {on abv K : Nat → Int32} {won : Nat → Int64} (ho : hOn N on) (ha : ∀ b, b < N → abv b = AB N on b) (hk : ∀ b, b < N → isK (K b)) {w S : Nat} (hw : w ≤ 1) (hS : S < 256) (hs : stds N on (nI S))
    (low : ∀ S', S' < S → stds N on (nI S') → oW N on K won (1 - w) S') : ∃ V : Int64, f_X4_enter (nI N) abv K won (nI w) (nI S) = vp_updL won (w * 256 + S) V ∧ ∀ i, i < 41 → (lb V i = true ↔ TW N on (Ki K i) (2 * S + w) = nI w) := by
  obtain ⟨V, e1, e2⟩ := eW_L hN ha (K := K) (won := won) hw hS 9 0 0 (by omega) (by omega)
  refine ⟨V, e1, fun i hi => ?_⟩
  rw [e2 i (by omega), TW_iff hN hS hw (st_FU hN hs), lb_0]
  constructor
  · rintro (h | ⟨b, g1, g2, g3, g4, g5⟩)
    · cases h
    · rw [hwc_bt (by omega) (ha b g2) (hk b g2) hi] at g4
      have hm : mC N (Ki K i) on w b S := (mC_gC hN ho g2 (Ki_isK (hk b g2)) hw hs).mpr ⟨g3, g4⟩
      refine ⟨b, g2, hm, ?_⟩
      have hlt := mC_lt (by omega) hS hm
      have hst : stds N on (nI (lv N on b S)) := by rw [← (LV_nI hS).1]; exact LV_st hN ho g2 hs
      have := low _ hlt hst i hi
      rw [g5] at this
      exact (TW_not hN (LV_nI hS).2 hw (st_FU hN hst)).mp (fun z => Bool.noConfusion (this.mpr z))
  · rintro ⟨b, g2, hm, g5⟩
    right
    obtain ⟨g3, g4⟩ := (mC_gC hN ho g2 (Ki_isK (hk b g2)) hw hs).mp hm
    refine ⟨b, by omega, g2, g3, by rw [hwc_bt (by omega) (ha b g2) (hk b g2) hi]; exact g4, ?_⟩
    have hlt := mC_lt (by omega) hS hm
    have hst : stds N on (nI (lv N on b S)) := by rw [← (LV_nI hS).1]; exact LV_st hN ho g2 hs
    have := low _ hlt hst i hi
    have q := (TW_not hN (LV_nI hS).2 hw (st_FU hN hst)).mpr g5
    cases hh : lb (won ((1 - w) * 256 + lv N on b S)) i with
    | false => rfl
    | true => exact absurd (this.mp hh) q
theorem l40 {x : Int64} : (lg_cmp (x &&& (1099511627776 : Int64)) (0 : Int64)) = 0 ↔ lb x 40 = false := by
  have e1 : lg_cmp (x &&& (1099511627776 : Int64)) 0 = 0 ↔ (x &&& (1099511627776 : Int64)) = 0 := by
    unfold lg_cmp
    by_cases h1 : (x &&& (1099511627776 : Int64)) > 0
    · rw [if_pos h1]
      constructor
      · intro q; exact absurd q (by decide)
      · intro q; rw [q] at h1; exact absurd h1 (by decide)
    · rw [if_neg h1]
      by_cases h2 : (x &&& (1099511627776 : Int64)) = 0
      · rw [if_pos h2]; exact ⟨fun _ => h2, fun _ => rfl⟩
      · rw [if_neg h2]
        constructor
        · intro q; exact absurd q (by decide)
        · intro q; exact absurd q h2
  have b40 : ∀ i, i < 64 → lb 1099511627776 i = decide (i = 40) := by decide +kernel
  rw [e1]
  constructor
  · intro q
    have : lb (x &&& (1099511627776 : Int64)) 40 = false := by rw [q]; exact lb_0 40
    rw [lb_and, b40 40 (by omega)] at this
    simpa using this
  · intro q
    apply lb_ext
    intro i hi
    rw [lb_and, b40 i hi, lb_0]
    by_cases g : i = 40
    · subst g; rw [q]; rfl
    · simp [g]
theorem wonBy_0 {won : Nat → Int64} {w S : Nat} (hw : w ≤ 1) (hS : S < 256) : f_X4_isWonBy won (nI w) (nI S) = 0 ↔ lb (won (w * 256 + S)) 40 = false := by
  unfold f_X4_isWonBy
  rw [place_ix hw hS]
  by_cases c : lb (won (w * 256 + S)) 40 = false
  · rw [if_pos (l40.mpr c)]; exact ⟨fun _ => c, fun _ => rfl⟩
  · rw [if_neg (fun q => c (l40.mp q))]
    exact ⟨fun q => absurd q (by decide), fun q => absurd q c⟩
theorem wonBy_01 {won : Nat → Int64} {a b : Int32} : f_X4_isWonBy won a b = 0 ∨ f_X4_isWonBy won a b = 1 := by
  unfold f_X4_isWonBy
  split
  · exact Or.inl rfl
  · exact Or.inr rfl
theorem wonBy_TW {N : Nat} {on K : Nat → Int32} {won : Nat → Int64} {w S : Nat} (hw : w ≤ 1) (hS : S < 256) (h : oW N on K won w S) : f_X4_isWonBy won (nI w) (nI S) = 0 ↔ ¬ TW N on K (2 * S + w) = nI w := by
  have k := h 40 (by omega)
  rw [Ki_40] at k
  rw [wonBy_0 hw hS, ← k]
  cases lb (won (w * 256 + S)) 40 <;> simp
