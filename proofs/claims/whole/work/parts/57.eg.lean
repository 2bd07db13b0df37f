/-! what both would answer: who wins, best cuts, lengths, worth, chances -/
theorem rW {N : Nat} (hN : N ≤ 8) {O K T : Nat → Int32} {A : Nat} (hA : A < 256) (hst : stds N O (nI A)) : ∀ S, S < 256 → sub S A → ∀ w, w ≤ 1 → f_X11_layWinners (nI N) (nI A) K O T (2 * S + w) = TW N O K (2 * S + w) := uW hN hA (st_FU hN hst) (layW hN hA)
theorem mv_wins {N : Nat} (hN : N ≤ 8) {O K T : Nat → Int32} {A : Nat} (hA : A < 256) (hst : stds N O (nI A)) {w : Nat} (hw : w ≤ 1) : ∃ T2, f_X11_winsNow (nI N) (nI A) K O T (nI w) = (TW N O K (2 * A + w), T2) := by
  refine ⟨f_X11_layWinners (nI N) (nI A) K O T, ?_⟩
  rw [f_X11_winsNow_s, ix_2w hw hA, rW hN hA hst A hA (sub_rf A) w hw]
theorem mv_lay {N : Nat} (hN : N ≤ 8) {O K W L : Nat → Int32} {A : Nat} (hA : A < 256) (hst : stds N O (nI A)) : ∃ L2, f_X11_layLasting (nI N) (nI A) K O W L = (f_X11_layWinners (nI N) (nI A) K O W, L2) ∧ ∀ S, S < 256 → sub S A → ∀ w, w ≤ 1 → L2 (2 * S + w) = TL N O K (2 * S + w) := by
  refine ⟨(f_X11_layLasting_L6 257 (nI N) (nI A) K O (f_X11_layWinners (nI N) (nI A) K O W) L (nI 0)).2, ?_, ?_⟩
  · rw [f_X11_layLasting_s]
    exact Prod.ext (layL_w 257 _ _ _) rfl
  · exact uL hN hA (st_FU hN hst) (rW hN hA hst) (layL_fx hN hA)
theorem mv_lasts {N : Nat} (hN : N ≤ 8) {O K W L : Nat → Int32} {A : Nat} (hA : A < 256) (hst : stds N O (nI A)) {w : Nat} (hw : w ≤ 1) : ∃ W2 L2, f_X11_lastsNow (nI N) (nI A) K O W L (nI w) = (TL N O K (2 * A + w), W2, L2) := by
  obtain ⟨L2, e, h⟩ := mv_lay hN hA hst (K := K) (W := W) (L := L)
  refine ⟨f_X11_layWinners (nI N) (nI A) K O W, L2, ?_⟩
  rw [f_X11_lastsNow_s, e]
  show (L2 ((2 : Int32) * nI A + nI w).toNatClampNeg, _, L2) = _
  rw [ix_2w hw hA, h A hA (sub_rf A) w hw]
theorem mv_worth {N : Nat} (hN : N ≤ 8) {O K T : Nat → Int32} {A : Nat} (hA : A < 256) (hst : stds N O (nI A)) : ∀ S, S < 256 → sub S A → f_X11_layWorth (nI N) (nI A) K O T S = TV N O K S := uV hN hA (st_FU hN hst) (layWo hN hA)
def vP (N : Nat) (O K : Nat → Int32) (A w : Nat) : Int32 := (TP N O K (2 * A + w) * (1000000 : Int64) / (182891520000 : Int64)).toInt32
theorem mv_likely {N : Nat} (hN : N ≤ 8) {O K : Nat → Int32} {T : Nat → Int64} {A : Nat} (hA : A < 256) (hst : stds N O (nI A)) {w : Nat} (hw : w ≤ 1) : ∃ T2, f_X11_likelyNow (nI N) (nI A) K O T (nI w) = (vP N O K A w, T2) := by
  refine ⟨(f_X11_likelyNow_L2 257 (nI N) (nI A) K O T (nI w) (nI 0)).2, ?_⟩
  rw [f_X11_likelyNow_s]
  have h1 := likely_r (N := N) (K := K) (on := O) hA hw 257 0 T (by omega) (by omega)
  have h2 := uP hN hA (st_FU hN hst) (layP_fx hN hA (K := K) (on := O) (T := T) (nI w)) A hA (sub_rf A) w hw
  rw [h2] at h1
  exact Prod.ext h1 rfl
theorem c_ok {N A M : Nat} {ic : Int32} {O K abv sets lc va : Nat → Int32} {won chn : Nat → Int64} (I1 : CH1 N A M ic O K abv sets lc va won chn) (h1 : 1 ≤ N) : ∃ lc2 va2 won2 chn2, f_X10_chart ic (nI N) (nI M) abv sets K lc va won chn = ((1 : Int32), lc2, va2, won2, chn2) ∧ allOK N O K lc2 va2 won2 chn2 ∧ CH1 N A M 1 O K abv sets lc2 va2 won2 chn2 := by
  obtain ⟨hN, ho, hK, ha, hsO, hM, hse, hA, hst, hic⟩ := id I1
  obtain ⟨lc2, va2, won2, chn2, e, ok⟩ := chart_ok hN ho ha hK (hsO h1) hic
  exact ⟨lc2, va2, won2, chn2, e, ok, hN, ho, hK, ha, hsO, hM, hse, hA, hst, Or.inr ⟨rfl, ok⟩⟩
theorem best_L {N : Nat} (hN : N ≤ 8) {O K abv lc va W T : Nat → Int32} {won chn : Nat → Int64} (ho : hOn N O) (ha : ∀ b, b < N → abv b = AB N O b) {A w : Nat} (hw : w ≤ 1) (hA : A < 256) (hst : stds N O (nI A)) (ok : allOK N O K lc va won chn)
    (hWT : ∀ b, b < N → mC N K O w b A → W (2 * lv N O b A + (1 - w)) = TW N O K (2 * lv N O b A + (1 - w)) ∧ T (2 * lv N O b A + (1 - w)) = TL N O K (2 * lv N O b A + (1 - w)))
    {ch : Int32} (hch : ∀ b, b < N → (((ch >>> (nI b &&& 31)) &&& (1 : Int32)) = 0 ↔ ¬ mC N K O w b A)) :
    ∀ (m k : Nat) (x2 x3 : Int32), N < k + m → k ≤ N → f_X11_bestNow_L11 m (nI N) (nI A) K O W T (nI w) x2 x3 (nI k) = (f_X1_bestCut_L30 m (nI N) abv K lc won (nI w) (nI A) (f_X4_isWonBy won (nI w) (nI A)) ch x2 x3 (nI k), W, T) := by
  intro m
  induction m with
  | zero => intro k x2 x3 h1 h2; omega
  | succ m ih =>
    intro k x2 x3 h1 h2
    rw [f_X11_bestNow_L11_s, f_X1_bestCut_L30_s, nI_1]
    by_cases hk : k = N
    · subst hk
      rw [if_pos (nI_le (Nat.le_refl _) (by omega)), if_pos (nI_le (Nat.le_refl _) (by omega))]
    · have hlt : k < N := by omega
      rw [if_neg (nI_ge hlt (by omega)), if_neg (nI_ge hlt (by omega))]
      by_cases c : f_X11_mayCut (nI N) K O (nI w) (nI k) (nI A) = 0
      · rw [if_pos c, if_pos ((hch k hlt).mpr (fun q => q c))]
        exact ih (k + 1) x2 x3 (by omega) (by omega)
      · have hm : mC N K O w k A := c
        obtain ⟨l1, l2⟩ := LV_nI (N := N) (on := O) (b := k) hA
        have hstl : stds N O (nI (lv N O k A)) := by rw [← l1]; exact LV_st hN ho hlt hst
        have hsl := st_FU hN hstl
        obtain ⟨o1, o2, o3⟩ := (ok (lv N O k A) l2 hstl).1 (1 - w) (by omega)
        obtain ⟨g1, g2⟩ := hWT k hlt hm
        have oA := ((ok A hA hst).1 w hw).1
        rw [if_neg c, if_neg (fun z => (hch k hlt).mp z hm), leaves_LV, leftBy_LV (by omega) (ha k hlt), l1, one_sub hw, place_ix (by omega) l2, ix_21w hw l2, g1, g2, o2.1]
        by_cases win : TW N O K (2 * lv N O k A + (1 - w)) = nI w
        · have hwA : TW N O K (2 * A + w) = nI w := (TW_iff hN hA hw (st_FU hN hst)).mpr ⟨k, hlt, hm, win⟩
          rw [if_pos win, if_neg (fun z => (wonBy_TW hw hA oA).mp z hwA), if_pos ((wonBy_TW (by omega) l2 o1).mpr ((TW_not hN l2 hw hsl).mpr win))]
        · have nw : ¬ f_X4_isWonBy won (nI (1 - w)) (nI (lv N O k A)) = 0 := fun z => win ((TW_not hN l2 hw hsl).mp ((wonBy_TW (by omega) l2 o1).mp z))
          rw [if_neg win, if_neg nw]
          by_cases q : TL N O K (2 * lv N O k A + (1 - w)) ≤ x3
          · rw [if_pos q, if_pos q, if_pos q]
            rw [ih (k + 1) x2 x3 (by omega) (by omega)]
            by_cases z : f_X4_isWonBy won (nI w) (nI A) = 0
            · rw [if_pos z]
            · rw [if_neg z]
          · rw [if_neg q, if_neg q, if_neg q]
            rw [ih (k + 1) _ _ (by omega) (by omega)]
            by_cases z : f_X4_isWonBy won (nI w) (nI A) = 0
            · rw [if_pos z]
            · rw [if_neg z]
def vB (N : Nat) (O K : Nat → Int32) (A w : Nat) : Int32 := (f_X11_bestNow_L11 9 (nI N) (nI A) K O (TW N O K) (TL N O K) (nI w) (-1 : Int32) (-1 : Int32) (nI 0)).1
theorem ch_mC {N : Nat} (hN : N ≤ 8) {O abv K : Nat → Int32} (ho : hOn N O) (ha : ∀ b, b < N → abv b = AB N O b) (hK : ∀ b, b < N → isK (K b)) {A w : Nat} (hw : w ≤ 1) (hst : stds N O (nI A)) : ∀ b, b < N → ((((f_X6_choices (nI N) abv K (nI w) (nI A)) >>> (nI b &&& 31)) &&& (1 : Int32)) = 0 ↔ ¬ mC N K O w b A) := by
  intro b hb
  rw [ch_bit hN ha hK hb, mC_gC hN ho hb (hK b hb) hw hst]
theorem gv_best0 {N : Nat} (hN : N ≤ 8) {O K abv lc va : Nat → Int32} {won chn : Nat → Int64} (ho : hOn N O) (ha : ∀ b, b < N → abv b = AB N O b) (hK : ∀ b, b < N → isK (K b)) {A w : Nat} (hw : w ≤ 1) (hA : A < 256) (hst : stds N O (nI A)) (ok : allOK N O K lc va won chn) : f_X1_bestCut (nI N) abv K lc won (nI w) (nI A) = vB N O K A w := by
  have h := best_L hN ho ha hw hA hst ok (W := TW N O K) (T := TL N O K) (fun _ _ _ => ⟨rfl, rfl⟩) (ch_mC hN ho ha hK hw hst) 9 0 (-1) (-1) (by omega) (by omega)
  rw [f_X1_bestCut_s]
  exact (congrArg Prod.fst h).symm
theorem mv_best {N : Nat} (hN : N ≤ 8) {O K abv lc va W L : Nat → Int32} {won chn : Nat → Int64} (ho : hOn N O) (ha : ∀ b, b < N → abv b = AB N O b) (hK : ∀ b, b < N → isK (K b)) {A w : Nat} (hw : w ≤ 1) (hA : A < 256) (hst : stds N O (nI A)) (ok : allOK N O K lc va won chn) : ∃ W2 L2, f_X11_bestNow (nI N) (nI A) K O W L (nI w) = (vB N O K A w, W2, L2) := by
  obtain ⟨L2, e, h⟩ := mv_lay hN hA hst (K := K) (W := W) (L := L)
  refine ⟨f_X11_layWinners (nI N) (nI A) K O W, L2, ?_⟩
  rw [f_X11_bestNow_s, e]
  have h1 := best_L hN ho ha hw hA hst ok (W := f_X11_layWinners (nI N) (nI A) K O W) (T := L2) (fun b hb hm => ⟨rW hN hA hst _ (LV_nI hA).2 (sub_lv (by omega) hA (sub_rf A)) _ (by omega), h _ (LV_nI hA).2 (sub_lv (by omega) hA (sub_rf A)) _ (by omega)⟩) (ch_mC hN ho ha hK hw hst) 9 0 (-1) (-1) (by omega) (by omega)
  refine Eq.trans h1 (Prod.ext ?_ rfl)
  exact (gv_best0 hN ho ha hK hw hA hst ok)
theorem rf_a {b p : Int32} (h : ¬ ∃ j, j ≤ 1 ∧ p = nI j) : f_X11_refused b p = (-102 : Int32) := by
  rw [f_X11_refused_s, if_pos (wi1.mpr h)]
theorem rf_b {p : Int32} (h : ∃ j, j ≤ 1 ∧ p = nI j) : f_X11_refused (nI 0) p = (-103 : Int32) := by
  rw [f_X11_refused_s, if_neg (fun z => wi1.mp z h), if_pos (show nI 0 = (0 : Int32) from rfl)]
theorem rf_c {N w : Nat} (hN : N ≤ 8) (h1 : ¬ N = 0) (hw : w ≤ 1) : f_X11_refused (nI N) (nI w) = 0 := by
  rw [f_X11_refused_s, if_neg (fun z => wi1.mp z ⟨w, hw, rfl⟩), if_neg (nI_ne0 (by omega) (by omega))]
theorem le00 : (0 : Int32) ≤ 0 := by decide
theorem gv_wins {N A M : Nat} {ic : Int32} {O K abv sets lc va : Nat → Int32} {won chn : Nat → Int64} (I1 : CH1 N A M ic O K abv sets lc va won chn) (h1 : 1 ≤ N) {w : Nat} (hw : w ≤ 1) : ∃ lc2 va2 won2 chn2, f_X10_wins ic (nI N) (nI M) (nI A) abv sets K lc va won chn (nI w) = (TW N O K (2 * A + w), (1 : Int32), lc2, va2, won2, chn2) ∧ CH1 N A M 1 O K abv sets lc2 va2 won2 chn2 := by
  obtain ⟨hN, ho, hK, ha, hsO, hM, hse, hA, hst, hic⟩ := id I1
  obtain ⟨lc2, va2, won2, chn2, e, ok, J⟩ := c_ok I1 h1
  refine ⟨lc2, va2, won2, chn2, ?_, J⟩
  have o := (ok A hA hst).1 w hw
  rw [f_X10_wins_s, if_pos (side_0.mpr ⟨w, hw, rfl⟩), if_pos ((nh_0 hN).mpr (by omega)), e]
  show (if f_X4_isWonBy won2 (nI w) (nI A) = 0 then ((1 : Int32) - nI w, (1 : Int32), lc2, va2, won2, chn2) else (nI w, (1 : Int32), lc2, va2, won2, chn2)) = _
  rcases TW_01 hN (on := O) (K := K) hA hw (st_FU hN hst) with q | q
  · rw [if_neg (fun z => (wonBy_TW hw hA o.1).mp z q), q]
  · rw [if_pos ((wonBy_TW hw hA o.1).mpr (by rw [q]; exact w_ne hw)), q, one_sub hw]
theorem gv_best {N A M : Nat} {ic : Int32} {O K abv sets lc va : Nat → Int32} {won chn : Nat → Int64} (I1 : CH1 N A M ic O K abv sets lc va won chn) (h1 : 1 ≤ N) {w : Nat} (hw : w ≤ 1) : ∃ lc2 va2 won2 chn2, f_X10_best ic (nI N) (nI M) (nI A) abv sets K lc va won chn (nI w) = (vB N O K A w, (1 : Int32), lc2, va2, won2, chn2) ∧ CH1 N A M 1 O K abv sets lc2 va2 won2 chn2 := by
  obtain ⟨hN, ho, hK, ha, hsO, hM, hse, hA, hst, hic⟩ := id I1
  obtain ⟨lc2, va2, won2, chn2, e, ok, J⟩ := c_ok I1 h1
  refine ⟨lc2, va2, won2, chn2, ?_, J⟩
  rw [f_X10_best_s, if_pos (side_0.mpr ⟨w, hw, rfl⟩), if_pos ((nh_0 hN).mpr (by omega)), e]
  show (f_X1_bestCut (nI N) abv K lc2 won2 (nI w) (nI A), (1 : Int32), lc2, va2, won2, chn2) = _
  rw [gv_best0 hN ho ha hK hw hA hst ok]
theorem gv_lasts {N A M : Nat} {ic : Int32} {O K abv sets lc va : Nat → Int32} {won chn : Nat → Int64} (I1 : CH1 N A M ic O K abv sets lc va won chn) (h1 : 1 ≤ N) {w : Nat} (hw : w ≤ 1) : ∃ lc2 va2 won2 chn2, f_X10_lasts ic (nI N) (nI M) (nI A) abv sets K lc va won chn (nI w) = (TL N O K (2 * A + w), (1 : Int32), lc2, va2, won2, chn2) ∧ CH1 N A M 1 O K abv sets lc2 va2 won2 chn2 := by
  obtain ⟨hN, ho, hK, ha, hsO, hM, hse, hA, hst, hic⟩ := id I1
  obtain ⟨lc2, va2, won2, chn2, e, ok, J⟩ := c_ok I1 h1
  refine ⟨lc2, va2, won2, chn2, ?_, J⟩
  have o := (ok A hA hst).1 w hw
  rw [f_X10_lasts_s, if_pos (side_0.mpr ⟨w, hw, rfl⟩), if_pos ((nh_0 hN).mpr (by omega)), e]
  show (f_X1_cutsFrom lc2 (nI w) (nI A), (1 : Int32), lc2, va2, won2, chn2) = _
  rw [f_X1_cutsFrom_s, place_ix hw hA, o.2.1.1]
theorem gv_likely {N A M : Nat} {ic : Int32} {O K abv sets lc va : Nat → Int32} {won chn : Nat → Int64} (I1 : CH1 N A M ic O K abv sets lc va won chn) (h1 : 1 ≤ N) {w : Nat} (hw : w ≤ 1) : ∃ lc2 va2 won2 chn2, f_X10_likely ic (nI N) (nI M) (nI A) abv sets K lc va won chn (nI w) = (vP N O K A w, (1 : Int32), lc2, va2, won2, chn2) ∧ CH1 N A M 1 O K abv sets lc2 va2 won2 chn2 := by
  obtain ⟨hN, ho, hK, ha, hsO, hM, hse, hA, hst, hic⟩ := id I1
  obtain ⟨lc2, va2, won2, chn2, e, ok, J⟩ := c_ok I1 h1
  refine ⟨lc2, va2, won2, chn2, ?_, J⟩
  have o : chn2 (w * 256 + A) = TP N O K (2 * A + w) := ((ok A hA hst).1 w hw).2.2
  rw [f_X10_likely_s, if_pos (side_0.mpr ⟨w, hw, rfl⟩), if_pos ((nh_0 hN).mpr (by omega)), e]
  show (f_X0_millionths chn2 (nI w) (nI A), (1 : Int32), lc2, va2, won2, chn2) = _
  rw [f_X0_millionths_s, place_ix hw hA, o]
  rfl
theorem gv_worth {N A M : Nat} {ic : Int32} {O K abv sets lc va : Nat → Int32} {won chn : Nat → Int64} (I1 : CH1 N A M ic O K abv sets lc va won chn) (h1 : 1 ≤ N) : ∃ lc2 va2 won2 chn2, f_X10_worth ic (nI N) (nI M) (nI A) abv sets K lc va won chn = (TV N O K A, (1 : Int32), lc2, va2, won2, chn2) ∧ CH1 N A M 1 O K abv sets lc2 va2 won2 chn2 := by
  obtain ⟨hN, ho, hK, ha, hsO, hM, hse, hA, hst, hic⟩ := id I1
  obtain ⟨lc2, va2, won2, chn2, e, ok, J⟩ := c_ok I1 h1
  refine ⟨lc2, va2, won2, chn2, ?_, J⟩
  have o : va2 A = TV N O K A := (ok A hA hst).2.1
  rw [f_X10_worth_s, if_pos ((nh_0 hN).mpr (by omega)), e]
  show (f_X9_valueOf va2 (nI A), (1 : Int32), lc2, va2, won2, chn2) = _
  rw [f_X9_valueOf_s, nI_clamp (by omega : A < 2 ^ 31), o]
theorem tr_st {N : Nat} (hN : N ≤ 8) {O : Nat → Int32} (ho : hOn N O) {b : Nat} (hb : b < N) (hO : O b = (-1 : Int32)) {A : Nat} (hst : stds N O (nI A)) : ∃ S, S < 256 ∧ (nI A &&& (AB N O b ||| ((1 : Int32) <<< (nI b &&& 31)))) = nI S ∧ stds N O (nI S) ∧ sub S A := by
  have hbt : ∀ e, e < 32 → bt (nI A &&& (AB N O b ||| ((1 : Int32) <<< (nI b &&& 31)))) e = (bt (nI A) e && (bt (AB N O b) e || decide (e = b))) := fun e he => by rw [b_and, b_or, bt_s1 (by omega) he]
  have hhi : ∀ e, N ≤ e → bt (nI A &&& (AB N O b ||| ((1 : Int32) <<< (nI b &&& 31)))) e = false := fun e he => by
    rcases Nat.lt_or_ge e 32 with g | g
    · rw [hbt e g, hst.1 e he]; rfl
    · exact b_big g
  obtain ⟨S, hS, eS⟩ := bits8 (x := nI A &&& (AB N O b ||| ((1 : Int32) <<< (nI b &&& 31)))) (fun e he => hhi e (by omega))
  obtain ⟨k1, k2, k3⟩ := above_bt hN ho hb
  refine ⟨S, hS, eS, ?_, ?_⟩
  · rw [← eS]
    refine ⟨hhi, fun e he h1 j h2 h3 => ?_⟩
    rw [hbt e (by omega)] at h1
    rw [hbt j (by omega)]
    have h1a : bt (nI A) e = true := by
      cases g : bt (nI A) e
      · rw [g] at h1; cases h1
      · rfl
    rw [hst.2 e he h1a j h2 h3]
    by_cases q : e = b
    · subst q
      rw [hO] at h2
      exact absurd h2.symm (nI_ne_m1 (by omega))
    · have h1b : bt (AB N O b) e = true := by simpa [h1a, q] using h1
      have hbe : b < e := by
        rcases Nat.lt_or_ge b e with g | g
        · exact g
        · rw [k1 e g] at h1b; cases h1b
      rcases (k3 e hbe he).mp h1b with g | ⟨j2, g1, g2, g3⟩
      · rw [h2, nI_inj (by omega) (by omega)] at g
        subst g; simp
      · rw [h2, nI_inj (by omega) (by omega)] at g2
        subst g2; rw [g3]; rfl
  · apply sub_bt.mpr
    intro i hi q
    rw [← eS, hbt i hi] at q
    cases g : bt (nI A) i
    · rw [g] at q; cases q
    · rfl
def vT (N : Nat) (O K : Nat → Int32) (A b : Nat) : Int32 := TV N O K (nI A &&& (AB N O b ||| ((1 : Int32) <<< (nI b &&& 31)))).toNatClampNeg
theorem gv_tree {N A M : Nat} {ic : Int32} {O K abv sets lc va : Nat → Int32} {won chn : Nat → Int64} (I1 : CH1 N A M ic O K abv sets lc va won chn) {b : Nat} (hb : b < N) (hO : O b = (-1 : Int32)) : ∃ lc2 va2 won2 chn2, f_X10_tree ic (nI N) (nI M) (nI A) O abv sets K lc va won chn (nI b) = (vT N O K A b, (1 : Int32), lc2, va2, won2, chn2) ∧ CH1 N A M 1 O K abv sets lc2 va2 won2 chn2 := by
  obtain ⟨hN, ho, hK, ha, hsO, hM, hse, hA, hst, hic⟩ := id I1
  obtain ⟨lc2, va2, won2, chn2, e, ok, J⟩ := c_ok I1 (by omega)
  refine ⟨lc2, va2, won2, chn2, ?_, J⟩
  obtain ⟨S, hS, eS, s1, s2⟩ := tr_st hN ho hb hO hst
  have o : va2 S = TV N O K S := (ok S hS s1).2.1
  rw [f_X10_tree_s, if_pos ((unk_0 hN).mpr ⟨b, hb, rfl⟩), nI_clamp (by omega : b < 2 ^ 31), if_pos hO, e]
  show (f_X9_valueOf va2 (nI A &&& f_X8_withAllOn abv (nI b)), (1 : Int32), lc2, va2, won2, chn2) = _
  unfold vT
  rw [f_X9_valueOf_s, f_X8_withAllOn_s, nI_clamp (by omega : b < 2 ^ 31), ha b hb, eS, nI_clamp (by omega : S < 2 ^ 31), o]
theorem mv_tree {N : Nat} (hN : N ≤ 8) {O K T : Nat → Int32} (ho : hOn N O) {A : Nat} (hA : A < 256) (hst : stds N O (nI A)) {b : Nat} (hb : b < N) (hO : O b = (-1 : Int32)) : f_X11_layWorth (nI N) (nI A) K O T (nI A &&& (f_X11_above (nI N) O (nI b) ||| ((1 : Int32) <<< (nI b &&& 31)))).toNatClampNeg = vT N O K A b := by
  obtain ⟨S, hS, eS, s1, s2⟩ := tr_st hN ho hb hO hst
  unfold vT
  show f_X11_layWorth (nI N) (nI A) K O T (nI A &&& (AB N O b ||| ((1 : Int32) <<< (nI b &&& 31)))).toNatClampNeg = _
  rw [eS, nI_clamp (by omega : S < 2 ^ 31)]
  exact mv_worth hN hA hst S hS s2
