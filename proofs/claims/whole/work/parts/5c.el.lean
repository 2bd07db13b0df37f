/-! both answer alike: the digest -/
theorem dg_88 {N A M : Nat} {O K abv sets W Ls Wo : Nat → Int32} {Pb : Nat → Int64} (x1 : Int64) (hWo : ∀ b, b < N → O b = (-1 : Int32) → Wo (nI A &&& (f_X11_above (nI N) O (nI b) ||| ((1 : Int32) <<< (nI b &&& 31)))).toNatClampNeg = vT N O K A b) : ∀ (m k : Nat) (x : Int64) (ic : Int32) (lc va : Nat → Int32) (won chn : Nat → Int64), N < k + m → k ≤ N → CH1 N A M ic O K abv sets lc va won chn → ∃ r ic2 lc2 va2 won2 chn2, f_X10_digestOutlook_L88 m ic (nI N) (nI M) (nI A) O abv sets K lc va won chn x1 x (nI k) = (r, ic2, lc2, va2, won2, chn2) ∧ f_X11_mixHedge_L73 m (nI N) (nI A) x K O W Ls Wo Pb (nI k) = (r, W, Ls, Wo, Pb) ∧ CH1 N A M ic2 O K abv sets lc2 va2 won2 chn2 := by
  intro m
  induction m with
  | zero => intro k x ic lc va won chn h1 h2; omega
  | succ m ih =>
    intro k x ic lc va won chn h1 h2 I1
    obtain ⟨hN, ho, hK, ha, hsO, hM, hse, hA, hst, hic⟩ := id I1
    rw [f_X10_digestOutlook_L88_s, f_X11_mixHedge_L73_s, nI_1]
    by_cases hk : k = N
    · subst hk
      rw [if_pos (nI_le (Nat.le_refl _) (by omega)), if_pos (nI_le (Nat.le_refl _) (by omega))]
      exact ⟨x, ic, lc, va, won, chn, rfl, rfl, I1⟩
    · have hlt : k < N := by omega
      rw [if_neg (nI_ge hlt (by omega)), if_neg (nI_ge hlt (by omega)), nI_clamp (by omega : k < 2 ^ 31)]
      by_cases q : O k = (-1 : Int32)
      · obtain ⟨lc2, va2, won2, chn2, e1, J⟩ := gv_tree I1 hlt q
        rw [if_pos q, if_pos q, e1, hWo k hlt q]
        exact ih (k + 1) _ 1 lc2 va2 won2 chn2 (by omega) (by omega) J
      · rw [if_neg q, if_neg q]
        exact ih (k + 1) x ic lc va won chn (by omega) (by omega) I1
theorem dg_step {N A M : Nat} {O K abv sets W Ls Wo : Nat → Int32} {Pb : Nat → Int64} {ic : Int32} {lc va : Nat → Int32} {won chn : Nat → Int64} (I1 : CH1 N A M ic O K abv sets lc va won chn) (h1 : 1 ≤ N) {w : Nat} (hw : w ≤ 1) (x1 x : Int64) : ∃ x' ic2 lc2 va2 won2 chn2 W2 L2 P2, (∀ n, f_X10_digestOutlook_L5 (n + 1) ic (nI N) (nI M) (nI A) O abv sets K lc va won chn x1 x (nI w) = f_X10_digestOutlook_L5 n ic2 (nI N) (nI M) (nI A) O abv sets K lc2 va2 won2 chn2 x1 x' (nI (w + 1))) ∧ (∀ n, f_X11_mixHedge_L2 (n + 1) (nI N) (nI A) x K O W Ls Wo Pb (nI w) = f_X11_mixHedge_L2 n (nI N) (nI A) x' K O W2 L2 Wo P2 (nI (w + 1))) ∧ CH1 N A M ic2 O K abv sets lc2 va2 won2 chn2 := by
  obtain ⟨hN, ho, hK, ha, hsO, hM, hse, hA, hst, hic⟩ := id I1
  obtain ⟨lc2, va2, won2, chn2, e1, J1⟩ := gv_wins I1 h1 hw
  obtain ⟨lc3, va3, won3, chn3, e2, J2⟩ := gv_best J1 h1 hw
  obtain ⟨lc4, va4, won4, chn4, e3, J3⟩ := gv_lasts J2 h1 hw
  obtain ⟨lc5, va5, won5, chn5, e4, J4⟩ := gv_likely J3 h1 hw
  obtain ⟨T1, d1⟩ := mv_wins hN (O := O) (K := K) (T := W) hA hst hw
  obtain ⟨_, _, _, _, _, ok, _⟩ := c_ok I1 h1
  obtain ⟨W2, L2, d2⟩ := mv_best hN (W := T1) (L := Ls) ho ha hK hw hA hst ok
  obtain ⟨W3, L3, d3⟩ := mv_lasts hN (O := O) (K := K) (W := W2) (L := L2) hA hst hw
  obtain ⟨P2, d4⟩ := mv_likely hN (O := O) (K := K) (T := Pb) hA hst hw
  have n2 : ¬ (2 : Int32) ≤ nI w := nI_ge (b := 2) (by omega) (by omega)
  refine ⟨((31 : Int64) * ((31 : Int64) * ((31 : Int64) * ((31 : Int64) * x + (TW N O K (2 * A + w)).toInt64) + (vB N O K A w).toInt64) + (TL N O K (2 * A + w)).toInt64) + (vP N O K A w).toInt64), 1, lc5, va5, won5, chn5, W3, L3, P2, fun n => ?_, fun n => ?_, J4⟩
  · rw [f_X10_digestOutlook_L5_s, if_neg n2, e1]
    dsimp only
    rw [e2]
    dsimp only
    rw [e3]
    dsimp only
    rw [e4, nI_1]
  · rw [f_X11_mixHedge_L2_s, if_neg n2, d1]
    dsimp only
    rw [d2]
    dsimp only
    rw [d3]
    dsimp only
    rw [d4, nI_1]
    rfl
theorem dg_out {N A M : Nat} {O K abv sets W Ls Wo : Nat → Int32} {Pb : Nat → Int64} {ic : Int32} {lc va : Nat → Int32} {won chn : Nat → Int64} (I1 : CH1 N A M ic O K abv sets lc va won chn) (h1 : 1 ≤ N) (x : Int64) : ∃ r ic2 lc2 va2 won2 chn2 W2 L2 Wo2 P2, f_X10_digestOutlook ic (nI N) (nI M) (nI A) O abv sets K lc va won chn x = (r, ic2, lc2, va2, won2, chn2) ∧ f_X11_mixHedge (nI N) (nI A) x K O W Ls Wo Pb = (r, W2, L2, Wo2, P2) ∧ CH1 N A M ic2 O K abv sets lc2 va2 won2 chn2 := by
  obtain ⟨y1, ic1, lc1, va1, won1, chn1, W1, L1, P1, a1, b1, J1⟩ := dg_step I1 h1 (w := 0) (by omega) x x (W := W) (Ls := Ls) (Wo := Wo) (Pb := Pb)
  obtain ⟨y2, ic2, lc2, va2, won2, chn2, W2, L2, P2, a2, b2, J2⟩ := dg_step J1 h1 (w := 1) (by omega) x y1 (W := W1) (Ls := L1) (Wo := Wo) (Pb := P1)
  obtain ⟨lc3, va3, won3, chn3, e3, J3⟩ := gv_worth J2 h1
  obtain ⟨hN, ho, hK, ha, hsO, hM, hse, hA, hst, hic⟩ := id I1
  have tr : ∀ b, b < N → O b = (-1 : Int32) → f_X11_layWorth (nI N) (nI A) K O Wo (nI A &&& (f_X11_above (nI N) O (nI b) ||| ((1 : Int32) <<< (nI b &&& 31)))).toNatClampNeg = vT N O K A b := fun b hb hO => mv_tree hN ho hA hst hb hO
  obtain ⟨r, ic4, lc4, va4, won4, chn4, g1, g2, J4⟩ := dg_88 (W := W2) (Ls := L2) (Pb := P2) x tr 9 0 ((31 : Int64) * y2 + (TV N O K A).toInt64) 1 lc3 va3 won3 chn3 (by omega) (by omega) J3
  refine ⟨r, ic4, lc4, va4, won4, chn4, W2, L2, f_X11_layWorth (nI N) (nI A) K O Wo, P2, ?_, ?_, J4⟩
  · rw [f_X10_digestOutlook_s]
    refine Eq.trans (a1 2) (Eq.trans (a2 1) ?_)
    rw [f_X10_digestOutlook_L5_s, if_pos (show (2 : Int32) ≤ nI (1 + 1) by decide), e3]
    exact g1
  · rw [f_X11_mixHedge_s]
    refine Eq.trans (b1 2) (Eq.trans (b2 1) ?_)
    rw [f_X11_mixHedge_L2_s, if_pos (show (2 : Int32) ≤ nI (1 + 1) by decide), nI_clamp (by omega : A < 2 ^ 31), mv_worth hN hA hst A hA (sub_rf A)]
    exact g2
theorem dg_104 {N A M L s h c e : Nat} {tu : Int32} {O K abv sets sb sg sw P : Nat → Int32} {ic : Int32} {lc va : Nat → Int32} {won chn : Nat → Int64} {W Ls Wo wb : Nat → Int32} {Pb : Nat → Int64} (hN : N ≤ 8) (ho : hOn N O) (ha : ∀ b, b < N → abv b = AB N O b) (hK : ∀ b, b < N → isK (K b)) (hst : stds N O (nI A)) : ∀ (m k : Nat) (x : Int64), 11 < k + m → k ≤ 11 → ∃ r, f_X10_digest_L104 m ic (nI h) (nI e) (nI L) (nI N) (nI M) (nI A) tu (nI c) (nI s) P O abv sets K sb sg sw lc va won chn x (nI k) = (r, ic, lc, va, won, chn) ∧ f_X11_digest_L88 m (nI h) (nI N) (nI A) tu (nI c) (nI e) (nI s) (nI L) x K O sb sg sw P W Ls Wo wb Pb (nI k) = (r, r, K, W, Ls, Wo, wb, Pb) := by
  intro m
  induction m with
  | zero => intro k x h1 h2; omega
  | succ m ih =>
    intro k x h1 h2
    rw [f_X10_digest_L104_s, f_X11_digest_L88_s, nI_1]
    by_cases hk : k = 11
    · subst hk
      rw [if_pos (show (11 : Int32) ≤ nI 11 by decide), if_pos (show (11 : Int32) ≤ nI 11 by decide)]
      exact ⟨x, rfl, rfl⟩
    · rw [if_neg (show ¬ (11 : Int32) ≤ nI k from nI_ge (b := 11) (by omega) (by omega)), if_neg (show ¬ (11 : Int32) ≤ nI k from nI_ge (b := 11) (by omega) (by omega)), cnt_eq hN ho ha hK hst]
      exact ih (k + 1) _ (by omega) (by omega)
theorem dg_69 {N A M L s h c e : Nat} {tu : Int32} {O K abv sets sb sg sw P : Nat → Int32} {ic : Int32} {lc va : Nat → Int32} {won chn : Nat → Int64} {W Ls Wo wb : Nat → Int32} {Pb : Nat → Int64} (hL : L ≤ 26) (hN : N ≤ 8) (ho : hOn N O) (ha : ∀ b, b < N → abv b = AB N O b) (hK : ∀ b, b < N → isK (K b)) (hst : stds N O (nI A)) : ∀ (m k : Nat) (x : Int64), L < k + m → k ≤ L → ∃ r, f_X10_digest_L69 m ic (nI h) (nI e) (nI L) (nI N) (nI M) (nI A) tu (nI c) (nI s) P O abv sets K sb sg sw lc va won chn x (nI k) = (r, ic, lc, va, won, chn) ∧ f_X11_digest_L61 m (nI h) (nI N) (nI A) tu (nI c) (nI e) (nI s) (nI L) x K O sb sg sw P W Ls Wo wb Pb (nI k) = (r, r, K, W, Ls, Wo, wb, Pb) := by
  intro m
  induction m with
  | zero => intro k x h1 h2; omega
  | succ m ih =>
    intro k x h1 h2
    rw [f_X10_digest_L69_s, f_X11_digest_L61_s, nI_1]
    by_cases hk : k = L
    · subst hk
      rw [if_pos (show f_X5_size (nI k) ≤ nI k from nI_le (Nat.le_refl _) (by omega)), if_pos (nI_le (Nat.le_refl _) (by omega))]
      exact dg_104 hN ho ha hK hst 12 0 x (by omega) (by omega)
    · have hlt : k < L := by omega
      have e : f_X5_at (nI L) P (nI k) = P k := by
        rw [f_X5_at_s, if_neg (nI_pos (by omega)), if_neg (nI_ge hlt (by omega)), nI_clamp (by omega : k < 2 ^ 31)]
      rw [if_neg (show ¬ f_X5_size (nI L) ≤ nI k from nI_ge hlt (by omega)), if_neg (nI_ge hlt (by omega)), e, nI_clamp (by omega : k < 2 ^ 31)]
      exact ih (k + 1) _ (by omega) (by omega)
theorem dg_20 {N A M L s h c e : Nat} {tu : Int32} {O K abv sets sb sg sw P : Nat → Int32} {Ls Wo : Nat → Int32} {Pb : Nat → Int64} (hs : seenOK s sg sw) {b : Nat} (hb : b < N) {kg : Int32 → (Nat → Int32) → (Nat → Int32) → (Nat → Int64) → (Nat → Int64) → Int64 → Int32 → Int64 × Int32 × (Nat → Int32) × (Nat → Int32) × (Nat → Int64) × (Nat → Int64)} {km : Int64 → (Nat → Int32) → (Nat → Int32) → (Nat → Int32) → Int32 → Int64 × Int64 × (Nat → Int32) × (Nat → Int32) × (Nat → Int32) × (Nat → Int32) × (Nat → Int32) × (Nat → Int64)} : ∀ (m q : Nat) (x : Int64) (ic : Int32) (lc va : Nat → Int32) (won chn : Nat → Int64) (W wb : Nat → Int32), 8 < q + m → q ≤ 8 → CH1 N A M ic O K abv sets lc va won chn → ∃ x' ic2 lc2 va2 won2 chn2 W2 wb2 y y2, f_X10_digest_L20 kg m ic (nI h) (nI e) (nI L) (nI N) (nI M) (nI A) tu (nI c) (nI s) P O abv sets K sb sg sw lc va won chn x (nI b) (nI q) = kg ic2 lc2 va2 won2 chn2 x' y ∧ f_X11_digest_L19 km m (nI h) (nI N) (nI A) tu (nI c) (nI e) (nI s) (nI L) x K O sb sg sw P W Ls Wo wb Pb (nI b) (nI q) = km x' K W2 wb2 y2 ∧ CH1 N A M ic2 O K abv sets lc2 va2 won2 chn2 := by
  intro m
  induction m with
  | zero => intro q x ic lc va won chn W wb h1 h2; omega
  | succ m ih =>
    intro q x ic lc va won chn W wb h1 h2 I1
    rw [f_X10_digest_L20_s, f_X11_digest_L19_s, nI_1]
    by_cases hk : q = 8
    · subst hk
      rw [if_pos (show (8 : Int32) ≤ nI 8 by decide), if_pos (show (8 : Int32) ≤ nI 8 by decide)]
      exact ⟨x, ic, lc, va, won, chn, W, wb, _, _, rfl, rfl, I1⟩
    · rw [if_neg (show ¬ (8 : Int32) ≤ nI q from nI_ge (b := 8) (by omega) (by omega)), if_neg (show ¬ (8 : Int32) ≤ nI q from nI_ge (b := 8) (by omega) (by omega))]
      obtain ⟨r, ic2, lc2, va2, won2, chn2, T2, wb2, e1, e2, J⟩ := br_eq I1 hs (sb := sb) (T := W) (wb := wb) hb (by omega : q ≤ 7)
      rw [e1, e2]
      exact ih (q + 1) _ ic2 lc2 va2 won2 chn2 T2 wb2 (by omega) (by omega) J
theorem dg_6 {N A M L s h c e : Nat} {tu : Int32} {O K abv sets sb sg sw P : Nat → Int32} (hL : L ≤ 26) (hs : seenOK s sg sw) : ∀ (m b : Nat) (x : Int64) (ic : Int32) (lc va : Nat → Int32) (won chn : Nat → Int64) (W Ls Wo wb : Nat → Int32) (Pb : Nat → Int64), N < b + m → b ≤ N → CH1 N A M ic O K abv sets lc va won chn → ∃ r ic2 lc2 va2 won2 chn2 W2 Ls2 Wo2 wb2 Pb2, f_X10_digest_L6 m ic (nI h) (nI e) (nI L) (nI N) (nI M) (nI A) tu (nI c) (nI s) P O abv sets K sb sg sw lc va won chn x (nI b) = (r, ic2, lc2, va2, won2, chn2) ∧ f_X11_digest_L9 m (nI h) (nI N) (nI A) tu (nI c) (nI e) (nI s) (nI L) x K O sb sg sw P W Ls Wo wb Pb (nI b) = (r, r, K, W2, Ls2, Wo2, wb2, Pb2) ∧ CH1 N A M ic2 O K abv sets lc2 va2 won2 chn2 := by
  intro m
  induction m with
  | zero => intro b x ic lc va won chn W Ls Wo wb Pb h1 h2; omega
  | succ m ih =>
    intro b x ic lc va won chn W Ls Wo wb Pb h1 h2 I1
    obtain ⟨hN, ho, hK, ha, hsO, hM, hse, hA, hst, hic⟩ := id I1
    rw [f_X10_digest_L6_s, f_X11_digest_L9_s, nI_1]
    by_cases hk : b = N
    · subst hk
      rw [if_pos (nI_le (Nat.le_refl _) (by omega)), if_pos (nI_le (Nat.le_refl _) (by omega))]
      by_cases c0 : b = 0
      · subst c0
        rw [if_neg (fun z => (nh_0 hN).mp z rfl), if_pos (show nI 0 ≤ (0 : Int32) by decide)]
        obtain ⟨r, g1, g2⟩ := dg_69 (ic := ic) (lc := lc) (va := va) (won := won) (chn := chn) (W := W) (Ls := Ls) (Wo := Wo) (wb := wb) (Pb := Pb) (sb := sb) (sg := sg) (sw := sw) (sets := sets) (M := M) (s := s) (h := h) (c := c) (e := e) (tu := tu) (P := P) hL hN ho ha hK hst 27 0 x (by omega) (by omega)
        exact ⟨r, ic, lc, va, won, chn, W, Ls, Wo, wb, Pb, g1, g2, I1⟩
      · obtain ⟨x2, ic2, lc2, va2, won2, chn2, W2, L2, Wo2, P2, e1, e2, J⟩ := dg_out I1 (by omega) x (W := W) (Ls := Ls) (Wo := Wo) (Pb := Pb)
        have nn : ¬ nI b ≤ (0 : Int32) := fun z => by have := i_le z; rw [tI (by omega)] at this; have t0 : (0 : Int32).toInt = 0 := rfl; omega
        rw [if_pos ((nh_0 hN).mpr c0), if_neg nn, e1, e2]
        obtain ⟨r, g1, g2⟩ := dg_69 (ic := ic2) (lc := lc2) (va := va2) (won := won2) (chn := chn2) (W := W2) (Ls := L2) (Wo := Wo2) (wb := wb) (Pb := P2) (sb := sb) (sg := sg) (sw := sw) (sets := sets) (M := M) (s := s) (h := h) (c := c) (e := e) (tu := tu) (P := P) hL hN ho ha hK hst 27 0 x2 (by omega) (by omega)
        exact ⟨r, ic2, lc2, va2, won2, chn2, W2, L2, Wo2, wb, P2, g1, g2, J⟩
    · have hlt : b < N := by omega
      rw [if_neg (nI_ge hlt (by omega)), if_neg (nI_ge hlt (by omega))]
      obtain ⟨x2, ic2, lc2, va2, won2, chn2, W2, wb2, y, y2, e1, e2, J⟩ := dg_20 (L := L) (h := h) (c := c) (e := e) (tu := tu) (P := P) (sb := sb) (Ls := Ls) (Wo := Wo) (Pb := Pb) hs hlt (kg := fun (isCharted_3 : Int32) (lcuts_4 : Nat → Int32) (valu_5 : Nat → Int32) (won_6 : Nat → Int64) (chance_7 : Nat → Int64) (x1_8 : Int64) (x4_9 : Int32) => f_X10_digest_L6 m isCharted_3 (nI h) (nI e) (nI L) (nI N) (nI M) (nI A) tu (nI c) (nI s) P O abv sets K sb sg sw lcuts_4 valu_5 won_6 chance_7 x1_8 (nI (b + 1))) (km := fun (hsh_3 : Int64) (kindOf_4 : Nat → Int32) (winner_5 : Nat → Int32) (wonBy_6 : Nat → Int32) (x2_7 : Int32) => f_X11_digest_L9 m (nI h) (nI N) (nI A) tu (nI c) (nI e) (nI s) (nI L) hsh_3 kindOf_4 O sb sg sw P winner_5 Ls Wo wonBy_6 Pb (nI (b + 1))) 9 0 x ic lc va won chn W wb (by omega) (by omega) I1
      obtain ⟨r, ic3, lc3, va3, won3, chn3, W3, Ls3, Wo3, wb3, Pb3, g1, g2, J3⟩ := ih (b + 1) x2 ic2 lc2 va2 won2 chn2 W2 Ls Wo wb2 Pb (by omega) (by omega) J
      exact ⟨r, ic3, lc3, va3, won3, chn3, W3, Ls3, Wo3, wb3, Pb3, Eq.trans e1 g1, Eq.trans e2 g2, J3⟩
theorem E_digest {t : Nat} {g_isCharted : Int32} {g_isKept : Int32} {g_hedgesRead : Int32} {g_evensDone : Int32} {g_plen : Int32} {g_number : Int32} {g_setCount : Int32} {g_standing : Int32} {g_turn : Int32} {g_cuts : Int32} {g_ssize : Int32} {g_kstanding : Int32} {g_kturn : Int32} {g_kcuts : Int32} {g_kssize : Int32} {g_seed : Int32} {g_whiteWon : Int32} {g_cutsDone : Int32} {g_lett : Nat → Int32} {g_onB : Nat → Int32} {g_abv : Nat → Int32} {g_sets : Nat → Int32} {g_kinds : Nat → Int32} {g_sbranches : Nat → Int32} {g_sbeginners : Nat → Int32} {g_swon : Nat → Int32} {g_kkinds : Nat → Int32} {g_ksbranches : Nat → Int32} {g_ksbeginners : Nat → Int32} {g_kswon : Nat → Int32} {g_lcuts : Nat → Int32} {g_valu : Nat → Int32} {g_won : Nat → Int64} {g_chance : Nat → Int64} {m_hedges : Int32} {m_branches : Int32} {m_stand : Int32} {m_turn : Int32} {m_cuts : Int32} {m_asks : Int32} {m_seen : Int32} {m_pageLength : Int32} {m_isWhole : Int32} {m_newBranches : Int32} {m_gameCuts : Int32} {m_isKept : Int32} {m_keptHedge : Int32} {m_keptStand : Int32} {m_keptTurn : Int32} {m_keptCuts : Int32} {m_keptSeen : Int32} {m_seedNow : Int64} {m_hsh : Int64} {m_kindOf : Nat → Int32} {m_onOf : Nat → Int32} {m_seenBranch : Nat → Int32} {m_seenBegins : Nat → Int32} {m_seenWins : Nat → Int32} {m_page : Nat → Int32} {m_winner : Nat → Int32} {m_lasting : Nat → Int32} {m_worthBy : Nat → Int32} {m_wonBy : Nat → Int32} {m_keptKind : Nat → Int32} {m_keptBranch : Nat → Int32} {m_keptBegins : Nat → Int32} {m_keptWins : Nat → Int32} {m_partsBy : Nat → Int64} (I : INV t g_isCharted g_isKept g_hedgesRead g_evensDone g_plen g_number g_setCount g_standing g_turn g_cuts g_ssize g_kstanding g_kturn g_kcuts g_kssize g_seed g_whiteWon g_cutsDone g_lett g_onB g_abv g_sets g_kinds g_sbranches g_sbeginners g_swon g_kkinds g_ksbranches g_ksbeginners g_kswon g_lcuts g_valu g_won g_chance m_hedges m_branches m_stand m_turn m_cuts m_asks m_seen m_pageLength m_isWhole m_newBranches m_gameCuts m_isKept m_keptHedge m_keptStand m_keptTurn m_keptCuts m_keptSeen m_seedNow m_hsh m_kindOf m_onOf m_seenBranch m_seenBegins m_seenWins m_page m_winner m_lasting m_worthBy m_wonBy m_keptKind m_keptBranch m_keptBegins m_keptWins m_partsBy)  : ∃ (r : Int64) (g_isCharted2 : Int32) (g_lcuts2 : Nat → Int32) (g_valu2 : Nat → Int32) (g_won2 : Nat → Int64) (g_chance2 : Nat → Int64) (m_hsh2 : Int64) (m_kindOf2 : Nat → Int32) (m_winner2 : Nat → Int32) (m_lasting2 : Nat → Int32) (m_worthBy2 : Nat → Int32) (m_wonBy2 : Nat → Int32) (m_partsBy2 : Nat → Int64), f_X10_digest g_isCharted g_hedgesRead g_evensDone g_plen g_number g_setCount g_standing g_turn g_cuts g_ssize g_lett g_onB g_abv g_sets g_kinds g_sbranches g_sbeginners g_swon g_lcuts g_valu g_won g_chance = (r, g_isCharted2, g_lcuts2, g_valu2, g_won2, g_chance2) ∧ f_X11_digest m_hedges m_branches m_stand m_turn m_cuts m_asks m_seen m_pageLength m_hsh m_kindOf m_onOf m_seenBranch m_seenBegins m_seenWins m_page m_winner m_lasting m_worthBy m_wonBy m_partsBy = (r, m_hsh2, m_kindOf2, m_winner2, m_lasting2, m_worthBy2, m_wonBy2, m_partsBy2) ∧ INV (t + 1) g_isCharted2 g_isKept g_hedgesRead g_evensDone g_plen g_number g_setCount g_standing g_turn g_cuts g_ssize g_kstanding g_kturn g_kcuts g_kssize g_seed g_whiteWon g_cutsDone g_lett g_onB g_abv g_sets g_kinds g_sbranches g_sbeginners g_swon g_kkinds g_ksbranches g_ksbeginners g_kswon g_lcuts2 g_valu2 g_won2 g_chance2 m_hedges m_branches m_stand m_turn m_cuts m_asks m_seen m_pageLength m_isWhole m_newBranches m_gameCuts m_isKept m_keptHedge m_keptStand m_keptTurn m_keptCuts m_keptSeen m_seedNow m_hsh2 m_kindOf2 m_onOf m_seenBranch m_seenBegins m_seenWins m_page m_winner2 m_lasting2 m_worthBy2 m_wonBy2 m_keptKind m_keptBranch m_keptBegins m_keptWins m_partsBy2 := by
  obtain ⟨N, A, L, M, h, c, e, s, kh, kA, kc, ks, rfl, rfl, rfl, rfl, rfl, rfl, rfl, rfl, rfl, rfl, rfl, rfl, rfl, rfl, rfl, rfl, rfl, rfl, rfl, rfl, rfl, rfl, rfl, rfl, rfl, rfl, rfl, rfl, rfl, rfl, rfl, rfl, rfl, rfl, I0⟩ := I
  obtain ⟨I1, ⟨hL, hP⟩, hT, hh, hc, he, hsn, I2⟩ := id I0
  obtain ⟨a1, a2, a3, a4, a5, a6, a7, a8⟩ := id I0
  obtain ⟨r, ic2, lc2, va2, won2, chn2, W2, Ls2, Wo2, wb2, Pb2, g1, g2, J⟩ := dg_6 (L := L) (h := h) (c := c) (e := e) (tu := g_turn) (P := g_lett) (sb := g_sbranches) hL hsn 9 0 1283 g_isCharted g_lcuts g_valu g_won g_chance m_winner m_lasting m_worthBy m_wonBy m_partsBy (by have := I1.1; omega) (by omega) I1
  exact ⟨_, _, _, _, _, _, _, _, _, _, _, _, _, g1, g2, ⟨N, A, L, M, h, c, e, s, kh, kA, kc, ks, rfl, rfl, rfl, rfl, rfl, rfl, rfl, rfl, rfl, rfl, rfl, rfl, rfl, rfl, rfl, rfl, rfl, rfl, rfl, rfl, rfl, rfl, rfl, rfl, rfl, rfl, rfl, rfl, rfl, rfl, rfl, rfl, rfl, rfl,  ⟨J, a2, a3, by omega, a5, a6, a7, a8⟩⟩⟩
