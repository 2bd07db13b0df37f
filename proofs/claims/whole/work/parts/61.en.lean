/-! both answer alike: games -/
theorem rem2 {k : Nat} (hk : k < 1000) : nI k - nI k / (2 : Int32) * (2 : Int32) = nI (k % 2) := by
  apply Int32.toInt_inj.mp
  have t2 : (2 : Int32).toInt = 2 := rfl
  have tk : (nI k).toInt = (k : Int) := tI (by omega)
  rw [i_rem (by omega) (by decide), tk, t2, tI (by omega)]
  omega
theorem play_L {N : Nat} (hN : N ≤ 8) {K O abv : Nat → Int32} (ho : hOn N O) (ha : ∀ b, b < N → abv b = AB N O b) (hk : ∀ b, b < N → isK (K b)) {st b1 b2 : Int32} : ∀ (m A j w : Nat) (gc seed : Int32), A < 256 → w ≤ 1 → stds N O (nI A) → cb (nI A) 8 < m → cb (nI A) 8 + j ≤ 8 → 0 ≤ seed.toInt → ∃ r s2 g2, f_X2_winnerOf_L20 m (nI N) seed gc abv K b1 b2 (nI w) (nI A) (f_X6_choices (nI N) abv K (nI w) (nI A)) (nI j) = (r, s2, g2) ∧ f_X11_play_L15 m (nI N) st gc seed.toInt64 K O b1 (nI A) (nI w) (f_X11_mayCuts (nI N) K O (nI w) (nI A)) = (r, g2, s2.toInt64) ∧ 0 ≤ s2.toInt := by
  intro m
  induction m with
  | zero => intro A j w gc seed h1 h2 h3 h4; omega
  | succ m ih =>
    intro A j w gc seed hA hw hs hm hj h0
    have hc := mcs_ch hN ho ha hk hw hs
    rw [f_X2_winnerOf_L20_s, f_X11_play_L15_s, ← hc]
    have hin : ∀ e, bt (f_X11_mayCuts (nI N) K O (nI w) (nI A)) e = true → e < N ∧ bt (nI A) e = true := fun e h => mcw hN h
    clear hc
    generalize f_X11_mayCuts (nI N) K O (nI w) (nI A) = x at hin ⊢
    by_cases c : x = 0
    · refine ⟨(1 : Int32) - nI w, seed, gc, ?_, ?_, h0⟩
      · by_cases q : (8 : Int32) ≤ nI j
        · rw [if_pos q]
        · rw [if_neg q, if_pos c]
      · rw [if_pos c]
    · have hhi : ∀ e, 8 ≤ e → bt x e = false := fun e he => by
        cases q : bt x e
        · rfl
        · have := (hin e q).1; omega
      have hp := cb_pos hhi c
      have hsz : (f_X11_size x).toInt = (cb x 8 : Int) := sz_toInt
      obtain ⟨r, s2, d1, d2, hs2, hr0, hr1⟩ := draw_eq (seed := seed) (p1 := f_X11_size x) h0 (by omega)
      obtain ⟨b, hb8, hbt, o1, o2⟩ := ofs_eq (x := x) (l := r) s2 (by omega)
      obtain ⟨hbN, hbA⟩ := hin b hbt
      have hlt : cb (nI (lv N O b A)) 8 < cb (nI A) 8 := pcn_lv (N := N) (on := O) hb8 hA hbA
      obtain ⟨l1, l2⟩ := LV_nI (N := N) (on := O) (b := b) hA
      have e1 : f_X2_drawFrom seed x = (nI b, s2) := by
        rw [f_X2_drawFrom_s, size_bc hhi, d1]; exact o2
      have e2 : f_X6_leftBy abv (nI b) (nI A) = nI (lv N O b A) := by rw [leftBy_LV hb8 (ha b hbN), l1]
      have e3 : f_X11_leaves (nI N) O (nI b) (nI A) = nI (lv N O b A) := by rw [leaves_LV, l1]
      have hst2 : stds N O (nI (lv N O b A)) := by rw [← l1]; exact LV_st hN ho hbN hs
      obtain ⟨r', s', g', i1, i2, i3⟩ := ih (lv N O b A) (j + 1) (1 - w) (gc + (1 : Int32)) s2 l2 (by omega) hst2 (by omega) (by omega) hs2
      refine ⟨r', s', g', ?_, ?_, i3⟩
      · rw [if_neg (show ¬ (8 : Int32) ≤ nI j from nI_ge (b := 8) (by omega) (by omega)), if_neg c, e1]
        show f_X2_winnerOf_L20 m (nI N) s2 (gc + (1 : Int32)) abv K b1 b2 ((1 : Int32) - nI w) (f_X6_leftBy abv (nI b) (nI A)) (f_X6_choices (nI N) abv K ((1 : Int32) - nI w) (f_X6_leftBy abv (nI b) (nI A))) (nI j + (1 : Int32)) = _
        rw [e2, one_sub hw, nI_1]; exact i1
      · rw [if_neg c, d2]
        show f_X11_play_L15 m (nI N) st (gc + (1 : Int32)) s2.toInt64 K O b1 (f_X11_leaves (nI N) O (f_X11_ofSet x r) (nI A)) ((1 : Int32) - nI w) (f_X11_mayCuts (nI N) K O ((1 : Int32) - nI w) (f_X11_leaves (nI N) O (f_X11_ofSet x r) (nI A))) = _
        rw [o1, e3, one_sub hw]; exact i2
theorem games_L {N : Nat} (hN : N ≤ 8) {K O abv : Nat → Int32} (ho : hOn N O) (ha : ∀ b, b < N → abv b = AB N O b) (hk : ∀ b, b < N → isK (K b)) {A : Nat} (hA : A < 256) (hs : stds N O (nI A)) {p1 x2 q2 q3 : Int32} (hp : p1.toInt ≤ 40) : ∀ (m k : Nat) (seed wh gc : Int32), 40 < k + m → k ≤ 40 → 0 ≤ seed.toInt → ∃ s2 w2 c2, f_X2_playAll_L18 m (nI N) seed wh gc abv K p1 x2 (nI A) (nI k) = (s2, w2, c2) ∧ f_X11_gamesNow_L17 m (nI N) (nI A) gc seed.toInt64 K O p1 q2 q3 wh (nI k) = ((if q3 = 0 then w2 else if q3 = (1 : Int32) then c2 else s2.toInt64.toInt32), c2, s2.toInt64) ∧ 0 ≤ s2.toInt := by
  intro m
  induction m with
  | zero => intro k seed wh gc h1 h2; omega
  | succ m ih =>
    intro k seed wh gc h1 h2 h0
    rw [f_X2_playAll_L18_s, f_X11_gamesNow_L17_s]
    by_cases c : p1 ≤ nI k
    · refine ⟨seed, wh, gc, by rw [if_pos c], ?_, h0⟩
      rw [if_pos c]
      by_cases d : q3 = 0
      · rw [if_pos d, if_pos d]
      · rw [if_neg d, if_neg d]
        by_cases d2 : q3 = (1 : Int32)
        · rw [if_pos d2, if_pos d2]
        · rw [if_neg d2, if_neg d2]
    · have hk40 : k < 40 := by
        rcases Nat.lt_or_ge k 40 with g | g
        · exact g
        · exfalso
          apply c
          have : (nI k).toInt = (k : Int) := tI (by omega)
          exact Int32.le_iff_toInt_le.mpr (by omega)
      have c8 := cb_le (nI A) 8
      obtain ⟨r, s2, g2, e1, e2, e3⟩ := play_L hN ho ha hk (st := nI A) (b1 := nI (k % 2)) (b2 := nI A) 9 A 0 (k % 2) gc seed hA (by omega) hs (by omega) (by omega) h0
      have f1 : f_X2_winnerOf (nI N) seed gc abv K (nI (k % 2)) (nI A) = (r, s2, g2) := e1
      have f2 : f_X11_play (nI N) (nI A) gc seed.toInt64 K O (nI (k % 2)) = (r, g2, s2.toInt64) := e2
      by_cases cr : r = 0
      · obtain ⟨s3, w3, c3, i1, i2, i3⟩ := ih (k + 1) s2 (wh + (1 : Int32)) g2 (by omega) (by omega) e3
        refine ⟨s3, w3, c3, ?_, ?_, i3⟩
        · rw [if_neg c, rem2 (by omega), f1]
          show (if r = 0 then f_X2_playAll_L18 m (nI N) s2 (wh + (1 : Int32)) g2 abv K p1 x2 (nI A) (nI k + (1 : Int32)) else f_X2_playAll_L18 m (nI N) s2 wh g2 abv K p1 x2 (nI A) (nI k + (1 : Int32))) = _
          rw [if_pos cr, nI_1]; exact i1
        · rw [if_neg c, rem2 (by omega), f2]
          show (if r = 0 then f_X11_gamesNow_L17 m (nI N) (nI A) g2 s2.toInt64 K O p1 q2 q3 (wh + (1 : Int32)) (nI k + (1 : Int32)) else f_X11_gamesNow_L17 m (nI N) (nI A) g2 s2.toInt64 K O p1 q2 q3 (wh + (0 : Int32)) (nI k + (1 : Int32))) = _
          rw [if_pos cr, nI_1]; exact i2
      · obtain ⟨s3, w3, c3, i1, i2, i3⟩ := ih (k + 1) s2 wh g2 (by omega) (by omega) e3
        refine ⟨s3, w3, c3, ?_, ?_, i3⟩
        · rw [if_neg c, rem2 (by omega), f1]
          show (if r = 0 then f_X2_playAll_L18 m (nI N) s2 (wh + (1 : Int32)) g2 abv K p1 x2 (nI A) (nI k + (1 : Int32)) else f_X2_playAll_L18 m (nI N) s2 wh g2 abv K p1 x2 (nI A) (nI k + (1 : Int32))) = _
          rw [if_neg cr, nI_1]; exact i1
        · rw [if_neg c, rem2 (by omega), f2]
          show (if r = 0 then f_X11_gamesNow_L17 m (nI N) (nI A) g2 s2.toInt64 K O p1 q2 q3 (wh + (1 : Int32)) (nI k + (1 : Int32)) else f_X11_gamesNow_L17 m (nI N) (nI A) g2 s2.toInt64 K O p1 q2 q3 (wh + (0 : Int32)) (nI k + (1 : Int32))) = _
          rw [if_neg cr, nI_1, Int32.add_zero]; exact i2
theorem E_games {t : Nat} {g_isCharted : Int32} {g_isKept : Int32} {g_hedgesRead : Int32} {g_evensDone : Int32} {g_plen : Int32} {g_number : Int32} {g_setCount : Int32} {g_standing : Int32} {g_turn : Int32} {g_cuts : Int32} {g_ssize : Int32} {g_kstanding : Int32} {g_kturn : Int32} {g_kcuts : Int32} {g_kssize : Int32} {g_seed : Int32} {g_whiteWon : Int32} {g_cutsDone : Int32} {g_lett : Nat → Int32} {g_onB : Nat → Int32} {g_abv : Nat → Int32} {g_sets : Nat → Int32} {g_kinds : Nat → Int32} {g_sbranches : Nat → Int32} {g_sbeginners : Nat → Int32} {g_swon : Nat → Int32} {g_kkinds : Nat → Int32} {g_ksbranches : Nat → Int32} {g_ksbeginners : Nat → Int32} {g_kswon : Nat → Int32} {g_lcuts : Nat → Int32} {g_valu : Nat → Int32} {g_won : Nat → Int64} {g_chance : Nat → Int64} {m_hedges : Int32} {m_branches : Int32} {m_stand : Int32} {m_turn : Int32} {m_cuts : Int32} {m_asks : Int32} {m_seen : Int32} {m_pageLength : Int32} {m_isWhole : Int32} {m_newBranches : Int32} {m_gameCuts : Int32} {m_isKept : Int32} {m_keptHedge : Int32} {m_keptStand : Int32} {m_keptTurn : Int32} {m_keptCuts : Int32} {m_keptSeen : Int32} {m_seedNow : Int64} {m_hsh : Int64} {m_kindOf : Nat → Int32} {m_onOf : Nat → Int32} {m_seenBranch : Nat → Int32} {m_seenBegins : Nat → Int32} {m_seenWins : Nat → Int32} {m_page : Nat → Int32} {m_winner : Nat → Int32} {m_lasting : Nat → Int32} {m_worthBy : Nat → Int32} {m_wonBy : Nat → Int32} {m_keptKind : Nat → Int32} {m_keptBranch : Nat → Int32} {m_keptBegins : Nat → Int32} {m_keptWins : Nat → Int32} {m_partsBy : Nat → Int64} (I : INV t g_isCharted g_isKept g_hedgesRead g_evensDone g_plen g_number g_setCount g_standing g_turn g_cuts g_ssize g_kstanding g_kturn g_kcuts g_kssize g_seed g_whiteWon g_cutsDone g_lett g_onB g_abv g_sets g_kinds g_sbranches g_sbeginners g_swon g_kkinds g_ksbranches g_ksbeginners g_kswon g_lcuts g_valu g_won g_chance m_hedges m_branches m_stand m_turn m_cuts m_asks m_seen m_pageLength m_isWhole m_newBranches m_gameCuts m_isKept m_keptHedge m_keptStand m_keptTurn m_keptCuts m_keptSeen m_seedNow m_hsh m_kindOf m_onOf m_seenBranch m_seenBegins m_seenWins m_page m_winner m_lasting m_worthBy m_wonBy m_keptKind m_keptBranch m_keptBegins m_keptWins m_partsBy) (p1 : Int32) (p2 : Int32) (p3 : Int32) : ∃ (r : Int32) (g_seed2 : Int32) (g_whiteWon2 : Int32) (g_cutsDone2 : Int32) (m_gameCuts2 : Int32) (m_seedNow2 : Int64), f_X10_games g_number g_standing g_seed g_whiteWon g_cutsDone g_abv g_kinds p1 p2 p3 = (r, g_seed2, g_whiteWon2, g_cutsDone2) ∧ f_X11_games m_branches m_stand m_gameCuts m_seedNow m_kindOf m_onOf p1 p2 p3 = (r, m_gameCuts2, m_seedNow2) ∧ INV (t + 1) g_isCharted g_isKept g_hedgesRead g_evensDone g_plen g_number g_setCount g_standing g_turn g_cuts g_ssize g_kstanding g_kturn g_kcuts g_kssize g_seed2 g_whiteWon2 g_cutsDone2 g_lett g_onB g_abv g_sets g_kinds g_sbranches g_sbeginners g_swon g_kkinds g_ksbranches g_ksbeginners g_kswon g_lcuts g_valu g_won g_chance m_hedges m_branches m_stand m_turn m_cuts m_asks m_seen m_pageLength m_isWhole m_newBranches m_gameCuts2 m_isKept m_keptHedge m_keptStand m_keptTurn m_keptCuts m_keptSeen m_seedNow2 m_hsh m_kindOf m_onOf m_seenBranch m_seenBegins m_seenWins m_page m_winner m_lasting m_worthBy m_wonBy m_keptKind m_keptBranch m_keptBegins m_keptWins m_partsBy := by
  obtain ⟨N, A, L, M, h, c, e, s, kh, kA, kc, ks, rfl, rfl, rfl, rfl, rfl, rfl, rfl, rfl, rfl, rfl, rfl, rfl, rfl, rfl, rfl, rfl, rfl, rfl, rfl, rfl, rfl, rfl, rfl, rfl, rfl, rfl, rfl, rfl, rfl, rfl, rfl, rfl, rfl, rfl, I0⟩ := I
  obtain ⟨I1, ⟨hL, hP⟩, hT, hh, hc, he, hsn, I2⟩ := id I0
  obtain ⟨hN, ho, hK, ha, hsO, hM, hse, hA, hst, hic⟩ := id I1
  have t0 : (0 : Int32).toInt = 0 := rfl
  have t2 : (2 : Int32).toInt = 2 := rfl
  have t3 : (3 : Int32).toInt = 3 := rfl
  have t40 : (40 : Int32).toInt = 40 := rfl
  suffices key : ∃ (r a b c d : Int32) (e : Int64), f_X10_games (nI N) (nI A) g_seed g_whiteWon g_cutsDone g_abv g_kinds p1 p2 p3 = (r, a, b, c) ∧ f_X11_games (nI N) (nI A) m_gameCuts m_seedNow g_kinds g_onB p1 p2 p3 = (r, d, e) by
    obtain ⟨r1, r2, r3, r4, r5, r6, hg, hm⟩ := key
    exact ⟨r1, r2, r3, r4, r5, r6, hg, hm, ⟨N, A, L, M, h, c, e, s, kh, kA, kc, ks, rfl, rfl, rfl, rfl, rfl, rfl, rfl, rfl, rfl, rfl, rfl, rfl, rfl, rfl, rfl, rfl, rfl, rfl, rfl, rfl, rfl, rfl, rfl, rfl, rfl, rfl, rfl, rfl, rfl, rfl, rfl, rfl, rfl, rfl,  CO_t (by omega) I0⟩⟩
  by_cases c1 : p1 < (1 : Int32)
  · exact ⟨(-102 : Int32), g_seed, g_whiteWon, g_cutsDone, m_gameCuts, m_seedNow, by rw [f_X10_games_s, if_pos c1], by rw [f_X11_games_s, f_X11_within_s, if_pos c1, if_pos rfl]⟩
  by_cases c2 : (40 : Int32) < p1
  · exact ⟨(-102 : Int32), g_seed, g_whiteWon, g_cutsDone, m_gameCuts, m_seedNow, by rw [f_X10_games_s, if_neg c1, if_pos c2], by rw [f_X11_games_s, f_X11_within_s, if_neg c1, if_pos c2, if_pos rfl]⟩
  have w1 : ¬ f_X11_within p1 (1 : Int32) (40 : Int32) = 0 := by
    rw [f_X11_within_s, if_neg c1, if_neg c2]; decide
  by_cases c3 : p2 < 0
  · exact ⟨(-102 : Int32), g_seed, g_whiteWon, g_cutsDone, m_gameCuts, m_seedNow, by rw [f_X10_games_s, if_neg c1, if_neg c2, if_pos c3], by rw [f_X11_games_s, if_neg w1, if_pos c3]⟩
  by_cases c4 : p3 < 0
  · exact ⟨(-102 : Int32), g_seed, g_whiteWon, g_cutsDone, m_gameCuts, m_seedNow, by rw [f_X10_games_s, if_neg c1, if_neg c2, if_neg c3, if_pos c4], by rw [f_X11_games_s, if_neg w1, if_neg c3, if_pos (show f_X11_within p3 (0 : Int32) (2 : Int32) = 0 by rw [f_X11_within_s, if_pos c4])]⟩
  by_cases c5 : p3 < (3 : Int32)
  · have w2 : ¬ f_X11_within p3 (0 : Int32) (2 : Int32) = 0 := by
      rw [f_X11_within_s, if_neg c4, if_neg (fun z => by have := i_lt z; have := i_lt c5; omega)]; decide
    by_cases c6 : N = 0
    · exact ⟨(-103 : Int32), g_seed, g_whiteWon, g_cutsDone, m_gameCuts, m_seedNow, by rw [f_X10_games_s, if_neg c1, if_neg c2, if_neg c3, if_neg c4, if_pos c5, if_neg (fun z => (nh_0 hN).mp z c6)], by rw [f_X11_games_s, if_neg w1, if_neg c3, if_neg w2, if_pos (by rw [c6]; rfl)]⟩
    · have hp : p1.toInt ≤ 40 := by have := i_nlt c2; omega
      have hp2 : 0 ≤ p2.toInt := by have := i_nlt c3; omega
      obtain ⟨s2, u2, k2, e1, e2, e3⟩ := games_L hN ho ha hK hA hst (p1 := p1) (x2 := p2) (q2 := p2) (q3 := p3) hp 41 0 p2 0 0 (by omega) (by omega) hp2
      have f1 : f_X2_playAll (nI N) g_seed g_whiteWon g_cutsDone g_abv g_kinds p1 p2 (nI A) = (s2, u2, k2) := e1
      have f2 : f_X11_gamesNow (nI N) (nI A) m_gameCuts m_seedNow g_kinds g_onB p1 p2 p3 = ((if p3 = 0 then u2 else if p3 = (1 : Int32) then k2 else s2.toInt64.toInt32), k2, s2.toInt64) := e2
      have e4 : s2.toInt64.toInt32 = s2 := by
        apply Int32.toInt_inj.mp
        have := i_rg s2
        have q : s2.toInt64.toInt = s2.toInt := Int32.toInt_toInt64 s2
        rw [i_of64 (by omega) (by omega), q]
      rw [e4] at f2
      refine ⟨(if p3 = 0 then u2 else if p3 = (1 : Int32) then k2 else s2), s2, u2, k2, k2, s2.toInt64, ?_, ?_⟩
      · rw [f_X10_games_s, if_neg c1, if_neg c2, if_neg c3, if_neg c4, if_pos c5, if_pos ((nh_0 hN).mpr c6), f1]
        show (if p3 = (0 : Int32) then (u2, s2, u2, k2) else if p3 = (1 : Int32) then (k2, s2, u2, k2) else (s2, s2, u2, k2)) = _
        by_cases d : p3 = 0
        · rw [if_pos d, if_pos d]
        · rw [if_neg d, if_neg d]
          by_cases d2 : p3 = (1 : Int32)
          · rw [if_pos d2, if_pos d2]
          · rw [if_neg d2, if_neg d2]
      · rw [f_X11_games_s, if_neg w1, if_neg c3, if_neg w2, if_neg (nI_ne0 (by omega) (by omega)), f2]
  · exact ⟨(-102 : Int32), g_seed, g_whiteWon, g_cutsDone, m_gameCuts, m_seedNow, by rw [f_X10_games_s, if_neg c1, if_neg c2, if_neg c3, if_neg c4, if_neg c5], by rw [f_X11_games_s, if_neg w1, if_neg c3, if_pos (show f_X11_within p3 (0 : Int32) (2 : Int32) = 0 by rw [f_X11_within_s, if_neg c4, if_pos (Int32.lt_iff_toInt_lt.mpr (by have := i_nlt c5; omega))])]⟩
