/-! both answer alike: which branch to make otherwise -/
theorem s6_5b : ∀ b, b < 8 → ((((5 : Int32) * nI b).toInt64 &&& 63).toBitVec.smod 64).toNat = 5 * b := by decide +kernel
theorem b31 : ∀ i, i < 32 → bt (31 : Int32) i = decide (i < 5) := by decide +kernel
theorem b_toI (x : Int64) {i : Nat} (h : i < 32) : bt x.toInt32 i = lb x i := by
  unfold bt lb
  rw [Int64.toBitVec_toInt32, BitVec.getLsbD_signExtend]
  have h2 : i < 64 := by omega
  simp [h, h2]
theorem l_sshr {b : Nat} (hb : b < 8) (x : Int64) {i : Nat} (h : 5 * b + i < 64) : lb (x >>> (((5 : Int32) * nI b).toInt64 &&& 63)) i = lb x (5 * b + i) := by
  unfold lb
  rw [Int64.toBitVec_shiftRight]
  show (x.toBitVec.sshiftRight ((((5 : Int32) * nI b).toInt64 &&& 63).toBitVec.smod 64).toNat).getLsbD i = _
  rw [s6_5b b hb, BitVec.getLsbD_sshiftRight]
  have h2 : i < 64 := by omega
  simp [h, h2]
theorem wk_bt {won : Nat → Int64} {w b A kd : Nat} (hw : w ≤ 1) (hA : A < 256) (hb : b < 8) (hk : kd < 5) : bt (f_X4_winningKinds won (nI w) (nI b) (nI A)) kd = lb (won (w * 256 + A)) (5 * b + kd) := by
  rw [f_X4_winningKinds_s, place_ix hw hA, b_and, b31 kd (by omega), b_toI _ (by omega), l_sshr hb _ (by omega)]
  simp [hk]
theorem wk_hi {won : Nat → Int64} {w b A : Int32} {e : Nat} (h : 5 ≤ e) : bt (f_X4_winningKinds won w b A) e = false := by
  rcases Nat.lt_or_ge e 32 with g | g
  · rw [f_X4_winningKinds_s, b_and, b31 e g]
    have : ¬ e < 5 := by omega
    simp [this]
  · exact b_big g
theorem Ki_upd {K : Nat → Int32} {b kd : Nat} (hb : b < 8) (hk : kd < 5) : Ki K (5 * b + kd) = upd K b (nI kd) := by
  funext c
  unfold Ki
  by_cases q : c = b
  · subst q
    rw [pk_us, if_pos ⟨by omega, by omega⟩]
    have : (5 * c + kd) % 5 = kd := by omega
    rw [this]
  · rw [pk_un q, if_neg (by omega)]
theorem upd_id {K : Nat → Int32} {b : Nat} : upd K b (K b) = K := by
  funext c
  by_cases q : c = b
  · subst q; rw [pk_us]
  · rw [pk_un q]
theorem upd_upd {K : Nat → Int32} {b : Nat} {u v : Int32} : upd (upd K b u) b v = upd K b v := by
  funext c
  by_cases q : c = b
  · subst q; rw [pk_us, pk_us]
  · rw [pk_un q, pk_un q, pk_un q]
def EV (N : Nat) (O K : Nat → Int32) (A : Nat) : Prop := ¬ TW N O K (2 * A + 0) = nI 0 ∧ ¬ TW N O K (2 * A + 1) = nI 1
theorem isEv {N : Nat} (hN : N ≤ 8) {O K T : Nat → Int32} {A : Nat} (hA : A < 256) (hst : stds N O (nI A)) : ∃ r T2, f_X11_isEven (nI N) (nI A) K O T = (r, T2) ∧ (r = 0 ↔ ¬ EV N O K A) := by
  have e0 : f_X11_layWinners (nI N) (nI A) K O T (2 * A) = TW N O K (2 * A + 0) := rW hN hA hst A hA (sub_rf A) 0 (by omega)
  have e1 := rW hN hA hst (K := K) (T := T) A hA (sub_rf A) 1 (by omega)
  rw [f_X11_isEven_s, ix_2 hA, ix_21 hA, e0, e1]
  unfold EV
  rcases TW_01 hN (on := O) (K := K) (w := 0) hA (by omega) (st_FU hN hst) with q0 | q0 <;> rcases TW_01 hN (on := O) (K := K) (w := 1) hA (by omega) (st_FU hN hst) with q1 | q1 <;> rw [q0, q1]
  · exact ⟨_, _, rfl, by decide⟩
  · exact ⟨_, _, rfl, by decide⟩
  · exact ⟨_, _, rfl, by decide⟩
  · exact ⟨_, _, rfl, by decide⟩
theorem un_ev {N : Nat} {O K : Nat → Int32} {won : Nat → Int64} {A : Nat} (hA : A < 256) (o0 : oW N O K won 0 A) (o1 : oW N O K won 1 A) {b kd : Nat} (hb : b < 8) (hk : kd < 5) : ((((f_X4_winningKinds won (nI 0) (nI b) (nI A)) ||| (f_X4_winningKinds won (nI 1) (nI b) (nI A))) >>> (nI kd &&& 31)) &&& (1 : Int32)) = 0 ↔ EV N O (upd K b (nI kd)) A := by
  rw [bit_ne _ (by omega), b_or, wk_bt (by omega) hA hb hk, wk_bt (by omega) hA hb hk]
  have k0 := o0 (5 * b + kd) (by omega)
  have k1 := o1 (5 * b + kd) (by omega)
  rw [Ki_upd hb hk] at k0 k1
  unfold EV
  rw [← k0, ← k1]
  cases lb (won (0 * 256 + A)) (5 * b + kd) <;> cases lb (won (1 * 256 + A)) (5 * b + kd) <;> simp
theorem ne_m1 {b kd : Nat} (hb : b < 8) (hk : kd < 5) : ¬ (10 : Int32) * nI b + nI kd = (-1 : Int32) := by
  have : ∀ b, b < 8 → ∀ kd, kd < 5 → ¬ (10 : Int32) * nI b + nI kd = (-1 : Int32) := by decide +kernel
  exact this b hb kd hk
theorem ev_in {N : Nat} (hN : N ≤ 8) {O K : Nat → Int32} {A : Nat} (hA : A < 256) (hst : stds N O (nI A)) {b : Nat} (hb : b < N) {un : Int32} (hev : ∀ kd, kd < 5 → (((un >>> (nI kd &&& 31)) &&& (1 : Int32)) = 0 ↔ EV N O (upd K b (nI kd)) A)) (hne : ¬ EV N O K A) {kont : (Nat → Int32) → (Nat → Int32) → Int32 → Int32 → Int32 × (Nat → Int32) × (Nat → Int32)} {n s x1 : Int32} {won : Nat → Int64} :
    ∀ (m kd : Nat) (cur T : Nat → Int32), 5 < kd + m → kd ≤ 5 → (∀ v, upd cur b v = upd K b v) → ∃ cur2 T2 x4, (∀ v, upd cur2 b v = upd K b v) ∧ f_X11_evenNow_L32 kont m (nI N) (nI A) cur O T (-1 : Int32) (nI b) (K b) (nI kd) = kont cur2 T2 (f_X10_evenBy_L73 (fun _ => (-1 : Int32)) m n s won x1 (nI b) un (nI kd)) x4 := by
  intro m
  induction m with
  | zero => intro kd cur T h1 h2; omega
  | succ m ih =>
    intro kd cur T h1 h2 hc
    rw [f_X11_evenNow_L32_s, f_X10_evenBy_L73_s, nI_1]
    by_cases hk : kd = 5
    · subst hk
      rw [if_pos (show (4 : Int32) < nI 5 by decide), if_pos (show (5 : Int32) ≤ nI 5 by decide)]
      exact ⟨cur, T, nI 5, hc, rfl⟩
    · have hk5 : kd < 5 := by omega
      rw [if_neg (show ¬ (4 : Int32) < nI kd from nI_nlt (a := 4) (by omega) (by omega)), if_neg (show ¬ (5 : Int32) ≤ nI kd from nI_ge (b := 5) (by omega) (by omega)), if_pos rfl, nI_clamp (by omega : b < 2 ^ 31), hc (nI kd)]
      have hc2 : ∀ v, upd (upd K b (nI kd)) b v = upd K b v := fun v => upd_upd
      by_cases q : nI kd = K b
      · have nev : ¬ EV N O (upd K b (nI kd)) A := by rw [q, upd_id]; exact hne
        rw [if_pos q, if_neg (fun z => nev ((hev kd hk5).mp z))]
        exact ih (kd + 1) _ T (by omega) (by omega) hc2
      · rw [if_neg q]
        obtain ⟨r, T2, e, hr⟩ := isEv hN (K := upd K b (nI kd)) (T := T) hA hst
        rw [e]
        by_cases c : EV N O (upd K b (nI kd)) A
        · have r0 : ¬ r = 0 := fun z => hr.mp z c
          rw [if_pos ((hev kd hk5).mpr c)]
          obtain ⟨m2, rfl⟩ : ∃ m2, m = m2 + 1 := ⟨m - 1, by omega⟩
          show ∃ cur2 T3 x4, (∀ v, upd cur2 b v = upd K b v) ∧ (if r = 0 then _ else _) = _
          rw [if_neg r0, f_X11_evenNow_L32_s]
          by_cases z : (4 : Int32) < nI (kd + 1)
          · rw [if_pos z]
            exact ⟨_, _, _, hc2, rfl⟩
          · rw [if_neg z, if_neg (ne_m1 (by omega) hk5)]
            exact ⟨_, _, _, hc2, rfl⟩
        · rw [if_neg (fun z => c ((hev kd hk5).mp z))]
          show ∃ cur2 T3 x4, (∀ v, upd cur2 b v = upd K b v) ∧ (if r = 0 then _ else _) = _
          rw [if_pos (hr.mpr c)]
          exact ih (kd + 1) _ T2 (by omega) (by omega) hc2
theorem ev_c {n s x1 un c : Int32} {won : Nat → Int64} {b : Nat} (hb : b < 8) : ∀ (m kd : Nat), 5 < kd + m → kd ≤ 5 → f_X10_evenBy_L73 (fun _ => c) m n s won x1 (nI b) un (nI kd) = if f_X10_evenBy_L73 (fun _ => (-1 : Int32)) m n s won x1 (nI b) un (nI kd) = (-1 : Int32) then c else f_X10_evenBy_L73 (fun _ => (-1 : Int32)) m n s won x1 (nI b) un (nI kd) := by
  intro m
  induction m with
  | zero => intro kd h1 h2; omega
  | succ m ih =>
    intro kd h1 h2
    rw [f_X10_evenBy_L73_s, f_X10_evenBy_L73_s, nI_1]
    by_cases hk : kd = 5
    · subst hk
      rw [if_pos (show (5 : Int32) ≤ nI 5 by decide), if_pos (show (5 : Int32) ≤ nI 5 by decide), if_pos rfl]
    · rw [if_neg (show ¬ (5 : Int32) ≤ nI kd from nI_ge (b := 5) (by omega) (by omega)), if_neg (show ¬ (5 : Int32) ≤ nI kd from nI_ge (b := 5) (by omega) (by omega))]
      by_cases z : ((un >>> (nI kd &&& 31)) &&& (1 : Int32)) = 0
      · rw [if_pos z, if_pos z, if_neg (ne_m1 hb (by omega))]
      · rw [if_neg z, if_neg z]
        exact ih (kd + 1) (by omega) (by omega)
theorem ev_L {N : Nat} (hN : N ≤ 8) {O K : Nat → Int32} {A : Nat} (hA : A < 256) (hst : stds N O (nI A)) {won : Nat → Int64} (o0 : oW N O K won 0 A) (o1 : oW N O K won 1 A) (hne : ¬ EV N O K A) : ∀ (m b : Nat) (T : Nat → Int32), N < b + m → b ≤ N → ∃ T2, f_X11_evenNow_L14 m (nI N) (nI A) K O T (-1 : Int32) (nI b) = (f_X10_evenBy_L37 m (nI N) (nI A) won (nI A) (nI b), K, T2) := by
  intro m
  induction m with
  | zero => intro b T h1 h2; omega
  | succ m ih =>
    intro b T h1 h2
    rw [f_X11_evenNow_L14_s, f_X10_evenBy_L37_s, nI_1]
    by_cases hk : b = N
    · subst hk
      rw [if_pos (nI_le (Nat.le_refl _) (by omega)), if_pos (nI_le (Nat.le_refl _) (by omega))]
      exact ⟨T, rfl⟩
    · have hlt : b < N := by omega
      rw [if_neg (nI_ge hlt (by omega)), if_neg (nI_ge hlt (by omega)), nI_clamp (by omega : b < 2 ^ 31)]
      have hev : ∀ kd, kd < 5 → (((((f_X4_winningKinds won (0 : Int32) (nI b) (nI A)) ||| (f_X4_winningKinds won (1 : Int32) (nI b) (nI A))) >>> (nI kd &&& 31)) &&& (1 : Int32)) = 0 ↔ EV N O (upd K b (nI kd)) A) := fun kd hk => un_ev hA o0 o1 (by omega) hk
      obtain ⟨cur, T2, x4, hc, e⟩ := ev_in hN hA hst hlt hev hne (kont := fun (kindOf_3 : Nat → Int32) (winner_4 : Nat → Int32) (x1_5 : Int32) (x4_6 : Int32) => if x1_5 = (-1 : Int32) then f_X11_evenNow_L14 m (nI N) (nI A) (upd kindOf_3 b (K b)) O winner_4 x1_5 (nI (b + 1)) else (x1_5, (upd kindOf_3 b (K b)), winner_4)) (n := nI N) (s := nI A) (x1 := nI A) (won := won) 6 0 K T (by omega) (by omega) (fun v => rfl)
      have e2 := ev_c (n := nI N) (s := nI A) (x1 := nI A) (un := (f_X4_winningKinds won (0 : Int32) (nI b) (nI A)) ||| (f_X4_winningKinds won (1 : Int32) (nI b) (nI A))) (c := f_X10_evenBy_L37 m (nI N) (nI A) won (nI A) (nI (b + 1))) (won := won) (b := b) (by omega) 6 0 (by omega) (by omega)
      generalize f_X10_evenBy_L73 (fun _ => (-1 : Int32)) 6 (nI N) (nI A) won (nI A) (nI b) ((f_X4_winningKinds won (0 : Int32) (nI b) (nI A)) ||| (f_X4_winningKinds won (1 : Int32) (nI b) (nI A))) (nI 0) = v at e e2
      have key : ∃ T3, (if v = (-1 : Int32) then f_X11_evenNow_L14 m (nI N) (nI A) (upd cur b (K b)) O T2 v (nI (b + 1)) else (v, (upd cur b (K b)), T2)) = ((if v = (-1 : Int32) then f_X10_evenBy_L37 m (nI N) (nI A) won (nI A) (nI (b + 1)) else v), K, T3) := by
        rw [hc, upd_id]
        by_cases z : v = (-1 : Int32)
        · rw [if_pos z, if_pos z, z]
          exact ih (b + 1) T2 (by omega) (by omega)
        · rw [if_neg z, if_neg z]
          exact ⟨T2, rfl⟩
      obtain ⟨T3, h⟩ := key
      exact ⟨T3, (Eq.trans e h).trans (congrArg (fun u => (u, K, T3)) e2.symm)⟩
theorem ev_eq {N : Nat} (hN : N ≤ 8) {O K T : Nat → Int32} {A : Nat} (hA : A < 256) (hst : stds N O (nI A)) {won : Nat → Int64} (o0 : oW N O K won 0 A) (o1 : oW N O K won 1 A) : ∃ T2, f_X11_evenNow (nI N) (nI A) K O T = (f_X10_evenBy (nI N) (nI A) won, K, T2) := by
  obtain ⟨r, T2, e, hr⟩ := isEv hN (K := K) (T := T) hA hst
  rw [f_X11_evenNow_s, e, f_X10_evenBy_s]
  show ∃ T3, (if r = 0 then f_X11_evenNow_L14 9 (nI N) (nI A) K O T2 (-1 : Int32) (0 : Int32) else ((-2 : Int32), K, T2)) = _
  have w0 : f_X4_isWonBy won (0 : Int32) (nI A) = 0 ↔ ¬ TW N O K (2 * A + 0) = nI 0 := wonBy_TW (w := 0) (by omega) hA o0
  have w1 : f_X4_isWonBy won (1 : Int32) (nI A) = 0 ↔ ¬ TW N O K (2 * A + 1) = nI 1 := wonBy_TW (w := 1) (by omega) hA o1
  by_cases c : EV N O K A
  · rw [if_neg (fun z => hr.mp z c), if_pos (w0.mpr c.1), if_pos (w1.mpr c.2)]
    exact ⟨T2, rfl⟩
  · rw [if_pos (hr.mpr c)]
    obtain ⟨T3, h⟩ := ev_L hN hA hst o0 o1 c 9 0 T2 (by omega) (by omega)
    refine ⟨T3, Eq.trans h ?_⟩
    by_cases z : f_X4_isWonBy won (0 : Int32) (nI A) = 0
    · have z2 : ¬ f_X4_isWonBy won (1 : Int32) (nI A) = 0 := fun y => c ⟨w0.mp z, w1.mp y⟩
      rw [if_pos z, if_neg z2]
      rfl
    · rw [if_neg z]
      rfl
theorem E_even {t : Nat} {g_isCharted : Int32} {g_isKept : Int32} {g_hedgesRead : Int32} {g_evensDone : Int32} {g_plen : Int32} {g_number : Int32} {g_setCount : Int32} {g_standing : Int32} {g_turn : Int32} {g_cuts : Int32} {g_ssize : Int32} {g_kstanding : Int32} {g_kturn : Int32} {g_kcuts : Int32} {g_kssize : Int32} {g_seed : Int32} {g_whiteWon : Int32} {g_cutsDone : Int32} {g_lett : Nat → Int32} {g_onB : Nat → Int32} {g_abv : Nat → Int32} {g_sets : Nat → Int32} {g_kinds : Nat → Int32} {g_sbranches : Nat → Int32} {g_sbeginners : Nat → Int32} {g_swon : Nat → Int32} {g_kkinds : Nat → Int32} {g_ksbranches : Nat → Int32} {g_ksbeginners : Nat → Int32} {g_kswon : Nat → Int32} {g_lcuts : Nat → Int32} {g_valu : Nat → Int32} {g_won : Nat → Int64} {g_chance : Nat → Int64} {m_hedges : Int32} {m_branches : Int32} {m_stand : Int32} {m_turn : Int32} {m_cuts : Int32} {m_asks : Int32} {m_seen : Int32} {m_pageLength : Int32} {m_isWhole : Int32} {m_newBranches : Int32} {m_gameCuts : Int32} {m_isKept : Int32} {m_keptHedge : Int32} {m_keptStand : Int32} {m_keptTurn : Int32} {m_keptCuts : Int32} {m_keptSeen : Int32} {m_seedNow : Int64} {m_hsh : Int64} {m_kindOf : Nat → Int32} {m_onOf : Nat → Int32} {m_seenBranch : Nat → Int32} {m_seenBegins : Nat → Int32} {m_seenWins : Nat → Int32} {m_page : Nat → Int32} {m_winner : Nat → Int32} {m_lasting : Nat → Int32} {m_worthBy : Nat → Int32} {m_wonBy : Nat → Int32} {m_keptKind : Nat → Int32} {m_keptBranch : Nat → Int32} {m_keptBegins : Nat → Int32} {m_keptWins : Nat → Int32} {m_partsBy : Nat → Int64} (I : INV t g_isCharted g_isKept g_hedgesRead g_evensDone g_plen g_number g_setCount g_standing g_turn g_cuts g_ssize g_kstanding g_kturn g_kcuts g_kssize g_seed g_whiteWon g_cutsDone g_lett g_onB g_abv g_sets g_kinds g_sbranches g_sbeginners g_swon g_kkinds g_ksbranches g_ksbeginners g_kswon g_lcuts g_valu g_won g_chance m_hedges m_branches m_stand m_turn m_cuts m_asks m_seen m_pageLength m_isWhole m_newBranches m_gameCuts m_isKept m_keptHedge m_keptStand m_keptTurn m_keptCuts m_keptSeen m_seedNow m_hsh m_kindOf m_onOf m_seenBranch m_seenBegins m_seenWins m_page m_winner m_lasting m_worthBy m_wonBy m_keptKind m_keptBranch m_keptBegins m_keptWins m_partsBy)  : ∃ (r : Int32) (g_isCharted2 : Int32) (g_evensDone2 : Int32) (g_lcuts2 : Nat → Int32) (g_valu2 : Nat → Int32) (g_won2 : Nat → Int64) (g_chance2 : Nat → Int64) (m_asks2 : Int32) (m_kindOf2 : Nat → Int32) (m_winner2 : Nat → Int32), f_X10_even g_isCharted g_evensDone g_number g_setCount g_standing g_abv g_sets g_kinds g_lcuts g_valu g_won g_chance = (r, g_isCharted2, g_evensDone2, g_lcuts2, g_valu2, g_won2, g_chance2) ∧ f_X11_even m_branches m_stand m_asks m_kindOf m_onOf m_winner = (r, m_asks2, m_kindOf2, m_winner2) ∧ INV (t + 1) g_isCharted2 g_isKept g_hedgesRead g_evensDone2 g_plen g_number g_setCount g_standing g_turn g_cuts g_ssize g_kstanding g_kturn g_kcuts g_kssize g_seed g_whiteWon g_cutsDone g_lett g_onB g_abv g_sets g_kinds g_sbranches g_sbeginners g_swon g_kkinds g_ksbranches g_ksbeginners g_kswon g_lcuts2 g_valu2 g_won2 g_chance2 m_hedges m_branches m_stand m_turn m_cuts m_asks2 m_seen m_pageLength m_isWhole m_newBranches m_gameCuts m_isKept m_keptHedge m_keptStand m_keptTurn m_keptCuts m_keptSeen m_seedNow m_hsh m_kindOf2 m_onOf m_seenBranch m_seenBegins m_seenWins m_page m_winner2 m_lasting m_worthBy m_wonBy m_keptKind m_keptBranch m_keptBegins m_keptWins m_partsBy := by
  obtain ⟨N, A, L, M, h, c, e, s, kh, kA, kc, ks, rfl, rfl, rfl, rfl, rfl, rfl, rfl, rfl, rfl, rfl, rfl, rfl, rfl, rfl, rfl, rfl, rfl, rfl, rfl, rfl, rfl, rfl, rfl, rfl, rfl, rfl, rfl, rfl, rfl, rfl, rfl, rfl, rfl, rfl, I0⟩ := I
  obtain ⟨I1, ⟨hL, hP⟩, hT, hh, hc, he, hsn, I2⟩ := id I0
  obtain ⟨hN, ho, hK, ha, hsO, hM, hse, hA, hst, hic⟩ := id I1
  obtain ⟨a1, a2, a3, a4, a5, a6, a7, a8⟩ := id I0
  by_cases c0 : N = 0
  · subst c0
    have hg : f_X10_even g_isCharted (nI e) (nI 0) (nI M) (nI A) g_abv g_sets g_kinds g_lcuts g_valu g_won g_chance = ((-103 : Int32), g_isCharted, nI e, g_lcuts, g_valu, g_won, g_chance) := by
      rw [f_X10_even_s, if_neg (fun z => (nh_0 hN).mp z rfl)]
    have hm : f_X11_even (nI 0) (nI A) (nI e) g_kinds g_onB m_winner = ((-103 : Int32), nI e, g_kinds, m_winner) := by
      rw [f_X11_even_s, if_pos (show nI 0 = (0 : Int32) from rfl)]
    exact ⟨_, _, _, _, _, _, _, _, _, _, hg, hm, ⟨0, A, L, M, h, c, e, s, kh, kA, kc, ks, rfl, rfl, rfl, rfl, rfl, rfl, rfl, rfl, rfl, rfl, rfl, rfl, rfl, rfl, rfl, rfl, rfl, rfl, rfl, rfl, rfl, rfl, rfl, rfl, rfl, rfl, rfl, rfl, rfl, rfl, rfl, rfl, rfl, rfl,  CO_t (by omega) I0⟩⟩
  · have n0 : ¬ nI N = 0 := nI_ne0 (by omega) (by omega)
    by_cases c1 : e = 30
    · subst c1
      have hg : f_X10_even g_isCharted (nI 30) (nI N) (nI M) (nI A) g_abv g_sets g_kinds g_lcuts g_valu g_won g_chance = ((-103 : Int32), g_isCharted, nI 30, g_lcuts, g_valu, g_won, g_chance) := by
        rw [f_X10_even_s, if_pos ((nh_0 hN).mpr c0), if_neg (by decide)]
      have hm : f_X11_even (nI N) (nI A) (nI 30) g_kinds g_onB m_winner = ((-103 : Int32), nI 30, g_kinds, m_winner) := by
        rw [f_X11_even_s, if_neg n0, if_pos (show nI 30 = (30 : Int32) from rfl)]
      exact ⟨_, _, _, _, _, _, _, _, _, _, hg, hm, ⟨N, A, L, M, h, c, 30, s, kh, kA, kc, ks, rfl, rfl, rfl, rfl, rfl, rfl, rfl, rfl, rfl, rfl, rfl, rfl, rfl, rfl, rfl, rfl, rfl, rfl, rfl, rfl, rfl, rfl, rfl, rfl, rfl, rfl, rfl, rfl, rfl, rfl, rfl, rfl, rfl, rfl,  CO_t (by omega) I0⟩⟩
    · obtain ⟨lc2, va2, won2, chn2, e1, ok, J⟩ := c_ok I1 (by omega)
      obtain ⟨T2, e2⟩ := ev_eq hN (K := g_kinds) (T := m_winner) hA hst ((ok A hA hst).1 0 (by omega)).1 ((ok A hA hst).1 1 (by omega)).1
      have hg : f_X10_even g_isCharted (nI e) (nI N) (nI M) (nI A) g_abv g_sets g_kinds g_lcuts g_valu g_won g_chance = (f_X10_evenBy (nI N) (nI A) won2, (1 : Int32), nI (e + 1), lc2, va2, won2, chn2) := by
        rw [f_X10_even_s, if_pos ((nh_0 hN).mpr c0), if_pos (show nI e < (30 : Int32) from nI_lt (b := 30) (by omega) (by omega)), nI_1, e1]
      have hm : f_X11_even (nI N) (nI A) (nI e) g_kinds g_onB m_winner = (f_X10_evenBy (nI N) (nI A) won2, nI (e + 1), g_kinds, T2) := by
        rw [f_X11_even_s, if_neg n0, if_neg (show ¬ nI e = (30 : Int32) from fun q => c1 ((nI_inj (b := 30) (by omega) (by omega)).mp q)), nI_1, e2]
      exact ⟨_, _, _, _, _, _, _, _, _, _, hg, hm, ⟨N, A, L, M, h, c, e+1, s, kh, kA, kc, ks, rfl, rfl, rfl, rfl, rfl, rfl, rfl, rfl, rfl, rfl, rfl, rfl, rfl, rfl, rfl, rfl, rfl, rfl, rfl, rfl, rfl, rfl, rfl, rfl, rfl, rfl, rfl, rfl, rfl, rfl, rfl, rfl, rfl, rfl,  ⟨J, a2, a3, by omega, a5, by omega, a7, a8⟩⟩⟩
