abbrev rm_X11_layLasting : Room := { frames := 5, cells := 0, slots := 0, locals := 112 }
set_option maxHeartbeats 4000000 in
set_option maxRecDepth 100000 in
theorem k_X11_layLasting {l : Launch} {D : va_G} {E : sE} {a : Nat → Nat} {cA : Nat → ClassId} {hedges : Int32} {branches : Int32} {stand : Int32} {turn : Int32} {cuts : Int32} {asks : Int32} {seen : Int32} {pageLength : Int32} {isWhole : Int32} {newBranches : Int32} {gameCuts : Int32} {isKept : Int32} {keptHedge : Int32} {keptStand : Int32} {keptTurn : Int32} {keptCuts : Int32} {keptSeen : Int32} {seedNow : Int64} {hsh : Int64} {kindOf : Nat → Int32} {onOf : Nat → Int32} {seenBranch : Nat → Int32} {seenBegins : Nat → Int32} {seenWins : Nat → Int32} {page : Nat → Int32} {winner : Nat → Int32} {lasting : Nat → Int32} {worthBy : Nat → Int32} {wonBy : Nat → Int32} {keptKind : Nat → Int32} {keptBranch : Nat → Int32} {keptBegins : Nat → Int32} {keptWins : Nat → Int32} {partsBy : Nat → Int64}  (hbr : 0 ≤ (branches).toInt ∧ (branches).toInt ≤ 8) (hst : 0 ≤ (stand).toInt ∧ (stand).toInt < 256) : ∀ q : (Nat → Int32) × (Nat → Int32), q = f_X11_layLasting branches stand kindOf onOf winner lasting → gMv l yX11_layLasting wsX11_layLasting rm_X11_layLasting D E (tM cA) [.ref (a 0)] (wM a cA hedges branches stand turn cuts asks seen pageLength isWhole newBranches gameCuts isKept keptHedge keptStand keptTurn keptCuts keptSeen seedNow hsh kindOf onOf seenBranch seenBegins seenWins page winner lasting worthBy wonBy keptKind keptBranch keptBegins keptWins partsBy) (wM a cA hedges branches stand turn cuts asks seen pageLength isWhole newBranches gameCuts isKept keptHedge keptStand keptTurn keptCuts keptSeen seedNow hsh kindOf onOf seenBranch seenBegins seenWins page q.1 q.2 worthBy wonBy keptKind keptBranch keptBegins keptWins partsBy) := by
  intro q he0
  refine gM_of (cc := cX11_layLasting) (maxL := 2) (ret := none) (Qf := gQv D (wM a cA hedges branches stand turn cuts asks seen pageLength isWhole newBranches gameCuts isKept keptHedge keptStand keptTurn keptCuts keptSeen seedNow hsh kindOf onOf seenBranch seenBegins seenWins page q.1 q.2 worthBy wonBy keptKind keptBranch keptBegins keptWins partsBy)) (by decide) rfl (Nat.le_of_ble_eq_true rfl) ?_
  intro p e s m args below meth c Z ls Qz hx hb hr hml hlocks hown hts hS hX hl hq
  have he := he0.trans f_X11_layLasting_s
  have hown : s.vm.findClass RX11 = some m.cls := hown
  have hl : lv_has ls 2 [(0, .ref (a 0))] := hl
  have hi_X11 : ∀ w ∈ u_ws RX11 TX11 34, w ∈ wsX11_layLasting := fun _ h => List.mem_cons_of_mem _ (List.mem_append_right _ h)
  have l_fieldLink_32 := hts (Cond.fieldLink RX11 32 "HedgeGameModel" "lasting" "[I") (List.mem_of_getElem? (i := 2) rfl)
  have l_fieldLink_86 := hts (Cond.fieldLink RX11 86 "HedgeGameModel" "stand" "I") (List.mem_of_getElem? (i := 1) rfl)
  have tm1 : ((-1 : Int32)).toInt = -1 := rfl
  have t0 : ((0 : Int32)).toInt = 0 := rfl
  have t1 : ((1 : Int32)).toInt = 1 := rfl
  have t2 : ((2 : Int32)).toInt = 2 := rfl
  refine lv_aload_n hx hb dX11_layLasting_0 rfl (lv_at hl 0 rfl) ?_
  obtain ⟨winner_1, e1⟩ : ∃ z, z = (f_X11_layWinners branches stand kindOf onOf winner) := ⟨_, rfl⟩
  rw [← e1] at he
  refine g_Vv (w2 := (wM a cA hedges branches stand turn cuts asks seen pageLength isWhole newBranches gameCuts isKept keptHedge keptStand keptTurn keptCuts keptSeen seedNow hsh kindOf onOf seenBranch seenBegins seenWins page winner_1 lasting worthBy wonBy keptKind keptBranch keptBegins keptWins partsBy)) (As := []) (rest := []) (ci := 11) (q0 := 0) ⟨hx, hb, hml, hown, hts⟩ hS hX (k_X11_layWinners (by omega) (by omega) winner_1 e1) (cwV 0 hts gX11_layLasting_X11_layWinners rfl rfl rfl (by decide +kernel) ⟨Nat.le_of_ble_eq_true rfl, Nat.le_of_ble_eq_true rfl⟩) rfl rfl rfl hl.1 rfl (Nat.le_of_ble_eq_true rfl) dX11_layLasting_1 ⟨Nat.zero_le _, Nat.zero_le _⟩ (fun H locs hX => ?_)
  refine lv_iconst (v := (0 : Int32)) hx hb dX11_layLasting_4 (by decide) ?_
  refine lv_istore_n (lv' := [(1, .int (0 : Int32)), (0, .ref (a 0))]) hx hb dX11_layLasting_5 rfl hl (by decide) rfl (fun ls hl => ?_)
  have L6_2 : ∀ (n_6_2 : Nat) (lasting_3 : Nat → Int32) (x1_4 : Int32), 0 ≤ (x1_4).toInt ∧ (x1_4).toInt ≤ 256 → 256 - (x1_4).toInt < (n_6_2 : Int) → q = f_X11_layLasting_L6 n_6_2 branches stand kindOf onOf winner_1 lasting_3 x1_4 → ∀ (H : Heap) (locs : List Loc) (ls : Array Slot), gX D Z s (wM a cA hedges branches stand turn cuts asks seen pageLength isWhole newBranches gameCuts isKept keptHedge keptStand keptTurn keptCuts keptSeen seedNow hsh kindOf onOf seenBranch seenBegins seenWins page winner_1 lasting_3 worthBy wonBy keptKind keptBranch keptBegins keptWins partsBy) H locs → lv_has ls 2 [(0, .ref (a 0)), (1, .int x1_4)] → W p l e rm_X11_layLasting s m args below meth c H locs 0 0 Qz (F0 m 6 ls []) := by
    intro n_6_2
    induction n_6_2 with
    | zero =>
      intro lasting_3 x1_4 ia ifu _ _ _ _ _ _
      exfalso; omega
    | succ n_6_2 ih_L6_2 =>
      intro lasting_3 x1_4 ia ifu he H locs ls hX hl
      have he := he.trans f_X11_layLasting_L6_s
      refine lv_iload_n hx hb dX11_layLasting_6 rfl (lv_at hl 1 rfl) ?_
      refine lv_aload_n hx hb dX11_layLasting_7 rfl (lv_at hl 0 rfl) ?_
      refine va_get (D := D) (ci := 11) (v := .int stand) (C := RX11) (T := TX11) (N := 34) hx hb hts hi_X11 hown hS.1 hX.1 0 rfl rfl 4 (by decide) l_fieldLink_86 (fun _ h9 => h9) rfl dX11_layLasting_8 ?_
      refine lv_icmp_gt (tgt := 61) hx hb dX11_layLasting_11 (by decide) (fun c11 => ?_) (fun c11 => ?_)
      · have he := he.trans (if_pos c11)
        have d11 := i_lt c11
        subst he
        exact g_vret hx hb hr hlocks hX hq dX11_layLasting_61
      · have he := he.trans (if_neg c11)
        have d11 := i_nlt c11
        refine lv_iload_n hx hb dX11_layLasting_14 rfl (lv_at hl 1 rfl) ?_
        refine lv_aload_n hx hb dX11_layLasting_15 rfl (lv_at hl 0 rfl) ?_
        refine va_get (D := D) (ci := 11) (v := .int stand) (C := RX11) (T := TX11) (N := 34) hx hb hts hi_X11 hown hS.1 hX.1 0 rfl rfl 4 (by decide) l_fieldLink_86 (fun _ h9 => h9) rfl dX11_layLasting_16 ?_
        refine lv_iconst (v := (-1 : Int32)) hx hb dX11_layLasting_19 (by decide) ?_
        refine lv_ixor hx hb dX11_layLasting_20 ?_
        refine lv_iand hx hb dX11_layLasting_21 ?_
        refine lv_if_ne (tgt := 55) hx hb dX11_layLasting_22 (by decide) (fun c22 => ?_) (fun c22 => ?_)
        · have he := he.trans (if_neg c22)
          have d22 := i_ne c22
          refine lv_iinc (v := (x1_4 + (1 : Int32))) (lv' := [(1, .int (x1_4 + (1 : Int32))), (0, .ref (a 0))]) hx hb dX11_layLasting_55 hl (k := 1) rfl rfl (by decide) rfl (fun ls hl => ?_)
          have s55 := i_s1 (x := x1_4) (by omega)
          refine lv_goto (tgt := 6) hx hb dX11_layLasting_58 (by decide) ?_
          exact ih_L6_2 lasting_3 (x1_4 + (1 : Int32)) (by omega) (by omega) he _ _ _ hX (lv_sub hl [1, 0] rfl)
        · have he := he.trans (if_pos c22)
          have d22 := i_eq c22
          refine lv_aload_n hx hb dX11_layLasting_25 rfl (lv_at hl 0 rfl) ?_
          refine va_get (D := D) (ci := 11) (v := .ref (a 8)) (C := RX11) (T := TX11) (N := 34) hx hb hts hi_X11 hown hS.1 hX.1 0 rfl rfl 17 (by decide) l_fieldLink_32 (fun _ h9 => h9) rfl dX11_layLasting_26 ?_
          refine lv_iconst (v := (2 : Int32)) hx hb dX11_layLasting_29 (by decide) ?_
          refine lv_iload_n hx hb dX11_layLasting_30 rfl (lv_at hl 1 rfl) ?_
          refine lv_imul hx hb dX11_layLasting_31 ?_
          refine lv_aload_n hx hb dX11_layLasting_32 rfl (lv_at hl 0 rfl) ?_
          refine lv_iload_n hx hb dX11_layLasting_33 rfl (lv_at hl 1 rfl) ?_
          refine lv_iconst (v := (0 : Int32)) hx hb dX11_layLasting_34 (by decide) ?_
          obtain ⟨r_5, e35⟩ : ∃ z, z = (f_X11_lastingFrom branches kindOf onOf winner_1 lasting_3 x1_4 (0 : Int32)) := ⟨_, rfl⟩
          rw [← e35] at he
          refine g_Vi (r := r_5) (As := [.int x1_4, .int (0 : Int32)]) (rest := [.int ((2 : Int32) * x1_4), .ref (a 8)]) (ci := 11) (q0 := 0) ⟨hx, hb, hml, hown, hts⟩ hS hX (k_X11_lastingFrom x1_4 (0 : Int32) (by omega) (by omega) (by omega) r_5 e35) (cwV 2 hts gX11_layLasting_X11_lastingFrom rfl rfl rfl (by decide +kernel) ⟨Nat.le_of_ble_eq_true rfl, Nat.le_of_ble_eq_true rfl⟩) rfl rfl rfl hl.1 rfl (Nat.le_of_ble_eq_true rfl) dX11_layLasting_35 ⟨Nat.zero_le _, Nat.zero_le _⟩ (fun H locs hX => ?_)
          refine va_iast hx hb hS.1 hX.1 hX.2.1 hX.2.2 8 7 rfl rfl (o_2s (by omega)) dX11_layLasting_38 (fun H locs hP hD hs => ?_)
          have hX : gX D Z s (wM a cA hedges branches stand turn cuts asks seen pageLength isWhole newBranches gameCuts isKept keptHedge keptStand keptTurn keptCuts keptSeen seedNow hsh kindOf onOf seenBranch seenBegins seenWins page winner_1 (upd lasting_3 (((2 : Int32) * x1_4)).toNatClampNeg r_5) worthBy wonBy keptKind keptBranch keptBegins keptWins partsBy) H locs := ⟨hP, hD, hs⟩
          refine lv_aload_n hx hb dX11_layLasting_39 rfl (lv_at hl 0 rfl) ?_
          refine va_get (D := D) (ci := 11) (v := .ref (a 8)) (C := RX11) (T := TX11) (N := 34) hx hb hts hi_X11 hown hS.1 hX.1 0 rfl rfl 17 (by decide) l_fieldLink_32 (fun _ h9 => h9) rfl dX11_layLasting_40 ?_
          refine lv_iconst (v := (2 : Int32)) hx hb dX11_layLasting_43 (by decide) ?_
          refine lv_iload_n hx hb dX11_layLasting_44 rfl (lv_at hl 1 rfl) ?_
          refine lv_imul hx hb dX11_layLasting_45 ?_
          refine lv_iconst (v := (1 : Int32)) hx hb dX11_layLasting_46 (by decide) ?_
          refine lv_iadd hx hb dX11_layLasting_47 ?_
          refine lv_aload_n hx hb dX11_layLasting_48 rfl (lv_at hl 0 rfl) ?_
          refine lv_iload_n hx hb dX11_layLasting_49 rfl (lv_at hl 1 rfl) ?_
          refine lv_iconst (v := (1 : Int32)) hx hb dX11_layLasting_50 (by decide) ?_
          obtain ⟨r_6, e51⟩ : ∃ z, z = (f_X11_lastingFrom branches kindOf onOf winner_1 (upd lasting_3 (((2 : Int32) * x1_4)).toNatClampNeg r_5) x1_4 (1 : Int32)) := ⟨_, rfl⟩
          rw [← e51] at he
          refine g_Vi (r := r_6) (As := [.int x1_4, .int (1 : Int32)]) (rest := [.int (((2 : Int32) * x1_4) + (1 : Int32)), .ref (a 8)]) (ci := 11) (q0 := 0) ⟨hx, hb, hml, hown, hts⟩ hS hX (k_X11_lastingFrom x1_4 (1 : Int32) (by omega) (by omega) (by omega) r_6 e51) (cwV 2 hts gX11_layLasting_X11_lastingFrom rfl rfl rfl (by decide +kernel) ⟨Nat.le_of_ble_eq_true rfl, Nat.le_of_ble_eq_true rfl⟩) rfl rfl rfl hl.1 rfl (Nat.le_of_ble_eq_true rfl) dX11_layLasting_51 ⟨Nat.zero_le _, Nat.zero_le _⟩ (fun H locs hX => ?_)
          refine va_iast hx hb hS.1 hX.1 hX.2.1 hX.2.2 8 7 rfl rfl (o_2s1 (by omega)) dX11_layLasting_54 (fun H locs hP hD hs => ?_)
          have hX : gX D Z s (wM a cA hedges branches stand turn cuts asks seen pageLength isWhole newBranches gameCuts isKept keptHedge keptStand keptTurn keptCuts keptSeen seedNow hsh kindOf onOf seenBranch seenBegins seenWins page winner_1 (upd (upd lasting_3 (((2 : Int32) * x1_4)).toNatClampNeg r_5) ((((2 : Int32) * x1_4) + (1 : Int32))).toNatClampNeg r_6) worthBy wonBy keptKind keptBranch keptBegins keptWins partsBy) H locs := ⟨hP, hD, hs⟩
          refine lv_iinc (v := (x1_4 + (1 : Int32))) (lv' := [(1, .int (x1_4 + (1 : Int32))), (0, .ref (a 0))]) hx hb dX11_layLasting_55 hl (k := 1) rfl rfl (by decide) rfl (fun ls hl => ?_)
          have s55 := i_s1 (x := x1_4) (by omega)
          refine lv_goto (tgt := 6) hx hb dX11_layLasting_58 (by decide) ?_
          exact ih_L6_2 (upd (upd lasting_3 (((2 : Int32) * x1_4)).toNatClampNeg r_5) ((((2 : Int32) * x1_4) + (1 : Int32))).toNatClampNeg r_6) (x1_4 + (1 : Int32)) (by omega) (by omega) he _ _ _ hX (lv_sub hl [1, 0] rfl)
  exact L6_2 257 lasting (0 : Int32) (by omega) (by omega) he _ _ _ hX (lv_sub hl [1, 0] rfl)
abbrev rm_X11_bestNow : Room := { frames := 6, cells := 0, slots := 0, locals := 133 }
set_option maxHeartbeats 4000000 in
set_option maxRecDepth 100000 in
theorem k_X11_bestNow {l : Launch} {D : va_G} {E : sE} {a : Nat → Nat} {cA : Nat → ClassId} {hedges : Int32} {branches : Int32} {stand : Int32} {turn : Int32} {cuts : Int32} {asks : Int32} {seen : Int32} {pageLength : Int32} {isWhole : Int32} {newBranches : Int32} {gameCuts : Int32} {isKept : Int32} {keptHedge : Int32} {keptStand : Int32} {keptTurn : Int32} {keptCuts : Int32} {keptSeen : Int32} {seedNow : Int64} {hsh : Int64} {kindOf : Nat → Int32} {onOf : Nat → Int32} {seenBranch : Nat → Int32} {seenBegins : Nat → Int32} {seenWins : Nat → Int32} {page : Nat → Int32} {winner : Nat → Int32} {lasting : Nat → Int32} {worthBy : Nat → Int32} {wonBy : Nat → Int32} {keptKind : Nat → Int32} {keptBranch : Nat → Int32} {keptBegins : Nat → Int32} {keptWins : Nat → Int32} {partsBy : Nat → Int64} (p1 : Int32) (hbr : 0 ≤ (branches).toInt ∧ (branches).toInt ≤ 8) (hst : 0 ≤ (stand).toInt ∧ (stand).toInt < 256) (hwx : 0 ≤ (p1).toInt ∧ (p1).toInt ≤ 1) : ∀ q : Int32 × (Nat → Int32) × (Nat → Int32), q = f_X11_bestNow branches stand kindOf onOf winner lasting p1 → gMi l yX11_bestNow wsX11_bestNow rm_X11_bestNow D E (tM cA) [.ref (a 0), .int p1] (wM a cA hedges branches stand turn cuts asks seen pageLength isWhole newBranches gameCuts isKept keptHedge keptStand keptTurn keptCuts keptSeen seedNow hsh kindOf onOf seenBranch seenBegins seenWins page winner lasting worthBy wonBy keptKind keptBranch keptBegins keptWins partsBy) (wM a cA hedges branches stand turn cuts asks seen pageLength isWhole newBranches gameCuts isKept keptHedge keptStand keptTurn keptCuts keptSeen seedNow hsh kindOf onOf seenBranch seenBegins seenWins page q.2.1 q.2.2 worthBy wonBy keptKind keptBranch keptBegins keptWins partsBy) q.1 := by
  intro q he0
  refine gM_of (cc := cX11_bestNow) (maxL := 6) (ret := (some .int)) (Qf := gQi D (wM a cA hedges branches stand turn cuts asks seen pageLength isWhole newBranches gameCuts isKept keptHedge keptStand keptTurn keptCuts keptSeen seedNow hsh kindOf onOf seenBranch seenBegins seenWins page q.2.1 q.2.2 worthBy wonBy keptKind keptBranch keptBegins keptWins partsBy) q.1) (by decide) rfl (Nat.le_of_ble_eq_true rfl) ?_
  intro p e s m args below meth c Z ls Qz hx hb hr hml hlocks hown hts hS hX hl hq
  have he := he0.trans f_X11_bestNow_s
  have hown : s.vm.findClass RX11 = some m.cls := hown
  have hl : lv_has ls 6 [(0, .ref (a 0)), (1, .int p1)] := hl
  have hi_X11 : ∀ w ∈ u_ws RX11 TX11 34, w ∈ wsX11_bestNow := fun _ h => List.mem_cons_of_mem _ (List.mem_append_right _ h)
  have l_fieldLink_29 := hts (Cond.fieldLink RX11 29 "HedgeGameModel" "winner" "[I") (List.mem_of_getElem? (i := 3) rfl)
  have l_fieldLink_32 := hts (Cond.fieldLink RX11 32 "HedgeGameModel" "lasting" "[I") (List.mem_of_getElem? (i := 4) rfl)
  have l_fieldLink_83 := hts (Cond.fieldLink RX11 83 "HedgeGameModel" "branches" "I") (List.mem_of_getElem? (i := 1) rfl)
  have l_fieldLink_86 := hts (Cond.fieldLink RX11 86 "HedgeGameModel" "stand" "I") (List.mem_of_getElem? (i := 2) rfl)
  have tm1 : ((-1 : Int32)).toInt = -1 := rfl
  have t0 : ((0 : Int32)).toInt = 0 := rfl
  have t1 : ((1 : Int32)).toInt = 1 := rfl
  have t2 : ((2 : Int32)).toInt = 2 := rfl
  refine lv_aload_n hx hb dX11_bestNow_0 rfl (lv_at hl 0 rfl) ?_
  obtain ⟨z_1, e1⟩ : ∃ z, z = (f_X11_layLasting branches stand kindOf onOf winner lasting) := ⟨_, rfl⟩
  rw [← e1] at he
  try dsimp only at he
  refine g_Vv (w2 := (wM a cA hedges branches stand turn cuts asks seen pageLength isWhole newBranches gameCuts isKept keptHedge keptStand keptTurn keptCuts keptSeen seedNow hsh kindOf onOf seenBranch seenBegins seenWins page z_1.1 z_1.2 worthBy wonBy keptKind keptBranch keptBegins keptWins partsBy)) (As := []) (rest := []) (ci := 11) (q0 := 0) ⟨hx, hb, hml, hown, hts⟩ hS hX (k_X11_layLasting (by omega) (by omega) z_1 e1) (cwV 0 hts gX11_bestNow_X11_layLasting rfl rfl rfl (by decide +kernel) ⟨Nat.le_of_ble_eq_true rfl, Nat.le_of_ble_eq_true rfl⟩) rfl rfl rfl hl.1 rfl (Nat.le_of_ble_eq_true rfl) dX11_bestNow_1 ⟨Nat.zero_le _, Nat.zero_le _⟩ (fun H locs hX => ?_)
  refine lv_iconst (v := (-1 : Int32)) hx hb dX11_bestNow_4 (by decide) ?_
  refine lv_istore_n (lv' := [(2, .int (-1 : Int32)), (0, .ref (a 0)), (1, .int p1)]) hx hb dX11_bestNow_5 rfl hl (by decide) rfl (fun ls hl => ?_)
  refine lv_iconst (v := (-1 : Int32)) hx hb dX11_bestNow_6 (by decide) ?_
  refine lv_istore_n (lv' := [(3, .int (-1 : Int32)), (2, .int (-1 : Int32)), (0, .ref (a 0)), (1, .int p1)]) hx hb dX11_bestNow_7 rfl hl (by decide) rfl (fun ls hl => ?_)
  refine lv_iconst (v := (0 : Int32)) hx hb dX11_bestNow_8 (by decide) ?_
  refine lv_istore (lv' := [(4, .int (0 : Int32)), (3, .int (-1 : Int32)), (2, .int (-1 : Int32)), (0, .ref (a 0)), (1, .int p1)]) hx hb dX11_bestNow_9 hl (by decide) rfl (fun ls hl => ?_)
  have L11_2 : ∀ (n_11_2 : Nat) (x2_3 : Int32) (x3_4 : Int32) (x4_5 : Int32), 0 ≤ (x4_5).toInt ∧ (x4_5).toInt ≤ 8 → 8 - (x4_5).toInt < (n_11_2 : Int) → q = f_X11_bestNow_L11 n_11_2 branches stand kindOf onOf z_1.1 z_1.2 p1 x2_3 x3_4 x4_5 → ∀ (H : Heap) (locs : List Loc) (ls : Array Slot), gX D Z s (wM a cA hedges branches stand turn cuts asks seen pageLength isWhole newBranches gameCuts isKept keptHedge keptStand keptTurn keptCuts keptSeen seedNow hsh kindOf onOf seenBranch seenBegins seenWins page z_1.1 z_1.2 worthBy wonBy keptKind keptBranch keptBegins keptWins partsBy) H locs → lv_has ls 6 [(0, .ref (a 0)), (1, .int p1), (2, .int x2_3), (3, .int x3_4), (4, .int x4_5)] → W p l e rm_X11_bestNow s m args below meth c H locs 0 0 Qz (F0 m 11 ls []) := by
    intro n_11_2
    induction n_11_2 with
    | zero =>
      intro x2_3 x3_4 x4_5 ia ifu _ _ _ _ _ _
      exfalso; omega
    | succ n_11_2 ih_L11_2 =>
      intro x2_3 x3_4 x4_5 ia ifu he H locs ls hX hl
      have he := he.trans f_X11_bestNow_L11_s
      refine lv_iload hx hb dX11_bestNow_11 (lv_at hl 4 rfl) ?_
      refine lv_aload_n hx hb dX11_bestNow_13 rfl (lv_at hl 0 rfl) ?_
      refine va_get (D := D) (ci := 11) (v := .int branches) (C := RX11) (T := TX11) (N := 34) hx hb hts hi_X11 hown hS.1 hX.1 0 rfl rfl 1 (by decide) l_fieldLink_83 (fun _ h9 => h9) rfl dX11_bestNow_14 ?_
      refine lv_icmp_ge (tgt := 113) hx hb dX11_bestNow_17 (by decide) (fun c17 => ?_) (fun c17 => ?_)
      · have he := he.trans (if_pos c17)
        have d17 := i_le c17
        refine lv_iload_n hx hb dX11_bestNow_113 rfl (lv_at hl 2 rfl) ?_
        subst he
        exact g_iret hx hb hr hlocks hX hq rfl dX11_bestNow_114
      · have he := he.trans (if_neg c17)
        have d17 := i_nle c17
        refine lv_aload_n hx hb dX11_bestNow_20 rfl (lv_at hl 0 rfl) ?_
        refine lv_iload_n hx hb dX11_bestNow_21 rfl (lv_at hl 1 rfl) ?_
        refine lv_iload hx hb dX11_bestNow_22 (lv_at hl 4 rfl) ?_
        refine lv_aload_n hx hb dX11_bestNow_24 rfl (lv_at hl 0 rfl) ?_
        refine va_get (D := D) (ci := 11) (v := .int stand) (C := RX11) (T := TX11) (N := 34) hx hb hts hi_X11 hown hS.1 hX.1 0 rfl rfl 4 (by decide) l_fieldLink_86 (fun _ h9 => h9) rfl dX11_bestNow_25 ?_
        obtain ⟨r_6, e28⟩ : ∃ z, z = (f_X11_mayCut branches kindOf onOf p1 x4_5 stand) := ⟨_, rfl⟩
        rw [← e28] at he
        refine g_Vi (r := r_6) (As := [.int p1, .int x4_5, .int stand]) (rest := []) (ci := 11) (q0 := 0) ⟨hx, hb, hml, hown, hts⟩ hS hX (k_X11_mayCut p1 x4_5 stand (by omega) (by omega) r_6 e28) (cwV 3 hts gX11_bestNow_X11_mayCut rfl rfl rfl (by decide +kernel) ⟨Nat.le_of_ble_eq_true rfl, Nat.le_of_ble_eq_true rfl⟩) rfl rfl rfl hl.1 rfl (Nat.le_of_ble_eq_true rfl) dX11_bestNow_28 ⟨Nat.zero_le _, Nat.zero_le _⟩ (fun H locs hX => ?_)
        refine lv_if_eq (tgt := 107) hx hb dX11_bestNow_31 (by decide) (fun c31 => ?_) (fun c31 => ?_)
        · have he := he.trans (if_pos c31)
          have d31 := i_eq c31
          refine lv_iinc (v := (x4_5 + (1 : Int32))) (lv' := [(4, .int (x4_5 + (1 : Int32))), (0, .ref (a 0)), (1, .int p1), (2, .int x2_3), (3, .int x3_4)]) hx hb dX11_bestNow_107 hl (k := 4) rfl rfl (by decide) rfl (fun ls hl => ?_)
          have s107 := i_s1 (x := x4_5) (by omega)
          refine lv_goto (tgt := 11) hx hb dX11_bestNow_110 (by decide) ?_
          exact ih_L11_2 x2_3 x3_4 (x4_5 + (1 : Int32)) (by omega) (by omega) he _ _ _ hX (lv_sub hl [1, 2, 3, 4, 0] rfl)
        · have he := he.trans (if_neg c31)
          have d31 := i_ne c31
          refine lv_iconst (v := (2 : Int32)) hx hb dX11_bestNow_34 (by decide) ?_
          refine lv_aload_n hx hb dX11_bestNow_35 rfl (lv_at hl 0 rfl) ?_
          refine lv_iload hx hb dX11_bestNow_36 (lv_at hl 4 rfl) ?_
          refine lv_aload_n hx hb dX11_bestNow_38 rfl (lv_at hl 0 rfl) ?_
          refine va_get (D := D) (ci := 11) (v := .int stand) (C := RX11) (T := TX11) (N := 34) hx hb hts hi_X11 hown hS.1 hX.1 0 rfl rfl 4 (by decide) l_fieldLink_86 (fun _ h9 => h9) rfl dX11_bestNow_39 ?_
          obtain ⟨r_7, e42⟩ : ∃ z, z = (f_X11_leaves branches onOf x4_5 stand) := ⟨_, rfl⟩
          rw [← e42] at he
          refine g_Vi (r := r_7) (As := [.int x4_5, .int stand]) (rest := [.int (2 : Int32)]) (ci := 11) (q0 := 0) ⟨hx, hb, hml, hown, hts⟩ hS hX (k_X11_leaves x4_5 stand (by omega) (by omega) r_7 e42) (cwV 2 hts gX11_bestNow_X11_leaves rfl rfl rfl (by decide +kernel) ⟨Nat.le_of_ble_eq_true rfl, Nat.le_of_ble_eq_true rfl⟩) rfl rfl rfl hl.1 rfl (Nat.le_of_ble_eq_true rfl) dX11_bestNow_42 ⟨Nat.zero_le _, Nat.zero_le _⟩ (fun H locs hX => ?_)
          have k42_0 : 0 ≤ (stand).toInt → (0 ≤ (r_7).toInt ∧ (r_7).toInt ≤ (stand).toInt) := by rw [e42]; exact r_leaves
          refine lv_imul hx hb dX11_bestNow_45 ?_
          refine lv_iconst (v := (1 : Int32)) hx hb dX11_bestNow_46 (by decide) ?_
          refine lv_iadd hx hb dX11_bestNow_47 ?_
          refine lv_iload_n hx hb dX11_bestNow_48 rfl (lv_at hl 1 rfl) ?_
          refine lv_isub hx hb dX11_bestNow_49 ?_
          refine lv_istore (lv' := [(5, .int ((((2 : Int32) * r_7) + (1 : Int32)) - p1)), (0, .ref (a 0)), (1, .int p1), (2, .int x2_3), (3, .int x3_4), (4, .int x4_5)]) hx hb dX11_bestNow_50 hl (by decide) rfl (fun ls hl => ?_)
          refine lv_aload_n hx hb dX11_bestNow_52 rfl (lv_at hl 1 rfl) ?_
          refine va_get (D := D) (ci := 11) (v := .ref (a 7)) (C := RX11) (T := TX11) (N := 34) hx hb hts hi_X11 hown hS.1 hX.1 0 rfl rfl 16 (by decide) l_fieldLink_29 (fun _ h9 => h9) rfl dX11_bestNow_53 ?_
          refine lv_iload hx hb dX11_bestNow_56 (lv_at hl 0 rfl) ?_
          refine va_iald hx hb hS.1 hX.1 7 6 rfl rfl (o_2s1w (by omega) (by omega)) dX11_bestNow_58 ?_
          refine lv_iload_n hx hb dX11_bestNow_59 rfl (lv_at hl 2 rfl) ?_
          refine lv_icmp_ne (tgt := 66) hx hb dX11_bestNow_60 (by decide) (fun c60 => ?_) (fun c60 => ?_)
          · have he := he.trans (if_neg c60)
            have d60 := i_ne c60
            refine lv_aload_n hx hb dX11_bestNow_66 rfl (lv_at hl 1 rfl) ?_
            refine va_get (D := D) (ci := 11) (v := .ref (a 8)) (C := RX11) (T := TX11) (N := 34) hx hb hts hi_X11 hown hS.1 hX.1 0 rfl rfl 17 (by decide) l_fieldLink_32 (fun _ h9 => h9) rfl dX11_bestNow_67 ?_
            refine lv_iload hx hb dX11_bestNow_70 (lv_at hl 0 rfl) ?_
            refine va_iald hx hb hS.1 hX.1 8 7 rfl rfl (o_2s1w (by omega) (by omega)) dX11_bestNow_72 ?_
            refine lv_iload_n hx hb dX11_bestNow_73 rfl (lv_at hl 4 rfl) ?_
            refine lv_icmp_le (tgt := 82) hx hb dX11_bestNow_74 (by decide) (fun c74 => ?_) (fun c74 => ?_)
            · have he := he.trans (if_pos c74)
              have d74 := i_le c74
              refine lv_iload_n hx hb dX11_bestNow_82 rfl (lv_at hl 3 rfl) ?_
              refine lv_istore_n (lv' := [(2, .int x2_3), (5, .int ((((2 : Int32) * r_7) + (1 : Int32)) - p1)), (0, .ref (a 0)), (1, .int p1), (3, .int x3_4), (4, .int x4_5)]) hx hb dX11_bestNow_83 rfl hl (by decide) rfl (fun ls hl => ?_)
              refine lv_aload_n hx hb dX11_bestNow_84 rfl (lv_at hl 2 rfl) ?_
              refine va_get (D := D) (ci := 11) (v := .ref (a 8)) (C := RX11) (T := TX11) (N := 34) hx hb hts hi_X11 hown hS.1 hX.1 0 rfl rfl 17 (by decide) l_fieldLink_32 (fun _ h9 => h9) rfl dX11_bestNow_85 ?_
              refine lv_iload hx hb dX11_bestNow_88 (lv_at hl 1 rfl) ?_
              refine va_iald hx hb hS.1 hX.1 8 7 rfl rfl (o_2s1w (by omega) (by omega)) dX11_bestNow_90 ?_
              refine lv_iload_n hx hb dX11_bestNow_91 rfl (lv_at hl 4 rfl) ?_
              refine lv_icmp_le (tgt := 105) hx hb dX11_bestNow_92 (by decide) (fun c92 => ?_) (fun c92 => ?_)
              · have he := he.trans (if_pos c92)
                have d92 := i_le c92
                refine lv_iload_n hx hb dX11_bestNow_105 rfl (lv_at hl 4 rfl) ?_
                refine lv_istore_n (lv' := [(3, .int x3_4), (2, .int x2_3), (5, .int ((((2 : Int32) * r_7) + (1 : Int32)) - p1)), (0, .ref (a 0)), (1, .int p1), (4, .int x4_5)]) hx hb dX11_bestNow_106 rfl hl (by decide) rfl (fun ls hl => ?_)
                refine lv_iinc (v := (x4_5 + (1 : Int32))) (lv' := [(4, .int (x4_5 + (1 : Int32))), (3, .int x3_4), (2, .int x2_3), (5, .int ((((2 : Int32) * r_7) + (1 : Int32)) - p1)), (0, .ref (a 0)), (1, .int p1)]) hx hb dX11_bestNow_107 hl (k := 5) rfl rfl (by decide) rfl (fun ls hl => ?_)
                have s107 := i_s1 (x := x4_5) (by omega)
                refine lv_goto (tgt := 11) hx hb dX11_bestNow_110 (by decide) ?_
                exact ih_L11_2 x2_3 x3_4 (x4_5 + (1 : Int32)) (by omega) (by omega) he _ _ _ hX (lv_sub hl [4, 5, 2, 1, 0] rfl)
              · have he := he.trans (if_neg c92)
                have d92 := i_nle c92
                refine lv_aload_n hx hb dX11_bestNow_95 rfl (lv_at hl 2 rfl) ?_
                refine va_get (D := D) (ci := 11) (v := .ref (a 8)) (C := RX11) (T := TX11) (N := 34) hx hb hts hi_X11 hown hS.1 hX.1 0 rfl rfl 17 (by decide) l_fieldLink_32 (fun _ h9 => h9) rfl dX11_bestNow_96 ?_
                refine lv_iload hx hb dX11_bestNow_99 (lv_at hl 1 rfl) ?_
                refine va_iald hx hb hS.1 hX.1 8 7 rfl rfl (o_2s1w (by omega) (by omega)) dX11_bestNow_101 ?_
                refine lv_goto (tgt := 106) hx hb dX11_bestNow_102 (by decide) ?_
                refine lv_istore_n (lv' := [(3, .int (z_1.2 (((((2 : Int32) * r_7) + (1 : Int32)) - p1)).toNatClampNeg)), (2, .int x2_3), (5, .int ((((2 : Int32) * r_7) + (1 : Int32)) - p1)), (0, .ref (a 0)), (1, .int p1), (4, .int x4_5)]) hx hb dX11_bestNow_106 rfl hl (by decide) rfl (fun ls hl => ?_)
                refine lv_iinc (v := (x4_5 + (1 : Int32))) (lv' := [(4, .int (x4_5 + (1 : Int32))), (3, .int (z_1.2 (((((2 : Int32) * r_7) + (1 : Int32)) - p1)).toNatClampNeg)), (2, .int x2_3), (5, .int ((((2 : Int32) * r_7) + (1 : Int32)) - p1)), (0, .ref (a 0)), (1, .int p1)]) hx hb dX11_bestNow_107 hl (k := 5) rfl rfl (by decide) rfl (fun ls hl => ?_)
                have s107 := i_s1 (x := x4_5) (by omega)
                refine lv_goto (tgt := 11) hx hb dX11_bestNow_110 (by decide) ?_
                exact ih_L11_2 x2_3 (z_1.2 (((((2 : Int32) * r_7) + (1 : Int32)) - p1)).toNatClampNeg) (x4_5 + (1 : Int32)) (by omega) (by omega) he _ _ _ hX (lv_sub hl [4, 5, 2, 1, 0] rfl)
            · have he := he.trans (if_neg c74)
              have d74 := i_nle c74
              refine lv_iload hx hb dX11_bestNow_77 (lv_at hl 5 rfl) ?_
              refine lv_goto (tgt := 83) hx hb dX11_bestNow_79 (by decide) ?_
              refine lv_istore_n (lv' := [(2, .int x4_5), (5, .int ((((2 : Int32) * r_7) + (1 : Int32)) - p1)), (0, .ref (a 0)), (1, .int p1), (3, .int x3_4), (4, .int x4_5)]) hx hb dX11_bestNow_83 rfl hl (by decide) rfl (fun ls hl => ?_)
              refine lv_aload_n hx hb dX11_bestNow_84 rfl (lv_at hl 2 rfl) ?_
              refine va_get (D := D) (ci := 11) (v := .ref (a 8)) (C := RX11) (T := TX11) (N := 34) hx hb hts hi_X11 hown hS.1 hX.1 0 rfl rfl 17 (by decide) l_fieldLink_32 (fun _ h9 => h9) rfl dX11_bestNow_85 ?_
              refine lv_iload hx hb dX11_bestNow_88 (lv_at hl 1 rfl) ?_
              refine va_iald hx hb hS.1 hX.1 8 7 rfl rfl (o_2s1w (by omega) (by omega)) dX11_bestNow_90 ?_
              refine lv_iload_n hx hb dX11_bestNow_91 rfl (lv_at hl 4 rfl) ?_
              refine lv_icmp_le (tgt := 105) hx hb dX11_bestNow_92 (by decide) (fun c92 => ?_) (fun c92 => ?_)
              · have he := he.trans (if_pos c92)
                have d92 := i_le c92
                refine lv_iload_n hx hb dX11_bestNow_105 rfl (lv_at hl 4 rfl) ?_
                refine lv_istore_n (lv' := [(3, .int x3_4), (2, .int x4_5), (5, .int ((((2 : Int32) * r_7) + (1 : Int32)) - p1)), (0, .ref (a 0)), (1, .int p1), (4, .int x4_5)]) hx hb dX11_bestNow_106 rfl hl (by decide) rfl (fun ls hl => ?_)
                refine lv_iinc (v := (x4_5 + (1 : Int32))) (lv' := [(4, .int (x4_5 + (1 : Int32))), (3, .int x3_4), (2, .int x4_5), (5, .int ((((2 : Int32) * r_7) + (1 : Int32)) - p1)), (0, .ref (a 0)), (1, .int p1)]) hx hb dX11_bestNow_107 hl (k := 5) rfl rfl (by decide) rfl (fun ls hl => ?_)
                have s107 := i_s1 (x := x4_5) (by omega)
                refine lv_goto (tgt := 11) hx hb dX11_bestNow_110 (by decide) ?_
                exact ih_L11_2 x4_5 x3_4 (x4_5 + (1 : Int32)) (by omega) (by omega) he _ _ _ hX (lv_sub hl [4, 5, 2, 1, 0] rfl)
              · have he := he.trans (if_neg c92)
                have d92 := i_nle c92
                refine lv_aload_n hx hb dX11_bestNow_95 rfl (lv_at hl 2 rfl) ?_
                refine va_get (D := D) (ci := 11) (v := .ref (a 8)) (C := RX11) (T := TX11) (N := 34) hx hb hts hi_X11 hown hS.1 hX.1 0 rfl rfl 17 (by decide) l_fieldLink_32 (fun _ h9 => h9) rfl dX11_bestNow_96 ?_
                refine lv_iload hx hb dX11_bestNow_99 (lv_at hl 1 rfl) ?_
                refine va_iald hx hb hS.1 hX.1 8 7 rfl rfl (o_2s1w (by omega) (by omega)) dX11_bestNow_101 ?_
                refine lv_goto (tgt := 106) hx hb dX11_bestNow_102 (by decide) ?_
                refine lv_istore_n (lv' := [(3, .int (z_1.2 (((((2 : Int32) * r_7) + (1 : Int32)) - p1)).toNatClampNeg)), (2, .int x4_5), (5, .int ((((2 : Int32) * r_7) + (1 : Int32)) - p1)), (0, .ref (a 0)), (1, .int p1), (4, .int x4_5)]) hx hb dX11_bestNow_106 rfl hl (by decide) rfl (fun ls hl => ?_)
                refine lv_iinc (v := (x4_5 + (1 : Int32))) (lv' := [(4, .int (x4_5 + (1 : Int32))), (3, .int (z_1.2 (((((2 : Int32) * r_7) + (1 : Int32)) - p1)).toNatClampNeg)), (2, .int x4_5), (5, .int ((((2 : Int32) * r_7) + (1 : Int32)) - p1)), (0, .ref (a 0)), (1, .int p1)]) hx hb dX11_bestNow_107 hl (k := 5) rfl rfl (by decide) rfl (fun ls hl => ?_)
                have s107 := i_s1 (x := x4_5) (by omega)
                refine lv_goto (tgt := 11) hx hb dX11_bestNow_110 (by decide) ?_
                exact ih_L11_2 x4_5 (z_1.2 (((((2 : Int32) * r_7) + (1 : Int32)) - p1)).toNatClampNeg) (x4_5 + (1 : Int32)) (by omega) (by omega) he _ _ _ hX (lv_sub hl [4, 5, 2, 1, 0] rfl)
          · have he := he.trans (if_pos c60)
            have d60 := i_eq c60
            refine lv_iload hx hb dX11_bestNow_63 (lv_at hl 5 rfl) ?_
            subst he
            exact g_iret hx hb hr hlocks hX hq rfl dX11_bestNow_65
  exact L11_2 9 (-1 : Int32) (-1 : Int32) (0 : Int32) (by omega) (by omega) he _ _ _ hX (lv_sub hl [3, 4, 2, 1, 0] rfl)
abbrev rm_X11_winsNow : Room := { frames := 5, cells := 0, slots := 0, locals := 112 }
set_option maxHeartbeats 4000000 in
set_option maxRecDepth 100000 in
theorem k_X11_winsNow {l : Launch} {D : va_G} {E : sE} {a : Nat → Nat} {cA : Nat → ClassId} {hedges : Int32} {branches : Int32} {stand : Int32} {turn : Int32} {cuts : Int32} {asks : Int32} {seen : Int32} {pageLength : Int32} {isWhole : Int32} {newBranches : Int32} {gameCuts : Int32} {isKept : Int32} {keptHedge : Int32} {keptStand : Int32} {keptTurn : Int32} {keptCuts : Int32} {keptSeen : Int32} {seedNow : Int64} {hsh : Int64} {kindOf : Nat → Int32} {onOf : Nat → Int32} {seenBranch : Nat → Int32} {seenBegins : Nat → Int32} {seenWins : Nat → Int32} {page : Nat → Int32} {winner : Nat → Int32} {lasting : Nat → Int32} {worthBy : Nat → Int32} {wonBy : Nat → Int32} {keptKind : Nat → Int32} {keptBranch : Nat → Int32} {keptBegins : Nat → Int32} {keptWins : Nat → Int32} {partsBy : Nat → Int64} (p1 : Int32) (hbr : 0 ≤ (branches).toInt ∧ (branches).toInt ≤ 8) (hst : 0 ≤ (stand).toInt ∧ (stand).toInt < 256) (hwx : 0 ≤ (p1).toInt ∧ (p1).toInt ≤ 1) : ∀ q : Int32 × (Nat → Int32), q = f_X11_winsNow branches stand kindOf onOf winner p1 → gMi l yX11_winsNow wsX11_winsNow rm_X11_winsNow D E (tM cA) [.ref (a 0), .int p1] (wM a cA hedges branches stand turn cuts asks seen pageLength isWhole newBranches gameCuts isKept keptHedge keptStand keptTurn keptCuts keptSeen seedNow hsh kindOf onOf seenBranch seenBegins seenWins page winner lasting worthBy wonBy keptKind keptBranch keptBegins keptWins partsBy) (wM a cA hedges branches stand turn cuts asks seen pageLength isWhole newBranches gameCuts isKept keptHedge keptStand keptTurn keptCuts keptSeen seedNow hsh kindOf onOf seenBranch seenBegins seenWins page q.2 lasting worthBy wonBy keptKind keptBranch keptBegins keptWins partsBy) q.1 := by
  intro q he0
  refine gM_of (cc := cX11_winsNow) (maxL := 2) (ret := (some .int)) (Qf := gQi D (wM a cA hedges branches stand turn cuts asks seen pageLength isWhole newBranches gameCuts isKept keptHedge keptStand keptTurn keptCuts keptSeen seedNow hsh kindOf onOf seenBranch seenBegins seenWins page q.2 lasting worthBy wonBy keptKind keptBranch keptBegins keptWins partsBy) q.1) (by decide) rfl (Nat.le_of_ble_eq_true rfl) ?_
  intro p e s m args below meth c Z ls Qz hx hb hr hml hlocks hown hts hS hX hl hq
  have he := he0.trans f_X11_winsNow_s
  have hown : s.vm.findClass RX11 = some m.cls := hown
  have hl : lv_has ls 2 [(0, .ref (a 0)), (1, .int p1)] := hl
  have hi_X11 : ∀ w ∈ u_ws RX11 TX11 34, w ∈ wsX11_winsNow := fun _ h => List.mem_cons_of_mem _ (List.mem_append_right _ h)
  have l_fieldLink_29 := hts (Cond.fieldLink RX11 29 "HedgeGameModel" "winner" "[I") (List.mem_of_getElem? (i := 1) rfl)
  have l_fieldLink_86 := hts (Cond.fieldLink RX11 86 "HedgeGameModel" "stand" "I") (List.mem_of_getElem? (i := 2) rfl)
  have t0 : ((0 : Int32)).toInt = 0 := rfl
  have t1 : ((1 : Int32)).toInt = 1 := rfl
  have t2 : ((2 : Int32)).toInt = 2 := rfl
  refine lv_aload_n hx hb dX11_winsNow_0 rfl (lv_at hl 0 rfl) ?_
  obtain ⟨winner_1, e1⟩ : ∃ z, z = (f_X11_layWinners branches stand kindOf onOf winner) := ⟨_, rfl⟩
  rw [← e1] at he
  refine g_Vv (w2 := (wM a cA hedges branches stand turn cuts asks seen pageLength isWhole newBranches gameCuts isKept keptHedge keptStand keptTurn keptCuts keptSeen seedNow hsh kindOf onOf seenBranch seenBegins seenWins page winner_1 lasting worthBy wonBy keptKind keptBranch keptBegins keptWins partsBy)) (As := []) (rest := []) (ci := 11) (q0 := 0) ⟨hx, hb, hml, hown, hts⟩ hS hX (k_X11_layWinners (by omega) (by omega) winner_1 e1) (cwV 0 hts gX11_winsNow_X11_layWinners rfl rfl rfl (by decide +kernel) ⟨Nat.le_of_ble_eq_true rfl, Nat.le_of_ble_eq_true rfl⟩) rfl rfl rfl hl.1 rfl (Nat.le_of_ble_eq_true rfl) dX11_winsNow_1 ⟨Nat.zero_le _, Nat.zero_le _⟩ (fun H locs hX => ?_)
  refine lv_aload_n hx hb dX11_winsNow_4 rfl (lv_at hl 0 rfl) ?_
  refine va_get (D := D) (ci := 11) (v := .ref (a 7)) (C := RX11) (T := TX11) (N := 34) hx hb hts hi_X11 hown hS.1 hX.1 0 rfl rfl 16 (by decide) l_fieldLink_29 (fun _ h9 => h9) rfl dX11_winsNow_5 ?_
  refine lv_iconst (v := (2 : Int32)) hx hb dX11_winsNow_8 (by decide) ?_
  refine lv_aload_n hx hb dX11_winsNow_9 rfl (lv_at hl 0 rfl) ?_
  refine va_get (D := D) (ci := 11) (v := .int stand) (C := RX11) (T := TX11) (N := 34) hx hb hts hi_X11 hown hS.1 hX.1 0 rfl rfl 4 (by decide) l_fieldLink_86 (fun _ h9 => h9) rfl dX11_winsNow_10 ?_
  refine lv_imul hx hb dX11_winsNow_13 ?_
  refine lv_iload_n hx hb dX11_winsNow_14 rfl (lv_at hl 1 rfl) ?_
  refine lv_iadd hx hb dX11_winsNow_15 ?_
  refine va_iald hx hb hS.1 hX.1 7 6 rfl rfl (o_2sw (by omega) (by omega)) dX11_winsNow_16 ?_
  subst he
  exact g_iret hx hb hr hlocks hX hq rfl dX11_winsNow_17
abbrev rm_X11_lastsNow : Room := { frames := 6, cells := 0, slots := 0, locals := 133 }
set_option maxHeartbeats 4000000 in
set_option maxRecDepth 100000 in
theorem k_X11_lastsNow {l : Launch} {D : va_G} {E : sE} {a : Nat → Nat} {cA : Nat → ClassId} {hedges : Int32} {branches : Int32} {stand : Int32} {turn : Int32} {cuts : Int32} {asks : Int32} {seen : Int32} {pageLength : Int32} {isWhole : Int32} {newBranches : Int32} {gameCuts : Int32} {isKept : Int32} {keptHedge : Int32} {keptStand : Int32} {keptTurn : Int32} {keptCuts : Int32} {keptSeen : Int32} {seedNow : Int64} {hsh : Int64} {kindOf : Nat → Int32} {onOf : Nat → Int32} {seenBranch : Nat → Int32} {seenBegins : Nat → Int32} {seenWins : Nat → Int32} {page : Nat → Int32} {winner : Nat → Int32} {lasting : Nat → Int32} {worthBy : Nat → Int32} {wonBy : Nat → Int32} {keptKind : Nat → Int32} {keptBranch : Nat → Int32} {keptBegins : Nat → Int32} {keptWins : Nat → Int32} {partsBy : Nat → Int64} (p1 : Int32) (hbr : 0 ≤ (branches).toInt ∧ (branches).toInt ≤ 8) (hst : 0 ≤ (stand).toInt ∧ (stand).toInt < 256) (hwx : 0 ≤ (p1).toInt ∧ (p1).toInt ≤ 1) : ∀ q : Int32 × (Nat → Int32) × (Nat → Int32), q = f_X11_lastsNow branches stand kindOf onOf winner lasting p1 → gMi l yX11_lastsNow wsX11_lastsNow rm_X11_lastsNow D E (tM cA) [.ref (a 0), .int p1] (wM a cA hedges branches stand turn cuts asks seen pageLength isWhole newBranches gameCuts isKept keptHedge keptStand keptTurn keptCuts keptSeen seedNow hsh kindOf onOf seenBranch seenBegins seenWins page winner lasting worthBy wonBy keptKind keptBranch keptBegins keptWins partsBy) (wM a cA hedges branches stand turn cuts asks seen pageLength isWhole newBranches gameCuts isKept keptHedge keptStand keptTurn keptCuts keptSeen seedNow hsh kindOf onOf seenBranch seenBegins seenWins page q.2.1 q.2.2 worthBy wonBy keptKind keptBranch keptBegins keptWins partsBy) q.1 := by
  intro q he0
  refine gM_of (cc := cX11_lastsNow) (maxL := 2) (ret := (some .int)) (Qf := gQi D (wM a cA hedges branches stand turn cuts asks seen pageLength isWhole newBranches gameCuts isKept keptHedge keptStand keptTurn keptCuts keptSeen seedNow hsh kindOf onOf seenBranch seenBegins seenWins page q.2.1 q.2.2 worthBy wonBy keptKind keptBranch keptBegins keptWins partsBy) q.1) (by decide) rfl (Nat.le_of_ble_eq_true rfl) ?_
  intro p e s m args below meth c Z ls Qz hx hb hr hml hlocks hown hts hS hX hl hq
  have he := he0.trans f_X11_lastsNow_s
  have hown : s.vm.findClass RX11 = some m.cls := hown
  have hl : lv_has ls 2 [(0, .ref (a 0)), (1, .int p1)] := hl
  have hi_X11 : ∀ w ∈ u_ws RX11 TX11 34, w ∈ wsX11_lastsNow := fun _ h => List.mem_cons_of_mem _ (List.mem_append_right _ h)
  have l_fieldLink_32 := hts (Cond.fieldLink RX11 32 "HedgeGameModel" "lasting" "[I") (List.mem_of_getElem? (i := 1) rfl)
  have l_fieldLink_86 := hts (Cond.fieldLink RX11 86 "HedgeGameModel" "stand" "I") (List.mem_of_getElem? (i := 2) rfl)
  have t0 : ((0 : Int32)).toInt = 0 := rfl
  have t1 : ((1 : Int32)).toInt = 1 := rfl
  have t2 : ((2 : Int32)).toInt = 2 := rfl
  refine lv_aload_n hx hb dX11_lastsNow_0 rfl (lv_at hl 0 rfl) ?_
  obtain ⟨z_1, e1⟩ : ∃ z, z = (f_X11_layLasting branches stand kindOf onOf winner lasting) := ⟨_, rfl⟩
  rw [← e1] at he
  try dsimp only at he
  refine g_Vv (w2 := (wM a cA hedges branches stand turn cuts asks seen pageLength isWhole newBranches gameCuts isKept keptHedge keptStand keptTurn keptCuts keptSeen seedNow hsh kindOf onOf seenBranch seenBegins seenWins page z_1.1 z_1.2 worthBy wonBy keptKind keptBranch keptBegins keptWins partsBy)) (As := []) (rest := []) (ci := 11) (q0 := 0) ⟨hx, hb, hml, hown, hts⟩ hS hX (k_X11_layLasting (by omega) (by omega) z_1 e1) (cwV 0 hts gX11_lastsNow_X11_layLasting rfl rfl rfl (by decide +kernel) ⟨Nat.le_of_ble_eq_true rfl, Nat.le_of_ble_eq_true rfl⟩) rfl rfl rfl hl.1 rfl (Nat.le_of_ble_eq_true rfl) dX11_lastsNow_1 ⟨Nat.zero_le _, Nat.zero_le _⟩ (fun H locs hX => ?_)
  refine lv_aload_n hx hb dX11_lastsNow_4 rfl (lv_at hl 0 rfl) ?_
  refine va_get (D := D) (ci := 11) (v := .ref (a 8)) (C := RX11) (T := TX11) (N := 34) hx hb hts hi_X11 hown hS.1 hX.1 0 rfl rfl 17 (by decide) l_fieldLink_32 (fun _ h9 => h9) rfl dX11_lastsNow_5 ?_
  refine lv_iconst (v := (2 : Int32)) hx hb dX11_lastsNow_8 (by decide) ?_
  refine lv_aload_n hx hb dX11_lastsNow_9 rfl (lv_at hl 0 rfl) ?_
  refine va_get (D := D) (ci := 11) (v := .int stand) (C := RX11) (T := TX11) (N := 34) hx hb hts hi_X11 hown hS.1 hX.1 0 rfl rfl 4 (by decide) l_fieldLink_86 (fun _ h9 => h9) rfl dX11_lastsNow_10 ?_
  refine lv_imul hx hb dX11_lastsNow_13 ?_
  refine lv_iload_n hx hb dX11_lastsNow_14 rfl (lv_at hl 1 rfl) ?_
  refine lv_iadd hx hb dX11_lastsNow_15 ?_
  refine va_iald hx hb hS.1 hX.1 8 7 rfl rfl (o_2sw (by omega) (by omega)) dX11_lastsNow_16 ?_
  subst he
  exact g_iret hx hb hr hlocks hX hq rfl dX11_lastsNow_17
abbrev rm_X11_refused : Room := { frames := 1, cells := 0, slots := 0, locals := 22 }
set_option maxHeartbeats 4000000 in
set_option maxRecDepth 100000 in
theorem k_X11_refused {l : Launch} {D : va_G} {E : sE} {a : Nat → Nat} {cA : Nat → ClassId} {hedges : Int32} {branches : Int32} {stand : Int32} {turn : Int32} {cuts : Int32} {asks : Int32} {seen : Int32} {pageLength : Int32} {isWhole : Int32} {newBranches : Int32} {gameCuts : Int32} {isKept : Int32} {keptHedge : Int32} {keptStand : Int32} {keptTurn : Int32} {keptCuts : Int32} {keptSeen : Int32} {seedNow : Int64} {hsh : Int64} {kindOf : Nat → Int32} {onOf : Nat → Int32} {seenBranch : Nat → Int32} {seenBegins : Nat → Int32} {seenWins : Nat → Int32} {page : Nat → Int32} {winner : Nat → Int32} {lasting : Nat → Int32} {worthBy : Nat → Int32} {wonBy : Nat → Int32} {keptKind : Nat → Int32} {keptBranch : Nat → Int32} {keptBegins : Nat → Int32} {keptWins : Nat → Int32} {partsBy : Nat → Int64} (p1 : Int32)  : ∀ q : Int32, q = f_X11_refused branches p1 → gMi l yX11_refused wsX11_refused rm_X11_refused D E (tM cA) [.ref (a 0), .int p1] (wM a cA hedges branches stand turn cuts asks seen pageLength isWhole newBranches gameCuts isKept keptHedge keptStand keptTurn keptCuts keptSeen seedNow hsh kindOf onOf seenBranch seenBegins seenWins page winner lasting worthBy wonBy keptKind keptBranch keptBegins keptWins partsBy) (wM a cA hedges branches stand turn cuts asks seen pageLength isWhole newBranches gameCuts isKept keptHedge keptStand keptTurn keptCuts keptSeen seedNow hsh kindOf onOf seenBranch seenBegins seenWins page winner lasting worthBy wonBy keptKind keptBranch keptBegins keptWins partsBy) q := by
  intro q he0
  refine gM_of (cc := cX11_refused) (maxL := 2) (ret := (some .int)) (Qf := gQi D (wM a cA hedges branches stand turn cuts asks seen pageLength isWhole newBranches gameCuts isKept keptHedge keptStand keptTurn keptCuts keptSeen seedNow hsh kindOf onOf seenBranch seenBegins seenWins page winner lasting worthBy wonBy keptKind keptBranch keptBegins keptWins partsBy) q) (by decide) rfl (Nat.le_of_ble_eq_true rfl) ?_
  intro p e s m args below meth c Z ls Qz hx hb hr hml hlocks hown hts hS hX hl hq
  have he := he0.trans f_X11_refused_s
  have hown : s.vm.findClass RX11 = some m.cls := hown
  have hl : lv_has ls 2 [(0, .ref (a 0)), (1, .int p1)] := hl
  have hi_X11 : ∀ w ∈ u_ws RX11 TX11 34, w ∈ wsX11_refused := fun _ h => List.mem_cons_of_mem _ (List.mem_append_right _ h)
  have l_fieldLink_83 := hts (Cond.fieldLink RX11 83 "HedgeGameModel" "branches" "I") (List.mem_of_getElem? (i := 1) rfl)
  have tm103 : ((-103 : Int32)).toInt = -103 := rfl
  have tm102 : ((-102 : Int32)).toInt = -102 := rfl
  have t0 : ((0 : Int32)).toInt = 0 := rfl
  have t1 : ((1 : Int32)).toInt = 1 := rfl
  refine lv_iload_n hx hb dX11_refused_0 rfl (lv_at hl 1 rfl) ?_
  refine lv_iconst (v := (0 : Int32)) hx hb dX11_refused_1 (by decide) ?_
  refine lv_iconst (v := (1 : Int32)) hx hb dX11_refused_2 (by decide) ?_
  obtain ⟨r_1, e3⟩ : ∃ z, z = (f_X11_within p1 (0 : Int32) (1 : Int32)) := ⟨_, rfl⟩
  rw [← e3] at he
  refine g_Si (r := r_1) (As := [.int p1, .int (0 : Int32), .int (1 : Int32)]) (rest := []) ⟨hx, hb, hml, hown, hts⟩ hS hX (k_X11_within p1 (0 : Int32) (1 : Int32) r_1 e3) (va_cwS 3 hts gX11_refused_X11_within rfl rfl rfl (by decide +kernel) ⟨Nat.le_of_ble_eq_true rfl, Nat.le_of_ble_eq_true rfl⟩) rfl hl.1 rfl (Nat.le_of_ble_eq_true rfl) dX11_refused_3 ⟨Nat.zero_le _, Nat.zero_le _⟩ (fun H locs hX => ?_)
  have k3_0 : (r_1).toInt = 0 ∨ ((r_1).toInt = 1 ∧ ((0 : Int32)).toInt ≤ (p1).toInt ∧ (p1).toInt ≤ ((1 : Int32)).toInt) := by rw [e3]; exact r_within
  refine lv_if_ne (tgt := 14) hx hb dX11_refused_6 (by decide) (fun c6 => ?_) (fun c6 => ?_)
  · have he := he.trans (if_neg c6)
    have d6 := i_ne c6
    refine lv_aload_n hx hb dX11_refused_14 rfl (lv_at hl 0 rfl) ?_
    refine va_get (D := D) (ci := 11) (v := .int branches) (C := RX11) (T := TX11) (N := 34) hx hb hts hi_X11 hown hS.1 hX.1 0 rfl rfl 1 (by decide) l_fieldLink_83 (fun _ h9 => h9) rfl dX11_refused_15 ?_
    refine lv_if_ne (tgt := 26) hx hb dX11_refused_18 (by decide) (fun c18 => ?_) (fun c18 => ?_)
    · have he := he.trans (if_neg c18)
      have d18 := i_ne c18
      refine lv_iconst (v := (0 : Int32)) hx hb dX11_refused_26 (by decide) ?_
      subst he
      exact g_iret hx hb hr hlocks hX hq rfl dX11_refused_27
    · have he := he.trans (if_pos c18)
      have d18 := i_eq c18
      refine lv_bipush (v := (-103 : Int32)) hx hb dX11_refused_21 (by decide) ?_
      refine lv_goto (tgt := 27) hx hb dX11_refused_23 (by decide) ?_
      subst he
      exact g_iret hx hb hr hlocks hX hq rfl dX11_refused_27
  · have he := he.trans (if_pos c6)
    have d6 := i_eq c6
    refine lv_bipush (v := (-102 : Int32)) hx hb dX11_refused_9 (by decide) ?_
    refine lv_goto (tgt := 27) hx hb dX11_refused_11 (by decide) ?_
    subst he
    exact g_iret hx hb hr hlocks hX hq rfl dX11_refused_27
abbrev rm_X11_wins : Room := { frames := 6, cells := 0, slots := 0, locals := 133 }
set_option maxHeartbeats 4000000 in
set_option maxRecDepth 100000 in
theorem k_X11_wins {l : Launch} {D : va_G} {E : sE} {a : Nat → Nat} {cA : Nat → ClassId} {hedges : Int32} {branches : Int32} {stand : Int32} {turn : Int32} {cuts : Int32} {asks : Int32} {seen : Int32} {pageLength : Int32} {isWhole : Int32} {newBranches : Int32} {gameCuts : Int32} {isKept : Int32} {keptHedge : Int32} {keptStand : Int32} {keptTurn : Int32} {keptCuts : Int32} {keptSeen : Int32} {seedNow : Int64} {hsh : Int64} {kindOf : Nat → Int32} {onOf : Nat → Int32} {seenBranch : Nat → Int32} {seenBegins : Nat → Int32} {seenWins : Nat → Int32} {page : Nat → Int32} {winner : Nat → Int32} {lasting : Nat → Int32} {worthBy : Nat → Int32} {wonBy : Nat → Int32} {keptKind : Nat → Int32} {keptBranch : Nat → Int32} {keptBegins : Nat → Int32} {keptWins : Nat → Int32} {partsBy : Nat → Int64} (p1 : Int32) (hbr : 0 ≤ (branches).toInt ∧ (branches).toInt ≤ 8) (hst : 0 ≤ (stand).toInt ∧ (stand).toInt < 256) : ∀ q : Int32 × (Nat → Int32), q = f_X11_wins branches stand kindOf onOf winner p1 → gMi l yX11_wins wsX11_wins rm_X11_wins D E (tM cA) [.ref (a 0), .int p1] (wM a cA hedges branches stand turn cuts asks seen pageLength isWhole newBranches gameCuts isKept keptHedge keptStand keptTurn keptCuts keptSeen seedNow hsh kindOf onOf seenBranch seenBegins seenWins page winner lasting worthBy wonBy keptKind keptBranch keptBegins keptWins partsBy) (wM a cA hedges branches stand turn cuts asks seen pageLength isWhole newBranches gameCuts isKept keptHedge keptStand keptTurn keptCuts keptSeen seedNow hsh kindOf onOf seenBranch seenBegins seenWins page q.2 lasting worthBy wonBy keptKind keptBranch keptBegins keptWins partsBy) q.1 := by
  intro q he0
  refine gM_of (cc := cX11_wins) (maxL := 2) (ret := (some .int)) (Qf := gQi D (wM a cA hedges branches stand turn cuts asks seen pageLength isWhole newBranches gameCuts isKept keptHedge keptStand keptTurn keptCuts keptSeen seedNow hsh kindOf onOf seenBranch seenBegins seenWins page q.2 lasting worthBy wonBy keptKind keptBranch keptBegins keptWins partsBy) q.1) (by decide) rfl (Nat.le_of_ble_eq_true rfl) ?_
  intro p e s m args below meth c Z ls Qz hx hb hr hml hlocks hown hts hS hX hl hq
  have he := he0.trans f_X11_wins_s
  have hown : s.vm.findClass RX11 = some m.cls := hown
  have hl : lv_has ls 2 [(0, .ref (a 0)), (1, .int p1)] := hl
  have t0 : ((0 : Int32)).toInt = 0 := rfl
  have t1 : ((1 : Int32)).toInt = 1 := rfl
  refine lv_aload_n hx hb dX11_wins_0 rfl (lv_at hl 0 rfl) ?_
  refine lv_iload_n hx hb dX11_wins_1 rfl (lv_at hl 1 rfl) ?_
  obtain ⟨r_1, e2⟩ : ∃ z, z = (f_X11_refused branches p1) := ⟨_, rfl⟩
  rw [← e2] at he
  refine g_Vi (r := r_1) (As := [.int p1]) (rest := []) (ci := 11) (q0 := 0) ⟨hx, hb, hml, hown, hts⟩ hS hX (k_X11_refused p1 r_1 e2) (cwV 1 hts gX11_wins_X11_refused rfl rfl rfl (by decide +kernel) ⟨Nat.le_of_ble_eq_true rfl, Nat.le_of_ble_eq_true rfl⟩) rfl rfl rfl hl.1 rfl (Nat.le_of_ble_eq_true rfl) dX11_wins_2 ⟨Nat.zero_le _, Nat.zero_le _⟩ (fun H locs hX => ?_)
  have k2_0 : (r_1).toInt < 0 ∨ (0 ≤ (p1).toInt ∧ (p1).toInt ≤ 1) := by rw [e2]; exact r_refused
  refine lv_if_ge (tgt := 16) hx hb dX11_wins_5 (by decide) (fun c5 => ?_) (fun c5 => ?_)
  · have he := he.trans (if_pos c5)
    have d5 := i_le c5
    refine lv_aload_n hx hb dX11_wins_16 rfl (lv_at hl 0 rfl) ?_
    refine lv_iload_n hx hb dX11_wins_17 rfl (lv_at hl 1 rfl) ?_
    obtain ⟨z_2, e18⟩ : ∃ z, z = (f_X11_winsNow branches stand kindOf onOf winner p1) := ⟨_, rfl⟩
    rw [← e18] at he
    try dsimp only at he
    refine g_Vi (r := z_2.1) (w2 := (wM a cA hedges branches stand turn cuts asks seen pageLength isWhole newBranches gameCuts isKept keptHedge keptStand keptTurn keptCuts keptSeen seedNow hsh kindOf onOf seenBranch seenBegins seenWins page z_2.2 lasting worthBy wonBy keptKind keptBranch keptBegins keptWins partsBy)) (As := [.int p1]) (rest := []) (ci := 11) (q0 := 0) ⟨hx, hb, hml, hown, hts⟩ hS hX (k_X11_winsNow p1 (by omega) (by omega) (by omega) z_2 e18) (cwV 1 hts gX11_wins_X11_winsNow rfl rfl rfl (by decide +kernel) ⟨Nat.le_of_ble_eq_true rfl, Nat.le_of_ble_eq_true rfl⟩) rfl rfl rfl hl.1 rfl (Nat.le_of_ble_eq_true rfl) dX11_wins_18 ⟨Nat.zero_le _, Nat.zero_le _⟩ (fun H locs hX => ?_)
    subst he
    exact g_iret hx hb hr hlocks hX hq rfl dX11_wins_21
  · have he := he.trans (if_neg c5)
    have d5 := i_nle c5
    refine lv_aload_n hx hb dX11_wins_8 rfl (lv_at hl 0 rfl) ?_
    refine lv_iload_n hx hb dX11_wins_9 rfl (lv_at hl 1 rfl) ?_
    refine g_Vi (r := r_1) (As := [.int p1]) (rest := []) (ci := 11) (q0 := 0) ⟨hx, hb, hml, hown, hts⟩ hS hX (k_X11_refused p1 r_1 e2) (cwV 1 hts gX11_wins_X11_refused rfl rfl rfl (by decide +kernel) ⟨Nat.le_of_ble_eq_true rfl, Nat.le_of_ble_eq_true rfl⟩) rfl rfl rfl hl.1 rfl (Nat.le_of_ble_eq_true rfl) dX11_wins_10 ⟨Nat.zero_le _, Nat.zero_le _⟩ (fun H locs hX => ?_)
    have k10_0 : (r_1).toInt < 0 ∨ (0 ≤ (p1).toInt ∧ (p1).toInt ≤ 1) := by rw [e2]; exact r_refused
    refine lv_goto (tgt := 21) hx hb dX11_wins_13 (by decide) ?_
    subst he
    exact g_iret hx hb hr hlocks hX hq rfl dX11_wins_21
abbrev rm_X11_best : Room := { frames := 7, cells := 0, slots := 0, locals := 158 }
set_option maxHeartbeats 4000000 in
set_option maxRecDepth 100000 in
theorem k_X11_best {l : Launch} {D : va_G} {E : sE} {a : Nat → Nat} {cA : Nat → ClassId} {hedges : Int32} {branches : Int32} {stand : Int32} {turn : Int32} {cuts : Int32} {asks : Int32} {seen : Int32} {pageLength : Int32} {isWhole : Int32} {newBranches : Int32} {gameCuts : Int32} {isKept : Int32} {keptHedge : Int32} {keptStand : Int32} {keptTurn : Int32} {keptCuts : Int32} {keptSeen : Int32} {seedNow : Int64} {hsh : Int64} {kindOf : Nat → Int32} {onOf : Nat → Int32} {seenBranch : Nat → Int32} {seenBegins : Nat → Int32} {seenWins : Nat → Int32} {page : Nat → Int32} {winner : Nat → Int32} {lasting : Nat → Int32} {worthBy : Nat → Int32} {wonBy : Nat → Int32} {keptKind : Nat → Int32} {keptBranch : Nat → Int32} {keptBegins : Nat → Int32} {keptWins : Nat → Int32} {partsBy : Nat → Int64} (p1 : Int32) (hbr : 0 ≤ (branches).toInt ∧ (branches).toInt ≤ 8) (hst : 0 ≤ (stand).toInt ∧ (stand).toInt < 256) : ∀ q : Int32 × (Nat → Int32) × (Nat → Int32), q = f_X11_best branches stand kindOf onOf winner lasting p1 → gMi l yX11_best wsX11_best rm_X11_best D E (tM cA) [.ref (a 0), .int p1] (wM a cA hedges branches stand turn cuts asks seen pageLength isWhole newBranches gameCuts isKept keptHedge keptStand keptTurn keptCuts keptSeen seedNow hsh kindOf onOf seenBranch seenBegins seenWins page winner lasting worthBy wonBy keptKind keptBranch keptBegins keptWins partsBy) (wM a cA hedges branches stand turn cuts asks seen pageLength isWhole newBranches gameCuts isKept keptHedge keptStand keptTurn keptCuts keptSeen seedNow hsh kindOf onOf seenBranch seenBegins seenWins page q.2.1 q.2.2 worthBy wonBy keptKind keptBranch keptBegins keptWins partsBy) q.1 := by
  intro q he0
  refine gM_of (cc := cX11_best) (maxL := 2) (ret := (some .int)) (Qf := gQi D (wM a cA hedges branches stand turn cuts asks seen pageLength isWhole newBranches gameCuts isKept keptHedge keptStand keptTurn keptCuts keptSeen seedNow hsh kindOf onOf seenBranch seenBegins seenWins page q.2.1 q.2.2 worthBy wonBy keptKind keptBranch keptBegins keptWins partsBy) q.1) (by decide) rfl (Nat.le_of_ble_eq_true rfl) ?_
  intro p e s m args below meth c Z ls Qz hx hb hr hml hlocks hown hts hS hX hl hq
  have he := he0.trans f_X11_best_s
  have hown : s.vm.findClass RX11 = some m.cls := hown
  have hl : lv_has ls 2 [(0, .ref (a 0)), (1, .int p1)] := hl
  have t0 : ((0 : Int32)).toInt = 0 := rfl
  have t1 : ((1 : Int32)).toInt = 1 := rfl
  refine lv_aload_n hx hb dX11_best_0 rfl (lv_at hl 0 rfl) ?_
  refine lv_iload_n hx hb dX11_best_1 rfl (lv_at hl 1 rfl) ?_
  obtain ⟨r_1, e2⟩ : ∃ z, z = (f_X11_refused branches p1) := ⟨_, rfl⟩
  rw [← e2] at he
  refine g_Vi (r := r_1) (As := [.int p1]) (rest := []) (ci := 11) (q0 := 0) ⟨hx, hb, hml, hown, hts⟩ hS hX (k_X11_refused p1 r_1 e2) (cwV 1 hts gX11_best_X11_refused rfl rfl rfl (by decide +kernel) ⟨Nat.le_of_ble_eq_true rfl, Nat.le_of_ble_eq_true rfl⟩) rfl rfl rfl hl.1 rfl (Nat.le_of_ble_eq_true rfl) dX11_best_2 ⟨Nat.zero_le _, Nat.zero_le _⟩ (fun H locs hX => ?_)
  have k2_0 : (r_1).toInt < 0 ∨ (0 ≤ (p1).toInt ∧ (p1).toInt ≤ 1) := by rw [e2]; exact r_refused
  refine lv_if_ge (tgt := 16) hx hb dX11_best_5 (by decide) (fun c5 => ?_) (fun c5 => ?_)
  · have he := he.trans (if_pos c5)
    have d5 := i_le c5
    refine lv_aload_n hx hb dX11_best_16 rfl (lv_at hl 0 rfl) ?_
    refine lv_iload_n hx hb dX11_best_17 rfl (lv_at hl 1 rfl) ?_
    obtain ⟨z_2, e18⟩ : ∃ z, z = (f_X11_bestNow branches stand kindOf onOf winner lasting p1) := ⟨_, rfl⟩
    rw [← e18] at he
    try dsimp only at he
    refine g_Vi (r := z_2.1) (w2 := (wM a cA hedges branches stand turn cuts asks seen pageLength isWhole newBranches gameCuts isKept keptHedge keptStand keptTurn keptCuts keptSeen seedNow hsh kindOf onOf seenBranch seenBegins seenWins page z_2.2.1 z_2.2.2 worthBy wonBy keptKind keptBranch keptBegins keptWins partsBy)) (As := [.int p1]) (rest := []) (ci := 11) (q0 := 0) ⟨hx, hb, hml, hown, hts⟩ hS hX (k_X11_bestNow p1 (by omega) (by omega) (by omega) z_2 e18) (cwV 1 hts gX11_best_X11_bestNow rfl rfl rfl (by decide +kernel) ⟨Nat.le_of_ble_eq_true rfl, Nat.le_of_ble_eq_true rfl⟩) rfl rfl rfl hl.1 rfl (Nat.le_of_ble_eq_true rfl) dX11_best_18 ⟨Nat.zero_le _, Nat.zero_le _⟩ (fun H locs hX => ?_)
    subst he
    exact g_iret hx hb hr hlocks hX hq rfl dX11_best_21
  · have he := he.trans (if_neg c5)
    have d5 := i_nle c5
    refine lv_aload_n hx hb dX11_best_8 rfl (lv_at hl 0 rfl) ?_
    refine lv_iload_n hx hb dX11_best_9 rfl (lv_at hl 1 rfl) ?_
    refine g_Vi (r := r_1) (As := [.int p1]) (rest := []) (ci := 11) (q0 := 0) ⟨hx, hb, hml, hown, hts⟩ hS hX (k_X11_refused p1 r_1 e2) (cwV 1 hts gX11_best_X11_refused rfl rfl rfl (by decide +kernel) ⟨Nat.le_of_ble_eq_true rfl, Nat.le_of_ble_eq_true rfl⟩) rfl rfl rfl hl.1 rfl (Nat.le_of_ble_eq_true rfl) dX11_best_10 ⟨Nat.zero_le _, Nat.zero_le _⟩ (fun H locs hX => ?_)
    have k10_0 : (r_1).toInt < 0 ∨ (0 ≤ (p1).toInt ∧ (p1).toInt ≤ 1) := by rw [e2]; exact r_refused
    refine lv_goto (tgt := 21) hx hb dX11_best_13 (by decide) ?_
    subst he
    exact g_iret hx hb hr hlocks hX hq rfl dX11_best_21
abbrev rm_X11_lasts : Room := { frames := 7, cells := 0, slots := 0, locals := 154 }
set_option maxHeartbeats 4000000 in
set_option maxRecDepth 100000 in
theorem k_X11_lasts {l : Launch} {D : va_G} {E : sE} {a : Nat → Nat} {cA : Nat → ClassId} {hedges : Int32} {branches : Int32} {stand : Int32} {turn : Int32} {cuts : Int32} {asks : Int32} {seen : Int32} {pageLength : Int32} {isWhole : Int32} {newBranches : Int32} {gameCuts : Int32} {isKept : Int32} {keptHedge : Int32} {keptStand : Int32} {keptTurn : Int32} {keptCuts : Int32} {keptSeen : Int32} {seedNow : Int64} {hsh : Int64} {kindOf : Nat → Int32} {onOf : Nat → Int32} {seenBranch : Nat → Int32} {seenBegins : Nat → Int32} {seenWins : Nat → Int32} {page : Nat → Int32} {winner : Nat → Int32} {lasting : Nat → Int32} {worthBy : Nat → Int32} {wonBy : Nat → Int32} {keptKind : Nat → Int32} {keptBranch : Nat → Int32} {keptBegins : Nat → Int32} {keptWins : Nat → Int32} {partsBy : Nat → Int64} (p1 : Int32) (hbr : 0 ≤ (branches).toInt ∧ (branches).toInt ≤ 8) (hst : 0 ≤ (stand).toInt ∧ (stand).toInt < 256) : ∀ q : Int32 × (Nat → Int32) × (Nat → Int32), q = f_X11_lasts branches stand kindOf onOf winner lasting p1 → gMi l yX11_lasts wsX11_lasts rm_X11_lasts D E (tM cA) [.ref (a 0), .int p1] (wM a cA hedges branches stand turn cuts asks seen pageLength isWhole newBranches gameCuts isKept keptHedge keptStand keptTurn keptCuts keptSeen seedNow hsh kindOf onOf seenBranch seenBegins seenWins page winner lasting worthBy wonBy keptKind keptBranch keptBegins keptWins partsBy) (wM a cA hedges branches stand turn cuts asks seen pageLength isWhole newBranches gameCuts isKept keptHedge keptStand keptTurn keptCuts keptSeen seedNow hsh kindOf onOf seenBranch seenBegins seenWins page q.2.1 q.2.2 worthBy wonBy keptKind keptBranch keptBegins keptWins partsBy) q.1 := by
  intro q he0
  refine gM_of (cc := cX11_lasts) (maxL := 2) (ret := (some .int)) (Qf := gQi D (wM a cA hedges branches stand turn cuts asks seen pageLength isWhole newBranches gameCuts isKept keptHedge keptStand keptTurn keptCuts keptSeen seedNow hsh kindOf onOf seenBranch seenBegins seenWins page q.2.1 q.2.2 worthBy wonBy keptKind keptBranch keptBegins keptWins partsBy) q.1) (by decide) rfl (Nat.le_of_ble_eq_true rfl) ?_
  intro p e s m args below meth c Z ls Qz hx hb hr hml hlocks hown hts hS hX hl hq
  have he := he0.trans f_X11_lasts_s
  have hown : s.vm.findClass RX11 = some m.cls := hown
  have hl : lv_has ls 2 [(0, .ref (a 0)), (1, .int p1)] := hl
  have t0 : ((0 : Int32)).toInt = 0 := rfl
  have t1 : ((1 : Int32)).toInt = 1 := rfl
  refine lv_aload_n hx hb dX11_lasts_0 rfl (lv_at hl 0 rfl) ?_
  refine lv_iload_n hx hb dX11_lasts_1 rfl (lv_at hl 1 rfl) ?_
  obtain ⟨r_1, e2⟩ : ∃ z, z = (f_X11_refused branches p1) := ⟨_, rfl⟩
  rw [← e2] at he
  refine g_Vi (r := r_1) (As := [.int p1]) (rest := []) (ci := 11) (q0 := 0) ⟨hx, hb, hml, hown, hts⟩ hS hX (k_X11_refused p1 r_1 e2) (cwV 1 hts gX11_lasts_X11_refused rfl rfl rfl (by decide +kernel) ⟨Nat.le_of_ble_eq_true rfl, Nat.le_of_ble_eq_true rfl⟩) rfl rfl rfl hl.1 rfl (Nat.le_of_ble_eq_true rfl) dX11_lasts_2 ⟨Nat.zero_le _, Nat.zero_le _⟩ (fun H locs hX => ?_)
  have k2_0 : (r_1).toInt < 0 ∨ (0 ≤ (p1).toInt ∧ (p1).toInt ≤ 1) := by rw [e2]; exact r_refused
  refine lv_if_ge (tgt := 16) hx hb dX11_lasts_5 (by decide) (fun c5 => ?_) (fun c5 => ?_)
  · have he := he.trans (if_pos c5)
    have d5 := i_le c5
    refine lv_aload_n hx hb dX11_lasts_16 rfl (lv_at hl 0 rfl) ?_
    refine lv_iload_n hx hb dX11_lasts_17 rfl (lv_at hl 1 rfl) ?_
    obtain ⟨z_2, e18⟩ : ∃ z, z = (f_X11_lastsNow branches stand kindOf onOf winner lasting p1) := ⟨_, rfl⟩
    rw [← e18] at he
    try dsimp only at he
    refine g_Vi (r := z_2.1) (w2 := (wM a cA hedges branches stand turn cuts asks seen pageLength isWhole newBranches gameCuts isKept keptHedge keptStand keptTurn keptCuts keptSeen seedNow hsh kindOf onOf seenBranch seenBegins seenWins page z_2.2.1 z_2.2.2 worthBy wonBy keptKind keptBranch keptBegins keptWins partsBy)) (As := [.int p1]) (rest := []) (ci := 11) (q0 := 0) ⟨hx, hb, hml, hown, hts⟩ hS hX (k_X11_lastsNow p1 (by omega) (by omega) (by omega) z_2 e18) (cwV 1 hts gX11_lasts_X11_lastsNow rfl rfl rfl (by decide +kernel) ⟨Nat.le_of_ble_eq_true rfl, Nat.le_of_ble_eq_true rfl⟩) rfl rfl rfl hl.1 rfl (Nat.le_of_ble_eq_true rfl) dX11_lasts_18 ⟨Nat.zero_le _, Nat.zero_le _⟩ (fun H locs hX => ?_)
    subst he
    exact g_iret hx hb hr hlocks hX hq rfl dX11_lasts_21
  · have he := he.trans (if_neg c5)
    have d5 := i_nle c5
    refine lv_aload_n hx hb dX11_lasts_8 rfl (lv_at hl 0 rfl) ?_
    refine lv_iload_n hx hb dX11_lasts_9 rfl (lv_at hl 1 rfl) ?_
    refine g_Vi (r := r_1) (As := [.int p1]) (rest := []) (ci := 11) (q0 := 0) ⟨hx, hb, hml, hown, hts⟩ hS hX (k_X11_refused p1 r_1 e2) (cwV 1 hts gX11_lasts_X11_refused rfl rfl rfl (by decide +kernel) ⟨Nat.le_of_ble_eq_true rfl, Nat.le_of_ble_eq_true rfl⟩) rfl rfl rfl hl.1 rfl (Nat.le_of_ble_eq_true rfl) dX11_lasts_10 ⟨Nat.zero_le _, Nat.zero_le _⟩ (fun H locs hX => ?_)
    have k10_0 : (r_1).toInt < 0 ∨ (0 ≤ (p1).toInt ∧ (p1).toInt ≤ 1) := by rw [e2]; exact r_refused
    refine lv_goto (tgt := 21) hx hb dX11_lasts_13 (by decide) ?_
    subst he
    exact g_iret hx hb hr hlocks hX hq rfl dX11_lasts_21
