abbrev rm_X11_mixHedge : Room := { frames := 7, cells := 0, slots := 0, locals := 158 }
set_option maxHeartbeats 4000000 in
set_option maxRecDepth 100000 in
theorem k_X11_mixHedge {l : Launch} {D : va_G} {E : sE} {a : Nat → Nat} {cA : Nat → ClassId} {hedges : Int32} {branches : Int32} {stand : Int32} {turn : Int32} {cuts : Int32} {asks : Int32} {seen : Int32} {pageLength : Int32} {isWhole : Int32} {newBranches : Int32} {gameCuts : Int32} {isKept : Int32} {keptHedge : Int32} {keptStand : Int32} {keptTurn : Int32} {keptCuts : Int32} {keptSeen : Int32} {seedNow : Int64} {hsh : Int64} {kindOf : Nat → Int32} {onOf : Nat → Int32} {seenBranch : Nat → Int32} {seenBegins : Nat → Int32} {seenWins : Nat → Int32} {page : Nat → Int32} {winner : Nat → Int32} {lasting : Nat → Int32} {worthBy : Nat → Int32} {wonBy : Nat → Int32} {keptKind : Nat → Int32} {keptBranch : Nat → Int32} {keptBegins : Nat → Int32} {keptWins : Nat → Int32} {partsBy : Nat → Int64}  (hbr : 0 ≤ (branches).toInt ∧ (branches).toInt ≤ 8) (hst : 0 ≤ (stand).toInt ∧ (stand).toInt < 256) : ∀ q : Int64 × (Nat → Int32) × (Nat → Int32) × (Nat → Int32) × (Nat → Int64), q = f_X11_mixHedge branches stand hsh kindOf onOf winner lasting worthBy partsBy → gMv l yX11_mixHedge wsX11_mixHedge rm_X11_mixHedge D E (tM cA) [.ref (a 0)] (wM a cA hedges branches stand turn cuts asks seen pageLength isWhole newBranches gameCuts isKept keptHedge keptStand keptTurn keptCuts keptSeen seedNow hsh kindOf onOf seenBranch seenBegins seenWins page winner lasting worthBy wonBy keptKind keptBranch keptBegins keptWins partsBy) (wM a cA hedges branches stand turn cuts asks seen pageLength isWhole newBranches gameCuts isKept keptHedge keptStand keptTurn keptCuts keptSeen seedNow q.1 kindOf onOf seenBranch seenBegins seenWins page q.2.1 q.2.2.1 q.2.2.2.1 wonBy keptKind keptBranch keptBegins keptWins q.2.2.2.2) := by
  intro q he0
  refine gM_of (cc := cX11_mixHedge) (maxL := 2) (ret := none) (Qf := gQv D (wM a cA hedges branches stand turn cuts asks seen pageLength isWhole newBranches gameCuts isKept keptHedge keptStand keptTurn keptCuts keptSeen seedNow q.1 kindOf onOf seenBranch seenBegins seenWins page q.2.1 q.2.2.1 q.2.2.2.1 wonBy keptKind keptBranch keptBegins keptWins q.2.2.2.2)) (by decide) rfl (Nat.le_of_ble_eq_true rfl) ?_
  intro p e s m args below meth c Z ls Qz hx hb hr hml hlocks hown hts hS hX hl hq
  have he := he0.trans f_X11_mixHedge_s
  have hown : s.vm.findClass RX11 = some m.cls := hown
  have hl : lv_has ls 2 [(0, .ref (a 0))] := hl
  have hi_X11 : ∀ w ∈ u_ws RX11 TX11 34, w ∈ wsX11_mixHedge := fun _ h => List.mem_cons_of_mem _ (List.mem_append_right _ h)
  have l_fieldLink_13 := hts (Cond.fieldLink RX11 13 "HedgeGameModel" "onOf" "[I") (List.mem_of_getElem? (i := 4) rfl)
  have l_fieldLink_35 := hts (Cond.fieldLink RX11 35 "HedgeGameModel" "worthBy" "[I") (List.mem_of_getElem? (i := 1) rfl)
  have l_fieldLink_83 := hts (Cond.fieldLink RX11 83 "HedgeGameModel" "branches" "I") (List.mem_of_getElem? (i := 3) rfl)
  have l_fieldLink_86 := hts (Cond.fieldLink RX11 86 "HedgeGameModel" "stand" "I") (List.mem_of_getElem? (i := 2) rfl)
  have tm1 : ((-1 : Int32)).toInt = -1 := rfl
  have t0 : ((0 : Int32)).toInt = 0 := rfl
  have t1 : ((1 : Int32)).toInt = 1 := rfl
  have t2 : ((2 : Int32)).toInt = 2 := rfl
  refine lv_iconst (v := (0 : Int32)) hx hb dX11_mixHedge_0 (by decide) ?_
  refine lv_istore_n (lv' := [(1, .int (0 : Int32)), (0, .ref (a 0))]) hx hb dX11_mixHedge_1 rfl hl (by decide) rfl (fun ls hl => ?_)
  have L2_1 : ∀ (n_2_1 : Nat) (hsh_2 : Int64) (winner_3 : Nat → Int32) (lasting_4 : Nat → Int32) (partsBy_5 : Nat → Int64) (x1_6 : Int32), 0 ≤ (x1_6).toInt ∧ (x1_6).toInt ≤ 2 → 2 - (x1_6).toInt < (n_2_1 : Int) → q = f_X11_mixHedge_L2 n_2_1 branches stand hsh_2 kindOf onOf winner_3 lasting_4 worthBy partsBy_5 x1_6 → ∀ (H : Heap) (locs : List Loc) (ls : Array Slot), gX D Z s (wM a cA hedges branches stand turn cuts asks seen pageLength isWhole newBranches gameCuts isKept keptHedge keptStand keptTurn keptCuts keptSeen seedNow hsh_2 kindOf onOf seenBranch seenBegins seenWins page winner_3 lasting_4 worthBy wonBy keptKind keptBranch keptBegins keptWins partsBy_5) H locs → lv_has ls 2 [(0, .ref (a 0)), (1, .int x1_6)] → W p l e rm_X11_mixHedge s m args below meth c H locs 0 0 Qz (F0 m 2 ls []) := by
    intro n_2_1
    induction n_2_1 with
    | zero =>
      intro hsh_2 winner_3 lasting_4 partsBy_5 x1_6 ia ifu _ _ _ _ _ _
      exfalso; omega
    | succ n_2_1 ih_L2_1 =>
      intro hsh_2 winner_3 lasting_4 partsBy_5 x1_6 ia ifu he H locs ls hX hl
      have he := he.trans f_X11_mixHedge_L2_s
      refine lv_iload_n hx hb dX11_mixHedge_2 rfl (lv_at hl 1 rfl) ?_
      refine lv_iconst (v := (2 : Int32)) hx hb dX11_mixHedge_3 (by decide) ?_
      refine lv_icmp_ge (tgt := 53) hx hb dX11_mixHedge_4 (by decide) (fun c4 => ?_) (fun c4 => ?_)
      · have he := he.trans (if_pos c4)
        have d4 := i_le c4
        refine lv_aload_n hx hb dX11_mixHedge_53 rfl (lv_at hl 0 rfl) ?_
        obtain ⟨worthBy_7, e54⟩ : ∃ z, z = (f_X11_layWorth branches stand kindOf onOf worthBy) := ⟨_, rfl⟩
        rw [← e54] at he
        refine g_Vv (w2 := (wM a cA hedges branches stand turn cuts asks seen pageLength isWhole newBranches gameCuts isKept keptHedge keptStand keptTurn keptCuts keptSeen seedNow hsh_2 kindOf onOf seenBranch seenBegins seenWins page winner_3 lasting_4 worthBy_7 wonBy keptKind keptBranch keptBegins keptWins partsBy_5)) (As := []) (rest := []) (ci := 11) (q0 := 0) ⟨hx, hb, hml, hown, hts⟩ hS hX (k_X11_layWorth (by omega) (by omega) worthBy_7 e54) (cwV 0 hts gX11_mixHedge_X11_layWorth rfl rfl rfl (by decide +kernel) ⟨Nat.le_of_ble_eq_true rfl, Nat.le_of_ble_eq_true rfl⟩) rfl rfl rfl hl.1 rfl (Nat.le_of_ble_eq_true rfl) dX11_mixHedge_54 ⟨Nat.zero_le _, Nat.zero_le _⟩ (fun H locs hX => ?_)
        refine lv_aload_n hx hb dX11_mixHedge_57 rfl (lv_at hl 0 rfl) ?_
        refine lv_aload_n hx hb dX11_mixHedge_58 rfl (lv_at hl 0 rfl) ?_
        refine va_get (D := D) (ci := 11) (v := .ref (a 9)) (C := RX11) (T := TX11) (N := 34) hx hb hts hi_X11 hown hS.1 hX.1 0 rfl rfl 18 (by decide) l_fieldLink_35 (fun _ h9 => h9) rfl dX11_mixHedge_59 ?_
        refine lv_aload_n hx hb dX11_mixHedge_62 rfl (lv_at hl 0 rfl) ?_
        refine va_get (D := D) (ci := 11) (v := .int stand) (C := RX11) (T := TX11) (N := 34) hx hb hts hi_X11 hown hS.1 hX.1 0 rfl rfl 4 (by decide) l_fieldLink_86 (fun _ h9 => h9) rfl dX11_mixHedge_63 ?_
        refine va_iald hx hb hS.1 hX.1 9 8 rfl rfl (vp_in_iff.mpr (by omega)) dX11_mixHedge_66 ?_
        refine lv_i2l hx hb dX11_mixHedge_67 rfl ?_
        obtain ⟨hsh_8, e68⟩ : ∃ z, z = (f_X11_mix hsh_2 (((worthBy_7 (stand).toNatClampNeg)).toInt64)) := ⟨_, rfl⟩
        rw [← e68] at he
        refine g_Vv (w2 := (wM a cA hedges branches stand turn cuts asks seen pageLength isWhole newBranches gameCuts isKept keptHedge keptStand keptTurn keptCuts keptSeen seedNow hsh_8 kindOf onOf seenBranch seenBegins seenWins page winner_3 lasting_4 worthBy_7 wonBy keptKind keptBranch keptBegins keptWins partsBy_5)) (As := [.long (((worthBy_7 (stand).toNatClampNeg)).toInt64)]) (rest := []) (ci := 11) (q0 := 0) ⟨hx, hb, hml, hown, hts⟩ hS hX (k_X11_mix (((worthBy_7 (stand).toNatClampNeg)).toInt64) hsh_8 e68) (cwV 1 hts gX11_mixHedge_X11_mix rfl rfl rfl (by decide +kernel) ⟨Nat.le_of_ble_eq_true rfl, Nat.le_of_ble_eq_true rfl⟩) rfl rfl rfl hl.1 rfl (Nat.le_of_ble_eq_true rfl) dX11_mixHedge_68 ⟨Nat.zero_le _, Nat.zero_le _⟩ (fun H locs hX => ?_)
        refine lv_iconst (v := (0 : Int32)) hx hb dX11_mixHedge_71 (by decide) ?_
        refine lv_istore_n (lv' := [(1, .int (0 : Int32)), (0, .ref (a 0))]) hx hb dX11_mixHedge_72 rfl hl (by decide) rfl (fun ls hl => ?_)
        have L73_9 : ∀ (n_73_9 : Nat) (hsh_10 : Int64) (x1_11 : Int32), 0 ≤ (x1_11).toInt ∧ (x1_11).toInt ≤ 8 → 8 - (x1_11).toInt < (n_73_9 : Int) → q = f_X11_mixHedge_L73 n_73_9 branches stand hsh_10 kindOf onOf winner_3 lasting_4 worthBy_7 partsBy_5 x1_11 → ∀ (H : Heap) (locs : List Loc) (ls : Array Slot), gX D Z s (wM a cA hedges branches stand turn cuts asks seen pageLength isWhole newBranches gameCuts isKept keptHedge keptStand keptTurn keptCuts keptSeen seedNow hsh_10 kindOf onOf seenBranch seenBegins seenWins page winner_3 lasting_4 worthBy_7 wonBy keptKind keptBranch keptBegins keptWins partsBy_5) H locs → lv_has ls 2 [(0, .ref (a 0)), (1, .int x1_11)] → W p l e rm_X11_mixHedge s m args below meth c H locs 0 0 Qz (F0 m 73 ls []) := by
          intro n_73_9
          induction n_73_9 with
          | zero =>
            intro hsh_10 x1_11 ia ifu _ _ _ _ _ _
            exfalso; omega
          | succ n_73_9 ih_L73_9 =>
            intro hsh_10 x1_11 ia ifu he H locs ls hX hl
            have he := he.trans f_X11_mixHedge_L73_s
            refine lv_iload_n hx hb dX11_mixHedge_73 rfl (lv_at hl 1 rfl) ?_
            refine lv_aload_n hx hb dX11_mixHedge_74 rfl (lv_at hl 0 rfl) ?_
            refine va_get (D := D) (ci := 11) (v := .int branches) (C := RX11) (T := TX11) (N := 34) hx hb hts hi_X11 hown hS.1 hX.1 0 rfl rfl 1 (by decide) l_fieldLink_83 (fun _ h9 => h9) rfl dX11_mixHedge_75 ?_
            refine lv_icmp_ge (tgt := 121) hx hb dX11_mixHedge_78 (by decide) (fun c78 => ?_) (fun c78 => ?_)
            · have he := he.trans (if_pos c78)
              have d78 := i_le c78
              subst he
              exact g_vret hx hb hr hlocks hX hq dX11_mixHedge_121
            · have he := he.trans (if_neg c78)
              have d78 := i_nle c78
              refine lv_aload_n hx hb dX11_mixHedge_81 rfl (lv_at hl 0 rfl) ?_
              refine va_get (D := D) (ci := 11) (v := .ref (a 2)) (C := RX11) (T := TX11) (N := 34) hx hb hts hi_X11 hown hS.1 hX.1 0 rfl rfl 3 (by decide) l_fieldLink_13 (fun _ h9 => h9) rfl dX11_mixHedge_82 ?_
              refine lv_iload_n hx hb dX11_mixHedge_85 rfl (lv_at hl 1 rfl) ?_
              refine va_iald hx hb hS.1 hX.1 2 1 rfl rfl (vp_in_iff.mpr (by omega)) dX11_mixHedge_86 ?_
              refine lv_iconst (v := (-1 : Int32)) hx hb dX11_mixHedge_87 (by decide) ?_
              refine lv_icmp_ne (tgt := 115) hx hb dX11_mixHedge_88 (by decide) (fun c88 => ?_) (fun c88 => ?_)
              · have he := he.trans (if_neg c88)
                have d88 := i_ne c88
                refine lv_iinc (v := (x1_11 + (1 : Int32))) (lv' := [(1, .int (x1_11 + (1 : Int32))), (0, .ref (a 0))]) hx hb dX11_mixHedge_115 hl (k := 1) rfl rfl (by decide) rfl (fun ls hl => ?_)
                have s115 := i_s1 (x := x1_11) (by omega)
                refine lv_goto (tgt := 73) hx hb dX11_mixHedge_118 (by decide) ?_
                exact ih_L73_9 hsh_10 (x1_11 + (1 : Int32)) (by omega) (by omega) he _ _ _ hX (lv_sub hl [1, 0] rfl)
              · have he := he.trans (if_pos c88)
                have d88 := i_eq c88
                refine lv_aload_n hx hb dX11_mixHedge_91 rfl (lv_at hl 0 rfl) ?_
                refine lv_aload_n hx hb dX11_mixHedge_92 rfl (lv_at hl 0 rfl) ?_
                refine va_get (D := D) (ci := 11) (v := .ref (a 9)) (C := RX11) (T := TX11) (N := 34) hx hb hts hi_X11 hown hS.1 hX.1 0 rfl rfl 18 (by decide) l_fieldLink_35 (fun _ h9 => h9) rfl dX11_mixHedge_93 ?_
                refine lv_aload_n hx hb dX11_mixHedge_96 rfl (lv_at hl 0 rfl) ?_
                refine va_get (D := D) (ci := 11) (v := .int stand) (C := RX11) (T := TX11) (N := 34) hx hb hts hi_X11 hown hS.1 hX.1 0 rfl rfl 4 (by decide) l_fieldLink_86 (fun _ h9 => h9) rfl dX11_mixHedge_97 ?_
                refine lv_aload_n hx hb dX11_mixHedge_100 rfl (lv_at hl 0 rfl) ?_
                refine lv_iload_n hx hb dX11_mixHedge_101 rfl (lv_at hl 1 rfl) ?_
                obtain ⟨r_12, e102⟩ : ∃ z, z = (f_X11_above branches onOf x1_11) := ⟨_, rfl⟩
                rw [← e102] at he
                refine g_Vi (r := r_12) (As := [.int x1_11]) (rest := [.int stand, .ref (a 9), .ref (a 0)]) (ci := 11) (q0 := 0) ⟨hx, hb, hml, hown, hts⟩ hS hX (k_X11_above x1_11 (by omega) (by omega) r_12 e102) (cwV 1 hts gX11_mixHedge_X11_above rfl rfl rfl (by decide +kernel) ⟨Nat.le_of_ble_eq_true rfl, Nat.le_of_ble_eq_true rfl⟩) rfl rfl rfl hl.1 rfl (Nat.le_of_ble_eq_true rfl) dX11_mixHedge_102 ⟨Nat.zero_le _, Nat.zero_le _⟩ (fun H locs hX => ?_)
                refine lv_iconst (v := (1 : Int32)) hx hb dX11_mixHedge_105 (by decide) ?_
                refine lv_iload_n hx hb dX11_mixHedge_106 rfl (lv_at hl 1 rfl) ?_
                refine lv_ishl hx hb dX11_mixHedge_107 ?_
                refine lv_ior hx hb dX11_mixHedge_108 ?_
                refine lv_iand hx hb dX11_mixHedge_109 ?_
                refine va_iald hx hb hS.1 hX.1 9 8 rfl rfl (o_and (by omega)) dX11_mixHedge_110 ?_
                refine lv_i2l hx hb dX11_mixHedge_111 rfl ?_
                obtain ⟨hsh_13, e112⟩ : ∃ z, z = (f_X11_mix hsh_10 (((worthBy_7 ((stand &&& (r_12 ||| ((1 : Int32) <<< (x1_11 &&& 31))))).toNatClampNeg)).toInt64)) := ⟨_, rfl⟩
                rw [← e112] at he
                refine g_Vv (w2 := (wM a cA hedges branches stand turn cuts asks seen pageLength isWhole newBranches gameCuts isKept keptHedge keptStand keptTurn keptCuts keptSeen seedNow hsh_13 kindOf onOf seenBranch seenBegins seenWins page winner_3 lasting_4 worthBy_7 wonBy keptKind keptBranch keptBegins keptWins partsBy_5)) (As := [.long (((worthBy_7 ((stand &&& (r_12 ||| ((1 : Int32) <<< (x1_11 &&& 31))))).toNatClampNeg)).toInt64)]) (rest := []) (ci := 11) (q0 := 0) ⟨hx, hb, hml, hown, hts⟩ hS hX (k_X11_mix (((worthBy_7 ((stand &&& (r_12 ||| ((1 : Int32) <<< (x1_11 &&& 31))))).toNatClampNeg)).toInt64) hsh_13 e112) (cwV 1 hts gX11_mixHedge_X11_mix rfl rfl rfl (by decide +kernel) ⟨Nat.le_of_ble_eq_true rfl, Nat.le_of_ble_eq_true rfl⟩) rfl rfl rfl hl.1 rfl (Nat.le_of_ble_eq_true rfl) dX11_mixHedge_112 ⟨Nat.zero_le _, Nat.zero_le _⟩ (fun H locs hX => ?_)
                refine lv_iinc (v := (x1_11 + (1 : Int32))) (lv' := [(1, .int (x1_11 + (1 : Int32))), (0, .ref (a 0))]) hx hb dX11_mixHedge_115 hl (k := 1) rfl rfl (by decide) rfl (fun ls hl => ?_)
                have s115 := i_s1 (x := x1_11) (by omega)
                refine lv_goto (tgt := 73) hx hb dX11_mixHedge_118 (by decide) ?_
                exact ih_L73_9 hsh_13 (x1_11 + (1 : Int32)) (by omega) (by omega) he _ _ _ hX (lv_sub hl [1, 0] rfl)
        exact L73_9 9 hsh_8 (0 : Int32) (by omega) (by omega) he _ _ _ hX (lv_sub hl [1, 0] rfl)
      · have he := he.trans (if_neg c4)
        have d4 := i_nle c4
        refine lv_aload_n hx hb dX11_mixHedge_7 rfl (lv_at hl 0 rfl) ?_
        refine lv_aload_n hx hb dX11_mixHedge_8 rfl (lv_at hl 0 rfl) ?_
        refine lv_iload_n hx hb dX11_mixHedge_9 rfl (lv_at hl 1 rfl) ?_
        obtain ⟨z_14, e10⟩ : ∃ z, z = (f_X11_winsNow branches stand kindOf onOf winner_3 x1_6) := ⟨_, rfl⟩
        rw [← e10] at he
        try dsimp only at he
        refine g_Vi (r := z_14.1) (w2 := (wM a cA hedges branches stand turn cuts asks seen pageLength isWhole newBranches gameCuts isKept keptHedge keptStand keptTurn keptCuts keptSeen seedNow hsh_2 kindOf onOf seenBranch seenBegins seenWins page z_14.2 lasting_4 worthBy wonBy keptKind keptBranch keptBegins keptWins partsBy_5)) (As := [.int x1_6]) (rest := [.ref (a 0)]) (ci := 11) (q0 := 0) ⟨hx, hb, hml, hown, hts⟩ hS hX (k_X11_winsNow x1_6 (by omega) (by omega) (by omega) z_14 e10) (cwV 1 hts gX11_mixHedge_X11_winsNow rfl rfl rfl (by decide +kernel) ⟨Nat.le_of_ble_eq_true rfl, Nat.le_of_ble_eq_true rfl⟩) rfl rfl rfl hl.1 rfl (Nat.le_of_ble_eq_true rfl) dX11_mixHedge_10 ⟨Nat.zero_le _, Nat.zero_le _⟩ (fun H locs hX => ?_)
        refine lv_i2l hx hb dX11_mixHedge_13 rfl ?_
        obtain ⟨hsh_15, e14⟩ : ∃ z, z = (f_X11_mix hsh_2 ((z_14.1).toInt64)) := ⟨_, rfl⟩
        rw [← e14] at he
        refine g_Vv (w2 := (wM a cA hedges branches stand turn cuts asks seen pageLength isWhole newBranches gameCuts isKept keptHedge keptStand keptTurn keptCuts keptSeen seedNow hsh_15 kindOf onOf seenBranch seenBegins seenWins page z_14.2 lasting_4 worthBy wonBy keptKind keptBranch keptBegins keptWins partsBy_5)) (As := [.long ((z_14.1).toInt64)]) (rest := []) (ci := 11) (q0 := 0) ⟨hx, hb, hml, hown, hts⟩ hS hX (k_X11_mix ((z_14.1).toInt64) hsh_15 e14) (cwV 1 hts gX11_mixHedge_X11_mix rfl rfl rfl (by decide +kernel) ⟨Nat.le_of_ble_eq_true rfl, Nat.le_of_ble_eq_true rfl⟩) rfl rfl rfl hl.1 rfl (Nat.le_of_ble_eq_true rfl) dX11_mixHedge_14 ⟨Nat.zero_le _, Nat.zero_le _⟩ (fun H locs hX => ?_)
        refine lv_aload_n hx hb dX11_mixHedge_17 rfl (lv_at hl 0 rfl) ?_
        refine lv_aload_n hx hb dX11_mixHedge_18 rfl (lv_at hl 0 rfl) ?_
        refine lv_iload_n hx hb dX11_mixHedge_19 rfl (lv_at hl 1 rfl) ?_
        obtain ⟨z_16, e20⟩ : ∃ z, z = (f_X11_bestNow branches stand kindOf onOf z_14.2 lasting_4 x1_6) := ⟨_, rfl⟩
        rw [← e20] at he
        try dsimp only at he
        refine g_Vi (r := z_16.1) (w2 := (wM a cA hedges branches stand turn cuts asks seen pageLength isWhole newBranches gameCuts isKept keptHedge keptStand keptTurn keptCuts keptSeen seedNow hsh_15 kindOf onOf seenBranch seenBegins seenWins page z_16.2.1 z_16.2.2 worthBy wonBy keptKind keptBranch keptBegins keptWins partsBy_5)) (As := [.int x1_6]) (rest := [.ref (a 0)]) (ci := 11) (q0 := 0) ⟨hx, hb, hml, hown, hts⟩ hS hX (k_X11_bestNow x1_6 (by omega) (by omega) (by omega) z_16 e20) (cwV 1 hts gX11_mixHedge_X11_bestNow rfl rfl rfl (by decide +kernel) ⟨Nat.le_of_ble_eq_true rfl, Nat.le_of_ble_eq_true rfl⟩) rfl rfl rfl hl.1 rfl (Nat.le_of_ble_eq_true rfl) dX11_mixHedge_20 ⟨Nat.zero_le _, Nat.zero_le _⟩ (fun H locs hX => ?_)
        refine lv_i2l hx hb dX11_mixHedge_23 rfl ?_
        obtain ⟨hsh_17, e24⟩ : ∃ z, z = (f_X11_mix hsh_15 ((z_16.1).toInt64)) := ⟨_, rfl⟩
        rw [← e24] at he
        refine g_Vv (w2 := (wM a cA hedges branches stand turn cuts asks seen pageLength isWhole newBranches gameCuts isKept keptHedge keptStand keptTurn keptCuts keptSeen seedNow hsh_17 kindOf onOf seenBranch seenBegins seenWins page z_16.2.1 z_16.2.2 worthBy wonBy keptKind keptBranch keptBegins keptWins partsBy_5)) (As := [.long ((z_16.1).toInt64)]) (rest := []) (ci := 11) (q0 := 0) ⟨hx, hb, hml, hown, hts⟩ hS hX (k_X11_mix ((z_16.1).toInt64) hsh_17 e24) (cwV 1 hts gX11_mixHedge_X11_mix rfl rfl rfl (by decide +kernel) ⟨Nat.le_of_ble_eq_true rfl, Nat.le_of_ble_eq_true rfl⟩) rfl rfl rfl hl.1 rfl (Nat.le_of_ble_eq_true rfl) dX11_mixHedge_24 ⟨Nat.zero_le _, Nat.zero_le _⟩ (fun H locs hX => ?_)
        refine lv_aload_n hx hb dX11_mixHedge_27 rfl (lv_at hl 0 rfl) ?_
        refine lv_aload_n hx hb dX11_mixHedge_28 rfl (lv_at hl 0 rfl) ?_
        refine lv_iload_n hx hb dX11_mixHedge_29 rfl (lv_at hl 1 rfl) ?_
        obtain ⟨z_18, e30⟩ : ∃ z, z = (f_X11_lastsNow branches stand kindOf onOf z_16.2.1 z_16.2.2 x1_6) := ⟨_, rfl⟩
        rw [← e30] at he
        try dsimp only at he
        refine g_Vi (r := z_18.1) (w2 := (wM a cA hedges branches stand turn cuts asks seen pageLength isWhole newBranches gameCuts isKept keptHedge keptStand keptTurn keptCuts keptSeen seedNow hsh_17 kindOf onOf seenBranch seenBegins seenWins page z_18.2.1 z_18.2.2 worthBy wonBy keptKind keptBranch keptBegins keptWins partsBy_5)) (As := [.int x1_6]) (rest := [.ref (a 0)]) (ci := 11) (q0 := 0) ⟨hx, hb, hml, hown, hts⟩ hS hX (k_X11_lastsNow x1_6 (by omega) (by omega) (by omega) z_18 e30) (cwV 1 hts gX11_mixHedge_X11_lastsNow rfl rfl rfl (by decide +kernel) ⟨Nat.le_of_ble_eq_true rfl, Nat.le_of_ble_eq_true rfl⟩) rfl rfl rfl hl.1 rfl (Nat.le_of_ble_eq_true rfl) dX11_mixHedge_30 ⟨Nat.zero_le _, Nat.zero_le _⟩ (fun H locs hX => ?_)
        refine lv_i2l hx hb dX11_mixHedge_33 rfl ?_
        obtain ⟨hsh_19, e34⟩ : ∃ z, z = (f_X11_mix hsh_17 ((z_18.1).toInt64)) := ⟨_, rfl⟩
        rw [← e34] at he
        refine g_Vv (w2 := (wM a cA hedges branches stand turn cuts asks seen pageLength isWhole newBranches gameCuts isKept keptHedge keptStand keptTurn keptCuts keptSeen seedNow hsh_19 kindOf onOf seenBranch seenBegins seenWins page z_18.2.1 z_18.2.2 worthBy wonBy keptKind keptBranch keptBegins keptWins partsBy_5)) (As := [.long ((z_18.1).toInt64)]) (rest := []) (ci := 11) (q0 := 0) ⟨hx, hb, hml, hown, hts⟩ hS hX (k_X11_mix ((z_18.1).toInt64) hsh_19 e34) (cwV 1 hts gX11_mixHedge_X11_mix rfl rfl rfl (by decide +kernel) ⟨Nat.le_of_ble_eq_true rfl, Nat.le_of_ble_eq_true rfl⟩) rfl rfl rfl hl.1 rfl (Nat.le_of_ble_eq_true rfl) dX11_mixHedge_34 ⟨Nat.zero_le _, Nat.zero_le _⟩ (fun H locs hX => ?_)
        refine lv_aload_n hx hb dX11_mixHedge_37 rfl (lv_at hl 0 rfl) ?_
        refine lv_aload_n hx hb dX11_mixHedge_38 rfl (lv_at hl 0 rfl) ?_
        refine lv_iload_n hx hb dX11_mixHedge_39 rfl (lv_at hl 1 rfl) ?_
        obtain ⟨z_20, e40⟩ : ∃ z, z = (f_X11_likelyNow branches stand kindOf onOf partsBy_5 x1_6) := ⟨_, rfl⟩
        rw [← e40] at he
        try dsimp only at he
        refine g_Vi (r := z_20.1) (w2 := (wM a cA hedges branches stand turn cuts asks seen pageLength isWhole newBranches gameCuts isKept keptHedge keptStand keptTurn keptCuts keptSeen seedNow hsh_19 kindOf onOf seenBranch seenBegins seenWins page z_18.2.1 z_18.2.2 worthBy wonBy keptKind keptBranch keptBegins keptWins z_20.2)) (As := [.int x1_6]) (rest := [.ref (a 0)]) (ci := 11) (q0 := 0) ⟨hx, hb, hml, hown, hts⟩ hS hX (k_X11_likelyNow x1_6 (by omega) (by omega) (by omega) z_20 e40) (cwV 1 hts gX11_mixHedge_X11_likelyNow rfl rfl rfl (by decide +kernel) ⟨Nat.le_of_ble_eq_true rfl, Nat.le_of_ble_eq_true rfl⟩) rfl rfl rfl hl.1 rfl (Nat.le_of_ble_eq_true rfl) dX11_mixHedge_40 ⟨Nat.zero_le _, Nat.zero_le _⟩ (fun H locs hX => ?_)
        refine lv_i2l hx hb dX11_mixHedge_43 rfl ?_
        obtain ⟨hsh_21, e44⟩ : ∃ z, z = (f_X11_mix hsh_19 ((z_20.1).toInt64)) := ⟨_, rfl⟩
        rw [← e44] at he
        refine g_Vv (w2 := (wM a cA hedges branches stand turn cuts asks seen pageLength isWhole newBranches gameCuts isKept keptHedge keptStand keptTurn keptCuts keptSeen seedNow hsh_21 kindOf onOf seenBranch seenBegins seenWins page z_18.2.1 z_18.2.2 worthBy wonBy keptKind keptBranch keptBegins keptWins z_20.2)) (As := [.long ((z_20.1).toInt64)]) (rest := []) (ci := 11) (q0 := 0) ⟨hx, hb, hml, hown, hts⟩ hS hX (k_X11_mix ((z_20.1).toInt64) hsh_21 e44) (cwV 1 hts gX11_mixHedge_X11_mix rfl rfl rfl (by decide +kernel) ⟨Nat.le_of_ble_eq_true rfl, Nat.le_of_ble_eq_true rfl⟩) rfl rfl rfl hl.1 rfl (Nat.le_of_ble_eq_true rfl) dX11_mixHedge_44 ⟨Nat.zero_le _, Nat.zero_le _⟩ (fun H locs hX => ?_)
        refine lv_iinc (v := (x1_6 + (1 : Int32))) (lv' := [(1, .int (x1_6 + (1 : Int32))), (0, .ref (a 0))]) hx hb dX11_mixHedge_47 hl (k := 1) rfl rfl (by decide) rfl (fun ls hl => ?_)
        have s47 := i_s1 (x := x1_6) (by omega)
        refine lv_goto (tgt := 2) hx hb dX11_mixHedge_50 (by decide) ?_
        exact ih_L2_1 hsh_21 z_18.2.1 z_18.2.2 z_20.2 (x1_6 + (1 : Int32)) (by omega) (by omega) he _ _ _ hX (lv_sub hl [1, 0] rfl)
  exact L2_1 3 hsh winner lasting partsBy (0 : Int32) (by omega) (by omega) he _ _ _ hX (lv_sub hl [1, 0] rfl)
abbrev rm_X11_digest : Room := { frames := 9, cells := 0, slots := 0, locals := 204 }
set_option maxHeartbeats 4000000 in
set_option maxRecDepth 100000 in
theorem k_X11_digest {l : Launch} {D : va_G} {E : sE} {a : Nat → Nat} {cA : Nat → ClassId} {hedges : Int32} {branches : Int32} {stand : Int32} {turn : Int32} {cuts : Int32} {asks : Int32} {seen : Int32} {pageLength : Int32} {isWhole : Int32} {newBranches : Int32} {gameCuts : Int32} {isKept : Int32} {keptHedge : Int32} {keptStand : Int32} {keptTurn : Int32} {keptCuts : Int32} {keptSeen : Int32} {seedNow : Int64} {hsh : Int64} {kindOf : Nat → Int32} {onOf : Nat → Int32} {seenBranch : Nat → Int32} {seenBegins : Nat → Int32} {seenWins : Nat → Int32} {page : Nat → Int32} {winner : Nat → Int32} {lasting : Nat → Int32} {worthBy : Nat → Int32} {wonBy : Nat → Int32} {keptKind : Nat → Int32} {keptBranch : Nat → Int32} {keptBegins : Nat → Int32} {keptWins : Nat → Int32} {partsBy : Nat → Int64}  (hbr : 0 ≤ (branches).toInt ∧ (branches).toInt ≤ 8) (hst : 0 ≤ (stand).toInt ∧ (stand).toInt < 256) (hse : 0 ≤ (seen).toInt ∧ (seen).toInt ≤ 6) (hsb : ∀ k : Nat, (k : Int) < (seen).toInt → 0 ≤ (seenBegins k).toInt ∧ (seenBegins k).toInt ≤ 1) (hpl : 0 ≤ (pageLength).toInt ∧ (pageLength).toInt ≤ 26) : ∀ q : Int64 × Int64 × (Nat → Int32) × (Nat → Int32) × (Nat → Int32) × (Nat → Int32) × (Nat → Int32) × (Nat → Int64), q = f_X11_digest hedges branches stand turn cuts asks seen pageLength hsh kindOf onOf seenBranch seenBegins seenWins page winner lasting worthBy wonBy partsBy → gMl l yX11_digest wsX11_digest rm_X11_digest D E (tM cA) [.ref (a 0)] (wM a cA hedges branches stand turn cuts asks seen pageLength isWhole newBranches gameCuts isKept keptHedge keptStand keptTurn keptCuts keptSeen seedNow hsh kindOf onOf seenBranch seenBegins seenWins page winner lasting worthBy wonBy keptKind keptBranch keptBegins keptWins partsBy) (wM a cA hedges branches stand turn cuts asks seen pageLength isWhole newBranches gameCuts isKept keptHedge keptStand keptTurn keptCuts keptSeen seedNow q.2.1 q.2.2.1 onOf seenBranch seenBegins seenWins page q.2.2.2.1 q.2.2.2.2.1 q.2.2.2.2.2.1 q.2.2.2.2.2.2.1 keptKind keptBranch keptBegins keptWins q.2.2.2.2.2.2.2) q.1 := by
  intro q he0
  refine gM_of (cc := cX11_digest) (maxL := 3) (ret := (some .long)) (Qf := gQl D (wM a cA hedges branches stand turn cuts asks seen pageLength isWhole newBranches gameCuts isKept keptHedge keptStand keptTurn keptCuts keptSeen seedNow q.2.1 q.2.2.1 onOf seenBranch seenBegins seenWins page q.2.2.2.1 q.2.2.2.2.1 q.2.2.2.2.2.1 q.2.2.2.2.2.2.1 keptKind keptBranch keptBegins keptWins q.2.2.2.2.2.2.2) q.1) (by decide) rfl (Nat.le_of_ble_eq_true rfl) ?_
  intro p e s m args below meth c Z ls Qz hx hb hr hml hlocks hown hts hS hX hl hq
  have he := he0.trans f_X11_digest_s
  have hown : s.vm.findClass RX11 = some m.cls := hown
  have hl : lv_has ls 3 [(0, .ref (a 0))] := hl
  have hi_X11 : ∀ w ∈ u_ws RX11 TX11 34, w ∈ wsX11_digest := fun _ h => List.mem_cons_of_mem _ (List.mem_append_right _ h)
  have l_constantLong_264 := hts (Cond.constantLong RX11 264 (1283)) (List.mem_of_getElem? (i := 1) rfl)
  have l_fieldLink_25 := hts (Cond.fieldLink RX11 25 "HedgeGameModel" "page" "[B") (List.mem_of_getElem? (i := 5) rfl)
  have l_fieldLink_257 := hts (Cond.fieldLink RX11 257 "HedgeGameModel" "h" "J") (List.mem_of_getElem? (i := 2) rfl)
  have l_fieldLink_61 := hts (Cond.fieldLink RX11 61 "HedgeGameModel" "pageLength" "I") (List.mem_of_getElem? (i := 4) rfl)
  have l_fieldLink_83 := hts (Cond.fieldLink RX11 83 "HedgeGameModel" "branches" "I") (List.mem_of_getElem? (i := 3) rfl)
  have t0 : ((0 : Int32)).toInt = 0 := rfl
  have t1 : ((1 : Int32)).toInt = 1 := rfl
  have t8 : ((8 : Int32)).toInt = 8 := rfl
  have t11 : ((11 : Int32)).toInt = 11 := rfl
  refine lv_aload_n hx hb dX11_digest_0 rfl (lv_at hl 0 rfl) ?_
  refine lv_ldc2 (v := (1283 : Int64)) hx hb hown l_constantLong_264 dX11_digest_1 ?_
  refine va_put (D := D) (ci := 11) (v := .long (1283 : Int64)) (ty := .long) (C := RX11) (T := TX11) (N := 34) hx hb hts hi_X11 tyX11 tyX11_ok nmX11 hown hS.1 hX.1 hX.2.1 hX.2.2 0 rfl rfl 33 (by decide) l_fieldLink_257 (fun _ h9 => h9) rfl (by decide +kernel) rfl rfl (Nat.le_of_ble_eq_true rfl) dX11_digest_4 (fun H locs hP hD hs => ?_)
  have hX : gX D Z s (wM a cA hedges branches stand turn cuts asks seen pageLength isWhole newBranches gameCuts isKept keptHedge keptStand keptTurn keptCuts keptSeen seedNow (1283 : Int64) kindOf onOf seenBranch seenBegins seenWins page winner lasting worthBy wonBy keptKind keptBranch keptBegins keptWins partsBy) H locs := ⟨hP, hD, hs⟩
  refine lv_iconst (v := (0 : Int32)) hx hb dX11_digest_7 (by decide) ?_
  refine lv_istore_n (lv' := [(1, .int (0 : Int32)), (0, .ref (a 0))]) hx hb dX11_digest_8 rfl hl (by decide) rfl (fun ls hl => ?_)
  have L9_1 : ∀ (n_9_1 : Nat) (hsh_2 : Int64) (kindOf_3 : Nat → Int32) (winner_4 : Nat → Int32) (wonBy_5 : Nat → Int32) (x1_6 : Int32), 0 ≤ (x1_6).toInt ∧ (x1_6).toInt ≤ 8 → 8 - (x1_6).toInt < (n_9_1 : Int) → q = f_X11_digest_L9 n_9_1 hedges branches stand turn cuts asks seen pageLength hsh_2 kindOf_3 onOf seenBranch seenBegins seenWins page winner_4 lasting worthBy wonBy_5 partsBy x1_6 → ∀ (H : Heap) (locs : List Loc) (ls : Array Slot), gX D Z s (wM a cA hedges branches stand turn cuts asks seen pageLength isWhole newBranches gameCuts isKept keptHedge keptStand keptTurn keptCuts keptSeen seedNow hsh_2 kindOf_3 onOf seenBranch seenBegins seenWins page winner_4 lasting worthBy wonBy_5 keptKind keptBranch keptBegins keptWins partsBy) H locs → lv_has ls 3 [(0, .ref (a 0)), (1, .int x1_6)] → W p l e rm_X11_digest s m args below meth c H locs 0 0 Qz (F0 m 9 ls []) := by
    intro n_9_1
    induction n_9_1 with
    | zero =>
      intro hsh_2 kindOf_3 winner_4 wonBy_5 x1_6 ia ifu _ _ _ _ _ _
      exfalso; omega
    | succ n_9_1 ih_L9_1 =>
      intro hsh_2 kindOf_3 winner_4 wonBy_5 x1_6 ia ifu he H locs ls hX hl
      have he := he.trans f_X11_digest_L9_s
      refine lv_iload_n hx hb dX11_digest_9 rfl (lv_at hl 1 rfl) ?_
      refine lv_aload_n hx hb dX11_digest_10 rfl (lv_at hl 0 rfl) ?_
      refine va_get (D := D) (ci := 11) (v := .int branches) (C := RX11) (T := TX11) (N := 34) hx hb hts hi_X11 hown hS.1 hX.1 0 rfl rfl 1 (by decide) l_fieldLink_83 (fun _ h9 => h9) rfl dX11_digest_11 ?_
      refine lv_icmp_ge (tgt := 48) hx hb dX11_digest_14 (by decide) (fun c14 => ?_) (fun c14 => ?_)
      · have he := he.trans (if_pos c14)
        have d14 := i_le c14
        refine lv_aload_n hx hb dX11_digest_48 rfl (lv_at hl 0 rfl) ?_
        refine va_get (D := D) (ci := 11) (v := .int branches) (C := RX11) (T := TX11) (N := 34) hx hb hts hi_X11 hown hS.1 hX.1 0 rfl rfl 1 (by decide) l_fieldLink_83 (fun _ h9 => h9) rfl dX11_digest_49 ?_
        refine lv_if_le (tgt := 59) hx hb dX11_digest_52 (by decide) (fun c52 => ?_) (fun c52 => ?_)
        · have he := he.trans (if_pos c52)
          have d52 := i_le c52
          refine lv_iconst (v := (0 : Int32)) hx hb dX11_digest_59 (by decide) ?_
          refine lv_istore_n (lv' := [(1, .int (0 : Int32)), (0, .ref (a 0))]) hx hb dX11_digest_60 rfl hl (by decide) rfl (fun ls hl => ?_)
          have L61_7 : ∀ (n_61_7 : Nat) (hsh_8 : Int64) (x1_9 : Int32), 0 ≤ (x1_9).toInt ∧ (x1_9).toInt ≤ 26 → 26 - (x1_9).toInt < (n_61_7 : Int) → q = f_X11_digest_L61 n_61_7 hedges branches stand turn cuts asks seen pageLength hsh_8 kindOf_3 onOf seenBranch seenBegins seenWins page winner_4 lasting worthBy wonBy_5 partsBy x1_9 → ∀ (H : Heap) (locs : List Loc) (ls : Array Slot), gX D Z s (wM a cA hedges branches stand turn cuts asks seen pageLength isWhole newBranches gameCuts isKept keptHedge keptStand keptTurn keptCuts keptSeen seedNow hsh_8 kindOf_3 onOf seenBranch seenBegins seenWins page winner_4 lasting worthBy wonBy_5 keptKind keptBranch keptBegins keptWins partsBy) H locs → lv_has ls 3 [(0, .ref (a 0)), (1, .int x1_9)] → W p l e rm_X11_digest s m args below meth c H locs 0 0 Qz (F0 m 61 ls []) := by
            intro n_61_7
            induction n_61_7 with
            | zero =>
              intro hsh_8 x1_9 ia ifu _ _ _ _ _ _
              exfalso; omega
            | succ n_61_7 ih_L61_7 =>
              intro hsh_8 x1_9 ia ifu he H locs ls hX hl
              have he := he.trans f_X11_digest_L61_s
              refine lv_iload_n hx hb dX11_digest_61 rfl (lv_at hl 1 rfl) ?_
              refine lv_aload_n hx hb dX11_digest_62 rfl (lv_at hl 0 rfl) ?_
              refine va_get (D := D) (ci := 11) (v := .int pageLength) (C := RX11) (T := TX11) (N := 34) hx hb hts hi_X11 hown hS.1 hX.1 0 rfl rfl 12 (by decide) l_fieldLink_61 (fun _ h9 => h9) rfl dX11_digest_63 ?_
              refine lv_icmp_ge (tgt := 86) hx hb dX11_digest_66 (by decide) (fun c66 => ?_) (fun c66 => ?_)
              · have he := he.trans (if_pos c66)
                have d66 := i_le c66
                refine lv_iconst (v := (0 : Int32)) hx hb dX11_digest_86 (by decide) ?_
                refine lv_istore_n (lv' := [(1, .int (0 : Int32)), (0, .ref (a 0))]) hx hb dX11_digest_87 rfl hl (by decide) rfl (fun ls hl => ?_)
                have L88_10 : ∀ (n_88_10 : Nat) (hsh_11 : Int64) (x1_12 : Int32), 0 ≤ (x1_12).toInt ∧ (x1_12).toInt ≤ 11 → 11 - (x1_12).toInt < (n_88_10 : Int) → q = f_X11_digest_L88 n_88_10 hedges branches stand turn cuts asks seen pageLength hsh_11 kindOf_3 onOf seenBranch seenBegins seenWins page winner_4 lasting worthBy wonBy_5 partsBy x1_12 → ∀ (H : Heap) (locs : List Loc) (ls : Array Slot), gX D Z s (wM a cA hedges branches stand turn cuts asks seen pageLength isWhole newBranches gameCuts isKept keptHedge keptStand keptTurn keptCuts keptSeen seedNow hsh_11 kindOf_3 onOf seenBranch seenBegins seenWins page winner_4 lasting worthBy wonBy_5 keptKind keptBranch keptBegins keptWins partsBy) H locs → lv_has ls 3 [(0, .ref (a 0)), (1, .int x1_12)] → W p l e rm_X11_digest s m args below meth c H locs 0 0 Qz (F0 m 88 ls []) := by
                  intro n_88_10
                  induction n_88_10 with
                  | zero =>
                    intro hsh_11 x1_12 ia ifu _ _ _ _ _ _
                    exfalso; omega
                  | succ n_88_10 ih_L88_10 =>
                    intro hsh_11 x1_12 ia ifu he H locs ls hX hl
                    have he := he.trans f_X11_digest_L88_s
                    refine lv_iload_n hx hb dX11_digest_88 rfl (lv_at hl 1 rfl) ?_
                    refine lv_bipush (v := (11 : Int32)) hx hb dX11_digest_89 (by decide) ?_
                    refine lv_icmp_ge (tgt := 110) hx hb dX11_digest_91 (by decide) (fun c91 => ?_) (fun c91 => ?_)
                    · have he := he.trans (if_pos c91)
                      have d91 := i_le c91
                      refine lv_aload_n hx hb dX11_digest_110 rfl (lv_at hl 0 rfl) ?_
                      refine va_get (D := D) (ci := 11) (v := .long hsh_11) (C := RX11) (T := TX11) (N := 34) hx hb hts hi_X11 hown hS.1 hX.1 0 rfl rfl 33 (by decide) l_fieldLink_257 (fun _ h9 => h9) rfl dX11_digest_111 ?_
                      subst he
                      exact g_lret hx hb hr hlocks hX hq rfl dX11_digest_114
                    · have he := he.trans (if_neg c91)
                      have d91 := i_nle c91
                      refine lv_aload_n hx hb dX11_digest_94 rfl (lv_at hl 0 rfl) ?_
                      refine lv_aload_n hx hb dX11_digest_95 rfl (lv_at hl 0 rfl) ?_
                      refine lv_iload_n hx hb dX11_digest_96 rfl (lv_at hl 1 rfl) ?_
                      obtain ⟨r_13, e97⟩ : ∃ z, z = (f_X11_howMany hedges branches stand turn cuts asks seen pageLength kindOf_3 onOf x1_12) := ⟨_, rfl⟩
                      rw [← e97] at he
                      refine g_Vi (r := r_13) (As := [.int x1_12]) (rest := [.ref (a 0)]) (ci := 11) (q0 := 0) ⟨hx, hb, hml, hown, hts⟩ hS hX (k_X11_howMany x1_12 (by omega) r_13 e97) (cwV 1 hts gX11_digest_X11_howMany rfl rfl rfl (by decide +kernel) ⟨Nat.le_of_ble_eq_true rfl, Nat.le_of_ble_eq_true rfl⟩) rfl rfl rfl hl.1 rfl (Nat.le_of_ble_eq_true rfl) dX11_digest_97 ⟨Nat.zero_le _, Nat.zero_le _⟩ (fun H locs hX => ?_)
                      refine lv_i2l hx hb dX11_digest_100 rfl ?_
                      obtain ⟨hsh_14, e101⟩ : ∃ z, z = (f_X11_mix hsh_11 ((r_13).toInt64)) := ⟨_, rfl⟩
                      rw [← e101] at he
                      refine g_Vv (w2 := (wM a cA hedges branches stand turn cuts asks seen pageLength isWhole newBranches gameCuts isKept keptHedge keptStand keptTurn keptCuts keptSeen seedNow hsh_14 kindOf_3 onOf seenBranch seenBegins seenWins page winner_4 lasting worthBy wonBy_5 keptKind keptBranch keptBegins keptWins partsBy)) (As := [.long ((r_13).toInt64)]) (rest := []) (ci := 11) (q0 := 0) ⟨hx, hb, hml, hown, hts⟩ hS hX (k_X11_mix ((r_13).toInt64) hsh_14 e101) (cwV 1 hts gX11_digest_X11_mix rfl rfl rfl (by decide +kernel) ⟨Nat.le_of_ble_eq_true rfl, Nat.le_of_ble_eq_true rfl⟩) rfl rfl rfl hl.1 rfl (Nat.le_of_ble_eq_true rfl) dX11_digest_101 ⟨Nat.zero_le _, Nat.zero_le _⟩ (fun H locs hX => ?_)
                      refine lv_iinc (v := (x1_12 + (1 : Int32))) (lv' := [(1, .int (x1_12 + (1 : Int32))), (0, .ref (a 0))]) hx hb dX11_digest_104 hl (k := 1) rfl rfl (by decide) rfl (fun ls hl => ?_)
                      have s104 := i_s1 (x := x1_12) (by omega)
                      refine lv_goto (tgt := 88) hx hb dX11_digest_107 (by decide) ?_
                      exact ih_L88_10 hsh_14 (x1_12 + (1 : Int32)) (by omega) (by omega) he _ _ _ hX (lv_sub hl [1, 0] rfl)
                exact L88_10 12 hsh_8 (0 : Int32) (by omega) (by omega) he _ _ _ hX (lv_sub hl [1, 0] rfl)
              · have he := he.trans (if_neg c66)
                have d66 := i_nle c66
                refine lv_aload_n hx hb dX11_digest_69 rfl (lv_at hl 0 rfl) ?_
                refine lv_aload_n hx hb dX11_digest_70 rfl (lv_at hl 0 rfl) ?_
                refine va_get (D := D) (ci := 11) (v := .ref (a 6)) (C := RX11) (T := TX11) (N := 34) hx hb hts hi_X11 hown hS.1 hX.1 0 rfl rfl 13 (by decide) l_fieldLink_25 (fun _ h9 => h9) rfl dX11_digest_71 ?_
                refine lv_iload_n hx hb dX11_digest_74 rfl (lv_at hl 1 rfl) ?_
                refine va_bald hx hb hS.1 hX.1 6 5 rfl rfl (vp_in_iff.mpr (by omega)) dX11_digest_75 ?_
                refine lv_i2l hx hb dX11_digest_76 rfl ?_
                obtain ⟨hsh_15, e77⟩ : ∃ z, z = (f_X11_mix hsh_8 (((page (x1_9).toNatClampNeg)).toInt64)) := ⟨_, rfl⟩
                rw [← e77] at he
                refine g_Vv (w2 := (wM a cA hedges branches stand turn cuts asks seen pageLength isWhole newBranches gameCuts isKept keptHedge keptStand keptTurn keptCuts keptSeen seedNow hsh_15 kindOf_3 onOf seenBranch seenBegins seenWins page winner_4 lasting worthBy wonBy_5 keptKind keptBranch keptBegins keptWins partsBy)) (As := [.long (((page (x1_9).toNatClampNeg)).toInt64)]) (rest := []) (ci := 11) (q0 := 0) ⟨hx, hb, hml, hown, hts⟩ hS hX (k_X11_mix (((page (x1_9).toNatClampNeg)).toInt64) hsh_15 e77) (cwV 1 hts gX11_digest_X11_mix rfl rfl rfl (by decide +kernel) ⟨Nat.le_of_ble_eq_true rfl, Nat.le_of_ble_eq_true rfl⟩) rfl rfl rfl hl.1 rfl (Nat.le_of_ble_eq_true rfl) dX11_digest_77 ⟨Nat.zero_le _, Nat.zero_le _⟩ (fun H locs hX => ?_)
                refine lv_iinc (v := (x1_9 + (1 : Int32))) (lv' := [(1, .int (x1_9 + (1 : Int32))), (0, .ref (a 0))]) hx hb dX11_digest_80 hl (k := 1) rfl rfl (by decide) rfl (fun ls hl => ?_)
                have s80 := i_s1 (x := x1_9) (by omega)
                refine lv_goto (tgt := 61) hx hb dX11_digest_83 (by decide) ?_
                exact ih_L61_7 hsh_15 (x1_9 + (1 : Int32)) (by omega) (by omega) he _ _ _ hX (lv_sub hl [1, 0] rfl)
          exact L61_7 27 hsh_2 (0 : Int32) (by omega) (by omega) he _ _ _ hX (lv_sub hl [1, 0] rfl)
        · have he := he.trans (if_neg c52)
          have d52 := i_nle c52
          refine lv_aload_n hx hb dX11_digest_55 rfl (lv_at hl 0 rfl) ?_
          obtain ⟨z_16, e56⟩ : ∃ z, z = (f_X11_mixHedge branches stand hsh_2 kindOf_3 onOf winner_4 lasting worthBy partsBy) := ⟨_, rfl⟩
          rw [← e56] at he
          try dsimp only at he
          refine g_Vv (w2 := (wM a cA hedges branches stand turn cuts asks seen pageLength isWhole newBranches gameCuts isKept keptHedge keptStand keptTurn keptCuts keptSeen seedNow z_16.1 kindOf_3 onOf seenBranch seenBegins seenWins page z_16.2.1 z_16.2.2.1 z_16.2.2.2.1 wonBy_5 keptKind keptBranch keptBegins keptWins z_16.2.2.2.2)) (As := []) (rest := []) (ci := 11) (q0 := 0) ⟨hx, hb, hml, hown, hts⟩ hS hX (k_X11_mixHedge (by omega) (by omega) z_16 e56) (cwV 0 hts gX11_digest_X11_mixHedge rfl rfl rfl (by decide +kernel) ⟨Nat.le_of_ble_eq_true rfl, Nat.le_of_ble_eq_true rfl⟩) rfl rfl rfl hl.1 rfl (Nat.le_of_ble_eq_true rfl) dX11_digest_56 ⟨Nat.zero_le _, Nat.zero_le _⟩ (fun H locs hX => ?_)
          refine lv_iconst (v := (0 : Int32)) hx hb dX11_digest_59 (by decide) ?_
          refine lv_istore_n (lv' := [(1, .int (0 : Int32)), (0, .ref (a 0))]) hx hb dX11_digest_60 rfl hl (by decide) rfl (fun ls hl => ?_)
          have L61_17 : ∀ (n_61_17 : Nat) (hsh_18 : Int64) (x1_19 : Int32), 0 ≤ (x1_19).toInt ∧ (x1_19).toInt ≤ 26 → 26 - (x1_19).toInt < (n_61_17 : Int) → q = f_X11_digest_L61 n_61_17 hedges branches stand turn cuts asks seen pageLength hsh_18 kindOf_3 onOf seenBranch seenBegins seenWins page z_16.2.1 z_16.2.2.1 z_16.2.2.2.1 wonBy_5 z_16.2.2.2.2 x1_19 → ∀ (H : Heap) (locs : List Loc) (ls : Array Slot), gX D Z s (wM a cA hedges branches stand turn cuts asks seen pageLength isWhole newBranches gameCuts isKept keptHedge keptStand keptTurn keptCuts keptSeen seedNow hsh_18 kindOf_3 onOf seenBranch seenBegins seenWins page z_16.2.1 z_16.2.2.1 z_16.2.2.2.1 wonBy_5 keptKind keptBranch keptBegins keptWins z_16.2.2.2.2) H locs → lv_has ls 3 [(0, .ref (a 0)), (1, .int x1_19)] → W p l e rm_X11_digest s m args below meth c H locs 0 0 Qz (F0 m 61 ls []) := by
            intro n_61_17
            induction n_61_17 with
            | zero =>
              intro hsh_18 x1_19 ia ifu _ _ _ _ _ _
              exfalso; omega
            | succ n_61_17 ih_L61_17 =>
              intro hsh_18 x1_19 ia ifu he H locs ls hX hl
              have he := he.trans f_X11_digest_L61_s
              refine lv_iload_n hx hb dX11_digest_61 rfl (lv_at hl 1 rfl) ?_
              refine lv_aload_n hx hb dX11_digest_62 rfl (lv_at hl 0 rfl) ?_
              refine va_get (D := D) (ci := 11) (v := .int pageLength) (C := RX11) (T := TX11) (N := 34) hx hb hts hi_X11 hown hS.1 hX.1 0 rfl rfl 12 (by decide) l_fieldLink_61 (fun _ h9 => h9) rfl dX11_digest_63 ?_
              refine lv_icmp_ge (tgt := 86) hx hb dX11_digest_66 (by decide) (fun c66 => ?_) (fun c66 => ?_)
              · have he := he.trans (if_pos c66)
                have d66 := i_le c66
                refine lv_iconst (v := (0 : Int32)) hx hb dX11_digest_86 (by decide) ?_
                refine lv_istore_n (lv' := [(1, .int (0 : Int32)), (0, .ref (a 0))]) hx hb dX11_digest_87 rfl hl (by decide) rfl (fun ls hl => ?_)
                have L88_20 : ∀ (n_88_20 : Nat) (hsh_21 : Int64) (x1_22 : Int32), 0 ≤ (x1_22).toInt ∧ (x1_22).toInt ≤ 11 → 11 - (x1_22).toInt < (n_88_20 : Int) → q = f_X11_digest_L88 n_88_20 hedges branches stand turn cuts asks seen pageLength hsh_21 kindOf_3 onOf seenBranch seenBegins seenWins page z_16.2.1 z_16.2.2.1 z_16.2.2.2.1 wonBy_5 z_16.2.2.2.2 x1_22 → ∀ (H : Heap) (locs : List Loc) (ls : Array Slot), gX D Z s (wM a cA hedges branches stand turn cuts asks seen pageLength isWhole newBranches gameCuts isKept keptHedge keptStand keptTurn keptCuts keptSeen seedNow hsh_21 kindOf_3 onOf seenBranch seenBegins seenWins page z_16.2.1 z_16.2.2.1 z_16.2.2.2.1 wonBy_5 keptKind keptBranch keptBegins keptWins z_16.2.2.2.2) H locs → lv_has ls 3 [(0, .ref (a 0)), (1, .int x1_22)] → W p l e rm_X11_digest s m args below meth c H locs 0 0 Qz (F0 m 88 ls []) := by
                  intro n_88_20
                  induction n_88_20 with
                  | zero =>
                    intro hsh_21 x1_22 ia ifu _ _ _ _ _ _
                    exfalso; omega
                  | succ n_88_20 ih_L88_20 =>
                    intro hsh_21 x1_22 ia ifu he H locs ls hX hl
                    have he := he.trans f_X11_digest_L88_s
                    refine lv_iload_n hx hb dX11_digest_88 rfl (lv_at hl 1 rfl) ?_
                    refine lv_bipush (v := (11 : Int32)) hx hb dX11_digest_89 (by decide) ?_
                    refine lv_icmp_ge (tgt := 110) hx hb dX11_digest_91 (by decide) (fun c91 => ?_) (fun c91 => ?_)
                    · have he := he.trans (if_pos c91)
                      have d91 := i_le c91
                      refine lv_aload_n hx hb dX11_digest_110 rfl (lv_at hl 0 rfl) ?_
                      refine va_get (D := D) (ci := 11) (v := .long hsh_21) (C := RX11) (T := TX11) (N := 34) hx hb hts hi_X11 hown hS.1 hX.1 0 rfl rfl 33 (by decide) l_fieldLink_257 (fun _ h9 => h9) rfl dX11_digest_111 ?_
                      subst he
                      exact g_lret hx hb hr hlocks hX hq rfl dX11_digest_114
                    · have he := he.trans (if_neg c91)
                      have d91 := i_nle c91
                      refine lv_aload_n hx hb dX11_digest_94 rfl (lv_at hl 0 rfl) ?_
                      refine lv_aload_n hx hb dX11_digest_95 rfl (lv_at hl 0 rfl) ?_
                      refine lv_iload_n hx hb dX11_digest_96 rfl (lv_at hl 1 rfl) ?_
                      obtain ⟨r_23, e97⟩ : ∃ z, z = (f_X11_howMany hedges branches stand turn cuts asks seen pageLength kindOf_3 onOf x1_22) := ⟨_, rfl⟩
                      rw [← e97] at he
                      refine g_Vi (r := r_23) (As := [.int x1_22]) (rest := [.ref (a 0)]) (ci := 11) (q0 := 0) ⟨hx, hb, hml, hown, hts⟩ hS hX (k_X11_howMany x1_22 (by omega) r_23 e97) (cwV 1 hts gX11_digest_X11_howMany rfl rfl rfl (by decide +kernel) ⟨Nat.le_of_ble_eq_true rfl, Nat.le_of_ble_eq_true rfl⟩) rfl rfl rfl hl.1 rfl (Nat.le_of_ble_eq_true rfl) dX11_digest_97 ⟨Nat.zero_le _, Nat.zero_le _⟩ (fun H locs hX => ?_)
                      refine lv_i2l hx hb dX11_digest_100 rfl ?_
                      obtain ⟨hsh_24, e101⟩ : ∃ z, z = (f_X11_mix hsh_21 ((r_23).toInt64)) := ⟨_, rfl⟩
                      rw [← e101] at he
                      refine g_Vv (w2 := (wM a cA hedges branches stand turn cuts asks seen pageLength isWhole newBranches gameCuts isKept keptHedge keptStand keptTurn keptCuts keptSeen seedNow hsh_24 kindOf_3 onOf seenBranch seenBegins seenWins page z_16.2.1 z_16.2.2.1 z_16.2.2.2.1 wonBy_5 keptKind keptBranch keptBegins keptWins z_16.2.2.2.2)) (As := [.long ((r_23).toInt64)]) (rest := []) (ci := 11) (q0 := 0) ⟨hx, hb, hml, hown, hts⟩ hS hX (k_X11_mix ((r_23).toInt64) hsh_24 e101) (cwV 1 hts gX11_digest_X11_mix rfl rfl rfl (by decide +kernel) ⟨Nat.le_of_ble_eq_true rfl, Nat.le_of_ble_eq_true rfl⟩) rfl rfl rfl hl.1 rfl (Nat.le_of_ble_eq_true rfl) dX11_digest_101 ⟨Nat.zero_le _, Nat.zero_le _⟩ (fun H locs hX => ?_)
                      refine lv_iinc (v := (x1_22 + (1 : Int32))) (lv' := [(1, .int (x1_22 + (1 : Int32))), (0, .ref (a 0))]) hx hb dX11_digest_104 hl (k := 1) rfl rfl (by decide) rfl (fun ls hl => ?_)
                      have s104 := i_s1 (x := x1_22) (by omega)
                      refine lv_goto (tgt := 88) hx hb dX11_digest_107 (by decide) ?_
                      exact ih_L88_20 hsh_24 (x1_22 + (1 : Int32)) (by omega) (by omega) he _ _ _ hX (lv_sub hl [1, 0] rfl)
                exact L88_20 12 hsh_18 (0 : Int32) (by omega) (by omega) he _ _ _ hX (lv_sub hl [1, 0] rfl)
              · have he := he.trans (if_neg c66)
                have d66 := i_nle c66
                refine lv_aload_n hx hb dX11_digest_69 rfl (lv_at hl 0 rfl) ?_
                refine lv_aload_n hx hb dX11_digest_70 rfl (lv_at hl 0 rfl) ?_
                refine va_get (D := D) (ci := 11) (v := .ref (a 6)) (C := RX11) (T := TX11) (N := 34) hx hb hts hi_X11 hown hS.1 hX.1 0 rfl rfl 13 (by decide) l_fieldLink_25 (fun _ h9 => h9) rfl dX11_digest_71 ?_
                refine lv_iload_n hx hb dX11_digest_74 rfl (lv_at hl 1 rfl) ?_
                refine va_bald hx hb hS.1 hX.1 6 5 rfl rfl (vp_in_iff.mpr (by omega)) dX11_digest_75 ?_
                refine lv_i2l hx hb dX11_digest_76 rfl ?_
                obtain ⟨hsh_25, e77⟩ : ∃ z, z = (f_X11_mix hsh_18 (((page (x1_19).toNatClampNeg)).toInt64)) := ⟨_, rfl⟩
                rw [← e77] at he
                refine g_Vv (w2 := (wM a cA hedges branches stand turn cuts asks seen pageLength isWhole newBranches gameCuts isKept keptHedge keptStand keptTurn keptCuts keptSeen seedNow hsh_25 kindOf_3 onOf seenBranch seenBegins seenWins page z_16.2.1 z_16.2.2.1 z_16.2.2.2.1 wonBy_5 keptKind keptBranch keptBegins keptWins z_16.2.2.2.2)) (As := [.long (((page (x1_19).toNatClampNeg)).toInt64)]) (rest := []) (ci := 11) (q0 := 0) ⟨hx, hb, hml, hown, hts⟩ hS hX (k_X11_mix (((page (x1_19).toNatClampNeg)).toInt64) hsh_25 e77) (cwV 1 hts gX11_digest_X11_mix rfl rfl rfl (by decide +kernel) ⟨Nat.le_of_ble_eq_true rfl, Nat.le_of_ble_eq_true rfl⟩) rfl rfl rfl hl.1 rfl (Nat.le_of_ble_eq_true rfl) dX11_digest_77 ⟨Nat.zero_le _, Nat.zero_le _⟩ (fun H locs hX => ?_)
                refine lv_iinc (v := (x1_19 + (1 : Int32))) (lv' := [(1, .int (x1_19 + (1 : Int32))), (0, .ref (a 0))]) hx hb dX11_digest_80 hl (k := 1) rfl rfl (by decide) rfl (fun ls hl => ?_)
                have s80 := i_s1 (x := x1_19) (by omega)
                refine lv_goto (tgt := 61) hx hb dX11_digest_83 (by decide) ?_
                exact ih_L61_17 hsh_25 (x1_19 + (1 : Int32)) (by omega) (by omega) he _ _ _ hX (lv_sub hl [1, 0] rfl)
          exact L61_17 27 z_16.1 (0 : Int32) (by omega) (by omega) he _ _ _ hX (lv_sub hl [1, 0] rfl)
      · have he := he.trans (if_neg c14)
        have d14 := i_nle c14
        refine lv_iconst (v := (0 : Int32)) hx hb dX11_digest_17 (by decide) ?_
        refine lv_istore_n (lv' := [(2, .int (0 : Int32)), (0, .ref (a 0)), (1, .int x1_6)]) hx hb dX11_digest_18 rfl hl (by decide) rfl (fun ls hl => ?_)
        have L19_26 : ∀ (kk_L19_26 : (Int64) → (Nat → Int32) → (Nat → Int32) → (Nat → Int32) → (Int32) → Int64 × Int64 × (Nat → Int32) × (Nat → Int32) × (Nat → Int32) × (Nat → Int32) × (Nat → Int32) × (Nat → Int64)), (∀ (hsh_32 : Int64) (kindOf_33 : Nat → Int32) (winner_34 : Nat → Int32) (wonBy_35 : Nat → Int32) (x2_36 : Int32), q = kk_L19_26 hsh_32 kindOf_33 winner_34 wonBy_35 x2_36 → ∀ (H : Heap) (locs : List Loc) (ls : Array Slot), gX D Z s (wM a cA hedges branches stand turn cuts asks seen pageLength isWhole newBranches gameCuts isKept keptHedge keptStand keptTurn keptCuts keptSeen seedNow hsh_32 kindOf_33 onOf seenBranch seenBegins seenWins page winner_34 lasting worthBy wonBy_35 keptKind keptBranch keptBegins keptWins partsBy) H locs → lv_has ls 3 [(0, .ref (a 0)), (1, .int x1_6), (2, .int x2_36)] → W p l e rm_X11_digest s m args below meth c H locs 0 0 Qz (F0 m 42 ls [])) → ∀ (n_19_26 : Nat) (hsh_27 : Int64) (kindOf_28 : Nat → Int32) (winner_29 : Nat → Int32) (wonBy_30 : Nat → Int32) (x2_31 : Int32), 0 ≤ (x2_31).toInt ∧ (x2_31).toInt ≤ 8 → 8 - (x2_31).toInt < (n_19_26 : Int) → q = f_X11_digest_L19 kk_L19_26 n_19_26 hedges branches stand turn cuts asks seen pageLength hsh_27 kindOf_28 onOf seenBranch seenBegins seenWins page winner_29 lasting worthBy wonBy_30 partsBy x1_6 x2_31 → ∀ (H : Heap) (locs : List Loc) (ls : Array Slot), gX D Z s (wM a cA hedges branches stand turn cuts asks seen pageLength isWhole newBranches gameCuts isKept keptHedge keptStand keptTurn keptCuts keptSeen seedNow hsh_27 kindOf_28 onOf seenBranch seenBegins seenWins page winner_29 lasting worthBy wonBy_30 keptKind keptBranch keptBegins keptWins partsBy) H locs → lv_has ls 3 [(0, .ref (a 0)), (1, .int x1_6), (2, .int x2_31)] → W p l e rm_X11_digest s m args below meth c H locs 0 0 Qz (F0 m 19 ls []) := by
          intro kk_L19_26 hk_L19_26
          intro n_19_26
          induction n_19_26 with
          | zero =>
            intro hsh_27 kindOf_28 winner_29 wonBy_30 x2_31 iai ifui _ _ _ _ _ _
            exfalso; omega
          | succ n_19_26 ih_L19_26 =>
            intro hsh_27 kindOf_28 winner_29 wonBy_30 x2_31 iai ifui he H locs ls hX hl
            have he := he.trans f_X11_digest_L19_s
            refine lv_iload_n hx hb dX11_digest_19 rfl (lv_at hl 2 rfl) ?_
            refine lv_bipush (v := (8 : Int32)) hx hb dX11_digest_20 (by decide) ?_
            refine lv_icmp_ge (tgt := 42) hx hb dX11_digest_22 (by decide) (fun c22 => ?_) (fun c22 => ?_)
            · have he := he.trans (if_pos c22)
              have d22 := i_le c22
              exact hk_L19_26 hsh_27 kindOf_28 winner_29 wonBy_30 x2_31 he _ _ _ hX (lv_sub hl [0, 1, 2] rfl)
            · have he := he.trans (if_neg c22)
              have d22 := i_nle c22
              refine lv_aload_n hx hb dX11_digest_25 rfl (lv_at hl 0 rfl) ?_
              refine lv_aload_n hx hb dX11_digest_26 rfl (lv_at hl 0 rfl) ?_
              refine lv_iload_n hx hb dX11_digest_27 rfl (lv_at hl 1 rfl) ?_
              refine lv_iload_n hx hb dX11_digest_28 rfl (lv_at hl 2 rfl) ?_
              obtain ⟨z_37, e29⟩ : ∃ z, z = (f_X11_branchNow branches stand seen kindOf_28 onOf seenBranch seenBegins seenWins winner_29 wonBy_30 x1_6 x2_31) := ⟨_, rfl⟩
              rw [← e29] at he
              try dsimp only at he
              refine g_Vi (r := z_37.1) (w2 := (wM a cA hedges branches stand turn cuts asks seen pageLength isWhole newBranches gameCuts isKept keptHedge keptStand keptTurn keptCuts keptSeen seedNow hsh_27 z_37.2.1 onOf seenBranch seenBegins seenWins page z_37.2.2.1 lasting worthBy z_37.2.2.2 keptKind keptBranch keptBegins keptWins partsBy)) (As := [.int x1_6, .int x2_31]) (rest := [.ref (a 0)]) (ci := 11) (q0 := 0) ⟨hx, hb, hml, hown, hts⟩ hS hX (k_X11_branchNow x1_6 x2_31 (by omega) (by omega) (by omega) (by assumption) (by omega) z_37 e29) (cwV 2 hts gX11_digest_X11_branchNow rfl rfl rfl (by decide +kernel) ⟨Nat.le_of_ble_eq_true rfl, Nat.le_of_ble_eq_true rfl⟩) rfl rfl rfl hl.1 rfl (Nat.le_of_ble_eq_true rfl) dX11_digest_29 ⟨Nat.zero_le _, Nat.zero_le _⟩ (fun H locs hX => ?_)
              refine lv_i2l hx hb dX11_digest_32 rfl ?_
              obtain ⟨hsh_38, e33⟩ : ∃ z, z = (f_X11_mix hsh_27 ((z_37.1).toInt64)) := ⟨_, rfl⟩
              rw [← e33] at he
              refine g_Vv (w2 := (wM a cA hedges branches stand turn cuts asks seen pageLength isWhole newBranches gameCuts isKept keptHedge keptStand keptTurn keptCuts keptSeen seedNow hsh_38 z_37.2.1 onOf seenBranch seenBegins seenWins page z_37.2.2.1 lasting worthBy z_37.2.2.2 keptKind keptBranch keptBegins keptWins partsBy)) (As := [.long ((z_37.1).toInt64)]) (rest := []) (ci := 11) (q0 := 0) ⟨hx, hb, hml, hown, hts⟩ hS hX (k_X11_mix ((z_37.1).toInt64) hsh_38 e33) (cwV 1 hts gX11_digest_X11_mix rfl rfl rfl (by decide +kernel) ⟨Nat.le_of_ble_eq_true rfl, Nat.le_of_ble_eq_true rfl⟩) rfl rfl rfl hl.1 rfl (Nat.le_of_ble_eq_true rfl) dX11_digest_33 ⟨Nat.zero_le _, Nat.zero_le _⟩ (fun H locs hX => ?_)
              refine lv_iinc (v := (x2_31 + (1 : Int32))) (lv' := [(2, .int (x2_31 + (1 : Int32))), (0, .ref (a 0)), (1, .int x1_6)]) hx hb dX11_digest_36 hl (k := 2) rfl rfl (by decide) rfl (fun ls hl => ?_)
              have s36 := i_s1 (x := x2_31) (by omega)
              refine lv_goto (tgt := 19) hx hb dX11_digest_39 (by decide) ?_
              exact ih_L19_26 hsh_38 z_37.2.1 z_37.2.2.1 z_37.2.2.2 (x2_31 + (1 : Int32)) (by omega) (by omega) he _ _ _ hX (lv_sub hl [1, 2, 0] rfl)
        refine L19_26 _ (fun hsh_32 kindOf_33 winner_34 wonBy_35 x2_36 he H locs ls hX hl => ?_) 9 hsh_2 kindOf_3 winner_4 wonBy_5 (0 : Int32) (by omega) (by omega) he _ _ _ hX (lv_sub hl [1, 2, 0] rfl)
        refine lv_iinc (v := (x1_6 + (1 : Int32))) (lv' := [(1, .int (x1_6 + (1 : Int32))), (0, .ref (a 0)), (2, .int x2_36)]) hx hb dX11_digest_42 hl (k := 1) rfl rfl (by decide) rfl (fun ls hl => ?_)
        have s42 := i_s1 (x := x1_6) (by omega)
        refine lv_goto (tgt := 9) hx hb dX11_digest_45 (by decide) ?_
        exact ih_L9_1 hsh_32 kindOf_33 winner_34 wonBy_35 (x1_6 + (1 : Int32)) (by omega) (by omega) he _ _ _ hX (lv_sub hl [1, 0] rfl)
  exact L9_1 9 (1283 : Int64) kindOf winner wonBy (0 : Int32) (by omega) (by omega) he _ _ _ hX (lv_sub hl [1, 0] rfl)
