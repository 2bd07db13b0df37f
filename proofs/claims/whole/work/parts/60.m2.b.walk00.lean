abbrev rm_X11_draw : Room := { frames := 0, cells := 0, slots := 0, locals := 0 }
set_option maxHeartbeats 4000000 in
set_option maxRecDepth 100000 in
theorem k_X11_draw {l : Launch} {D : va_G} {E : sE} {a : Nat → Nat} {cA : Nat → ClassId} {hedges : Int32} {branches : Int32} {stand : Int32} {turn : Int32} {cuts : Int32} {asks : Int32} {seen : Int32} {pageLength : Int32} {isWhole : Int32} {newBranches : Int32} {gameCuts : Int32} {isKept : Int32} {keptHedge : Int32} {keptStand : Int32} {keptTurn : Int32} {keptCuts : Int32} {keptSeen : Int32} {seedNow : Int64} {hsh : Int64} {kindOf : Nat → Int32} {onOf : Nat → Int32} {seenBranch : Nat → Int32} {seenBegins : Nat → Int32} {seenWins : Nat → Int32} {page : Nat → Int32} {winner : Nat → Int32} {lasting : Nat → Int32} {worthBy : Nat → Int32} {wonBy : Nat → Int32} {keptKind : Nat → Int32} {keptBranch : Nat → Int32} {keptBegins : Nat → Int32} {keptWins : Nat → Int32} {partsBy : Nat → Int64} (p1 : Int32) (hd : 0 < (p1).toInt) : ∀ q : Int32 × Int64, q = f_X11_draw seedNow p1 → gMi l yX11_draw wsX11_draw rm_X11_draw D E (tM cA) [.ref (a 0), .int p1] (wM a cA hedges branches stand turn cuts asks seen pageLength isWhole newBranches gameCuts isKept keptHedge keptStand keptTurn keptCuts keptSeen seedNow hsh kindOf onOf seenBranch seenBegins seenWins page winner lasting worthBy wonBy keptKind keptBranch keptBegins keptWins partsBy) (wM a cA hedges branches stand turn cuts asks seen pageLength isWhole newBranches gameCuts isKept keptHedge keptStand keptTurn keptCuts keptSeen q.2 hsh kindOf onOf seenBranch seenBegins seenWins page winner lasting worthBy wonBy keptKind keptBranch keptBegins keptWins partsBy) q.1 := by
  intro q he0
  refine gM_of (cc := cX11_draw) (maxL := 2) (ret := (some .int)) (Qf := gQi D (wM a cA hedges branches stand turn cuts asks seen pageLength isWhole newBranches gameCuts isKept keptHedge keptStand keptTurn keptCuts keptSeen q.2 hsh kindOf onOf seenBranch seenBegins seenWins page winner lasting worthBy wonBy keptKind keptBranch keptBegins keptWins partsBy) q.1) (by decide) rfl (Nat.le_of_ble_eq_true rfl) ?_
  intro p e s m args below meth c Z ls Qz hx hb hr hml hlocks hown hts hS hX hl hq
  have he := he0.trans f_X11_draw_s
  have hown : s.vm.findClass RX11 = some m.cls := hown
  have hl : lv_has ls 2 [(0, .ref (a 0)), (1, .int p1)] := hl
  have hi_X11 : ∀ w ∈ u_ws RX11 TX11 34, w ∈ wsX11_draw := fun _ h => List.mem_cons_of_mem _ (List.mem_append_right _ h)
  have l_constantLong_200 := hts (Cond.constantLong RX11 200 (1103515245)) (List.mem_of_getElem? (i := 1) rfl)
  have l_constantLong_206 := hts (Cond.constantLong RX11 206 (12345)) (List.mem_of_getElem? (i := 3) rfl)
  have l_constantLong_208 := hts (Cond.constantLong RX11 208 (2147483647)) (List.mem_of_getElem? (i := 4) rfl)
  have l_constantLong_210 := hts (Cond.constantLong RX11 210 (65536)) (List.mem_of_getElem? (i := 5) rfl)
  have l_fieldLink_202 := hts (Cond.fieldLink RX11 202 "HedgeGameModel" "seedNow" "J") (List.mem_of_getElem? (i := 2) rfl)
  have t0 : ((0 : Int32)).toInt = 0 := rfl
  have t1 : ((1 : Int32)).toInt = 1 := rfl
  refine lv_aload_n hx hb dX11_draw_0 rfl (lv_at hl 0 rfl) ?_
  refine lv_ldc2 (v := (1103515245 : Int64)) hx hb hown l_constantLong_200 dX11_draw_1 ?_
  refine lv_aload_n hx hb dX11_draw_4 rfl (lv_at hl 0 rfl) ?_
  refine va_get (D := D) (ci := 11) (v := .long seedNow) (C := RX11) (T := TX11) (N := 34) hx hb hts hi_X11 hown hS.1 hX.1 0 rfl rfl 21 (by decide) l_fieldLink_202 (fun _ h9 => h9) rfl dX11_draw_5 ?_
  refine lv_lmul hx hb dX11_draw_8 ?_
  refine lv_ldc2 (v := (12345 : Int64)) hx hb hown l_constantLong_206 dX11_draw_9 ?_
  refine lv_ladd hx hb dX11_draw_12 ?_
  refine lv_ldc2 (v := (2147483647 : Int64)) hx hb hown l_constantLong_208 dX11_draw_13 ?_
  refine lv_land hx hb dX11_draw_16 ?_
  refine va_put (D := D) (ci := 11) (v := .long ((((1103515245 : Int64) * seedNow) + (12345 : Int64)) &&& (2147483647 : Int64))) (ty := .long) (C := RX11) (T := TX11) (N := 34) hx hb hts hi_X11 tyX11 tyX11_ok nmX11 hown hS.1 hX.1 hX.2.1 hX.2.2 0 rfl rfl 21 (by decide) l_fieldLink_202 (fun _ h9 => h9) rfl (by decide +kernel) rfl rfl (Nat.le_of_ble_eq_true rfl) dX11_draw_17 (fun H locs hP hD hs => ?_)
  have hX : gX D Z s (wM a cA hedges branches stand turn cuts asks seen pageLength isWhole newBranches gameCuts isKept keptHedge keptStand keptTurn keptCuts keptSeen ((((1103515245 : Int64) * seedNow) + (12345 : Int64)) &&& (2147483647 : Int64)) hsh kindOf onOf seenBranch seenBegins seenWins page winner lasting worthBy wonBy keptKind keptBranch keptBegins keptWins partsBy) H locs := ⟨hP, hD, hs⟩
  refine lv_aload_n hx hb dX11_draw_20 rfl (lv_at hl 0 rfl) ?_
  refine va_get (D := D) (ci := 11) (v := .long ((((1103515245 : Int64) * seedNow) + (12345 : Int64)) &&& (2147483647 : Int64))) (C := RX11) (T := TX11) (N := 34) hx hb hts hi_X11 hown hS.1 hX.1 0 rfl rfl 21 (by decide) l_fieldLink_202 (fun _ h9 => h9) rfl dX11_draw_21 ?_
  refine lv_ldc2 (v := (65536 : Int64)) hx hb hown l_constantLong_210 dX11_draw_24 ?_
  refine lv_ldiv hx hb dX11_draw_27 (by decide) ?_
  refine lv_iload_n hx hb dX11_draw_28 rfl (lv_at hl 1 rfl) ?_
  refine lv_i2l hx hb dX11_draw_29 rfl ?_
  refine lv_lrem hx hb dX11_draw_30 (l_ne0 (by omega)) ?_
  refine lv_l2i hx hb dX11_draw_31 rfl ?_
  subst he
  exact g_iret hx hb hr hlocks hX hq rfl dX11_draw_32
abbrev rm_X11_ofSet : Room := { frames := 1, cells := 0, slots := 0, locals := 21 }
set_option maxHeartbeats 4000000 in
set_option maxRecDepth 100000 in
theorem k_X11_ofSet {l : Launch} {D : va_G} {E : sE} {w : va_W} {tys : List (ClassId × FieldType)} (p1 : Int32) (p2 : Int32) (hw : 0 ≤ (p2).toInt ∧ (p2).toInt < (cb (p1) 8 : Int)) : ∀ q : Int32, q = f_X11_ofSet p1 p2 → gMi l yX11_ofSet wsX11_ofSet rm_X11_ofSet D E tys [.int p1, .int p2] w w q := by
  intro q he0
  refine gM_of (cc := cX11_ofSet) (maxL := 4) (ret := (some .int)) (Qf := gQi D w q) (by decide) rfl (Nat.le_of_ble_eq_true rfl) ?_
  intro p e s m args below meth c Z ls Qz hx hb hr hml hlocks hown hts hS hX hl hq
  have he := he0.trans f_X11_ofSet_s
  have hown : s.vm.findClass RX11 = some m.cls := hown
  have hl : lv_has ls 4 [(0, .int p1), (1, .int p2)] := hl
  have t0 : ((0 : Int32)).toInt = 0 := rfl
  have t1 : ((1 : Int32)).toInt = 1 := rfl
  refine lv_iconst (v := (0 : Int32)) hx hb dX11_ofSet_0 (by decide) ?_
  refine lv_istore_n (lv' := [(2, .int (0 : Int32)), (0, .int p1), (1, .int p2)]) hx hb dX11_ofSet_1 rfl hl (by decide) rfl (fun ls hl => ?_)
  refine lv_iload_n hx hb dX11_ofSet_2 rfl (lv_at hl 2 rfl) ?_
  refine lv_istore_n (lv' := [(3, .int p2), (2, .int (0 : Int32)), (0, .int p1), (1, .int p2)]) hx hb dX11_ofSet_3 rfl hl (by decide) rfl (fun ls hl => ?_)
  have L4_1 : ∀ (n_4_1 : Nat) (x2_2 : Int32) (x3_3 : Int32), ofI (p1) (x2_2) (x3_3) → 8 - (x2_2).toInt < (n_4_1 : Int) → q = f_X11_ofSet_L4 n_4_1 p1 p2 x2_2 x3_3 → ∀ (H : Heap) (locs : List Loc) (ls : Array Slot), gX D Z s w H locs → lv_has ls 4 [(0, .int p1), (1, .int p2), (2, .int x2_2), (3, .int x3_3)] → W p l e rm_X11_ofSet s m args below meth c H locs 0 0 Qz (F0 m 4 ls []) := by
    intro n_4_1
    induction n_4_1 with
    | zero =>
      intro x2_2 x3_3 io ifu _ _ _ _ _ _
      exfalso; have := ofI_lt io; omega
    | succ n_4_1 ih_L4_1 =>
      intro x2_2 x3_3 io ifu he H locs ls hX hl
      have he := he.trans f_X11_ofSet_L4_s
      have g4 := ofI_lt io
      have g5 := i_s1 (x := x2_2) (by omega)
      refine lv_iload_n hx hb dX11_ofSet_4 rfl (lv_at hl 0 rfl) ?_
      refine lv_iload_n hx hb dX11_ofSet_5 rfl (lv_at hl 2 rfl) ?_
      obtain ⟨r_4, e6⟩ : ∃ z, z = (f_X11_isIn p1 x2_2) := ⟨_, rfl⟩
      rw [← e6] at he
      refine g_Si (r := r_4) (As := [.int p1, .int x2_2]) (rest := []) ⟨hx, hb, hml, hown, hts⟩ hS hX (k_X11_isIn p1 x2_2 r_4 e6) (va_cwS 2 hts gX11_ofSet_X11_isIn rfl rfl rfl (by decide +kernel) ⟨Nat.le_of_ble_eq_true rfl, Nat.le_of_ble_eq_true rfl⟩) rfl hl.1 rfl (Nat.le_of_ble_eq_true rfl) dX11_ofSet_6 ⟨Nat.zero_le _, Nat.zero_le _⟩ (fun H locs hX => ?_)
      refine lv_if_eq (tgt := 16) hx hb dX11_ofSet_9 (by decide) (fun c9 => ?_) (fun c9 => ?_)
      · have he := he.trans (if_pos c9)
        have d9 := i_eq c9
        refine lv_iload_n hx hb dX11_ofSet_16 rfl (lv_at hl 3 rfl) ?_
        refine lv_iload_n hx hb dX11_ofSet_17 rfl (lv_at hl 0 rfl) ?_
        refine lv_iload_n hx hb dX11_ofSet_18 rfl (lv_at hl 2 rfl) ?_
        refine g_Si (r := r_4) (As := [.int p1, .int x2_2]) (rest := [.int x3_3]) ⟨hx, hb, hml, hown, hts⟩ hS hX (k_X11_isIn p1 x2_2 r_4 e6) (va_cwS 2 hts gX11_ofSet_X11_isIn rfl rfl rfl (by decide +kernel) ⟨Nat.le_of_ble_eq_true rfl, Nat.le_of_ble_eq_true rfl⟩) rfl hl.1 rfl (Nat.le_of_ble_eq_true rfl) dX11_ofSet_19 ⟨Nat.zero_le _, Nat.zero_le _⟩ (fun H locs hX => ?_)
        refine lv_if_eq (tgt := 29) hx hb dX11_ofSet_22 (by decide) (fun c22 => ?_) (fun c22 => ?_)
        · have he := he.trans (if_pos c22)
          have d22 := i_eq c22
          refine lv_iconst (v := (0 : Int32)) hx hb dX11_ofSet_29 (by decide) ?_
          refine lv_isub hx hb dX11_ofSet_30 ?_
          refine lv_istore_n (lv' := [(3, .int (x3_3 - (0 : Int32))), (0, .int p1), (1, .int p2), (2, .int x2_2)]) hx hb dX11_ofSet_31 rfl hl (by decide) rfl (fun ls hl => ?_)
          refine lv_iinc (v := (x2_2 + (1 : Int32))) (lv' := [(2, .int (x2_2 + (1 : Int32))), (3, .int (x3_3 - (0 : Int32))), (0, .int p1), (1, .int p2)]) hx hb dX11_ofSet_32 hl (k := 3) rfl rfl (by decide) rfl (fun ls hl => ?_)
          refine lv_goto (tgt := 4) hx hb dX11_ofSet_35 (by decide) ?_
          exact ih_L4_1 (x2_2 + (1 : Int32)) (x3_3 - (0 : Int32)) (by first | exact ofI_no io (e6.symm.trans c9) | exact ofI_yes io (fun z => c9 (e6.trans z)) d13 | (exfalso; omega)) (by omega) he _ _ _ hX (lv_sub hl [2, 3, 0, 1] rfl)
        · have he := he.trans (if_neg c22)
          have d22 := i_ne c22
          refine lv_iconst (v := (1 : Int32)) hx hb dX11_ofSet_25 (by decide) ?_
          refine lv_goto (tgt := 30) hx hb dX11_ofSet_26 (by decide) ?_
          refine lv_isub hx hb dX11_ofSet_30 ?_
          refine lv_istore_n (lv' := [(3, .int (x3_3 - (1 : Int32))), (0, .int p1), (1, .int p2), (2, .int x2_2)]) hx hb dX11_ofSet_31 rfl hl (by decide) rfl (fun ls hl => ?_)
          refine lv_iinc (v := (x2_2 + (1 : Int32))) (lv' := [(2, .int (x2_2 + (1 : Int32))), (3, .int (x3_3 - (1 : Int32))), (0, .int p1), (1, .int p2)]) hx hb dX11_ofSet_32 hl (k := 3) rfl rfl (by decide) rfl (fun ls hl => ?_)
          refine lv_goto (tgt := 4) hx hb dX11_ofSet_35 (by decide) ?_
          exact ih_L4_1 (x2_2 + (1 : Int32)) (x3_3 - (1 : Int32)) (by first | exact ofI_no io (e6.symm.trans c9) | exact ofI_yes io (fun z => c9 (e6.trans z)) d13 | (exfalso; omega)) (by omega) he _ _ _ hX (lv_sub hl [2, 3, 0, 1] rfl)
      · have he := he.trans (if_neg c9)
        have d9 := i_ne c9
        refine lv_iload_n hx hb dX11_ofSet_12 rfl (lv_at hl 3 rfl) ?_
        refine lv_if_le (tgt := 38) hx hb dX11_ofSet_13 (by decide) (fun c13 => ?_) (fun c13 => ?_)
        · have he := he.trans (if_pos c13)
          have d13 := i_le c13
          refine lv_iload_n hx hb dX11_ofSet_38 rfl (lv_at hl 2 rfl) ?_
          subst he
          exact g_iret hx hb hr hlocks hX hq rfl dX11_ofSet_39
        · have he := he.trans (if_neg c13)
          have d13 := i_nle c13
          refine lv_iload_n hx hb dX11_ofSet_16 rfl (lv_at hl 3 rfl) ?_
          refine lv_iload_n hx hb dX11_ofSet_17 rfl (lv_at hl 0 rfl) ?_
          refine lv_iload_n hx hb dX11_ofSet_18 rfl (lv_at hl 2 rfl) ?_
          refine g_Si (r := r_4) (As := [.int p1, .int x2_2]) (rest := [.int x3_3]) ⟨hx, hb, hml, hown, hts⟩ hS hX (k_X11_isIn p1 x2_2 r_4 e6) (va_cwS 2 hts gX11_ofSet_X11_isIn rfl rfl rfl (by decide +kernel) ⟨Nat.le_of_ble_eq_true rfl, Nat.le_of_ble_eq_true rfl⟩) rfl hl.1 rfl (Nat.le_of_ble_eq_true rfl) dX11_ofSet_19 ⟨Nat.zero_le _, Nat.zero_le _⟩ (fun H locs hX => ?_)
          refine lv_if_eq (tgt := 29) hx hb dX11_ofSet_22 (by decide) (fun c22 => ?_) (fun c22 => ?_)
          · have he := he.trans (if_pos c22)
            have d22 := i_eq c22
            refine lv_iconst (v := (0 : Int32)) hx hb dX11_ofSet_29 (by decide) ?_
            refine lv_isub hx hb dX11_ofSet_30 ?_
            refine lv_istore_n (lv' := [(3, .int (x3_3 - (0 : Int32))), (0, .int p1), (1, .int p2), (2, .int x2_2)]) hx hb dX11_ofSet_31 rfl hl (by decide) rfl (fun ls hl => ?_)
            refine lv_iinc (v := (x2_2 + (1 : Int32))) (lv' := [(2, .int (x2_2 + (1 : Int32))), (3, .int (x3_3 - (0 : Int32))), (0, .int p1), (1, .int p2)]) hx hb dX11_ofSet_32 hl (k := 3) rfl rfl (by decide) rfl (fun ls hl => ?_)
            refine lv_goto (tgt := 4) hx hb dX11_ofSet_35 (by decide) ?_
            exact ih_L4_1 (x2_2 + (1 : Int32)) (x3_3 - (0 : Int32)) (by first | exact ofI_no io (e6.symm.trans c9) | exact ofI_yes io (fun z => c9 (e6.trans z)) d13 | (exfalso; omega)) (by omega) he _ _ _ hX (lv_sub hl [2, 3, 0, 1] rfl)
          · have he := he.trans (if_neg c22)
            have d22 := i_ne c22
            refine lv_iconst (v := (1 : Int32)) hx hb dX11_ofSet_25 (by decide) ?_
            refine lv_goto (tgt := 30) hx hb dX11_ofSet_26 (by decide) ?_
            refine lv_isub hx hb dX11_ofSet_30 ?_
            refine lv_istore_n (lv' := [(3, .int (x3_3 - (1 : Int32))), (0, .int p1), (1, .int p2), (2, .int x2_2)]) hx hb dX11_ofSet_31 rfl hl (by decide) rfl (fun ls hl => ?_)
            refine lv_iinc (v := (x2_2 + (1 : Int32))) (lv' := [(2, .int (x2_2 + (1 : Int32))), (3, .int (x3_3 - (1 : Int32))), (0, .int p1), (1, .int p2)]) hx hb dX11_ofSet_32 hl (k := 3) rfl rfl (by decide) rfl (fun ls hl => ?_)
            refine lv_goto (tgt := 4) hx hb dX11_ofSet_35 (by decide) ?_
            exact ih_L4_1 (x2_2 + (1 : Int32)) (x3_3 - (1 : Int32)) (by first | exact ofI_no io (e6.symm.trans c9) | exact ofI_yes io (fun z => c9 (e6.trans z)) d13 | (exfalso; omega)) (by omega) he _ _ _ hX (lv_sub hl [2, 3, 0, 1] rfl)
  exact L4_1 9 (0 : Int32) p2 (ofI_0 hw) (by omega) he _ _ _ hX (lv_sub hl [2, 3, 1, 0] rfl)
abbrev rm_X11_play : Room := { frames := 4, cells := 0, slots := 0, locals := 92 }
set_option maxHeartbeats 4000000 in
set_option maxRecDepth 100000 in
theorem k_X11_play {l : Launch} {D : va_G} {E : sE} {a : Nat → Nat} {cA : Nat → ClassId} {hedges : Int32} {branches : Int32} {stand : Int32} {turn : Int32} {cuts : Int32} {asks : Int32} {seen : Int32} {pageLength : Int32} {isWhole : Int32} {newBranches : Int32} {gameCuts : Int32} {isKept : Int32} {keptHedge : Int32} {keptStand : Int32} {keptTurn : Int32} {keptCuts : Int32} {keptSeen : Int32} {seedNow : Int64} {hsh : Int64} {kindOf : Nat → Int32} {onOf : Nat → Int32} {seenBranch : Nat → Int32} {seenBegins : Nat → Int32} {seenWins : Nat → Int32} {page : Nat → Int32} {winner : Nat → Int32} {lasting : Nat → Int32} {worthBy : Nat → Int32} {wonBy : Nat → Int32} {keptKind : Nat → Int32} {keptBranch : Nat → Int32} {keptBegins : Nat → Int32} {keptWins : Nat → Int32} {partsBy : Nat → Int64} (p1 : Int32) (hbr : 0 ≤ (branches).toInt ∧ (branches).toInt ≤ 8) (hst : 0 ≤ (stand).toInt ∧ (stand).toInt < 256) : ∀ q : Int32 × Int32 × Int64, q = f_X11_play branches stand gameCuts seedNow kindOf onOf p1 → gMi l yX11_play wsX11_play rm_X11_play D E (tM cA) [.ref (a 0), .int p1] (wM a cA hedges branches stand turn cuts asks seen pageLength isWhole newBranches gameCuts isKept keptHedge keptStand keptTurn keptCuts keptSeen seedNow hsh kindOf onOf seenBranch seenBegins seenWins page winner lasting worthBy wonBy keptKind keptBranch keptBegins keptWins partsBy) (wM a cA hedges branches stand turn cuts asks seen pageLength isWhole newBranches q.2.1 isKept keptHedge keptStand keptTurn keptCuts keptSeen q.2.2 hsh kindOf onOf seenBranch seenBegins seenWins page winner lasting worthBy wonBy keptKind keptBranch keptBegins keptWins partsBy) q.1 := by
  intro q he0
  refine gM_of (cc := cX11_play) (maxL := 5) (ret := (some .int)) (Qf := gQi D (wM a cA hedges branches stand turn cuts asks seen pageLength isWhole newBranches q.2.1 isKept keptHedge keptStand keptTurn keptCuts keptSeen q.2.2 hsh kindOf onOf seenBranch seenBegins seenWins page winner lasting worthBy wonBy keptKind keptBranch keptBegins keptWins partsBy) q.1) (by decide) rfl (Nat.le_of_ble_eq_true rfl) ?_
  intro p e s m args below meth c Z ls Qz hx hb hr hml hlocks hown hts hS hX hl hq
  have he := he0.trans f_X11_play_s
  have hown : s.vm.findClass RX11 = some m.cls := hown
  have hl : lv_has ls 5 [(0, .ref (a 0)), (1, .int p1)] := hl
  have hi_X11 : ∀ w ∈ u_ws RX11 TX11 34, w ∈ wsX11_play := fun _ h => List.mem_cons_of_mem _ (List.mem_append_right _ h)
  have l_fieldLink_221 := hts (Cond.fieldLink RX11 221 "HedgeGameModel" "gameCuts" "I") (List.mem_of_getElem? (i := 2) rfl)
  have l_fieldLink_86 := hts (Cond.fieldLink RX11 86 "HedgeGameModel" "stand" "I") (List.mem_of_getElem? (i := 1) rfl)
  have t0 : ((0 : Int32)).toInt = 0 := rfl
  have t1 : ((1 : Int32)).toInt = 1 := rfl
  refine lv_aload_n hx hb dX11_play_0 rfl (lv_at hl 0 rfl) ?_
  refine va_get (D := D) (ci := 11) (v := .int stand) (C := RX11) (T := TX11) (N := 34) hx hb hts hi_X11 hown hS.1 hX.1 0 rfl rfl 4 (by decide) l_fieldLink_86 (fun _ h9 => h9) rfl dX11_play_1 ?_
  refine lv_istore_n (lv' := [(2, .int stand), (0, .ref (a 0)), (1, .int p1)]) hx hb dX11_play_4 rfl hl (by decide) rfl (fun ls hl => ?_)
  refine lv_iload_n hx hb dX11_play_5 rfl (lv_at hl 2 rfl) ?_
  refine lv_istore_n (lv' := [(3, .int p1), (2, .int stand), (0, .ref (a 0)), (1, .int p1)]) hx hb dX11_play_6 rfl hl (by decide) rfl (fun ls hl => ?_)
  refine lv_aload_n hx hb dX11_play_7 rfl (lv_at hl 2 rfl) ?_
  refine lv_iload_n hx hb dX11_play_8 rfl (lv_at hl 0 rfl) ?_
  refine lv_iload_n hx hb dX11_play_9 rfl (lv_at hl 1 rfl) ?_
  obtain ⟨r_1, e10⟩ : ∃ z, z = (f_X11_mayCuts branches kindOf onOf p1 stand) := ⟨_, rfl⟩
  rw [← e10] at he
  refine g_Vi (r := r_1) (As := [.int p1, .int stand]) (rest := []) (ci := 11) (q0 := 0) ⟨hx, hb, hml, hown, hts⟩ hS hX (k_X11_mayCuts p1 stand (by omega) r_1 e10) (cwV 2 hts gX11_play_X11_mayCuts rfl rfl rfl (by decide +kernel) ⟨Nat.le_of_ble_eq_true rfl, Nat.le_of_ble_eq_true rfl⟩) rfl rfl rfl hl.1 rfl (Nat.le_of_ble_eq_true rfl) dX11_play_10 ⟨Nat.zero_le _, Nat.zero_le _⟩ (fun H locs hX => ?_)
  refine lv_istore (lv' := [(4, .int r_1), (3, .int p1), (2, .int stand), (0, .ref (a 0)), (1, .int p1)]) hx hb dX11_play_13 hl (by decide) rfl (fun ls hl => ?_)
  have L15_2 : ∀ (n_15_2 : Nat) (gameCuts_3 : Int32) (seedNow_4 : Int64) (x2_5 : Int32) (x3_6 : Int32) (x4_7 : Int32), plI (branches) (kindOf) (onOf) (x3_6) (x2_5) (x4_7) n_15_2 → q = f_X11_play_L15 n_15_2 branches stand gameCuts_3 seedNow_4 kindOf onOf p1 x2_5 x3_6 x4_7 → ∀ (H : Heap) (locs : List Loc) (ls : Array Slot), gX D Z s (wM a cA hedges branches stand turn cuts asks seen pageLength isWhole newBranches gameCuts_3 isKept keptHedge keptStand keptTurn keptCuts keptSeen seedNow_4 hsh kindOf onOf seenBranch seenBegins seenWins page winner lasting worthBy wonBy keptKind keptBranch keptBegins keptWins partsBy) H locs → lv_has ls 5 [(0, .ref (a 0)), (1, .int p1), (2, .int x2_5), (3, .int x3_6), (4, .int x4_7)] → W p l e rm_X11_play s m args below meth c H locs 0 0 Qz (F0 m 15 ls []) := by
    intro n_15_2
    induction n_15_2 with
    | zero =>
      intro gameCuts_3 seedNow_4 x2_5 x3_6 x4_7 ip _ _ _ _ _ _
      exfalso; exact Nat.not_lt_zero _ ip.2.2.2
    | succ n_15_2 ih_L15_2 =>
      intro gameCuts_3 seedNow_4 x2_5 x3_6 x4_7 ip he H locs ls hX hl
      have he := he.trans f_X11_play_L15_s
      refine lv_iload hx hb dX11_play_15 (lv_at hl 4 rfl) ?_
      refine lv_if_eq (tgt := 65) hx hb dX11_play_17 (by decide) (fun c17 => ?_) (fun c17 => ?_)
      · have he := he.trans (if_pos c17)
        have d17 := i_eq c17
        refine lv_iconst (v := (1 : Int32)) hx hb dX11_play_65 (by decide) ?_
        refine lv_iload_n hx hb dX11_play_66 rfl (lv_at hl 3 rfl) ?_
        refine lv_isub hx hb dX11_play_67 ?_
        subst he
        exact g_iret hx hb hr hlocks hX hq rfl dX11_play_68
      · have he := he.trans (if_neg c17)
        have d17 := i_ne c17
        refine lv_aload_n hx hb dX11_play_20 rfl (lv_at hl 0 rfl) ?_
        refine lv_iload hx hb dX11_play_21 (lv_at hl 4 rfl) ?_
        refine lv_aload_n hx hb dX11_play_23 rfl (lv_at hl 0 rfl) ?_
        refine lv_iload hx hb dX11_play_24 (lv_at hl 4 rfl) ?_
        obtain ⟨r_8, e26⟩ : ∃ z, z = (f_X11_size x4_7) := ⟨_, rfl⟩
        rw [← e26] at he
        refine g_Si (r := r_8) (As := [.int x4_7]) (rest := [.ref (a 0), .int x4_7, .ref (a 0)]) ⟨hx, hb, hml, hown, hts⟩ hS hX (k_X11_size x4_7 r_8 e26) (va_cwS 1 hts gX11_play_X11_size rfl rfl rfl (by decide +kernel) ⟨Nat.le_of_ble_eq_true rfl, Nat.le_of_ble_eq_true rfl⟩) rfl hl.1 rfl (Nat.le_of_ble_eq_true rfl) dX11_play_26 ⟨Nat.zero_le _, Nat.zero_le _⟩ (fun H locs hX => ?_)
        have g26 : (r_8).toInt = (cb (x4_7) 8 : Int) := by rw [e26]; exact sz_toInt
        have g27 : 0 < (r_8).toInt := by rw [e26]; exact pl_sz hbr ip c17
        obtain ⟨z_9, e29⟩ : ∃ z, z = (f_X11_draw seedNow_4 r_8) := ⟨_, rfl⟩
        rw [← e29] at he
        try dsimp only at he
        refine g_Vi (r := z_9.1) (w2 := (wM a cA hedges branches stand turn cuts asks seen pageLength isWhole newBranches gameCuts_3 isKept keptHedge keptStand keptTurn keptCuts keptSeen z_9.2 hsh kindOf onOf seenBranch seenBegins seenWins page winner lasting worthBy wonBy keptKind keptBranch keptBegins keptWins partsBy)) (As := [.int r_8]) (rest := [.int x4_7, .ref (a 0)]) (ci := 11) (q0 := 0) ⟨hx, hb, hml, hown, hts⟩ hS hX (k_X11_draw r_8 (by omega) z_9 e29) (cwV 1 hts gX11_play_X11_draw rfl rfl rfl (by decide +kernel) ⟨Nat.le_of_ble_eq_true rfl, Nat.le_of_ble_eq_true rfl⟩) rfl rfl rfl hl.1 rfl (Nat.le_of_ble_eq_true rfl) dX11_play_29 ⟨Nat.zero_le _, Nat.zero_le _⟩ (fun H locs hX => ?_)
        have k29_0 : 0 < (r_8).toInt → (0 ≤ (z_9.1).toInt ∧ (z_9.1).toInt < (r_8).toInt) := r_draw e29
        obtain ⟨r_10, e32⟩ : ∃ z, z = (f_X11_ofSet x4_7 z_9.1) := ⟨_, rfl⟩
        rw [← e32] at he
        refine g_Si (r := r_10) (As := [.int x4_7, .int z_9.1]) (rest := [.ref (a 0)]) ⟨hx, hb, hml, hown, hts⟩ hS hX (k_X11_ofSet x4_7 z_9.1 (by omega) r_10 e32) (va_cwS 2 hts gX11_play_X11_ofSet rfl rfl rfl (by decide +kernel) ⟨Nat.le_of_ble_eq_true rfl, Nat.le_of_ble_eq_true rfl⟩) rfl hl.1 rfl (Nat.le_of_ble_eq_true rfl) dX11_play_32 ⟨Nat.zero_le _, Nat.zero_le _⟩ (fun H locs hX => ?_)
        have k32_0 : 0 ≤ (z_9.1).toInt ∧ (z_9.1).toInt < (cb (x4_7) 8 : Int) → (0 ≤ (r_10).toInt ∧ (r_10).toInt < 8) := by rw [e32]; exact r_ofSet
        have k32_1 : 0 ≤ (z_9.1).toInt ∧ (z_9.1).toInt < (cb (x4_7) 8 : Int) → bt (x4_7) (r_10).toNatClampNeg = true := by rw [e32]; exact r_ofSet2
        refine lv_iload_n hx hb dX11_play_35 rfl (lv_at hl 2 rfl) ?_
        obtain ⟨r_11, e36⟩ : ∃ z, z = (f_X11_leaves branches onOf r_10 x2_5) := ⟨_, rfl⟩
        rw [← e36] at he
        refine g_Vi (r := r_11) (As := [.int r_10, .int x2_5]) (rest := []) (ci := 11) (q0 := 0) ⟨hx, hb, hml, hown, hts⟩ hS hX (k_X11_leaves r_10 x2_5 (by omega) (by omega) r_11 e36) (cwV 2 hts gX11_play_X11_leaves rfl rfl rfl (by decide +kernel) ⟨Nat.le_of_ble_eq_true rfl, Nat.le_of_ble_eq_true rfl⟩) rfl rfl rfl hl.1 rfl (Nat.le_of_ble_eq_true rfl) dX11_play_36 ⟨Nat.zero_le _, Nat.zero_le _⟩ (fun H locs hX => ?_)
        have k36_0 : 0 ≤ (x2_5).toInt → (0 ≤ (r_11).toInt ∧ (r_11).toInt ≤ (x2_5).toInt) := by rw [e36]; exact r_leaves
        refine lv_istore_n (lv' := [(2, .int r_11), (0, .ref (a 0)), (1, .int p1), (3, .int x3_6), (4, .int x4_7)]) hx hb dX11_play_39 rfl hl (by decide) rfl (fun ls hl => ?_)
        refine lv_aload_n hx hb dX11_play_40 rfl (lv_at hl 1 rfl) ?_
        refine lv_dup hx hb dX11_play_41 rfl ?_
        refine va_get (D := D) (ci := 11) (v := .int gameCuts_3) (C := RX11) (T := TX11) (N := 34) hx hb hts hi_X11 hown hS.1 hX.1 0 rfl rfl 22 (by decide) l_fieldLink_221 (fun _ h9 => h9) rfl dX11_play_42 ?_
        refine lv_iconst (v := (1 : Int32)) hx hb dX11_play_45 (by decide) ?_
        refine lv_iadd hx hb dX11_play_46 ?_
        refine va_put (D := D) (ci := 11) (v := .int (gameCuts_3 + (1 : Int32))) (ty := .int) (C := RX11) (T := TX11) (N := 34) hx hb hts hi_X11 tyX11 tyX11_ok nmX11 hown hS.1 hX.1 hX.2.1 hX.2.2 0 rfl rfl 22 (by decide) l_fieldLink_221 (fun _ h9 => h9) rfl (by decide +kernel) rfl rfl (Nat.le_of_ble_eq_true rfl) dX11_play_47 (fun H locs hP hD hs => ?_)
        have hX : gX D Z s (wM a cA hedges branches stand turn cuts asks seen pageLength isWhole newBranches (gameCuts_3 + (1 : Int32)) isKept keptHedge keptStand keptTurn keptCuts keptSeen z_9.2 hsh kindOf onOf seenBranch seenBegins seenWins page winner lasting worthBy wonBy keptKind keptBranch keptBegins keptWins partsBy) H locs := ⟨hP, hD, hs⟩
        refine lv_iconst (v := (1 : Int32)) hx hb dX11_play_50 (by decide) ?_
        refine lv_iload_n hx hb dX11_play_51 rfl (lv_at hl 3 rfl) ?_
        refine lv_isub hx hb dX11_play_52 ?_
        refine lv_istore_n (lv' := [(3, .int ((1 : Int32) - x3_6)), (2, .int r_11), (0, .ref (a 0)), (1, .int p1), (4, .int x4_7)]) hx hb dX11_play_53 rfl hl (by decide) rfl (fun ls hl => ?_)
        refine lv_aload_n hx hb dX11_play_54 rfl (lv_at hl 2 rfl) ?_
        refine lv_iload_n hx hb dX11_play_55 rfl (lv_at hl 0 rfl) ?_
        refine lv_iload_n hx hb dX11_play_56 rfl (lv_at hl 1 rfl) ?_
        obtain ⟨r_12, e57⟩ : ∃ z, z = (f_X11_mayCuts branches kindOf onOf ((1 : Int32) - x3_6) r_11) := ⟨_, rfl⟩
        rw [← e57] at he
        refine g_Vi (r := r_12) (As := [.int ((1 : Int32) - x3_6), .int r_11]) (rest := []) (ci := 11) (q0 := 0) ⟨hx, hb, hml, hown, hts⟩ hS hX (k_X11_mayCuts ((1 : Int32) - x3_6) r_11 (by omega) r_12 e57) (cwV 2 hts gX11_play_X11_mayCuts rfl rfl rfl (by decide +kernel) ⟨Nat.le_of_ble_eq_true rfl, Nat.le_of_ble_eq_true rfl⟩) rfl rfl rfl hl.1 rfl (Nat.le_of_ble_eq_true rfl) dX11_play_57 ⟨Nat.zero_le _, Nat.zero_le _⟩ (fun H locs hX => ?_)
        refine lv_istore (lv' := [(4, .int r_12), (3, .int ((1 : Int32) - x3_6)), (2, .int r_11), (0, .ref (a 0)), (1, .int p1)]) hx hb dX11_play_60 hl (by decide) rfl (fun ls hl => ?_)
        refine lv_goto (tgt := 15) hx hb dX11_play_62 (by decide) ?_
        exact ih_L15_2 (gameCuts_3 + (1 : Int32)) z_9.2 r_11 ((1 : Int32) - x3_6) r_12 (pl_step hbr ip (by omega) (k32_1 (by omega)) e36 e57) he _ _ _ hX (lv_sub hl [3, 4, 2, 1, 0] rfl)
  exact L15_2 9 gameCuts seedNow stand p1 r_1 (plI_0 hst e10) he _ _ _ hX (lv_sub hl [3, 4, 2, 1, 0] rfl)
abbrev rm_X11_gamesNow : Room := { frames := 5, cells := 0, slots := 0, locals := 116 }
set_option maxHeartbeats 4000000 in
set_option maxRecDepth 100000 in
theorem k_X11_gamesNow {l : Launch} {D : va_G} {E : sE} {a : Nat → Nat} {cA : Nat → ClassId} {hedges : Int32} {branches : Int32} {stand : Int32} {turn : Int32} {cuts : Int32} {asks : Int32} {seen : Int32} {pageLength : Int32} {isWhole : Int32} {newBranches : Int32} {gameCuts : Int32} {isKept : Int32} {keptHedge : Int32} {keptStand : Int32} {keptTurn : Int32} {keptCuts : Int32} {keptSeen : Int32} {seedNow : Int64} {hsh : Int64} {kindOf : Nat → Int32} {onOf : Nat → Int32} {seenBranch : Nat → Int32} {seenBegins : Nat → Int32} {seenWins : Nat → Int32} {page : Nat → Int32} {winner : Nat → Int32} {lasting : Nat → Int32} {worthBy : Nat → Int32} {wonBy : Nat → Int32} {keptKind : Nat → Int32} {keptBranch : Nat → Int32} {keptBegins : Nat → Int32} {keptWins : Nat → Int32} {partsBy : Nat → Int64} (p1 : Int32) (p2 : Int32) (p3 : Int32) (hbr : 0 ≤ (branches).toInt ∧ (branches).toInt ≤ 8) (hst : 0 ≤ (stand).toInt ∧ (stand).toInt < 256) (hti : 0 ≤ (p1).toInt ∧ (p1).toInt ≤ 40) : ∀ q : Int32 × Int32 × Int64, q = f_X11_gamesNow branches stand gameCuts seedNow kindOf onOf p1 p2 p3 → gMi l yX11_gamesNow wsX11_gamesNow rm_X11_gamesNow D E (tM cA) [.ref (a 0), .int p1, .int p2, .int p3] (wM a cA hedges branches stand turn cuts asks seen pageLength isWhole newBranches gameCuts isKept keptHedge keptStand keptTurn keptCuts keptSeen seedNow hsh kindOf onOf seenBranch seenBegins seenWins page winner lasting worthBy wonBy keptKind keptBranch keptBegins keptWins partsBy) (wM a cA hedges branches stand turn cuts asks seen pageLength isWhole newBranches q.2.1 isKept keptHedge keptStand keptTurn keptCuts keptSeen q.2.2 hsh kindOf onOf seenBranch seenBegins seenWins page winner lasting worthBy wonBy keptKind keptBranch keptBegins keptWins partsBy) q.1 := by
  intro q he0
  refine gM_of (cc := cX11_gamesNow) (maxL := 6) (ret := (some .int)) (Qf := gQi D (wM a cA hedges branches stand turn cuts asks seen pageLength isWhole newBranches q.2.1 isKept keptHedge keptStand keptTurn keptCuts keptSeen q.2.2 hsh kindOf onOf seenBranch seenBegins seenWins page winner lasting worthBy wonBy keptKind keptBranch keptBegins keptWins partsBy) q.1) (by decide) rfl (Nat.le_of_ble_eq_true rfl) ?_
  intro p e s m args below meth c Z ls Qz hx hb hr hml hlocks hown hts hS hX hl hq
  have he := he0.trans f_X11_gamesNow_s
  have hown : s.vm.findClass RX11 = some m.cls := hown
  have hl : lv_has ls 6 [(0, .ref (a 0)), (1, .int p1), (2, .int p2), (3, .int p3)] := hl
  have hi_X11 : ∀ w ∈ u_ws RX11 TX11 34, w ∈ wsX11_gamesNow := fun _ h => List.mem_cons_of_mem _ (List.mem_append_right _ h)
  have l_fieldLink_202 := hts (Cond.fieldLink RX11 202 "HedgeGameModel" "seedNow" "J") (List.mem_of_getElem? (i := 1) rfl)
  have l_fieldLink_221 := hts (Cond.fieldLink RX11 221 "HedgeGameModel" "gameCuts" "I") (List.mem_of_getElem? (i := 2) rfl)
  have t0 : ((0 : Int32)).toInt = 0 := rfl
  have t1 : ((1 : Int32)).toInt = 1 := rfl
  have t2 : ((2 : Int32)).toInt = 2 := rfl
  refine lv_aload_n hx hb dX11_gamesNow_0 rfl (lv_at hl 0 rfl) ?_
  refine lv_iload_n hx hb dX11_gamesNow_1 rfl (lv_at hl 2 rfl) ?_
  refine lv_i2l hx hb dX11_gamesNow_2 rfl ?_
  refine va_put (D := D) (ci := 11) (v := .long ((p2).toInt64)) (ty := .long) (C := RX11) (T := TX11) (N := 34) hx hb hts hi_X11 tyX11 tyX11_ok nmX11 hown hS.1 hX.1 hX.2.1 hX.2.2 0 rfl rfl 21 (by decide) l_fieldLink_202 (fun _ h9 => h9) rfl (by decide +kernel) rfl rfl (Nat.le_of_ble_eq_true rfl) dX11_gamesNow_3 (fun H locs hP hD hs => ?_)
  have hX : gX D Z s (wM a cA hedges branches stand turn cuts asks seen pageLength isWhole newBranches gameCuts isKept keptHedge keptStand keptTurn keptCuts keptSeen ((p2).toInt64) hsh kindOf onOf seenBranch seenBegins seenWins page winner lasting worthBy wonBy keptKind keptBranch keptBegins keptWins partsBy) H locs := ⟨hP, hD, hs⟩
  refine lv_aload_n hx hb dX11_gamesNow_6 rfl (lv_at hl 0 rfl) ?_
  refine lv_iconst (v := (0 : Int32)) hx hb dX11_gamesNow_7 (by decide) ?_
  refine va_put (D := D) (ci := 11) (v := .int (0 : Int32)) (ty := .int) (C := RX11) (T := TX11) (N := 34) hx hb hts hi_X11 tyX11 tyX11_ok nmX11 hown hS.1 hX.1 hX.2.1 hX.2.2 0 rfl rfl 22 (by decide) l_fieldLink_221 (fun _ h9 => h9) rfl (by decide +kernel) rfl rfl (Nat.le_of_ble_eq_true rfl) dX11_gamesNow_8 (fun H locs hP hD hs => ?_)
  have hX : gX D Z s (wM a cA hedges branches stand turn cuts asks seen pageLength isWhole newBranches (0 : Int32) isKept keptHedge keptStand keptTurn keptCuts keptSeen ((p2).toInt64) hsh kindOf onOf seenBranch seenBegins seenWins page winner lasting worthBy wonBy keptKind keptBranch keptBegins keptWins partsBy) H locs := ⟨hP, hD, hs⟩
  refine lv_iconst (v := (0 : Int32)) hx hb dX11_gamesNow_11 (by decide) ?_
  refine lv_istore (lv' := [(4, .int (0 : Int32)), (0, .ref (a 0)), (1, .int p1), (2, .int p2), (3, .int p3)]) hx hb dX11_gamesNow_12 hl (by decide) rfl (fun ls hl => ?_)
  refine lv_iconst (v := (0 : Int32)) hx hb dX11_gamesNow_14 (by decide) ?_
  refine lv_istore (lv' := [(5, .int (0 : Int32)), (4, .int (0 : Int32)), (0, .ref (a 0)), (1, .int p1), (2, .int p2), (3, .int p3)]) hx hb dX11_gamesNow_15 hl (by decide) rfl (fun ls hl => ?_)
  have L17_1 : ∀ (n_17_1 : Nat) (gameCuts_2 : Int32) (seedNow_3 : Int64) (x4_4 : Int32) (x5_5 : Int32), 0 ≤ (x5_5).toInt ∧ (x5_5).toInt ≤ 40 → 40 - (x5_5).toInt < (n_17_1 : Int) → q = f_X11_gamesNow_L17 n_17_1 branches stand gameCuts_2 seedNow_3 kindOf onOf p1 p2 p3 x4_4 x5_5 → ∀ (H : Heap) (locs : List Loc) (ls : Array Slot), gX D Z s (wM a cA hedges branches stand turn cuts asks seen pageLength isWhole newBranches gameCuts_2 isKept keptHedge keptStand keptTurn keptCuts keptSeen seedNow_3 hsh kindOf onOf seenBranch seenBegins seenWins page winner lasting worthBy wonBy keptKind keptBranch keptBegins keptWins partsBy) H locs → lv_has ls 6 [(0, .ref (a 0)), (1, .int p1), (2, .int p2), (3, .int p3), (4, .int x4_4), (5, .int x5_5)] → W p l e rm_X11_gamesNow s m args below meth c H locs 0 0 Qz (F0 m 17 ls []) := by
    intro n_17_1
    induction n_17_1 with
    | zero =>
      intro gameCuts_2 seedNow_3 x4_4 x5_5 ia ifu _ _ _ _ _ _
      exfalso; omega
    | succ n_17_1 ih_L17_1 =>
      intro gameCuts_2 seedNow_3 x4_4 x5_5 ia ifu he H locs ls hX hl
      have he := he.trans f_X11_gamesNow_L17_s
      refine lv_iload hx hb dX11_gamesNow_17 (lv_at hl 5 rfl) ?_
      refine lv_iload_n hx hb dX11_gamesNow_19 rfl (lv_at hl 1 rfl) ?_
      refine lv_icmp_ge (tgt := 50) hx hb dX11_gamesNow_20 (by decide) (fun c20 => ?_) (fun c20 => ?_)
      · have he := he.trans (if_pos c20)
        have d20 := i_le c20
        refine lv_iload_n hx hb dX11_gamesNow_50 rfl (lv_at hl 3 rfl) ?_
        refine lv_if_ne (tgt := 59) hx hb dX11_gamesNow_51 (by decide) (fun c51 => ?_) (fun c51 => ?_)
        · have he := he.trans (if_neg c51)
          have d51 := i_ne c51
          refine lv_iload_n hx hb dX11_gamesNow_59 rfl (lv_at hl 3 rfl) ?_
          refine lv_iconst (v := (1 : Int32)) hx hb dX11_gamesNow_60 (by decide) ?_
          refine lv_icmp_ne (tgt := 71) hx hb dX11_gamesNow_61 (by decide) (fun c61 => ?_) (fun c61 => ?_)
          · have he := he.trans (if_neg c61)
            have d61 := i_ne c61
            refine lv_aload_n hx hb dX11_gamesNow_71 rfl (lv_at hl 0 rfl) ?_
            refine va_get (D := D) (ci := 11) (v := .long seedNow_3) (C := RX11) (T := TX11) (N := 34) hx hb hts hi_X11 hown hS.1 hX.1 0 rfl rfl 21 (by decide) l_fieldLink_202 (fun _ h9 => h9) rfl dX11_gamesNow_72 ?_
            refine lv_l2i hx hb dX11_gamesNow_75 rfl ?_
            subst he
            exact g_iret hx hb hr hlocks hX hq rfl dX11_gamesNow_76
          · have he := he.trans (if_pos c61)
            have d61 := i_eq c61
            refine lv_aload_n hx hb dX11_gamesNow_64 rfl (lv_at hl 0 rfl) ?_
            refine va_get (D := D) (ci := 11) (v := .int gameCuts_2) (C := RX11) (T := TX11) (N := 34) hx hb hts hi_X11 hown hS.1 hX.1 0 rfl rfl 22 (by decide) l_fieldLink_221 (fun _ h9 => h9) rfl dX11_gamesNow_65 ?_
            refine lv_goto (tgt := 76) hx hb dX11_gamesNow_68 (by decide) ?_
            subst he
            exact g_iret hx hb hr hlocks hX hq rfl dX11_gamesNow_76
        · have he := he.trans (if_pos c51)
          have d51 := i_eq c51
          refine lv_iload hx hb dX11_gamesNow_54 (lv_at hl 4 rfl) ?_
          refine lv_goto (tgt := 76) hx hb dX11_gamesNow_56 (by decide) ?_
          subst he
          exact g_iret hx hb hr hlocks hX hq rfl dX11_gamesNow_76
      · have he := he.trans (if_neg c20)
        have d20 := i_nle c20
        refine lv_iload hx hb dX11_gamesNow_23 (lv_at hl 4 rfl) ?_
        refine lv_aload_n hx hb dX11_gamesNow_25 rfl (lv_at hl 0 rfl) ?_
        refine lv_iload hx hb dX11_gamesNow_26 (lv_at hl 5 rfl) ?_
        refine lv_iconst (v := (2 : Int32)) hx hb dX11_gamesNow_28 (by decide) ?_
        refine lv_irem hx hb dX11_gamesNow_29 (by decide) ?_
        obtain ⟨z_6, e30⟩ : ∃ z, z = (f_X11_play branches stand gameCuts_2 seedNow_3 kindOf onOf (x5_5 - x5_5 / (2 : Int32) * (2 : Int32))) := ⟨_, rfl⟩
        rw [← e30] at he
        try dsimp only at he
        refine g_Vi (r := z_6.1) (w2 := (wM a cA hedges branches stand turn cuts asks seen pageLength isWhole newBranches z_6.2.1 isKept keptHedge keptStand keptTurn keptCuts keptSeen z_6.2.2 hsh kindOf onOf seenBranch seenBegins seenWins page winner lasting worthBy wonBy keptKind keptBranch keptBegins keptWins partsBy)) (As := [.int (x5_5 - x5_5 / (2 : Int32) * (2 : Int32))]) (rest := [.int x4_4]) (ci := 11) (q0 := 0) ⟨hx, hb, hml, hown, hts⟩ hS hX (k_X11_play (x5_5 - x5_5 / (2 : Int32) * (2 : Int32)) (by omega) (by omega) z_6 e30) (cwV 1 hts gX11_gamesNow_X11_play rfl rfl rfl (by decide +kernel) ⟨Nat.le_of_ble_eq_true rfl, Nat.le_of_ble_eq_true rfl⟩) rfl rfl rfl hl.1 rfl (Nat.le_of_ble_eq_true rfl) dX11_gamesNow_30 ⟨Nat.zero_le _, Nat.zero_le _⟩ (fun H locs hX => ?_)
        refine lv_if_ne (tgt := 40) hx hb dX11_gamesNow_33 (by decide) (fun c33 => ?_) (fun c33 => ?_)
        · have he := he.trans (if_neg c33)
          have d33 := i_ne c33
          refine lv_iconst (v := (0 : Int32)) hx hb dX11_gamesNow_40 (by decide) ?_
          refine lv_iadd hx hb dX11_gamesNow_41 ?_
          refine lv_istore (lv' := [(4, .int (x4_4 + (0 : Int32))), (0, .ref (a 0)), (1, .int p1), (2, .int p2), (3, .int p3), (5, .int x5_5)]) hx hb dX11_gamesNow_42 hl (by decide) rfl (fun ls hl => ?_)
          refine lv_iinc (v := (x5_5 + (1 : Int32))) (lv' := [(5, .int (x5_5 + (1 : Int32))), (4, .int (x4_4 + (0 : Int32))), (0, .ref (a 0)), (1, .int p1), (2, .int p2), (3, .int p3)]) hx hb dX11_gamesNow_44 hl (k := 5) rfl rfl (by decide) rfl (fun ls hl => ?_)
          have s44 := i_s1 (x := x5_5) (by omega)
          refine lv_goto (tgt := 17) hx hb dX11_gamesNow_47 (by decide) ?_
          exact ih_L17_1 z_6.2.1 z_6.2.2 (x4_4 + (0 : Int32)) (x5_5 + (1 : Int32)) (by omega) (by omega) he _ _ _ hX (lv_sub hl [2, 3, 4, 5, 1, 0] rfl)
        · have he := he.trans (if_pos c33)
          have d33 := i_eq c33
          refine lv_iconst (v := (1 : Int32)) hx hb dX11_gamesNow_36 (by decide) ?_
          refine lv_goto (tgt := 41) hx hb dX11_gamesNow_37 (by decide) ?_
          refine lv_iadd hx hb dX11_gamesNow_41 ?_
          refine lv_istore (lv' := [(4, .int (x4_4 + (1 : Int32))), (0, .ref (a 0)), (1, .int p1), (2, .int p2), (3, .int p3), (5, .int x5_5)]) hx hb dX11_gamesNow_42 hl (by decide) rfl (fun ls hl => ?_)
          refine lv_iinc (v := (x5_5 + (1 : Int32))) (lv' := [(5, .int (x5_5 + (1 : Int32))), (4, .int (x4_4 + (1 : Int32))), (0, .ref (a 0)), (1, .int p1), (2, .int p2), (3, .int p3)]) hx hb dX11_gamesNow_44 hl (k := 5) rfl rfl (by decide) rfl (fun ls hl => ?_)
          have s44 := i_s1 (x := x5_5) (by omega)
          refine lv_goto (tgt := 17) hx hb dX11_gamesNow_47 (by decide) ?_
          exact ih_L17_1 z_6.2.1 z_6.2.2 (x4_4 + (1 : Int32)) (x5_5 + (1 : Int32)) (by omega) (by omega) he _ _ _ hX (lv_sub hl [2, 3, 4, 5, 1, 0] rfl)
  exact L17_1 41 (0 : Int32) ((p2).toInt64) (0 : Int32) (0 : Int32) (by omega) (by omega) he _ _ _ hX (lv_sub hl [2, 3, 4, 5, 1, 0] rfl)
abbrev rm_X11_games : Room := { frames := 6, cells := 0, slots := 0, locals := 141 }
set_option maxHeartbeats 4000000 in
set_option maxRecDepth 100000 in
theorem k_X11_games {l : Launch} {D : va_G} {E : sE} {a : Nat → Nat} {cA : Nat → ClassId} {hedges : Int32} {branches : Int32} {stand : Int32} {turn : Int32} {cuts : Int32} {asks : Int32} {seen : Int32} {pageLength : Int32} {isWhole : Int32} {newBranches : Int32} {gameCuts : Int32} {isKept : Int32} {keptHedge : Int32} {keptStand : Int32} {keptTurn : Int32} {keptCuts : Int32} {keptSeen : Int32} {seedNow : Int64} {hsh : Int64} {kindOf : Nat → Int32} {onOf : Nat → Int32} {seenBranch : Nat → Int32} {seenBegins : Nat → Int32} {seenWins : Nat → Int32} {page : Nat → Int32} {winner : Nat → Int32} {lasting : Nat → Int32} {worthBy : Nat → Int32} {wonBy : Nat → Int32} {keptKind : Nat → Int32} {keptBranch : Nat → Int32} {keptBegins : Nat → Int32} {keptWins : Nat → Int32} {partsBy : Nat → Int64} (p1 : Int32) (p2 : Int32) (p3 : Int32) (hbr : 0 ≤ (branches).toInt ∧ (branches).toInt ≤ 8) (hst : 0 ≤ (stand).toInt ∧ (stand).toInt < 256) : ∀ q : Int32 × Int32 × Int64, q = f_X11_games branches stand gameCuts seedNow kindOf onOf p1 p2 p3 → gMi l yX11_games wsX11_games rm_X11_games D E (tM cA) [.ref (a 0), .int p1, .int p2, .int p3] (wM a cA hedges branches stand turn cuts asks seen pageLength isWhole newBranches gameCuts isKept keptHedge keptStand keptTurn keptCuts keptSeen seedNow hsh kindOf onOf seenBranch seenBegins seenWins page winner lasting worthBy wonBy keptKind keptBranch keptBegins keptWins partsBy) (wM a cA hedges branches stand turn cuts asks seen pageLength isWhole newBranches q.2.1 isKept keptHedge keptStand keptTurn keptCuts keptSeen q.2.2 hsh kindOf onOf seenBranch seenBegins seenWins page winner lasting worthBy wonBy keptKind keptBranch keptBegins keptWins partsBy) q.1 := by
  intro q he0
  refine gM_of (cc := cX11_games) (maxL := 4) (ret := (some .int)) (Qf := gQi D (wM a cA hedges branches stand turn cuts asks seen pageLength isWhole newBranches q.2.1 isKept keptHedge keptStand keptTurn keptCuts keptSeen q.2.2 hsh kindOf onOf seenBranch seenBegins seenWins page winner lasting worthBy wonBy keptKind keptBranch keptBegins keptWins partsBy) q.1) (by decide) rfl (Nat.le_of_ble_eq_true rfl) ?_
  intro p e s m args below meth c Z ls Qz hx hb hr hml hlocks hown hts hS hX hl hq
  have he := he0.trans f_X11_games_s
  have hown : s.vm.findClass RX11 = some m.cls := hown
  have hl : lv_has ls 4 [(0, .ref (a 0)), (1, .int p1), (2, .int p2), (3, .int p3)] := hl
  have hi_X11 : ∀ w ∈ u_ws RX11 TX11 34, w ∈ wsX11_games := fun _ h => List.mem_cons_of_mem _ (List.mem_append_right _ h)
  have l_fieldLink_83 := hts (Cond.fieldLink RX11 83 "HedgeGameModel" "branches" "I") (List.mem_of_getElem? (i := 1) rfl)
  have tm103 : ((-103 : Int32)).toInt = -103 := rfl
  have tm102 : ((-102 : Int32)).toInt = -102 := rfl
  have t0 : ((0 : Int32)).toInt = 0 := rfl
  have t1 : ((1 : Int32)).toInt = 1 := rfl
  have t2 : ((2 : Int32)).toInt = 2 := rfl
  have t40 : ((40 : Int32)).toInt = 40 := rfl
  refine lv_iload_n hx hb dX11_games_0 rfl (lv_at hl 1 rfl) ?_
  refine lv_iconst (v := (1 : Int32)) hx hb dX11_games_1 (by decide) ?_
  refine lv_bipush (v := (40 : Int32)) hx hb dX11_games_2 (by decide) ?_
  obtain ⟨r_1, e4⟩ : ∃ z, z = (f_X11_within p1 (1 : Int32) (40 : Int32)) := ⟨_, rfl⟩
  rw [← e4] at he
  refine g_Si (r := r_1) (As := [.int p1, .int (1 : Int32), .int (40 : Int32)]) (rest := []) ⟨hx, hb, hml, hown, hts⟩ hS hX (k_X11_within p1 (1 : Int32) (40 : Int32) r_1 e4) (va_cwS 3 hts gX11_games_X11_within rfl rfl rfl (by decide +kernel) ⟨Nat.le_of_ble_eq_true rfl, Nat.le_of_ble_eq_true rfl⟩) rfl hl.1 rfl (Nat.le_of_ble_eq_true rfl) dX11_games_4 ⟨Nat.zero_le _, Nat.zero_le _⟩ (fun H locs hX => ?_)
  have k4_0 : (r_1).toInt = 0 ∨ ((r_1).toInt = 1 ∧ ((1 : Int32)).toInt ≤ (p1).toInt ∧ (p1).toInt ≤ ((40 : Int32)).toInt) := by rw [e4]; exact r_within
  refine lv_if_eq (tgt := 23) hx hb dX11_games_7 (by decide) (fun c7 => ?_) (fun c7 => ?_)
  · have he := he.trans (if_pos c7)
    have d7 := i_eq c7
    refine lv_bipush (v := (-102 : Int32)) hx hb dX11_games_23 (by decide) ?_
    subst he
    exact g_iret hx hb hr hlocks hX hq rfl dX11_games_25
  · have he := he.trans (if_neg c7)
    have d7 := i_ne c7
    refine lv_iload_n hx hb dX11_games_10 rfl (lv_at hl 2 rfl) ?_
    refine lv_if_lt (tgt := 23) hx hb dX11_games_11 (by decide) (fun c11 => ?_) (fun c11 => ?_)
    · have he := he.trans (if_pos c11)
      have d11 := i_lt c11
      refine lv_bipush (v := (-102 : Int32)) hx hb dX11_games_23 (by decide) ?_
      subst he
      exact g_iret hx hb hr hlocks hX hq rfl dX11_games_25
    · have he := he.trans (if_neg c11)
      have d11 := i_nlt c11
      refine lv_iload_n hx hb dX11_games_14 rfl (lv_at hl 3 rfl) ?_
      refine lv_iconst (v := (0 : Int32)) hx hb dX11_games_15 (by decide) ?_
      refine lv_iconst (v := (2 : Int32)) hx hb dX11_games_16 (by decide) ?_
      obtain ⟨r_2, e17⟩ : ∃ z, z = (f_X11_within p3 (0 : Int32) (2 : Int32)) := ⟨_, rfl⟩
      rw [← e17] at he
      refine g_Si (r := r_2) (As := [.int p3, .int (0 : Int32), .int (2 : Int32)]) (rest := []) ⟨hx, hb, hml, hown, hts⟩ hS hX (k_X11_within p3 (0 : Int32) (2 : Int32) r_2 e17) (va_cwS 3 hts gX11_games_X11_within rfl rfl rfl (by decide +kernel) ⟨Nat.le_of_ble_eq_true rfl, Nat.le_of_ble_eq_true rfl⟩) rfl hl.1 rfl (Nat.le_of_ble_eq_true rfl) dX11_games_17 ⟨Nat.zero_le _, Nat.zero_le _⟩ (fun H locs hX => ?_)
      have k17_0 : (r_2).toInt = 0 ∨ ((r_2).toInt = 1 ∧ ((0 : Int32)).toInt ≤ (p3).toInt ∧ (p3).toInt ≤ ((2 : Int32)).toInt) := by rw [e17]; exact r_within
      refine lv_if_ne (tgt := 26) hx hb dX11_games_20 (by decide) (fun c20 => ?_) (fun c20 => ?_)
      · have he := he.trans (if_neg c20)
        have d20 := i_ne c20
        refine lv_aload_n hx hb dX11_games_26 rfl (lv_at hl 0 rfl) ?_
        refine va_get (D := D) (ci := 11) (v := .int branches) (C := RX11) (T := TX11) (N := 34) hx hb hts hi_X11 hown hS.1 hX.1 0 rfl rfl 1 (by decide) l_fieldLink_83 (fun _ h9 => h9) rfl dX11_games_27 ?_
        refine lv_if_ne (tgt := 38) hx hb dX11_games_30 (by decide) (fun c30 => ?_) (fun c30 => ?_)
        · have he := he.trans (if_neg c30)
          have d30 := i_ne c30
          refine lv_aload_n hx hb dX11_games_38 rfl (lv_at hl 0 rfl) ?_
          refine lv_iload_n hx hb dX11_games_39 rfl (lv_at hl 1 rfl) ?_
          refine lv_iload_n hx hb dX11_games_40 rfl (lv_at hl 2 rfl) ?_
          refine lv_iload_n hx hb dX11_games_41 rfl (lv_at hl 3 rfl) ?_
          obtain ⟨z_3, e42⟩ : ∃ z, z = (f_X11_gamesNow branches stand gameCuts seedNow kindOf onOf p1 p2 p3) := ⟨_, rfl⟩
          rw [← e42] at he
          try dsimp only at he
          refine g_Vi (r := z_3.1) (w2 := (wM a cA hedges branches stand turn cuts asks seen pageLength isWhole newBranches z_3.2.1 isKept keptHedge keptStand keptTurn keptCuts keptSeen z_3.2.2 hsh kindOf onOf seenBranch seenBegins seenWins page winner lasting worthBy wonBy keptKind keptBranch keptBegins keptWins partsBy)) (As := [.int p1, .int p2, .int p3]) (rest := []) (ci := 11) (q0 := 0) ⟨hx, hb, hml, hown, hts⟩ hS hX (k_X11_gamesNow p1 p2 p3 (by omega) (by omega) (by omega) z_3 e42) (cwV 3 hts gX11_games_X11_gamesNow rfl rfl rfl (by decide +kernel) ⟨Nat.le_of_ble_eq_true rfl, Nat.le_of_ble_eq_true rfl⟩) rfl rfl rfl hl.1 rfl (Nat.le_of_ble_eq_true rfl) dX11_games_42 ⟨Nat.zero_le _, Nat.zero_le _⟩ (fun H locs hX => ?_)
          subst he
          exact g_iret hx hb hr hlocks hX hq rfl dX11_games_45
        · have he := he.trans (if_pos c30)
          have d30 := i_eq c30
          refine lv_bipush (v := (-103 : Int32)) hx hb dX11_games_33 (by decide) ?_
          refine lv_goto (tgt := 45) hx hb dX11_games_35 (by decide) ?_
          subst he
          exact g_iret hx hb hr hlocks hX hq rfl dX11_games_45
      · have he := he.trans (if_pos c20)
        have d20 := i_eq c20
        refine lv_bipush (v := (-102 : Int32)) hx hb dX11_games_23 (by decide) ?_
        subst he
        exact g_iret hx hb hr hlocks hX hq rfl dX11_games_25
