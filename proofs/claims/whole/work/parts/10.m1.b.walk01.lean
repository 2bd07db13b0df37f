abbrev rm_X11_above : Room := { frames := 1, cells := 0, slots := 0, locals := 21 }
set_option maxHeartbeats 4000000 in
set_option maxRecDepth 100000 in
theorem k_X11_above {l : Launch} {D : va_G} {E : sE} {a : Nat → Nat} {cA : Nat → ClassId} {hedges : Int32} {branches : Int32} {stand : Int32} {turn : Int32} {cuts : Int32} {asks : Int32} {seen : Int32} {pageLength : Int32} {isWhole : Int32} {newBranches : Int32} {gameCuts : Int32} {isKept : Int32} {keptHedge : Int32} {keptStand : Int32} {keptTurn : Int32} {keptCuts : Int32} {keptSeen : Int32} {seedNow : Int64} {hsh : Int64} {kindOf : Nat → Int32} {onOf : Nat → Int32} {seenBranch : Nat → Int32} {seenBegins : Nat → Int32} {seenWins : Nat → Int32} {page : Nat → Int32} {winner : Nat → Int32} {lasting : Nat → Int32} {worthBy : Nat → Int32} {wonBy : Nat → Int32} {keptKind : Nat → Int32} {keptBranch : Nat → Int32} {keptBegins : Nat → Int32} {keptWins : Nat → Int32} {partsBy : Nat → Int64} (p1 : Int32) (hbr : 0 ≤ (branches).toInt ∧ (branches).toInt ≤ 8) (hbx : 0 ≤ (p1).toInt ∧ (p1).toInt < 8) : ∀ q : Int32, q = f_X11_above branches onOf p1 → gMi l yX11_above wsX11_above rm_X11_above D E (tM cA) [.ref (a 0), .int p1] (wM a cA hedges branches stand turn cuts asks seen pageLength isWhole newBranches gameCuts isKept keptHedge keptStand keptTurn keptCuts keptSeen seedNow hsh kindOf onOf seenBranch seenBegins seenWins page winner lasting worthBy wonBy keptKind keptBranch keptBegins keptWins partsBy) (wM a cA hedges branches stand turn cuts asks seen pageLength isWhole newBranches gameCuts isKept keptHedge keptStand keptTurn keptCuts keptSeen seedNow hsh kindOf onOf seenBranch seenBegins seenWins page winner lasting worthBy wonBy keptKind keptBranch keptBegins keptWins partsBy) q := by
  intro q he0
  refine gM_of (cc := cX11_above) (maxL := 4) (ret := (some .int)) (Qf := gQi D (wM a cA hedges branches stand turn cuts asks seen pageLength isWhole newBranches gameCuts isKept keptHedge keptStand keptTurn keptCuts keptSeen seedNow hsh kindOf onOf seenBranch seenBegins seenWins page winner lasting worthBy wonBy keptKind keptBranch keptBegins keptWins partsBy) q) (by decide) rfl (Nat.le_of_ble_eq_true rfl) ?_
  intro p e s m args below meth c Z ls Qz hx hb hr hml hlocks hown hts hS hX hl hq
  have he := he0.trans f_X11_above_s
  have hown : s.vm.findClass RX11 = some m.cls := hown
  have hl : lv_has ls 4 [(0, .ref (a 0)), (1, .int p1)] := hl
  have hi_X11 : ∀ w ∈ u_ws RX11 TX11 34, w ∈ wsX11_above := fun _ h => List.mem_cons_of_mem _ (List.mem_append_right _ h)
  have l_fieldLink_13 := hts (Cond.fieldLink RX11 13 "HedgeGameModel" "onOf" "[I") (List.mem_of_getElem? (i := 2) rfl)
  have l_fieldLink_83 := hts (Cond.fieldLink RX11 83 "HedgeGameModel" "branches" "I") (List.mem_of_getElem? (i := 1) rfl)
  have tm1 : ((-1 : Int32)).toInt = -1 := rfl
  have t0 : ((0 : Int32)).toInt = 0 := rfl
  have t1 : ((1 : Int32)).toInt = 1 := rfl
  have s0 := i_s1 (x := p1) (by omega)
  refine lv_iconst (v := (0 : Int32)) hx hb dX11_above_0 (by decide) ?_
  refine lv_istore_n (lv' := [(2, .int (0 : Int32)), (0, .ref (a 0)), (1, .int p1)]) hx hb dX11_above_1 rfl hl (by decide) rfl (fun ls hl => ?_)
  refine lv_iload_n hx hb dX11_above_2 rfl (lv_at hl 2 rfl) ?_
  refine lv_iconst (v := (1 : Int32)) hx hb dX11_above_3 (by decide) ?_
  refine lv_iadd hx hb dX11_above_4 ?_
  refine lv_istore_n (lv' := [(3, .int (p1 + (1 : Int32))), (2, .int (0 : Int32)), (0, .ref (a 0)), (1, .int p1)]) hx hb dX11_above_5 rfl hl (by decide) rfl (fun ls hl => ?_)
  have L6_1 : ∀ (n_6_1 : Nat) (x2_2 : Int32) (x3_3 : Int32), 0 ≤ (x3_3).toInt ∧ (x3_3).toInt ≤ 8 → 8 - (x3_3).toInt < (n_6_1 : Int) → q = f_X11_above_L6 n_6_1 branches onOf p1 x2_2 x3_3 → ∀ (H : Heap) (locs : List Loc) (ls : Array Slot), gX D Z s (wM a cA hedges branches stand turn cuts asks seen pageLength isWhole newBranches gameCuts isKept keptHedge keptStand keptTurn keptCuts keptSeen seedNow hsh kindOf onOf seenBranch seenBegins seenWins page winner lasting worthBy wonBy keptKind keptBranch keptBegins keptWins partsBy) H locs → lv_has ls 4 [(0, .ref (a 0)), (1, .int p1), (2, .int x2_2), (3, .int x3_3)] → W p l e rm_X11_above s m args below meth c H locs 0 0 Qz (F0 m 6 ls []) := by
    intro n_6_1
    induction n_6_1 with
    | zero =>
      intro x2_2 x3_3 ia ifu _ _ _ _ _ _
      exfalso; omega
    | succ n_6_1 ih_L6_1 =>
      intro x2_2 x3_3 ia ifu he H locs ls hX hl
      have he := he.trans f_X11_above_L6_s
      refine lv_iload_n hx hb dX11_above_6 rfl (lv_at hl 3 rfl) ?_
      refine lv_aload_n hx hb dX11_above_7 rfl (lv_at hl 0 rfl) ?_
      refine va_get (D := D) (ci := 11) (v := .int branches) (C := RX11) (T := TX11) (N := 34) hx hb hts hi_X11 hown hS.1 hX.1 0 rfl rfl 1 (by decide) l_fieldLink_83 (fun _ h9 => h9) rfl dX11_above_8 ?_
      refine lv_icmp_ge (tgt := 63) hx hb dX11_above_11 (by decide) (fun c11 => ?_) (fun c11 => ?_)
      · have he := he.trans (if_pos c11)
        have d11 := i_le c11
        refine lv_iload_n hx hb dX11_above_63 rfl (lv_at hl 2 rfl) ?_
        subst he
        exact g_iret hx hb hr hlocks hX hq rfl dX11_above_64
      · have he := he.trans (if_neg c11)
        have d11 := i_nle c11
        refine lv_iload_n hx hb dX11_above_14 rfl (lv_at hl 2 rfl) ?_
        refine lv_aload_n hx hb dX11_above_15 rfl (lv_at hl 0 rfl) ?_
        refine va_get (D := D) (ci := 11) (v := .ref (a 2)) (C := RX11) (T := TX11) (N := 34) hx hb hts hi_X11 hown hS.1 hX.1 0 rfl rfl 3 (by decide) l_fieldLink_13 (fun _ h9 => h9) rfl dX11_above_16 ?_
        refine lv_iload_n hx hb dX11_above_19 rfl (lv_at hl 3 rfl) ?_
        refine va_iald hx hb hS.1 hX.1 2 1 rfl rfl (vp_in_iff.mpr (by omega)) dX11_above_20 ?_
        refine lv_iload_n hx hb dX11_above_21 rfl (lv_at hl 1 rfl) ?_
        refine lv_icmp_eq (tgt := 48) hx hb dX11_above_22 (by decide) (fun c22 => ?_) (fun c22 => ?_)
        · have he := he.trans (if_pos c22)
          have d22 := i_eq c22
          refine lv_iconst (v := (1 : Int32)) hx hb dX11_above_48 (by decide) ?_
          refine lv_iload_n hx hb dX11_above_49 rfl (lv_at hl 3 rfl) ?_
          refine lv_ishl hx hb dX11_above_50 ?_
          refine lv_goto (tgt := 55) hx hb dX11_above_51 (by decide) ?_
          refine lv_ior hx hb dX11_above_55 ?_
          refine lv_istore_n (lv' := [(2, .int (x2_2 ||| ((1 : Int32) <<< (x3_3 &&& 31)))), (0, .ref (a 0)), (1, .int p1), (3, .int x3_3)]) hx hb dX11_above_56 rfl hl (by decide) rfl (fun ls hl => ?_)
          refine lv_iinc (v := (x3_3 + (1 : Int32))) (lv' := [(3, .int (x3_3 + (1 : Int32))), (2, .int (x2_2 ||| ((1 : Int32) <<< (x3_3 &&& 31)))), (0, .ref (a 0)), (1, .int p1)]) hx hb dX11_above_57 hl (k := 3) rfl rfl (by decide) rfl (fun ls hl => ?_)
          have s57 := i_s1 (x := x3_3) (by omega)
          refine lv_goto (tgt := 6) hx hb dX11_above_60 (by decide) ?_
          exact ih_L6_1 (x2_2 ||| ((1 : Int32) <<< (x3_3 &&& 31))) (x3_3 + (1 : Int32)) (by omega) (by omega) he _ _ _ hX (lv_sub hl [2, 3, 1, 0] rfl)
        · have he := he.trans (if_neg c22)
          have d22 := i_ne c22
          refine lv_aload_n hx hb dX11_above_25 rfl (lv_at hl 0 rfl) ?_
          refine va_get (D := D) (ci := 11) (v := .ref (a 2)) (C := RX11) (T := TX11) (N := 34) hx hb hts hi_X11 hown hS.1 hX.1 0 rfl rfl 3 (by decide) l_fieldLink_13 (fun _ h9 => h9) rfl dX11_above_26 ?_
          refine lv_iload_n hx hb dX11_above_29 rfl (lv_at hl 3 rfl) ?_
          refine va_iald hx hb hS.1 hX.1 2 1 rfl rfl (vp_in_iff.mpr (by omega)) dX11_above_30 ?_
          refine lv_iconst (v := (-1 : Int32)) hx hb dX11_above_31 (by decide) ?_
          refine lv_icmp_eq (tgt := 54) hx hb dX11_above_32 (by decide) (fun c32 => ?_) (fun c32 => ?_)
          · have he := he.trans (if_pos c32)
            have d32 := i_eq c32
            refine lv_iconst (v := (0 : Int32)) hx hb dX11_above_54 (by decide) ?_
            refine lv_ior hx hb dX11_above_55 ?_
            refine lv_istore_n (lv' := [(2, .int (x2_2 ||| (0 : Int32))), (0, .ref (a 0)), (1, .int p1), (3, .int x3_3)]) hx hb dX11_above_56 rfl hl (by decide) rfl (fun ls hl => ?_)
            refine lv_iinc (v := (x3_3 + (1 : Int32))) (lv' := [(3, .int (x3_3 + (1 : Int32))), (2, .int (x2_2 ||| (0 : Int32))), (0, .ref (a 0)), (1, .int p1)]) hx hb dX11_above_57 hl (k := 3) rfl rfl (by decide) rfl (fun ls hl => ?_)
            have s57 := i_s1 (x := x3_3) (by omega)
            refine lv_goto (tgt := 6) hx hb dX11_above_60 (by decide) ?_
            exact ih_L6_1 (x2_2 ||| (0 : Int32)) (x3_3 + (1 : Int32)) (by omega) (by omega) he _ _ _ hX (lv_sub hl [2, 3, 1, 0] rfl)
          · have he := he.trans (if_neg c32)
            have d32 := i_ne c32
            refine lv_iload_n hx hb dX11_above_35 rfl (lv_at hl 2 rfl) ?_
            refine lv_aload_n hx hb dX11_above_36 rfl (lv_at hl 0 rfl) ?_
            refine va_get (D := D) (ci := 11) (v := .ref (a 2)) (C := RX11) (T := TX11) (N := 34) hx hb hts hi_X11 hown hS.1 hX.1 0 rfl rfl 3 (by decide) l_fieldLink_13 (fun _ h9 => h9) rfl dX11_above_37 ?_
            refine lv_iload_n hx hb dX11_above_40 rfl (lv_at hl 3 rfl) ?_
            refine va_iald hx hb hS.1 hX.1 2 1 rfl rfl (vp_in_iff.mpr (by omega)) dX11_above_41 ?_
            obtain ⟨r_4, e42⟩ : ∃ z, z = (f_X11_isIn x2_2 (onOf (x3_3).toNatClampNeg)) := ⟨_, rfl⟩
            rw [← e42] at he
            refine g_Si (r := r_4) (As := [.int x2_2, .int (onOf (x3_3).toNatClampNeg)]) (rest := [.int x2_2]) ⟨hx, hb, hml, hown, hts⟩ hS hX (k_X11_isIn x2_2 (onOf (x3_3).toNatClampNeg) r_4 e42) (va_cwS 2 hts gX11_above_X11_isIn rfl rfl rfl (by decide +kernel) ⟨Nat.le_of_ble_eq_true rfl, Nat.le_of_ble_eq_true rfl⟩) rfl hl.1 rfl (Nat.le_of_ble_eq_true rfl) dX11_above_42 ⟨Nat.zero_le _, Nat.zero_le _⟩ (fun H locs hX => ?_)
            refine lv_if_eq (tgt := 54) hx hb dX11_above_45 (by decide) (fun c45 => ?_) (fun c45 => ?_)
            · have he := he.trans (if_pos c45)
              have d45 := i_eq c45
              refine lv_iconst (v := (0 : Int32)) hx hb dX11_above_54 (by decide) ?_
              refine lv_ior hx hb dX11_above_55 ?_
              refine lv_istore_n (lv' := [(2, .int (x2_2 ||| (0 : Int32))), (0, .ref (a 0)), (1, .int p1), (3, .int x3_3)]) hx hb dX11_above_56 rfl hl (by decide) rfl (fun ls hl => ?_)
              refine lv_iinc (v := (x3_3 + (1 : Int32))) (lv' := [(3, .int (x3_3 + (1 : Int32))), (2, .int (x2_2 ||| (0 : Int32))), (0, .ref (a 0)), (1, .int p1)]) hx hb dX11_above_57 hl (k := 3) rfl rfl (by decide) rfl (fun ls hl => ?_)
              have s57 := i_s1 (x := x3_3) (by omega)
              refine lv_goto (tgt := 6) hx hb dX11_above_60 (by decide) ?_
              exact ih_L6_1 (x2_2 ||| (0 : Int32)) (x3_3 + (1 : Int32)) (by omega) (by omega) he _ _ _ hX (lv_sub hl [2, 3, 1, 0] rfl)
            · have he := he.trans (if_neg c45)
              have d45 := i_ne c45
              refine lv_iconst (v := (1 : Int32)) hx hb dX11_above_48 (by decide) ?_
              refine lv_iload_n hx hb dX11_above_49 rfl (lv_at hl 3 rfl) ?_
              refine lv_ishl hx hb dX11_above_50 ?_
              refine lv_goto (tgt := 55) hx hb dX11_above_51 (by decide) ?_
              refine lv_ior hx hb dX11_above_55 ?_
              refine lv_istore_n (lv' := [(2, .int (x2_2 ||| ((1 : Int32) <<< (x3_3 &&& 31)))), (0, .ref (a 0)), (1, .int p1), (3, .int x3_3)]) hx hb dX11_above_56 rfl hl (by decide) rfl (fun ls hl => ?_)
              refine lv_iinc (v := (x3_3 + (1 : Int32))) (lv' := [(3, .int (x3_3 + (1 : Int32))), (2, .int (x2_2 ||| ((1 : Int32) <<< (x3_3 &&& 31)))), (0, .ref (a 0)), (1, .int p1)]) hx hb dX11_above_57 hl (k := 3) rfl rfl (by decide) rfl (fun ls hl => ?_)
              have s57 := i_s1 (x := x3_3) (by omega)
              refine lv_goto (tgt := 6) hx hb dX11_above_60 (by decide) ?_
              exact ih_L6_1 (x2_2 ||| ((1 : Int32) <<< (x3_3 &&& 31))) (x3_3 + (1 : Int32)) (by omega) (by omega) he _ _ _ hX (lv_sub hl [2, 3, 1, 0] rfl)
  exact L6_1 9 (0 : Int32) (p1 + (1 : Int32)) (by omega) (by omega) he _ _ _ hX (lv_sub hl [2, 3, 1, 0] rfl)
abbrev rm_X11_isBare : Room := { frames := 1, cells := 0, slots := 0, locals := 21 }
set_option maxHeartbeats 4000000 in
set_option maxRecDepth 100000 in
theorem k_X11_isBare {l : Launch} {D : va_G} {E : sE} {a : Nat → Nat} {cA : Nat → ClassId} {hedges : Int32} {branches : Int32} {stand : Int32} {turn : Int32} {cuts : Int32} {asks : Int32} {seen : Int32} {pageLength : Int32} {isWhole : Int32} {newBranches : Int32} {gameCuts : Int32} {isKept : Int32} {keptHedge : Int32} {keptStand : Int32} {keptTurn : Int32} {keptCuts : Int32} {keptSeen : Int32} {seedNow : Int64} {hsh : Int64} {kindOf : Nat → Int32} {onOf : Nat → Int32} {seenBranch : Nat → Int32} {seenBegins : Nat → Int32} {seenWins : Nat → Int32} {page : Nat → Int32} {winner : Nat → Int32} {lasting : Nat → Int32} {worthBy : Nat → Int32} {wonBy : Nat → Int32} {keptKind : Nat → Int32} {keptBranch : Nat → Int32} {keptBegins : Nat → Int32} {keptWins : Nat → Int32} {partsBy : Nat → Int64} (p1 : Int32) (p2 : Int32) (hbr : 0 ≤ (branches).toInt ∧ (branches).toInt ≤ 8) (hbx : 0 ≤ (p1).toInt ∧ (p1).toInt < 8) : ∀ q : Int32, q = f_X11_isBare branches onOf p1 p2 → gMi l yX11_isBare wsX11_isBare rm_X11_isBare D E (tM cA) [.ref (a 0), .int p1, .int p2] (wM a cA hedges branches stand turn cuts asks seen pageLength isWhole newBranches gameCuts isKept keptHedge keptStand keptTurn keptCuts keptSeen seedNow hsh kindOf onOf seenBranch seenBegins seenWins page winner lasting worthBy wonBy keptKind keptBranch keptBegins keptWins partsBy) (wM a cA hedges branches stand turn cuts asks seen pageLength isWhole newBranches gameCuts isKept keptHedge keptStand keptTurn keptCuts keptSeen seedNow hsh kindOf onOf seenBranch seenBegins seenWins page winner lasting worthBy wonBy keptKind keptBranch keptBegins keptWins partsBy) q := by
  intro q he0
  refine gM_of (cc := cX11_isBare) (maxL := 5) (ret := (some .boolean)) (Qf := gQi D (wM a cA hedges branches stand turn cuts asks seen pageLength isWhole newBranches gameCuts isKept keptHedge keptStand keptTurn keptCuts keptSeen seedNow hsh kindOf onOf seenBranch seenBegins seenWins page winner lasting worthBy wonBy keptKind keptBranch keptBegins keptWins partsBy) q) (by decide) rfl (Nat.le_of_ble_eq_true rfl) ?_
  intro p e s m args below meth c Z ls Qz hx hb hr hml hlocks hown hts hS hX hl hq
  have he := he0.trans f_X11_isBare_s
  have hown : s.vm.findClass RX11 = some m.cls := hown
  have hl : lv_has ls 5 [(0, .ref (a 0)), (1, .int p1), (2, .int p2)] := hl
  have hi_X11 : ∀ w ∈ u_ws RX11 TX11 34, w ∈ wsX11_isBare := fun _ h => List.mem_cons_of_mem _ (List.mem_append_right _ h)
  have l_fieldLink_13 := hts (Cond.fieldLink RX11 13 "HedgeGameModel" "onOf" "[I") (List.mem_of_getElem? (i := 2) rfl)
  have l_fieldLink_83 := hts (Cond.fieldLink RX11 83 "HedgeGameModel" "branches" "I") (List.mem_of_getElem? (i := 1) rfl)
  have t0 : ((0 : Int32)).toInt = 0 := rfl
  have t1 : ((1 : Int32)).toInt = 1 := rfl
  have s0 := i_s1 (x := p1) (by omega)
  refine lv_iconst (v := (1 : Int32)) hx hb dX11_isBare_0 (by decide) ?_
  refine lv_istore_n (lv' := [(3, .int (1 : Int32)), (0, .ref (a 0)), (1, .int p1), (2, .int p2)]) hx hb dX11_isBare_1 rfl hl (by decide) rfl (fun ls hl => ?_)
  refine lv_iload_n hx hb dX11_isBare_2 rfl (lv_at hl 2 rfl) ?_
  refine lv_iconst (v := (1 : Int32)) hx hb dX11_isBare_3 (by decide) ?_
  refine lv_iadd hx hb dX11_isBare_4 ?_
  refine lv_istore (lv' := [(4, .int (p1 + (1 : Int32))), (3, .int (1 : Int32)), (0, .ref (a 0)), (1, .int p1), (2, .int p2)]) hx hb dX11_isBare_5 hl (by decide) rfl (fun ls hl => ?_)
  have L7_1 : ∀ (n_7_1 : Nat) (x3_2 : Int32) (x4_3 : Int32), 0 ≤ (x4_3).toInt ∧ (x4_3).toInt ≤ 8 → 8 - (x4_3).toInt < (n_7_1 : Int) → (x3_2).toInt = 0 ∨ (x3_2).toInt = 1 → q = f_X11_isBare_L7 n_7_1 branches onOf p1 p2 x3_2 x4_3 → ∀ (H : Heap) (locs : List Loc) (ls : Array Slot), gX D Z s (wM a cA hedges branches stand turn cuts asks seen pageLength isWhole newBranches gameCuts isKept keptHedge keptStand keptTurn keptCuts keptSeen seedNow hsh kindOf onOf seenBranch seenBegins seenWins page winner lasting worthBy wonBy keptKind keptBranch keptBegins keptWins partsBy) H locs → lv_has ls 5 [(0, .ref (a 0)), (1, .int p1), (2, .int p2), (3, .int x3_2), (4, .int x4_3)] → W p l e rm_X11_isBare s m args below meth c H locs 0 0 Qz (F0 m 7 ls []) := by
    intro n_7_1
    induction n_7_1 with
    | zero =>
      intro x3_2 x4_3 ia ifu iz _ _ _ _ _ _
      exfalso; omega
    | succ n_7_1 ih_L7_1 =>
      intro x3_2 x4_3 ia ifu iz he H locs ls hX hl
      have he := he.trans f_X11_isBare_L7_s
      refine lv_iload hx hb dX11_isBare_7 (lv_at hl 4 rfl) ?_
      refine lv_aload_n hx hb dX11_isBare_9 rfl (lv_at hl 0 rfl) ?_
      refine va_get (D := D) (ci := 11) (v := .int branches) (C := RX11) (T := TX11) (N := 34) hx hb hts hi_X11 hown hS.1 hX.1 0 rfl rfl 1 (by decide) l_fieldLink_83 (fun _ h9 => h9) rfl dX11_isBare_10 ?_
      refine lv_icmp_ge (tgt := 52) hx hb dX11_isBare_13 (by decide) (fun c13 => ?_) (fun c13 => ?_)
      · have he := he.trans (if_pos c13)
        have d13 := i_le c13
        refine lv_iload_n hx hb dX11_isBare_52 rfl (lv_at hl 3 rfl) ?_
        subst he
        exact g_zret hx hb hr (z_nar01 (by assumption)) hlocks hX hq rfl dX11_isBare_53
      · have he := he.trans (if_neg c13)
        have d13 := i_nle c13
        refine lv_iload_n hx hb dX11_isBare_16 rfl (lv_at hl 3 rfl) ?_
        refine lv_if_eq (tgt := 44) hx hb dX11_isBare_17 (by decide) (fun c17 => ?_) (fun c17 => ?_)
        · have he := he.trans (if_pos c17)
          have d17 := i_eq c17
          refine lv_iconst (v := (0 : Int32)) hx hb dX11_isBare_44 (by decide) ?_
          refine lv_istore_n (lv' := [(3, .int (0 : Int32)), (0, .ref (a 0)), (1, .int p1), (2, .int p2), (4, .int x4_3)]) hx hb dX11_isBare_45 rfl hl (by decide) rfl (fun ls hl => ?_)
          refine lv_iinc (v := (x4_3 + (1 : Int32))) (lv' := [(4, .int (x4_3 + (1 : Int32))), (3, .int (0 : Int32)), (0, .ref (a 0)), (1, .int p1), (2, .int p2)]) hx hb dX11_isBare_46 hl (k := 4) rfl rfl (by decide) rfl (fun ls hl => ?_)
          have s46 := i_s1 (x := x4_3) (by omega)
          refine lv_goto (tgt := 7) hx hb dX11_isBare_49 (by decide) ?_
          exact ih_L7_1 (0 : Int32) (x4_3 + (1 : Int32)) (by omega) (by omega) (by omega) he _ _ _ hX (lv_sub hl [2, 3, 4, 1, 0] rfl)
        · have he := he.trans (if_neg c17)
          have d17 := i_ne c17
          refine lv_aload_n hx hb dX11_isBare_20 rfl (lv_at hl 0 rfl) ?_
          refine va_get (D := D) (ci := 11) (v := .ref (a 2)) (C := RX11) (T := TX11) (N := 34) hx hb hts hi_X11 hown hS.1 hX.1 0 rfl rfl 3 (by decide) l_fieldLink_13 (fun _ h9 => h9) rfl dX11_isBare_21 ?_
          refine lv_iload hx hb dX11_isBare_24 (lv_at hl 4 rfl) ?_
          refine va_iald hx hb hS.1 hX.1 2 1 rfl rfl (vp_in_iff.mpr (by omega)) dX11_isBare_26 ?_
          refine lv_iload_n hx hb dX11_isBare_27 rfl (lv_at hl 1 rfl) ?_
          refine lv_icmp_ne (tgt := 40) hx hb dX11_isBare_28 (by decide) (fun c28 => ?_) (fun c28 => ?_)
          · have he := he.trans (if_neg c28)
            have d28 := i_ne c28
            refine lv_iconst (v := (1 : Int32)) hx hb dX11_isBare_40 (by decide) ?_
            refine lv_goto (tgt := 45) hx hb dX11_isBare_41 (by decide) ?_
            refine lv_istore_n (lv' := [(3, .int (1 : Int32)), (0, .ref (a 0)), (1, .int p1), (2, .int p2), (4, .int x4_3)]) hx hb dX11_isBare_45 rfl hl (by decide) rfl (fun ls hl => ?_)
            refine lv_iinc (v := (x4_3 + (1 : Int32))) (lv' := [(4, .int (x4_3 + (1 : Int32))), (3, .int (1 : Int32)), (0, .ref (a 0)), (1, .int p1), (2, .int p2)]) hx hb dX11_isBare_46 hl (k := 4) rfl rfl (by decide) rfl (fun ls hl => ?_)
            have s46 := i_s1 (x := x4_3) (by omega)
            refine lv_goto (tgt := 7) hx hb dX11_isBare_49 (by decide) ?_
            exact ih_L7_1 (1 : Int32) (x4_3 + (1 : Int32)) (by omega) (by omega) (by omega) he _ _ _ hX (lv_sub hl [2, 3, 4, 1, 0] rfl)
          · have he := he.trans (if_pos c28)
            have d28 := i_eq c28
            refine lv_iload_n hx hb dX11_isBare_31 rfl (lv_at hl 2 rfl) ?_
            refine lv_iload hx hb dX11_isBare_32 (lv_at hl 4 rfl) ?_
            obtain ⟨r_4, e34⟩ : ∃ z, z = (f_X11_isIn p2 x4_3) := ⟨_, rfl⟩
            rw [← e34] at he
            refine g_Si (r := r_4) (As := [.int p2, .int x4_3]) (rest := []) ⟨hx, hb, hml, hown, hts⟩ hS hX (k_X11_isIn p2 x4_3 r_4 e34) (va_cwS 2 hts gX11_isBare_X11_isIn rfl rfl rfl (by decide +kernel) ⟨Nat.le_of_ble_eq_true rfl, Nat.le_of_ble_eq_true rfl⟩) rfl hl.1 rfl (Nat.le_of_ble_eq_true rfl) dX11_isBare_34 ⟨Nat.zero_le _, Nat.zero_le _⟩ (fun H locs hX => ?_)
            refine lv_if_ne (tgt := 44) hx hb dX11_isBare_37 (by decide) (fun c37 => ?_) (fun c37 => ?_)
            · have he := he.trans (if_neg c37)
              have d37 := i_ne c37
              refine lv_iconst (v := (0 : Int32)) hx hb dX11_isBare_44 (by decide) ?_
              refine lv_istore_n (lv' := [(3, .int (0 : Int32)), (0, .ref (a 0)), (1, .int p1), (2, .int p2), (4, .int x4_3)]) hx hb dX11_isBare_45 rfl hl (by decide) rfl (fun ls hl => ?_)
              refine lv_iinc (v := (x4_3 + (1 : Int32))) (lv' := [(4, .int (x4_3 + (1 : Int32))), (3, .int (0 : Int32)), (0, .ref (a 0)), (1, .int p1), (2, .int p2)]) hx hb dX11_isBare_46 hl (k := 4) rfl rfl (by decide) rfl (fun ls hl => ?_)
              have s46 := i_s1 (x := x4_3) (by omega)
              refine lv_goto (tgt := 7) hx hb dX11_isBare_49 (by decide) ?_
              exact ih_L7_1 (0 : Int32) (x4_3 + (1 : Int32)) (by omega) (by omega) (by omega) he _ _ _ hX (lv_sub hl [2, 3, 4, 1, 0] rfl)
            · have he := he.trans (if_pos c37)
              have d37 := i_eq c37
              refine lv_iconst (v := (1 : Int32)) hx hb dX11_isBare_40 (by decide) ?_
              refine lv_goto (tgt := 45) hx hb dX11_isBare_41 (by decide) ?_
              refine lv_istore_n (lv' := [(3, .int (1 : Int32)), (0, .ref (a 0)), (1, .int p1), (2, .int p2), (4, .int x4_3)]) hx hb dX11_isBare_45 rfl hl (by decide) rfl (fun ls hl => ?_)
              refine lv_iinc (v := (x4_3 + (1 : Int32))) (lv' := [(4, .int (x4_3 + (1 : Int32))), (3, .int (1 : Int32)), (0, .ref (a 0)), (1, .int p1), (2, .int p2)]) hx hb dX11_isBare_46 hl (k := 4) rfl rfl (by decide) rfl (fun ls hl => ?_)
              have s46 := i_s1 (x := x4_3) (by omega)
              refine lv_goto (tgt := 7) hx hb dX11_isBare_49 (by decide) ?_
              exact ih_L7_1 (1 : Int32) (x4_3 + (1 : Int32)) (by omega) (by omega) (by omega) he _ _ _ hX (lv_sub hl [2, 3, 4, 1, 0] rfl)
  exact L7_1 9 (1 : Int32) (p1 + (1 : Int32)) (by omega) (by omega) (by omega) he _ _ _ hX (lv_sub hl [2, 3, 4, 1, 0] rfl)
abbrev rm_X11_mayCut : Room := { frames := 2, cells := 0, slots := 0, locals := 45 }
set_option maxHeartbeats 4000000 in
set_option maxRecDepth 100000 in
theorem k_X11_mayCut {l : Launch} {D : va_G} {E : sE} {a : Nat → Nat} {cA : Nat → ClassId} {hedges : Int32} {branches : Int32} {stand : Int32} {turn : Int32} {cuts : Int32} {asks : Int32} {seen : Int32} {pageLength : Int32} {isWhole : Int32} {newBranches : Int32} {gameCuts : Int32} {isKept : Int32} {keptHedge : Int32} {keptStand : Int32} {keptTurn : Int32} {keptCuts : Int32} {keptSeen : Int32} {seedNow : Int64} {hsh : Int64} {kindOf : Nat → Int32} {onOf : Nat → Int32} {seenBranch : Nat → Int32} {seenBegins : Nat → Int32} {seenWins : Nat → Int32} {page : Nat → Int32} {winner : Nat → Int32} {lasting : Nat → Int32} {worthBy : Nat → Int32} {wonBy : Nat → Int32} {keptKind : Nat → Int32} {keptBranch : Nat → Int32} {keptBegins : Nat → Int32} {keptWins : Nat → Int32} {partsBy : Nat → Int64} (p1 : Int32) (p2 : Int32) (p3 : Int32) (hbr : 0 ≤ (branches).toInt ∧ (branches).toInt ≤ 8) (hbx : 0 ≤ (p2).toInt ∧ (p2).toInt < 8) : ∀ q : Int32, q = f_X11_mayCut branches kindOf onOf p1 p2 p3 → gMi l yX11_mayCut wsX11_mayCut rm_X11_mayCut D E (tM cA) [.ref (a 0), .int p1, .int p2, .int p3] (wM a cA hedges branches stand turn cuts asks seen pageLength isWhole newBranches gameCuts isKept keptHedge keptStand keptTurn keptCuts keptSeen seedNow hsh kindOf onOf seenBranch seenBegins seenWins page winner lasting worthBy wonBy keptKind keptBranch keptBegins keptWins partsBy) (wM a cA hedges branches stand turn cuts asks seen pageLength isWhole newBranches gameCuts isKept keptHedge keptStand keptTurn keptCuts keptSeen seedNow hsh kindOf onOf seenBranch seenBegins seenWins page winner lasting worthBy wonBy keptKind keptBranch keptBegins keptWins partsBy) q := by
  intro q he0
  refine gM_of (cc := cX11_mayCut) (maxL := 4) (ret := (some .boolean)) (Qf := gQi D (wM a cA hedges branches stand turn cuts asks seen pageLength isWhole newBranches gameCuts isKept keptHedge keptStand keptTurn keptCuts keptSeen seedNow hsh kindOf onOf seenBranch seenBegins seenWins page winner lasting worthBy wonBy keptKind keptBranch keptBegins keptWins partsBy) q) (by decide) rfl (Nat.le_of_ble_eq_true rfl) ?_
  intro p e s m args below meth c Z ls Qz hx hb hr hml hlocks hown hts hS hX hl hq
  have he := he0.trans f_X11_mayCut_s
  have hown : s.vm.findClass RX11 = some m.cls := hown
  have hl : lv_has ls 4 [(0, .ref (a 0)), (1, .int p1), (2, .int p2), (3, .int p3)] := hl
  have hi_X11 : ∀ w ∈ u_ws RX11 TX11 34, w ∈ wsX11_mayCut := fun _ h => List.mem_cons_of_mem _ (List.mem_append_right _ h)
  have l_fieldLink_7 := hts (Cond.fieldLink RX11 7 "HedgeGameModel" "kindOf" "[I") (List.mem_of_getElem? (i := 1) rfl)
  have t0 : ((0 : Int32)).toInt = 0 := rfl
  have t1 : ((1 : Int32)).toInt = 1 := rfl
  refine lv_iload_n hx hb dX11_mayCut_0 rfl (lv_at hl 3 rfl) ?_
  refine lv_iload_n hx hb dX11_mayCut_1 rfl (lv_at hl 2 rfl) ?_
  obtain ⟨r_1, e2⟩ : ∃ z, z = (f_X11_isIn p3 p2) := ⟨_, rfl⟩
  rw [← e2] at he
  refine g_Si (r := r_1) (As := [.int p3, .int p2]) (rest := []) ⟨hx, hb, hml, hown, hts⟩ hS hX (k_X11_isIn p3 p2 r_1 e2) (va_cwS 2 hts gX11_mayCut_X11_isIn rfl rfl rfl (by decide +kernel) ⟨Nat.le_of_ble_eq_true rfl, Nat.le_of_ble_eq_true rfl⟩) rfl hl.1 rfl (Nat.le_of_ble_eq_true rfl) dX11_mayCut_2 ⟨Nat.zero_le _, Nat.zero_le _⟩ (fun H locs hX => ?_)
  refine lv_if_ne (tgt := 10) hx hb dX11_mayCut_5 (by decide) (fun c5 => ?_) (fun c5 => ?_)
  · have he := he.trans (if_neg c5)
    have d5 := i_ne c5
    refine lv_aload_n hx hb dX11_mayCut_10 rfl (lv_at hl 0 rfl) ?_
    refine va_get (D := D) (ci := 11) (v := .ref (a 1)) (C := RX11) (T := TX11) (N := 34) hx hb hts hi_X11 hown hS.1 hX.1 0 rfl rfl 2 (by decide) l_fieldLink_7 (fun _ h9 => h9) rfl dX11_mayCut_11 ?_
    refine lv_iload_n hx hb dX11_mayCut_14 rfl (lv_at hl 2 rfl) ?_
    refine va_iald hx hb hS.1 hX.1 1 0 rfl rfl (vp_in_iff.mpr (by omega)) dX11_mayCut_15 ?_
    by_cases q16_0 : (kindOf (p2).toNatClampNeg) = (0 : Int32)
    · have he := he.trans (if_pos q16_0)
      refine lv_tableIn (tgt := 52) (off := 36) hx hb dX11_mayCut_16 (by rw [q16_0]; decide) (by rw [q16_0]; decide) (by rw [q16_0]; rfl) (by decide) ?_
      refine lv_iconst (v := (1 : Int32)) hx hb dX11_mayCut_52 (by decide) ?_
      subst he
      exact g_zret hx hb hr rfl hlocks hX hq rfl dX11_mayCut_53
    · have he := he.trans (if_neg q16_0)
      by_cases q16_1 : (kindOf (p2).toNatClampNeg) = (1 : Int32)
      · have he := he.trans (if_pos q16_1)
        refine lv_tableIn (tgt := 54) (off := 38) hx hb dX11_mayCut_16 (by rw [q16_1]; decide) (by rw [q16_1]; decide) (by rw [q16_1]; rfl) (by decide) ?_
        refine lv_iload_n hx hb dX11_mayCut_54 rfl (lv_at hl 1 rfl) ?_
        refine lv_if_ne (tgt := 62) hx hb dX11_mayCut_55 (by decide) (fun c55 => ?_) (fun c55 => ?_)
        · have he := he.trans (if_neg c55)
          have d55 := i_ne c55
          refine lv_iconst (v := (0 : Int32)) hx hb dX11_mayCut_62 (by decide) ?_
          subst he
          exact g_zret hx hb hr rfl hlocks hX hq rfl dX11_mayCut_63
        · have he := he.trans (if_pos c55)
          have d55 := i_eq c55
          refine lv_iconst (v := (1 : Int32)) hx hb dX11_mayCut_58 (by decide) ?_
          refine lv_goto (tgt := 63) hx hb dX11_mayCut_59 (by decide) ?_
          subst he
          exact g_zret hx hb hr rfl hlocks hX hq rfl dX11_mayCut_63
      · have he := he.trans (if_neg q16_1)
        by_cases q16_2 : (kindOf (p2).toNatClampNeg) = (2 : Int32)
        · have he := he.trans (if_pos q16_2)
          refine lv_tableIn (tgt := 64) (off := 48) hx hb dX11_mayCut_16 (by rw [q16_2]; decide) (by rw [q16_2]; decide) (by rw [q16_2]; rfl) (by decide) ?_
          refine lv_iload_n hx hb dX11_mayCut_64 rfl (lv_at hl 1 rfl) ?_
          refine lv_iconst (v := (1 : Int32)) hx hb dX11_mayCut_65 (by decide) ?_
          refine lv_icmp_ne (tgt := 73) hx hb dX11_mayCut_66 (by decide) (fun c66 => ?_) (fun c66 => ?_)
          · have he := he.trans (if_neg c66)
            have d66 := i_ne c66
            refine lv_iconst (v := (0 : Int32)) hx hb dX11_mayCut_73 (by decide) ?_
            subst he
            exact g_zret hx hb hr rfl hlocks hX hq rfl dX11_mayCut_74
          · have he := he.trans (if_pos c66)
            have d66 := i_eq c66
            refine lv_iconst (v := (1 : Int32)) hx hb dX11_mayCut_69 (by decide) ?_
            refine lv_goto (tgt := 74) hx hb dX11_mayCut_70 (by decide) ?_
            subst he
            exact g_zret hx hb hr rfl hlocks hX hq rfl dX11_mayCut_74
        · have he := he.trans (if_neg q16_2)
          by_cases q16_3 : (kindOf (p2).toNatClampNeg) = (3 : Int32)
          · have he := he.trans (if_pos q16_3)
            refine lv_tableIn (tgt := 94) (off := 78) hx hb dX11_mayCut_16 (by rw [q16_3]; decide) (by rw [q16_3]; decide) (by rw [q16_3]; rfl) (by decide) ?_
            refine lv_iconst (v := (0 : Int32)) hx hb dX11_mayCut_94 (by decide) ?_
            subst he
            exact g_zret hx hb hr rfl hlocks hX hq rfl dX11_mayCut_95
          · have he := he.trans (if_neg q16_3)
            by_cases q16_4 : (kindOf (p2).toNatClampNeg) = (4 : Int32)
            · have he := he.trans (if_pos q16_4)
              refine lv_tableIn (tgt := 75) (off := 59) hx hb dX11_mayCut_16 (by rw [q16_4]; decide) (by rw [q16_4]; decide) (by rw [q16_4]; rfl) (by decide) ?_
              refine lv_iload_n hx hb dX11_mayCut_75 rfl (lv_at hl 1 rfl) ?_
              refine lv_if_ne (tgt := 92) hx hb dX11_mayCut_76 (by decide) (fun c76 => ?_) (fun c76 => ?_)
              · have he := he.trans (if_neg c76)
                have d76 := i_ne c76
                refine lv_iconst (v := (0 : Int32)) hx hb dX11_mayCut_92 (by decide) ?_
                subst he
                exact g_zret hx hb hr rfl hlocks hX hq rfl dX11_mayCut_93
              · have he := he.trans (if_pos c76)
                have d76 := i_eq c76
                refine lv_aload_n hx hb dX11_mayCut_79 rfl (lv_at hl 0 rfl) ?_
                refine lv_iload_n hx hb dX11_mayCut_80 rfl (lv_at hl 2 rfl) ?_
                refine lv_iload_n hx hb dX11_mayCut_81 rfl (lv_at hl 3 rfl) ?_
                obtain ⟨r_2, e82⟩ : ∃ z, z = (f_X11_isBare branches onOf p2 p3) := ⟨_, rfl⟩
                rw [← e82] at he
                refine g_Vi (r := r_2) (As := [.int p2, .int p3]) (rest := []) (ci := 11) (q0 := 0) ⟨hx, hb, hml, hown, hts⟩ hS hX (k_X11_isBare p2 p3 (by omega) (by omega) r_2 e82) (cwV 2 hts gX11_mayCut_X11_isBare rfl rfl rfl (by decide +kernel) ⟨Nat.le_of_ble_eq_true rfl, Nat.le_of_ble_eq_true rfl⟩) rfl rfl rfl hl.1 rfl (Nat.le_of_ble_eq_true rfl) dX11_mayCut_82 ⟨Nat.zero_le _, Nat.zero_le _⟩ (fun H locs hX => ?_)
                refine lv_if_eq (tgt := 92) hx hb dX11_mayCut_85 (by decide) (fun c85 => ?_) (fun c85 => ?_)
                · have he := he.trans (if_pos c85)
                  have d85 := i_eq c85
                  refine lv_iconst (v := (0 : Int32)) hx hb dX11_mayCut_92 (by decide) ?_
                  subst he
                  exact g_zret hx hb hr rfl hlocks hX hq rfl dX11_mayCut_93
                · have he := he.trans (if_neg c85)
                  have d85 := i_ne c85
                  refine lv_iconst (v := (1 : Int32)) hx hb dX11_mayCut_88 (by decide) ?_
                  refine lv_goto (tgt := 93) hx hb dX11_mayCut_89 (by decide) ?_
                  subst he
                  exact g_zret hx hb hr rfl hlocks hX hq rfl dX11_mayCut_93
            · have he := he.trans (if_neg q16_4)
              have hne : (kindOf (p2).toNatClampNeg).toInt < 0 ∨ 4 < (kindOf (p2).toNatClampNeg).toInt := by
                have z0 := i_ne q16_0
                have y0 : ((0 : Int32)).toInt = 0 := rfl
                have z1 := i_ne q16_1
                have y1 : ((1 : Int32)).toInt = 1 := rfl
                have z2 := i_ne q16_2
                have y2 : ((2 : Int32)).toInt = 2 := rfl
                have z3 := i_ne q16_3
                have y3 : ((3 : Int32)).toInt = 3 := rfl
                have z4 := i_ne q16_4
                have y4 : ((4 : Int32)).toInt = 4 := rfl
                omega
              refine lv_tableOut (tgt := 94) hx hb dX11_mayCut_16 hne (by decide) ?_
              refine lv_iconst (v := (0 : Int32)) hx hb dX11_mayCut_94 (by decide) ?_
              subst he
              exact g_zret hx hb hr rfl hlocks hX hq rfl dX11_mayCut_95
  · have he := he.trans (if_pos c5)
    have d5 := i_eq c5
    refine lv_iconst (v := (0 : Int32)) hx hb dX11_mayCut_8 (by decide) ?_
    subst he
    exact g_zret hx hb hr rfl hlocks hX hq rfl dX11_mayCut_9
abbrev rm_X11_leaves : Room := { frames := 2, cells := 0, slots := 0, locals := 44 }
set_option maxHeartbeats 4000000 in
set_option maxRecDepth 100000 in
theorem k_X11_leaves {l : Launch} {D : va_G} {E : sE} {a : Nat → Nat} {cA : Nat → ClassId} {hedges : Int32} {branches : Int32} {stand : Int32} {turn : Int32} {cuts : Int32} {asks : Int32} {seen : Int32} {pageLength : Int32} {isWhole : Int32} {newBranches : Int32} {gameCuts : Int32} {isKept : Int32} {keptHedge : Int32} {keptStand : Int32} {keptTurn : Int32} {keptCuts : Int32} {keptSeen : Int32} {seedNow : Int64} {hsh : Int64} {kindOf : Nat → Int32} {onOf : Nat → Int32} {seenBranch : Nat → Int32} {seenBegins : Nat → Int32} {seenWins : Nat → Int32} {page : Nat → Int32} {winner : Nat → Int32} {lasting : Nat → Int32} {worthBy : Nat → Int32} {wonBy : Nat → Int32} {keptKind : Nat → Int32} {keptBranch : Nat → Int32} {keptBegins : Nat → Int32} {keptWins : Nat → Int32} {partsBy : Nat → Int64} (p1 : Int32) (p2 : Int32) (hbr : 0 ≤ (branches).toInt ∧ (branches).toInt ≤ 8) (hbx : 0 ≤ (p1).toInt ∧ (p1).toInt < 8) : ∀ q : Int32, q = f_X11_leaves branches onOf p1 p2 → gMi l yX11_leaves wsX11_leaves rm_X11_leaves D E (tM cA) [.ref (a 0), .int p1, .int p2] (wM a cA hedges branches stand turn cuts asks seen pageLength isWhole newBranches gameCuts isKept keptHedge keptStand keptTurn keptCuts keptSeen seedNow hsh kindOf onOf seenBranch seenBegins seenWins page winner lasting worthBy wonBy keptKind keptBranch keptBegins keptWins partsBy) (wM a cA hedges branches stand turn cuts asks seen pageLength isWhole newBranches gameCuts isKept keptHedge keptStand keptTurn keptCuts keptSeen seedNow hsh kindOf onOf seenBranch seenBegins seenWins page winner lasting worthBy wonBy keptKind keptBranch keptBegins keptWins partsBy) q := by
  intro q he0
  refine gM_of (cc := cX11_leaves) (maxL := 3) (ret := (some .int)) (Qf := gQi D (wM a cA hedges branches stand turn cuts asks seen pageLength isWhole newBranches gameCuts isKept keptHedge keptStand keptTurn keptCuts keptSeen seedNow hsh kindOf onOf seenBranch seenBegins seenWins page winner lasting worthBy wonBy keptKind keptBranch keptBegins keptWins partsBy) q) (by decide) rfl (Nat.le_of_ble_eq_true rfl) ?_
  intro p e s m args below meth c Z ls Qz hx hb hr hml hlocks hown hts hS hX hl hq
  have he := he0.trans f_X11_leaves_s
  have hown : s.vm.findClass RX11 = some m.cls := hown
  have hl : lv_has ls 3 [(0, .ref (a 0)), (1, .int p1), (2, .int p2)] := hl
  have tm1 : ((-1 : Int32)).toInt = -1 := rfl
  have t0 : ((0 : Int32)).toInt = 0 := rfl
  have t1 : ((1 : Int32)).toInt = 1 := rfl
  refine lv_iload_n hx hb dX11_leaves_0 rfl (lv_at hl 2 rfl) ?_
  refine lv_aload_n hx hb dX11_leaves_1 rfl (lv_at hl 0 rfl) ?_
  refine lv_iload_n hx hb dX11_leaves_2 rfl (lv_at hl 1 rfl) ?_
  obtain ⟨r_1, e3⟩ : ∃ z, z = (f_X11_above branches onOf p1) := ⟨_, rfl⟩
  rw [← e3] at he
  refine g_Vi (r := r_1) (As := [.int p1]) (rest := [.int p2]) (ci := 11) (q0 := 0) ⟨hx, hb, hml, hown, hts⟩ hS hX (k_X11_above p1 (by omega) (by omega) r_1 e3) (cwV 1 hts gX11_leaves_X11_above rfl rfl rfl (by decide +kernel) ⟨Nat.le_of_ble_eq_true rfl, Nat.le_of_ble_eq_true rfl⟩) rfl rfl rfl hl.1 rfl (Nat.le_of_ble_eq_true rfl) dX11_leaves_3 ⟨Nat.zero_le _, Nat.zero_le _⟩ (fun H locs hX => ?_)
  refine lv_iconst (v := (1 : Int32)) hx hb dX11_leaves_6 (by decide) ?_
  refine lv_iload_n hx hb dX11_leaves_7 rfl (lv_at hl 1 rfl) ?_
  refine lv_ishl hx hb dX11_leaves_8 ?_
  refine lv_ior hx hb dX11_leaves_9 ?_
  refine lv_iconst (v := (-1 : Int32)) hx hb dX11_leaves_10 (by decide) ?_
  refine lv_ixor hx hb dX11_leaves_11 ?_
  refine lv_iand hx hb dX11_leaves_12 ?_
  subst he
  exact g_iret hx hb hr hlocks hX hq rfl dX11_leaves_13
abbrev rm_X11_mayCuts : Room := { frames := 3, cells := 0, slots := 0, locals := 68 }
set_option maxHeartbeats 4000000 in
set_option maxRecDepth 100000 in
theorem k_X11_mayCuts {l : Launch} {D : va_G} {E : sE} {a : Nat → Nat} {cA : Nat → ClassId} {hedges : Int32} {branches : Int32} {stand : Int32} {turn : Int32} {cuts : Int32} {asks : Int32} {seen : Int32} {pageLength : Int32} {isWhole : Int32} {newBranches : Int32} {gameCuts : Int32} {isKept : Int32} {keptHedge : Int32} {keptStand : Int32} {keptTurn : Int32} {keptCuts : Int32} {keptSeen : Int32} {seedNow : Int64} {hsh : Int64} {kindOf : Nat → Int32} {onOf : Nat → Int32} {seenBranch : Nat → Int32} {seenBegins : Nat → Int32} {seenWins : Nat → Int32} {page : Nat → Int32} {winner : Nat → Int32} {lasting : Nat → Int32} {worthBy : Nat → Int32} {wonBy : Nat → Int32} {keptKind : Nat → Int32} {keptBranch : Nat → Int32} {keptBegins : Nat → Int32} {keptWins : Nat → Int32} {partsBy : Nat → Int64} (p1 : Int32) (p2 : Int32) (hbr : 0 ≤ (branches).toInt ∧ (branches).toInt ≤ 8) : ∀ q : Int32, q = f_X11_mayCuts branches kindOf onOf p1 p2 → gMi l yX11_mayCuts wsX11_mayCuts rm_X11_mayCuts D E (tM cA) [.ref (a 0), .int p1, .int p2] (wM a cA hedges branches stand turn cuts asks seen pageLength isWhole newBranches gameCuts isKept keptHedge keptStand keptTurn keptCuts keptSeen seedNow hsh kindOf onOf seenBranch seenBegins seenWins page winner lasting worthBy wonBy keptKind keptBranch keptBegins keptWins partsBy) (wM a cA hedges branches stand turn cuts asks seen pageLength isWhole newBranches gameCuts isKept keptHedge keptStand keptTurn keptCuts keptSeen seedNow hsh kindOf onOf seenBranch seenBegins seenWins page winner lasting worthBy wonBy keptKind keptBranch keptBegins keptWins partsBy) q := by
  intro q he0
  refine gM_of (cc := cX11_mayCuts) (maxL := 5) (ret := (some .int)) (Qf := gQi D (wM a cA hedges branches stand turn cuts asks seen pageLength isWhole newBranches gameCuts isKept keptHedge keptStand keptTurn keptCuts keptSeen seedNow hsh kindOf onOf seenBranch seenBegins seenWins page winner lasting worthBy wonBy keptKind keptBranch keptBegins keptWins partsBy) q) (by decide) rfl (Nat.le_of_ble_eq_true rfl) ?_
  intro p e s m args below meth c Z ls Qz hx hb hr hml hlocks hown hts hS hX hl hq
  have he := he0.trans f_X11_mayCuts_s
  have hown : s.vm.findClass RX11 = some m.cls := hown
  have hl : lv_has ls 5 [(0, .ref (a 0)), (1, .int p1), (2, .int p2)] := hl
  have hi_X11 : ∀ w ∈ u_ws RX11 TX11 34, w ∈ wsX11_mayCuts := fun _ h => List.mem_cons_of_mem _ (List.mem_append_right _ h)
  have l_fieldLink_83 := hts (Cond.fieldLink RX11 83 "HedgeGameModel" "branches" "I") (List.mem_of_getElem? (i := 1) rfl)
  have t0 : ((0 : Int32)).toInt = 0 := rfl
  have t1 : ((1 : Int32)).toInt = 1 := rfl
  refine lv_iconst (v := (0 : Int32)) hx hb dX11_mayCuts_0 (by decide) ?_
  refine lv_istore_n (lv' := [(3, .int (0 : Int32)), (0, .ref (a 0)), (1, .int p1), (2, .int p2)]) hx hb dX11_mayCuts_1 rfl hl (by decide) rfl (fun ls hl => ?_)
  refine lv_iconst (v := (0 : Int32)) hx hb dX11_mayCuts_2 (by decide) ?_
  refine lv_istore (lv' := [(4, .int (0 : Int32)), (3, .int (0 : Int32)), (0, .ref (a 0)), (1, .int p1), (2, .int p2)]) hx hb dX11_mayCuts_3 hl (by decide) rfl (fun ls hl => ?_)
  have L5_1 : ∀ (n_5_1 : Nat) (x3_2 : Int32) (x4_3 : Int32), 0 ≤ (x4_3).toInt ∧ (x4_3).toInt ≤ 8 → 8 - (x4_3).toInt < (n_5_1 : Int) → q = f_X11_mayCuts_L5 n_5_1 branches kindOf onOf p1 p2 x3_2 x4_3 → ∀ (H : Heap) (locs : List Loc) (ls : Array Slot), gX D Z s (wM a cA hedges branches stand turn cuts asks seen pageLength isWhole newBranches gameCuts isKept keptHedge keptStand keptTurn keptCuts keptSeen seedNow hsh kindOf onOf seenBranch seenBegins seenWins page winner lasting worthBy wonBy keptKind keptBranch keptBegins keptWins partsBy) H locs → lv_has ls 5 [(0, .ref (a 0)), (1, .int p1), (2, .int p2), (3, .int x3_2), (4, .int x4_3)] → W p l e rm_X11_mayCuts s m args below meth c H locs 0 0 Qz (F0 m 5 ls []) := by
    intro n_5_1
    induction n_5_1 with
    | zero =>
      intro x3_2 x4_3 ia ifu _ _ _ _ _ _
      exfalso; omega
    | succ n_5_1 ih_L5_1 =>
      intro x3_2 x4_3 ia ifu he H locs ls hX hl
      have he := he.trans f_X11_mayCuts_L5_s
      refine lv_iload hx hb dX11_mayCuts_5 (lv_at hl 4 rfl) ?_
      refine lv_aload_n hx hb dX11_mayCuts_7 rfl (lv_at hl 0 rfl) ?_
      refine va_get (D := D) (ci := 11) (v := .int branches) (C := RX11) (T := TX11) (N := 34) hx hb hts hi_X11 hown hS.1 hX.1 0 rfl rfl 1 (by decide) l_fieldLink_83 (fun _ h9 => h9) rfl dX11_mayCuts_8 ?_
      refine lv_icmp_ge (tgt := 42) hx hb dX11_mayCuts_11 (by decide) (fun c11 => ?_) (fun c11 => ?_)
      · have he := he.trans (if_pos c11)
        have d11 := i_le c11
        refine lv_iload_n hx hb dX11_mayCuts_42 rfl (lv_at hl 3 rfl) ?_
        subst he
        exact g_iret hx hb hr hlocks hX hq rfl dX11_mayCuts_43
      · have he := he.trans (if_neg c11)
        have d11 := i_nle c11
        refine lv_iload_n hx hb dX11_mayCuts_14 rfl (lv_at hl 3 rfl) ?_
        refine lv_aload_n hx hb dX11_mayCuts_15 rfl (lv_at hl 0 rfl) ?_
        refine lv_iload_n hx hb dX11_mayCuts_16 rfl (lv_at hl 1 rfl) ?_
        refine lv_iload hx hb dX11_mayCuts_17 (lv_at hl 4 rfl) ?_
        refine lv_iload_n hx hb dX11_mayCuts_19 rfl (lv_at hl 2 rfl) ?_
        obtain ⟨r_4, e20⟩ : ∃ z, z = (f_X11_mayCut branches kindOf onOf p1 x4_3 p2) := ⟨_, rfl⟩
        rw [← e20] at he
        refine g_Vi (r := r_4) (As := [.int p1, .int x4_3, .int p2]) (rest := [.int x3_2]) (ci := 11) (q0 := 0) ⟨hx, hb, hml, hown, hts⟩ hS hX (k_X11_mayCut p1 x4_3 p2 (by omega) (by omega) r_4 e20) (cwV 3 hts gX11_mayCuts_X11_mayCut rfl rfl rfl (by decide +kernel) ⟨Nat.le_of_ble_eq_true rfl, Nat.le_of_ble_eq_true rfl⟩) rfl rfl rfl hl.1 rfl (Nat.le_of_ble_eq_true rfl) dX11_mayCuts_20 ⟨Nat.zero_le _, Nat.zero_le _⟩ (fun H locs hX => ?_)
        refine lv_if_eq (tgt := 33) hx hb dX11_mayCuts_23 (by decide) (fun c23 => ?_) (fun c23 => ?_)
        · have he := he.trans (if_pos c23)
          have d23 := i_eq c23
          refine lv_iconst (v := (0 : Int32)) hx hb dX11_mayCuts_33 (by decide) ?_
          refine lv_ior hx hb dX11_mayCuts_34 ?_
          refine lv_istore_n (lv' := [(3, .int (x3_2 ||| (0 : Int32))), (0, .ref (a 0)), (1, .int p1), (2, .int p2), (4, .int x4_3)]) hx hb dX11_mayCuts_35 rfl hl (by decide) rfl (fun ls hl => ?_)
          refine lv_iinc (v := (x4_3 + (1 : Int32))) (lv' := [(4, .int (x4_3 + (1 : Int32))), (3, .int (x3_2 ||| (0 : Int32))), (0, .ref (a 0)), (1, .int p1), (2, .int p2)]) hx hb dX11_mayCuts_36 hl (k := 4) rfl rfl (by decide) rfl (fun ls hl => ?_)
          have s36 := i_s1 (x := x4_3) (by omega)
          refine lv_goto (tgt := 5) hx hb dX11_mayCuts_39 (by decide) ?_
          exact ih_L5_1 (x3_2 ||| (0 : Int32)) (x4_3 + (1 : Int32)) (by omega) (by omega) he _ _ _ hX (lv_sub hl [2, 3, 4, 1, 0] rfl)
        · have he := he.trans (if_neg c23)
          have d23 := i_ne c23
          refine lv_iconst (v := (1 : Int32)) hx hb dX11_mayCuts_26 (by decide) ?_
          refine lv_iload hx hb dX11_mayCuts_27 (lv_at hl 4 rfl) ?_
          refine lv_ishl hx hb dX11_mayCuts_29 ?_
          refine lv_goto (tgt := 34) hx hb dX11_mayCuts_30 (by decide) ?_
          refine lv_ior hx hb dX11_mayCuts_34 ?_
          refine lv_istore_n (lv' := [(3, .int (x3_2 ||| ((1 : Int32) <<< (x4_3 &&& 31)))), (0, .ref (a 0)), (1, .int p1), (2, .int p2), (4, .int x4_3)]) hx hb dX11_mayCuts_35 rfl hl (by decide) rfl (fun ls hl => ?_)
          refine lv_iinc (v := (x4_3 + (1 : Int32))) (lv' := [(4, .int (x4_3 + (1 : Int32))), (3, .int (x3_2 ||| ((1 : Int32) <<< (x4_3 &&& 31)))), (0, .ref (a 0)), (1, .int p1), (2, .int p2)]) hx hb dX11_mayCuts_36 hl (k := 4) rfl rfl (by decide) rfl (fun ls hl => ?_)
          have s36 := i_s1 (x := x4_3) (by omega)
          refine lv_goto (tgt := 5) hx hb dX11_mayCuts_39 (by decide) ?_
          exact ih_L5_1 (x3_2 ||| ((1 : Int32) <<< (x4_3 &&& 31))) (x4_3 + (1 : Int32)) (by omega) (by omega) he _ _ _ hX (lv_sub hl [2, 3, 4, 1, 0] rfl)
  exact L5_1 9 (0 : Int32) (0 : Int32) (by omega) (by omega) he _ _ _ hX (lv_sub hl [2, 3, 4, 1, 0] rfl)
abbrev rm_X11_winnerFrom : Room := { frames := 3, cells := 0, slots := 0, locals := 68 }
set_option maxHeartbeats 4000000 in
set_option maxRecDepth 100000 in
theorem k_X11_winnerFrom {l : Launch} {D : va_G} {E : sE} {a : Nat → Nat} {cA : Nat → ClassId} {hedges : Int32} {branches : Int32} {stand : Int32} {turn : Int32} {cuts : Int32} {asks : Int32} {seen : Int32} {pageLength : Int32} {isWhole : Int32} {newBranches : Int32} {gameCuts : Int32} {isKept : Int32} {keptHedge : Int32} {keptStand : Int32} {keptTurn : Int32} {keptCuts : Int32} {keptSeen : Int32} {seedNow : Int64} {hsh : Int64} {kindOf : Nat → Int32} {onOf : Nat → Int32} {seenBranch : Nat → Int32} {seenBegins : Nat → Int32} {seenWins : Nat → Int32} {page : Nat → Int32} {winner : Nat → Int32} {lasting : Nat → Int32} {worthBy : Nat → Int32} {wonBy : Nat → Int32} {keptKind : Nat → Int32} {keptBranch : Nat → Int32} {keptBegins : Nat → Int32} {keptWins : Nat → Int32} {partsBy : Nat → Int64} (p1 : Int32) (p2 : Int32) (hbr : 0 ≤ (branches).toInt ∧ (branches).toInt ≤ 8) (hsx : 0 ≤ (p1).toInt ∧ (p1).toInt < 256) (hwx : 0 ≤ (p2).toInt ∧ (p2).toInt ≤ 1) : ∀ q : Int32, q = f_X11_winnerFrom branches kindOf onOf winner p1 p2 → gMi l yX11_winnerFrom wsX11_winnerFrom rm_X11_winnerFrom D E (tM cA) [.ref (a 0), .int p1, .int p2] (wM a cA hedges branches stand turn cuts asks seen pageLength isWhole newBranches gameCuts isKept keptHedge keptStand keptTurn keptCuts keptSeen seedNow hsh kindOf onOf seenBranch seenBegins seenWins page winner lasting worthBy wonBy keptKind keptBranch keptBegins keptWins partsBy) (wM a cA hedges branches stand turn cuts asks seen pageLength isWhole newBranches gameCuts isKept keptHedge keptStand keptTurn keptCuts keptSeen seedNow hsh kindOf onOf seenBranch seenBegins seenWins page winner lasting worthBy wonBy keptKind keptBranch keptBegins keptWins partsBy) q := by
  intro q he0
  refine gM_of (cc := cX11_winnerFrom) (maxL := 4) (ret := (some .int)) (Qf := gQi D (wM a cA hedges branches stand turn cuts asks seen pageLength isWhole newBranches gameCuts isKept keptHedge keptStand keptTurn keptCuts keptSeen seedNow hsh kindOf onOf seenBranch seenBegins seenWins page winner lasting worthBy wonBy keptKind keptBranch keptBegins keptWins partsBy) q) (by decide) rfl (Nat.le_of_ble_eq_true rfl) ?_
  intro p e s m args below meth c Z ls Qz hx hb hr hml hlocks hown hts hS hX hl hq
  have he := he0.trans f_X11_winnerFrom_s
  have hown : s.vm.findClass RX11 = some m.cls := hown
  have hl : lv_has ls 4 [(0, .ref (a 0)), (1, .int p1), (2, .int p2)] := hl
  have hi_X11 : ∀ w ∈ u_ws RX11 TX11 34, w ∈ wsX11_winnerFrom := fun _ h => List.mem_cons_of_mem _ (List.mem_append_right _ h)
  have l_fieldLink_29 := hts (Cond.fieldLink RX11 29 "HedgeGameModel" "winner" "[I") (List.mem_of_getElem? (i := 2) rfl)
  have l_fieldLink_83 := hts (Cond.fieldLink RX11 83 "HedgeGameModel" "branches" "I") (List.mem_of_getElem? (i := 1) rfl)
  have t0 : ((0 : Int32)).toInt = 0 := rfl
  have t1 : ((1 : Int32)).toInt = 1 := rfl
  have t2 : ((2 : Int32)).toInt = 2 := rfl
  refine lv_iconst (v := (0 : Int32)) hx hb dX11_winnerFrom_0 (by decide) ?_
  refine lv_istore_n (lv' := [(3, .int (0 : Int32)), (0, .ref (a 0)), (1, .int p1), (2, .int p2)]) hx hb dX11_winnerFrom_1 rfl hl (by decide) rfl (fun ls hl => ?_)
  have L2_1 : ∀ (n_2_1 : Nat) (x3_2 : Int32), 0 ≤ (x3_2).toInt ∧ (x3_2).toInt ≤ 8 → 8 - (x3_2).toInt < (n_2_1 : Int) → q = f_X11_winnerFrom_L2 n_2_1 branches kindOf onOf winner p1 p2 x3_2 → ∀ (H : Heap) (locs : List Loc) (ls : Array Slot), gX D Z s (wM a cA hedges branches stand turn cuts asks seen pageLength isWhole newBranches gameCuts isKept keptHedge keptStand keptTurn keptCuts keptSeen seedNow hsh kindOf onOf seenBranch seenBegins seenWins page winner lasting worthBy wonBy keptKind keptBranch keptBegins keptWins partsBy) H locs → lv_has ls 4 [(0, .ref (a 0)), (1, .int p1), (2, .int p2), (3, .int x3_2)] → W p l e rm_X11_winnerFrom s m args below meth c H locs 0 0 Qz (F0 m 2 ls []) := by
    intro n_2_1
    induction n_2_1 with
    | zero =>
      intro x3_2 ia ifu _ _ _ _ _ _
      exfalso; omega
    | succ n_2_1 ih_L2_1 =>
      intro x3_2 ia ifu he H locs ls hX hl
      have he := he.trans f_X11_winnerFrom_L2_s
      refine lv_iload_n hx hb dX11_winnerFrom_2 rfl (lv_at hl 3 rfl) ?_
      refine lv_aload_n hx hb dX11_winnerFrom_3 rfl (lv_at hl 0 rfl) ?_
      refine va_get (D := D) (ci := 11) (v := .int branches) (C := RX11) (T := TX11) (N := 34) hx hb hts hi_X11 hown hS.1 hX.1 0 rfl rfl 1 (by decide) l_fieldLink_83 (fun _ h9 => h9) rfl dX11_winnerFrom_4 ?_
      refine lv_icmp_ge (tgt := 49) hx hb dX11_winnerFrom_7 (by decide) (fun c7 => ?_) (fun c7 => ?_)
      · have he := he.trans (if_pos c7)
        have d7 := i_le c7
        refine lv_iconst (v := (1 : Int32)) hx hb dX11_winnerFrom_49 (by decide) ?_
        refine lv_iload_n hx hb dX11_winnerFrom_50 rfl (lv_at hl 2 rfl) ?_
        refine lv_isub hx hb dX11_winnerFrom_51 ?_
        subst he
        exact g_iret hx hb hr hlocks hX hq rfl dX11_winnerFrom_52
      · have he := he.trans (if_neg c7)
        have d7 := i_nle c7
        refine lv_aload_n hx hb dX11_winnerFrom_10 rfl (lv_at hl 0 rfl) ?_
        refine lv_iload_n hx hb dX11_winnerFrom_11 rfl (lv_at hl 2 rfl) ?_
        refine lv_iload_n hx hb dX11_winnerFrom_12 rfl (lv_at hl 3 rfl) ?_
        refine lv_iload_n hx hb dX11_winnerFrom_13 rfl (lv_at hl 1 rfl) ?_
        obtain ⟨r_3, e14⟩ : ∃ z, z = (f_X11_mayCut branches kindOf onOf p2 x3_2 p1) := ⟨_, rfl⟩
        rw [← e14] at he
        refine g_Vi (r := r_3) (As := [.int p2, .int x3_2, .int p1]) (rest := []) (ci := 11) (q0 := 0) ⟨hx, hb, hml, hown, hts⟩ hS hX (k_X11_mayCut p2 x3_2 p1 (by omega) (by omega) r_3 e14) (cwV 3 hts gX11_winnerFrom_X11_mayCut rfl rfl rfl (by decide +kernel) ⟨Nat.le_of_ble_eq_true rfl, Nat.le_of_ble_eq_true rfl⟩) rfl rfl rfl hl.1 rfl (Nat.le_of_ble_eq_true rfl) dX11_winnerFrom_14 ⟨Nat.zero_le _, Nat.zero_le _⟩ (fun H locs hX => ?_)
        refine lv_if_eq (tgt := 43) hx hb dX11_winnerFrom_17 (by decide) (fun c17 => ?_) (fun c17 => ?_)
        · have he := he.trans (if_pos c17)
          have d17 := i_eq c17
          refine lv_iinc (v := (x3_2 + (1 : Int32))) (lv' := [(3, .int (x3_2 + (1 : Int32))), (0, .ref (a 0)), (1, .int p1), (2, .int p2)]) hx hb dX11_winnerFrom_43 hl (k := 3) rfl rfl (by decide) rfl (fun ls hl => ?_)
          have s43 := i_s1 (x := x3_2) (by omega)
          refine lv_goto (tgt := 2) hx hb dX11_winnerFrom_46 (by decide) ?_
          exact ih_L2_1 (x3_2 + (1 : Int32)) (by omega) (by omega) he _ _ _ hX (lv_sub hl [1, 2, 3, 0] rfl)
        · have he := he.trans (if_neg c17)
          have d17 := i_ne c17
          refine lv_aload_n hx hb dX11_winnerFrom_20 rfl (lv_at hl 0 rfl) ?_
          refine va_get (D := D) (ci := 11) (v := .ref (a 7)) (C := RX11) (T := TX11) (N := 34) hx hb hts hi_X11 hown hS.1 hX.1 0 rfl rfl 16 (by decide) l_fieldLink_29 (fun _ h9 => h9) rfl dX11_winnerFrom_21 ?_
          refine lv_iconst (v := (2 : Int32)) hx hb dX11_winnerFrom_24 (by decide) ?_
          refine lv_aload_n hx hb dX11_winnerFrom_25 rfl (lv_at hl 0 rfl) ?_
          refine lv_iload_n hx hb dX11_winnerFrom_26 rfl (lv_at hl 3 rfl) ?_
          refine lv_iload_n hx hb dX11_winnerFrom_27 rfl (lv_at hl 1 rfl) ?_
          obtain ⟨r_4, e28⟩ : ∃ z, z = (f_X11_leaves branches onOf x3_2 p1) := ⟨_, rfl⟩
          rw [← e28] at he
          refine g_Vi (r := r_4) (As := [.int x3_2, .int p1]) (rest := [.int (2 : Int32), .ref (a 7)]) (ci := 11) (q0 := 0) ⟨hx, hb, hml, hown, hts⟩ hS hX (k_X11_leaves x3_2 p1 (by omega) (by omega) r_4 e28) (cwV 2 hts gX11_winnerFrom_X11_leaves rfl rfl rfl (by decide +kernel) ⟨Nat.le_of_ble_eq_true rfl, Nat.le_of_ble_eq_true rfl⟩) rfl rfl rfl hl.1 rfl (Nat.le_of_ble_eq_true rfl) dX11_winnerFrom_28 ⟨Nat.zero_le _, Nat.zero_le _⟩ (fun H locs hX => ?_)
          have k28_0 : 0 ≤ (p1).toInt → (0 ≤ (r_4).toInt ∧ (r_4).toInt ≤ (p1).toInt) := by rw [e28]; exact r_leaves
          refine lv_imul hx hb dX11_winnerFrom_31 ?_
          refine lv_iconst (v := (1 : Int32)) hx hb dX11_winnerFrom_32 (by decide) ?_
          refine lv_iadd hx hb dX11_winnerFrom_33 ?_
          refine lv_iload_n hx hb dX11_winnerFrom_34 rfl (lv_at hl 2 rfl) ?_
          refine lv_isub hx hb dX11_winnerFrom_35 ?_
          refine va_iald hx hb hS.1 hX.1 7 6 rfl rfl (o_2s1w (by omega) (by omega)) dX11_winnerFrom_36 ?_
          refine lv_iload_n hx hb dX11_winnerFrom_37 rfl (lv_at hl 2 rfl) ?_
          refine lv_icmp_ne (tgt := 43) hx hb dX11_winnerFrom_38 (by decide) (fun c38 => ?_) (fun c38 => ?_)
          · have he := he.trans (if_neg c38)
            have d38 := i_ne c38
            refine lv_iinc (v := (x3_2 + (1 : Int32))) (lv' := [(3, .int (x3_2 + (1 : Int32))), (0, .ref (a 0)), (1, .int p1), (2, .int p2)]) hx hb dX11_winnerFrom_43 hl (k := 3) rfl rfl (by decide) rfl (fun ls hl => ?_)
            have s43 := i_s1 (x := x3_2) (by omega)
            refine lv_goto (tgt := 2) hx hb dX11_winnerFrom_46 (by decide) ?_
            exact ih_L2_1 (x3_2 + (1 : Int32)) (by omega) (by omega) he _ _ _ hX (lv_sub hl [1, 2, 3, 0] rfl)
          · have he := he.trans (if_pos c38)
            have d38 := i_eq c38
            refine lv_iload_n hx hb dX11_winnerFrom_41 rfl (lv_at hl 2 rfl) ?_
            subst he
            exact g_iret hx hb hr hlocks hX hq rfl dX11_winnerFrom_42
  exact L2_1 9 (0 : Int32) (by omega) (by omega) he _ _ _ hX (lv_sub hl [1, 2, 3, 0] rfl)
abbrev rm_X11_layWinners : Room := { frames := 4, cells := 0, slots := 0, locals := 91 }
set_option maxHeartbeats 4000000 in
set_option maxRecDepth 100000 in
theorem k_X11_layWinners {l : Launch} {D : va_G} {E : sE} {a : Nat → Nat} {cA : Nat → ClassId} {hedges : Int32} {branches : Int32} {stand : Int32} {turn : Int32} {cuts : Int32} {asks : Int32} {seen : Int32} {pageLength : Int32} {isWhole : Int32} {newBranches : Int32} {gameCuts : Int32} {isKept : Int32} {keptHedge : Int32} {keptStand : Int32} {keptTurn : Int32} {keptCuts : Int32} {keptSeen : Int32} {seedNow : Int64} {hsh : Int64} {kindOf : Nat → Int32} {onOf : Nat → Int32} {seenBranch : Nat → Int32} {seenBegins : Nat → Int32} {seenWins : Nat → Int32} {page : Nat → Int32} {winner : Nat → Int32} {lasting : Nat → Int32} {worthBy : Nat → Int32} {wonBy : Nat → Int32} {keptKind : Nat → Int32} {keptBranch : Nat → Int32} {keptBegins : Nat → Int32} {keptWins : Nat → Int32} {partsBy : Nat → Int64}  (hbr : 0 ≤ (branches).toInt ∧ (branches).toInt ≤ 8) (hst : 0 ≤ (stand).toInt ∧ (stand).toInt < 256) : ∀ q : (Nat → Int32), q = f_X11_layWinners branches stand kindOf onOf winner → gMv l yX11_layWinners wsX11_layWinners rm_X11_layWinners D E (tM cA) [.ref (a 0)] (wM a cA hedges branches stand turn cuts asks seen pageLength isWhole newBranches gameCuts isKept keptHedge keptStand keptTurn keptCuts keptSeen seedNow hsh kindOf onOf seenBranch seenBegins seenWins page winner lasting worthBy wonBy keptKind keptBranch keptBegins keptWins partsBy) (wM a cA hedges branches stand turn cuts asks seen pageLength isWhole newBranches gameCuts isKept keptHedge keptStand keptTurn keptCuts keptSeen seedNow hsh kindOf onOf seenBranch seenBegins seenWins page q lasting worthBy wonBy keptKind keptBranch keptBegins keptWins partsBy) := by
  intro q he0
  refine gM_of (cc := cX11_layWinners) (maxL := 2) (ret := none) (Qf := gQv D (wM a cA hedges branches stand turn cuts asks seen pageLength isWhole newBranches gameCuts isKept keptHedge keptStand keptTurn keptCuts keptSeen seedNow hsh kindOf onOf seenBranch seenBegins seenWins page q lasting worthBy wonBy keptKind keptBranch keptBegins keptWins partsBy)) (by decide) rfl (Nat.le_of_ble_eq_true rfl) ?_
  intro p e s m args below meth c Z ls Qz hx hb hr hml hlocks hown hts hS hX hl hq
  have he := he0.trans f_X11_layWinners_s
  have hown : s.vm.findClass RX11 = some m.cls := hown
  have hl : lv_has ls 2 [(0, .ref (a 0))] := hl
  have hi_X11 : ∀ w ∈ u_ws RX11 TX11 34, w ∈ wsX11_layWinners := fun _ h => List.mem_cons_of_mem _ (List.mem_append_right _ h)
  have l_fieldLink_29 := hts (Cond.fieldLink RX11 29 "HedgeGameModel" "winner" "[I") (List.mem_of_getElem? (i := 2) rfl)
  have l_fieldLink_86 := hts (Cond.fieldLink RX11 86 "HedgeGameModel" "stand" "I") (List.mem_of_getElem? (i := 1) rfl)
  have tm1 : ((-1 : Int32)).toInt = -1 := rfl
  have t0 : ((0 : Int32)).toInt = 0 := rfl
  have t1 : ((1 : Int32)).toInt = 1 := rfl
  have t2 : ((2 : Int32)).toInt = 2 := rfl
  refine lv_iconst (v := (0 : Int32)) hx hb dX11_layWinners_0 (by decide) ?_
  refine lv_istore_n (lv' := [(1, .int (0 : Int32)), (0, .ref (a 0))]) hx hb dX11_layWinners_1 rfl hl (by decide) rfl (fun ls hl => ?_)
  have L2_1 : ∀ (n_2_1 : Nat) (winner_2 : Nat → Int32) (x1_3 : Int32), 0 ≤ (x1_3).toInt ∧ (x1_3).toInt ≤ 256 → 256 - (x1_3).toInt < (n_2_1 : Int) → q = f_X11_layWinners_L2 n_2_1 branches stand kindOf onOf winner_2 x1_3 → ∀ (H : Heap) (locs : List Loc) (ls : Array Slot), gX D Z s (wM a cA hedges branches stand turn cuts asks seen pageLength isWhole newBranches gameCuts isKept keptHedge keptStand keptTurn keptCuts keptSeen seedNow hsh kindOf onOf seenBranch seenBegins seenWins page winner_2 lasting worthBy wonBy keptKind keptBranch keptBegins keptWins partsBy) H locs → lv_has ls 2 [(0, .ref (a 0)), (1, .int x1_3)] → W p l e rm_X11_layWinners s m args below meth c H locs 0 0 Qz (F0 m 2 ls []) := by
    intro n_2_1
    induction n_2_1 with
    | zero =>
      intro winner_2 x1_3 ia ifu _ _ _ _ _ _
      exfalso; omega
    | succ n_2_1 ih_L2_1 =>
      intro winner_2 x1_3 ia ifu he H locs ls hX hl
      have he := he.trans f_X11_layWinners_L2_s
      refine lv_iload_n hx hb dX11_layWinners_2 rfl (lv_at hl 1 rfl) ?_
      refine lv_aload_n hx hb dX11_layWinners_3 rfl (lv_at hl 0 rfl) ?_
      refine va_get (D := D) (ci := 11) (v := .int stand) (C := RX11) (T := TX11) (N := 34) hx hb hts hi_X11 hown hS.1 hX.1 0 rfl rfl 4 (by decide) l_fieldLink_86 (fun _ h9 => h9) rfl dX11_layWinners_4 ?_
      refine lv_icmp_gt (tgt := 57) hx hb dX11_layWinners_7 (by decide) (fun c7 => ?_) (fun c7 => ?_)
      · have he := he.trans (if_pos c7)
        have d7 := i_lt c7
        subst he
        exact g_vret hx hb hr hlocks hX hq dX11_layWinners_57
      · have he := he.trans (if_neg c7)
        have d7 := i_nlt c7
        refine lv_iload_n hx hb dX11_layWinners_10 rfl (lv_at hl 1 rfl) ?_
        refine lv_aload_n hx hb dX11_layWinners_11 rfl (lv_at hl 0 rfl) ?_
        refine va_get (D := D) (ci := 11) (v := .int stand) (C := RX11) (T := TX11) (N := 34) hx hb hts hi_X11 hown hS.1 hX.1 0 rfl rfl 4 (by decide) l_fieldLink_86 (fun _ h9 => h9) rfl dX11_layWinners_12 ?_
        refine lv_iconst (v := (-1 : Int32)) hx hb dX11_layWinners_15 (by decide) ?_
        refine lv_ixor hx hb dX11_layWinners_16 ?_
        refine lv_iand hx hb dX11_layWinners_17 ?_
        refine lv_if_ne (tgt := 51) hx hb dX11_layWinners_18 (by decide) (fun c18 => ?_) (fun c18 => ?_)
        · have he := he.trans (if_neg c18)
          have d18 := i_ne c18
          refine lv_iinc (v := (x1_3 + (1 : Int32))) (lv' := [(1, .int (x1_3 + (1 : Int32))), (0, .ref (a 0))]) hx hb dX11_layWinners_51 hl (k := 1) rfl rfl (by decide) rfl (fun ls hl => ?_)
          have s51 := i_s1 (x := x1_3) (by omega)
          refine lv_goto (tgt := 2) hx hb dX11_layWinners_54 (by decide) ?_
          exact ih_L2_1 winner_2 (x1_3 + (1 : Int32)) (by omega) (by omega) he _ _ _ hX (lv_sub hl [1, 0] rfl)
        · have he := he.trans (if_pos c18)
          have d18 := i_eq c18
          refine lv_aload_n hx hb dX11_layWinners_21 rfl (lv_at hl 0 rfl) ?_
          refine va_get (D := D) (ci := 11) (v := .ref (a 7)) (C := RX11) (T := TX11) (N := 34) hx hb hts hi_X11 hown hS.1 hX.1 0 rfl rfl 16 (by decide) l_fieldLink_29 (fun _ h9 => h9) rfl dX11_layWinners_22 ?_
          refine lv_iconst (v := (2 : Int32)) hx hb dX11_layWinners_25 (by decide) ?_
          refine lv_iload_n hx hb dX11_layWinners_26 rfl (lv_at hl 1 rfl) ?_
          refine lv_imul hx hb dX11_layWinners_27 ?_
          refine lv_aload_n hx hb dX11_layWinners_28 rfl (lv_at hl 0 rfl) ?_
          refine lv_iload_n hx hb dX11_layWinners_29 rfl (lv_at hl 1 rfl) ?_
          refine lv_iconst (v := (0 : Int32)) hx hb dX11_layWinners_30 (by decide) ?_
          obtain ⟨r_4, e31⟩ : ∃ z, z = (f_X11_winnerFrom branches kindOf onOf winner_2 x1_3 (0 : Int32)) := ⟨_, rfl⟩
          rw [← e31] at he
          refine g_Vi (r := r_4) (As := [.int x1_3, .int (0 : Int32)]) (rest := [.int ((2 : Int32) * x1_3), .ref (a 7)]) (ci := 11) (q0 := 0) ⟨hx, hb, hml, hown, hts⟩ hS hX (k_X11_winnerFrom x1_3 (0 : Int32) (by omega) (by omega) (by omega) r_4 e31) (cwV 2 hts gX11_layWinners_X11_winnerFrom rfl rfl rfl (by decide +kernel) ⟨Nat.le_of_ble_eq_true rfl, Nat.le_of_ble_eq_true rfl⟩) rfl rfl rfl hl.1 rfl (Nat.le_of_ble_eq_true rfl) dX11_layWinners_31 ⟨Nat.zero_le _, Nat.zero_le _⟩ (fun H locs hX => ?_)
          refine va_iast hx hb hS.1 hX.1 hX.2.1 hX.2.2 7 6 rfl rfl (o_2s (by omega)) dX11_layWinners_34 (fun H locs hP hD hs => ?_)
          have hX : gX D Z s (wM a cA hedges branches stand turn cuts asks seen pageLength isWhole newBranches gameCuts isKept keptHedge keptStand keptTurn keptCuts keptSeen seedNow hsh kindOf onOf seenBranch seenBegins seenWins page (upd winner_2 (((2 : Int32) * x1_3)).toNatClampNeg r_4) lasting worthBy wonBy keptKind keptBranch keptBegins keptWins partsBy) H locs := ⟨hP, hD, hs⟩
          refine lv_aload_n hx hb dX11_layWinners_35 rfl (lv_at hl 0 rfl) ?_
          refine va_get (D := D) (ci := 11) (v := .ref (a 7)) (C := RX11) (T := TX11) (N := 34) hx hb hts hi_X11 hown hS.1 hX.1 0 rfl rfl 16 (by decide) l_fieldLink_29 (fun _ h9 => h9) rfl dX11_layWinners_36 ?_
          refine lv_iconst (v := (2 : Int32)) hx hb dX11_layWinners_39 (by decide) ?_
          refine lv_iload_n hx hb dX11_layWinners_40 rfl (lv_at hl 1 rfl) ?_
          refine lv_imul hx hb dX11_layWinners_41 ?_
          refine lv_iconst (v := (1 : Int32)) hx hb dX11_layWinners_42 (by decide) ?_
          refine lv_iadd hx hb dX11_layWinners_43 ?_
          refine lv_aload_n hx hb dX11_layWinners_44 rfl (lv_at hl 0 rfl) ?_
          refine lv_iload_n hx hb dX11_layWinners_45 rfl (lv_at hl 1 rfl) ?_
          refine lv_iconst (v := (1 : Int32)) hx hb dX11_layWinners_46 (by decide) ?_
          obtain ⟨r_5, e47⟩ : ∃ z, z = (f_X11_winnerFrom branches kindOf onOf (upd winner_2 (((2 : Int32) * x1_3)).toNatClampNeg r_4) x1_3 (1 : Int32)) := ⟨_, rfl⟩
          rw [← e47] at he
          refine g_Vi (r := r_5) (As := [.int x1_3, .int (1 : Int32)]) (rest := [.int (((2 : Int32) * x1_3) + (1 : Int32)), .ref (a 7)]) (ci := 11) (q0 := 0) ⟨hx, hb, hml, hown, hts⟩ hS hX (k_X11_winnerFrom x1_3 (1 : Int32) (by omega) (by omega) (by omega) r_5 e47) (cwV 2 hts gX11_layWinners_X11_winnerFrom rfl rfl rfl (by decide +kernel) ⟨Nat.le_of_ble_eq_true rfl, Nat.le_of_ble_eq_true rfl⟩) rfl rfl rfl hl.1 rfl (Nat.le_of_ble_eq_true rfl) dX11_layWinners_47 ⟨Nat.zero_le _, Nat.zero_le _⟩ (fun H locs hX => ?_)
          refine va_iast hx hb hS.1 hX.1 hX.2.1 hX.2.2 7 6 rfl rfl (o_2s1 (by omega)) dX11_layWinners_50 (fun H locs hP hD hs => ?_)
          have hX : gX D Z s (wM a cA hedges branches stand turn cuts asks seen pageLength isWhole newBranches gameCuts isKept keptHedge keptStand keptTurn keptCuts keptSeen seedNow hsh kindOf onOf seenBranch seenBegins seenWins page (upd (upd winner_2 (((2 : Int32) * x1_3)).toNatClampNeg r_4) ((((2 : Int32) * x1_3) + (1 : Int32))).toNatClampNeg r_5) lasting worthBy wonBy keptKind keptBranch keptBegins keptWins partsBy) H locs := ⟨hP, hD, hs⟩
          refine lv_iinc (v := (x1_3 + (1 : Int32))) (lv' := [(1, .int (x1_3 + (1 : Int32))), (0, .ref (a 0))]) hx hb dX11_layWinners_51 hl (k := 1) rfl rfl (by decide) rfl (fun ls hl => ?_)
          have s51 := i_s1 (x := x1_3) (by omega)
          refine lv_goto (tgt := 2) hx hb dX11_layWinners_54 (by decide) ?_
          exact ih_L2_1 (upd (upd winner_2 (((2 : Int32) * x1_3)).toNatClampNeg r_4) ((((2 : Int32) * x1_3) + (1 : Int32))).toNatClampNeg r_5) (x1_3 + (1 : Int32)) (by omega) (by omega) he _ _ _ hX (lv_sub hl [1, 0] rfl)
  exact L2_1 257 winner (0 : Int32) (by omega) (by omega) he _ _ _ hX (lv_sub hl [1, 0] rfl)
abbrev rm_X11_laySorts : Room := { frames := 5, cells := 0, slots := 0, locals := 112 }
set_option maxHeartbeats 4000000 in
set_option maxRecDepth 100000 in
theorem k_X11_laySorts {l : Launch} {D : va_G} {E : sE} {a : Nat → Nat} {cA : Nat → ClassId} {hedges : Int32} {branches : Int32} {stand : Int32} {turn : Int32} {cuts : Int32} {asks : Int32} {seen : Int32} {pageLength : Int32} {isWhole : Int32} {newBranches : Int32} {gameCuts : Int32} {isKept : Int32} {keptHedge : Int32} {keptStand : Int32} {keptTurn : Int32} {keptCuts : Int32} {keptSeen : Int32} {seedNow : Int64} {hsh : Int64} {kindOf : Nat → Int32} {onOf : Nat → Int32} {seenBranch : Nat → Int32} {seenBegins : Nat → Int32} {seenWins : Nat → Int32} {page : Nat → Int32} {winner : Nat → Int32} {lasting : Nat → Int32} {worthBy : Nat → Int32} {wonBy : Nat → Int32} {keptKind : Nat → Int32} {keptBranch : Nat → Int32} {keptBegins : Nat → Int32} {keptWins : Nat → Int32} {partsBy : Nat → Int64} (p1 : Int32) (hbr : 0 ≤ (branches).toInt ∧ (branches).toInt ≤ 8) (hst : 0 ≤ (stand).toInt ∧ (stand).toInt < 256) (hbx : 0 ≤ (p1).toInt ∧ (p1).toInt < 8) : ∀ q : (Nat → Int32) × (Nat → Int32) × (Nat → Int32), q = f_X11_laySorts branches stand kindOf onOf winner wonBy p1 → gMv l yX11_laySorts wsX11_laySorts rm_X11_laySorts D E (tM cA) [.ref (a 0), .int p1] (wM a cA hedges branches stand turn cuts asks seen pageLength isWhole newBranches gameCuts isKept keptHedge keptStand keptTurn keptCuts keptSeen seedNow hsh kindOf onOf seenBranch seenBegins seenWins page winner lasting worthBy wonBy keptKind keptBranch keptBegins keptWins partsBy) (wM a cA hedges branches stand turn cuts asks seen pageLength isWhole newBranches gameCuts isKept keptHedge keptStand keptTurn keptCuts keptSeen seedNow hsh q.1 onOf seenBranch seenBegins seenWins page q.2.1 lasting worthBy q.2.2 keptKind keptBranch keptBegins keptWins partsBy) := by
  intro q he0
  refine gM_of (cc := cX11_laySorts) (maxL := 4) (ret := none) (Qf := gQv D (wM a cA hedges branches stand turn cuts asks seen pageLength isWhole newBranches gameCuts isKept keptHedge keptStand keptTurn keptCuts keptSeen seedNow hsh q.1 onOf seenBranch seenBegins seenWins page q.2.1 lasting worthBy q.2.2 keptKind keptBranch keptBegins keptWins partsBy)) (by decide) rfl (Nat.le_of_ble_eq_true rfl) ?_
  intro p e s m args below meth c Z ls Qz hx hb hr hml hlocks hown hts hS hX hl hq
  have he := he0.trans f_X11_laySorts_s
  have hown : s.vm.findClass RX11 = some m.cls := hown
  have hl : lv_has ls 4 [(0, .ref (a 0)), (1, .int p1)] := hl
  have hi_X11 : ∀ w ∈ u_ws RX11 TX11 34, w ∈ wsX11_laySorts := fun _ h => List.mem_cons_of_mem _ (List.mem_append_right _ h)
  have l_fieldLink_29 := hts (Cond.fieldLink RX11 29 "HedgeGameModel" "winner" "[I") (List.mem_of_getElem? (i := 3) rfl)
  have l_fieldLink_42 := hts (Cond.fieldLink RX11 42 "HedgeGameModel" "wonBy" "[I") (List.mem_of_getElem? (i := 2) rfl)
  have l_fieldLink_7 := hts (Cond.fieldLink RX11 7 "HedgeGameModel" "kindOf" "[I") (List.mem_of_getElem? (i := 1) rfl)
  have l_fieldLink_86 := hts (Cond.fieldLink RX11 86 "HedgeGameModel" "stand" "I") (List.mem_of_getElem? (i := 4) rfl)
  have t0 : ((0 : Int32)).toInt = 0 := rfl
  have t1 : ((1 : Int32)).toInt = 1 := rfl
  have t2 : ((2 : Int32)).toInt = 2 := rfl
  have t4 : ((4 : Int32)).toInt = 4 := rfl
  refine lv_aload_n hx hb dX11_laySorts_0 rfl (lv_at hl 0 rfl) ?_
  refine va_get (D := D) (ci := 11) (v := .ref (a 1)) (C := RX11) (T := TX11) (N := 34) hx hb hts hi_X11 hown hS.1 hX.1 0 rfl rfl 2 (by decide) l_fieldLink_7 (fun _ h9 => h9) rfl dX11_laySorts_1 ?_
  refine lv_iload_n hx hb dX11_laySorts_4 rfl (lv_at hl 1 rfl) ?_
  refine va_iald hx hb hS.1 hX.1 1 0 rfl rfl (vp_in_iff.mpr (by omega)) dX11_laySorts_5 ?_
  refine lv_istore_n (lv' := [(2, .int (kindOf (p1).toNatClampNeg)), (0, .ref (a 0)), (1, .int p1)]) hx hb dX11_laySorts_6 rfl hl (by decide) rfl (fun ls hl => ?_)
  refine lv_iconst (v := (0 : Int32)) hx hb dX11_laySorts_7 (by decide) ?_
  refine lv_istore_n (lv' := [(3, .int (0 : Int32)), (2, .int (kindOf (p1).toNatClampNeg)), (0, .ref (a 0)), (1, .int p1)]) hx hb dX11_laySorts_8 rfl hl (by decide) rfl (fun ls hl => ?_)
  have L9_1 : ∀ (n_9_1 : Nat) (kindOf_2 : Nat → Int32) (winner_3 : Nat → Int32) (wonBy_4 : Nat → Int32) (x3_5 : Int32), 0 ≤ (x3_5).toInt ∧ (x3_5).toInt ≤ 5 → 5 - (x3_5).toInt < (n_9_1 : Int) → q = f_X11_laySorts_L9 n_9_1 branches stand kindOf_2 onOf winner_3 wonBy_4 p1 (kindOf (p1).toNatClampNeg) x3_5 → ∀ (H : Heap) (locs : List Loc) (ls : Array Slot), gX D Z s (wM a cA hedges branches stand turn cuts asks seen pageLength isWhole newBranches gameCuts isKept keptHedge keptStand keptTurn keptCuts keptSeen seedNow hsh kindOf_2 onOf seenBranch seenBegins seenWins page winner_3 lasting worthBy wonBy_4 keptKind keptBranch keptBegins keptWins partsBy) H locs → lv_has ls 4 [(0, .ref (a 0)), (1, .int p1), (2, .int (kindOf (p1).toNatClampNeg)), (3, .int x3_5)] → W p l e rm_X11_laySorts s m args below meth c H locs 0 0 Qz (F0 m 9 ls []) := by
    intro n_9_1
    induction n_9_1 with
    | zero =>
      intro kindOf_2 winner_3 wonBy_4 x3_5 ia ifu _ _ _ _ _ _
      exfalso; omega
    | succ n_9_1 ih_L9_1 =>
      intro kindOf_2 winner_3 wonBy_4 x3_5 ia ifu he H locs ls hX hl
      have he := he.trans f_X11_laySorts_L9_s
      refine lv_iload_n hx hb dX11_laySorts_9 rfl (lv_at hl 3 rfl) ?_
      refine lv_iconst (v := (4 : Int32)) hx hb dX11_laySorts_10 (by decide) ?_
      refine lv_icmp_gt (tgt := 90) hx hb dX11_laySorts_11 (by decide) (fun c11 => ?_) (fun c11 => ?_)
      · have he := he.trans (if_pos c11)
        have d11 := i_lt c11
        refine lv_aload_n hx hb dX11_laySorts_90 rfl (lv_at hl 0 rfl) ?_
        refine va_get (D := D) (ci := 11) (v := .ref (a 1)) (C := RX11) (T := TX11) (N := 34) hx hb hts hi_X11 hown hS.1 hX.1 0 rfl rfl 2 (by decide) l_fieldLink_7 (fun _ h9 => h9) rfl dX11_laySorts_91 ?_
        refine lv_iload_n hx hb dX11_laySorts_94 rfl (lv_at hl 1 rfl) ?_
        refine lv_iload_n hx hb dX11_laySorts_95 rfl (lv_at hl 2 rfl) ?_
        refine va_iast hx hb hS.1 hX.1 hX.2.1 hX.2.2 1 0 rfl rfl (vp_in_iff.mpr (by omega)) dX11_laySorts_96 (fun H locs hP hD hs => ?_)
        have hX : gX D Z s (wM a cA hedges branches stand turn cuts asks seen pageLength isWhole newBranches gameCuts isKept keptHedge keptStand keptTurn keptCuts keptSeen seedNow hsh (upd kindOf_2 (p1).toNatClampNeg (kindOf (p1).toNatClampNeg)) onOf seenBranch seenBegins seenWins page winner_3 lasting worthBy wonBy_4 keptKind keptBranch keptBegins keptWins partsBy) H locs := ⟨hP, hD, hs⟩
        subst he
        exact g_vret hx hb hr hlocks hX hq dX11_laySorts_97
      · have he := he.trans (if_neg c11)
        have d11 := i_nlt c11
        refine lv_aload_n hx hb dX11_laySorts_14 rfl (lv_at hl 0 rfl) ?_
        refine va_get (D := D) (ci := 11) (v := .ref (a 1)) (C := RX11) (T := TX11) (N := 34) hx hb hts hi_X11 hown hS.1 hX.1 0 rfl rfl 2 (by decide) l_fieldLink_7 (fun _ h9 => h9) rfl dX11_laySorts_15 ?_
        refine lv_iload_n hx hb dX11_laySorts_18 rfl (lv_at hl 1 rfl) ?_
        refine lv_iload_n hx hb dX11_laySorts_19 rfl (lv_at hl 3 rfl) ?_
        refine va_iast hx hb hS.1 hX.1 hX.2.1 hX.2.2 1 0 rfl rfl (vp_in_iff.mpr (by omega)) dX11_laySorts_20 (fun H locs hP hD hs => ?_)
        have hX : gX D Z s (wM a cA hedges branches stand turn cuts asks seen pageLength isWhole newBranches gameCuts isKept keptHedge keptStand keptTurn keptCuts keptSeen seedNow hsh (upd kindOf_2 (p1).toNatClampNeg x3_5) onOf seenBranch seenBegins seenWins page winner_3 lasting worthBy wonBy_4 keptKind keptBranch keptBegins keptWins partsBy) H locs := ⟨hP, hD, hs⟩
        refine lv_aload_n hx hb dX11_laySorts_21 rfl (lv_at hl 0 rfl) ?_
        obtain ⟨winner_6, e22⟩ : ∃ z, z = (f_X11_layWinners branches stand (upd kindOf_2 (p1).toNatClampNeg x3_5) onOf winner_3) := ⟨_, rfl⟩
        rw [← e22] at he
        refine g_Vv (w2 := (wM a cA hedges branches stand turn cuts asks seen pageLength isWhole newBranches gameCuts isKept keptHedge keptStand keptTurn keptCuts keptSeen seedNow hsh (upd kindOf_2 (p1).toNatClampNeg x3_5) onOf seenBranch seenBegins seenWins page winner_6 lasting worthBy wonBy_4 keptKind keptBranch keptBegins keptWins partsBy)) (As := []) (rest := []) (ci := 11) (q0 := 0) ⟨hx, hb, hml, hown, hts⟩ hS hX (k_X11_layWinners (by omega) (by omega) winner_6 e22) (cwV 0 hts gX11_laySorts_X11_layWinners rfl rfl rfl (by decide +kernel) ⟨Nat.le_of_ble_eq_true rfl, Nat.le_of_ble_eq_true rfl⟩) rfl rfl rfl hl.1 rfl (Nat.le_of_ble_eq_true rfl) dX11_laySorts_22 ⟨Nat.zero_le _, Nat.zero_le _⟩ (fun H locs hX => ?_)
        refine lv_aload_n hx hb dX11_laySorts_25 rfl (lv_at hl 0 rfl) ?_
        refine va_get (D := D) (ci := 11) (v := .ref (a 11)) (C := RX11) (T := TX11) (N := 34) hx hb hts hi_X11 hown hS.1 hX.1 0 rfl rfl 20 (by decide) l_fieldLink_42 (fun _ h9 => h9) rfl dX11_laySorts_26 ?_
        refine lv_iconst (v := (2 : Int32)) hx hb dX11_laySorts_29 (by decide) ?_
        refine lv_iload_n hx hb dX11_laySorts_30 rfl (lv_at hl 3 rfl) ?_
        refine lv_imul hx hb dX11_laySorts_31 ?_
        refine lv_aload_n hx hb dX11_laySorts_32 rfl (lv_at hl 0 rfl) ?_
        refine va_get (D := D) (ci := 11) (v := .ref (a 7)) (C := RX11) (T := TX11) (N := 34) hx hb hts hi_X11 hown hS.1 hX.1 0 rfl rfl 16 (by decide) l_fieldLink_29 (fun _ h9 => h9) rfl dX11_laySorts_33 ?_
        refine lv_iconst (v := (2 : Int32)) hx hb dX11_laySorts_36 (by decide) ?_
        refine lv_aload_n hx hb dX11_laySorts_37 rfl (lv_at hl 0 rfl) ?_
        refine va_get (D := D) (ci := 11) (v := .int stand) (C := RX11) (T := TX11) (N := 34) hx hb hts hi_X11 hown hS.1 hX.1 0 rfl rfl 4 (by decide) l_fieldLink_86 (fun _ h9 => h9) rfl dX11_laySorts_38 ?_
        refine lv_imul hx hb dX11_laySorts_41 ?_
        refine va_iald hx hb hS.1 hX.1 7 6 rfl rfl (o_2s (by omega)) dX11_laySorts_42 ?_
        refine lv_if_ne (tgt := 50) hx hb dX11_laySorts_43 (by decide) (fun c43 => ?_) (fun c43 => ?_)
        · have he := he.trans (if_neg c43)
          have d43 := i_ne c43
          refine lv_iconst (v := (0 : Int32)) hx hb dX11_laySorts_50 (by decide) ?_
          refine va_iast hx hb hS.1 hX.1 hX.2.1 hX.2.2 11 10 rfl rfl (o_2k (by omega)) dX11_laySorts_51 (fun H locs hP hD hs => ?_)
          have hX : gX D Z s (wM a cA hedges branches stand turn cuts asks seen pageLength isWhole newBranches gameCuts isKept keptHedge keptStand keptTurn keptCuts keptSeen seedNow hsh (upd kindOf_2 (p1).toNatClampNeg x3_5) onOf seenBranch seenBegins seenWins page winner_6 lasting worthBy (upd wonBy_4 (((2 : Int32) * x3_5)).toNatClampNeg (0 : Int32)) keptKind keptBranch keptBegins keptWins partsBy) H locs := ⟨hP, hD, hs⟩
          refine lv_aload_n hx hb dX11_laySorts_52 rfl (lv_at hl 0 rfl) ?_
          refine va_get (D := D) (ci := 11) (v := .ref (a 11)) (C := RX11) (T := TX11) (N := 34) hx hb hts hi_X11 hown hS.1 hX.1 0 rfl rfl 20 (by decide) l_fieldLink_42 (fun _ h9 => h9) rfl dX11_laySorts_53 ?_
          refine lv_iconst (v := (2 : Int32)) hx hb dX11_laySorts_56 (by decide) ?_
          refine lv_iload_n hx hb dX11_laySorts_57 rfl (lv_at hl 3 rfl) ?_
          refine lv_imul hx hb dX11_laySorts_58 ?_
          refine lv_iconst (v := (1 : Int32)) hx hb dX11_laySorts_59 (by decide) ?_
          refine lv_iadd hx hb dX11_laySorts_60 ?_
          refine lv_aload_n hx hb dX11_laySorts_61 rfl (lv_at hl 0 rfl) ?_
          refine va_get (D := D) (ci := 11) (v := .ref (a 7)) (C := RX11) (T := TX11) (N := 34) hx hb hts hi_X11 hown hS.1 hX.1 0 rfl rfl 16 (by decide) l_fieldLink_29 (fun _ h9 => h9) rfl dX11_laySorts_62 ?_
          refine lv_iconst (v := (2 : Int32)) hx hb dX11_laySorts_65 (by decide) ?_
          refine lv_aload_n hx hb dX11_laySorts_66 rfl (lv_at hl 0 rfl) ?_
          refine va_get (D := D) (ci := 11) (v := .int stand) (C := RX11) (T := TX11) (N := 34) hx hb hts hi_X11 hown hS.1 hX.1 0 rfl rfl 4 (by decide) l_fieldLink_86 (fun _ h9 => h9) rfl dX11_laySorts_67 ?_
          refine lv_imul hx hb dX11_laySorts_70 ?_
          refine lv_iconst (v := (1 : Int32)) hx hb dX11_laySorts_71 (by decide) ?_
          refine lv_iadd hx hb dX11_laySorts_72 ?_
          refine va_iald hx hb hS.1 hX.1 7 6 rfl rfl (o_2s1 (by omega)) dX11_laySorts_73 ?_
          refine lv_iconst (v := (1 : Int32)) hx hb dX11_laySorts_74 (by decide) ?_
          refine lv_icmp_ne (tgt := 82) hx hb dX11_laySorts_75 (by decide) (fun c75 => ?_) (fun c75 => ?_)
          · have he := he.trans (if_neg c75)
            have d75 := i_ne c75
            refine lv_iconst (v := (0 : Int32)) hx hb dX11_laySorts_82 (by decide) ?_
            refine va_iast hx hb hS.1 hX.1 hX.2.1 hX.2.2 11 10 rfl rfl (o_2k1 (by omega)) dX11_laySorts_83 (fun H locs hP hD hs => ?_)
            have hX : gX D Z s (wM a cA hedges branches stand turn cuts asks seen pageLength isWhole newBranches gameCuts isKept keptHedge keptStand keptTurn keptCuts keptSeen seedNow hsh (upd kindOf_2 (p1).toNatClampNeg x3_5) onOf seenBranch seenBegins seenWins page winner_6 lasting worthBy (upd (upd wonBy_4 (((2 : Int32) * x3_5)).toNatClampNeg (0 : Int32)) ((((2 : Int32) * x3_5) + (1 : Int32))).toNatClampNeg (0 : Int32)) keptKind keptBranch keptBegins keptWins partsBy) H locs := ⟨hP, hD, hs⟩
            refine lv_iinc (v := (x3_5 + (1 : Int32))) (lv' := [(3, .int (x3_5 + (1 : Int32))), (0, .ref (a 0)), (1, .int p1), (2, .int (kindOf (p1).toNatClampNeg))]) hx hb dX11_laySorts_84 hl (k := 3) rfl rfl (by decide) rfl (fun ls hl => ?_)
            have s84 := i_s1 (x := x3_5) (by omega)
            refine lv_goto (tgt := 9) hx hb dX11_laySorts_87 (by decide) ?_
            exact ih_L9_1 (upd kindOf_2 (p1).toNatClampNeg x3_5) winner_6 (upd (upd wonBy_4 (((2 : Int32) * x3_5)).toNatClampNeg (0 : Int32)) ((((2 : Int32) * x3_5) + (1 : Int32))).toNatClampNeg (0 : Int32)) (x3_5 + (1 : Int32)) (by omega) (by omega) he _ _ _ hX (lv_sub hl [1, 2, 3, 0] rfl)
          · have he := he.trans (if_pos c75)
            have d75 := i_eq c75
            refine lv_iconst (v := (1 : Int32)) hx hb dX11_laySorts_78 (by decide) ?_
            refine lv_goto (tgt := 83) hx hb dX11_laySorts_79 (by decide) ?_
            refine va_iast hx hb hS.1 hX.1 hX.2.1 hX.2.2 11 10 rfl rfl (o_2k1 (by omega)) dX11_laySorts_83 (fun H locs hP hD hs => ?_)
            have hX : gX D Z s (wM a cA hedges branches stand turn cuts asks seen pageLength isWhole newBranches gameCuts isKept keptHedge keptStand keptTurn keptCuts keptSeen seedNow hsh (upd kindOf_2 (p1).toNatClampNeg x3_5) onOf seenBranch seenBegins seenWins page winner_6 lasting worthBy (upd (upd wonBy_4 (((2 : Int32) * x3_5)).toNatClampNeg (0 : Int32)) ((((2 : Int32) * x3_5) + (1 : Int32))).toNatClampNeg (1 : Int32)) keptKind keptBranch keptBegins keptWins partsBy) H locs := ⟨hP, hD, hs⟩
            refine lv_iinc (v := (x3_5 + (1 : Int32))) (lv' := [(3, .int (x3_5 + (1 : Int32))), (0, .ref (a 0)), (1, .int p1), (2, .int (kindOf (p1).toNatClampNeg))]) hx hb dX11_laySorts_84 hl (k := 3) rfl rfl (by decide) rfl (fun ls hl => ?_)
            have s84 := i_s1 (x := x3_5) (by omega)
            refine lv_goto (tgt := 9) hx hb dX11_laySorts_87 (by decide) ?_
            exact ih_L9_1 (upd kindOf_2 (p1).toNatClampNeg x3_5) winner_6 (upd (upd wonBy_4 (((2 : Int32) * x3_5)).toNatClampNeg (0 : Int32)) ((((2 : Int32) * x3_5) + (1 : Int32))).toNatClampNeg (1 : Int32)) (x3_5 + (1 : Int32)) (by omega) (by omega) he _ _ _ hX (lv_sub hl [1, 2, 3, 0] rfl)
        · have he := he.trans (if_pos c43)
          have d43 := i_eq c43
          refine lv_iconst (v := (1 : Int32)) hx hb dX11_laySorts_46 (by decide) ?_
          refine lv_goto (tgt := 51) hx hb dX11_laySorts_47 (by decide) ?_
          refine va_iast hx hb hS.1 hX.1 hX.2.1 hX.2.2 11 10 rfl rfl (o_2k (by omega)) dX11_laySorts_51 (fun H locs hP hD hs => ?_)
          have hX : gX D Z s (wM a cA hedges branches stand turn cuts asks seen pageLength isWhole newBranches gameCuts isKept keptHedge keptStand keptTurn keptCuts keptSeen seedNow hsh (upd kindOf_2 (p1).toNatClampNeg x3_5) onOf seenBranch seenBegins seenWins page winner_6 lasting worthBy (upd wonBy_4 (((2 : Int32) * x3_5)).toNatClampNeg (1 : Int32)) keptKind keptBranch keptBegins keptWins partsBy) H locs := ⟨hP, hD, hs⟩
          refine lv_aload_n hx hb dX11_laySorts_52 rfl (lv_at hl 0 rfl) ?_
          refine va_get (D := D) (ci := 11) (v := .ref (a 11)) (C := RX11) (T := TX11) (N := 34) hx hb hts hi_X11 hown hS.1 hX.1 0 rfl rfl 20 (by decide) l_fieldLink_42 (fun _ h9 => h9) rfl dX11_laySorts_53 ?_
          refine lv_iconst (v := (2 : Int32)) hx hb dX11_laySorts_56 (by decide) ?_
          refine lv_iload_n hx hb dX11_laySorts_57 rfl (lv_at hl 3 rfl) ?_
          refine lv_imul hx hb dX11_laySorts_58 ?_
          refine lv_iconst (v := (1 : Int32)) hx hb dX11_laySorts_59 (by decide) ?_
          refine lv_iadd hx hb dX11_laySorts_60 ?_
          refine lv_aload_n hx hb dX11_laySorts_61 rfl (lv_at hl 0 rfl) ?_
          refine va_get (D := D) (ci := 11) (v := .ref (a 7)) (C := RX11) (T := TX11) (N := 34) hx hb hts hi_X11 hown hS.1 hX.1 0 rfl rfl 16 (by decide) l_fieldLink_29 (fun _ h9 => h9) rfl dX11_laySorts_62 ?_
          refine lv_iconst (v := (2 : Int32)) hx hb dX11_laySorts_65 (by decide) ?_
          refine lv_aload_n hx hb dX11_laySorts_66 rfl (lv_at hl 0 rfl) ?_
          refine va_get (D := D) (ci := 11) (v := .int stand) (C := RX11) (T := TX11) (N := 34) hx hb hts hi_X11 hown hS.1 hX.1 0 rfl rfl 4 (by decide) l_fieldLink_86 (fun _ h9 => h9) rfl dX11_laySorts_67 ?_
          refine lv_imul hx hb dX11_laySorts_70 ?_
          refine lv_iconst (v := (1 : Int32)) hx hb dX11_laySorts_71 (by decide) ?_
          refine lv_iadd hx hb dX11_laySorts_72 ?_
          refine va_iald hx hb hS.1 hX.1 7 6 rfl rfl (o_2s1 (by omega)) dX11_laySorts_73 ?_
          refine lv_iconst (v := (1 : Int32)) hx hb dX11_laySorts_74 (by decide) ?_
          refine lv_icmp_ne (tgt := 82) hx hb dX11_laySorts_75 (by decide) (fun c75 => ?_) (fun c75 => ?_)
          · have he := he.trans (if_neg c75)
            have d75 := i_ne c75
            refine lv_iconst (v := (0 : Int32)) hx hb dX11_laySorts_82 (by decide) ?_
            refine va_iast hx hb hS.1 hX.1 hX.2.1 hX.2.2 11 10 rfl rfl (o_2k1 (by omega)) dX11_laySorts_83 (fun H locs hP hD hs => ?_)
            have hX : gX D Z s (wM a cA hedges branches stand turn cuts asks seen pageLength isWhole newBranches gameCuts isKept keptHedge keptStand keptTurn keptCuts keptSeen seedNow hsh (upd kindOf_2 (p1).toNatClampNeg x3_5) onOf seenBranch seenBegins seenWins page winner_6 lasting worthBy (upd (upd wonBy_4 (((2 : Int32) * x3_5)).toNatClampNeg (1 : Int32)) ((((2 : Int32) * x3_5) + (1 : Int32))).toNatClampNeg (0 : Int32)) keptKind keptBranch keptBegins keptWins partsBy) H locs := ⟨hP, hD, hs⟩
            refine lv_iinc (v := (x3_5 + (1 : Int32))) (lv' := [(3, .int (x3_5 + (1 : Int32))), (0, .ref (a 0)), (1, .int p1), (2, .int (kindOf (p1).toNatClampNeg))]) hx hb dX11_laySorts_84 hl (k := 3) rfl rfl (by decide) rfl (fun ls hl => ?_)
            have s84 := i_s1 (x := x3_5) (by omega)
            refine lv_goto (tgt := 9) hx hb dX11_laySorts_87 (by decide) ?_
            exact ih_L9_1 (upd kindOf_2 (p1).toNatClampNeg x3_5) winner_6 (upd (upd wonBy_4 (((2 : Int32) * x3_5)).toNatClampNeg (1 : Int32)) ((((2 : Int32) * x3_5) + (1 : Int32))).toNatClampNeg (0 : Int32)) (x3_5 + (1 : Int32)) (by omega) (by omega) he _ _ _ hX (lv_sub hl [1, 2, 3, 0] rfl)
          · have he := he.trans (if_pos c75)
            have d75 := i_eq c75
            refine lv_iconst (v := (1 : Int32)) hx hb dX11_laySorts_78 (by decide) ?_
            refine lv_goto (tgt := 83) hx hb dX11_laySorts_79 (by decide) ?_
            refine va_iast hx hb hS.1 hX.1 hX.2.1 hX.2.2 11 10 rfl rfl (o_2k1 (by omega)) dX11_laySorts_83 (fun H locs hP hD hs => ?_)
            have hX : gX D Z s (wM a cA hedges branches stand turn cuts asks seen pageLength isWhole newBranches gameCuts isKept keptHedge keptStand keptTurn keptCuts keptSeen seedNow hsh (upd kindOf_2 (p1).toNatClampNeg x3_5) onOf seenBranch seenBegins seenWins page winner_6 lasting worthBy (upd (upd wonBy_4 (((2 : Int32) * x3_5)).toNatClampNeg (1 : Int32)) ((((2 : Int32) * x3_5) + (1 : Int32))).toNatClampNeg (1 : Int32)) keptKind keptBranch keptBegins keptWins partsBy) H locs := ⟨hP, hD, hs⟩
            refine lv_iinc (v := (x3_5 + (1 : Int32))) (lv' := [(3, .int (x3_5 + (1 : Int32))), (0, .ref (a 0)), (1, .int p1), (2, .int (kindOf (p1).toNatClampNeg))]) hx hb dX11_laySorts_84 hl (k := 3) rfl rfl (by decide) rfl (fun ls hl => ?_)
            have s84 := i_s1 (x := x3_5) (by omega)
            refine lv_goto (tgt := 9) hx hb dX11_laySorts_87 (by decide) ?_
            exact ih_L9_1 (upd kindOf_2 (p1).toNatClampNeg x3_5) winner_6 (upd (upd wonBy_4 (((2 : Int32) * x3_5)).toNatClampNeg (1 : Int32)) ((((2 : Int32) * x3_5) + (1 : Int32))).toNatClampNeg (1 : Int32)) (x3_5 + (1 : Int32)) (by omega) (by omega) he _ _ _ hX (lv_sub hl [1, 2, 3, 0] rfl)
  exact L9_1 6 kindOf winner wonBy (0 : Int32) (by omega) (by omega) he _ _ _ hX (lv_sub hl [2, 3, 1, 0] rfl)
