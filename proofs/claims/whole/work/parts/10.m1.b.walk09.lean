abbrev rm_X11_image : Room := { frames := 0, cells := 0, slots := 0, locals := 0 }
set_option maxHeartbeats 4000000 in
set_option maxRecDepth 100000 in
theorem k_X11_image {l : Launch} {D : va_G} {E : sE} {a : Nat → Nat} {cA : Nat → ClassId} {hedges : Int32} {branches : Int32} {stand : Int32} {turn : Int32} {cuts : Int32} {asks : Int32} {seen : Int32} {pageLength : Int32} {isWhole : Int32} {newBranches : Int32} {gameCuts : Int32} {isKept : Int32} {keptHedge : Int32} {keptStand : Int32} {keptTurn : Int32} {keptCuts : Int32} {keptSeen : Int32} {seedNow : Int64} {hsh : Int64} {kindOf : Nat → Int32} {onOf : Nat → Int32} {seenBranch : Nat → Int32} {seenBegins : Nat → Int32} {seenWins : Nat → Int32} {page : Nat → Int32} {winner : Nat → Int32} {lasting : Nat → Int32} {worthBy : Nat → Int32} {wonBy : Nat → Int32} {keptKind : Nat → Int32} {keptBranch : Nat → Int32} {keptBegins : Nat → Int32} {keptWins : Nat → Int32} {partsBy : Nat → Int64}   : ∀ q : Int32 × Int32 × Int32 × Int32 × Int32 × Int32 × Int32 × (Nat → Int32) × (Nat → Int32) × (Nat → Int32) × (Nat → Int32), q = f_X11_image hedges branches stand turn cuts seen isKept keptHedge keptStand keptTurn keptCuts keptSeen kindOf seenBranch seenBegins seenWins keptKind keptBranch keptBegins keptWins → gMi l yX11_image wsX11_image rm_X11_image D E (tM cA) [.ref (a 0)] (wM a cA hedges branches stand turn cuts asks seen pageLength isWhole newBranches gameCuts isKept keptHedge keptStand keptTurn keptCuts keptSeen seedNow hsh kindOf onOf seenBranch seenBegins seenWins page winner lasting worthBy wonBy keptKind keptBranch keptBegins keptWins partsBy) (wM a cA hedges branches stand turn cuts asks seen pageLength isWhole newBranches gameCuts q.2.1 q.2.2.1 q.2.2.2.1 q.2.2.2.2.1 q.2.2.2.2.2.1 q.2.2.2.2.2.2.1 seedNow hsh kindOf onOf seenBranch seenBegins seenWins page winner lasting worthBy wonBy q.2.2.2.2.2.2.2.1 q.2.2.2.2.2.2.2.2.1 q.2.2.2.2.2.2.2.2.2.1 q.2.2.2.2.2.2.2.2.2.2 partsBy) q.1 := by
  intro q he0
  refine gM_of (cc := cX11_image) (maxL := 2) (ret := (some .int)) (Qf := gQi D (wM a cA hedges branches stand turn cuts asks seen pageLength isWhole newBranches gameCuts q.2.1 q.2.2.1 q.2.2.2.1 q.2.2.2.2.1 q.2.2.2.2.2.1 q.2.2.2.2.2.2.1 seedNow hsh kindOf onOf seenBranch seenBegins seenWins page winner lasting worthBy wonBy q.2.2.2.2.2.2.2.1 q.2.2.2.2.2.2.2.2.1 q.2.2.2.2.2.2.2.2.2.1 q.2.2.2.2.2.2.2.2.2.2 partsBy) q.1) (by decide) rfl (Nat.le_of_ble_eq_true rfl) ?_
  intro p e s m args below meth c Z ls Qz hx hb hr hml hlocks hown hts hS hX hl hq
  have he := he0.trans f_X11_image_s
  have hown : s.vm.findClass RX11 = some m.cls := hown
  have hl : lv_has ls 2 [(0, .ref (a 0))] := hl
  have hi_X11 : ∀ w ∈ u_ws RX11 TX11 34, w ∈ wsX11_image := fun _ h => List.mem_cons_of_mem _ (List.mem_append_right _ h)
  have l_fieldLink_16 := hts (Cond.fieldLink RX11 16 "HedgeGameModel" "seenBranch" "[I") (List.mem_of_getElem? (i := 16) rfl)
  have l_fieldLink_19 := hts (Cond.fieldLink RX11 19 "HedgeGameModel" "seenBegins" "[I") (List.mem_of_getElem? (i := 18) rfl)
  have l_fieldLink_22 := hts (Cond.fieldLink RX11 22 "HedgeGameModel" "seenWins" "[I") (List.mem_of_getElem? (i := 20) rfl)
  have l_fieldLink_231 := hts (Cond.fieldLink RX11 231 "HedgeGameModel" "isKept" "Z") (List.mem_of_getElem? (i := 2) rfl)
  have l_fieldLink_234 := hts (Cond.fieldLink RX11 234 "HedgeGameModel" "keptHedge" "I") (List.mem_of_getElem? (i := 4) rfl)
  have l_fieldLink_237 := hts (Cond.fieldLink RX11 237 "HedgeGameModel" "keptStand" "I") (List.mem_of_getElem? (i := 6) rfl)
  have l_fieldLink_240 := hts (Cond.fieldLink RX11 240 "HedgeGameModel" "keptTurn" "I") (List.mem_of_getElem? (i := 8) rfl)
  have l_fieldLink_243 := hts (Cond.fieldLink RX11 243 "HedgeGameModel" "keptCuts" "I") (List.mem_of_getElem? (i := 10) rfl)
  have l_fieldLink_246 := hts (Cond.fieldLink RX11 246 "HedgeGameModel" "keptSeen" "I") (List.mem_of_getElem? (i := 12) rfl)
  have l_fieldLink_45 := hts (Cond.fieldLink RX11 45 "HedgeGameModel" "keptKind" "[I") (List.mem_of_getElem? (i := 13) rfl)
  have l_fieldLink_48 := hts (Cond.fieldLink RX11 48 "HedgeGameModel" "keptBranch" "[I") (List.mem_of_getElem? (i := 15) rfl)
  have l_fieldLink_51 := hts (Cond.fieldLink RX11 51 "HedgeGameModel" "keptBegins" "[I") (List.mem_of_getElem? (i := 17) rfl)
  have l_fieldLink_54 := hts (Cond.fieldLink RX11 54 "HedgeGameModel" "keptWins" "[I") (List.mem_of_getElem? (i := 19) rfl)
  have l_fieldLink_7 := hts (Cond.fieldLink RX11 7 "HedgeGameModel" "kindOf" "[I") (List.mem_of_getElem? (i := 14) rfl)
  have l_fieldLink_83 := hts (Cond.fieldLink RX11 83 "HedgeGameModel" "branches" "I") (List.mem_of_getElem? (i := 1) rfl)
  have l_fieldLink_86 := hts (Cond.fieldLink RX11 86 "HedgeGameModel" "stand" "I") (List.mem_of_getElem? (i := 5) rfl)
  have l_fieldLink_89 := hts (Cond.fieldLink RX11 89 "HedgeGameModel" "turn" "I") (List.mem_of_getElem? (i := 7) rfl)
  have l_fieldLink_92 := hts (Cond.fieldLink RX11 92 "HedgeGameModel" "cuts" "I") (List.mem_of_getElem? (i := 9) rfl)
  have l_fieldLink_95 := hts (Cond.fieldLink RX11 95 "HedgeGameModel" "hedges" "I") (List.mem_of_getElem? (i := 3) rfl)
  have l_fieldLink_98 := hts (Cond.fieldLink RX11 98 "HedgeGameModel" "seen" "I") (List.mem_of_getElem? (i := 11) rfl)
  have tm103 : ((-103 : Int32)).toInt = -103 := rfl
  have t0 : ((0 : Int32)).toInt = 0 := rfl
  have t1 : ((1 : Int32)).toInt = 1 := rfl
  have t6 : ((6 : Int32)).toInt = 6 := rfl
  have t8 : ((8 : Int32)).toInt = 8 := rfl
  refine lv_aload_n hx hb dX11_image_0 rfl (lv_at hl 0 rfl) ?_
  refine va_get (D := D) (ci := 11) (v := .int branches) (C := RX11) (T := TX11) (N := 34) hx hb hts hi_X11 hown hS.1 hX.1 0 rfl rfl 1 (by decide) l_fieldLink_83 (fun _ h9 => h9) rfl dX11_image_1 ?_
  refine lv_if_ne (tgt := 10) hx hb dX11_image_4 (by decide) (fun c4 => ?_) (fun c4 => ?_)
  · have he := he.trans (if_neg c4)
    have d4 := i_ne c4
    refine lv_aload_n hx hb dX11_image_10 rfl (lv_at hl 0 rfl) ?_
    refine lv_iconst (v := (1 : Int32)) hx hb dX11_image_11 (by decide) ?_
    refine va_put (D := D) (ci := 11) (v := .int (1 : Int32)) (ty := .boolean) (C := RX11) (T := TX11) (N := 34) hx hb hts hi_X11 tyX11 tyX11_ok nmX11 hown hS.1 hX.1 hX.2.1 hX.2.2 0 rfl rfl 23 (by decide) l_fieldLink_231 (fun _ h9 => h9) rfl (by decide +kernel) rfl rfl (Nat.le_of_ble_eq_true rfl) dX11_image_12 (fun H locs hP hD hs => ?_)
    have hX : gX D Z s (wM a cA hedges branches stand turn cuts asks seen pageLength isWhole newBranches gameCuts (1 : Int32) keptHedge keptStand keptTurn keptCuts keptSeen seedNow hsh kindOf onOf seenBranch seenBegins seenWins page winner lasting worthBy wonBy keptKind keptBranch keptBegins keptWins partsBy) H locs := ⟨hP, hD, hs⟩
    refine lv_aload_n hx hb dX11_image_15 rfl (lv_at hl 0 rfl) ?_
    refine lv_aload_n hx hb dX11_image_16 rfl (lv_at hl 0 rfl) ?_
    refine va_get (D := D) (ci := 11) (v := .int hedges) (C := RX11) (T := TX11) (N := 34) hx hb hts hi_X11 hown hS.1 hX.1 0 rfl rfl 0 (by decide) l_fieldLink_95 (fun _ h9 => h9) rfl dX11_image_17 ?_
    refine va_put (D := D) (ci := 11) (v := .int hedges) (ty := .int) (C := RX11) (T := TX11) (N := 34) hx hb hts hi_X11 tyX11 tyX11_ok nmX11 hown hS.1 hX.1 hX.2.1 hX.2.2 0 rfl rfl 24 (by decide) l_fieldLink_234 (fun _ h9 => h9) rfl (by decide +kernel) rfl rfl (Nat.le_of_ble_eq_true rfl) dX11_image_20 (fun H locs hP hD hs => ?_)
    have hX : gX D Z s (wM a cA hedges branches stand turn cuts asks seen pageLength isWhole newBranches gameCuts (1 : Int32) hedges keptStand keptTurn keptCuts keptSeen seedNow hsh kindOf onOf seenBranch seenBegins seenWins page winner lasting worthBy wonBy keptKind keptBranch keptBegins keptWins partsBy) H locs := ⟨hP, hD, hs⟩
    refine lv_aload_n hx hb dX11_image_23 rfl (lv_at hl 0 rfl) ?_
    refine lv_aload_n hx hb dX11_image_24 rfl (lv_at hl 0 rfl) ?_
    refine va_get (D := D) (ci := 11) (v := .int stand) (C := RX11) (T := TX11) (N := 34) hx hb hts hi_X11 hown hS.1 hX.1 0 rfl rfl 4 (by decide) l_fieldLink_86 (fun _ h9 => h9) rfl dX11_image_25 ?_
    refine va_put (D := D) (ci := 11) (v := .int stand) (ty := .int) (C := RX11) (T := TX11) (N := 34) hx hb hts hi_X11 tyX11 tyX11_ok nmX11 hown hS.1 hX.1 hX.2.1 hX.2.2 0 rfl rfl 25 (by decide) l_fieldLink_237 (fun _ h9 => h9) rfl (by decide +kernel) rfl rfl (Nat.le_of_ble_eq_true rfl) dX11_image_28 (fun H locs hP hD hs => ?_)
    have hX : gX D Z s (wM a cA hedges branches stand turn cuts asks seen pageLength isWhole newBranches gameCuts (1 : Int32) hedges stand keptTurn keptCuts keptSeen seedNow hsh kindOf onOf seenBranch seenBegins seenWins page winner lasting worthBy wonBy keptKind keptBranch keptBegins keptWins partsBy) H locs := ⟨hP, hD, hs⟩
    refine lv_aload_n hx hb dX11_image_31 rfl (lv_at hl 0 rfl) ?_
    refine lv_aload_n hx hb dX11_image_32 rfl (lv_at hl 0 rfl) ?_
    refine va_get (D := D) (ci := 11) (v := .int turn) (C := RX11) (T := TX11) (N := 34) hx hb hts hi_X11 hown hS.1 hX.1 0 rfl rfl 5 (by decide) l_fieldLink_89 (fun _ h9 => h9) rfl dX11_image_33 ?_
    refine va_put (D := D) (ci := 11) (v := .int turn) (ty := .int) (C := RX11) (T := TX11) (N := 34) hx hb hts hi_X11 tyX11 tyX11_ok nmX11 hown hS.1 hX.1 hX.2.1 hX.2.2 0 rfl rfl 26 (by decide) l_fieldLink_240 (fun _ h9 => h9) rfl (by decide +kernel) rfl rfl (Nat.le_of_ble_eq_true rfl) dX11_image_36 (fun H locs hP hD hs => ?_)
    have hX : gX D Z s (wM a cA hedges branches stand turn cuts asks seen pageLength isWhole newBranches gameCuts (1 : Int32) hedges stand turn keptCuts keptSeen seedNow hsh kindOf onOf seenBranch seenBegins seenWins page winner lasting worthBy wonBy keptKind keptBranch keptBegins keptWins partsBy) H locs := ⟨hP, hD, hs⟩
    refine lv_aload_n hx hb dX11_image_39 rfl (lv_at hl 0 rfl) ?_
    refine lv_aload_n hx hb dX11_image_40 rfl (lv_at hl 0 rfl) ?_
    refine va_get (D := D) (ci := 11) (v := .int cuts) (C := RX11) (T := TX11) (N := 34) hx hb hts hi_X11 hown hS.1 hX.1 0 rfl rfl 6 (by decide) l_fieldLink_92 (fun _ h9 => h9) rfl dX11_image_41 ?_
    refine va_put (D := D) (ci := 11) (v := .int cuts) (ty := .int) (C := RX11) (T := TX11) (N := 34) hx hb hts hi_X11 tyX11 tyX11_ok nmX11 hown hS.1 hX.1 hX.2.1 hX.2.2 0 rfl rfl 27 (by decide) l_fieldLink_243 (fun _ h9 => h9) rfl (by decide +kernel) rfl rfl (Nat.le_of_ble_eq_true rfl) dX11_image_44 (fun H locs hP hD hs => ?_)
    have hX : gX D Z s (wM a cA hedges branches stand turn cuts asks seen pageLength isWhole newBranches gameCuts (1 : Int32) hedges stand turn cuts keptSeen seedNow hsh kindOf onOf seenBranch seenBegins seenWins page winner lasting worthBy wonBy keptKind keptBranch keptBegins keptWins partsBy) H locs := ⟨hP, hD, hs⟩
    refine lv_aload_n hx hb dX11_image_47 rfl (lv_at hl 0 rfl) ?_
    refine lv_aload_n hx hb dX11_image_48 rfl (lv_at hl 0 rfl) ?_
    refine va_get (D := D) (ci := 11) (v := .int seen) (C := RX11) (T := TX11) (N := 34) hx hb hts hi_X11 hown hS.1 hX.1 0 rfl rfl 8 (by decide) l_fieldLink_98 (fun _ h9 => h9) rfl dX11_image_49 ?_
    refine va_put (D := D) (ci := 11) (v := .int seen) (ty := .int) (C := RX11) (T := TX11) (N := 34) hx hb hts hi_X11 tyX11 tyX11_ok nmX11 hown hS.1 hX.1 hX.2.1 hX.2.2 0 rfl rfl 28 (by decide) l_fieldLink_246 (fun _ h9 => h9) rfl (by decide +kernel) rfl rfl (Nat.le_of_ble_eq_true rfl) dX11_image_52 (fun H locs hP hD hs => ?_)
    have hX : gX D Z s (wM a cA hedges branches stand turn cuts asks seen pageLength isWhole newBranches gameCuts (1 : Int32) hedges stand turn cuts seen seedNow hsh kindOf onOf seenBranch seenBegins seenWins page winner lasting worthBy wonBy keptKind keptBranch keptBegins keptWins partsBy) H locs := ⟨hP, hD, hs⟩
    refine lv_iconst (v := (0 : Int32)) hx hb dX11_image_55 (by decide) ?_
    refine lv_istore_n (lv' := [(1, .int (0 : Int32)), (0, .ref (a 0))]) hx hb dX11_image_56 rfl hl (by decide) rfl (fun ls hl => ?_)
    have L57_1 : ∀ (n_57_1 : Nat) (keptKind_2 : Nat → Int32) (x1_3 : Int32), 0 ≤ (x1_3).toInt ∧ (x1_3).toInt ≤ 8 → 8 - (x1_3).toInt < (n_57_1 : Int) → q = f_X11_image_L57 n_57_1 hedges branches stand turn cuts seen (1 : Int32) hedges stand turn cuts seen kindOf seenBranch seenBegins seenWins keptKind_2 keptBranch keptBegins keptWins x1_3 → ∀ (H : Heap) (locs : List Loc) (ls : Array Slot), gX D Z s (wM a cA hedges branches stand turn cuts asks seen pageLength isWhole newBranches gameCuts (1 : Int32) hedges stand turn cuts seen seedNow hsh kindOf onOf seenBranch seenBegins seenWins page winner lasting worthBy wonBy keptKind_2 keptBranch keptBegins keptWins partsBy) H locs → lv_has ls 2 [(0, .ref (a 0)), (1, .int x1_3)] → W p l e rm_X11_image s m args below meth c H locs 0 0 Qz (F0 m 57 ls []) := by
      intro n_57_1
      induction n_57_1 with
      | zero =>
        intro keptKind_2 x1_3 ia ifu _ _ _ _ _ _
        exfalso; omega
      | succ n_57_1 ih_L57_1 =>
        intro keptKind_2 x1_3 ia ifu he H locs ls hX hl
        have he := he.trans f_X11_image_L57_s
        refine lv_iload_n hx hb dX11_image_57 rfl (lv_at hl 1 rfl) ?_
        refine lv_bipush (v := (8 : Int32)) hx hb dX11_image_58 (by decide) ?_
        refine lv_icmp_ge (tgt := 81) hx hb dX11_image_60 (by decide) (fun c60 => ?_) (fun c60 => ?_)
        · have he := he.trans (if_pos c60)
          have d60 := i_le c60
          refine lv_iconst (v := (0 : Int32)) hx hb dX11_image_81 (by decide) ?_
          refine lv_istore_n (lv' := [(1, .int (0 : Int32)), (0, .ref (a 0))]) hx hb dX11_image_82 rfl hl (by decide) rfl (fun ls hl => ?_)
          have L83_4 : ∀ (n_83_4 : Nat) (keptBranch_5 : Nat → Int32) (keptBegins_6 : Nat → Int32) (keptWins_7 : Nat → Int32) (x1_8 : Int32), 0 ≤ (x1_8).toInt ∧ (x1_8).toInt ≤ 6 → 6 - (x1_8).toInt < (n_83_4 : Int) → q = f_X11_image_L83 n_83_4 hedges branches stand turn cuts seen (1 : Int32) hedges stand turn cuts seen kindOf seenBranch seenBegins seenWins keptKind_2 keptBranch_5 keptBegins_6 keptWins_7 x1_8 → ∀ (H : Heap) (locs : List Loc) (ls : Array Slot), gX D Z s (wM a cA hedges branches stand turn cuts asks seen pageLength isWhole newBranches gameCuts (1 : Int32) hedges stand turn cuts seen seedNow hsh kindOf onOf seenBranch seenBegins seenWins page winner lasting worthBy wonBy keptKind_2 keptBranch_5 keptBegins_6 keptWins_7 partsBy) H locs → lv_has ls 2 [(0, .ref (a 0)), (1, .int x1_8)] → W p l e rm_X11_image s m args below meth c H locs 0 0 Qz (F0 m 83 ls []) := by
            intro n_83_4
            induction n_83_4 with
            | zero =>
              intro keptBranch_5 keptBegins_6 keptWins_7 x1_8 ia ifu _ _ _ _ _ _
              exfalso; omega
            | succ n_83_4 ih_L83_4 =>
              intro keptBranch_5 keptBegins_6 keptWins_7 x1_8 ia ifu he H locs ls hX hl
              have he := he.trans f_X11_image_L83_s
              refine lv_iload_n hx hb dX11_image_83 rfl (lv_at hl 1 rfl) ?_
              refine lv_bipush (v := (6 : Int32)) hx hb dX11_image_84 (by decide) ?_
              refine lv_icmp_ge (tgt := 131) hx hb dX11_image_86 (by decide) (fun c86 => ?_) (fun c86 => ?_)
              · have he := he.trans (if_pos c86)
                have d86 := i_le c86
                refine lv_aload_n hx hb dX11_image_131 rfl (lv_at hl 0 rfl) ?_
                refine va_get (D := D) (ci := 11) (v := .int cuts) (C := RX11) (T := TX11) (N := 34) hx hb hts hi_X11 hown hS.1 hX.1 0 rfl rfl 6 (by decide) l_fieldLink_92 (fun _ h9 => h9) rfl dX11_image_132 ?_
                subst he
                exact g_iret hx hb hr hlocks hX hq rfl dX11_image_135
              · have he := he.trans (if_neg c86)
                have d86 := i_nle c86
                refine lv_aload_n hx hb dX11_image_89 rfl (lv_at hl 0 rfl) ?_
                refine va_get (D := D) (ci := 11) (v := .ref (a 13)) (C := RX11) (T := TX11) (N := 34) hx hb hts hi_X11 hown hS.1 hX.1 0 rfl rfl 30 (by decide) l_fieldLink_48 (fun _ h9 => h9) rfl dX11_image_90 ?_
                refine lv_iload_n hx hb dX11_image_93 rfl (lv_at hl 1 rfl) ?_
                refine lv_aload_n hx hb dX11_image_94 rfl (lv_at hl 0 rfl) ?_
                refine va_get (D := D) (ci := 11) (v := .ref (a 3)) (C := RX11) (T := TX11) (N := 34) hx hb hts hi_X11 hown hS.1 hX.1 0 rfl rfl 9 (by decide) l_fieldLink_16 (fun _ h9 => h9) rfl dX11_image_95 ?_
                refine lv_iload_n hx hb dX11_image_98 rfl (lv_at hl 1 rfl) ?_
                refine va_iald hx hb hS.1 hX.1 3 2 rfl rfl (vp_in_iff.mpr (by omega)) dX11_image_99 ?_
                refine va_iast hx hb hS.1 hX.1 hX.2.1 hX.2.2 13 12 rfl rfl (vp_in_iff.mpr (by omega)) dX11_image_100 (fun H locs hP hD hs => ?_)
                have hX : gX D Z s (wM a cA hedges branches stand turn cuts asks seen pageLength isWhole newBranches gameCuts (1 : Int32) hedges stand turn cuts seen seedNow hsh kindOf onOf seenBranch seenBegins seenWins page winner lasting worthBy wonBy keptKind_2 (upd keptBranch_5 (x1_8).toNatClampNeg (seenBranch (x1_8).toNatClampNeg)) keptBegins_6 keptWins_7 partsBy) H locs := ⟨hP, hD, hs⟩
                refine lv_aload_n hx hb dX11_image_101 rfl (lv_at hl 0 rfl) ?_
                refine va_get (D := D) (ci := 11) (v := .ref (a 14)) (C := RX11) (T := TX11) (N := 34) hx hb hts hi_X11 hown hS.1 hX.1 0 rfl rfl 31 (by decide) l_fieldLink_51 (fun _ h9 => h9) rfl dX11_image_102 ?_
                refine lv_iload_n hx hb dX11_image_105 rfl (lv_at hl 1 rfl) ?_
                refine lv_aload_n hx hb dX11_image_106 rfl (lv_at hl 0 rfl) ?_
                refine va_get (D := D) (ci := 11) (v := .ref (a 4)) (C := RX11) (T := TX11) (N := 34) hx hb hts hi_X11 hown hS.1 hX.1 0 rfl rfl 10 (by decide) l_fieldLink_19 (fun _ h9 => h9) rfl dX11_image_107 ?_
                refine lv_iload_n hx hb dX11_image_110 rfl (lv_at hl 1 rfl) ?_
                refine va_iald hx hb hS.1 hX.1 4 3 rfl rfl (vp_in_iff.mpr (by omega)) dX11_image_111 ?_
                refine va_iast hx hb hS.1 hX.1 hX.2.1 hX.2.2 14 13 rfl rfl (vp_in_iff.mpr (by omega)) dX11_image_112 (fun H locs hP hD hs => ?_)
                have hX : gX D Z s (wM a cA hedges branches stand turn cuts asks seen pageLength isWhole newBranches gameCuts (1 : Int32) hedges stand turn cuts seen seedNow hsh kindOf onOf seenBranch seenBegins seenWins page winner lasting worthBy wonBy keptKind_2 (upd keptBranch_5 (x1_8).toNatClampNeg (seenBranch (x1_8).toNatClampNeg)) (upd keptBegins_6 (x1_8).toNatClampNeg (seenBegins (x1_8).toNatClampNeg)) keptWins_7 partsBy) H locs := ⟨hP, hD, hs⟩
                refine lv_aload_n hx hb dX11_image_113 rfl (lv_at hl 0 rfl) ?_
                refine va_get (D := D) (ci := 11) (v := .ref (a 15)) (C := RX11) (T := TX11) (N := 34) hx hb hts hi_X11 hown hS.1 hX.1 0 rfl rfl 32 (by decide) l_fieldLink_54 (fun _ h9 => h9) rfl dX11_image_114 ?_
                refine lv_iload_n hx hb dX11_image_117 rfl (lv_at hl 1 rfl) ?_
                refine lv_aload_n hx hb dX11_image_118 rfl (lv_at hl 0 rfl) ?_
                refine va_get (D := D) (ci := 11) (v := .ref (a 5)) (C := RX11) (T := TX11) (N := 34) hx hb hts hi_X11 hown hS.1 hX.1 0 rfl rfl 11 (by decide) l_fieldLink_22 (fun _ h9 => h9) rfl dX11_image_119 ?_
                refine lv_iload_n hx hb dX11_image_122 rfl (lv_at hl 1 rfl) ?_
                refine va_iald hx hb hS.1 hX.1 5 4 rfl rfl (vp_in_iff.mpr (by omega)) dX11_image_123 ?_
                refine va_iast hx hb hS.1 hX.1 hX.2.1 hX.2.2 15 14 rfl rfl (vp_in_iff.mpr (by omega)) dX11_image_124 (fun H locs hP hD hs => ?_)
                have hX : gX D Z s (wM a cA hedges branches stand turn cuts asks seen pageLength isWhole newBranches gameCuts (1 : Int32) hedges stand turn cuts seen seedNow hsh kindOf onOf seenBranch seenBegins seenWins page winner lasting worthBy wonBy keptKind_2 (upd keptBranch_5 (x1_8).toNatClampNeg (seenBranch (x1_8).toNatClampNeg)) (upd keptBegins_6 (x1_8).toNatClampNeg (seenBegins (x1_8).toNatClampNeg)) (upd keptWins_7 (x1_8).toNatClampNeg (seenWins (x1_8).toNatClampNeg)) partsBy) H locs := ⟨hP, hD, hs⟩
                refine lv_iinc (v := (x1_8 + (1 : Int32))) (lv' := [(1, .int (x1_8 + (1 : Int32))), (0, .ref (a 0))]) hx hb dX11_image_125 hl (k := 1) rfl rfl (by decide) rfl (fun ls hl => ?_)
                have s125 := i_s1 (x := x1_8) (by omega)
                refine lv_goto (tgt := 83) hx hb dX11_image_128 (by decide) ?_
                exact ih_L83_4 (upd keptBranch_5 (x1_8).toNatClampNeg (seenBranch (x1_8).toNatClampNeg)) (upd keptBegins_6 (x1_8).toNatClampNeg (seenBegins (x1_8).toNatClampNeg)) (upd keptWins_7 (x1_8).toNatClampNeg (seenWins (x1_8).toNatClampNeg)) (x1_8 + (1 : Int32)) (by omega) (by omega) he _ _ _ hX (lv_sub hl [1, 0] rfl)
          exact L83_4 7 keptBranch keptBegins keptWins (0 : Int32) (by omega) (by omega) he _ _ _ hX (lv_sub hl [1, 0] rfl)
        · have he := he.trans (if_neg c60)
          have d60 := i_nle c60
          refine lv_aload_n hx hb dX11_image_63 rfl (lv_at hl 0 rfl) ?_
          refine va_get (D := D) (ci := 11) (v := .ref (a 12)) (C := RX11) (T := TX11) (N := 34) hx hb hts hi_X11 hown hS.1 hX.1 0 rfl rfl 29 (by decide) l_fieldLink_45 (fun _ h9 => h9) rfl dX11_image_64 ?_
          refine lv_iload_n hx hb dX11_image_67 rfl (lv_at hl 1 rfl) ?_
          refine lv_aload_n hx hb dX11_image_68 rfl (lv_at hl 0 rfl) ?_
          refine va_get (D := D) (ci := 11) (v := .ref (a 1)) (C := RX11) (T := TX11) (N := 34) hx hb hts hi_X11 hown hS.1 hX.1 0 rfl rfl 2 (by decide) l_fieldLink_7 (fun _ h9 => h9) rfl dX11_image_69 ?_
          refine lv_iload_n hx hb dX11_image_72 rfl (lv_at hl 1 rfl) ?_
          refine va_iald hx hb hS.1 hX.1 1 0 rfl rfl (vp_in_iff.mpr (by omega)) dX11_image_73 ?_
          refine va_iast hx hb hS.1 hX.1 hX.2.1 hX.2.2 12 11 rfl rfl (vp_in_iff.mpr (by omega)) dX11_image_74 (fun H locs hP hD hs => ?_)
          have hX : gX D Z s (wM a cA hedges branches stand turn cuts asks seen pageLength isWhole newBranches gameCuts (1 : Int32) hedges stand turn cuts seen seedNow hsh kindOf onOf seenBranch seenBegins seenWins page winner lasting worthBy wonBy (upd keptKind_2 (x1_3).toNatClampNeg (kindOf (x1_3).toNatClampNeg)) keptBranch keptBegins keptWins partsBy) H locs := ⟨hP, hD, hs⟩
          refine lv_iinc (v := (x1_3 + (1 : Int32))) (lv' := [(1, .int (x1_3 + (1 : Int32))), (0, .ref (a 0))]) hx hb dX11_image_75 hl (k := 1) rfl rfl (by decide) rfl (fun ls hl => ?_)
          have s75 := i_s1 (x := x1_3) (by omega)
          refine lv_goto (tgt := 57) hx hb dX11_image_78 (by decide) ?_
          exact ih_L57_1 (upd keptKind_2 (x1_3).toNatClampNeg (kindOf (x1_3).toNatClampNeg)) (x1_3 + (1 : Int32)) (by omega) (by omega) he _ _ _ hX (lv_sub hl [1, 0] rfl)
    exact L57_1 9 keptKind (0 : Int32) (by omega) (by omega) he _ _ _ hX (lv_sub hl [1, 0] rfl)
  · have he := he.trans (if_pos c4)
    have d4 := i_eq c4
    refine lv_bipush (v := (-103 : Int32)) hx hb dX11_image_7 (by decide) ?_
    subst he
    exact g_iret hx hb hr hlocks hX hq rfl dX11_image_9
abbrev rm_X11_restore : Room := { frames := 0, cells := 0, slots := 0, locals := 0 }
set_option maxHeartbeats 4000000 in
set_option maxRecDepth 100000 in
theorem k_X11_restore {l : Launch} {D : va_G} {E : sE} {a : Nat → Nat} {cA : Nat → ClassId} {hedges : Int32} {branches : Int32} {stand : Int32} {turn : Int32} {cuts : Int32} {asks : Int32} {seen : Int32} {pageLength : Int32} {isWhole : Int32} {newBranches : Int32} {gameCuts : Int32} {isKept : Int32} {keptHedge : Int32} {keptStand : Int32} {keptTurn : Int32} {keptCuts : Int32} {keptSeen : Int32} {seedNow : Int64} {hsh : Int64} {kindOf : Nat → Int32} {onOf : Nat → Int32} {seenBranch : Nat → Int32} {seenBegins : Nat → Int32} {seenWins : Nat → Int32} {page : Nat → Int32} {winner : Nat → Int32} {lasting : Nat → Int32} {worthBy : Nat → Int32} {wonBy : Nat → Int32} {keptKind : Nat → Int32} {keptBranch : Nat → Int32} {keptBegins : Nat → Int32} {keptWins : Nat → Int32} {partsBy : Nat → Int64}   : ∀ q : Int32 × Int32 × Int32 × Int32 × Int32 × (Nat → Int32) × (Nat → Int32) × (Nat → Int32) × (Nat → Int32), q = f_X11_restore hedges stand turn cuts seen isKept keptHedge keptStand keptTurn keptCuts keptSeen kindOf seenBranch seenBegins seenWins keptKind keptBranch keptBegins keptWins → gMi l yX11_restore wsX11_restore rm_X11_restore D E (tM cA) [.ref (a 0)] (wM a cA hedges branches stand turn cuts asks seen pageLength isWhole newBranches gameCuts isKept keptHedge keptStand keptTurn keptCuts keptSeen seedNow hsh kindOf onOf seenBranch seenBegins seenWins page winner lasting worthBy wonBy keptKind keptBranch keptBegins keptWins partsBy) (wM a cA hedges branches q.2.1 q.2.2.1 q.2.2.2.1 asks q.2.2.2.2.1 pageLength isWhole newBranches gameCuts isKept keptHedge keptStand keptTurn keptCuts keptSeen seedNow hsh q.2.2.2.2.2.1 onOf q.2.2.2.2.2.2.1 q.2.2.2.2.2.2.2.1 q.2.2.2.2.2.2.2.2 page winner lasting worthBy wonBy keptKind keptBranch keptBegins keptWins partsBy) q.1 := by
  intro q he0
  refine gM_of (cc := cX11_restore) (maxL := 2) (ret := (some .int)) (Qf := gQi D (wM a cA hedges branches q.2.1 q.2.2.1 q.2.2.2.1 asks q.2.2.2.2.1 pageLength isWhole newBranches gameCuts isKept keptHedge keptStand keptTurn keptCuts keptSeen seedNow hsh q.2.2.2.2.2.1 onOf q.2.2.2.2.2.2.1 q.2.2.2.2.2.2.2.1 q.2.2.2.2.2.2.2.2 page winner lasting worthBy wonBy keptKind keptBranch keptBegins keptWins partsBy) q.1) (by decide) rfl (Nat.le_of_ble_eq_true rfl) ?_
  intro p e s m args below meth c Z ls Qz hx hb hr hml hlocks hown hts hS hX hl hq
  have he := he0.trans f_X11_restore_s
  have hown : s.vm.findClass RX11 = some m.cls := hown
  have hl : lv_has ls 2 [(0, .ref (a 0))] := hl
  have hi_X11 : ∀ w ∈ u_ws RX11 TX11 34, w ∈ wsX11_restore := fun _ h => List.mem_cons_of_mem _ (List.mem_append_right _ h)
  have l_fieldLink_16 := hts (Cond.fieldLink RX11 16 "HedgeGameModel" "seenBranch" "[I") (List.mem_of_getElem? (i := 14) rfl)
  have l_fieldLink_19 := hts (Cond.fieldLink RX11 19 "HedgeGameModel" "seenBegins" "[I") (List.mem_of_getElem? (i := 16) rfl)
  have l_fieldLink_22 := hts (Cond.fieldLink RX11 22 "HedgeGameModel" "seenWins" "[I") (List.mem_of_getElem? (i := 18) rfl)
  have l_fieldLink_231 := hts (Cond.fieldLink RX11 231 "HedgeGameModel" "isKept" "Z") (List.mem_of_getElem? (i := 1) rfl)
  have l_fieldLink_234 := hts (Cond.fieldLink RX11 234 "HedgeGameModel" "keptHedge" "I") (List.mem_of_getElem? (i := 2) rfl)
  have l_fieldLink_237 := hts (Cond.fieldLink RX11 237 "HedgeGameModel" "keptStand" "I") (List.mem_of_getElem? (i := 4) rfl)
  have l_fieldLink_240 := hts (Cond.fieldLink RX11 240 "HedgeGameModel" "keptTurn" "I") (List.mem_of_getElem? (i := 6) rfl)
  have l_fieldLink_243 := hts (Cond.fieldLink RX11 243 "HedgeGameModel" "keptCuts" "I") (List.mem_of_getElem? (i := 8) rfl)
  have l_fieldLink_246 := hts (Cond.fieldLink RX11 246 "HedgeGameModel" "keptSeen" "I") (List.mem_of_getElem? (i := 10) rfl)
  have l_fieldLink_45 := hts (Cond.fieldLink RX11 45 "HedgeGameModel" "keptKind" "[I") (List.mem_of_getElem? (i := 13) rfl)
  have l_fieldLink_48 := hts (Cond.fieldLink RX11 48 "HedgeGameModel" "keptBranch" "[I") (List.mem_of_getElem? (i := 15) rfl)
  have l_fieldLink_51 := hts (Cond.fieldLink RX11 51 "HedgeGameModel" "keptBegins" "[I") (List.mem_of_getElem? (i := 17) rfl)
  have l_fieldLink_54 := hts (Cond.fieldLink RX11 54 "HedgeGameModel" "keptWins" "[I") (List.mem_of_getElem? (i := 19) rfl)
  have l_fieldLink_7 := hts (Cond.fieldLink RX11 7 "HedgeGameModel" "kindOf" "[I") (List.mem_of_getElem? (i := 12) rfl)
  have l_fieldLink_86 := hts (Cond.fieldLink RX11 86 "HedgeGameModel" "stand" "I") (List.mem_of_getElem? (i := 5) rfl)
  have l_fieldLink_89 := hts (Cond.fieldLink RX11 89 "HedgeGameModel" "turn" "I") (List.mem_of_getElem? (i := 7) rfl)
  have l_fieldLink_92 := hts (Cond.fieldLink RX11 92 "HedgeGameModel" "cuts" "I") (List.mem_of_getElem? (i := 9) rfl)
  have l_fieldLink_95 := hts (Cond.fieldLink RX11 95 "HedgeGameModel" "hedges" "I") (List.mem_of_getElem? (i := 3) rfl)
  have l_fieldLink_98 := hts (Cond.fieldLink RX11 98 "HedgeGameModel" "seen" "I") (List.mem_of_getElem? (i := 11) rfl)
  have tm103 : ((-103 : Int32)).toInt = -103 := rfl
  have t0 : ((0 : Int32)).toInt = 0 := rfl
  have t1 : ((1 : Int32)).toInt = 1 := rfl
  have t6 : ((6 : Int32)).toInt = 6 := rfl
  have t8 : ((8 : Int32)).toInt = 8 := rfl
  refine lv_aload_n hx hb dX11_restore_0 rfl (lv_at hl 0 rfl) ?_
  refine va_get (D := D) (ci := 11) (v := .int isKept) (C := RX11) (T := TX11) (N := 34) hx hb hts hi_X11 hown hS.1 hX.1 0 rfl rfl 23 (by decide) l_fieldLink_231 (fun _ h9 => h9) rfl dX11_restore_1 ?_
  refine lv_if_eq (tgt := 18) hx hb dX11_restore_4 (by decide) (fun c4 => ?_) (fun c4 => ?_)
  · have he := he.trans (if_pos c4)
    have d4 := i_eq c4
    refine lv_bipush (v := (-103 : Int32)) hx hb dX11_restore_18 (by decide) ?_
    subst he
    exact g_iret hx hb hr hlocks hX hq rfl dX11_restore_20
  · have he := he.trans (if_neg c4)
    have d4 := i_ne c4
    refine lv_aload_n hx hb dX11_restore_7 rfl (lv_at hl 0 rfl) ?_
    refine va_get (D := D) (ci := 11) (v := .int keptHedge) (C := RX11) (T := TX11) (N := 34) hx hb hts hi_X11 hown hS.1 hX.1 0 rfl rfl 24 (by decide) l_fieldLink_234 (fun _ h9 => h9) rfl dX11_restore_8 ?_
    refine lv_aload_n hx hb dX11_restore_11 rfl (lv_at hl 0 rfl) ?_
    refine va_get (D := D) (ci := 11) (v := .int hedges) (C := RX11) (T := TX11) (N := 34) hx hb hts hi_X11 hown hS.1 hX.1 0 rfl rfl 0 (by decide) l_fieldLink_95 (fun _ h9 => h9) rfl dX11_restore_12 ?_
    refine lv_icmp_eq (tgt := 21) hx hb dX11_restore_15 (by decide) (fun c15 => ?_) (fun c15 => ?_)
    · have he := he.trans (if_pos c15)
      have d15 := i_eq c15
      refine lv_aload_n hx hb dX11_restore_21 rfl (lv_at hl 0 rfl) ?_
      refine lv_aload_n hx hb dX11_restore_22 rfl (lv_at hl 0 rfl) ?_
      refine va_get (D := D) (ci := 11) (v := .int keptStand) (C := RX11) (T := TX11) (N := 34) hx hb hts hi_X11 hown hS.1 hX.1 0 rfl rfl 25 (by decide) l_fieldLink_237 (fun _ h9 => h9) rfl dX11_restore_23 ?_
      refine va_put (D := D) (ci := 11) (v := .int keptStand) (ty := .int) (C := RX11) (T := TX11) (N := 34) hx hb hts hi_X11 tyX11 tyX11_ok nmX11 hown hS.1 hX.1 hX.2.1 hX.2.2 0 rfl rfl 4 (by decide) l_fieldLink_86 (fun _ h9 => h9) rfl (by decide +kernel) rfl rfl (Nat.le_of_ble_eq_true rfl) dX11_restore_26 (fun H locs hP hD hs => ?_)
      have hX : gX D Z s (wM a cA hedges branches keptStand turn cuts asks seen pageLength isWhole newBranches gameCuts isKept keptHedge keptStand keptTurn keptCuts keptSeen seedNow hsh kindOf onOf seenBranch seenBegins seenWins page winner lasting worthBy wonBy keptKind keptBranch keptBegins keptWins partsBy) H locs := ⟨hP, hD, hs⟩
      refine lv_aload_n hx hb dX11_restore_29 rfl (lv_at hl 0 rfl) ?_
      refine lv_aload_n hx hb dX11_restore_30 rfl (lv_at hl 0 rfl) ?_
      refine va_get (D := D) (ci := 11) (v := .int keptTurn) (C := RX11) (T := TX11) (N := 34) hx hb hts hi_X11 hown hS.1 hX.1 0 rfl rfl 26 (by decide) l_fieldLink_240 (fun _ h9 => h9) rfl dX11_restore_31 ?_
      refine va_put (D := D) (ci := 11) (v := .int keptTurn) (ty := .int) (C := RX11) (T := TX11) (N := 34) hx hb hts hi_X11 tyX11 tyX11_ok nmX11 hown hS.1 hX.1 hX.2.1 hX.2.2 0 rfl rfl 5 (by decide) l_fieldLink_89 (fun _ h9 => h9) rfl (by decide +kernel) rfl rfl (Nat.le_of_ble_eq_true rfl) dX11_restore_34 (fun H locs hP hD hs => ?_)
      have hX : gX D Z s (wM a cA hedges branches keptStand keptTurn cuts asks seen pageLength isWhole newBranches gameCuts isKept keptHedge keptStand keptTurn keptCuts keptSeen seedNow hsh kindOf onOf seenBranch seenBegins seenWins page winner lasting worthBy wonBy keptKind keptBranch keptBegins keptWins partsBy) H locs := ⟨hP, hD, hs⟩
      refine lv_aload_n hx hb dX11_restore_37 rfl (lv_at hl 0 rfl) ?_
      refine lv_aload_n hx hb dX11_restore_38 rfl (lv_at hl 0 rfl) ?_
      refine va_get (D := D) (ci := 11) (v := .int keptCuts) (C := RX11) (T := TX11) (N := 34) hx hb hts hi_X11 hown hS.1 hX.1 0 rfl rfl 27 (by decide) l_fieldLink_243 (fun _ h9 => h9) rfl dX11_restore_39 ?_
      refine va_put (D := D) (ci := 11) (v := .int keptCuts) (ty := .int) (C := RX11) (T := TX11) (N := 34) hx hb hts hi_X11 tyX11 tyX11_ok nmX11 hown hS.1 hX.1 hX.2.1 hX.2.2 0 rfl rfl 6 (by decide) l_fieldLink_92 (fun _ h9 => h9) rfl (by decide +kernel) rfl rfl (Nat.le_of_ble_eq_true rfl) dX11_restore_42 (fun H locs hP hD hs => ?_)
      have hX : gX D Z s (wM a cA hedges branches keptStand keptTurn keptCuts asks seen pageLength isWhole newBranches gameCuts isKept keptHedge keptStand keptTurn keptCuts keptSeen seedNow hsh kindOf onOf seenBranch seenBegins seenWins page winner lasting worthBy wonBy keptKind keptBranch keptBegins keptWins partsBy) H locs := ⟨hP, hD, hs⟩
      refine lv_aload_n hx hb dX11_restore_45 rfl (lv_at hl 0 rfl) ?_
      refine lv_aload_n hx hb dX11_restore_46 rfl (lv_at hl 0 rfl) ?_
      refine va_get (D := D) (ci := 11) (v := .int keptSeen) (C := RX11) (T := TX11) (N := 34) hx hb hts hi_X11 hown hS.1 hX.1 0 rfl rfl 28 (by decide) l_fieldLink_246 (fun _ h9 => h9) rfl dX11_restore_47 ?_
      refine va_put (D := D) (ci := 11) (v := .int keptSeen) (ty := .int) (C := RX11) (T := TX11) (N := 34) hx hb hts hi_X11 tyX11 tyX11_ok nmX11 hown hS.1 hX.1 hX.2.1 hX.2.2 0 rfl rfl 8 (by decide) l_fieldLink_98 (fun _ h9 => h9) rfl (by decide +kernel) rfl rfl (Nat.le_of_ble_eq_true rfl) dX11_restore_50 (fun H locs hP hD hs => ?_)
      have hX : gX D Z s (wM a cA hedges branches keptStand keptTurn keptCuts asks keptSeen pageLength isWhole newBranches gameCuts isKept keptHedge keptStand keptTurn keptCuts keptSeen seedNow hsh kindOf onOf seenBranch seenBegins seenWins page winner lasting worthBy wonBy keptKind keptBranch keptBegins keptWins partsBy) H locs := ⟨hP, hD, hs⟩
      refine lv_iconst (v := (0 : Int32)) hx hb dX11_restore_53 (by decide) ?_
      refine lv_istore_n (lv' := [(1, .int (0 : Int32)), (0, .ref (a 0))]) hx hb dX11_restore_54 rfl hl (by decide) rfl (fun ls hl => ?_)
      have L55_1 : ∀ (n_55_1 : Nat) (kindOf_2 : Nat → Int32) (x1_3 : Int32), 0 ≤ (x1_3).toInt ∧ (x1_3).toInt ≤ 8 → 8 - (x1_3).toInt < (n_55_1 : Int) → q = f_X11_restore_L55 n_55_1 hedges keptStand keptTurn keptCuts keptSeen isKept keptHedge keptStand keptTurn keptCuts keptSeen kindOf_2 seenBranch seenBegins seenWins keptKind keptBranch keptBegins keptWins x1_3 → ∀ (H : Heap) (locs : List Loc) (ls : Array Slot), gX D Z s (wM a cA hedges branches keptStand keptTurn keptCuts asks keptSeen pageLength isWhole newBranches gameCuts isKept keptHedge keptStand keptTurn keptCuts keptSeen seedNow hsh kindOf_2 onOf seenBranch seenBegins seenWins page winner lasting worthBy wonBy keptKind keptBranch keptBegins keptWins partsBy) H locs → lv_has ls 2 [(0, .ref (a 0)), (1, .int x1_3)] → W p l e rm_X11_restore s m args below meth c H locs 0 0 Qz (F0 m 55 ls []) := by
        intro n_55_1
        induction n_55_1 with
        | zero =>
          intro kindOf_2 x1_3 ia ifu _ _ _ _ _ _
          exfalso; omega
        | succ n_55_1 ih_L55_1 =>
          intro kindOf_2 x1_3 ia ifu he H locs ls hX hl
          have he := he.trans f_X11_restore_L55_s
          refine lv_iload_n hx hb dX11_restore_55 rfl (lv_at hl 1 rfl) ?_
          refine lv_bipush (v := (8 : Int32)) hx hb dX11_restore_56 (by decide) ?_
          refine lv_icmp_ge (tgt := 79) hx hb dX11_restore_58 (by decide) (fun c58 => ?_) (fun c58 => ?_)
          · have he := he.trans (if_pos c58)
            have d58 := i_le c58
            refine lv_iconst (v := (0 : Int32)) hx hb dX11_restore_79 (by decide) ?_
            refine lv_istore_n (lv' := [(1, .int (0 : Int32)), (0, .ref (a 0))]) hx hb dX11_restore_80 rfl hl (by decide) rfl (fun ls hl => ?_)
            have L81_4 : ∀ (n_81_4 : Nat) (seenBranch_5 : Nat → Int32) (seenBegins_6 : Nat → Int32) (seenWins_7 : Nat → Int32) (x1_8 : Int32), 0 ≤ (x1_8).toInt ∧ (x1_8).toInt ≤ 6 → 6 - (x1_8).toInt < (n_81_4 : Int) → q = f_X11_restore_L81 n_81_4 hedges keptStand keptTurn keptCuts keptSeen isKept keptHedge keptStand keptTurn keptCuts keptSeen kindOf_2 seenBranch_5 seenBegins_6 seenWins_7 keptKind keptBranch keptBegins keptWins x1_8 → ∀ (H : Heap) (locs : List Loc) (ls : Array Slot), gX D Z s (wM a cA hedges branches keptStand keptTurn keptCuts asks keptSeen pageLength isWhole newBranches gameCuts isKept keptHedge keptStand keptTurn keptCuts keptSeen seedNow hsh kindOf_2 onOf seenBranch_5 seenBegins_6 seenWins_7 page winner lasting worthBy wonBy keptKind keptBranch keptBegins keptWins partsBy) H locs → lv_has ls 2 [(0, .ref (a 0)), (1, .int x1_8)] → W p l e rm_X11_restore s m args below meth c H locs 0 0 Qz (F0 m 81 ls []) := by
              intro n_81_4
              induction n_81_4 with
              | zero =>
                intro seenBranch_5 seenBegins_6 seenWins_7 x1_8 ia ifu _ _ _ _ _ _
                exfalso; omega
              | succ n_81_4 ih_L81_4 =>
                intro seenBranch_5 seenBegins_6 seenWins_7 x1_8 ia ifu he H locs ls hX hl
                have he := he.trans f_X11_restore_L81_s
                refine lv_iload_n hx hb dX11_restore_81 rfl (lv_at hl 1 rfl) ?_
                refine lv_bipush (v := (6 : Int32)) hx hb dX11_restore_82 (by decide) ?_
                refine lv_icmp_ge (tgt := 129) hx hb dX11_restore_84 (by decide) (fun c84 => ?_) (fun c84 => ?_)
                · have he := he.trans (if_pos c84)
                  have d84 := i_le c84
                  refine lv_aload_n hx hb dX11_restore_129 rfl (lv_at hl 0 rfl) ?_
                  refine va_get (D := D) (ci := 11) (v := .int keptCuts) (C := RX11) (T := TX11) (N := 34) hx hb hts hi_X11 hown hS.1 hX.1 0 rfl rfl 6 (by decide) l_fieldLink_92 (fun _ h9 => h9) rfl dX11_restore_130 ?_
                  subst he
                  exact g_iret hx hb hr hlocks hX hq rfl dX11_restore_133
                · have he := he.trans (if_neg c84)
                  have d84 := i_nle c84
                  refine lv_aload_n hx hb dX11_restore_87 rfl (lv_at hl 0 rfl) ?_
                  refine va_get (D := D) (ci := 11) (v := .ref (a 3)) (C := RX11) (T := TX11) (N := 34) hx hb hts hi_X11 hown hS.1 hX.1 0 rfl rfl 9 (by decide) l_fieldLink_16 (fun _ h9 => h9) rfl dX11_restore_88 ?_
                  refine lv_iload_n hx hb dX11_restore_91 rfl (lv_at hl 1 rfl) ?_
                  refine lv_aload_n hx hb dX11_restore_92 rfl (lv_at hl 0 rfl) ?_
                  refine va_get (D := D) (ci := 11) (v := .ref (a 13)) (C := RX11) (T := TX11) (N := 34) hx hb hts hi_X11 hown hS.1 hX.1 0 rfl rfl 30 (by decide) l_fieldLink_48 (fun _ h9 => h9) rfl dX11_restore_93 ?_
                  refine lv_iload_n hx hb dX11_restore_96 rfl (lv_at hl 1 rfl) ?_
                  refine va_iald hx hb hS.1 hX.1 13 12 rfl rfl (vp_in_iff.mpr (by omega)) dX11_restore_97 ?_
                  refine va_iast hx hb hS.1 hX.1 hX.2.1 hX.2.2 3 2 rfl rfl (vp_in_iff.mpr (by omega)) dX11_restore_98 (fun H locs hP hD hs => ?_)
                  have hX : gX D Z s (wM a cA hedges branches keptStand keptTurn keptCuts asks keptSeen pageLength isWhole newBranches gameCuts isKept keptHedge keptStand keptTurn keptCuts keptSeen seedNow hsh kindOf_2 onOf (upd seenBranch_5 (x1_8).toNatClampNeg (keptBranch (x1_8).toNatClampNeg)) seenBegins_6 seenWins_7 page winner lasting worthBy wonBy keptKind keptBranch keptBegins keptWins partsBy) H locs := ⟨hP, hD, hs⟩
                  refine lv_aload_n hx hb dX11_restore_99 rfl (lv_at hl 0 rfl) ?_
                  refine va_get (D := D) (ci := 11) (v := .ref (a 4)) (C := RX11) (T := TX11) (N := 34) hx hb hts hi_X11 hown hS.1 hX.1 0 rfl rfl 10 (by decide) l_fieldLink_19 (fun _ h9 => h9) rfl dX11_restore_100 ?_
                  refine lv_iload_n hx hb dX11_restore_103 rfl (lv_at hl 1 rfl) ?_
                  refine lv_aload_n hx hb dX11_restore_104 rfl (lv_at hl 0 rfl) ?_
                  refine va_get (D := D) (ci := 11) (v := .ref (a 14)) (C := RX11) (T := TX11) (N := 34) hx hb hts hi_X11 hown hS.1 hX.1 0 rfl rfl 31 (by decide) l_fieldLink_51 (fun _ h9 => h9) rfl dX11_restore_105 ?_
                  refine lv_iload_n hx hb dX11_restore_108 rfl (lv_at hl 1 rfl) ?_
                  refine va_iald hx hb hS.1 hX.1 14 13 rfl rfl (vp_in_iff.mpr (by omega)) dX11_restore_109 ?_
                  refine va_iast hx hb hS.1 hX.1 hX.2.1 hX.2.2 4 3 rfl rfl (vp_in_iff.mpr (by omega)) dX11_restore_110 (fun H locs hP hD hs => ?_)
                  have hX : gX D Z s (wM a cA hedges branches keptStand keptTurn keptCuts asks keptSeen pageLength isWhole newBranches gameCuts isKept keptHedge keptStand keptTurn keptCuts keptSeen seedNow hsh kindOf_2 onOf (upd seenBranch_5 (x1_8).toNatClampNeg (keptBranch (x1_8).toNatClampNeg)) (upd seenBegins_6 (x1_8).toNatClampNeg (keptBegins (x1_8).toNatClampNeg)) seenWins_7 page winner lasting worthBy wonBy keptKind keptBranch keptBegins keptWins partsBy) H locs := ⟨hP, hD, hs⟩
                  refine lv_aload_n hx hb dX11_restore_111 rfl (lv_at hl 0 rfl) ?_
                  refine va_get (D := D) (ci := 11) (v := .ref (a 5)) (C := RX11) (T := TX11) (N := 34) hx hb hts hi_X11 hown hS.1 hX.1 0 rfl rfl 11 (by decide) l_fieldLink_22 (fun _ h9 => h9) rfl dX11_restore_112 ?_
                  refine lv_iload_n hx hb dX11_restore_115 rfl (lv_at hl 1 rfl) ?_
                  refine lv_aload_n hx hb dX11_restore_116 rfl (lv_at hl 0 rfl) ?_
                  refine va_get (D := D) (ci := 11) (v := .ref (a 15)) (C := RX11) (T := TX11) (N := 34) hx hb hts hi_X11 hown hS.1 hX.1 0 rfl rfl 32 (by decide) l_fieldLink_54 (fun _ h9 => h9) rfl dX11_restore_117 ?_
                  refine lv_iload_n hx hb dX11_restore_120 rfl (lv_at hl 1 rfl) ?_
                  refine va_iald hx hb hS.1 hX.1 15 14 rfl rfl (vp_in_iff.mpr (by omega)) dX11_restore_121 ?_
                  refine va_iast hx hb hS.1 hX.1 hX.2.1 hX.2.2 5 4 rfl rfl (vp_in_iff.mpr (by omega)) dX11_restore_122 (fun H locs hP hD hs => ?_)
                  have hX : gX D Z s (wM a cA hedges branches keptStand keptTurn keptCuts asks keptSeen pageLength isWhole newBranches gameCuts isKept keptHedge keptStand keptTurn keptCuts keptSeen seedNow hsh kindOf_2 onOf (upd seenBranch_5 (x1_8).toNatClampNeg (keptBranch (x1_8).toNatClampNeg)) (upd seenBegins_6 (x1_8).toNatClampNeg (keptBegins (x1_8).toNatClampNeg)) (upd seenWins_7 (x1_8).toNatClampNeg (keptWins (x1_8).toNatClampNeg)) page winner lasting worthBy wonBy keptKind keptBranch keptBegins keptWins partsBy) H locs := ⟨hP, hD, hs⟩
                  refine lv_iinc (v := (x1_8 + (1 : Int32))) (lv' := [(1, .int (x1_8 + (1 : Int32))), (0, .ref (a 0))]) hx hb dX11_restore_123 hl (k := 1) rfl rfl (by decide) rfl (fun ls hl => ?_)
                  have s123 := i_s1 (x := x1_8) (by omega)
                  refine lv_goto (tgt := 81) hx hb dX11_restore_126 (by decide) ?_
                  exact ih_L81_4 (upd seenBranch_5 (x1_8).toNatClampNeg (keptBranch (x1_8).toNatClampNeg)) (upd seenBegins_6 (x1_8).toNatClampNeg (keptBegins (x1_8).toNatClampNeg)) (upd seenWins_7 (x1_8).toNatClampNeg (keptWins (x1_8).toNatClampNeg)) (x1_8 + (1 : Int32)) (by omega) (by omega) he _ _ _ hX (lv_sub hl [1, 0] rfl)
            exact L81_4 7 seenBranch seenBegins seenWins (0 : Int32) (by omega) (by omega) he _ _ _ hX (lv_sub hl [1, 0] rfl)
          · have he := he.trans (if_neg c58)
            have d58 := i_nle c58
            refine lv_aload_n hx hb dX11_restore_61 rfl (lv_at hl 0 rfl) ?_
            refine va_get (D := D) (ci := 11) (v := .ref (a 1)) (C := RX11) (T := TX11) (N := 34) hx hb hts hi_X11 hown hS.1 hX.1 0 rfl rfl 2 (by decide) l_fieldLink_7 (fun _ h9 => h9) rfl dX11_restore_62 ?_
            refine lv_iload_n hx hb dX11_restore_65 rfl (lv_at hl 1 rfl) ?_
            refine lv_aload_n hx hb dX11_restore_66 rfl (lv_at hl 0 rfl) ?_
            refine va_get (D := D) (ci := 11) (v := .ref (a 12)) (C := RX11) (T := TX11) (N := 34) hx hb hts hi_X11 hown hS.1 hX.1 0 rfl rfl 29 (by decide) l_fieldLink_45 (fun _ h9 => h9) rfl dX11_restore_67 ?_
            refine lv_iload_n hx hb dX11_restore_70 rfl (lv_at hl 1 rfl) ?_
            refine va_iald hx hb hS.1 hX.1 12 11 rfl rfl (vp_in_iff.mpr (by omega)) dX11_restore_71 ?_
            refine va_iast hx hb hS.1 hX.1 hX.2.1 hX.2.2 1 0 rfl rfl (vp_in_iff.mpr (by omega)) dX11_restore_72 (fun H locs hP hD hs => ?_)
            have hX : gX D Z s (wM a cA hedges branches keptStand keptTurn keptCuts asks keptSeen pageLength isWhole newBranches gameCuts isKept keptHedge keptStand keptTurn keptCuts keptSeen seedNow hsh (upd kindOf_2 (x1_3).toNatClampNeg (keptKind (x1_3).toNatClampNeg)) onOf seenBranch seenBegins seenWins page winner lasting worthBy wonBy keptKind keptBranch keptBegins keptWins partsBy) H locs := ⟨hP, hD, hs⟩
            refine lv_iinc (v := (x1_3 + (1 : Int32))) (lv' := [(1, .int (x1_3 + (1 : Int32))), (0, .ref (a 0))]) hx hb dX11_restore_73 hl (k := 1) rfl rfl (by decide) rfl (fun ls hl => ?_)
            have s73 := i_s1 (x := x1_3) (by omega)
            refine lv_goto (tgt := 55) hx hb dX11_restore_76 (by decide) ?_
            exact ih_L55_1 (upd kindOf_2 (x1_3).toNatClampNeg (keptKind (x1_3).toNatClampNeg)) (x1_3 + (1 : Int32)) (by omega) (by omega) he _ _ _ hX (lv_sub hl [1, 0] rfl)
      exact L55_1 9 kindOf (0 : Int32) (by omega) (by omega) he _ _ _ hX (lv_sub hl [1, 0] rfl)
    · have he := he.trans (if_neg c15)
      have d15 := i_ne c15
      refine lv_bipush (v := (-103 : Int32)) hx hb dX11_restore_18 (by decide) ?_
      subst he
      exact g_iret hx hb hr hlocks hX hq rfl dX11_restore_20
abbrev rm_X11_onGround : Room := { frames := 0, cells := 0, slots := 0, locals := 0 }
set_option maxHeartbeats 4000000 in
set_option maxRecDepth 100000 in
theorem k_X11_onGround {l : Launch} {D : va_G} {E : sE} {a : Nat → Nat} {cA : Nat → ClassId} {hedges : Int32} {branches : Int32} {stand : Int32} {turn : Int32} {cuts : Int32} {asks : Int32} {seen : Int32} {pageLength : Int32} {isWhole : Int32} {newBranches : Int32} {gameCuts : Int32} {isKept : Int32} {keptHedge : Int32} {keptStand : Int32} {keptTurn : Int32} {keptCuts : Int32} {keptSeen : Int32} {seedNow : Int64} {hsh : Int64} {kindOf : Nat → Int32} {onOf : Nat → Int32} {seenBranch : Nat → Int32} {seenBegins : Nat → Int32} {seenWins : Nat → Int32} {page : Nat → Int32} {winner : Nat → Int32} {lasting : Nat → Int32} {worthBy : Nat → Int32} {wonBy : Nat → Int32} {keptKind : Nat → Int32} {keptBranch : Nat → Int32} {keptBegins : Nat → Int32} {keptWins : Nat → Int32} {partsBy : Nat → Int64}  (hbr : 0 ≤ (branches).toInt ∧ (branches).toInt ≤ 8) : ∀ q : Int32, q = f_X11_onGround branches onOf → gMi l yX11_onGround wsX11_onGround rm_X11_onGround D E (tM cA) [.ref (a 0)] (wM a cA hedges branches stand turn cuts asks seen pageLength isWhole newBranches gameCuts isKept keptHedge keptStand keptTurn keptCuts keptSeen seedNow hsh kindOf onOf seenBranch seenBegins seenWins page winner lasting worthBy wonBy keptKind keptBranch keptBegins keptWins partsBy) (wM a cA hedges branches stand turn cuts asks seen pageLength isWhole newBranches gameCuts isKept keptHedge keptStand keptTurn keptCuts keptSeen seedNow hsh kindOf onOf seenBranch seenBegins seenWins page winner lasting worthBy wonBy keptKind keptBranch keptBegins keptWins partsBy) q := by
  intro q he0
  refine gM_of (cc := cX11_onGround) (maxL := 3) (ret := (some .int)) (Qf := gQi D (wM a cA hedges branches stand turn cuts asks seen pageLength isWhole newBranches gameCuts isKept keptHedge keptStand keptTurn keptCuts keptSeen seedNow hsh kindOf onOf seenBranch seenBegins seenWins page winner lasting worthBy wonBy keptKind keptBranch keptBegins keptWins partsBy) q) (by decide) rfl (Nat.le_of_ble_eq_true rfl) ?_
  intro p e s m args below meth c Z ls Qz hx hb hr hml hlocks hown hts hS hX hl hq
  have he := he0.trans f_X11_onGround_s
  have hown : s.vm.findClass RX11 = some m.cls := hown
  have hl : lv_has ls 3 [(0, .ref (a 0))] := hl
  have hi_X11 : ∀ w ∈ u_ws RX11 TX11 34, w ∈ wsX11_onGround := fun _ h => List.mem_cons_of_mem _ (List.mem_append_right _ h)
  have l_fieldLink_13 := hts (Cond.fieldLink RX11 13 "HedgeGameModel" "onOf" "[I") (List.mem_of_getElem? (i := 2) rfl)
  have l_fieldLink_83 := hts (Cond.fieldLink RX11 83 "HedgeGameModel" "branches" "I") (List.mem_of_getElem? (i := 1) rfl)
  have tm1 : ((-1 : Int32)).toInt = -1 := rfl
  have t0 : ((0 : Int32)).toInt = 0 := rfl
  have t1 : ((1 : Int32)).toInt = 1 := rfl
  refine lv_iconst (v := (0 : Int32)) hx hb dX11_onGround_0 (by decide) ?_
  refine lv_istore_n (lv' := [(1, .int (0 : Int32)), (0, .ref (a 0))]) hx hb dX11_onGround_1 rfl hl (by decide) rfl (fun ls hl => ?_)
  refine lv_iconst (v := (0 : Int32)) hx hb dX11_onGround_2 (by decide) ?_
  refine lv_istore_n (lv' := [(2, .int (0 : Int32)), (1, .int (0 : Int32)), (0, .ref (a 0))]) hx hb dX11_onGround_3 rfl hl (by decide) rfl (fun ls hl => ?_)
  have L4_1 : ∀ (n_4_1 : Nat) (x1_2 : Int32) (x2_3 : Int32), 0 ≤ (x2_3).toInt ∧ (x2_3).toInt ≤ 8 → 8 - (x2_3).toInt < (n_4_1 : Int) → q = f_X11_onGround_L4 n_4_1 branches onOf x1_2 x2_3 → ∀ (H : Heap) (locs : List Loc) (ls : Array Slot), gX D Z s (wM a cA hedges branches stand turn cuts asks seen pageLength isWhole newBranches gameCuts isKept keptHedge keptStand keptTurn keptCuts keptSeen seedNow hsh kindOf onOf seenBranch seenBegins seenWins page winner lasting worthBy wonBy keptKind keptBranch keptBegins keptWins partsBy) H locs → lv_has ls 3 [(0, .ref (a 0)), (1, .int x1_2), (2, .int x2_3)] → W p l e rm_X11_onGround s m args below meth c H locs 0 0 Qz (F0 m 4 ls []) := by
    intro n_4_1
    induction n_4_1 with
    | zero =>
      intro x1_2 x2_3 ia ifu _ _ _ _ _ _
      exfalso; omega
    | succ n_4_1 ih_L4_1 =>
      intro x1_2 x2_3 ia ifu he H locs ls hX hl
      have he := he.trans f_X11_onGround_L4_s
      refine lv_iload_n hx hb dX11_onGround_4 rfl (lv_at hl 2 rfl) ?_
      refine lv_aload_n hx hb dX11_onGround_5 rfl (lv_at hl 0 rfl) ?_
      refine va_get (D := D) (ci := 11) (v := .int branches) (C := RX11) (T := TX11) (N := 34) hx hb hts hi_X11 hown hS.1 hX.1 0 rfl rfl 1 (by decide) l_fieldLink_83 (fun _ h9 => h9) rfl dX11_onGround_6 ?_
      refine lv_icmp_ge (tgt := 36) hx hb dX11_onGround_9 (by decide) (fun c9 => ?_) (fun c9 => ?_)
      · have he := he.trans (if_pos c9)
        have d9 := i_le c9
        refine lv_iload_n hx hb dX11_onGround_36 rfl (lv_at hl 1 rfl) ?_
        subst he
        exact g_iret hx hb hr hlocks hX hq rfl dX11_onGround_37
      · have he := he.trans (if_neg c9)
        have d9 := i_nle c9
        refine lv_iload_n hx hb dX11_onGround_12 rfl (lv_at hl 1 rfl) ?_
        refine lv_aload_n hx hb dX11_onGround_13 rfl (lv_at hl 0 rfl) ?_
        refine va_get (D := D) (ci := 11) (v := .ref (a 2)) (C := RX11) (T := TX11) (N := 34) hx hb hts hi_X11 hown hS.1 hX.1 0 rfl rfl 3 (by decide) l_fieldLink_13 (fun _ h9 => h9) rfl dX11_onGround_14 ?_
        refine lv_iload_n hx hb dX11_onGround_17 rfl (lv_at hl 2 rfl) ?_
        refine va_iald hx hb hS.1 hX.1 2 1 rfl rfl (vp_in_iff.mpr (by omega)) dX11_onGround_18 ?_
        refine lv_iconst (v := (-1 : Int32)) hx hb dX11_onGround_19 (by decide) ?_
        refine lv_icmp_ne (tgt := 27) hx hb dX11_onGround_20 (by decide) (fun c20 => ?_) (fun c20 => ?_)
        · have he := he.trans (if_neg c20)
          have d20 := i_ne c20
          refine lv_iconst (v := (0 : Int32)) hx hb dX11_onGround_27 (by decide) ?_
          refine lv_iadd hx hb dX11_onGround_28 ?_
          refine lv_istore_n (lv' := [(1, .int (x1_2 + (0 : Int32))), (0, .ref (a 0)), (2, .int x2_3)]) hx hb dX11_onGround_29 rfl hl (by decide) rfl (fun ls hl => ?_)
          refine lv_iinc (v := (x2_3 + (1 : Int32))) (lv' := [(2, .int (x2_3 + (1 : Int32))), (1, .int (x1_2 + (0 : Int32))), (0, .ref (a 0))]) hx hb dX11_onGround_30 hl (k := 2) rfl rfl (by decide) rfl (fun ls hl => ?_)
          have s30 := i_s1 (x := x2_3) (by omega)
          refine lv_goto (tgt := 4) hx hb dX11_onGround_33 (by decide) ?_
          exact ih_L4_1 (x1_2 + (0 : Int32)) (x2_3 + (1 : Int32)) (by omega) (by omega) he _ _ _ hX (lv_sub hl [2, 1, 0] rfl)
        · have he := he.trans (if_pos c20)
          have d20 := i_eq c20
          refine lv_iconst (v := (1 : Int32)) hx hb dX11_onGround_23 (by decide) ?_
          refine lv_goto (tgt := 28) hx hb dX11_onGround_24 (by decide) ?_
          refine lv_iadd hx hb dX11_onGround_28 ?_
          refine lv_istore_n (lv' := [(1, .int (x1_2 + (1 : Int32))), (0, .ref (a 0)), (2, .int x2_3)]) hx hb dX11_onGround_29 rfl hl (by decide) rfl (fun ls hl => ?_)
          refine lv_iinc (v := (x2_3 + (1 : Int32))) (lv' := [(2, .int (x2_3 + (1 : Int32))), (1, .int (x1_2 + (1 : Int32))), (0, .ref (a 0))]) hx hb dX11_onGround_30 hl (k := 2) rfl rfl (by decide) rfl (fun ls hl => ?_)
          have s30 := i_s1 (x := x2_3) (by omega)
          refine lv_goto (tgt := 4) hx hb dX11_onGround_33 (by decide) ?_
          exact ih_L4_1 (x1_2 + (1 : Int32)) (x2_3 + (1 : Int32)) (by omega) (by omega) he _ _ _ hX (lv_sub hl [2, 1, 0] rfl)
  exact L4_1 9 (0 : Int32) (0 : Int32) (by omega) (by omega) he _ _ _ hX (lv_sub hl [2, 1, 0] rfl)
abbrev rm_X11_howMany : Room := { frames := 4, cells := 0, slots := 0, locals := 92 }
set_option maxHeartbeats 4000000 in
set_option maxRecDepth 100000 in
theorem k_X11_howMany {l : Launch} {D : va_G} {E : sE} {a : Nat → Nat} {cA : Nat → ClassId} {hedges : Int32} {branches : Int32} {stand : Int32} {turn : Int32} {cuts : Int32} {asks : Int32} {seen : Int32} {pageLength : Int32} {isWhole : Int32} {newBranches : Int32} {gameCuts : Int32} {isKept : Int32} {keptHedge : Int32} {keptStand : Int32} {keptTurn : Int32} {keptCuts : Int32} {keptSeen : Int32} {seedNow : Int64} {hsh : Int64} {kindOf : Nat → Int32} {onOf : Nat → Int32} {seenBranch : Nat → Int32} {seenBegins : Nat → Int32} {seenWins : Nat → Int32} {page : Nat → Int32} {winner : Nat → Int32} {lasting : Nat → Int32} {worthBy : Nat → Int32} {wonBy : Nat → Int32} {keptKind : Nat → Int32} {keptBranch : Nat → Int32} {keptBegins : Nat → Int32} {keptWins : Nat → Int32} {partsBy : Nat → Int64} (p1 : Int32) (hbr : 0 ≤ (branches).toInt ∧ (branches).toInt ≤ 8) : ∀ q : Int32, q = f_X11_howMany hedges branches stand turn cuts asks seen pageLength kindOf onOf p1 → gMi l yX11_howMany wsX11_howMany rm_X11_howMany D E (tM cA) [.ref (a 0), .int p1] (wM a cA hedges branches stand turn cuts asks seen pageLength isWhole newBranches gameCuts isKept keptHedge keptStand keptTurn keptCuts keptSeen seedNow hsh kindOf onOf seenBranch seenBegins seenWins page winner lasting worthBy wonBy keptKind keptBranch keptBegins keptWins partsBy) (wM a cA hedges branches stand turn cuts asks seen pageLength isWhole newBranches gameCuts isKept keptHedge keptStand keptTurn keptCuts keptSeen seedNow hsh kindOf onOf seenBranch seenBegins seenWins page winner lasting worthBy wonBy keptKind keptBranch keptBegins keptWins partsBy) q := by
  intro q he0
  refine gM_of (cc := cX11_howMany) (maxL := 2) (ret := (some .int)) (Qf := gQi D (wM a cA hedges branches stand turn cuts asks seen pageLength isWhole newBranches gameCuts isKept keptHedge keptStand keptTurn keptCuts keptSeen seedNow hsh kindOf onOf seenBranch seenBegins seenWins page winner lasting worthBy wonBy keptKind keptBranch keptBegins keptWins partsBy) q) (by decide) rfl (Nat.le_of_ble_eq_true rfl) ?_
  intro p e s m args below meth c Z ls Qz hx hb hr hml hlocks hown hts hS hX hl hq
  have he := he0.trans f_X11_howMany_s
  have hown : s.vm.findClass RX11 = some m.cls := hown
  have hl : lv_has ls 2 [(0, .ref (a 0)), (1, .int p1)] := hl
  have hi_X11 : ∀ w ∈ u_ws RX11 TX11 34, w ∈ wsX11_howMany := fun _ h => List.mem_cons_of_mem _ (List.mem_append_right _ h)
  have l_fieldLink_176 := hts (Cond.fieldLink RX11 176 "HedgeGameModel" "asks" "I") (List.mem_of_getElem? (i := 8) rfl)
  have l_fieldLink_61 := hts (Cond.fieldLink RX11 61 "HedgeGameModel" "pageLength" "I") (List.mem_of_getElem? (i := 6) rfl)
  have l_fieldLink_83 := hts (Cond.fieldLink RX11 83 "HedgeGameModel" "branches" "I") (List.mem_of_getElem? (i := 1) rfl)
  have l_fieldLink_86 := hts (Cond.fieldLink RX11 86 "HedgeGameModel" "stand" "I") (List.mem_of_getElem? (i := 2) rfl)
  have l_fieldLink_89 := hts (Cond.fieldLink RX11 89 "HedgeGameModel" "turn" "I") (List.mem_of_getElem? (i := 3) rfl)
  have l_fieldLink_92 := hts (Cond.fieldLink RX11 92 "HedgeGameModel" "cuts" "I") (List.mem_of_getElem? (i := 4) rfl)
  have l_fieldLink_95 := hts (Cond.fieldLink RX11 95 "HedgeGameModel" "hedges" "I") (List.mem_of_getElem? (i := 7) rfl)
  have l_fieldLink_98 := hts (Cond.fieldLink RX11 98 "HedgeGameModel" "seen" "I") (List.mem_of_getElem? (i := 5) rfl)
  have tm102 : ((-102 : Int32)).toInt = -102 := rfl
  have t0 : ((0 : Int32)).toInt = 0 := rfl
  have t1 : ((1 : Int32)).toInt = 1 := rfl
  have t4 : ((4 : Int32)).toInt = 4 := rfl
  refine lv_iload_n hx hb dX11_howMany_0 rfl (lv_at hl 1 rfl) ?_
  by_cases q1_0 : p1 = (0 : Int32)
  · have he := he.trans (if_pos q1_0)
    refine lv_tableIn (tgt := 60) (off := 59) hx hb dX11_howMany_1 (by rw [q1_0]; decide) (by rw [q1_0]; decide) (by rw [q1_0]; rfl) (by decide) ?_
    refine lv_aload_n hx hb dX11_howMany_60 rfl (lv_at hl 0 rfl) ?_
    refine va_get (D := D) (ci := 11) (v := .int branches) (C := RX11) (T := TX11) (N := 34) hx hb hts hi_X11 hown hS.1 hX.1 0 rfl rfl 1 (by decide) l_fieldLink_83 (fun _ h9 => h9) rfl dX11_howMany_61 ?_
    subst he
    exact g_iret hx hb hr hlocks hX hq rfl dX11_howMany_64
  · have he := he.trans (if_neg q1_0)
    by_cases q1_1 : p1 = (1 : Int32)
    · have he := he.trans (if_pos q1_1)
      refine lv_tableIn (tgt := 65) (off := 64) hx hb dX11_howMany_1 (by rw [q1_1]; decide) (by rw [q1_1]; decide) (by rw [q1_1]; rfl) (by decide) ?_
      refine lv_aload_n hx hb dX11_howMany_65 rfl (lv_at hl 0 rfl) ?_
      refine va_get (D := D) (ci := 11) (v := .int stand) (C := RX11) (T := TX11) (N := 34) hx hb hts hi_X11 hown hS.1 hX.1 0 rfl rfl 4 (by decide) l_fieldLink_86 (fun _ h9 => h9) rfl dX11_howMany_66 ?_
      obtain ⟨r_1, e69⟩ : ∃ z, z = (f_X11_size stand) := ⟨_, rfl⟩
      rw [← e69] at he
      refine g_Si (r := r_1) (As := [.int stand]) (rest := []) ⟨hx, hb, hml, hown, hts⟩ hS hX (k_X11_size stand r_1 e69) (va_cwS 1 hts gX11_howMany_X11_size rfl rfl rfl (by decide +kernel) ⟨Nat.le_of_ble_eq_true rfl, Nat.le_of_ble_eq_true rfl⟩) rfl hl.1 rfl (Nat.le_of_ble_eq_true rfl) dX11_howMany_69 ⟨Nat.zero_le _, Nat.zero_le _⟩ (fun H locs hX => ?_)
      subst he
      exact g_iret hx hb hr hlocks hX hq rfl dX11_howMany_72
    · have he := he.trans (if_neg q1_1)
      by_cases q1_2 : p1 = (2 : Int32)
      · have he := he.trans (if_pos q1_2)
        refine lv_tableIn (tgt := 73) (off := 72) hx hb dX11_howMany_1 (by rw [q1_2]; decide) (by rw [q1_2]; decide) (by rw [q1_2]; rfl) (by decide) ?_
        refine lv_aload_n hx hb dX11_howMany_73 rfl (lv_at hl 0 rfl) ?_
        refine va_get (D := D) (ci := 11) (v := .int turn) (C := RX11) (T := TX11) (N := 34) hx hb hts hi_X11 hown hS.1 hX.1 0 rfl rfl 5 (by decide) l_fieldLink_89 (fun _ h9 => h9) rfl dX11_howMany_74 ?_
        subst he
        exact g_iret hx hb hr hlocks hX hq rfl dX11_howMany_77
      · have he := he.trans (if_neg q1_2)
        by_cases q1_3 : p1 = (3 : Int32)
        · have he := he.trans (if_pos q1_3)
          refine lv_tableIn (tgt := 78) (off := 77) hx hb dX11_howMany_1 (by rw [q1_3]; decide) (by rw [q1_3]; decide) (by rw [q1_3]; rfl) (by decide) ?_
          refine lv_aload_n hx hb dX11_howMany_78 rfl (lv_at hl 0 rfl) ?_
          refine va_get (D := D) (ci := 11) (v := .int cuts) (C := RX11) (T := TX11) (N := 34) hx hb hts hi_X11 hown hS.1 hX.1 0 rfl rfl 6 (by decide) l_fieldLink_92 (fun _ h9 => h9) rfl dX11_howMany_79 ?_
          subst he
          exact g_iret hx hb hr hlocks hX hq rfl dX11_howMany_82
        · have he := he.trans (if_neg q1_3)
          by_cases q1_4 : p1 = (4 : Int32)
          · have he := he.trans (if_pos q1_4)
            refine lv_tableIn (tgt := 83) (off := 82) hx hb dX11_howMany_1 (by rw [q1_4]; decide) (by rw [q1_4]; decide) (by rw [q1_4]; rfl) (by decide) ?_
            refine lv_aload_n hx hb dX11_howMany_83 rfl (lv_at hl 0 rfl) ?_
            refine lv_iload_n hx hb dX11_howMany_84 rfl (lv_at hl 1 rfl) ?_
            refine lv_iconst (v := (4 : Int32)) hx hb dX11_howMany_85 (by decide) ?_
            refine lv_isub hx hb dX11_howMany_86 ?_
            refine lv_aload_n hx hb dX11_howMany_87 rfl (lv_at hl 0 rfl) ?_
            refine va_get (D := D) (ci := 11) (v := .int stand) (C := RX11) (T := TX11) (N := 34) hx hb hts hi_X11 hown hS.1 hX.1 0 rfl rfl 4 (by decide) l_fieldLink_86 (fun _ h9 => h9) rfl dX11_howMany_88 ?_
            obtain ⟨r_2, e91⟩ : ∃ z, z = (f_X11_mayCuts branches kindOf onOf (p1 - (4 : Int32)) stand) := ⟨_, rfl⟩
            rw [← e91] at he
            refine g_Vi (r := r_2) (As := [.int (p1 - (4 : Int32)), .int stand]) (rest := []) (ci := 11) (q0 := 0) ⟨hx, hb, hml, hown, hts⟩ hS hX (k_X11_mayCuts (p1 - (4 : Int32)) stand (by omega) r_2 e91) (cwV 2 hts gX11_howMany_X11_mayCuts rfl rfl rfl (by decide +kernel) ⟨Nat.le_of_ble_eq_true rfl, Nat.le_of_ble_eq_true rfl⟩) rfl rfl rfl hl.1 rfl (Nat.le_of_ble_eq_true rfl) dX11_howMany_91 ⟨Nat.zero_le _, Nat.zero_le _⟩ (fun H locs hX => ?_)
            obtain ⟨r_3, e94⟩ : ∃ z, z = (f_X11_size r_2) := ⟨_, rfl⟩
            rw [← e94] at he
            refine g_Si (r := r_3) (As := [.int r_2]) (rest := []) ⟨hx, hb, hml, hown, hts⟩ hS hX (k_X11_size r_2 r_3 e94) (va_cwS 1 hts gX11_howMany_X11_size rfl rfl rfl (by decide +kernel) ⟨Nat.le_of_ble_eq_true rfl, Nat.le_of_ble_eq_true rfl⟩) rfl hl.1 rfl (Nat.le_of_ble_eq_true rfl) dX11_howMany_94 ⟨Nat.zero_le _, Nat.zero_le _⟩ (fun H locs hX => ?_)
            subst he
            exact g_iret hx hb hr hlocks hX hq rfl dX11_howMany_97
          · have he := he.trans (if_neg q1_4)
            by_cases q1_5 : p1 = (5 : Int32)
            · have he := he.trans (if_pos q1_5)
              refine lv_tableIn (tgt := 83) (off := 82) hx hb dX11_howMany_1 (by rw [q1_5]; decide) (by rw [q1_5]; decide) (by rw [q1_5]; rfl) (by decide) ?_
              refine lv_aload_n hx hb dX11_howMany_83 rfl (lv_at hl 0 rfl) ?_
              refine lv_iload_n hx hb dX11_howMany_84 rfl (lv_at hl 1 rfl) ?_
              refine lv_iconst (v := (4 : Int32)) hx hb dX11_howMany_85 (by decide) ?_
              refine lv_isub hx hb dX11_howMany_86 ?_
              refine lv_aload_n hx hb dX11_howMany_87 rfl (lv_at hl 0 rfl) ?_
              refine va_get (D := D) (ci := 11) (v := .int stand) (C := RX11) (T := TX11) (N := 34) hx hb hts hi_X11 hown hS.1 hX.1 0 rfl rfl 4 (by decide) l_fieldLink_86 (fun _ h9 => h9) rfl dX11_howMany_88 ?_
              obtain ⟨r_4, e91⟩ : ∃ z, z = (f_X11_mayCuts branches kindOf onOf (p1 - (4 : Int32)) stand) := ⟨_, rfl⟩
              rw [← e91] at he
              refine g_Vi (r := r_4) (As := [.int (p1 - (4 : Int32)), .int stand]) (rest := []) (ci := 11) (q0 := 0) ⟨hx, hb, hml, hown, hts⟩ hS hX (k_X11_mayCuts (p1 - (4 : Int32)) stand (by omega) r_4 e91) (cwV 2 hts gX11_howMany_X11_mayCuts rfl rfl rfl (by decide +kernel) ⟨Nat.le_of_ble_eq_true rfl, Nat.le_of_ble_eq_true rfl⟩) rfl rfl rfl hl.1 rfl (Nat.le_of_ble_eq_true rfl) dX11_howMany_91 ⟨Nat.zero_le _, Nat.zero_le _⟩ (fun H locs hX => ?_)
              obtain ⟨r_5, e94⟩ : ∃ z, z = (f_X11_size r_4) := ⟨_, rfl⟩
              rw [← e94] at he
              refine g_Si (r := r_5) (As := [.int r_4]) (rest := []) ⟨hx, hb, hml, hown, hts⟩ hS hX (k_X11_size r_4 r_5 e94) (va_cwS 1 hts gX11_howMany_X11_size rfl rfl rfl (by decide +kernel) ⟨Nat.le_of_ble_eq_true rfl, Nat.le_of_ble_eq_true rfl⟩) rfl hl.1 rfl (Nat.le_of_ble_eq_true rfl) dX11_howMany_94 ⟨Nat.zero_le _, Nat.zero_le _⟩ (fun H locs hX => ?_)
              subst he
              exact g_iret hx hb hr hlocks hX hq rfl dX11_howMany_97
            · have he := he.trans (if_neg q1_5)
              by_cases q1_6 : p1 = (6 : Int32)
              · have he := he.trans (if_pos q1_6)
                refine lv_tableIn (tgt := 98) (off := 97) hx hb dX11_howMany_1 (by rw [q1_6]; decide) (by rw [q1_6]; decide) (by rw [q1_6]; rfl) (by decide) ?_
                refine lv_aload_n hx hb dX11_howMany_98 rfl (lv_at hl 0 rfl) ?_
                obtain ⟨r_6, e99⟩ : ∃ z, z = (f_X11_onGround branches onOf) := ⟨_, rfl⟩
                rw [← e99] at he
                refine g_Vi (r := r_6) (As := []) (rest := []) (ci := 11) (q0 := 0) ⟨hx, hb, hml, hown, hts⟩ hS hX (k_X11_onGround (by omega) r_6 e99) (cwV 0 hts gX11_howMany_X11_onGround rfl rfl rfl (by decide +kernel) ⟨Nat.le_of_ble_eq_true rfl, Nat.le_of_ble_eq_true rfl⟩) rfl rfl rfl hl.1 rfl (Nat.le_of_ble_eq_true rfl) dX11_howMany_99 ⟨Nat.zero_le _, Nat.zero_le _⟩ (fun H locs hX => ?_)
                subst he
                exact g_iret hx hb hr hlocks hX hq rfl dX11_howMany_102
              · have he := he.trans (if_neg q1_6)
                by_cases q1_7 : p1 = (7 : Int32)
                · have he := he.trans (if_pos q1_7)
                  refine lv_tableIn (tgt := 103) (off := 102) hx hb dX11_howMany_1 (by rw [q1_7]; decide) (by rw [q1_7]; decide) (by rw [q1_7]; rfl) (by decide) ?_
                  refine lv_aload_n hx hb dX11_howMany_103 rfl (lv_at hl 0 rfl) ?_
                  refine va_get (D := D) (ci := 11) (v := .int seen) (C := RX11) (T := TX11) (N := 34) hx hb hts hi_X11 hown hS.1 hX.1 0 rfl rfl 8 (by decide) l_fieldLink_98 (fun _ h9 => h9) rfl dX11_howMany_104 ?_
                  subst he
                  exact g_iret hx hb hr hlocks hX hq rfl dX11_howMany_107
                · have he := he.trans (if_neg q1_7)
                  by_cases q1_8 : p1 = (8 : Int32)
                  · have he := he.trans (if_pos q1_8)
                    refine lv_tableIn (tgt := 108) (off := 107) hx hb dX11_howMany_1 (by rw [q1_8]; decide) (by rw [q1_8]; decide) (by rw [q1_8]; rfl) (by decide) ?_
                    refine lv_aload_n hx hb dX11_howMany_108 rfl (lv_at hl 0 rfl) ?_
                    refine va_get (D := D) (ci := 11) (v := .int pageLength) (C := RX11) (T := TX11) (N := 34) hx hb hts hi_X11 hown hS.1 hX.1 0 rfl rfl 12 (by decide) l_fieldLink_61 (fun _ h9 => h9) rfl dX11_howMany_109 ?_
                    subst he
                    exact g_iret hx hb hr hlocks hX hq rfl dX11_howMany_112
                  · have he := he.trans (if_neg q1_8)
                    by_cases q1_9 : p1 = (9 : Int32)
                    · have he := he.trans (if_pos q1_9)
                      refine lv_tableIn (tgt := 113) (off := 112) hx hb dX11_howMany_1 (by rw [q1_9]; decide) (by rw [q1_9]; decide) (by rw [q1_9]; rfl) (by decide) ?_
                      refine lv_aload_n hx hb dX11_howMany_113 rfl (lv_at hl 0 rfl) ?_
                      refine va_get (D := D) (ci := 11) (v := .int hedges) (C := RX11) (T := TX11) (N := 34) hx hb hts hi_X11 hown hS.1 hX.1 0 rfl rfl 0 (by decide) l_fieldLink_95 (fun _ h9 => h9) rfl dX11_howMany_114 ?_
                      subst he
                      exact g_iret hx hb hr hlocks hX hq rfl dX11_howMany_117
                    · have he := he.trans (if_neg q1_9)
                      by_cases q1_10 : p1 = (10 : Int32)
                      · have he := he.trans (if_pos q1_10)
                        refine lv_tableIn (tgt := 118) (off := 117) hx hb dX11_howMany_1 (by rw [q1_10]; decide) (by rw [q1_10]; decide) (by rw [q1_10]; rfl) (by decide) ?_
                        refine lv_aload_n hx hb dX11_howMany_118 rfl (lv_at hl 0 rfl) ?_
                        refine va_get (D := D) (ci := 11) (v := .int asks) (C := RX11) (T := TX11) (N := 34) hx hb hts hi_X11 hown hS.1 hX.1 0 rfl rfl 7 (by decide) l_fieldLink_176 (fun _ h9 => h9) rfl dX11_howMany_119 ?_
                        subst he
                        exact g_iret hx hb hr hlocks hX hq rfl dX11_howMany_122
                      · have he := he.trans (if_neg q1_10)
                        have hne : p1.toInt < 0 ∨ 10 < p1.toInt := by
                          have z0 := i_ne q1_0
                          have y0 : ((0 : Int32)).toInt = 0 := rfl
                          have z1 := i_ne q1_1
                          have y1 : ((1 : Int32)).toInt = 1 := rfl
                          have z2 := i_ne q1_2
                          have y2 : ((2 : Int32)).toInt = 2 := rfl
                          have z3 := i_ne q1_3
                          have y3 : ((3 : Int32)).toInt = 3 := rfl
                          have z4 := i_ne q1_4
                          have y4 : ((4 : Int32)).toInt = 4 := rfl
                          have z5 := i_ne q1_5
                          have y5 : ((5 : Int32)).toInt = 5 := rfl
                          have z6 := i_ne q1_6
                          have y6 : ((6 : Int32)).toInt = 6 := rfl
                          have z7 := i_ne q1_7
                          have y7 : ((7 : Int32)).toInt = 7 := rfl
                          have z8 := i_ne q1_8
                          have y8 : ((8 : Int32)).toInt = 8 := rfl
                          have z9 := i_ne q1_9
                          have y9 : ((9 : Int32)).toInt = 9 := rfl
                          have z10 := i_ne q1_10
                          have y10 : ((10 : Int32)).toInt = 10 := rfl
                          omega
                        refine lv_tableOut (tgt := 123) hx hb dX11_howMany_1 hne (by decide) ?_
                        refine lv_bipush (v := (-102 : Int32)) hx hb dX11_howMany_123 (by decide) ?_
                        subst he
                        exact g_iret hx hb hr hlocks hX hq rfl dX11_howMany_125
abbrev rm_X11_count : Room := { frames := 5, cells := 0, slots := 0, locals := 113 }
set_option maxHeartbeats 4000000 in
set_option maxRecDepth 100000 in
theorem k_X11_count {l : Launch} {D : va_G} {E : sE} {a : Nat → Nat} {cA : Nat → ClassId} {hedges : Int32} {branches : Int32} {stand : Int32} {turn : Int32} {cuts : Int32} {asks : Int32} {seen : Int32} {pageLength : Int32} {isWhole : Int32} {newBranches : Int32} {gameCuts : Int32} {isKept : Int32} {keptHedge : Int32} {keptStand : Int32} {keptTurn : Int32} {keptCuts : Int32} {keptSeen : Int32} {seedNow : Int64} {hsh : Int64} {kindOf : Nat → Int32} {onOf : Nat → Int32} {seenBranch : Nat → Int32} {seenBegins : Nat → Int32} {seenWins : Nat → Int32} {page : Nat → Int32} {winner : Nat → Int32} {lasting : Nat → Int32} {worthBy : Nat → Int32} {wonBy : Nat → Int32} {keptKind : Nat → Int32} {keptBranch : Nat → Int32} {keptBegins : Nat → Int32} {keptWins : Nat → Int32} {partsBy : Nat → Int64} (p1 : Int32) (hbr : 0 ≤ (branches).toInt ∧ (branches).toInt ≤ 8) : ∀ q : Int32, q = f_X11_count hedges branches stand turn cuts asks seen pageLength kindOf onOf p1 → gMi l yX11_count wsX11_count rm_X11_count D E (tM cA) [.ref (a 0), .int p1] (wM a cA hedges branches stand turn cuts asks seen pageLength isWhole newBranches gameCuts isKept keptHedge keptStand keptTurn keptCuts keptSeen seedNow hsh kindOf onOf seenBranch seenBegins seenWins page winner lasting worthBy wonBy keptKind keptBranch keptBegins keptWins partsBy) (wM a cA hedges branches stand turn cuts asks seen pageLength isWhole newBranches gameCuts isKept keptHedge keptStand keptTurn keptCuts keptSeen seedNow hsh kindOf onOf seenBranch seenBegins seenWins page winner lasting worthBy wonBy keptKind keptBranch keptBegins keptWins partsBy) q := by
  intro q he0
  refine gM_of (cc := cX11_count) (maxL := 2) (ret := (some .int)) (Qf := gQi D (wM a cA hedges branches stand turn cuts asks seen pageLength isWhole newBranches gameCuts isKept keptHedge keptStand keptTurn keptCuts keptSeen seedNow hsh kindOf onOf seenBranch seenBegins seenWins page winner lasting worthBy wonBy keptKind keptBranch keptBegins keptWins partsBy) q) (by decide) rfl (Nat.le_of_ble_eq_true rfl) ?_
  intro p e s m args below meth c Z ls Qz hx hb hr hml hlocks hown hts hS hX hl hq
  have he := he0.trans f_X11_count_s
  have hown : s.vm.findClass RX11 = some m.cls := hown
  have hl : lv_has ls 2 [(0, .ref (a 0)), (1, .int p1)] := hl
  have t0 : ((0 : Int32)).toInt = 0 := rfl
  have t1 : ((1 : Int32)).toInt = 1 := rfl
  refine lv_aload_n hx hb dX11_count_0 rfl (lv_at hl 0 rfl) ?_
  refine lv_iload_n hx hb dX11_count_1 rfl (lv_at hl 1 rfl) ?_
  obtain ⟨r_1, e2⟩ : ∃ z, z = (f_X11_howMany hedges branches stand turn cuts asks seen pageLength kindOf onOf p1) := ⟨_, rfl⟩
  rw [← e2] at he
  refine g_Vi (r := r_1) (As := [.int p1]) (rest := []) (ci := 11) (q0 := 0) ⟨hx, hb, hml, hown, hts⟩ hS hX (k_X11_howMany p1 (by omega) r_1 e2) (cwV 1 hts gX11_count_X11_howMany rfl rfl rfl (by decide +kernel) ⟨Nat.le_of_ble_eq_true rfl, Nat.le_of_ble_eq_true rfl⟩) rfl rfl rfl hl.1 rfl (Nat.le_of_ble_eq_true rfl) dX11_count_2 ⟨Nat.zero_le _, Nat.zero_le _⟩ (fun H locs hX => ?_)
  subst he
  exact g_iret hx hb hr hlocks hX hq rfl dX11_count_5
abbrev rm_X11_mix : Room := { frames := 0, cells := 0, slots := 0, locals := 0 }
set_option maxHeartbeats 4000000 in
set_option maxRecDepth 100000 in
theorem k_X11_mix {l : Launch} {D : va_G} {E : sE} {a : Nat → Nat} {cA : Nat → ClassId} {hedges : Int32} {branches : Int32} {stand : Int32} {turn : Int32} {cuts : Int32} {asks : Int32} {seen : Int32} {pageLength : Int32} {isWhole : Int32} {newBranches : Int32} {gameCuts : Int32} {isKept : Int32} {keptHedge : Int32} {keptStand : Int32} {keptTurn : Int32} {keptCuts : Int32} {keptSeen : Int32} {seedNow : Int64} {hsh : Int64} {kindOf : Nat → Int32} {onOf : Nat → Int32} {seenBranch : Nat → Int32} {seenBegins : Nat → Int32} {seenWins : Nat → Int32} {page : Nat → Int32} {winner : Nat → Int32} {lasting : Nat → Int32} {worthBy : Nat → Int32} {wonBy : Nat → Int32} {keptKind : Nat → Int32} {keptBranch : Nat → Int32} {keptBegins : Nat → Int32} {keptWins : Nat → Int32} {partsBy : Nat → Int64} (p1 : Int64)  : ∀ q : Int64, q = f_X11_mix hsh p1 → gMv l yX11_mix wsX11_mix rm_X11_mix D E (tM cA) [.ref (a 0), .long p1] (wM a cA hedges branches stand turn cuts asks seen pageLength isWhole newBranches gameCuts isKept keptHedge keptStand keptTurn keptCuts keptSeen seedNow hsh kindOf onOf seenBranch seenBegins seenWins page winner lasting worthBy wonBy keptKind keptBranch keptBegins keptWins partsBy) (wM a cA hedges branches stand turn cuts asks seen pageLength isWhole newBranches gameCuts isKept keptHedge keptStand keptTurn keptCuts keptSeen seedNow q kindOf onOf seenBranch seenBegins seenWins page winner lasting worthBy wonBy keptKind keptBranch keptBegins keptWins partsBy) := by
  intro q he0
  refine gM_of (cc := cX11_mix) (maxL := 3) (ret := none) (Qf := gQv D (wM a cA hedges branches stand turn cuts asks seen pageLength isWhole newBranches gameCuts isKept keptHedge keptStand keptTurn keptCuts keptSeen seedNow q kindOf onOf seenBranch seenBegins seenWins page winner lasting worthBy wonBy keptKind keptBranch keptBegins keptWins partsBy)) (by decide) rfl (Nat.le_of_ble_eq_true rfl) ?_
  intro p e s m args below meth c Z ls Qz hx hb hr hml hlocks hown hts hS hX hl hq
  have he := he0.trans f_X11_mix_s
  have hown : s.vm.findClass RX11 = some m.cls := hown
  have hl : lv_has ls 3 [(0, .ref (a 0)), (1, .long p1)] := hl
  have hi_X11 : ∀ w ∈ u_ws RX11 TX11 34, w ∈ wsX11_mix := fun _ h => List.mem_cons_of_mem _ (List.mem_append_right _ h)
  have l_constantLong_255 := hts (Cond.constantLong RX11 255 (31)) (List.mem_of_getElem? (i := 1) rfl)
  have l_fieldLink_257 := hts (Cond.fieldLink RX11 257 "HedgeGameModel" "h" "J") (List.mem_of_getElem? (i := 2) rfl)
  have t0 : ((0 : Int32)).toInt = 0 := rfl
  have t1 : ((1 : Int32)).toInt = 1 := rfl
  refine lv_aload_n hx hb dX11_mix_0 rfl (lv_at hl 0 rfl) ?_
  refine lv_ldc2 (v := (31 : Int64)) hx hb hown l_constantLong_255 dX11_mix_1 ?_
  refine lv_aload_n hx hb dX11_mix_4 rfl (lv_at hl 0 rfl) ?_
  refine va_get (D := D) (ci := 11) (v := .long hsh) (C := RX11) (T := TX11) (N := 34) hx hb hts hi_X11 hown hS.1 hX.1 0 rfl rfl 33 (by decide) l_fieldLink_257 (fun _ h9 => h9) rfl dX11_mix_5 ?_
  refine lv_lmul hx hb dX11_mix_8 ?_
  refine lv_lload_n hx hb dX11_mix_9 rfl (lv_at hl 1 rfl) ?_
  refine lv_ladd hx hb dX11_mix_10 ?_
  refine va_put (D := D) (ci := 11) (v := .long (((31 : Int64) * hsh) + p1)) (ty := .long) (C := RX11) (T := TX11) (N := 34) hx hb hts hi_X11 tyX11 tyX11_ok nmX11 hown hS.1 hX.1 hX.2.1 hX.2.2 0 rfl rfl 33 (by decide) l_fieldLink_257 (fun _ h9 => h9) rfl (by decide +kernel) rfl rfl (Nat.le_of_ble_eq_true rfl) dX11_mix_11 (fun H locs hP hD hs => ?_)
  have hX : gX D Z s (wM a cA hedges branches stand turn cuts asks seen pageLength isWhole newBranches gameCuts isKept keptHedge keptStand keptTurn keptCuts keptSeen seedNow (((31 : Int64) * hsh) + p1) kindOf onOf seenBranch seenBegins seenWins page winner lasting worthBy wonBy keptKind keptBranch keptBegins keptWins partsBy) H locs := ⟨hP, hD, hs⟩
  subst he
  exact g_vret hx hb hr hlocks hX hq dX11_mix_14
