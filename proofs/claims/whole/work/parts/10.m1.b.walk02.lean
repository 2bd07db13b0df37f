abbrev rm_X11_sortsOf : Room := { frames := 6, cells := 0, slots := 0, locals := 135 }
set_option maxHeartbeats 4000000 in
set_option maxRecDepth 100000 in
theorem k_X11_sortsOf {l : Launch} {D : va_G} {E : sE} {a : Nat → Nat} {cA : Nat → ClassId} {hedges : Int32} {branches : Int32} {stand : Int32} {turn : Int32} {cuts : Int32} {asks : Int32} {seen : Int32} {pageLength : Int32} {isWhole : Int32} {newBranches : Int32} {gameCuts : Int32} {isKept : Int32} {keptHedge : Int32} {keptStand : Int32} {keptTurn : Int32} {keptCuts : Int32} {keptSeen : Int32} {seedNow : Int64} {hsh : Int64} {kindOf : Nat → Int32} {onOf : Nat → Int32} {seenBranch : Nat → Int32} {seenBegins : Nat → Int32} {seenWins : Nat → Int32} {page : Nat → Int32} {winner : Nat → Int32} {lasting : Nat → Int32} {worthBy : Nat → Int32} {wonBy : Nat → Int32} {keptKind : Nat → Int32} {keptBranch : Nat → Int32} {keptBegins : Nat → Int32} {keptWins : Nat → Int32} {partsBy : Nat → Int64} (p1 : Int32) (hbr : 0 ≤ (branches).toInt ∧ (branches).toInt ≤ 8) (hst : 0 ≤ (stand).toInt ∧ (stand).toInt < 256) (hse : 0 ≤ (seen).toInt ∧ (seen).toInt ≤ 6) (hsb : ∀ k : Nat, (k : Int) < (seen).toInt → 0 ≤ (seenBegins k).toInt ∧ (seenBegins k).toInt ≤ 1) (hbx : 0 ≤ (p1).toInt ∧ (p1).toInt < 8) : ∀ q : Int32 × (Nat → Int32) × (Nat → Int32) × (Nat → Int32), q = f_X11_sortsOf branches stand seen kindOf onOf seenBranch seenBegins seenWins winner wonBy p1 → gMi l yX11_sortsOf wsX11_sortsOf rm_X11_sortsOf D E (tM cA) [.ref (a 0), .int p1] (wM a cA hedges branches stand turn cuts asks seen pageLength isWhole newBranches gameCuts isKept keptHedge keptStand keptTurn keptCuts keptSeen seedNow hsh kindOf onOf seenBranch seenBegins seenWins page winner lasting worthBy wonBy keptKind keptBranch keptBegins keptWins partsBy) (wM a cA hedges branches stand turn cuts asks seen pageLength isWhole newBranches gameCuts isKept keptHedge keptStand keptTurn keptCuts keptSeen seedNow hsh q.2.1 onOf seenBranch seenBegins seenWins page q.2.2.1 lasting worthBy q.2.2.2 keptKind keptBranch keptBegins keptWins partsBy) q.1 := by
  intro q he0
  refine gM_of (cc := cX11_sortsOf) (maxL := 6) (ret := (some .int)) (Qf := gQi D (wM a cA hedges branches stand turn cuts asks seen pageLength isWhole newBranches gameCuts isKept keptHedge keptStand keptTurn keptCuts keptSeen seedNow hsh q.2.1 onOf seenBranch seenBegins seenWins page q.2.2.1 lasting worthBy q.2.2.2 keptKind keptBranch keptBegins keptWins partsBy) q.1) (by decide) rfl (Nat.le_of_ble_eq_true rfl) ?_
  intro p e s m args below meth c Z ls Qz hx hb hr hml hlocks hown hts hS hX hl hq
  have he := he0.trans f_X11_sortsOf_s
  have hown : s.vm.findClass RX11 = some m.cls := hown
  have hl : lv_has ls 6 [(0, .ref (a 0)), (1, .int p1)] := hl
  have hi_X11 : ∀ w ∈ u_ws RX11 TX11 34, w ∈ wsX11_sortsOf := fun _ h => List.mem_cons_of_mem _ (List.mem_append_right _ h)
  have l_fieldLink_16 := hts (Cond.fieldLink RX11 16 "HedgeGameModel" "seenBranch" "[I") (List.mem_of_getElem? (i := 2) rfl)
  have l_fieldLink_19 := hts (Cond.fieldLink RX11 19 "HedgeGameModel" "seenBegins" "[I") (List.mem_of_getElem? (i := 4) rfl)
  have l_fieldLink_22 := hts (Cond.fieldLink RX11 22 "HedgeGameModel" "seenWins" "[I") (List.mem_of_getElem? (i := 5) rfl)
  have l_fieldLink_42 := hts (Cond.fieldLink RX11 42 "HedgeGameModel" "wonBy" "[I") (List.mem_of_getElem? (i := 3) rfl)
  have l_fieldLink_98 := hts (Cond.fieldLink RX11 98 "HedgeGameModel" "seen" "I") (List.mem_of_getElem? (i := 1) rfl)
  have t0 : ((0 : Int32)).toInt = 0 := rfl
  have t1 : ((1 : Int32)).toInt = 1 := rfl
  have t2 : ((2 : Int32)).toInt = 2 := rfl
  have t4 : ((4 : Int32)).toInt = 4 := rfl
  refine lv_aload_n hx hb dX11_sortsOf_0 rfl (lv_at hl 0 rfl) ?_
  refine lv_iload_n hx hb dX11_sortsOf_1 rfl (lv_at hl 1 rfl) ?_
  obtain ⟨z_1, e2⟩ : ∃ z, z = (f_X11_laySorts branches stand kindOf onOf winner wonBy p1) := ⟨_, rfl⟩
  rw [← e2] at he
  try dsimp only at he
  refine g_Vv (w2 := (wM a cA hedges branches stand turn cuts asks seen pageLength isWhole newBranches gameCuts isKept keptHedge keptStand keptTurn keptCuts keptSeen seedNow hsh z_1.1 onOf seenBranch seenBegins seenWins page z_1.2.1 lasting worthBy z_1.2.2 keptKind keptBranch keptBegins keptWins partsBy)) (As := [.int p1]) (rest := []) (ci := 11) (q0 := 0) ⟨hx, hb, hml, hown, hts⟩ hS hX (k_X11_laySorts p1 (by omega) (by omega) (by omega) z_1 e2) (cwV 1 hts gX11_sortsOf_X11_laySorts rfl rfl rfl (by decide +kernel) ⟨Nat.le_of_ble_eq_true rfl, Nat.le_of_ble_eq_true rfl⟩) rfl rfl rfl hl.1 rfl (Nat.le_of_ble_eq_true rfl) dX11_sortsOf_2 ⟨Nat.zero_le _, Nat.zero_le _⟩ (fun H locs hX => ?_)
  refine lv_iconst (v := (0 : Int32)) hx hb dX11_sortsOf_5 (by decide) ?_
  refine lv_istore_n (lv' := [(2, .int (0 : Int32)), (0, .ref (a 0)), (1, .int p1)]) hx hb dX11_sortsOf_6 rfl hl (by decide) rfl (fun ls hl => ?_)
  refine lv_iconst (v := (0 : Int32)) hx hb dX11_sortsOf_7 (by decide) ?_
  refine lv_istore_n (lv' := [(3, .int (0 : Int32)), (2, .int (0 : Int32)), (0, .ref (a 0)), (1, .int p1)]) hx hb dX11_sortsOf_8 rfl hl (by decide) rfl (fun ls hl => ?_)
  have L9_2 : ∀ (n_9_2 : Nat) (x2_3 : Int32) (x3_4 : Int32), 0 ≤ (x3_4).toInt ∧ (x3_4).toInt ≤ 5 → 5 - (x3_4).toInt < (n_9_2 : Int) → q = f_X11_sortsOf_L9 n_9_2 branches stand seen z_1.1 onOf seenBranch seenBegins seenWins z_1.2.1 z_1.2.2 p1 x2_3 x3_4 → ∀ (H : Heap) (locs : List Loc) (ls : Array Slot), gX D Z s (wM a cA hedges branches stand turn cuts asks seen pageLength isWhole newBranches gameCuts isKept keptHedge keptStand keptTurn keptCuts keptSeen seedNow hsh z_1.1 onOf seenBranch seenBegins seenWins page z_1.2.1 lasting worthBy z_1.2.2 keptKind keptBranch keptBegins keptWins partsBy) H locs → lv_has ls 6 [(0, .ref (a 0)), (1, .int p1), (2, .int x2_3), (3, .int x3_4)] → W p l e rm_X11_sortsOf s m args below meth c H locs 0 0 Qz (F0 m 9 ls []) := by
    intro n_9_2
    induction n_9_2 with
    | zero =>
      intro x2_3 x3_4 ia ifu _ _ _ _ _ _
      exfalso; omega
    | succ n_9_2 ih_L9_2 =>
      intro x2_3 x3_4 ia ifu he H locs ls hX hl
      have he := he.trans f_X11_sortsOf_L9_s
      refine lv_iload_n hx hb dX11_sortsOf_9 rfl (lv_at hl 3 rfl) ?_
      refine lv_iconst (v := (4 : Int32)) hx hb dX11_sortsOf_10 (by decide) ?_
      refine lv_icmp_gt (tgt := 105) hx hb dX11_sortsOf_11 (by decide) (fun c11 => ?_) (fun c11 => ?_)
      · have he := he.trans (if_pos c11)
        have d11 := i_lt c11
        refine lv_iload_n hx hb dX11_sortsOf_105 rfl (lv_at hl 2 rfl) ?_
        subst he
        exact g_iret hx hb hr hlocks hX hq rfl dX11_sortsOf_106
      · have he := he.trans (if_neg c11)
        have d11 := i_nlt c11
        refine lv_iconst (v := (1 : Int32)) hx hb dX11_sortsOf_14 (by decide) ?_
        refine lv_istore (lv' := [(4, .int (1 : Int32)), (0, .ref (a 0)), (1, .int p1), (2, .int x2_3), (3, .int x3_4)]) hx hb dX11_sortsOf_15 hl (by decide) rfl (fun ls hl => ?_)
        refine lv_iconst (v := (0 : Int32)) hx hb dX11_sortsOf_17 (by decide) ?_
        refine lv_istore (lv' := [(5, .int (0 : Int32)), (4, .int (1 : Int32)), (0, .ref (a 0)), (1, .int p1), (2, .int x2_3), (3, .int x3_4)]) hx hb dX11_sortsOf_18 hl (by decide) rfl (fun ls hl => ?_)
        have L20_5 : ∀ (kk_L20_5 : (Int32) → (Int32) → Int32 × (Nat → Int32) × (Nat → Int32) × (Nat → Int32)), (∀ (x4_8 : Int32) (x5_9 : Int32), q = kk_L20_5 x4_8 x5_9 → ∀ (H : Heap) (locs : List Loc) (ls : Array Slot), gX D Z s (wM a cA hedges branches stand turn cuts asks seen pageLength isWhole newBranches gameCuts isKept keptHedge keptStand keptTurn keptCuts keptSeen seedNow hsh z_1.1 onOf seenBranch seenBegins seenWins page z_1.2.1 lasting worthBy z_1.2.2 keptKind keptBranch keptBegins keptWins partsBy) H locs → lv_has ls 6 [(0, .ref (a 0)), (1, .int p1), (2, .int x2_3), (3, .int x3_4), (4, .int x4_8), (5, .int x5_9)] → W p l e rm_X11_sortsOf s m args below meth c H locs 0 0 Qz (F0 m 84 ls [])) → ∀ (n_20_5 : Nat) (x4_6 : Int32) (x5_7 : Int32), 0 ≤ (x5_7).toInt ∧ (x5_7).toInt ≤ 6 → 6 - (x5_7).toInt < (n_20_5 : Int) → q = f_X11_sortsOf_L20 kk_L20_5 n_20_5 branches stand seen z_1.1 onOf seenBranch seenBegins seenWins z_1.2.1 z_1.2.2 p1 x2_3 x3_4 x4_6 x5_7 → ∀ (H : Heap) (locs : List Loc) (ls : Array Slot), gX D Z s (wM a cA hedges branches stand turn cuts asks seen pageLength isWhole newBranches gameCuts isKept keptHedge keptStand keptTurn keptCuts keptSeen seedNow hsh z_1.1 onOf seenBranch seenBegins seenWins page z_1.2.1 lasting worthBy z_1.2.2 keptKind keptBranch keptBegins keptWins partsBy) H locs → lv_has ls 6 [(0, .ref (a 0)), (1, .int p1), (2, .int x2_3), (3, .int x3_4), (4, .int x4_6), (5, .int x5_7)] → W p l e rm_X11_sortsOf s m args below meth c H locs 0 0 Qz (F0 m 20 ls []) := by
          intro kk_L20_5 hk_L20_5
          intro n_20_5
          induction n_20_5 with
          | zero =>
            intro x4_6 x5_7 iai ifui _ _ _ _ _ _
            exfalso; omega
          | succ n_20_5 ih_L20_5 =>
            intro x4_6 x5_7 iai ifui he H locs ls hX hl
            have he := he.trans f_X11_sortsOf_L20_s
            refine lv_iload hx hb dX11_sortsOf_20 (lv_at hl 5 rfl) ?_
            refine lv_aload_n hx hb dX11_sortsOf_22 rfl (lv_at hl 0 rfl) ?_
            refine va_get (D := D) (ci := 11) (v := .int seen) (C := RX11) (T := TX11) (N := 34) hx hb hts hi_X11 hown hS.1 hX.1 0 rfl rfl 8 (by decide) l_fieldLink_98 (fun _ h9 => h9) rfl dX11_sortsOf_23 ?_
            refine lv_icmp_ge (tgt := 84) hx hb dX11_sortsOf_26 (by decide) (fun c26 => ?_) (fun c26 => ?_)
            · have he := he.trans (if_pos c26)
              have d26 := i_le c26
              exact hk_L20_5 x4_6 x5_7 he _ _ _ hX (lv_sub hl [0, 1, 2, 3, 4, 5] rfl)
            · have he := he.trans (if_neg c26)
              have d26 := i_nle c26
              refine lv_iload hx hb dX11_sortsOf_29 (lv_at hl 4 rfl) ?_
              refine lv_if_eq (tgt := 75) hx hb dX11_sortsOf_31 (by decide) (fun c31 => ?_) (fun c31 => ?_)
              · have he := he.trans (if_pos c31)
                have d31 := i_eq c31
                refine lv_iconst (v := (0 : Int32)) hx hb dX11_sortsOf_75 (by decide) ?_
                refine lv_istore (lv' := [(4, .int (0 : Int32)), (0, .ref (a 0)), (1, .int p1), (2, .int x2_3), (3, .int x3_4), (5, .int x5_7)]) hx hb dX11_sortsOf_76 hl (by decide) rfl (fun ls hl => ?_)
                refine lv_iinc (v := (x5_7 + (1 : Int32))) (lv' := [(5, .int (x5_7 + (1 : Int32))), (4, .int (0 : Int32)), (0, .ref (a 0)), (1, .int p1), (2, .int x2_3), (3, .int x3_4)]) hx hb dX11_sortsOf_78 hl (k := 5) rfl rfl (by decide) rfl (fun ls hl => ?_)
                have s78 := i_s1 (x := x5_7) (by omega)
                refine lv_goto (tgt := 20) hx hb dX11_sortsOf_81 (by decide) ?_
                exact ih_L20_5 (0 : Int32) (x5_7 + (1 : Int32)) (by omega) (by omega) he _ _ _ hX (lv_sub hl [2, 3, 4, 5, 1, 0] rfl)
              · have he := he.trans (if_neg c31)
                have d31 := i_ne c31
                refine lv_aload_n hx hb dX11_sortsOf_34 rfl (lv_at hl 0 rfl) ?_
                refine va_get (D := D) (ci := 11) (v := .ref (a 3)) (C := RX11) (T := TX11) (N := 34) hx hb hts hi_X11 hown hS.1 hX.1 0 rfl rfl 9 (by decide) l_fieldLink_16 (fun _ h9 => h9) rfl dX11_sortsOf_35 ?_
                refine lv_iload hx hb dX11_sortsOf_38 (lv_at hl 5 rfl) ?_
                refine va_iald hx hb hS.1 hX.1 3 2 rfl rfl (vp_in_iff.mpr (by omega)) dX11_sortsOf_40 ?_
                refine lv_iload_n hx hb dX11_sortsOf_41 rfl (lv_at hl 1 rfl) ?_
                refine lv_icmp_ne (tgt := 71) hx hb dX11_sortsOf_42 (by decide) (fun c42 => ?_) (fun c42 => ?_)
                · have he := he.trans (if_neg c42)
                  have d42 := i_ne c42
                  refine lv_iconst (v := (1 : Int32)) hx hb dX11_sortsOf_71 (by decide) ?_
                  refine lv_goto (tgt := 76) hx hb dX11_sortsOf_72 (by decide) ?_
                  refine lv_istore (lv' := [(4, .int (1 : Int32)), (0, .ref (a 0)), (1, .int p1), (2, .int x2_3), (3, .int x3_4), (5, .int x5_7)]) hx hb dX11_sortsOf_76 hl (by decide) rfl (fun ls hl => ?_)
                  refine lv_iinc (v := (x5_7 + (1 : Int32))) (lv' := [(5, .int (x5_7 + (1 : Int32))), (4, .int (1 : Int32)), (0, .ref (a 0)), (1, .int p1), (2, .int x2_3), (3, .int x3_4)]) hx hb dX11_sortsOf_78 hl (k := 5) rfl rfl (by decide) rfl (fun ls hl => ?_)
                  have s78 := i_s1 (x := x5_7) (by omega)
                  refine lv_goto (tgt := 20) hx hb dX11_sortsOf_81 (by decide) ?_
                  exact ih_L20_5 (1 : Int32) (x5_7 + (1 : Int32)) (by omega) (by omega) he _ _ _ hX (lv_sub hl [2, 3, 4, 5, 1, 0] rfl)
                · have he := he.trans (if_pos c42)
                  have d42 := i_eq c42
                  refine lv_aload_n hx hb dX11_sortsOf_45 rfl (lv_at hl 0 rfl) ?_
                  refine va_get (D := D) (ci := 11) (v := .ref (a 11)) (C := RX11) (T := TX11) (N := 34) hx hb hts hi_X11 hown hS.1 hX.1 0 rfl rfl 20 (by decide) l_fieldLink_42 (fun _ h9 => h9) rfl dX11_sortsOf_46 ?_
                  refine lv_iconst (v := (2 : Int32)) hx hb dX11_sortsOf_49 (by decide) ?_
                  refine lv_iload_n hx hb dX11_sortsOf_50 rfl (lv_at hl 3 rfl) ?_
                  refine lv_imul hx hb dX11_sortsOf_51 ?_
                  refine lv_aload_n hx hb dX11_sortsOf_52 rfl (lv_at hl 0 rfl) ?_
                  refine va_get (D := D) (ci := 11) (v := .ref (a 4)) (C := RX11) (T := TX11) (N := 34) hx hb hts hi_X11 hown hS.1 hX.1 0 rfl rfl 10 (by decide) l_fieldLink_19 (fun _ h9 => h9) rfl dX11_sortsOf_53 ?_
                  refine lv_iload hx hb dX11_sortsOf_56 (lv_at hl 5 rfl) ?_
                  refine va_iald hx hb hS.1 hX.1 4 3 rfl rfl (vp_in_iff.mpr (by omega)) dX11_sortsOf_58 ?_
                  refine lv_iadd hx hb dX11_sortsOf_59 ?_
                  refine va_iald hx hb hS.1 hX.1 11 10 rfl rfl (o_2kw (by omega) (hsb _ (i_clamp (by omega) (by omega)))) dX11_sortsOf_60 ?_
                  refine lv_aload_n hx hb dX11_sortsOf_61 rfl (lv_at hl 0 rfl) ?_
                  refine va_get (D := D) (ci := 11) (v := .ref (a 5)) (C := RX11) (T := TX11) (N := 34) hx hb hts hi_X11 hown hS.1 hX.1 0 rfl rfl 11 (by decide) l_fieldLink_22 (fun _ h9 => h9) rfl dX11_sortsOf_62 ?_
                  refine lv_iload hx hb dX11_sortsOf_65 (lv_at hl 5 rfl) ?_
                  refine va_iald hx hb hS.1 hX.1 5 4 rfl rfl (vp_in_iff.mpr (by omega)) dX11_sortsOf_67 ?_
                  refine lv_icmp_ne (tgt := 75) hx hb dX11_sortsOf_68 (by decide) (fun c68 => ?_) (fun c68 => ?_)
                  · have he := he.trans (if_neg c68)
                    have d68 := i_ne c68
                    refine lv_iconst (v := (0 : Int32)) hx hb dX11_sortsOf_75 (by decide) ?_
                    refine lv_istore (lv' := [(4, .int (0 : Int32)), (0, .ref (a 0)), (1, .int p1), (2, .int x2_3), (3, .int x3_4), (5, .int x5_7)]) hx hb dX11_sortsOf_76 hl (by decide) rfl (fun ls hl => ?_)
                    refine lv_iinc (v := (x5_7 + (1 : Int32))) (lv' := [(5, .int (x5_7 + (1 : Int32))), (4, .int (0 : Int32)), (0, .ref (a 0)), (1, .int p1), (2, .int x2_3), (3, .int x3_4)]) hx hb dX11_sortsOf_78 hl (k := 5) rfl rfl (by decide) rfl (fun ls hl => ?_)
                    have s78 := i_s1 (x := x5_7) (by omega)
                    refine lv_goto (tgt := 20) hx hb dX11_sortsOf_81 (by decide) ?_
                    exact ih_L20_5 (0 : Int32) (x5_7 + (1 : Int32)) (by omega) (by omega) he _ _ _ hX (lv_sub hl [2, 3, 4, 5, 1, 0] rfl)
                  · have he := he.trans (if_pos c68)
                    have d68 := i_eq c68
                    refine lv_iconst (v := (1 : Int32)) hx hb dX11_sortsOf_71 (by decide) ?_
                    refine lv_goto (tgt := 76) hx hb dX11_sortsOf_72 (by decide) ?_
                    refine lv_istore (lv' := [(4, .int (1 : Int32)), (0, .ref (a 0)), (1, .int p1), (2, .int x2_3), (3, .int x3_4), (5, .int x5_7)]) hx hb dX11_sortsOf_76 hl (by decide) rfl (fun ls hl => ?_)
                    refine lv_iinc (v := (x5_7 + (1 : Int32))) (lv' := [(5, .int (x5_7 + (1 : Int32))), (4, .int (1 : Int32)), (0, .ref (a 0)), (1, .int p1), (2, .int x2_3), (3, .int x3_4)]) hx hb dX11_sortsOf_78 hl (k := 5) rfl rfl (by decide) rfl (fun ls hl => ?_)
                    have s78 := i_s1 (x := x5_7) (by omega)
                    refine lv_goto (tgt := 20) hx hb dX11_sortsOf_81 (by decide) ?_
                    exact ih_L20_5 (1 : Int32) (x5_7 + (1 : Int32)) (by omega) (by omega) he _ _ _ hX (lv_sub hl [2, 3, 4, 5, 1, 0] rfl)
        refine L20_5 _ (fun x4_8 x5_9 he H locs ls hX hl => ?_) 7 (1 : Int32) (0 : Int32) (by omega) (by omega) he _ _ _ hX (lv_sub hl [2, 3, 4, 5, 1, 0] rfl)
        refine lv_iload_n hx hb dX11_sortsOf_84 rfl (lv_at hl 2 rfl) ?_
        refine lv_iload hx hb dX11_sortsOf_85 (lv_at hl 4 rfl) ?_
        refine lv_if_eq (tgt := 96) hx hb dX11_sortsOf_87 (by decide) (fun c87 => ?_) (fun c87 => ?_)
        · have he := he.trans (if_pos c87)
          have d87 := i_eq c87
          refine lv_iconst (v := (0 : Int32)) hx hb dX11_sortsOf_96 (by decide) ?_
          refine lv_ior hx hb dX11_sortsOf_97 ?_
          refine lv_istore_n (lv' := [(2, .int (x2_3 ||| (0 : Int32))), (0, .ref (a 0)), (1, .int p1), (3, .int x3_4), (4, .int x4_8), (5, .int x5_9)]) hx hb dX11_sortsOf_98 rfl hl (by decide) rfl (fun ls hl => ?_)
          refine lv_iinc (v := (x3_4 + (1 : Int32))) (lv' := [(3, .int (x3_4 + (1 : Int32))), (2, .int (x2_3 ||| (0 : Int32))), (0, .ref (a 0)), (1, .int p1), (4, .int x4_8), (5, .int x5_9)]) hx hb dX11_sortsOf_99 hl (k := 3) rfl rfl (by decide) rfl (fun ls hl => ?_)
          have s99 := i_s1 (x := x3_4) (by omega)
          refine lv_goto (tgt := 9) hx hb dX11_sortsOf_102 (by decide) ?_
          exact ih_L9_2 (x2_3 ||| (0 : Int32)) (x3_4 + (1 : Int32)) (by omega) (by omega) he _ _ _ hX (lv_sub hl [2, 3, 1, 0] rfl)
        · have he := he.trans (if_neg c87)
          have d87 := i_ne c87
          refine lv_iconst (v := (1 : Int32)) hx hb dX11_sortsOf_90 (by decide) ?_
          refine lv_iload_n hx hb dX11_sortsOf_91 rfl (lv_at hl 3 rfl) ?_
          refine lv_ishl hx hb dX11_sortsOf_92 ?_
          refine lv_goto (tgt := 97) hx hb dX11_sortsOf_93 (by decide) ?_
          refine lv_ior hx hb dX11_sortsOf_97 ?_
          refine lv_istore_n (lv' := [(2, .int (x2_3 ||| ((1 : Int32) <<< (x3_4 &&& 31)))), (0, .ref (a 0)), (1, .int p1), (3, .int x3_4), (4, .int x4_8), (5, .int x5_9)]) hx hb dX11_sortsOf_98 rfl hl (by decide) rfl (fun ls hl => ?_)
          refine lv_iinc (v := (x3_4 + (1 : Int32))) (lv' := [(3, .int (x3_4 + (1 : Int32))), (2, .int (x2_3 ||| ((1 : Int32) <<< (x3_4 &&& 31)))), (0, .ref (a 0)), (1, .int p1), (4, .int x4_8), (5, .int x5_9)]) hx hb dX11_sortsOf_99 hl (k := 3) rfl rfl (by decide) rfl (fun ls hl => ?_)
          have s99 := i_s1 (x := x3_4) (by omega)
          refine lv_goto (tgt := 9) hx hb dX11_sortsOf_102 (by decide) ?_
          exact ih_L9_2 (x2_3 ||| ((1 : Int32) <<< (x3_4 &&& 31))) (x3_4 + (1 : Int32)) (by omega) (by omega) he _ _ _ hX (lv_sub hl [2, 3, 1, 0] rfl)
  exact L9_2 6 (0 : Int32) (0 : Int32) (by omega) (by omega) he _ _ _ hX (lv_sub hl [2, 3, 1, 0] rfl)
abbrev rm_X11_worstBy : Room := { frames := 1, cells := 0, slots := 0, locals := 22 }
set_option maxHeartbeats 4000000 in
set_option maxRecDepth 100000 in
theorem k_X11_worstBy {l : Launch} {D : va_G} {E : sE} {a : Nat → Nat} {cA : Nat → ClassId} {hedges : Int32} {branches : Int32} {stand : Int32} {turn : Int32} {cuts : Int32} {asks : Int32} {seen : Int32} {pageLength : Int32} {isWhole : Int32} {newBranches : Int32} {gameCuts : Int32} {isKept : Int32} {keptHedge : Int32} {keptStand : Int32} {keptTurn : Int32} {keptCuts : Int32} {keptSeen : Int32} {seedNow : Int64} {hsh : Int64} {kindOf : Nat → Int32} {onOf : Nat → Int32} {seenBranch : Nat → Int32} {seenBegins : Nat → Int32} {seenWins : Nat → Int32} {page : Nat → Int32} {winner : Nat → Int32} {lasting : Nat → Int32} {worthBy : Nat → Int32} {wonBy : Nat → Int32} {keptKind : Nat → Int32} {keptBranch : Nat → Int32} {keptBegins : Nat → Int32} {keptWins : Nat → Int32} {partsBy : Nat → Int64} (p1 : Int32) (p2 : Int32) (hwx : 0 ≤ (p2).toInt ∧ (p2).toInt ≤ 1) : ∀ q : Int32, q = f_X11_worstBy wonBy p1 p2 → gMi l yX11_worstBy wsX11_worstBy rm_X11_worstBy D E (tM cA) [.ref (a 0), .int p1, .int p2] (wM a cA hedges branches stand turn cuts asks seen pageLength isWhole newBranches gameCuts isKept keptHedge keptStand keptTurn keptCuts keptSeen seedNow hsh kindOf onOf seenBranch seenBegins seenWins page winner lasting worthBy wonBy keptKind keptBranch keptBegins keptWins partsBy) (wM a cA hedges branches stand turn cuts asks seen pageLength isWhole newBranches gameCuts isKept keptHedge keptStand keptTurn keptCuts keptSeen seedNow hsh kindOf onOf seenBranch seenBegins seenWins page winner lasting worthBy wonBy keptKind keptBranch keptBegins keptWins partsBy) q := by
  intro q he0
  refine gM_of (cc := cX11_worstBy) (maxL := 5) (ret := (some .int)) (Qf := gQi D (wM a cA hedges branches stand turn cuts asks seen pageLength isWhole newBranches gameCuts isKept keptHedge keptStand keptTurn keptCuts keptSeen seedNow hsh kindOf onOf seenBranch seenBegins seenWins page winner lasting worthBy wonBy keptKind keptBranch keptBegins keptWins partsBy) q) (by decide) rfl (Nat.le_of_ble_eq_true rfl) ?_
  intro p e s m args below meth c Z ls Qz hx hb hr hml hlocks hown hts hS hX hl hq
  have he := he0.trans f_X11_worstBy_s
  have hown : s.vm.findClass RX11 = some m.cls := hown
  have hl : lv_has ls 5 [(0, .ref (a 0)), (1, .int p1), (2, .int p2)] := hl
  have hi_X11 : ∀ w ∈ u_ws RX11 TX11 34, w ∈ wsX11_worstBy := fun _ h => List.mem_cons_of_mem _ (List.mem_append_right _ h)
  have l_fieldLink_42 := hts (Cond.fieldLink RX11 42 "HedgeGameModel" "wonBy" "[I") (List.mem_of_getElem? (i := 1) rfl)
  have t0 : ((0 : Int32)).toInt = 0 := rfl
  have t1 : ((1 : Int32)).toInt = 1 := rfl
  have t2 : ((2 : Int32)).toInt = 2 := rfl
  have t4 : ((4 : Int32)).toInt = 4 := rfl
  refine lv_iconst (v := (0 : Int32)) hx hb dX11_worstBy_0 (by decide) ?_
  refine lv_istore_n (lv' := [(3, .int (0 : Int32)), (0, .ref (a 0)), (1, .int p1), (2, .int p2)]) hx hb dX11_worstBy_1 rfl hl (by decide) rfl (fun ls hl => ?_)
  refine lv_iconst (v := (0 : Int32)) hx hb dX11_worstBy_2 (by decide) ?_
  refine lv_istore (lv' := [(4, .int (0 : Int32)), (3, .int (0 : Int32)), (0, .ref (a 0)), (1, .int p1), (2, .int p2)]) hx hb dX11_worstBy_3 hl (by decide) rfl (fun ls hl => ?_)
  have L5_1 : ∀ (n_5_1 : Nat) (x3_2 : Int32) (x4_3 : Int32), 0 ≤ (x4_3).toInt ∧ (x4_3).toInt ≤ 5 → 5 - (x4_3).toInt < (n_5_1 : Int) → q = f_X11_worstBy_L5 n_5_1 wonBy p1 p2 x3_2 x4_3 → ∀ (H : Heap) (locs : List Loc) (ls : Array Slot), gX D Z s (wM a cA hedges branches stand turn cuts asks seen pageLength isWhole newBranches gameCuts isKept keptHedge keptStand keptTurn keptCuts keptSeen seedNow hsh kindOf onOf seenBranch seenBegins seenWins page winner lasting worthBy wonBy keptKind keptBranch keptBegins keptWins partsBy) H locs → lv_has ls 5 [(0, .ref (a 0)), (1, .int p1), (2, .int p2), (3, .int x3_2), (4, .int x4_3)] → W p l e rm_X11_worstBy s m args below meth c H locs 0 0 Qz (F0 m 5 ls []) := by
    intro n_5_1
    induction n_5_1 with
    | zero =>
      intro x3_2 x4_3 ia ifu _ _ _ _ _ _
      exfalso; omega
    | succ n_5_1 ih_L5_1 =>
      intro x3_2 x4_3 ia ifu he H locs ls hX hl
      have he := he.trans f_X11_worstBy_L5_s
      refine lv_iload hx hb dX11_worstBy_5 (lv_at hl 4 rfl) ?_
      refine lv_iconst (v := (4 : Int32)) hx hb dX11_worstBy_7 (by decide) ?_
      refine lv_icmp_gt (tgt := 44) hx hb dX11_worstBy_8 (by decide) (fun c8 => ?_) (fun c8 => ?_)
      · have he := he.trans (if_pos c8)
        have d8 := i_lt c8
        refine lv_iload_n hx hb dX11_worstBy_44 rfl (lv_at hl 1 rfl) ?_
        obtain ⟨r_4, e45⟩ : ∃ z, z = (f_X11_size p1) := ⟨_, rfl⟩
        rw [← e45] at he
        refine g_Si (r := r_4) (As := [.int p1]) (rest := []) ⟨hx, hb, hml, hown, hts⟩ hS hX (k_X11_size p1 r_4 e45) (va_cwS 1 hts gX11_worstBy_X11_size rfl rfl rfl (by decide +kernel) ⟨Nat.le_of_ble_eq_true rfl, Nat.le_of_ble_eq_true rfl⟩) rfl hl.1 rfl (Nat.le_of_ble_eq_true rfl) dX11_worstBy_45 ⟨Nat.zero_le _, Nat.zero_le _⟩ (fun H locs hX => ?_)
        refine lv_iload_n hx hb dX11_worstBy_48 rfl (lv_at hl 3 rfl) ?_
        refine lv_isub hx hb dX11_worstBy_49 ?_
        refine lv_istore (lv' := [(4, .int (r_4 - x3_2)), (0, .ref (a 0)), (1, .int p1), (2, .int p2), (3, .int x3_2)]) hx hb dX11_worstBy_50 hl (by decide) rfl (fun ls hl => ?_)
        refine lv_iload_n hx hb dX11_worstBy_52 rfl (lv_at hl 4 rfl) ?_
        refine lv_iload hx hb dX11_worstBy_53 (lv_at hl 0 rfl) ?_
        refine lv_icmp_le (tgt := 62) hx hb dX11_worstBy_55 (by decide) (fun c55 => ?_) (fun c55 => ?_)
        · have he := he.trans (if_pos c55)
          have d55 := i_le c55
          refine lv_iload hx hb dX11_worstBy_62 (lv_at hl 0 rfl) ?_
          subst he
          exact g_iret hx hb hr hlocks hX hq rfl dX11_worstBy_64
        · have he := he.trans (if_neg c55)
          have d55 := i_nle c55
          refine lv_iload_n hx hb dX11_worstBy_58 rfl (lv_at hl 4 rfl) ?_
          refine lv_goto (tgt := 64) hx hb dX11_worstBy_59 (by decide) ?_
          subst he
          exact g_iret hx hb hr hlocks hX hq rfl dX11_worstBy_64
      · have he := he.trans (if_neg c8)
        have d8 := i_nlt c8
        refine lv_iload_n hx hb dX11_worstBy_11 rfl (lv_at hl 3 rfl) ?_
        refine lv_iload_n hx hb dX11_worstBy_12 rfl (lv_at hl 1 rfl) ?_
        refine lv_iload hx hb dX11_worstBy_13 (lv_at hl 4 rfl) ?_
        obtain ⟨r_5, e15⟩ : ∃ z, z = (f_X11_isIn p1 x4_3) := ⟨_, rfl⟩
        rw [← e15] at he
        refine g_Si (r := r_5) (As := [.int p1, .int x4_3]) (rest := [.int x3_2]) ⟨hx, hb, hml, hown, hts⟩ hS hX (k_X11_isIn p1 x4_3 r_5 e15) (va_cwS 2 hts gX11_worstBy_X11_isIn rfl rfl rfl (by decide +kernel) ⟨Nat.le_of_ble_eq_true rfl, Nat.le_of_ble_eq_true rfl⟩) rfl hl.1 rfl (Nat.le_of_ble_eq_true rfl) dX11_worstBy_15 ⟨Nat.zero_le _, Nat.zero_le _⟩ (fun H locs hX => ?_)
        refine lv_if_eq (tgt := 35) hx hb dX11_worstBy_18 (by decide) (fun c18 => ?_) (fun c18 => ?_)
        · have he := he.trans (if_pos c18)
          have d18 := i_eq c18
          refine lv_iconst (v := (0 : Int32)) hx hb dX11_worstBy_35 (by decide) ?_
          refine lv_iadd hx hb dX11_worstBy_36 ?_
          refine lv_istore_n (lv' := [(3, .int (x3_2 + (0 : Int32))), (0, .ref (a 0)), (1, .int p1), (2, .int p2), (4, .int x4_3)]) hx hb dX11_worstBy_37 rfl hl (by decide) rfl (fun ls hl => ?_)
          refine lv_iinc (v := (x4_3 + (1 : Int32))) (lv' := [(4, .int (x4_3 + (1 : Int32))), (3, .int (x3_2 + (0 : Int32))), (0, .ref (a 0)), (1, .int p1), (2, .int p2)]) hx hb dX11_worstBy_38 hl (k := 4) rfl rfl (by decide) rfl (fun ls hl => ?_)
          have s38 := i_s1 (x := x4_3) (by omega)
          refine lv_goto (tgt := 5) hx hb dX11_worstBy_41 (by decide) ?_
          exact ih_L5_1 (x3_2 + (0 : Int32)) (x4_3 + (1 : Int32)) (by omega) (by omega) he _ _ _ hX (lv_sub hl [2, 3, 4, 1, 0] rfl)
        · have he := he.trans (if_neg c18)
          have d18 := i_ne c18
          refine lv_aload_n hx hb dX11_worstBy_21 rfl (lv_at hl 0 rfl) ?_
          refine va_get (D := D) (ci := 11) (v := .ref (a 11)) (C := RX11) (T := TX11) (N := 34) hx hb hts hi_X11 hown hS.1 hX.1 0 rfl rfl 20 (by decide) l_fieldLink_42 (fun _ h9 => h9) rfl dX11_worstBy_22 ?_
          refine lv_iconst (v := (2 : Int32)) hx hb dX11_worstBy_25 (by decide) ?_
          refine lv_iload hx hb dX11_worstBy_26 (lv_at hl 4 rfl) ?_
          refine lv_imul hx hb dX11_worstBy_28 ?_
          refine lv_iload_n hx hb dX11_worstBy_29 rfl (lv_at hl 2 rfl) ?_
          refine lv_iadd hx hb dX11_worstBy_30 ?_
          refine va_iald hx hb hS.1 hX.1 11 10 rfl rfl (o_2kw (by omega) (by omega)) dX11_worstBy_31 ?_
          refine lv_goto (tgt := 36) hx hb dX11_worstBy_32 (by decide) ?_
          refine lv_iadd hx hb dX11_worstBy_36 ?_
          refine lv_istore_n (lv' := [(3, .int (x3_2 + (wonBy ((((2 : Int32) * x4_3) + p2)).toNatClampNeg))), (0, .ref (a 0)), (1, .int p1), (2, .int p2), (4, .int x4_3)]) hx hb dX11_worstBy_37 rfl hl (by decide) rfl (fun ls hl => ?_)
          refine lv_iinc (v := (x4_3 + (1 : Int32))) (lv' := [(4, .int (x4_3 + (1 : Int32))), (3, .int (x3_2 + (wonBy ((((2 : Int32) * x4_3) + p2)).toNatClampNeg))), (0, .ref (a 0)), (1, .int p1), (2, .int p2)]) hx hb dX11_worstBy_38 hl (k := 4) rfl rfl (by decide) rfl (fun ls hl => ?_)
          have s38 := i_s1 (x := x4_3) (by omega)
          refine lv_goto (tgt := 5) hx hb dX11_worstBy_41 (by decide) ?_
          exact ih_L5_1 (x3_2 + (wonBy ((((2 : Int32) * x4_3) + p2)).toNatClampNeg)) (x4_3 + (1 : Int32)) (by omega) (by omega) he _ _ _ hX (lv_sub hl [2, 3, 4, 1, 0] rfl)
  exact L5_1 6 (0 : Int32) (0 : Int32) (by omega) (by omega) he _ _ _ hX (lv_sub hl [2, 3, 4, 1, 0] rfl)
abbrev rm_X11_letOf : Room := { frames := 7, cells := 0, slots := 0, locals := 160 }
set_option maxHeartbeats 4000000 in
set_option maxRecDepth 100000 in
theorem k_X11_letOf {l : Launch} {D : va_G} {E : sE} {a : Nat → Nat} {cA : Nat → ClassId} {hedges : Int32} {branches : Int32} {stand : Int32} {turn : Int32} {cuts : Int32} {asks : Int32} {seen : Int32} {pageLength : Int32} {isWhole : Int32} {newBranches : Int32} {gameCuts : Int32} {isKept : Int32} {keptHedge : Int32} {keptStand : Int32} {keptTurn : Int32} {keptCuts : Int32} {keptSeen : Int32} {seedNow : Int64} {hsh : Int64} {kindOf : Nat → Int32} {onOf : Nat → Int32} {seenBranch : Nat → Int32} {seenBegins : Nat → Int32} {seenWins : Nat → Int32} {page : Nat → Int32} {winner : Nat → Int32} {lasting : Nat → Int32} {worthBy : Nat → Int32} {wonBy : Nat → Int32} {keptKind : Nat → Int32} {keptBranch : Nat → Int32} {keptBegins : Nat → Int32} {keptWins : Nat → Int32} {partsBy : Nat → Int64} (p1 : Int32) (hbr : 0 ≤ (branches).toInt ∧ (branches).toInt ≤ 8) (hst : 0 ≤ (stand).toInt ∧ (stand).toInt < 256) (hse : 0 ≤ (seen).toInt ∧ (seen).toInt ≤ 6) (hsb : ∀ k : Nat, (k : Int) < (seen).toInt → 0 ≤ (seenBegins k).toInt ∧ (seenBegins k).toInt ≤ 1) (hbx : 0 ≤ (p1).toInt ∧ (p1).toInt < 8) : ∀ q : Int32 × (Nat → Int32) × (Nat → Int32) × (Nat → Int32), q = f_X11_letOf branches stand seen kindOf onOf seenBranch seenBegins seenWins winner wonBy p1 → gMi l yX11_letOf wsX11_letOf rm_X11_letOf D E (tM cA) [.ref (a 0), .int p1] (wM a cA hedges branches stand turn cuts asks seen pageLength isWhole newBranches gameCuts isKept keptHedge keptStand keptTurn keptCuts keptSeen seedNow hsh kindOf onOf seenBranch seenBegins seenWins page winner lasting worthBy wonBy keptKind keptBranch keptBegins keptWins partsBy) (wM a cA hedges branches stand turn cuts asks seen pageLength isWhole newBranches gameCuts isKept keptHedge keptStand keptTurn keptCuts keptSeen seedNow hsh q.2.1 onOf seenBranch seenBegins seenWins page q.2.2.1 lasting worthBy q.2.2.2 keptKind keptBranch keptBegins keptWins partsBy) q.1 := by
  intro q he0
  refine gM_of (cc := cX11_letOf) (maxL := 3) (ret := (some .int)) (Qf := gQi D (wM a cA hedges branches stand turn cuts asks seen pageLength isWhole newBranches gameCuts isKept keptHedge keptStand keptTurn keptCuts keptSeen seedNow hsh q.2.1 onOf seenBranch seenBegins seenWins page q.2.2.1 lasting worthBy q.2.2.2 keptKind keptBranch keptBegins keptWins partsBy) q.1) (by decide) rfl (Nat.le_of_ble_eq_true rfl) ?_
  intro p e s m args below meth c Z ls Qz hx hb hr hml hlocks hown hts hS hX hl hq
  have he := he0.trans f_X11_letOf_s
  have hown : s.vm.findClass RX11 = some m.cls := hown
  have hl : lv_has ls 3 [(0, .ref (a 0)), (1, .int p1)] := hl
  have tm1 : ((-1 : Int32)).toInt = -1 := rfl
  have t0 : ((0 : Int32)).toInt = 0 := rfl
  have t1 : ((1 : Int32)).toInt = 1 := rfl
  refine lv_aload_n hx hb dX11_letOf_0 rfl (lv_at hl 0 rfl) ?_
  refine lv_iload_n hx hb dX11_letOf_1 rfl (lv_at hl 1 rfl) ?_
  obtain ⟨z_1, e2⟩ : ∃ z, z = (f_X11_sortsOf branches stand seen kindOf onOf seenBranch seenBegins seenWins winner wonBy p1) := ⟨_, rfl⟩
  rw [← e2] at he
  try dsimp only at he
  refine g_Vi (r := z_1.1) (w2 := (wM a cA hedges branches stand turn cuts asks seen pageLength isWhole newBranches gameCuts isKept keptHedge keptStand keptTurn keptCuts keptSeen seedNow hsh z_1.2.1 onOf seenBranch seenBegins seenWins page z_1.2.2.1 lasting worthBy z_1.2.2.2 keptKind keptBranch keptBegins keptWins partsBy)) (As := [.int p1]) (rest := []) (ci := 11) (q0 := 0) ⟨hx, hb, hml, hown, hts⟩ hS hX (k_X11_sortsOf p1 (by omega) (by omega) (by omega) (by assumption) (by omega) z_1 e2) (cwV 1 hts gX11_letOf_X11_sortsOf rfl rfl rfl (by decide +kernel) ⟨Nat.le_of_ble_eq_true rfl, Nat.le_of_ble_eq_true rfl⟩) rfl rfl rfl hl.1 rfl (Nat.le_of_ble_eq_true rfl) dX11_letOf_2 ⟨Nat.zero_le _, Nat.zero_le _⟩ (fun H locs hX => ?_)
  refine lv_istore_n (lv' := [(2, .int z_1.1), (0, .ref (a 0)), (1, .int p1)]) hx hb dX11_letOf_5 rfl hl (by decide) rfl (fun ls hl => ?_)
  refine lv_iload_n hx hb dX11_letOf_6 rfl (lv_at hl 0 rfl) ?_
  refine lv_if_ne (tgt := 12) hx hb dX11_letOf_7 (by decide) (fun c7 => ?_) (fun c7 => ?_)
  · have he := he.trans (if_neg c7)
    have d7 := i_ne c7
    refine lv_aload_n hx hb dX11_letOf_12 rfl (lv_at hl 1 rfl) ?_
    refine lv_iload_n hx hb dX11_letOf_13 rfl (lv_at hl 0 rfl) ?_
    refine lv_iconst (v := (1 : Int32)) hx hb dX11_letOf_14 (by decide) ?_
    obtain ⟨r_2, e15⟩ : ∃ z, z = (f_X11_worstBy z_1.2.2.2 z_1.1 (1 : Int32)) := ⟨_, rfl⟩
    rw [← e15] at he
    refine g_Vi (r := r_2) (As := [.int z_1.1, .int (1 : Int32)]) (rest := []) (ci := 11) (q0 := 0) ⟨hx, hb, hml, hown, hts⟩ hS hX (k_X11_worstBy z_1.1 (1 : Int32) (by omega) r_2 e15) (cwV 2 hts gX11_letOf_X11_worstBy rfl rfl rfl (by decide +kernel) ⟨Nat.le_of_ble_eq_true rfl, Nat.le_of_ble_eq_true rfl⟩) rfl rfl rfl hl.1 rfl (Nat.le_of_ble_eq_true rfl) dX11_letOf_15 ⟨Nat.zero_le _, Nat.zero_le _⟩ (fun H locs hX => ?_)
    refine lv_aload_n hx hb dX11_letOf_18 rfl (lv_at hl 1 rfl) ?_
    refine lv_iload_n hx hb dX11_letOf_19 rfl (lv_at hl 0 rfl) ?_
    refine lv_iconst (v := (0 : Int32)) hx hb dX11_letOf_20 (by decide) ?_
    obtain ⟨r_3, e21⟩ : ∃ z, z = (f_X11_worstBy z_1.2.2.2 z_1.1 (0 : Int32)) := ⟨_, rfl⟩
    rw [← e21] at he
    refine g_Vi (r := r_3) (As := [.int z_1.1, .int (0 : Int32)]) (rest := [.int r_2]) (ci := 11) (q0 := 0) ⟨hx, hb, hml, hown, hts⟩ hS hX (k_X11_worstBy z_1.1 (0 : Int32) (by omega) r_3 e21) (cwV 2 hts gX11_letOf_X11_worstBy rfl rfl rfl (by decide +kernel) ⟨Nat.le_of_ble_eq_true rfl, Nat.le_of_ble_eq_true rfl⟩) rfl rfl rfl hl.1 rfl (Nat.le_of_ble_eq_true rfl) dX11_letOf_21 ⟨Nat.zero_le _, Nat.zero_le _⟩ (fun H locs hX => ?_)
    refine lv_icmp_ge (tgt := 31) hx hb dX11_letOf_24 (by decide) (fun c24 => ?_) (fun c24 => ?_)
    · have he := he.trans (if_pos c24)
      have d24 := i_le c24
      refine lv_iconst (v := (0 : Int32)) hx hb dX11_letOf_31 (by decide) ?_
      subst he
      exact g_iret hx hb hr hlocks hX hq rfl dX11_letOf_32
    · have he := he.trans (if_neg c24)
      have d24 := i_nle c24
      refine lv_iconst (v := (1 : Int32)) hx hb dX11_letOf_27 (by decide) ?_
      refine lv_goto (tgt := 32) hx hb dX11_letOf_28 (by decide) ?_
      subst he
      exact g_iret hx hb hr hlocks hX hq rfl dX11_letOf_32
  · have he := he.trans (if_pos c7)
    have d7 := i_eq c7
    refine lv_iconst (v := (-1 : Int32)) hx hb dX11_letOf_10 (by decide) ?_
    subst he
    exact g_iret hx hb hr hlocks hX hq rfl dX11_letOf_11
abbrev rm_X11_branchNow : Room := { frames := 8, cells := 0, slots := 0, locals := 182 }
set_option maxHeartbeats 4000000 in
set_option maxRecDepth 100000 in
theorem k_X11_branchNow {l : Launch} {D : va_G} {E : sE} {a : Nat → Nat} {cA : Nat → ClassId} {hedges : Int32} {branches : Int32} {stand : Int32} {turn : Int32} {cuts : Int32} {asks : Int32} {seen : Int32} {pageLength : Int32} {isWhole : Int32} {newBranches : Int32} {gameCuts : Int32} {isKept : Int32} {keptHedge : Int32} {keptStand : Int32} {keptTurn : Int32} {keptCuts : Int32} {keptSeen : Int32} {seedNow : Int64} {hsh : Int64} {kindOf : Nat → Int32} {onOf : Nat → Int32} {seenBranch : Nat → Int32} {seenBegins : Nat → Int32} {seenWins : Nat → Int32} {page : Nat → Int32} {winner : Nat → Int32} {lasting : Nat → Int32} {worthBy : Nat → Int32} {wonBy : Nat → Int32} {keptKind : Nat → Int32} {keptBranch : Nat → Int32} {keptBegins : Nat → Int32} {keptWins : Nat → Int32} {partsBy : Nat → Int64} (p1 : Int32) (p2 : Int32) (hbr : 0 ≤ (branches).toInt ∧ (branches).toInt ≤ 8) (hst : 0 ≤ (stand).toInt ∧ (stand).toInt < 256) (hse : 0 ≤ (seen).toInt ∧ (seen).toInt ≤ 6) (hsb : ∀ k : Nat, (k : Int) < (seen).toInt → 0 ≤ (seenBegins k).toInt ∧ (seenBegins k).toInt ≤ 1) (hbx : 0 ≤ (p1).toInt ∧ (p1).toInt < 8) : ∀ q : Int32 × (Nat → Int32) × (Nat → Int32) × (Nat → Int32), q = f_X11_branchNow branches stand seen kindOf onOf seenBranch seenBegins seenWins winner wonBy p1 p2 → gMi l yX11_branchNow wsX11_branchNow rm_X11_branchNow D E (tM cA) [.ref (a 0), .int p1, .int p2] (wM a cA hedges branches stand turn cuts asks seen pageLength isWhole newBranches gameCuts isKept keptHedge keptStand keptTurn keptCuts keptSeen seedNow hsh kindOf onOf seenBranch seenBegins seenWins page winner lasting worthBy wonBy keptKind keptBranch keptBegins keptWins partsBy) (wM a cA hedges branches stand turn cuts asks seen pageLength isWhole newBranches gameCuts isKept keptHedge keptStand keptTurn keptCuts keptSeen seedNow hsh q.2.1 onOf seenBranch seenBegins seenWins page q.2.2.1 lasting worthBy q.2.2.2 keptKind keptBranch keptBegins keptWins partsBy) q.1 := by
  intro q he0
  refine gM_of (cc := cX11_branchNow) (maxL := 3) (ret := (some .int)) (Qf := gQi D (wM a cA hedges branches stand turn cuts asks seen pageLength isWhole newBranches gameCuts isKept keptHedge keptStand keptTurn keptCuts keptSeen seedNow hsh q.2.1 onOf seenBranch seenBegins seenWins page q.2.2.1 lasting worthBy q.2.2.2 keptKind keptBranch keptBegins keptWins partsBy) q.1) (by decide) rfl (Nat.le_of_ble_eq_true rfl) ?_
  intro p e s m args below meth c Z ls Qz hx hb hr hml hlocks hown hts hS hX hl hq
  have he := he0.trans f_X11_branchNow_s
  have hown : s.vm.findClass RX11 = some m.cls := hown
  have hl : lv_has ls 3 [(0, .ref (a 0)), (1, .int p1), (2, .int p2)] := hl
  have hi_X11 : ∀ w ∈ u_ws RX11 TX11 34, w ∈ wsX11_branchNow := fun _ h => List.mem_cons_of_mem _ (List.mem_append_right _ h)
  have l_fieldLink_13 := hts (Cond.fieldLink RX11 13 "HedgeGameModel" "onOf" "[I") (List.mem_of_getElem? (i := 2) rfl)
  have l_fieldLink_7 := hts (Cond.fieldLink RX11 7 "HedgeGameModel" "kindOf" "[I") (List.mem_of_getElem? (i := 1) rfl)
  have l_fieldLink_86 := hts (Cond.fieldLink RX11 86 "HedgeGameModel" "stand" "I") (List.mem_of_getElem? (i := 3) rfl)
  have t0 : ((0 : Int32)).toInt = 0 := rfl
  have t1 : ((1 : Int32)).toInt = 1 := rfl
  have t3 : ((3 : Int32)).toInt = 3 := rfl
  refine lv_iload_n hx hb dX11_branchNow_0 rfl (lv_at hl 2 rfl) ?_
  by_cases q1_0 : p2 = (0 : Int32)
  · have he := he.trans (if_pos q1_0)
    refine lv_tableIn (tgt := 44) (off := 43) hx hb dX11_branchNow_1 (by rw [q1_0]; decide) (by rw [q1_0]; decide) (by rw [q1_0]; rfl) (by decide) ?_
    refine lv_aload_n hx hb dX11_branchNow_44 rfl (lv_at hl 0 rfl) ?_
    refine va_get (D := D) (ci := 11) (v := .ref (a 1)) (C := RX11) (T := TX11) (N := 34) hx hb hts hi_X11 hown hS.1 hX.1 0 rfl rfl 2 (by decide) l_fieldLink_7 (fun _ h9 => h9) rfl dX11_branchNow_45 ?_
    refine lv_iload_n hx hb dX11_branchNow_48 rfl (lv_at hl 1 rfl) ?_
    refine va_iald hx hb hS.1 hX.1 1 0 rfl rfl (vp_in_iff.mpr (by omega)) dX11_branchNow_49 ?_
    subst he
    exact g_iret hx hb hr hlocks hX hq rfl dX11_branchNow_50
  · have he := he.trans (if_neg q1_0)
    by_cases q1_1 : p2 = (1 : Int32)
    · have he := he.trans (if_pos q1_1)
      refine lv_tableIn (tgt := 51) (off := 50) hx hb dX11_branchNow_1 (by rw [q1_1]; decide) (by rw [q1_1]; decide) (by rw [q1_1]; rfl) (by decide) ?_
      refine lv_aload_n hx hb dX11_branchNow_51 rfl (lv_at hl 0 rfl) ?_
      refine va_get (D := D) (ci := 11) (v := .ref (a 2)) (C := RX11) (T := TX11) (N := 34) hx hb hts hi_X11 hown hS.1 hX.1 0 rfl rfl 3 (by decide) l_fieldLink_13 (fun _ h9 => h9) rfl dX11_branchNow_52 ?_
      refine lv_iload_n hx hb dX11_branchNow_55 rfl (lv_at hl 1 rfl) ?_
      refine va_iald hx hb hS.1 hX.1 2 1 rfl rfl (vp_in_iff.mpr (by omega)) dX11_branchNow_56 ?_
      subst he
      exact g_iret hx hb hr hlocks hX hq rfl dX11_branchNow_57
    · have he := he.trans (if_neg q1_1)
      by_cases q1_2 : p2 = (2 : Int32)
      · have he := he.trans (if_pos q1_2)
        refine lv_tableIn (tgt := 58) (off := 57) hx hb dX11_branchNow_1 (by rw [q1_2]; decide) (by rw [q1_2]; decide) (by rw [q1_2]; rfl) (by decide) ?_
        refine lv_aload_n hx hb dX11_branchNow_58 rfl (lv_at hl 0 rfl) ?_
        refine va_get (D := D) (ci := 11) (v := .int stand) (C := RX11) (T := TX11) (N := 34) hx hb hts hi_X11 hown hS.1 hX.1 0 rfl rfl 4 (by decide) l_fieldLink_86 (fun _ h9 => h9) rfl dX11_branchNow_59 ?_
        refine lv_iload_n hx hb dX11_branchNow_62 rfl (lv_at hl 1 rfl) ?_
        obtain ⟨r_1, e63⟩ : ∃ z, z = (f_X11_isIn stand p1) := ⟨_, rfl⟩
        rw [← e63] at he
        refine g_Si (r := r_1) (As := [.int stand, .int p1]) (rest := []) ⟨hx, hb, hml, hown, hts⟩ hS hX (k_X11_isIn stand p1 r_1 e63) (va_cwS 2 hts gX11_branchNow_X11_isIn rfl rfl rfl (by decide +kernel) ⟨Nat.le_of_ble_eq_true rfl, Nat.le_of_ble_eq_true rfl⟩) rfl hl.1 rfl (Nat.le_of_ble_eq_true rfl) dX11_branchNow_63 ⟨Nat.zero_le _, Nat.zero_le _⟩ (fun H locs hX => ?_)
        refine lv_if_eq (tgt := 73) hx hb dX11_branchNow_66 (by decide) (fun c66 => ?_) (fun c66 => ?_)
        · have he := he.trans (if_pos c66)
          have d66 := i_eq c66
          refine lv_iconst (v := (0 : Int32)) hx hb dX11_branchNow_73 (by decide) ?_
          subst he
          exact g_iret hx hb hr hlocks hX hq rfl dX11_branchNow_74
        · have he := he.trans (if_neg c66)
          have d66 := i_ne c66
          refine lv_iconst (v := (1 : Int32)) hx hb dX11_branchNow_69 (by decide) ?_
          refine lv_goto (tgt := 74) hx hb dX11_branchNow_70 (by decide) ?_
          subst he
          exact g_iret hx hb hr hlocks hX hq rfl dX11_branchNow_74
      · have he := he.trans (if_neg q1_2)
        by_cases q1_3 : p2 = (3 : Int32)
        · have he := he.trans (if_pos q1_3)
          refine lv_tableIn (tgt := 75) (off := 74) hx hb dX11_branchNow_1 (by rw [q1_3]; decide) (by rw [q1_3]; decide) (by rw [q1_3]; rfl) (by decide) ?_
          refine lv_aload_n hx hb dX11_branchNow_75 rfl (lv_at hl 0 rfl) ?_
          refine lv_iload_n hx hb dX11_branchNow_76 rfl (lv_at hl 2 rfl) ?_
          refine lv_iconst (v := (3 : Int32)) hx hb dX11_branchNow_77 (by decide) ?_
          refine lv_isub hx hb dX11_branchNow_78 ?_
          refine lv_iload_n hx hb dX11_branchNow_79 rfl (lv_at hl 1 rfl) ?_
          refine lv_aload_n hx hb dX11_branchNow_80 rfl (lv_at hl 0 rfl) ?_
          refine va_get (D := D) (ci := 11) (v := .int stand) (C := RX11) (T := TX11) (N := 34) hx hb hts hi_X11 hown hS.1 hX.1 0 rfl rfl 4 (by decide) l_fieldLink_86 (fun _ h9 => h9) rfl dX11_branchNow_81 ?_
          obtain ⟨r_2, e84⟩ : ∃ z, z = (f_X11_mayCut branches kindOf onOf (p2 - (3 : Int32)) p1 stand) := ⟨_, rfl⟩
          rw [← e84] at he
          refine g_Vi (r := r_2) (As := [.int (p2 - (3 : Int32)), .int p1, .int stand]) (rest := []) (ci := 11) (q0 := 0) ⟨hx, hb, hml, hown, hts⟩ hS hX (k_X11_mayCut (p2 - (3 : Int32)) p1 stand (by omega) (by omega) r_2 e84) (cwV 3 hts gX11_branchNow_X11_mayCut rfl rfl rfl (by decide +kernel) ⟨Nat.le_of_ble_eq_true rfl, Nat.le_of_ble_eq_true rfl⟩) rfl rfl rfl hl.1 rfl (Nat.le_of_ble_eq_true rfl) dX11_branchNow_84 ⟨Nat.zero_le _, Nat.zero_le _⟩ (fun H locs hX => ?_)
          refine lv_if_eq (tgt := 94) hx hb dX11_branchNow_87 (by decide) (fun c87 => ?_) (fun c87 => ?_)
          · have he := he.trans (if_pos c87)
            have d87 := i_eq c87
            refine lv_iconst (v := (0 : Int32)) hx hb dX11_branchNow_94 (by decide) ?_
            subst he
            exact g_iret hx hb hr hlocks hX hq rfl dX11_branchNow_95
          · have he := he.trans (if_neg c87)
            have d87 := i_ne c87
            refine lv_iconst (v := (1 : Int32)) hx hb dX11_branchNow_90 (by decide) ?_
            refine lv_goto (tgt := 95) hx hb dX11_branchNow_91 (by decide) ?_
            subst he
            exact g_iret hx hb hr hlocks hX hq rfl dX11_branchNow_95
        · have he := he.trans (if_neg q1_3)
          by_cases q1_4 : p2 = (4 : Int32)
          · have he := he.trans (if_pos q1_4)
            refine lv_tableIn (tgt := 75) (off := 74) hx hb dX11_branchNow_1 (by rw [q1_4]; decide) (by rw [q1_4]; decide) (by rw [q1_4]; rfl) (by decide) ?_
            refine lv_aload_n hx hb dX11_branchNow_75 rfl (lv_at hl 0 rfl) ?_
            refine lv_iload_n hx hb dX11_branchNow_76 rfl (lv_at hl 2 rfl) ?_
            refine lv_iconst (v := (3 : Int32)) hx hb dX11_branchNow_77 (by decide) ?_
            refine lv_isub hx hb dX11_branchNow_78 ?_
            refine lv_iload_n hx hb dX11_branchNow_79 rfl (lv_at hl 1 rfl) ?_
            refine lv_aload_n hx hb dX11_branchNow_80 rfl (lv_at hl 0 rfl) ?_
            refine va_get (D := D) (ci := 11) (v := .int stand) (C := RX11) (T := TX11) (N := 34) hx hb hts hi_X11 hown hS.1 hX.1 0 rfl rfl 4 (by decide) l_fieldLink_86 (fun _ h9 => h9) rfl dX11_branchNow_81 ?_
            obtain ⟨r_3, e84⟩ : ∃ z, z = (f_X11_mayCut branches kindOf onOf (p2 - (3 : Int32)) p1 stand) := ⟨_, rfl⟩
            rw [← e84] at he
            refine g_Vi (r := r_3) (As := [.int (p2 - (3 : Int32)), .int p1, .int stand]) (rest := []) (ci := 11) (q0 := 0) ⟨hx, hb, hml, hown, hts⟩ hS hX (k_X11_mayCut (p2 - (3 : Int32)) p1 stand (by omega) (by omega) r_3 e84) (cwV 3 hts gX11_branchNow_X11_mayCut rfl rfl rfl (by decide +kernel) ⟨Nat.le_of_ble_eq_true rfl, Nat.le_of_ble_eq_true rfl⟩) rfl rfl rfl hl.1 rfl (Nat.le_of_ble_eq_true rfl) dX11_branchNow_84 ⟨Nat.zero_le _, Nat.zero_le _⟩ (fun H locs hX => ?_)
            refine lv_if_eq (tgt := 94) hx hb dX11_branchNow_87 (by decide) (fun c87 => ?_) (fun c87 => ?_)
            · have he := he.trans (if_pos c87)
              have d87 := i_eq c87
              refine lv_iconst (v := (0 : Int32)) hx hb dX11_branchNow_94 (by decide) ?_
              subst he
              exact g_iret hx hb hr hlocks hX hq rfl dX11_branchNow_95
            · have he := he.trans (if_neg c87)
              have d87 := i_ne c87
              refine lv_iconst (v := (1 : Int32)) hx hb dX11_branchNow_90 (by decide) ?_
              refine lv_goto (tgt := 95) hx hb dX11_branchNow_91 (by decide) ?_
              subst he
              exact g_iret hx hb hr hlocks hX hq rfl dX11_branchNow_95
          · have he := he.trans (if_neg q1_4)
            by_cases q1_5 : p2 = (5 : Int32)
            · have he := he.trans (if_pos q1_5)
              refine lv_tableIn (tgt := 96) (off := 95) hx hb dX11_branchNow_1 (by rw [q1_5]; decide) (by rw [q1_5]; decide) (by rw [q1_5]; rfl) (by decide) ?_
              refine lv_aload_n hx hb dX11_branchNow_96 rfl (lv_at hl 0 rfl) ?_
              refine lv_iload_n hx hb dX11_branchNow_97 rfl (lv_at hl 1 rfl) ?_
              obtain ⟨r_4, e98⟩ : ∃ z, z = (f_X11_above branches onOf p1) := ⟨_, rfl⟩
              rw [← e98] at he
              refine g_Vi (r := r_4) (As := [.int p1]) (rest := []) (ci := 11) (q0 := 0) ⟨hx, hb, hml, hown, hts⟩ hS hX (k_X11_above p1 (by omega) (by omega) r_4 e98) (cwV 1 hts gX11_branchNow_X11_above rfl rfl rfl (by decide +kernel) ⟨Nat.le_of_ble_eq_true rfl, Nat.le_of_ble_eq_true rfl⟩) rfl rfl rfl hl.1 rfl (Nat.le_of_ble_eq_true rfl) dX11_branchNow_98 ⟨Nat.zero_le _, Nat.zero_le _⟩ (fun H locs hX => ?_)
              subst he
              exact g_iret hx hb hr hlocks hX hq rfl dX11_branchNow_101
            · have he := he.trans (if_neg q1_5)
              by_cases q1_6 : p2 = (6 : Int32)
              · have he := he.trans (if_pos q1_6)
                refine lv_tableIn (tgt := 102) (off := 101) hx hb dX11_branchNow_1 (by rw [q1_6]; decide) (by rw [q1_6]; decide) (by rw [q1_6]; rfl) (by decide) ?_
                refine lv_aload_n hx hb dX11_branchNow_102 rfl (lv_at hl 0 rfl) ?_
                refine lv_iload_n hx hb dX11_branchNow_103 rfl (lv_at hl 1 rfl) ?_
                obtain ⟨z_5, e104⟩ : ∃ z, z = (f_X11_sortsOf branches stand seen kindOf onOf seenBranch seenBegins seenWins winner wonBy p1) := ⟨_, rfl⟩
                rw [← e104] at he
                try dsimp only at he
                refine g_Vi (r := z_5.1) (w2 := (wM a cA hedges branches stand turn cuts asks seen pageLength isWhole newBranches gameCuts isKept keptHedge keptStand keptTurn keptCuts keptSeen seedNow hsh z_5.2.1 onOf seenBranch seenBegins seenWins page z_5.2.2.1 lasting worthBy z_5.2.2.2 keptKind keptBranch keptBegins keptWins partsBy)) (As := [.int p1]) (rest := []) (ci := 11) (q0 := 0) ⟨hx, hb, hml, hown, hts⟩ hS hX (k_X11_sortsOf p1 (by omega) (by omega) (by omega) (by assumption) (by omega) z_5 e104) (cwV 1 hts gX11_branchNow_X11_sortsOf rfl rfl rfl (by decide +kernel) ⟨Nat.le_of_ble_eq_true rfl, Nat.le_of_ble_eq_true rfl⟩) rfl rfl rfl hl.1 rfl (Nat.le_of_ble_eq_true rfl) dX11_branchNow_104 ⟨Nat.zero_le _, Nat.zero_le _⟩ (fun H locs hX => ?_)
                subst he
                exact g_iret hx hb hr hlocks hX hq rfl dX11_branchNow_107
              · have he := he.trans (if_neg q1_6)
                have hne : p2.toInt < 0 ∨ 6 < p2.toInt := by
                  have z0 := i_ne q1_0
                  have y0 : ((0 : Int32)).toInt = 0 := rfl
                  have z1 := i_ne q1_1
                  have y1 : ((1 : Int32)).toInt = 1 := rfl
                  have z2 := i_ne q1_2
                  have y2 : ((2 : Int32)).toInt = 2 := rfl
                  have z3 := i_ne q1_3
                  have y3 : ((3 : Int32)).toInt = 3 := rfl
                  have z4 := i_ne q1_4
                  have y4 : ((4 : Int32)).toInt = 4 := rfl
                  have z5 := i_ne q1_5
                  have y5 : ((5 : Int32)).toInt = 5 := rfl
                  have z6 := i_ne q1_6
                  have y6 : ((6 : Int32)).toInt = 6 := rfl
                  omega
                refine lv_tableOut (tgt := 108) hx hb dX11_branchNow_1 hne (by decide) ?_
                refine lv_aload_n hx hb dX11_branchNow_108 rfl (lv_at hl 0 rfl) ?_
                refine lv_iload_n hx hb dX11_branchNow_109 rfl (lv_at hl 1 rfl) ?_
                obtain ⟨z_6, e110⟩ : ∃ z, z = (f_X11_letOf branches stand seen kindOf onOf seenBranch seenBegins seenWins winner wonBy p1) := ⟨_, rfl⟩
                rw [← e110] at he
                try dsimp only at he
                refine g_Vi (r := z_6.1) (w2 := (wM a cA hedges branches stand turn cuts asks seen pageLength isWhole newBranches gameCuts isKept keptHedge keptStand keptTurn keptCuts keptSeen seedNow hsh z_6.2.1 onOf seenBranch seenBegins seenWins page z_6.2.2.1 lasting worthBy z_6.2.2.2 keptKind keptBranch keptBegins keptWins partsBy)) (As := [.int p1]) (rest := []) (ci := 11) (q0 := 0) ⟨hx, hb, hml, hown, hts⟩ hS hX (k_X11_letOf p1 (by omega) (by omega) (by omega) (by assumption) (by omega) z_6 e110) (cwV 1 hts gX11_branchNow_X11_letOf rfl rfl rfl (by decide +kernel) ⟨Nat.le_of_ble_eq_true rfl, Nat.le_of_ble_eq_true rfl⟩) rfl rfl rfl hl.1 rfl (Nat.le_of_ble_eq_true rfl) dX11_branchNow_110 ⟨Nat.zero_le _, Nat.zero_le _⟩ (fun H locs hX => ?_)
                subst he
                exact g_iret hx hb hr hlocks hX hq rfl dX11_branchNow_113
abbrev rm_X11_branch : Room := { frames := 9, cells := 0, slots := 0, locals := 204 }
set_option maxHeartbeats 4000000 in
set_option maxRecDepth 100000 in
theorem k_X11_branch {l : Launch} {D : va_G} {E : sE} {a : Nat → Nat} {cA : Nat → ClassId} {hedges : Int32} {branches : Int32} {stand : Int32} {turn : Int32} {cuts : Int32} {asks : Int32} {seen : Int32} {pageLength : Int32} {isWhole : Int32} {newBranches : Int32} {gameCuts : Int32} {isKept : Int32} {keptHedge : Int32} {keptStand : Int32} {keptTurn : Int32} {keptCuts : Int32} {keptSeen : Int32} {seedNow : Int64} {hsh : Int64} {kindOf : Nat → Int32} {onOf : Nat → Int32} {seenBranch : Nat → Int32} {seenBegins : Nat → Int32} {seenWins : Nat → Int32} {page : Nat → Int32} {winner : Nat → Int32} {lasting : Nat → Int32} {worthBy : Nat → Int32} {wonBy : Nat → Int32} {keptKind : Nat → Int32} {keptBranch : Nat → Int32} {keptBegins : Nat → Int32} {keptWins : Nat → Int32} {partsBy : Nat → Int64} (p1 : Int32) (p2 : Int32) (hbr : 0 ≤ (branches).toInt ∧ (branches).toInt ≤ 8) (hst : 0 ≤ (stand).toInt ∧ (stand).toInt < 256) (hse : 0 ≤ (seen).toInt ∧ (seen).toInt ≤ 6) (hsb : ∀ k : Nat, (k : Int) < (seen).toInt → 0 ≤ (seenBegins k).toInt ∧ (seenBegins k).toInt ≤ 1) : ∀ q : Int32 × (Nat → Int32) × (Nat → Int32) × (Nat → Int32), q = f_X11_branch branches stand seen kindOf onOf seenBranch seenBegins seenWins winner wonBy p1 p2 → gMi l yX11_branch wsX11_branch rm_X11_branch D E (tM cA) [.ref (a 0), .int p1, .int p2] (wM a cA hedges branches stand turn cuts asks seen pageLength isWhole newBranches gameCuts isKept keptHedge keptStand keptTurn keptCuts keptSeen seedNow hsh kindOf onOf seenBranch seenBegins seenWins page winner lasting worthBy wonBy keptKind keptBranch keptBegins keptWins partsBy) (wM a cA hedges branches stand turn cuts asks seen pageLength isWhole newBranches gameCuts isKept keptHedge keptStand keptTurn keptCuts keptSeen seedNow hsh q.2.1 onOf seenBranch seenBegins seenWins page q.2.2.1 lasting worthBy q.2.2.2 keptKind keptBranch keptBegins keptWins partsBy) q.1 := by
  intro q he0
  refine gM_of (cc := cX11_branch) (maxL := 3) (ret := (some .int)) (Qf := gQi D (wM a cA hedges branches stand turn cuts asks seen pageLength isWhole newBranches gameCuts isKept keptHedge keptStand keptTurn keptCuts keptSeen seedNow hsh q.2.1 onOf seenBranch seenBegins seenWins page q.2.2.1 lasting worthBy q.2.2.2 keptKind keptBranch keptBegins keptWins partsBy) q.1) (by decide) rfl (Nat.le_of_ble_eq_true rfl) ?_
  intro p e s m args below meth c Z ls Qz hx hb hr hml hlocks hown hts hS hX hl hq
  have he := he0.trans f_X11_branch_s
  have hown : s.vm.findClass RX11 = some m.cls := hown
  have hl : lv_has ls 3 [(0, .ref (a 0)), (1, .int p1), (2, .int p2)] := hl
  have tm102 : ((-102 : Int32)).toInt = -102 := rfl
  have tm101 : ((-101 : Int32)).toInt = -101 := rfl
  have t0 : ((0 : Int32)).toInt = 0 := rfl
  have t1 : ((1 : Int32)).toInt = 1 := rfl
  have t7 : ((7 : Int32)).toInt = 7 := rfl
  refine lv_aload_n hx hb dX11_branch_0 rfl (lv_at hl 0 rfl) ?_
  refine lv_iload_n hx hb dX11_branch_1 rfl (lv_at hl 1 rfl) ?_
  obtain ⟨r_1, e2⟩ : ∃ z, z = (f_X11_isBranch branches p1) := ⟨_, rfl⟩
  rw [← e2] at he
  refine g_Vi (r := r_1) (As := [.int p1]) (rest := []) (ci := 11) (q0 := 0) ⟨hx, hb, hml, hown, hts⟩ hS hX (k_X11_isBranch p1 (by omega) r_1 e2) (cwV 1 hts gX11_branch_X11_isBranch rfl rfl rfl (by decide +kernel) ⟨Nat.le_of_ble_eq_true rfl, Nat.le_of_ble_eq_true rfl⟩) rfl rfl rfl hl.1 rfl (Nat.le_of_ble_eq_true rfl) dX11_branch_2 ⟨Nat.zero_le _, Nat.zero_le _⟩ (fun H locs hX => ?_)
  have k2_0 : (r_1).toInt = 0 ∨ ((r_1).toInt = 1 ∧ 0 ≤ (p1).toInt ∧ (p1).toInt < (branches).toInt) := by rw [e2]; exact r_isBranch (by omega)
  refine lv_if_ne (tgt := 13) hx hb dX11_branch_5 (by decide) (fun c5 => ?_) (fun c5 => ?_)
  · have he := he.trans (if_neg c5)
    have d5 := i_ne c5
    refine lv_iload_n hx hb dX11_branch_13 rfl (lv_at hl 2 rfl) ?_
    refine lv_iconst (v := (0 : Int32)) hx hb dX11_branch_14 (by decide) ?_
    refine lv_bipush (v := (7 : Int32)) hx hb dX11_branch_15 (by decide) ?_
    obtain ⟨r_2, e17⟩ : ∃ z, z = (f_X11_within p2 (0 : Int32) (7 : Int32)) := ⟨_, rfl⟩
    rw [← e17] at he
    refine g_Si (r := r_2) (As := [.int p2, .int (0 : Int32), .int (7 : Int32)]) (rest := []) ⟨hx, hb, hml, hown, hts⟩ hS hX (k_X11_within p2 (0 : Int32) (7 : Int32) r_2 e17) (va_cwS 3 hts gX11_branch_X11_within rfl rfl rfl (by decide +kernel) ⟨Nat.le_of_ble_eq_true rfl, Nat.le_of_ble_eq_true rfl⟩) rfl hl.1 rfl (Nat.le_of_ble_eq_true rfl) dX11_branch_17 ⟨Nat.zero_le _, Nat.zero_le _⟩ (fun H locs hX => ?_)
    have k17_0 : (r_2).toInt = 0 ∨ ((r_2).toInt = 1 ∧ ((0 : Int32)).toInt ≤ (p2).toInt ∧ (p2).toInt ≤ ((7 : Int32)).toInt) := by rw [e17]; exact r_within
    refine lv_if_eq (tgt := 32) hx hb dX11_branch_20 (by decide) (fun c20 => ?_) (fun c20 => ?_)
    · have he := he.trans (if_pos c20)
      have d20 := i_eq c20
      refine lv_bipush (v := (-102 : Int32)) hx hb dX11_branch_32 (by decide) ?_
      subst he
      exact g_iret hx hb hr hlocks hX hq rfl dX11_branch_34
    · have he := he.trans (if_neg c20)
      have d20 := i_ne c20
      refine lv_aload_n hx hb dX11_branch_23 rfl (lv_at hl 0 rfl) ?_
      refine lv_iload_n hx hb dX11_branch_24 rfl (lv_at hl 1 rfl) ?_
      refine lv_iload_n hx hb dX11_branch_25 rfl (lv_at hl 2 rfl) ?_
      obtain ⟨z_3, e26⟩ : ∃ z, z = (f_X11_branchNow branches stand seen kindOf onOf seenBranch seenBegins seenWins winner wonBy p1 p2) := ⟨_, rfl⟩
      rw [← e26] at he
      try dsimp only at he
      refine g_Vi (r := z_3.1) (w2 := (wM a cA hedges branches stand turn cuts asks seen pageLength isWhole newBranches gameCuts isKept keptHedge keptStand keptTurn keptCuts keptSeen seedNow hsh z_3.2.1 onOf seenBranch seenBegins seenWins page z_3.2.2.1 lasting worthBy z_3.2.2.2 keptKind keptBranch keptBegins keptWins partsBy)) (As := [.int p1, .int p2]) (rest := []) (ci := 11) (q0 := 0) ⟨hx, hb, hml, hown, hts⟩ hS hX (k_X11_branchNow p1 p2 (by omega) (by omega) (by omega) (by assumption) (by omega) z_3 e26) (cwV 2 hts gX11_branch_X11_branchNow rfl rfl rfl (by decide +kernel) ⟨Nat.le_of_ble_eq_true rfl, Nat.le_of_ble_eq_true rfl⟩) rfl rfl rfl hl.1 rfl (Nat.le_of_ble_eq_true rfl) dX11_branch_26 ⟨Nat.zero_le _, Nat.zero_le _⟩ (fun H locs hX => ?_)
      refine lv_goto (tgt := 34) hx hb dX11_branch_29 (by decide) ?_
      subst he
      exact g_iret hx hb hr hlocks hX hq rfl dX11_branch_34
  · have he := he.trans (if_pos c5)
    have d5 := i_eq c5
    refine lv_bipush (v := (-101 : Int32)) hx hb dX11_branch_8 (by decide) ?_
    refine lv_goto (tgt := 34) hx hb dX11_branch_10 (by decide) ?_
    subst he
    exact g_iret hx hb hr hlocks hX hq rfl dX11_branch_34
abbrev rm_X11_as : Room := { frames := 2, cells := 0, slots := 0, locals := 43 }
set_option maxHeartbeats 4000000 in
set_option maxRecDepth 100000 in
theorem k_X11_as {l : Launch} {D : va_G} {E : sE} {a : Nat → Nat} {cA : Nat → ClassId} {hedges : Int32} {branches : Int32} {stand : Int32} {turn : Int32} {cuts : Int32} {asks : Int32} {seen : Int32} {pageLength : Int32} {isWhole : Int32} {newBranches : Int32} {gameCuts : Int32} {isKept : Int32} {keptHedge : Int32} {keptStand : Int32} {keptTurn : Int32} {keptCuts : Int32} {keptSeen : Int32} {seedNow : Int64} {hsh : Int64} {kindOf : Nat → Int32} {onOf : Nat → Int32} {seenBranch : Nat → Int32} {seenBegins : Nat → Int32} {seenWins : Nat → Int32} {page : Nat → Int32} {winner : Nat → Int32} {lasting : Nat → Int32} {worthBy : Nat → Int32} {wonBy : Nat → Int32} {keptKind : Nat → Int32} {keptBranch : Nat → Int32} {keptBegins : Nat → Int32} {keptWins : Nat → Int32} {partsBy : Nat → Int64} (p1 : Int32) (p2 : Int32) (hbr : 0 ≤ (branches).toInt ∧ (branches).toInt ≤ 8) : ∀ q : Int32, q = f_X11_as branches kindOf p1 p2 → gMi l yX11_as wsX11_as rm_X11_as D E (tM cA) [.ref (a 0), .int p1, .int p2] (wM a cA hedges branches stand turn cuts asks seen pageLength isWhole newBranches gameCuts isKept keptHedge keptStand keptTurn keptCuts keptSeen seedNow hsh kindOf onOf seenBranch seenBegins seenWins page winner lasting worthBy wonBy keptKind keptBranch keptBegins keptWins partsBy) (wM a cA hedges branches stand turn cuts asks seen pageLength isWhole newBranches gameCuts isKept keptHedge keptStand keptTurn keptCuts keptSeen seedNow hsh kindOf onOf seenBranch seenBegins seenWins page winner lasting worthBy wonBy keptKind keptBranch keptBegins keptWins partsBy) q := by
  intro q he0
  refine gM_of (cc := cX11_as) (maxL := 4) (ret := (some .int)) (Qf := gQi D (wM a cA hedges branches stand turn cuts asks seen pageLength isWhole newBranches gameCuts isKept keptHedge keptStand keptTurn keptCuts keptSeen seedNow hsh kindOf onOf seenBranch seenBegins seenWins page winner lasting worthBy wonBy keptKind keptBranch keptBegins keptWins partsBy) q) (by decide) rfl (Nat.le_of_ble_eq_true rfl) ?_
  intro p e s m args below meth c Z ls Qz hx hb hr hml hlocks hown hts hS hX hl hq
  have he := he0.trans f_X11_as_s
  have hown : s.vm.findClass RX11 = some m.cls := hown
  have hl : lv_has ls 4 [(0, .ref (a 0)), (1, .int p1), (2, .int p2)] := hl
  have hi_X11 : ∀ w ∈ u_ws RX11 TX11 34, w ∈ wsX11_as := fun _ h => List.mem_cons_of_mem _ (List.mem_append_right _ h)
  have l_fieldLink_7 := hts (Cond.fieldLink RX11 7 "HedgeGameModel" "kindOf" "[I") (List.mem_of_getElem? (i := 1) rfl)
  have tm102 : ((-102 : Int32)).toInt = -102 := rfl
  have tm101 : ((-101 : Int32)).toInt = -101 := rfl
  have tm1 : ((-1 : Int32)).toInt = -1 := rfl
  have t0 : ((0 : Int32)).toInt = 0 := rfl
  have t1 : ((1 : Int32)).toInt = 1 := rfl
  have t4 : ((4 : Int32)).toInt = 4 := rfl
  refine lv_aload_n hx hb dX11_as_0 rfl (lv_at hl 0 rfl) ?_
  refine lv_iload_n hx hb dX11_as_1 rfl (lv_at hl 1 rfl) ?_
  obtain ⟨r_1, e2⟩ : ∃ z, z = (f_X11_isBranch branches p1) := ⟨_, rfl⟩
  rw [← e2] at he
  refine g_Vi (r := r_1) (As := [.int p1]) (rest := []) (ci := 11) (q0 := 0) ⟨hx, hb, hml, hown, hts⟩ hS hX (k_X11_isBranch p1 (by omega) r_1 e2) (cwV 1 hts gX11_as_X11_isBranch rfl rfl rfl (by decide +kernel) ⟨Nat.le_of_ble_eq_true rfl, Nat.le_of_ble_eq_true rfl⟩) rfl rfl rfl hl.1 rfl (Nat.le_of_ble_eq_true rfl) dX11_as_2 ⟨Nat.zero_le _, Nat.zero_le _⟩ (fun H locs hX => ?_)
  have k2_0 : (r_1).toInt = 0 ∨ ((r_1).toInt = 1 ∧ 0 ≤ (p1).toInt ∧ (p1).toInt < (branches).toInt) := by rw [e2]; exact r_isBranch (by omega)
  refine lv_if_ne (tgt := 11) hx hb dX11_as_5 (by decide) (fun c5 => ?_) (fun c5 => ?_)
  · have he := he.trans (if_neg c5)
    have d5 := i_ne c5
    refine lv_iload_n hx hb dX11_as_11 rfl (lv_at hl 2 rfl) ?_
    refine lv_iconst (v := (0 : Int32)) hx hb dX11_as_12 (by decide) ?_
    refine lv_iconst (v := (4 : Int32)) hx hb dX11_as_13 (by decide) ?_
    obtain ⟨r_2, e14⟩ : ∃ z, z = (f_X11_within p2 (0 : Int32) (4 : Int32)) := ⟨_, rfl⟩
    rw [← e14] at he
    refine g_Si (r := r_2) (As := [.int p2, .int (0 : Int32), .int (4 : Int32)]) (rest := []) ⟨hx, hb, hml, hown, hts⟩ hS hX (k_X11_within p2 (0 : Int32) (4 : Int32) r_2 e14) (va_cwS 3 hts gX11_as_X11_within rfl rfl rfl (by decide +kernel) ⟨Nat.le_of_ble_eq_true rfl, Nat.le_of_ble_eq_true rfl⟩) rfl hl.1 rfl (Nat.le_of_ble_eq_true rfl) dX11_as_14 ⟨Nat.zero_le _, Nat.zero_le _⟩ (fun H locs hX => ?_)
    have k14_0 : (r_2).toInt = 0 ∨ ((r_2).toInt = 1 ∧ ((0 : Int32)).toInt ≤ (p2).toInt ∧ (p2).toInt ≤ ((4 : Int32)).toInt) := by rw [e14]; exact r_within
    refine lv_if_ne (tgt := 23) hx hb dX11_as_17 (by decide) (fun c17 => ?_) (fun c17 => ?_)
    · have he := he.trans (if_neg c17)
      have d17 := i_ne c17
      refine lv_aload_n hx hb dX11_as_23 rfl (lv_at hl 0 rfl) ?_
      refine va_get (D := D) (ci := 11) (v := .ref (a 1)) (C := RX11) (T := TX11) (N := 34) hx hb hts hi_X11 hown hS.1 hX.1 0 rfl rfl 2 (by decide) l_fieldLink_7 (fun _ h9 => h9) rfl dX11_as_24 ?_
      refine lv_iload_n hx hb dX11_as_27 rfl (lv_at hl 1 rfl) ?_
      refine va_iald hx hb hS.1 hX.1 1 0 rfl rfl (vp_in_iff.mpr (by omega)) dX11_as_28 ?_
      refine lv_istore_n (lv' := [(3, .int (kindOf (p1).toNatClampNeg)), (0, .ref (a 0)), (1, .int p1), (2, .int p2)]) hx hb dX11_as_29 rfl hl (by decide) rfl (fun ls hl => ?_)
      refine lv_iload_n hx hb dX11_as_30 rfl (lv_at hl 3 rfl) ?_
      refine lv_if_eq (tgt := 49) hx hb dX11_as_31 (by decide) (fun c31 => ?_) (fun c31 => ?_)
      · have he := he.trans (if_pos c31)
        have d31 := i_eq c31
        refine lv_iload_n hx hb dX11_as_49 rfl (lv_at hl 2 rfl) ?_
        refine lv_goto (tgt := 54) hx hb dX11_as_50 (by decide) ?_
        subst he
        exact g_iret hx hb hr hlocks hX hq rfl dX11_as_54
      · have he := he.trans (if_neg c31)
        have d31 := i_ne c31
        refine lv_iload_n hx hb dX11_as_34 rfl (lv_at hl 0 rfl) ?_
        refine lv_iload_n hx hb dX11_as_35 rfl (lv_at hl 3 rfl) ?_
        refine lv_icmp_eq (tgt := 49) hx hb dX11_as_36 (by decide) (fun c36 => ?_) (fun c36 => ?_)
        · have he := he.trans (if_pos c36)
          have d36 := i_eq c36
          refine lv_iload_n hx hb dX11_as_49 rfl (lv_at hl 2 rfl) ?_
          refine lv_goto (tgt := 54) hx hb dX11_as_50 (by decide) ?_
          subst he
          exact g_iret hx hb hr hlocks hX hq rfl dX11_as_54
        · have he := he.trans (if_neg c36)
          have d36 := i_ne c36
          refine lv_iload_n hx hb dX11_as_39 rfl (lv_at hl 3 rfl) ?_
          refine lv_iconst (v := (1 : Int32)) hx hb dX11_as_40 (by decide) ?_
          refine lv_icmp_ne (tgt := 53) hx hb dX11_as_41 (by decide) (fun c41 => ?_) (fun c41 => ?_)
          · have he := he.trans (if_neg c41)
            have d41 := i_ne c41
            refine lv_iconst (v := (-1 : Int32)) hx hb dX11_as_53 (by decide) ?_
            subst he
            exact g_iret hx hb hr hlocks hX hq rfl dX11_as_54
          · have he := he.trans (if_pos c41)
            have d41 := i_eq c41
            refine lv_iload_n hx hb dX11_as_44 rfl (lv_at hl 0 rfl) ?_
            refine lv_iconst (v := (4 : Int32)) hx hb dX11_as_45 (by decide) ?_
            refine lv_icmp_ne (tgt := 53) hx hb dX11_as_46 (by decide) (fun c46 => ?_) (fun c46 => ?_)
            · have he := he.trans (if_neg c46)
              have d46 := i_ne c46
              refine lv_iconst (v := (-1 : Int32)) hx hb dX11_as_53 (by decide) ?_
              subst he
              exact g_iret hx hb hr hlocks hX hq rfl dX11_as_54
            · have he := he.trans (if_pos c46)
              have d46 := i_eq c46
              refine lv_iload_n hx hb dX11_as_49 rfl (lv_at hl 2 rfl) ?_
              refine lv_goto (tgt := 54) hx hb dX11_as_50 (by decide) ?_
              subst he
              exact g_iret hx hb hr hlocks hX hq rfl dX11_as_54
    · have he := he.trans (if_pos c17)
      have d17 := i_eq c17
      refine lv_bipush (v := (-102 : Int32)) hx hb dX11_as_20 (by decide) ?_
      subst he
      exact g_iret hx hb hr hlocks hX hq rfl dX11_as_22
  · have he := he.trans (if_pos c5)
    have d5 := i_eq c5
    refine lv_bipush (v := (-101 : Int32)) hx hb dX11_as_8 (by decide) ?_
    subst he
    exact g_iret hx hb hr hlocks hX hq rfl dX11_as_10
abbrev rm_X11_cut : Room := { frames := 3, cells := 0, slots := 0, locals := 68 }
set_option maxHeartbeats 4000000 in
set_option maxRecDepth 100000 in
theorem k_X11_cut {l : Launch} {D : va_G} {E : sE} {a : Nat → Nat} {cA : Nat → ClassId} {hedges : Int32} {branches : Int32} {stand : Int32} {turn : Int32} {cuts : Int32} {asks : Int32} {seen : Int32} {pageLength : Int32} {isWhole : Int32} {newBranches : Int32} {gameCuts : Int32} {isKept : Int32} {keptHedge : Int32} {keptStand : Int32} {keptTurn : Int32} {keptCuts : Int32} {keptSeen : Int32} {seedNow : Int64} {hsh : Int64} {kindOf : Nat → Int32} {onOf : Nat → Int32} {seenBranch : Nat → Int32} {seenBegins : Nat → Int32} {seenWins : Nat → Int32} {page : Nat → Int32} {winner : Nat → Int32} {lasting : Nat → Int32} {worthBy : Nat → Int32} {wonBy : Nat → Int32} {keptKind : Nat → Int32} {keptBranch : Nat → Int32} {keptBegins : Nat → Int32} {keptWins : Nat → Int32} {partsBy : Nat → Int64} (p1 : Int32) (hbr : 0 ≤ (branches).toInt ∧ (branches).toInt ≤ 8) : ∀ q : Int32 × Int32 × Int32 × Int32, q = f_X11_cut branches stand turn cuts kindOf onOf p1 → gMi l yX11_cut wsX11_cut rm_X11_cut D E (tM cA) [.ref (a 0), .int p1] (wM a cA hedges branches stand turn cuts asks seen pageLength isWhole newBranches gameCuts isKept keptHedge keptStand keptTurn keptCuts keptSeen seedNow hsh kindOf onOf seenBranch seenBegins seenWins page winner lasting worthBy wonBy keptKind keptBranch keptBegins keptWins partsBy) (wM a cA hedges branches q.2.1 q.2.2.1 q.2.2.2 asks seen pageLength isWhole newBranches gameCuts isKept keptHedge keptStand keptTurn keptCuts keptSeen seedNow hsh kindOf onOf seenBranch seenBegins seenWins page winner lasting worthBy wonBy keptKind keptBranch keptBegins keptWins partsBy) q.1 := by
  intro q he0
  refine gM_of (cc := cX11_cut) (maxL := 4) (ret := (some .int)) (Qf := gQi D (wM a cA hedges branches q.2.1 q.2.2.1 q.2.2.2 asks seen pageLength isWhole newBranches gameCuts isKept keptHedge keptStand keptTurn keptCuts keptSeen seedNow hsh kindOf onOf seenBranch seenBegins seenWins page winner lasting worthBy wonBy keptKind keptBranch keptBegins keptWins partsBy) q.1) (by decide) rfl (Nat.le_of_ble_eq_true rfl) ?_
  intro p e s m args below meth c Z ls Qz hx hb hr hml hlocks hown hts hS hX hl hq
  have he := he0.trans f_X11_cut_s
  have hown : s.vm.findClass RX11 = some m.cls := hown
  have hl : lv_has ls 4 [(0, .ref (a 0)), (1, .int p1)] := hl
  have hi_X11 : ∀ w ∈ u_ws RX11 TX11 34, w ∈ wsX11_cut := fun _ h => List.mem_cons_of_mem _ (List.mem_append_right _ h)
  have l_fieldLink_86 := hts (Cond.fieldLink RX11 86 "HedgeGameModel" "stand" "I") (List.mem_of_getElem? (i := 2) rfl)
  have l_fieldLink_89 := hts (Cond.fieldLink RX11 89 "HedgeGameModel" "turn" "I") (List.mem_of_getElem? (i := 1) rfl)
  have l_fieldLink_92 := hts (Cond.fieldLink RX11 92 "HedgeGameModel" "cuts" "I") (List.mem_of_getElem? (i := 3) rfl)
  have tm104 : ((-104 : Int32)).toInt = -104 := rfl
  have tm103 : ((-103 : Int32)).toInt = -103 := rfl
  have tm101 : ((-101 : Int32)).toInt = -101 := rfl
  have t0 : ((0 : Int32)).toInt = 0 := rfl
  have t1 : ((1 : Int32)).toInt = 1 := rfl
  have t999 : ((999 : Int32)).toInt = 999 := rfl
  refine lv_aload_n hx hb dX11_cut_0 rfl (lv_at hl 0 rfl) ?_
  refine lv_iload_n hx hb dX11_cut_1 rfl (lv_at hl 1 rfl) ?_
  obtain ⟨r_1, e2⟩ : ∃ z, z = (f_X11_isBranch branches p1) := ⟨_, rfl⟩
  rw [← e2] at he
  refine g_Vi (r := r_1) (As := [.int p1]) (rest := []) (ci := 11) (q0 := 0) ⟨hx, hb, hml, hown, hts⟩ hS hX (k_X11_isBranch p1 (by omega) r_1 e2) (cwV 1 hts gX11_cut_X11_isBranch rfl rfl rfl (by decide +kernel) ⟨Nat.le_of_ble_eq_true rfl, Nat.le_of_ble_eq_true rfl⟩) rfl rfl rfl hl.1 rfl (Nat.le_of_ble_eq_true rfl) dX11_cut_2 ⟨Nat.zero_le _, Nat.zero_le _⟩ (fun H locs hX => ?_)
  have k2_0 : (r_1).toInt = 0 ∨ ((r_1).toInt = 1 ∧ 0 ≤ (p1).toInt ∧ (p1).toInt < (branches).toInt) := by rw [e2]; exact r_isBranch (by omega)
  refine lv_if_ne (tgt := 11) hx hb dX11_cut_5 (by decide) (fun c5 => ?_) (fun c5 => ?_)
  · have he := he.trans (if_neg c5)
    have d5 := i_ne c5
    refine lv_aload_n hx hb dX11_cut_11 rfl (lv_at hl 0 rfl) ?_
    refine lv_aload_n hx hb dX11_cut_12 rfl (lv_at hl 0 rfl) ?_
    refine va_get (D := D) (ci := 11) (v := .int turn) (C := RX11) (T := TX11) (N := 34) hx hb hts hi_X11 hown hS.1 hX.1 0 rfl rfl 5 (by decide) l_fieldLink_89 (fun _ h9 => h9) rfl dX11_cut_13 ?_
    refine lv_iload_n hx hb dX11_cut_16 rfl (lv_at hl 1 rfl) ?_
    refine lv_aload_n hx hb dX11_cut_17 rfl (lv_at hl 0 rfl) ?_
    refine va_get (D := D) (ci := 11) (v := .int stand) (C := RX11) (T := TX11) (N := 34) hx hb hts hi_X11 hown hS.1 hX.1 0 rfl rfl 4 (by decide) l_fieldLink_86 (fun _ h9 => h9) rfl dX11_cut_18 ?_
    obtain ⟨r_2, e21⟩ : ∃ z, z = (f_X11_mayCut branches kindOf onOf turn p1 stand) := ⟨_, rfl⟩
    rw [← e21] at he
    refine g_Vi (r := r_2) (As := [.int turn, .int p1, .int stand]) (rest := []) (ci := 11) (q0 := 0) ⟨hx, hb, hml, hown, hts⟩ hS hX (k_X11_mayCut turn p1 stand (by omega) (by omega) r_2 e21) (cwV 3 hts gX11_cut_X11_mayCut rfl rfl rfl (by decide +kernel) ⟨Nat.le_of_ble_eq_true rfl, Nat.le_of_ble_eq_true rfl⟩) rfl rfl rfl hl.1 rfl (Nat.le_of_ble_eq_true rfl) dX11_cut_21 ⟨Nat.zero_le _, Nat.zero_le _⟩ (fun H locs hX => ?_)
    refine lv_if_ne (tgt := 30) hx hb dX11_cut_24 (by decide) (fun c24 => ?_) (fun c24 => ?_)
    · have he := he.trans (if_neg c24)
      have d24 := i_ne c24
      refine lv_aload_n hx hb dX11_cut_30 rfl (lv_at hl 0 rfl) ?_
      refine va_get (D := D) (ci := 11) (v := .int cuts) (C := RX11) (T := TX11) (N := 34) hx hb hts hi_X11 hown hS.1 hX.1 0 rfl rfl 6 (by decide) l_fieldLink_92 (fun _ h9 => h9) rfl dX11_cut_31 ?_
      refine lv_sipush (v := (999 : Int32)) hx hb dX11_cut_34 (by decide) ?_
      refine lv_icmp_ne (tgt := 43) hx hb dX11_cut_37 (by decide) (fun c37 => ?_) (fun c37 => ?_)
      · have he := he.trans (if_neg c37)
        have d37 := i_ne c37
        refine lv_aload_n hx hb dX11_cut_43 rfl (lv_at hl 0 rfl) ?_
        refine lv_iload_n hx hb dX11_cut_44 rfl (lv_at hl 1 rfl) ?_
        refine lv_aload_n hx hb dX11_cut_45 rfl (lv_at hl 0 rfl) ?_
        refine va_get (D := D) (ci := 11) (v := .int stand) (C := RX11) (T := TX11) (N := 34) hx hb hts hi_X11 hown hS.1 hX.1 0 rfl rfl 4 (by decide) l_fieldLink_86 (fun _ h9 => h9) rfl dX11_cut_46 ?_
        obtain ⟨r_3, e49⟩ : ∃ z, z = (f_X11_leaves branches onOf p1 stand) := ⟨_, rfl⟩
        rw [← e49] at he
        refine g_Vi (r := r_3) (As := [.int p1, .int stand]) (rest := []) (ci := 11) (q0 := 0) ⟨hx, hb, hml, hown, hts⟩ hS hX (k_X11_leaves p1 stand (by omega) (by omega) r_3 e49) (cwV 2 hts gX11_cut_X11_leaves rfl rfl rfl (by decide +kernel) ⟨Nat.le_of_ble_eq_true rfl, Nat.le_of_ble_eq_true rfl⟩) rfl rfl rfl hl.1 rfl (Nat.le_of_ble_eq_true rfl) dX11_cut_49 ⟨Nat.zero_le _, Nat.zero_le _⟩ (fun H locs hX => ?_)
        have k49_0 : 0 ≤ (stand).toInt → (0 ≤ (r_3).toInt ∧ (r_3).toInt ≤ (stand).toInt) := by rw [e49]; exact r_leaves
        refine lv_istore_n (lv' := [(2, .int r_3), (0, .ref (a 0)), (1, .int p1)]) hx hb dX11_cut_52 rfl hl (by decide) rfl (fun ls hl => ?_)
        refine lv_aload_n hx hb dX11_cut_53 rfl (lv_at hl 1 rfl) ?_
        refine va_get (D := D) (ci := 11) (v := .int stand) (C := RX11) (T := TX11) (N := 34) hx hb hts hi_X11 hown hS.1 hX.1 0 rfl rfl 4 (by decide) l_fieldLink_86 (fun _ h9 => h9) rfl dX11_cut_54 ?_
        obtain ⟨r_4, e57⟩ : ∃ z, z = (f_X11_size stand) := ⟨_, rfl⟩
        rw [← e57] at he
        refine g_Si (r := r_4) (As := [.int stand]) (rest := []) ⟨hx, hb, hml, hown, hts⟩ hS hX (k_X11_size stand r_4 e57) (va_cwS 1 hts gX11_cut_X11_size rfl rfl rfl (by decide +kernel) ⟨Nat.le_of_ble_eq_true rfl, Nat.le_of_ble_eq_true rfl⟩) rfl hl.1 rfl (Nat.le_of_ble_eq_true rfl) dX11_cut_57 ⟨Nat.zero_le _, Nat.zero_le _⟩ (fun H locs hX => ?_)
        refine lv_iload_n hx hb dX11_cut_60 rfl (lv_at hl 0 rfl) ?_
        obtain ⟨r_5, e61⟩ : ∃ z, z = (f_X11_size r_3) := ⟨_, rfl⟩
        rw [← e61] at he
        refine g_Si (r := r_5) (As := [.int r_3]) (rest := [.int r_4]) ⟨hx, hb, hml, hown, hts⟩ hS hX (k_X11_size r_3 r_5 e61) (va_cwS 1 hts gX11_cut_X11_size rfl rfl rfl (by decide +kernel) ⟨Nat.le_of_ble_eq_true rfl, Nat.le_of_ble_eq_true rfl⟩) rfl hl.1 rfl (Nat.le_of_ble_eq_true rfl) dX11_cut_61 ⟨Nat.zero_le _, Nat.zero_le _⟩ (fun H locs hX => ?_)
        refine lv_isub hx hb dX11_cut_64 ?_
        refine lv_istore_n (lv' := [(3, .int (r_4 - r_5)), (2, .int r_3), (0, .ref (a 0)), (1, .int p1)]) hx hb dX11_cut_65 rfl hl (by decide) rfl (fun ls hl => ?_)
        refine lv_aload_n hx hb dX11_cut_66 rfl (lv_at hl 2 rfl) ?_
        refine lv_iload_n hx hb dX11_cut_67 rfl (lv_at hl 1 rfl) ?_
        refine va_put (D := D) (ci := 11) (v := .int r_3) (ty := .int) (C := RX11) (T := TX11) (N := 34) hx hb hts hi_X11 tyX11 tyX11_ok nmX11 hown hS.1 hX.1 hX.2.1 hX.2.2 0 rfl rfl 4 (by decide) l_fieldLink_86 (fun _ h9 => h9) rfl (by decide +kernel) rfl rfl (Nat.le_of_ble_eq_true rfl) dX11_cut_68 (fun H locs hP hD hs => ?_)
        have hX : gX D Z s (wM a cA hedges branches r_3 turn cuts asks seen pageLength isWhole newBranches gameCuts isKept keptHedge keptStand keptTurn keptCuts keptSeen seedNow hsh kindOf onOf seenBranch seenBegins seenWins page winner lasting worthBy wonBy keptKind keptBranch keptBegins keptWins partsBy) H locs := ⟨hP, hD, hs⟩
        refine lv_aload_n hx hb dX11_cut_71 rfl (lv_at hl 2 rfl) ?_
        refine lv_iconst (v := (1 : Int32)) hx hb dX11_cut_72 (by decide) ?_
        refine lv_aload_n hx hb dX11_cut_73 rfl (lv_at hl 2 rfl) ?_
        refine va_get (D := D) (ci := 11) (v := .int turn) (C := RX11) (T := TX11) (N := 34) hx hb hts hi_X11 hown hS.1 hX.1 0 rfl rfl 5 (by decide) l_fieldLink_89 (fun _ h9 => h9) rfl dX11_cut_74 ?_
        refine lv_isub hx hb dX11_cut_77 ?_
        refine va_put (D := D) (ci := 11) (v := .int ((1 : Int32) - turn)) (ty := .int) (C := RX11) (T := TX11) (N := 34) hx hb hts hi_X11 tyX11 tyX11_ok nmX11 hown hS.1 hX.1 hX.2.1 hX.2.2 0 rfl rfl 5 (by decide) l_fieldLink_89 (fun _ h9 => h9) rfl (by decide +kernel) rfl rfl (Nat.le_of_ble_eq_true rfl) dX11_cut_78 (fun H locs hP hD hs => ?_)
        have hX : gX D Z s (wM a cA hedges branches r_3 ((1 : Int32) - turn) cuts asks seen pageLength isWhole newBranches gameCuts isKept keptHedge keptStand keptTurn keptCuts keptSeen seedNow hsh kindOf onOf seenBranch seenBegins seenWins page winner lasting worthBy wonBy keptKind keptBranch keptBegins keptWins partsBy) H locs := ⟨hP, hD, hs⟩
        refine lv_aload_n hx hb dX11_cut_81 rfl (lv_at hl 2 rfl) ?_
        refine lv_dup hx hb dX11_cut_82 rfl ?_
        refine va_get (D := D) (ci := 11) (v := .int cuts) (C := RX11) (T := TX11) (N := 34) hx hb hts hi_X11 hown hS.1 hX.1 0 rfl rfl 6 (by decide) l_fieldLink_92 (fun _ h9 => h9) rfl dX11_cut_83 ?_
        refine lv_iconst (v := (1 : Int32)) hx hb dX11_cut_86 (by decide) ?_
        refine lv_iadd hx hb dX11_cut_87 ?_
        refine va_put (D := D) (ci := 11) (v := .int (cuts + (1 : Int32))) (ty := .int) (C := RX11) (T := TX11) (N := 34) hx hb hts hi_X11 tyX11 tyX11_ok nmX11 hown hS.1 hX.1 hX.2.1 hX.2.2 0 rfl rfl 6 (by decide) l_fieldLink_92 (fun _ h9 => h9) rfl (by decide +kernel) rfl rfl (Nat.le_of_ble_eq_true rfl) dX11_cut_88 (fun H locs hP hD hs => ?_)
        have hX : gX D Z s (wM a cA hedges branches r_3 ((1 : Int32) - turn) (cuts + (1 : Int32)) asks seen pageLength isWhole newBranches gameCuts isKept keptHedge keptStand keptTurn keptCuts keptSeen seedNow hsh kindOf onOf seenBranch seenBegins seenWins page winner lasting worthBy wonBy keptKind keptBranch keptBegins keptWins partsBy) H locs := ⟨hP, hD, hs⟩
        refine lv_iload_n hx hb dX11_cut_91 rfl (lv_at hl 0 rfl) ?_
        subst he
        exact g_iret hx hb hr hlocks hX hq rfl dX11_cut_92
      · have he := he.trans (if_pos c37)
        have d37 := i_eq c37
        refine lv_bipush (v := (-104 : Int32)) hx hb dX11_cut_40 (by decide) ?_
        subst he
        exact g_iret hx hb hr hlocks hX hq rfl dX11_cut_42
    · have he := he.trans (if_pos c24)
      have d24 := i_eq c24
      refine lv_bipush (v := (-103 : Int32)) hx hb dX11_cut_27 (by decide) ?_
      subst he
      exact g_iret hx hb hr hlocks hX hq rfl dX11_cut_29
  · have he := he.trans (if_pos c5)
    have d5 := i_eq c5
    refine lv_bipush (v := (-101 : Int32)) hx hb dX11_cut_8 (by decide) ?_
    subst he
    exact g_iret hx hb hr hlocks hX hq rfl dX11_cut_10
