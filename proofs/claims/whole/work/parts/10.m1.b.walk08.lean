abbrev rm_X11_evenNow : Room := { frames := 6, cells := 0, slots := 0, locals := 132 }
set_option maxHeartbeats 4000000 in
set_option maxRecDepth 100000 in
theorem k_X11_evenNow {l : Launch} {D : va_G} {E : sE} {a : Nat → Nat} {cA : Nat → ClassId} {hedges : Int32} {branches : Int32} {stand : Int32} {turn : Int32} {cuts : Int32} {asks : Int32} {seen : Int32} {pageLength : Int32} {isWhole : Int32} {newBranches : Int32} {gameCuts : Int32} {isKept : Int32} {keptHedge : Int32} {keptStand : Int32} {keptTurn : Int32} {keptCuts : Int32} {keptSeen : Int32} {seedNow : Int64} {hsh : Int64} {kindOf : Nat → Int32} {onOf : Nat → Int32} {seenBranch : Nat → Int32} {seenBegins : Nat → Int32} {seenWins : Nat → Int32} {page : Nat → Int32} {winner : Nat → Int32} {lasting : Nat → Int32} {worthBy : Nat → Int32} {wonBy : Nat → Int32} {keptKind : Nat → Int32} {keptBranch : Nat → Int32} {keptBegins : Nat → Int32} {keptWins : Nat → Int32} {partsBy : Nat → Int64}  (hbr : 0 ≤ (branches).toInt ∧ (branches).toInt ≤ 8) (hst : 0 ≤ (stand).toInt ∧ (stand).toInt < 256) : ∀ q : Int32 × (Nat → Int32) × (Nat → Int32), q = f_X11_evenNow branches stand kindOf onOf winner → gMi l yX11_evenNow wsX11_evenNow rm_X11_evenNow D E (tM cA) [.ref (a 0)] (wM a cA hedges branches stand turn cuts asks seen pageLength isWhole newBranches gameCuts isKept keptHedge keptStand keptTurn keptCuts keptSeen seedNow hsh kindOf onOf seenBranch seenBegins seenWins page winner lasting worthBy wonBy keptKind keptBranch keptBegins keptWins partsBy) (wM a cA hedges branches stand turn cuts asks seen pageLength isWhole newBranches gameCuts isKept keptHedge keptStand keptTurn keptCuts keptSeen seedNow hsh q.2.1 onOf seenBranch seenBegins seenWins page q.2.2 lasting worthBy wonBy keptKind keptBranch keptBegins keptWins partsBy) q.1 := by
  intro q he0
  refine gM_of (cc := cX11_evenNow) (maxL := 5) (ret := (some .int)) (Qf := gQi D (wM a cA hedges branches stand turn cuts asks seen pageLength isWhole newBranches gameCuts isKept keptHedge keptStand keptTurn keptCuts keptSeen seedNow hsh q.2.1 onOf seenBranch seenBegins seenWins page q.2.2 lasting worthBy wonBy keptKind keptBranch keptBegins keptWins partsBy) q.1) (by decide) rfl (Nat.le_of_ble_eq_true rfl) ?_
  intro p e s m args below meth c Z ls Qz hx hb hr hml hlocks hown hts hS hX hl hq
  have he := he0.trans f_X11_evenNow_s
  have hown : s.vm.findClass RX11 = some m.cls := hown
  have hl : lv_has ls 5 [(0, .ref (a 0))] := hl
  have hi_X11 : ∀ w ∈ u_ws RX11 TX11 34, w ∈ wsX11_evenNow := fun _ h => List.mem_cons_of_mem _ (List.mem_append_right _ h)
  have l_fieldLink_7 := hts (Cond.fieldLink RX11 7 "HedgeGameModel" "kindOf" "[I") (List.mem_of_getElem? (i := 2) rfl)
  have l_fieldLink_83 := hts (Cond.fieldLink RX11 83 "HedgeGameModel" "branches" "I") (List.mem_of_getElem? (i := 1) rfl)
  have tm2 : ((-2 : Int32)).toInt = -2 := rfl
  have tm1 : ((-1 : Int32)).toInt = -1 := rfl
  have t0 : ((0 : Int32)).toInt = 0 := rfl
  have t1 : ((1 : Int32)).toInt = 1 := rfl
  have t4 : ((4 : Int32)).toInt = 4 := rfl
  have t10 : ((10 : Int32)).toInt = 10 := rfl
  refine lv_aload_n hx hb dX11_evenNow_0 rfl (lv_at hl 0 rfl) ?_
  obtain ⟨z_1, e1⟩ : ∃ z, z = (f_X11_isEven branches stand kindOf onOf winner) := ⟨_, rfl⟩
  rw [← e1] at he
  try dsimp only at he
  refine g_Vi (r := z_1.1) (w2 := (wM a cA hedges branches stand turn cuts asks seen pageLength isWhole newBranches gameCuts isKept keptHedge keptStand keptTurn keptCuts keptSeen seedNow hsh kindOf onOf seenBranch seenBegins seenWins page z_1.2 lasting worthBy wonBy keptKind keptBranch keptBegins keptWins partsBy)) (As := []) (rest := []) (ci := 11) (q0 := 0) ⟨hx, hb, hml, hown, hts⟩ hS hX (k_X11_isEven (by omega) (by omega) z_1 e1) (cwV 0 hts gX11_evenNow_X11_isEven rfl rfl rfl (by decide +kernel) ⟨Nat.le_of_ble_eq_true rfl, Nat.le_of_ble_eq_true rfl⟩) rfl rfl rfl hl.1 rfl (Nat.le_of_ble_eq_true rfl) dX11_evenNow_1 ⟨Nat.zero_le _, Nat.zero_le _⟩ (fun H locs hX => ?_)
  refine lv_if_eq (tgt := 10) hx hb dX11_evenNow_4 (by decide) (fun c4 => ?_) (fun c4 => ?_)
  · have he := he.trans (if_pos c4)
    have d4 := i_eq c4
    refine lv_iconst (v := (-1 : Int32)) hx hb dX11_evenNow_10 (by decide) ?_
    refine lv_istore_n (lv' := [(1, .int (-1 : Int32)), (0, .ref (a 0))]) hx hb dX11_evenNow_11 rfl hl (by decide) rfl (fun ls hl => ?_)
    refine lv_iconst (v := (0 : Int32)) hx hb dX11_evenNow_12 (by decide) ?_
    refine lv_istore_n (lv' := [(2, .int (0 : Int32)), (1, .int (-1 : Int32)), (0, .ref (a 0))]) hx hb dX11_evenNow_13 rfl hl (by decide) rfl (fun ls hl => ?_)
    have L14_2 : ∀ (n_14_2 : Nat) (kindOf_3 : Nat → Int32) (winner_4 : Nat → Int32) (x1_5 : Int32) (x2_6 : Int32), 0 ≤ (x2_6).toInt ∧ (x2_6).toInt ≤ 8 → 8 - (x2_6).toInt < (n_14_2 : Int) → q = f_X11_evenNow_L14 n_14_2 branches stand kindOf_3 onOf winner_4 x1_5 x2_6 → ∀ (H : Heap) (locs : List Loc) (ls : Array Slot), gX D Z s (wM a cA hedges branches stand turn cuts asks seen pageLength isWhole newBranches gameCuts isKept keptHedge keptStand keptTurn keptCuts keptSeen seedNow hsh kindOf_3 onOf seenBranch seenBegins seenWins page winner_4 lasting worthBy wonBy keptKind keptBranch keptBegins keptWins partsBy) H locs → lv_has ls 5 [(0, .ref (a 0)), (1, .int x1_5), (2, .int x2_6)] → W p l e rm_X11_evenNow s m args below meth c H locs 0 0 Qz (F0 m 14 ls []) := by
      intro n_14_2
      induction n_14_2 with
      | zero =>
        intro kindOf_3 winner_4 x1_5 x2_6 ia ifu _ _ _ _ _ _
        exfalso; omega
      | succ n_14_2 ih_L14_2 =>
        intro kindOf_3 winner_4 x1_5 x2_6 ia ifu he H locs ls hX hl
        have he := he.trans f_X11_evenNow_L14_s
        refine lv_iload_n hx hb dX11_evenNow_14 rfl (lv_at hl 2 rfl) ?_
        refine lv_aload_n hx hb dX11_evenNow_15 rfl (lv_at hl 0 rfl) ?_
        refine va_get (D := D) (ci := 11) (v := .int branches) (C := RX11) (T := TX11) (N := 34) hx hb hts hi_X11 hown hS.1 hX.1 0 rfl rfl 1 (by decide) l_fieldLink_83 (fun _ h9 => h9) rfl dX11_evenNow_16 ?_
        refine lv_icmp_ge (tgt := 102) hx hb dX11_evenNow_19 (by decide) (fun c19 => ?_) (fun c19 => ?_)
        · have he := he.trans (if_pos c19)
          have d19 := i_le c19
          refine lv_iconst (v := (-1 : Int32)) hx hb dX11_evenNow_102 (by decide) ?_
          subst he
          exact g_iret hx hb hr hlocks hX hq rfl dX11_evenNow_103
        · have he := he.trans (if_neg c19)
          have d19 := i_nle c19
          refine lv_aload_n hx hb dX11_evenNow_22 rfl (lv_at hl 0 rfl) ?_
          refine va_get (D := D) (ci := 11) (v := .ref (a 1)) (C := RX11) (T := TX11) (N := 34) hx hb hts hi_X11 hown hS.1 hX.1 0 rfl rfl 2 (by decide) l_fieldLink_7 (fun _ h9 => h9) rfl dX11_evenNow_23 ?_
          refine lv_iload_n hx hb dX11_evenNow_26 rfl (lv_at hl 2 rfl) ?_
          refine va_iald hx hb hS.1 hX.1 1 0 rfl rfl (vp_in_iff.mpr (by omega)) dX11_evenNow_27 ?_
          refine lv_istore_n (lv' := [(3, .int (kindOf_3 (x2_6).toNatClampNeg)), (0, .ref (a 0)), (1, .int x1_5), (2, .int x2_6)]) hx hb dX11_evenNow_28 rfl hl (by decide) rfl (fun ls hl => ?_)
          refine lv_iconst (v := (0 : Int32)) hx hb dX11_evenNow_29 (by decide) ?_
          refine lv_istore (lv' := [(4, .int (0 : Int32)), (3, .int (kindOf_3 (x2_6).toNatClampNeg)), (0, .ref (a 0)), (1, .int x1_5), (2, .int x2_6)]) hx hb dX11_evenNow_30 hl (by decide) rfl (fun ls hl => ?_)
          have L32_7 : ∀ (kk_L32_7 : (Nat → Int32) → (Nat → Int32) → (Int32) → (Int32) → Int32 × (Nat → Int32) × (Nat → Int32)), (∀ (kindOf_12 : Nat → Int32) (winner_13 : Nat → Int32) (x1_14 : Int32) (x4_15 : Int32), q = kk_L32_7 kindOf_12 winner_13 x1_14 x4_15 → ∀ (H : Heap) (locs : List Loc) (ls : Array Slot), gX D Z s (wM a cA hedges branches stand turn cuts asks seen pageLength isWhole newBranches gameCuts isKept keptHedge keptStand keptTurn keptCuts keptSeen seedNow hsh kindOf_12 onOf seenBranch seenBegins seenWins page winner_13 lasting worthBy wonBy keptKind keptBranch keptBegins keptWins partsBy) H locs → lv_has ls 5 [(0, .ref (a 0)), (1, .int x1_14), (2, .int x2_6), (3, .int (kindOf_3 (x2_6).toNatClampNeg)), (4, .int x4_15)] → W p l e rm_X11_evenNow s m args below meth c H locs 0 0 Qz (F0 m 82 ls [])) → ∀ (n_32_7 : Nat) (kindOf_8 : Nat → Int32) (winner_9 : Nat → Int32) (x1_10 : Int32) (x4_11 : Int32), 0 ≤ (x4_11).toInt ∧ (x4_11).toInt ≤ 5 → 5 - (x4_11).toInt < (n_32_7 : Int) → q = f_X11_evenNow_L32 kk_L32_7 n_32_7 branches stand kindOf_8 onOf winner_9 x1_10 x2_6 (kindOf_3 (x2_6).toNatClampNeg) x4_11 → ∀ (H : Heap) (locs : List Loc) (ls : Array Slot), gX D Z s (wM a cA hedges branches stand turn cuts asks seen pageLength isWhole newBranches gameCuts isKept keptHedge keptStand keptTurn keptCuts keptSeen seedNow hsh kindOf_8 onOf seenBranch seenBegins seenWins page winner_9 lasting worthBy wonBy keptKind keptBranch keptBegins keptWins partsBy) H locs → lv_has ls 5 [(0, .ref (a 0)), (1, .int x1_10), (2, .int x2_6), (3, .int (kindOf_3 (x2_6).toNatClampNeg)), (4, .int x4_11)] → W p l e rm_X11_evenNow s m args below meth c H locs 0 0 Qz (F0 m 32 ls []) := by
            intro kk_L32_7 hk_L32_7
            intro n_32_7
            induction n_32_7 with
            | zero =>
              intro kindOf_8 winner_9 x1_10 x4_11 iai ifui _ _ _ _ _ _
              exfalso; omega
            | succ n_32_7 ih_L32_7 =>
              intro kindOf_8 winner_9 x1_10 x4_11 iai ifui he H locs ls hX hl
              have he := he.trans f_X11_evenNow_L32_s
              refine lv_iload hx hb dX11_evenNow_32 (lv_at hl 4 rfl) ?_
              refine lv_iconst (v := (4 : Int32)) hx hb dX11_evenNow_34 (by decide) ?_
              refine lv_icmp_gt (tgt := 82) hx hb dX11_evenNow_35 (by decide) (fun c35 => ?_) (fun c35 => ?_)
              · have he := he.trans (if_pos c35)
                have d35 := i_lt c35
                exact hk_L32_7 kindOf_8 winner_9 x1_10 x4_11 he _ _ _ hX (lv_sub hl [0, 1, 2, 3, 4] rfl)
              · have he := he.trans (if_neg c35)
                have d35 := i_nlt c35
                refine lv_iload_n hx hb dX11_evenNow_38 rfl (lv_at hl 1 rfl) ?_
                refine lv_iconst (v := (-1 : Int32)) hx hb dX11_evenNow_39 (by decide) ?_
                refine lv_icmp_ne (tgt := 82) hx hb dX11_evenNow_40 (by decide) (fun c40 => ?_) (fun c40 => ?_)
                · have he := he.trans (if_neg c40)
                  have d40 := i_ne c40
                  exact hk_L32_7 kindOf_8 winner_9 x1_10 x4_11 he _ _ _ hX (lv_sub hl [0, 1, 2, 3, 4] rfl)
                · have he := he.trans (if_pos c40)
                  have d40 := i_eq c40
                  refine lv_aload_n hx hb dX11_evenNow_43 rfl (lv_at hl 0 rfl) ?_
                  refine va_get (D := D) (ci := 11) (v := .ref (a 1)) (C := RX11) (T := TX11) (N := 34) hx hb hts hi_X11 hown hS.1 hX.1 0 rfl rfl 2 (by decide) l_fieldLink_7 (fun _ h9 => h9) rfl dX11_evenNow_44 ?_
                  refine lv_iload_n hx hb dX11_evenNow_47 rfl (lv_at hl 2 rfl) ?_
                  refine lv_iload hx hb dX11_evenNow_48 (lv_at hl 4 rfl) ?_
                  refine va_iast hx hb hS.1 hX.1 hX.2.1 hX.2.2 1 0 rfl rfl (vp_in_iff.mpr (by omega)) dX11_evenNow_50 (fun H locs hP hD hs => ?_)
                  have hX : gX D Z s (wM a cA hedges branches stand turn cuts asks seen pageLength isWhole newBranches gameCuts isKept keptHedge keptStand keptTurn keptCuts keptSeen seedNow hsh (upd kindOf_8 (x2_6).toNatClampNeg x4_11) onOf seenBranch seenBegins seenWins page winner_9 lasting worthBy wonBy keptKind keptBranch keptBegins keptWins partsBy) H locs := ⟨hP, hD, hs⟩
                  refine lv_iload hx hb dX11_evenNow_51 (lv_at hl 4 rfl) ?_
                  refine lv_iload_n hx hb dX11_evenNow_53 rfl (lv_at hl 3 rfl) ?_
                  refine lv_icmp_eq (tgt := 74) hx hb dX11_evenNow_54 (by decide) (fun c54 => ?_) (fun c54 => ?_)
                  · have he := he.trans (if_pos c54)
                    have d54 := i_eq c54
                    refine lv_iconst (v := (-1 : Int32)) hx hb dX11_evenNow_74 (by decide) ?_
                    refine lv_istore_n (lv' := [(1, .int (-1 : Int32)), (0, .ref (a 0)), (2, .int x2_6), (3, .int (kindOf_3 (x2_6).toNatClampNeg)), (4, .int x4_11)]) hx hb dX11_evenNow_75 rfl hl (by decide) rfl (fun ls hl => ?_)
                    refine lv_iinc (v := (x4_11 + (1 : Int32))) (lv' := [(4, .int (x4_11 + (1 : Int32))), (1, .int (-1 : Int32)), (0, .ref (a 0)), (2, .int x2_6), (3, .int (kindOf_3 (x2_6).toNatClampNeg))]) hx hb dX11_evenNow_76 hl (k := 4) rfl rfl (by decide) rfl (fun ls hl => ?_)
                    have s76 := i_s1 (x := x4_11) (by omega)
                    refine lv_goto (tgt := 32) hx hb dX11_evenNow_79 (by decide) ?_
                    exact ih_L32_7 (upd kindOf_8 (x2_6).toNatClampNeg x4_11) winner_9 (-1 : Int32) (x4_11 + (1 : Int32)) (by omega) (by omega) he _ _ _ hX (lv_sub hl [2, 1, 3, 4, 0] rfl)
                  · have he := he.trans (if_neg c54)
                    have d54 := i_ne c54
                    refine lv_aload_n hx hb dX11_evenNow_57 rfl (lv_at hl 0 rfl) ?_
                    obtain ⟨z_16, e58⟩ : ∃ z, z = (f_X11_isEven branches stand (upd kindOf_8 (x2_6).toNatClampNeg x4_11) onOf winner_9) := ⟨_, rfl⟩
                    rw [← e58] at he
                    try dsimp only at he
                    refine g_Vi (r := z_16.1) (w2 := (wM a cA hedges branches stand turn cuts asks seen pageLength isWhole newBranches gameCuts isKept keptHedge keptStand keptTurn keptCuts keptSeen seedNow hsh (upd kindOf_8 (x2_6).toNatClampNeg x4_11) onOf seenBranch seenBegins seenWins page z_16.2 lasting worthBy wonBy keptKind keptBranch keptBegins keptWins partsBy)) (As := []) (rest := []) (ci := 11) (q0 := 0) ⟨hx, hb, hml, hown, hts⟩ hS hX (k_X11_isEven (by omega) (by omega) z_16 e58) (cwV 0 hts gX11_evenNow_X11_isEven rfl rfl rfl (by decide +kernel) ⟨Nat.le_of_ble_eq_true rfl, Nat.le_of_ble_eq_true rfl⟩) rfl rfl rfl hl.1 rfl (Nat.le_of_ble_eq_true rfl) dX11_evenNow_58 ⟨Nat.zero_le _, Nat.zero_le _⟩ (fun H locs hX => ?_)
                    refine lv_if_eq (tgt := 74) hx hb dX11_evenNow_61 (by decide) (fun c61 => ?_) (fun c61 => ?_)
                    · have he := he.trans (if_pos c61)
                      have d61 := i_eq c61
                      refine lv_iconst (v := (-1 : Int32)) hx hb dX11_evenNow_74 (by decide) ?_
                      refine lv_istore_n (lv' := [(1, .int (-1 : Int32)), (0, .ref (a 0)), (2, .int x2_6), (3, .int (kindOf_3 (x2_6).toNatClampNeg)), (4, .int x4_11)]) hx hb dX11_evenNow_75 rfl hl (by decide) rfl (fun ls hl => ?_)
                      refine lv_iinc (v := (x4_11 + (1 : Int32))) (lv' := [(4, .int (x4_11 + (1 : Int32))), (1, .int (-1 : Int32)), (0, .ref (a 0)), (2, .int x2_6), (3, .int (kindOf_3 (x2_6).toNatClampNeg))]) hx hb dX11_evenNow_76 hl (k := 4) rfl rfl (by decide) rfl (fun ls hl => ?_)
                      have s76 := i_s1 (x := x4_11) (by omega)
                      refine lv_goto (tgt := 32) hx hb dX11_evenNow_79 (by decide) ?_
                      exact ih_L32_7 (upd kindOf_8 (x2_6).toNatClampNeg x4_11) z_16.2 (-1 : Int32) (x4_11 + (1 : Int32)) (by omega) (by omega) he _ _ _ hX (lv_sub hl [2, 1, 3, 4, 0] rfl)
                    · have he := he.trans (if_neg c61)
                      have d61 := i_ne c61
                      refine lv_bipush (v := (10 : Int32)) hx hb dX11_evenNow_64 (by decide) ?_
                      refine lv_iload_n hx hb dX11_evenNow_66 rfl (lv_at hl 2 rfl) ?_
                      refine lv_imul hx hb dX11_evenNow_67 ?_
                      refine lv_iload hx hb dX11_evenNow_68 (lv_at hl 4 rfl) ?_
                      refine lv_iadd hx hb dX11_evenNow_70 ?_
                      refine lv_goto (tgt := 75) hx hb dX11_evenNow_71 (by decide) ?_
                      refine lv_istore_n (lv' := [(1, .int (((10 : Int32) * x2_6) + x4_11)), (0, .ref (a 0)), (2, .int x2_6), (3, .int (kindOf_3 (x2_6).toNatClampNeg)), (4, .int x4_11)]) hx hb dX11_evenNow_75 rfl hl (by decide) rfl (fun ls hl => ?_)
                      refine lv_iinc (v := (x4_11 + (1 : Int32))) (lv' := [(4, .int (x4_11 + (1 : Int32))), (1, .int (((10 : Int32) * x2_6) + x4_11)), (0, .ref (a 0)), (2, .int x2_6), (3, .int (kindOf_3 (x2_6).toNatClampNeg))]) hx hb dX11_evenNow_76 hl (k := 4) rfl rfl (by decide) rfl (fun ls hl => ?_)
                      have s76 := i_s1 (x := x4_11) (by omega)
                      refine lv_goto (tgt := 32) hx hb dX11_evenNow_79 (by decide) ?_
                      exact ih_L32_7 (upd kindOf_8 (x2_6).toNatClampNeg x4_11) z_16.2 (((10 : Int32) * x2_6) + x4_11) (x4_11 + (1 : Int32)) (by omega) (by omega) he _ _ _ hX (lv_sub hl [2, 1, 3, 4, 0] rfl)
          refine L32_7 _ (fun kindOf_12 winner_13 x1_14 x4_15 he H locs ls hX hl => ?_) 6 kindOf_3 winner_4 x1_5 (0 : Int32) (by omega) (by omega) he _ _ _ hX (lv_sub hl [2, 3, 4, 1, 0] rfl)
          refine lv_aload_n hx hb dX11_evenNow_82 rfl (lv_at hl 0 rfl) ?_
          refine va_get (D := D) (ci := 11) (v := .ref (a 1)) (C := RX11) (T := TX11) (N := 34) hx hb hts hi_X11 hown hS.1 hX.1 0 rfl rfl 2 (by decide) l_fieldLink_7 (fun _ h9 => h9) rfl dX11_evenNow_83 ?_
          refine lv_iload_n hx hb dX11_evenNow_86 rfl (lv_at hl 2 rfl) ?_
          refine lv_iload_n hx hb dX11_evenNow_87 rfl (lv_at hl 3 rfl) ?_
          refine va_iast hx hb hS.1 hX.1 hX.2.1 hX.2.2 1 0 rfl rfl (vp_in_iff.mpr (by omega)) dX11_evenNow_88 (fun H locs hP hD hs => ?_)
          have hX : gX D Z s (wM a cA hedges branches stand turn cuts asks seen pageLength isWhole newBranches gameCuts isKept keptHedge keptStand keptTurn keptCuts keptSeen seedNow hsh (upd kindOf_12 (x2_6).toNatClampNeg (kindOf_3 (x2_6).toNatClampNeg)) onOf seenBranch seenBegins seenWins page winner_13 lasting worthBy wonBy keptKind keptBranch keptBegins keptWins partsBy) H locs := ⟨hP, hD, hs⟩
          refine lv_iload_n hx hb dX11_evenNow_89 rfl (lv_at hl 1 rfl) ?_
          refine lv_iconst (v := (-1 : Int32)) hx hb dX11_evenNow_90 (by decide) ?_
          refine lv_icmp_eq (tgt := 96) hx hb dX11_evenNow_91 (by decide) (fun c91 => ?_) (fun c91 => ?_)
          · have he := he.trans (if_pos c91)
            have d91 := i_eq c91
            refine lv_iinc (v := (x2_6 + (1 : Int32))) (lv' := [(2, .int (x2_6 + (1 : Int32))), (0, .ref (a 0)), (1, .int x1_14), (3, .int (kindOf_3 (x2_6).toNatClampNeg)), (4, .int x4_15)]) hx hb dX11_evenNow_96 hl (k := 2) rfl rfl (by decide) rfl (fun ls hl => ?_)
            have s96 := i_s1 (x := x2_6) (by omega)
            refine lv_goto (tgt := 14) hx hb dX11_evenNow_99 (by decide) ?_
            exact ih_L14_2 (upd kindOf_12 (x2_6).toNatClampNeg (kindOf_3 (x2_6).toNatClampNeg)) winner_13 x1_14 (x2_6 + (1 : Int32)) (by omega) (by omega) he _ _ _ hX (lv_sub hl [1, 2, 0] rfl)
          · have he := he.trans (if_neg c91)
            have d91 := i_ne c91
            refine lv_iload_n hx hb dX11_evenNow_94 rfl (lv_at hl 1 rfl) ?_
            subst he
            exact g_iret hx hb hr hlocks hX hq rfl dX11_evenNow_95
    exact L14_2 9 kindOf z_1.2 (-1 : Int32) (0 : Int32) (by omega) (by omega) he _ _ _ hX (lv_sub hl [2, 1, 0] rfl)
  · have he := he.trans (if_neg c4)
    have d4 := i_ne c4
    refine lv_bipush (v := (-2 : Int32)) hx hb dX11_evenNow_7 (by decide) ?_
    subst he
    exact g_iret hx hb hr hlocks hX hq rfl dX11_evenNow_9
abbrev rm_X11_even : Room := { frames := 7, cells := 0, slots := 0, locals := 156 }
set_option maxHeartbeats 4000000 in
set_option maxRecDepth 100000 in
theorem k_X11_even {l : Launch} {D : va_G} {E : sE} {a : Nat → Nat} {cA : Nat → ClassId} {hedges : Int32} {branches : Int32} {stand : Int32} {turn : Int32} {cuts : Int32} {asks : Int32} {seen : Int32} {pageLength : Int32} {isWhole : Int32} {newBranches : Int32} {gameCuts : Int32} {isKept : Int32} {keptHedge : Int32} {keptStand : Int32} {keptTurn : Int32} {keptCuts : Int32} {keptSeen : Int32} {seedNow : Int64} {hsh : Int64} {kindOf : Nat → Int32} {onOf : Nat → Int32} {seenBranch : Nat → Int32} {seenBegins : Nat → Int32} {seenWins : Nat → Int32} {page : Nat → Int32} {winner : Nat → Int32} {lasting : Nat → Int32} {worthBy : Nat → Int32} {wonBy : Nat → Int32} {keptKind : Nat → Int32} {keptBranch : Nat → Int32} {keptBegins : Nat → Int32} {keptWins : Nat → Int32} {partsBy : Nat → Int64}  (hbr : 0 ≤ (branches).toInt ∧ (branches).toInt ≤ 8) (hst : 0 ≤ (stand).toInt ∧ (stand).toInt < 256) : ∀ q : Int32 × Int32 × (Nat → Int32) × (Nat → Int32), q = f_X11_even branches stand asks kindOf onOf winner → gMi l yX11_even wsX11_even rm_X11_even D E (tM cA) [.ref (a 0)] (wM a cA hedges branches stand turn cuts asks seen pageLength isWhole newBranches gameCuts isKept keptHedge keptStand keptTurn keptCuts keptSeen seedNow hsh kindOf onOf seenBranch seenBegins seenWins page winner lasting worthBy wonBy keptKind keptBranch keptBegins keptWins partsBy) (wM a cA hedges branches stand turn cuts q.2.1 seen pageLength isWhole newBranches gameCuts isKept keptHedge keptStand keptTurn keptCuts keptSeen seedNow hsh q.2.2.1 onOf seenBranch seenBegins seenWins page q.2.2.2 lasting worthBy wonBy keptKind keptBranch keptBegins keptWins partsBy) q.1 := by
  intro q he0
  refine gM_of (cc := cX11_even) (maxL := 1) (ret := (some .int)) (Qf := gQi D (wM a cA hedges branches stand turn cuts q.2.1 seen pageLength isWhole newBranches gameCuts isKept keptHedge keptStand keptTurn keptCuts keptSeen seedNow hsh q.2.2.1 onOf seenBranch seenBegins seenWins page q.2.2.2 lasting worthBy wonBy keptKind keptBranch keptBegins keptWins partsBy) q.1) (by decide) rfl (Nat.le_of_ble_eq_true rfl) ?_
  intro p e s m args below meth c Z ls Qz hx hb hr hml hlocks hown hts hS hX hl hq
  have he := he0.trans f_X11_even_s
  have hown : s.vm.findClass RX11 = some m.cls := hown
  have hl : lv_has ls 1 [(0, .ref (a 0))] := hl
  have hi_X11 : ∀ w ∈ u_ws RX11 TX11 34, w ∈ wsX11_even := fun _ h => List.mem_cons_of_mem _ (List.mem_append_right _ h)
  have l_fieldLink_176 := hts (Cond.fieldLink RX11 176 "HedgeGameModel" "asks" "I") (List.mem_of_getElem? (i := 2) rfl)
  have l_fieldLink_83 := hts (Cond.fieldLink RX11 83 "HedgeGameModel" "branches" "I") (List.mem_of_getElem? (i := 1) rfl)
  have tm103 : ((-103 : Int32)).toInt = -103 := rfl
  have t0 : ((0 : Int32)).toInt = 0 := rfl
  have t1 : ((1 : Int32)).toInt = 1 := rfl
  have t30 : ((30 : Int32)).toInt = 30 := rfl
  refine lv_aload_n hx hb dX11_even_0 rfl (lv_at hl 0 rfl) ?_
  refine va_get (D := D) (ci := 11) (v := .int branches) (C := RX11) (T := TX11) (N := 34) hx hb hts hi_X11 hown hS.1 hX.1 0 rfl rfl 1 (by decide) l_fieldLink_83 (fun _ h9 => h9) rfl dX11_even_1 ?_
  refine lv_if_eq (tgt := 16) hx hb dX11_even_4 (by decide) (fun c4 => ?_) (fun c4 => ?_)
  · have he := he.trans (if_pos c4)
    have d4 := i_eq c4
    refine lv_bipush (v := (-103 : Int32)) hx hb dX11_even_16 (by decide) ?_
    subst he
    exact g_iret hx hb hr hlocks hX hq rfl dX11_even_18
  · have he := he.trans (if_neg c4)
    have d4 := i_ne c4
    refine lv_aload_n hx hb dX11_even_7 rfl (lv_at hl 0 rfl) ?_
    refine va_get (D := D) (ci := 11) (v := .int asks) (C := RX11) (T := TX11) (N := 34) hx hb hts hi_X11 hown hS.1 hX.1 0 rfl rfl 7 (by decide) l_fieldLink_176 (fun _ h9 => h9) rfl dX11_even_8 ?_
    refine lv_bipush (v := (30 : Int32)) hx hb dX11_even_11 (by decide) ?_
    refine lv_icmp_ne (tgt := 19) hx hb dX11_even_13 (by decide) (fun c13 => ?_) (fun c13 => ?_)
    · have he := he.trans (if_neg c13)
      have d13 := i_ne c13
      refine lv_aload_n hx hb dX11_even_19 rfl (lv_at hl 0 rfl) ?_
      refine lv_dup hx hb dX11_even_20 rfl ?_
      refine va_get (D := D) (ci := 11) (v := .int asks) (C := RX11) (T := TX11) (N := 34) hx hb hts hi_X11 hown hS.1 hX.1 0 rfl rfl 7 (by decide) l_fieldLink_176 (fun _ h9 => h9) rfl dX11_even_21 ?_
      refine lv_iconst (v := (1 : Int32)) hx hb dX11_even_24 (by decide) ?_
      refine lv_iadd hx hb dX11_even_25 ?_
      refine va_put (D := D) (ci := 11) (v := .int (asks + (1 : Int32))) (ty := .int) (C := RX11) (T := TX11) (N := 34) hx hb hts hi_X11 tyX11 tyX11_ok nmX11 hown hS.1 hX.1 hX.2.1 hX.2.2 0 rfl rfl 7 (by decide) l_fieldLink_176 (fun _ h9 => h9) rfl (by decide +kernel) rfl rfl (Nat.le_of_ble_eq_true rfl) dX11_even_26 (fun H locs hP hD hs => ?_)
      have hX : gX D Z s (wM a cA hedges branches stand turn cuts (asks + (1 : Int32)) seen pageLength isWhole newBranches gameCuts isKept keptHedge keptStand keptTurn keptCuts keptSeen seedNow hsh kindOf onOf seenBranch seenBegins seenWins page winner lasting worthBy wonBy keptKind keptBranch keptBegins keptWins partsBy) H locs := ⟨hP, hD, hs⟩
      refine lv_aload_n hx hb dX11_even_29 rfl (lv_at hl 0 rfl) ?_
      obtain ⟨z_1, e30⟩ : ∃ z, z = (f_X11_evenNow branches stand kindOf onOf winner) := ⟨_, rfl⟩
      rw [← e30] at he
      try dsimp only at he
      refine g_Vi (r := z_1.1) (w2 := (wM a cA hedges branches stand turn cuts (asks + (1 : Int32)) seen pageLength isWhole newBranches gameCuts isKept keptHedge keptStand keptTurn keptCuts keptSeen seedNow hsh z_1.2.1 onOf seenBranch seenBegins seenWins page z_1.2.2 lasting worthBy wonBy keptKind keptBranch keptBegins keptWins partsBy)) (As := []) (rest := []) (ci := 11) (q0 := 0) ⟨hx, hb, hml, hown, hts⟩ hS hX (k_X11_evenNow (by omega) (by omega) z_1 e30) (cwV 0 hts gX11_even_X11_evenNow rfl rfl rfl (by decide +kernel) ⟨Nat.le_of_ble_eq_true rfl, Nat.le_of_ble_eq_true rfl⟩) rfl rfl rfl hl.1 rfl (Nat.le_of_ble_eq_true rfl) dX11_even_30 ⟨Nat.zero_le _, Nat.zero_le _⟩ (fun H locs hX => ?_)
      subst he
      exact g_iret hx hb hr hlocks hX hq rfl dX11_even_33
    · have he := he.trans (if_pos c13)
      have d13 := i_eq c13
      refine lv_bipush (v := (-103 : Int32)) hx hb dX11_even_16 (by decide) ?_
      subst he
      exact g_iret hx hb hr hlocks hX hq rfl dX11_even_18
abbrev rm_X11_partsFrom : Room := { frames := 3, cells := 0, slots := 0, locals := 68 }
set_option maxHeartbeats 4000000 in
set_option maxRecDepth 100000 in
theorem k_X11_partsFrom {l : Launch} {D : va_G} {E : sE} {a : Nat → Nat} {cA : Nat → ClassId} {hedges : Int32} {branches : Int32} {stand : Int32} {turn : Int32} {cuts : Int32} {asks : Int32} {seen : Int32} {pageLength : Int32} {isWhole : Int32} {newBranches : Int32} {gameCuts : Int32} {isKept : Int32} {keptHedge : Int32} {keptStand : Int32} {keptTurn : Int32} {keptCuts : Int32} {keptSeen : Int32} {seedNow : Int64} {hsh : Int64} {kindOf : Nat → Int32} {onOf : Nat → Int32} {seenBranch : Nat → Int32} {seenBegins : Nat → Int32} {seenWins : Nat → Int32} {page : Nat → Int32} {winner : Nat → Int32} {lasting : Nat → Int32} {worthBy : Nat → Int32} {wonBy : Nat → Int32} {keptKind : Nat → Int32} {keptBranch : Nat → Int32} {keptBegins : Nat → Int32} {keptWins : Nat → Int32} {partsBy : Nat → Int64} (p1 : Int32) (p2 : Int32) (hbr : 0 ≤ (branches).toInt ∧ (branches).toInt ≤ 8) (hsx : 0 ≤ (p1).toInt ∧ (p1).toInt < 256) (hwx : 0 ≤ (p2).toInt ∧ (p2).toInt ≤ 1) : ∀ q : Int64, q = f_X11_partsFrom branches kindOf onOf partsBy p1 p2 → gMl l yX11_partsFrom wsX11_partsFrom rm_X11_partsFrom D E (tM cA) [.ref (a 0), .int p1, .int p2] (wM a cA hedges branches stand turn cuts asks seen pageLength isWhole newBranches gameCuts isKept keptHedge keptStand keptTurn keptCuts keptSeen seedNow hsh kindOf onOf seenBranch seenBegins seenWins page winner lasting worthBy wonBy keptKind keptBranch keptBegins keptWins partsBy) (wM a cA hedges branches stand turn cuts asks seen pageLength isWhole newBranches gameCuts isKept keptHedge keptStand keptTurn keptCuts keptSeen seedNow hsh kindOf onOf seenBranch seenBegins seenWins page winner lasting worthBy wonBy keptKind keptBranch keptBegins keptWins partsBy) q := by
  intro q he0
  refine gM_of (cc := cX11_partsFrom) (maxL := 7) (ret := (some .long)) (Qf := gQl D (wM a cA hedges branches stand turn cuts asks seen pageLength isWhole newBranches gameCuts isKept keptHedge keptStand keptTurn keptCuts keptSeen seedNow hsh kindOf onOf seenBranch seenBegins seenWins page winner lasting worthBy wonBy keptKind keptBranch keptBegins keptWins partsBy) q) (by decide) rfl (Nat.le_of_ble_eq_true rfl) ?_
  intro p e s m args below meth c Z ls Qz hx hb hr hml hlocks hown hts hS hX hl hq
  have he := he0.trans f_X11_partsFrom_s
  have hown : s.vm.findClass RX11 = some m.cls := hown
  have hl : lv_has ls 7 [(0, .ref (a 0)), (1, .int p1), (2, .int p2)] := hl
  have hi_X11 : ∀ w ∈ u_ws RX11 TX11 34, w ∈ wsX11_partsFrom := fun _ h => List.mem_cons_of_mem _ (List.mem_append_right _ h)
  have l_constantLong_182 := hts (Cond.constantLong RX11 182 (182891520000)) (List.mem_of_getElem? (i := 3) rfl)
  have l_fieldLink_38 := hts (Cond.fieldLink RX11 38 "HedgeGameModel" "partsBy" "[J") (List.mem_of_getElem? (i := 2) rfl)
  have l_fieldLink_83 := hts (Cond.fieldLink RX11 83 "HedgeGameModel" "branches" "I") (List.mem_of_getElem? (i := 1) rfl)
  have t0 : ((0 : Int32)).toInt = 0 := rfl
  have t1 : ((1 : Int32)).toInt = 1 := rfl
  have t2 : ((2 : Int32)).toInt = 2 := rfl
  refine lv_lconst (v := (0 : Int64)) hx hb dX11_partsFrom_0 (by decide) ?_
  refine lv_lstore_n (lv' := [(3, .long (0 : Int64)), (0, .ref (a 0)), (1, .int p1), (2, .int p2)]) hx hb dX11_partsFrom_1 rfl hl (by decide) rfl (fun ls hl => ?_)
  refine lv_iconst (v := (0 : Int32)) hx hb dX11_partsFrom_2 (by decide) ?_
  refine lv_istore (lv' := [(5, .int (0 : Int32)), (3, .long (0 : Int64)), (0, .ref (a 0)), (1, .int p1), (2, .int p2)]) hx hb dX11_partsFrom_3 hl (by decide) rfl (fun ls hl => ?_)
  refine lv_iconst (v := (0 : Int32)) hx hb dX11_partsFrom_5 (by decide) ?_
  refine lv_istore (lv' := [(6, .int (0 : Int32)), (5, .int (0 : Int32)), (3, .long (0 : Int64)), (0, .ref (a 0)), (1, .int p1), (2, .int p2)]) hx hb dX11_partsFrom_6 hl (by decide) rfl (fun ls hl => ?_)
  have L8_1 : ∀ (n_8_1 : Nat) (x3_2 : Int64) (x5_3 : Int32) (x6_4 : Int32), 0 ≤ (x6_4).toInt ∧ (x6_4).toInt ≤ 8 → 8 - (x6_4).toInt < (n_8_1 : Int) → q = f_X11_partsFrom_L8 n_8_1 branches kindOf onOf partsBy p1 p2 x3_2 x5_3 x6_4 → ∀ (H : Heap) (locs : List Loc) (ls : Array Slot), gX D Z s (wM a cA hedges branches stand turn cuts asks seen pageLength isWhole newBranches gameCuts isKept keptHedge keptStand keptTurn keptCuts keptSeen seedNow hsh kindOf onOf seenBranch seenBegins seenWins page winner lasting worthBy wonBy keptKind keptBranch keptBegins keptWins partsBy) H locs → lv_has ls 7 [(0, .ref (a 0)), (1, .int p1), (2, .int p2), (3, .long x3_2), (5, .int x5_3), (6, .int x6_4)] → W p l e rm_X11_partsFrom s m args below meth c H locs 0 0 Qz (F0 m 8 ls []) := by
    intro n_8_1
    induction n_8_1 with
    | zero =>
      intro x3_2 x5_3 x6_4 ia ifu _ _ _ _ _ _
      exfalso; omega
    | succ n_8_1 ih_L8_1 =>
      intro x3_2 x5_3 x6_4 ia ifu he H locs ls hX hl
      have he := he.trans f_X11_partsFrom_L8_s
      refine lv_iload hx hb dX11_partsFrom_8 (lv_at hl 5 rfl) ?_
      refine lv_aload_n hx hb dX11_partsFrom_10 rfl (lv_at hl 0 rfl) ?_
      refine va_get (D := D) (ci := 11) (v := .int branches) (C := RX11) (T := TX11) (N := 34) hx hb hts hi_X11 hown hS.1 hX.1 0 rfl rfl 1 (by decide) l_fieldLink_83 (fun _ h9 => h9) rfl dX11_partsFrom_11 ?_
      refine lv_icmp_ge (tgt := 58) hx hb dX11_partsFrom_14 (by decide) (fun c14 => ?_) (fun c14 => ?_)
      · have he := he.trans (if_pos c14)
        have d14 := i_le c14
        refine lv_iload hx hb dX11_partsFrom_58 (lv_at hl 4 rfl) ?_
        refine lv_if_le (tgt := 71) hx hb dX11_partsFrom_60 (by decide) (fun c60 => ?_) (fun c60 => ?_)
        · have he := he.trans (if_pos c60)
          have d60 := i_le c60
          refine lv_iload_n hx hb dX11_partsFrom_71 rfl (lv_at hl 2 rfl) ?_
          refine lv_if_ne (tgt := 79) hx hb dX11_partsFrom_72 (by decide) (fun c72 => ?_) (fun c72 => ?_)
          · have he := he.trans (if_neg c72)
            have d72 := i_ne c72
            refine lv_ldc2 (v := (182891520000 : Int64)) hx hb hown l_constantLong_182 dX11_partsFrom_79 ?_
            subst he
            exact g_lret hx hb hr hlocks hX hq rfl dX11_partsFrom_82
          · have he := he.trans (if_pos c72)
            have d72 := i_eq c72
            refine lv_lconst (v := (0 : Int64)) hx hb dX11_partsFrom_75 (by decide) ?_
            refine lv_goto (tgt := 82) hx hb dX11_partsFrom_76 (by decide) ?_
            subst he
            exact g_lret hx hb hr hlocks hX hq rfl dX11_partsFrom_82
        · have he := he.trans (if_neg c60)
          have d60 := i_nle c60
          refine lv_lload_n hx hb dX11_partsFrom_63 rfl (lv_at hl 3 rfl) ?_
          refine lv_iload hx hb dX11_partsFrom_64 (lv_at hl 4 rfl) ?_
          refine lv_i2l hx hb dX11_partsFrom_66 rfl ?_
          refine lv_ldiv hx hb dX11_partsFrom_67 (l_ne0 (by omega)) ?_
          refine lv_goto (tgt := 82) hx hb dX11_partsFrom_68 (by decide) ?_
          subst he
          exact g_lret hx hb hr hlocks hX hq rfl dX11_partsFrom_82
      · have he := he.trans (if_neg c14)
        have d14 := i_nle c14
        refine lv_aload_n hx hb dX11_partsFrom_17 rfl (lv_at hl 0 rfl) ?_
        refine lv_iload_n hx hb dX11_partsFrom_18 rfl (lv_at hl 2 rfl) ?_
        refine lv_iload hx hb dX11_partsFrom_19 (lv_at hl 5 rfl) ?_
        refine lv_iload_n hx hb dX11_partsFrom_21 rfl (lv_at hl 1 rfl) ?_
        obtain ⟨r_5, e22⟩ : ∃ z, z = (f_X11_mayCut branches kindOf onOf p2 x6_4 p1) := ⟨_, rfl⟩
        rw [← e22] at he
        refine g_Vi (r := r_5) (As := [.int p2, .int x6_4, .int p1]) (rest := []) (ci := 11) (q0 := 0) ⟨hx, hb, hml, hown, hts⟩ hS hX (k_X11_mayCut p2 x6_4 p1 (by omega) (by omega) r_5 e22) (cwV 3 hts gX11_partsFrom_X11_mayCut rfl rfl rfl (by decide +kernel) ⟨Nat.le_of_ble_eq_true rfl, Nat.le_of_ble_eq_true rfl⟩) rfl rfl rfl hl.1 rfl (Nat.le_of_ble_eq_true rfl) dX11_partsFrom_22 ⟨Nat.zero_le _, Nat.zero_le _⟩ (fun H locs hX => ?_)
        refine lv_if_eq (tgt := 52) hx hb dX11_partsFrom_25 (by decide) (fun c25 => ?_) (fun c25 => ?_)
        · have he := he.trans (if_pos c25)
          have d25 := i_eq c25
          refine lv_iinc (v := (x6_4 + (1 : Int32))) (lv' := [(6, .int (x6_4 + (1 : Int32))), (0, .ref (a 0)), (1, .int p1), (2, .int p2), (3, .long x3_2), (5, .int x5_3)]) hx hb dX11_partsFrom_52 hl (k := 5) rfl rfl (by decide) rfl (fun ls hl => ?_)
          have s52 := i_s1 (x := x6_4) (by omega)
          refine lv_goto (tgt := 8) hx hb dX11_partsFrom_55 (by decide) ?_
          exact ih_L8_1 x3_2 x5_3 (x6_4 + (1 : Int32)) (by omega) (by omega) he _ _ _ hX (lv_sub hl [1, 2, 3, 4, 5, 0] rfl)
        · have he := he.trans (if_neg c25)
          have d25 := i_ne c25
          refine lv_lload_n hx hb dX11_partsFrom_28 rfl (lv_at hl 3 rfl) ?_
          refine lv_aload_n hx hb dX11_partsFrom_29 rfl (lv_at hl 0 rfl) ?_
          refine va_get (D := D) (ci := 11) (v := .ref (a 10)) (C := RX11) (T := TX11) (N := 34) hx hb hts hi_X11 hown hS.1 hX.1 0 rfl rfl 19 (by decide) l_fieldLink_38 (fun _ h9 => h9) rfl dX11_partsFrom_30 ?_
          refine lv_iconst (v := (2 : Int32)) hx hb dX11_partsFrom_33 (by decide) ?_
          refine lv_aload_n hx hb dX11_partsFrom_34 rfl (lv_at hl 0 rfl) ?_
          refine lv_iload hx hb dX11_partsFrom_35 (lv_at hl 5 rfl) ?_
          refine lv_iload_n hx hb dX11_partsFrom_37 rfl (lv_at hl 1 rfl) ?_
          obtain ⟨r_6, e38⟩ : ∃ z, z = (f_X11_leaves branches onOf x6_4 p1) := ⟨_, rfl⟩
          rw [← e38] at he
          refine g_Vi (r := r_6) (As := [.int x6_4, .int p1]) (rest := [.int (2 : Int32), .ref (a 10), .long x3_2]) (ci := 11) (q0 := 0) ⟨hx, hb, hml, hown, hts⟩ hS hX (k_X11_leaves x6_4 p1 (by omega) (by omega) r_6 e38) (cwV 2 hts gX11_partsFrom_X11_leaves rfl rfl rfl (by decide +kernel) ⟨Nat.le_of_ble_eq_true rfl, Nat.le_of_ble_eq_true rfl⟩) rfl rfl rfl hl.1 rfl (Nat.le_of_ble_eq_true rfl) dX11_partsFrom_38 ⟨Nat.zero_le _, Nat.zero_le _⟩ (fun H locs hX => ?_)
          have k38_0 : 0 ≤ (p1).toInt → (0 ≤ (r_6).toInt ∧ (r_6).toInt ≤ (p1).toInt) := by rw [e38]; exact r_leaves
          refine lv_imul hx hb dX11_partsFrom_41 ?_
          refine lv_iconst (v := (1 : Int32)) hx hb dX11_partsFrom_42 (by decide) ?_
          refine lv_iadd hx hb dX11_partsFrom_43 ?_
          refine lv_iload_n hx hb dX11_partsFrom_44 rfl (lv_at hl 2 rfl) ?_
          refine lv_isub hx hb dX11_partsFrom_45 ?_
          refine va_lald hx hb hS.1 hX.1 10 9 rfl rfl (o_2s1w (by omega) (by omega)) dX11_partsFrom_46 ?_
          refine lv_ladd hx hb dX11_partsFrom_47 ?_
          refine lv_lstore_n (lv' := [(3, .long (x3_2 + (partsBy (((((2 : Int32) * r_6) + (1 : Int32)) - p2)).toNatClampNeg))), (0, .ref (a 0)), (1, .int p1), (2, .int p2), (5, .int x5_3), (6, .int x6_4)]) hx hb dX11_partsFrom_48 rfl hl (by decide) rfl (fun ls hl => ?_)
          refine lv_iinc (v := (x5_3 + (1 : Int32))) (lv' := [(5, .int (x5_3 + (1 : Int32))), (3, .long (x3_2 + (partsBy (((((2 : Int32) * r_6) + (1 : Int32)) - p2)).toNatClampNeg))), (0, .ref (a 0)), (1, .int p1), (2, .int p2), (6, .int x6_4)]) hx hb dX11_partsFrom_49 hl (k := 4) rfl rfl (by decide) rfl (fun ls hl => ?_)
          refine lv_iinc (v := (x6_4 + (1 : Int32))) (lv' := [(6, .int (x6_4 + (1 : Int32))), (5, .int (x5_3 + (1 : Int32))), (3, .long (x3_2 + (partsBy (((((2 : Int32) * r_6) + (1 : Int32)) - p2)).toNatClampNeg))), (0, .ref (a 0)), (1, .int p1), (2, .int p2)]) hx hb dX11_partsFrom_52 hl (k := 5) rfl rfl (by decide) rfl (fun ls hl => ?_)
          have s52 := i_s1 (x := x6_4) (by omega)
          refine lv_goto (tgt := 8) hx hb dX11_partsFrom_55 (by decide) ?_
          exact ih_L8_1 (x3_2 + (partsBy (((((2 : Int32) * r_6) + (1 : Int32)) - p2)).toNatClampNeg)) (x5_3 + (1 : Int32)) (x6_4 + (1 : Int32)) (by omega) (by omega) he _ _ _ hX (lv_sub hl [3, 4, 5, 2, 1, 0] rfl)
  exact L8_1 9 (0 : Int64) (0 : Int32) (0 : Int32) (by omega) (by omega) he _ _ _ hX (lv_sub hl [3, 4, 5, 2, 1, 0] rfl)
abbrev rm_X11_likelyNow : Room := { frames := 4, cells := 0, slots := 0, locals := 94 }
set_option maxHeartbeats 4000000 in
set_option maxRecDepth 100000 in
theorem k_X11_likelyNow {l : Launch} {D : va_G} {E : sE} {a : Nat → Nat} {cA : Nat → ClassId} {hedges : Int32} {branches : Int32} {stand : Int32} {turn : Int32} {cuts : Int32} {asks : Int32} {seen : Int32} {pageLength : Int32} {isWhole : Int32} {newBranches : Int32} {gameCuts : Int32} {isKept : Int32} {keptHedge : Int32} {keptStand : Int32} {keptTurn : Int32} {keptCuts : Int32} {keptSeen : Int32} {seedNow : Int64} {hsh : Int64} {kindOf : Nat → Int32} {onOf : Nat → Int32} {seenBranch : Nat → Int32} {seenBegins : Nat → Int32} {seenWins : Nat → Int32} {page : Nat → Int32} {winner : Nat → Int32} {lasting : Nat → Int32} {worthBy : Nat → Int32} {wonBy : Nat → Int32} {keptKind : Nat → Int32} {keptBranch : Nat → Int32} {keptBegins : Nat → Int32} {keptWins : Nat → Int32} {partsBy : Nat → Int64} (p1 : Int32) (hbr : 0 ≤ (branches).toInt ∧ (branches).toInt ≤ 8) (hst : 0 ≤ (stand).toInt ∧ (stand).toInt < 256) (hwx : 0 ≤ (p1).toInt ∧ (p1).toInt ≤ 1) : ∀ q : Int32 × (Nat → Int64), q = f_X11_likelyNow branches stand kindOf onOf partsBy p1 → gMi l yX11_likelyNow wsX11_likelyNow rm_X11_likelyNow D E (tM cA) [.ref (a 0), .int p1] (wM a cA hedges branches stand turn cuts asks seen pageLength isWhole newBranches gameCuts isKept keptHedge keptStand keptTurn keptCuts keptSeen seedNow hsh kindOf onOf seenBranch seenBegins seenWins page winner lasting worthBy wonBy keptKind keptBranch keptBegins keptWins partsBy) (wM a cA hedges branches stand turn cuts asks seen pageLength isWhole newBranches gameCuts isKept keptHedge keptStand keptTurn keptCuts keptSeen seedNow hsh kindOf onOf seenBranch seenBegins seenWins page winner lasting worthBy wonBy keptKind keptBranch keptBegins keptWins q.2) q.1 := by
  intro q he0
  refine gM_of (cc := cX11_likelyNow) (maxL := 3) (ret := (some .int)) (Qf := gQi D (wM a cA hedges branches stand turn cuts asks seen pageLength isWhole newBranches gameCuts isKept keptHedge keptStand keptTurn keptCuts keptSeen seedNow hsh kindOf onOf seenBranch seenBegins seenWins page winner lasting worthBy wonBy keptKind keptBranch keptBegins keptWins q.2) q.1) (by decide) rfl (Nat.le_of_ble_eq_true rfl) ?_
  intro p e s m args below meth c Z ls Qz hx hb hr hml hlocks hown hts hS hX hl hq
  have he := he0.trans f_X11_likelyNow_s
  have hown : s.vm.findClass RX11 = some m.cls := hown
  have hl : lv_has ls 3 [(0, .ref (a 0)), (1, .int p1)] := hl
  have hi_X11 : ∀ w ∈ u_ws RX11 TX11 34, w ∈ wsX11_likelyNow := fun _ h => List.mem_cons_of_mem _ (List.mem_append_right _ h)
  have l_constantLong_182 := hts (Cond.constantLong RX11 182 (182891520000)) (List.mem_of_getElem? (i := 4) rfl)
  have l_constantLong_188 := hts (Cond.constantLong RX11 188 (1000000)) (List.mem_of_getElem? (i := 3) rfl)
  have l_fieldLink_38 := hts (Cond.fieldLink RX11 38 "HedgeGameModel" "partsBy" "[J") (List.mem_of_getElem? (i := 2) rfl)
  have l_fieldLink_86 := hts (Cond.fieldLink RX11 86 "HedgeGameModel" "stand" "I") (List.mem_of_getElem? (i := 1) rfl)
  have tm1 : ((-1 : Int32)).toInt = -1 := rfl
  have t0 : ((0 : Int32)).toInt = 0 := rfl
  have t1 : ((1 : Int32)).toInt = 1 := rfl
  have t2 : ((2 : Int32)).toInt = 2 := rfl
  refine lv_iconst (v := (0 : Int32)) hx hb dX11_likelyNow_0 (by decide) ?_
  refine lv_istore_n (lv' := [(2, .int (0 : Int32)), (0, .ref (a 0)), (1, .int p1)]) hx hb dX11_likelyNow_1 rfl hl (by decide) rfl (fun ls hl => ?_)
  have L2_1 : ∀ (n_2_1 : Nat) (partsBy_2 : Nat → Int64) (x2_3 : Int32), 0 ≤ (x2_3).toInt ∧ (x2_3).toInt ≤ 256 → 256 - (x2_3).toInt < (n_2_1 : Int) → q = f_X11_likelyNow_L2 n_2_1 branches stand kindOf onOf partsBy_2 p1 x2_3 → ∀ (H : Heap) (locs : List Loc) (ls : Array Slot), gX D Z s (wM a cA hedges branches stand turn cuts asks seen pageLength isWhole newBranches gameCuts isKept keptHedge keptStand keptTurn keptCuts keptSeen seedNow hsh kindOf onOf seenBranch seenBegins seenWins page winner lasting worthBy wonBy keptKind keptBranch keptBegins keptWins partsBy_2) H locs → lv_has ls 3 [(0, .ref (a 0)), (1, .int p1), (2, .int x2_3)] → W p l e rm_X11_likelyNow s m args below meth c H locs 0 0 Qz (F0 m 2 ls []) := by
    intro n_2_1
    induction n_2_1 with
    | zero =>
      intro partsBy_2 x2_3 ia ifu _ _ _ _ _ _
      exfalso; omega
    | succ n_2_1 ih_L2_1 =>
      intro partsBy_2 x2_3 ia ifu he H locs ls hX hl
      have he := he.trans f_X11_likelyNow_L2_s
      refine lv_iload_n hx hb dX11_likelyNow_2 rfl (lv_at hl 2 rfl) ?_
      refine lv_aload_n hx hb dX11_likelyNow_3 rfl (lv_at hl 0 rfl) ?_
      refine va_get (D := D) (ci := 11) (v := .int stand) (C := RX11) (T := TX11) (N := 34) hx hb hts hi_X11 hown hS.1 hX.1 0 rfl rfl 4 (by decide) l_fieldLink_86 (fun _ h9 => h9) rfl dX11_likelyNow_4 ?_
      refine lv_icmp_gt (tgt := 57) hx hb dX11_likelyNow_7 (by decide) (fun c7 => ?_) (fun c7 => ?_)
      · have he := he.trans (if_pos c7)
        have d7 := i_lt c7
        refine lv_aload_n hx hb dX11_likelyNow_57 rfl (lv_at hl 0 rfl) ?_
        refine va_get (D := D) (ci := 11) (v := .ref (a 10)) (C := RX11) (T := TX11) (N := 34) hx hb hts hi_X11 hown hS.1 hX.1 0 rfl rfl 19 (by decide) l_fieldLink_38 (fun _ h9 => h9) rfl dX11_likelyNow_58 ?_
        refine lv_iconst (v := (2 : Int32)) hx hb dX11_likelyNow_61 (by decide) ?_
        refine lv_aload_n hx hb dX11_likelyNow_62 rfl (lv_at hl 0 rfl) ?_
        refine va_get (D := D) (ci := 11) (v := .int stand) (C := RX11) (T := TX11) (N := 34) hx hb hts hi_X11 hown hS.1 hX.1 0 rfl rfl 4 (by decide) l_fieldLink_86 (fun _ h9 => h9) rfl dX11_likelyNow_63 ?_
        refine lv_imul hx hb dX11_likelyNow_66 ?_
        refine lv_iload_n hx hb dX11_likelyNow_67 rfl (lv_at hl 1 rfl) ?_
        refine lv_iadd hx hb dX11_likelyNow_68 ?_
        refine va_lald hx hb hS.1 hX.1 10 9 rfl rfl (o_2sw (by omega) (by omega)) dX11_likelyNow_69 ?_
        refine lv_ldc2 (v := (1000000 : Int64)) hx hb hown l_constantLong_188 dX11_likelyNow_70 ?_
        refine lv_lmul hx hb dX11_likelyNow_73 ?_
        refine lv_ldc2 (v := (182891520000 : Int64)) hx hb hown l_constantLong_182 dX11_likelyNow_74 ?_
        refine lv_ldiv hx hb dX11_likelyNow_77 (by decide) ?_
        refine lv_l2i hx hb dX11_likelyNow_78 rfl ?_
        subst he
        exact g_iret hx hb hr hlocks hX hq rfl dX11_likelyNow_79
      · have he := he.trans (if_neg c7)
        have d7 := i_nlt c7
        refine lv_iload_n hx hb dX11_likelyNow_10 rfl (lv_at hl 2 rfl) ?_
        refine lv_aload_n hx hb dX11_likelyNow_11 rfl (lv_at hl 0 rfl) ?_
        refine va_get (D := D) (ci := 11) (v := .int stand) (C := RX11) (T := TX11) (N := 34) hx hb hts hi_X11 hown hS.1 hX.1 0 rfl rfl 4 (by decide) l_fieldLink_86 (fun _ h9 => h9) rfl dX11_likelyNow_12 ?_
        refine lv_iconst (v := (-1 : Int32)) hx hb dX11_likelyNow_15 (by decide) ?_
        refine lv_ixor hx hb dX11_likelyNow_16 ?_
        refine lv_iand hx hb dX11_likelyNow_17 ?_
        refine lv_if_ne (tgt := 51) hx hb dX11_likelyNow_18 (by decide) (fun c18 => ?_) (fun c18 => ?_)
        · have he := he.trans (if_neg c18)
          have d18 := i_ne c18
          refine lv_iinc (v := (x2_3 + (1 : Int32))) (lv' := [(2, .int (x2_3 + (1 : Int32))), (0, .ref (a 0)), (1, .int p1)]) hx hb dX11_likelyNow_51 hl (k := 2) rfl rfl (by decide) rfl (fun ls hl => ?_)
          have s51 := i_s1 (x := x2_3) (by omega)
          refine lv_goto (tgt := 2) hx hb dX11_likelyNow_54 (by decide) ?_
          exact ih_L2_1 partsBy_2 (x2_3 + (1 : Int32)) (by omega) (by omega) he _ _ _ hX (lv_sub hl [1, 2, 0] rfl)
        · have he := he.trans (if_pos c18)
          have d18 := i_eq c18
          refine lv_aload_n hx hb dX11_likelyNow_21 rfl (lv_at hl 0 rfl) ?_
          refine va_get (D := D) (ci := 11) (v := .ref (a 10)) (C := RX11) (T := TX11) (N := 34) hx hb hts hi_X11 hown hS.1 hX.1 0 rfl rfl 19 (by decide) l_fieldLink_38 (fun _ h9 => h9) rfl dX11_likelyNow_22 ?_
          refine lv_iconst (v := (2 : Int32)) hx hb dX11_likelyNow_25 (by decide) ?_
          refine lv_iload_n hx hb dX11_likelyNow_26 rfl (lv_at hl 2 rfl) ?_
          refine lv_imul hx hb dX11_likelyNow_27 ?_
          refine lv_aload_n hx hb dX11_likelyNow_28 rfl (lv_at hl 0 rfl) ?_
          refine lv_iload_n hx hb dX11_likelyNow_29 rfl (lv_at hl 2 rfl) ?_
          refine lv_iconst (v := (0 : Int32)) hx hb dX11_likelyNow_30 (by decide) ?_
          obtain ⟨r_4, e31⟩ : ∃ z, z = (f_X11_partsFrom branches kindOf onOf partsBy_2 x2_3 (0 : Int32)) := ⟨_, rfl⟩
          rw [← e31] at he
          refine g_Vl (r := r_4) (As := [.int x2_3, .int (0 : Int32)]) (rest := [.int ((2 : Int32) * x2_3), .ref (a 10)]) (ci := 11) (q0 := 0) ⟨hx, hb, hml, hown, hts⟩ hS hX (k_X11_partsFrom x2_3 (0 : Int32) (by omega) (by omega) (by omega) r_4 e31) (cwV 2 hts gX11_likelyNow_X11_partsFrom rfl rfl rfl (by decide +kernel) ⟨Nat.le_of_ble_eq_true rfl, Nat.le_of_ble_eq_true rfl⟩) rfl rfl rfl hl.1 rfl (Nat.le_of_ble_eq_true rfl) dX11_likelyNow_31 ⟨Nat.zero_le _, Nat.zero_le _⟩ (fun H locs hX => ?_)
          refine va_last hx hb hS.1 hX.1 hX.2.1 hX.2.2 10 9 rfl rfl (o_2s (by omega)) dX11_likelyNow_34 (fun H locs hP hD hs => ?_)
          have hX : gX D Z s (wM a cA hedges branches stand turn cuts asks seen pageLength isWhole newBranches gameCuts isKept keptHedge keptStand keptTurn keptCuts keptSeen seedNow hsh kindOf onOf seenBranch seenBegins seenWins page winner lasting worthBy wonBy keptKind keptBranch keptBegins keptWins (vp_updL partsBy_2 (((2 : Int32) * x2_3)).toNatClampNeg r_4)) H locs := ⟨hP, hD, hs⟩
          refine lv_aload_n hx hb dX11_likelyNow_35 rfl (lv_at hl 0 rfl) ?_
          refine va_get (D := D) (ci := 11) (v := .ref (a 10)) (C := RX11) (T := TX11) (N := 34) hx hb hts hi_X11 hown hS.1 hX.1 0 rfl rfl 19 (by decide) l_fieldLink_38 (fun _ h9 => h9) rfl dX11_likelyNow_36 ?_
          refine lv_iconst (v := (2 : Int32)) hx hb dX11_likelyNow_39 (by decide) ?_
          refine lv_iload_n hx hb dX11_likelyNow_40 rfl (lv_at hl 2 rfl) ?_
          refine lv_imul hx hb dX11_likelyNow_41 ?_
          refine lv_iconst (v := (1 : Int32)) hx hb dX11_likelyNow_42 (by decide) ?_
          refine lv_iadd hx hb dX11_likelyNow_43 ?_
          refine lv_aload_n hx hb dX11_likelyNow_44 rfl (lv_at hl 0 rfl) ?_
          refine lv_iload_n hx hb dX11_likelyNow_45 rfl (lv_at hl 2 rfl) ?_
          refine lv_iconst (v := (1 : Int32)) hx hb dX11_likelyNow_46 (by decide) ?_
          obtain ⟨r_5, e47⟩ : ∃ z, z = (f_X11_partsFrom branches kindOf onOf (vp_updL partsBy_2 (((2 : Int32) * x2_3)).toNatClampNeg r_4) x2_3 (1 : Int32)) := ⟨_, rfl⟩
          rw [← e47] at he
          refine g_Vl (r := r_5) (As := [.int x2_3, .int (1 : Int32)]) (rest := [.int (((2 : Int32) * x2_3) + (1 : Int32)), .ref (a 10)]) (ci := 11) (q0 := 0) ⟨hx, hb, hml, hown, hts⟩ hS hX (k_X11_partsFrom x2_3 (1 : Int32) (by omega) (by omega) (by omega) r_5 e47) (cwV 2 hts gX11_likelyNow_X11_partsFrom rfl rfl rfl (by decide +kernel) ⟨Nat.le_of_ble_eq_true rfl, Nat.le_of_ble_eq_true rfl⟩) rfl rfl rfl hl.1 rfl (Nat.le_of_ble_eq_true rfl) dX11_likelyNow_47 ⟨Nat.zero_le _, Nat.zero_le _⟩ (fun H locs hX => ?_)
          refine va_last hx hb hS.1 hX.1 hX.2.1 hX.2.2 10 9 rfl rfl (o_2s1 (by omega)) dX11_likelyNow_50 (fun H locs hP hD hs => ?_)
          have hX : gX D Z s (wM a cA hedges branches stand turn cuts asks seen pageLength isWhole newBranches gameCuts isKept keptHedge keptStand keptTurn keptCuts keptSeen seedNow hsh kindOf onOf seenBranch seenBegins seenWins page winner lasting worthBy wonBy keptKind keptBranch keptBegins keptWins (vp_updL (vp_updL partsBy_2 (((2 : Int32) * x2_3)).toNatClampNeg r_4) ((((2 : Int32) * x2_3) + (1 : Int32))).toNatClampNeg r_5)) H locs := ⟨hP, hD, hs⟩
          refine lv_iinc (v := (x2_3 + (1 : Int32))) (lv' := [(2, .int (x2_3 + (1 : Int32))), (0, .ref (a 0)), (1, .int p1)]) hx hb dX11_likelyNow_51 hl (k := 2) rfl rfl (by decide) rfl (fun ls hl => ?_)
          have s51 := i_s1 (x := x2_3) (by omega)
          refine lv_goto (tgt := 2) hx hb dX11_likelyNow_54 (by decide) ?_
          exact ih_L2_1 (vp_updL (vp_updL partsBy_2 (((2 : Int32) * x2_3)).toNatClampNeg r_4) ((((2 : Int32) * x2_3) + (1 : Int32))).toNatClampNeg r_5) (x2_3 + (1 : Int32)) (by omega) (by omega) he _ _ _ hX (lv_sub hl [1, 2, 0] rfl)
  exact L2_1 257 partsBy (0 : Int32) (by omega) (by omega) he _ _ _ hX (lv_sub hl [1, 2, 0] rfl)
abbrev rm_X11_likely : Room := { frames := 5, cells := 0, slots := 0, locals := 116 }
set_option maxHeartbeats 4000000 in
set_option maxRecDepth 100000 in
theorem k_X11_likely {l : Launch} {D : va_G} {E : sE} {a : Nat → Nat} {cA : Nat → ClassId} {hedges : Int32} {branches : Int32} {stand : Int32} {turn : Int32} {cuts : Int32} {asks : Int32} {seen : Int32} {pageLength : Int32} {isWhole : Int32} {newBranches : Int32} {gameCuts : Int32} {isKept : Int32} {keptHedge : Int32} {keptStand : Int32} {keptTurn : Int32} {keptCuts : Int32} {keptSeen : Int32} {seedNow : Int64} {hsh : Int64} {kindOf : Nat → Int32} {onOf : Nat → Int32} {seenBranch : Nat → Int32} {seenBegins : Nat → Int32} {seenWins : Nat → Int32} {page : Nat → Int32} {winner : Nat → Int32} {lasting : Nat → Int32} {worthBy : Nat → Int32} {wonBy : Nat → Int32} {keptKind : Nat → Int32} {keptBranch : Nat → Int32} {keptBegins : Nat → Int32} {keptWins : Nat → Int32} {partsBy : Nat → Int64} (p1 : Int32) (hbr : 0 ≤ (branches).toInt ∧ (branches).toInt ≤ 8) (hst : 0 ≤ (stand).toInt ∧ (stand).toInt < 256) : ∀ q : Int32 × (Nat → Int64), q = f_X11_likely branches stand kindOf onOf partsBy p1 → gMi l yX11_likely wsX11_likely rm_X11_likely D E (tM cA) [.ref (a 0), .int p1] (wM a cA hedges branches stand turn cuts asks seen pageLength isWhole newBranches gameCuts isKept keptHedge keptStand keptTurn keptCuts keptSeen seedNow hsh kindOf onOf seenBranch seenBegins seenWins page winner lasting worthBy wonBy keptKind keptBranch keptBegins keptWins partsBy) (wM a cA hedges branches stand turn cuts asks seen pageLength isWhole newBranches gameCuts isKept keptHedge keptStand keptTurn keptCuts keptSeen seedNow hsh kindOf onOf seenBranch seenBegins seenWins page winner lasting worthBy wonBy keptKind keptBranch keptBegins keptWins q.2) q.1 := by
  intro q he0
  refine gM_of (cc := cX11_likely) (maxL := 2) (ret := (some .int)) (Qf := gQi D (wM a cA hedges branches stand turn cuts asks seen pageLength isWhole newBranches gameCuts isKept keptHedge keptStand keptTurn keptCuts keptSeen seedNow hsh kindOf onOf seenBranch seenBegins seenWins page winner lasting worthBy wonBy keptKind keptBranch keptBegins keptWins q.2) q.1) (by decide) rfl (Nat.le_of_ble_eq_true rfl) ?_
  intro p e s m args below meth c Z ls Qz hx hb hr hml hlocks hown hts hS hX hl hq
  have he := he0.trans f_X11_likely_s
  have hown : s.vm.findClass RX11 = some m.cls := hown
  have hl : lv_has ls 2 [(0, .ref (a 0)), (1, .int p1)] := hl
  have t0 : ((0 : Int32)).toInt = 0 := rfl
  have t1 : ((1 : Int32)).toInt = 1 := rfl
  refine lv_aload_n hx hb dX11_likely_0 rfl (lv_at hl 0 rfl) ?_
  refine lv_iload_n hx hb dX11_likely_1 rfl (lv_at hl 1 rfl) ?_
  obtain ⟨r_1, e2⟩ : ∃ z, z = (f_X11_refused branches p1) := ⟨_, rfl⟩
  rw [← e2] at he
  refine g_Vi (r := r_1) (As := [.int p1]) (rest := []) (ci := 11) (q0 := 0) ⟨hx, hb, hml, hown, hts⟩ hS hX (k_X11_refused p1 r_1 e2) (cwV 1 hts gX11_likely_X11_refused rfl rfl rfl (by decide +kernel) ⟨Nat.le_of_ble_eq_true rfl, Nat.le_of_ble_eq_true rfl⟩) rfl rfl rfl hl.1 rfl (Nat.le_of_ble_eq_true rfl) dX11_likely_2 ⟨Nat.zero_le _, Nat.zero_le _⟩ (fun H locs hX => ?_)
  have k2_0 : (r_1).toInt < 0 ∨ (0 ≤ (p1).toInt ∧ (p1).toInt ≤ 1) := by rw [e2]; exact r_refused
  refine lv_if_ge (tgt := 16) hx hb dX11_likely_5 (by decide) (fun c5 => ?_) (fun c5 => ?_)
  · have he := he.trans (if_pos c5)
    have d5 := i_le c5
    refine lv_aload_n hx hb dX11_likely_16 rfl (lv_at hl 0 rfl) ?_
    refine lv_iload_n hx hb dX11_likely_17 rfl (lv_at hl 1 rfl) ?_
    obtain ⟨z_2, e18⟩ : ∃ z, z = (f_X11_likelyNow branches stand kindOf onOf partsBy p1) := ⟨_, rfl⟩
    rw [← e18] at he
    try dsimp only at he
    refine g_Vi (r := z_2.1) (w2 := (wM a cA hedges branches stand turn cuts asks seen pageLength isWhole newBranches gameCuts isKept keptHedge keptStand keptTurn keptCuts keptSeen seedNow hsh kindOf onOf seenBranch seenBegins seenWins page winner lasting worthBy wonBy keptKind keptBranch keptBegins keptWins z_2.2)) (As := [.int p1]) (rest := []) (ci := 11) (q0 := 0) ⟨hx, hb, hml, hown, hts⟩ hS hX (k_X11_likelyNow p1 (by omega) (by omega) (by omega) z_2 e18) (cwV 1 hts gX11_likely_X11_likelyNow rfl rfl rfl (by decide +kernel) ⟨Nat.le_of_ble_eq_true rfl, Nat.le_of_ble_eq_true rfl⟩) rfl rfl rfl hl.1 rfl (Nat.le_of_ble_eq_true rfl) dX11_likely_18 ⟨Nat.zero_le _, Nat.zero_le _⟩ (fun H locs hX => ?_)
    subst he
    exact g_iret hx hb hr hlocks hX hq rfl dX11_likely_21
  · have he := he.trans (if_neg c5)
    have d5 := i_nle c5
    refine lv_aload_n hx hb dX11_likely_8 rfl (lv_at hl 0 rfl) ?_
    refine lv_iload_n hx hb dX11_likely_9 rfl (lv_at hl 1 rfl) ?_
    refine g_Vi (r := r_1) (As := [.int p1]) (rest := []) (ci := 11) (q0 := 0) ⟨hx, hb, hml, hown, hts⟩ hS hX (k_X11_refused p1 r_1 e2) (cwV 1 hts gX11_likely_X11_refused rfl rfl rfl (by decide +kernel) ⟨Nat.le_of_ble_eq_true rfl, Nat.le_of_ble_eq_true rfl⟩) rfl rfl rfl hl.1 rfl (Nat.le_of_ble_eq_true rfl) dX11_likely_10 ⟨Nat.zero_le _, Nat.zero_le _⟩ (fun H locs hX => ?_)
    have k10_0 : (r_1).toInt < 0 ∨ (0 ≤ (p1).toInt ∧ (p1).toInt ≤ 1) := by rw [e2]; exact r_refused
    refine lv_goto (tgt := 21) hx hb dX11_likely_13 (by decide) ?_
    subst he
    exact g_iret hx hb hr hlocks hX hq rfl dX11_likely_21
abbrev rm_X11_see : Room := { frames := 2, cells := 0, slots := 0, locals := 43 }
set_option maxHeartbeats 4000000 in
set_option maxRecDepth 100000 in
theorem k_X11_see {l : Launch} {D : va_G} {E : sE} {a : Nat → Nat} {cA : Nat → ClassId} {hedges : Int32} {branches : Int32} {stand : Int32} {turn : Int32} {cuts : Int32} {asks : Int32} {seen : Int32} {pageLength : Int32} {isWhole : Int32} {newBranches : Int32} {gameCuts : Int32} {isKept : Int32} {keptHedge : Int32} {keptStand : Int32} {keptTurn : Int32} {keptCuts : Int32} {keptSeen : Int32} {seedNow : Int64} {hsh : Int64} {kindOf : Nat → Int32} {onOf : Nat → Int32} {seenBranch : Nat → Int32} {seenBegins : Nat → Int32} {seenWins : Nat → Int32} {page : Nat → Int32} {winner : Nat → Int32} {lasting : Nat → Int32} {worthBy : Nat → Int32} {wonBy : Nat → Int32} {keptKind : Nat → Int32} {keptBranch : Nat → Int32} {keptBegins : Nat → Int32} {keptWins : Nat → Int32} {partsBy : Nat → Int64} (p1 : Int32) (p2 : Int32) (p3 : Int32) (hbr : 0 ≤ (branches).toInt ∧ (branches).toInt ≤ 8) (hse : 0 ≤ (seen).toInt ∧ (seen).toInt ≤ 6) : ∀ q : Int32 × Int32 × (Nat → Int32) × (Nat → Int32) × (Nat → Int32), q = f_X11_see branches seen seenBranch seenBegins seenWins p1 p2 p3 → gMi l yX11_see wsX11_see rm_X11_see D E (tM cA) [.ref (a 0), .int p1, .int p2, .int p3] (wM a cA hedges branches stand turn cuts asks seen pageLength isWhole newBranches gameCuts isKept keptHedge keptStand keptTurn keptCuts keptSeen seedNow hsh kindOf onOf seenBranch seenBegins seenWins page winner lasting worthBy wonBy keptKind keptBranch keptBegins keptWins partsBy) (wM a cA hedges branches stand turn cuts asks q.2.1 pageLength isWhole newBranches gameCuts isKept keptHedge keptStand keptTurn keptCuts keptSeen seedNow hsh kindOf onOf q.2.2.1 q.2.2.2.1 q.2.2.2.2 page winner lasting worthBy wonBy keptKind keptBranch keptBegins keptWins partsBy) q.1 := by
  intro q he0
  refine gM_of (cc := cX11_see) (maxL := 4) (ret := (some .int)) (Qf := gQi D (wM a cA hedges branches stand turn cuts asks q.2.1 pageLength isWhole newBranches gameCuts isKept keptHedge keptStand keptTurn keptCuts keptSeen seedNow hsh kindOf onOf q.2.2.1 q.2.2.2.1 q.2.2.2.2 page winner lasting worthBy wonBy keptKind keptBranch keptBegins keptWins partsBy) q.1) (by decide) rfl (Nat.le_of_ble_eq_true rfl) ?_
  intro p e s m args below meth c Z ls Qz hx hb hr hml hlocks hown hts hS hX hl hq
  have he := he0.trans f_X11_see_s
  have hown : s.vm.findClass RX11 = some m.cls := hown
  have hl : lv_has ls 4 [(0, .ref (a 0)), (1, .int p1), (2, .int p2), (3, .int p3)] := hl
  have hi_X11 : ∀ w ∈ u_ws RX11 TX11 34, w ∈ wsX11_see := fun _ h => List.mem_cons_of_mem _ (List.mem_append_right _ h)
  have l_fieldLink_16 := hts (Cond.fieldLink RX11 16 "HedgeGameModel" "seenBranch" "[I") (List.mem_of_getElem? (i := 2) rfl)
  have l_fieldLink_19 := hts (Cond.fieldLink RX11 19 "HedgeGameModel" "seenBegins" "[I") (List.mem_of_getElem? (i := 3) rfl)
  have l_fieldLink_22 := hts (Cond.fieldLink RX11 22 "HedgeGameModel" "seenWins" "[I") (List.mem_of_getElem? (i := 4) rfl)
  have l_fieldLink_98 := hts (Cond.fieldLink RX11 98 "HedgeGameModel" "seen" "I") (List.mem_of_getElem? (i := 1) rfl)
  have tm104 : ((-104 : Int32)).toInt = -104 := rfl
  have tm102 : ((-102 : Int32)).toInt = -102 := rfl
  have tm101 : ((-101 : Int32)).toInt = -101 := rfl
  have t0 : ((0 : Int32)).toInt = 0 := rfl
  have t1 : ((1 : Int32)).toInt = 1 := rfl
  have t6 : ((6 : Int32)).toInt = 6 := rfl
  refine lv_aload_n hx hb dX11_see_0 rfl (lv_at hl 0 rfl) ?_
  refine lv_iload_n hx hb dX11_see_1 rfl (lv_at hl 1 rfl) ?_
  obtain ⟨r_1, e2⟩ : ∃ z, z = (f_X11_isBranch branches p1) := ⟨_, rfl⟩
  rw [← e2] at he
  refine g_Vi (r := r_1) (As := [.int p1]) (rest := []) (ci := 11) (q0 := 0) ⟨hx, hb, hml, hown, hts⟩ hS hX (k_X11_isBranch p1 (by omega) r_1 e2) (cwV 1 hts gX11_see_X11_isBranch rfl rfl rfl (by decide +kernel) ⟨Nat.le_of_ble_eq_true rfl, Nat.le_of_ble_eq_true rfl⟩) rfl rfl rfl hl.1 rfl (Nat.le_of_ble_eq_true rfl) dX11_see_2 ⟨Nat.zero_le _, Nat.zero_le _⟩ (fun H locs hX => ?_)
  have k2_0 : (r_1).toInt = 0 ∨ ((r_1).toInt = 1 ∧ 0 ≤ (p1).toInt ∧ (p1).toInt < (branches).toInt) := by rw [e2]; exact r_isBranch (by omega)
  refine lv_if_ne (tgt := 11) hx hb dX11_see_5 (by decide) (fun c5 => ?_) (fun c5 => ?_)
  · have he := he.trans (if_neg c5)
    have d5 := i_ne c5
    refine lv_iload_n hx hb dX11_see_11 rfl (lv_at hl 2 rfl) ?_
    refine lv_iconst (v := (0 : Int32)) hx hb dX11_see_12 (by decide) ?_
    refine lv_iconst (v := (1 : Int32)) hx hb dX11_see_13 (by decide) ?_
    obtain ⟨r_2, e14⟩ : ∃ z, z = (f_X11_within p2 (0 : Int32) (1 : Int32)) := ⟨_, rfl⟩
    rw [← e14] at he
    refine g_Si (r := r_2) (As := [.int p2, .int (0 : Int32), .int (1 : Int32)]) (rest := []) ⟨hx, hb, hml, hown, hts⟩ hS hX (k_X11_within p2 (0 : Int32) (1 : Int32) r_2 e14) (va_cwS 3 hts gX11_see_X11_within rfl rfl rfl (by decide +kernel) ⟨Nat.le_of_ble_eq_true rfl, Nat.le_of_ble_eq_true rfl⟩) rfl hl.1 rfl (Nat.le_of_ble_eq_true rfl) dX11_see_14 ⟨Nat.zero_le _, Nat.zero_le _⟩ (fun H locs hX => ?_)
    have k14_0 : (r_2).toInt = 0 ∨ ((r_2).toInt = 1 ∧ ((0 : Int32)).toInt ≤ (p2).toInt ∧ (p2).toInt ≤ ((1 : Int32)).toInt) := by rw [e14]; exact r_within
    refine lv_if_ne (tgt := 23) hx hb dX11_see_17 (by decide) (fun c17 => ?_) (fun c17 => ?_)
    · have he := he.trans (if_neg c17)
      have d17 := i_ne c17
      refine lv_aload_n hx hb dX11_see_23 rfl (lv_at hl 0 rfl) ?_
      refine va_get (D := D) (ci := 11) (v := .int seen) (C := RX11) (T := TX11) (N := 34) hx hb hts hi_X11 hown hS.1 hX.1 0 rfl rfl 8 (by decide) l_fieldLink_98 (fun _ h9 => h9) rfl dX11_see_24 ?_
      refine lv_bipush (v := (6 : Int32)) hx hb dX11_see_27 (by decide) ?_
      refine lv_icmp_ne (tgt := 35) hx hb dX11_see_29 (by decide) (fun c29 => ?_) (fun c29 => ?_)
      · have he := he.trans (if_neg c29)
        have d29 := i_ne c29
        refine lv_aload_n hx hb dX11_see_35 rfl (lv_at hl 0 rfl) ?_
        refine va_get (D := D) (ci := 11) (v := .ref (a 3)) (C := RX11) (T := TX11) (N := 34) hx hb hts hi_X11 hown hS.1 hX.1 0 rfl rfl 9 (by decide) l_fieldLink_16 (fun _ h9 => h9) rfl dX11_see_36 ?_
        refine lv_aload_n hx hb dX11_see_39 rfl (lv_at hl 0 rfl) ?_
        refine va_get (D := D) (ci := 11) (v := .int seen) (C := RX11) (T := TX11) (N := 34) hx hb hts hi_X11 hown hS.1 hX.1 0 rfl rfl 8 (by decide) l_fieldLink_98 (fun _ h9 => h9) rfl dX11_see_40 ?_
        refine lv_iload_n hx hb dX11_see_43 rfl (lv_at hl 1 rfl) ?_
        refine va_iast hx hb hS.1 hX.1 hX.2.1 hX.2.2 3 2 rfl rfl (vp_in_iff.mpr (by omega)) dX11_see_44 (fun H locs hP hD hs => ?_)
        have hX : gX D Z s (wM a cA hedges branches stand turn cuts asks seen pageLength isWhole newBranches gameCuts isKept keptHedge keptStand keptTurn keptCuts keptSeen seedNow hsh kindOf onOf (upd seenBranch (seen).toNatClampNeg p1) seenBegins seenWins page winner lasting worthBy wonBy keptKind keptBranch keptBegins keptWins partsBy) H locs := ⟨hP, hD, hs⟩
        refine lv_aload_n hx hb dX11_see_45 rfl (lv_at hl 0 rfl) ?_
        refine va_get (D := D) (ci := 11) (v := .ref (a 4)) (C := RX11) (T := TX11) (N := 34) hx hb hts hi_X11 hown hS.1 hX.1 0 rfl rfl 10 (by decide) l_fieldLink_19 (fun _ h9 => h9) rfl dX11_see_46 ?_
        refine lv_aload_n hx hb dX11_see_49 rfl (lv_at hl 0 rfl) ?_
        refine va_get (D := D) (ci := 11) (v := .int seen) (C := RX11) (T := TX11) (N := 34) hx hb hts hi_X11 hown hS.1 hX.1 0 rfl rfl 8 (by decide) l_fieldLink_98 (fun _ h9 => h9) rfl dX11_see_50 ?_
        refine lv_iload_n hx hb dX11_see_53 rfl (lv_at hl 2 rfl) ?_
        refine va_iast hx hb hS.1 hX.1 hX.2.1 hX.2.2 4 3 rfl rfl (vp_in_iff.mpr (by omega)) dX11_see_54 (fun H locs hP hD hs => ?_)
        have hX : gX D Z s (wM a cA hedges branches stand turn cuts asks seen pageLength isWhole newBranches gameCuts isKept keptHedge keptStand keptTurn keptCuts keptSeen seedNow hsh kindOf onOf (upd seenBranch (seen).toNatClampNeg p1) (upd seenBegins (seen).toNatClampNeg p2) seenWins page winner lasting worthBy wonBy keptKind keptBranch keptBegins keptWins partsBy) H locs := ⟨hP, hD, hs⟩
        refine lv_aload_n hx hb dX11_see_55 rfl (lv_at hl 0 rfl) ?_
        refine va_get (D := D) (ci := 11) (v := .ref (a 5)) (C := RX11) (T := TX11) (N := 34) hx hb hts hi_X11 hown hS.1 hX.1 0 rfl rfl 11 (by decide) l_fieldLink_22 (fun _ h9 => h9) rfl dX11_see_56 ?_
        refine lv_aload_n hx hb dX11_see_59 rfl (lv_at hl 0 rfl) ?_
        refine va_get (D := D) (ci := 11) (v := .int seen) (C := RX11) (T := TX11) (N := 34) hx hb hts hi_X11 hown hS.1 hX.1 0 rfl rfl 8 (by decide) l_fieldLink_98 (fun _ h9 => h9) rfl dX11_see_60 ?_
        refine lv_iload_n hx hb dX11_see_63 rfl (lv_at hl 3 rfl) ?_
        refine lv_if_eq (tgt := 71) hx hb dX11_see_64 (by decide) (fun c64 => ?_) (fun c64 => ?_)
        · have he := he.trans (if_pos c64)
          have d64 := i_eq c64
          refine lv_iconst (v := (0 : Int32)) hx hb dX11_see_71 (by decide) ?_
          refine va_iast hx hb hS.1 hX.1 hX.2.1 hX.2.2 5 4 rfl rfl (vp_in_iff.mpr (by omega)) dX11_see_72 (fun H locs hP hD hs => ?_)
          have hX : gX D Z s (wM a cA hedges branches stand turn cuts asks seen pageLength isWhole newBranches gameCuts isKept keptHedge keptStand keptTurn keptCuts keptSeen seedNow hsh kindOf onOf (upd seenBranch (seen).toNatClampNeg p1) (upd seenBegins (seen).toNatClampNeg p2) (upd seenWins (seen).toNatClampNeg (0 : Int32)) page winner lasting worthBy wonBy keptKind keptBranch keptBegins keptWins partsBy) H locs := ⟨hP, hD, hs⟩
          refine lv_aload_n hx hb dX11_see_73 rfl (lv_at hl 0 rfl) ?_
          refine lv_dup hx hb dX11_see_74 rfl ?_
          refine va_get (D := D) (ci := 11) (v := .int seen) (C := RX11) (T := TX11) (N := 34) hx hb hts hi_X11 hown hS.1 hX.1 0 rfl rfl 8 (by decide) l_fieldLink_98 (fun _ h9 => h9) rfl dX11_see_75 ?_
          refine lv_iconst (v := (1 : Int32)) hx hb dX11_see_78 (by decide) ?_
          refine lv_iadd hx hb dX11_see_79 ?_
          refine va_put (D := D) (ci := 11) (v := .int (seen + (1 : Int32))) (ty := .int) (C := RX11) (T := TX11) (N := 34) hx hb hts hi_X11 tyX11 tyX11_ok nmX11 hown hS.1 hX.1 hX.2.1 hX.2.2 0 rfl rfl 8 (by decide) l_fieldLink_98 (fun _ h9 => h9) rfl (by decide +kernel) rfl rfl (Nat.le_of_ble_eq_true rfl) dX11_see_80 (fun H locs hP hD hs => ?_)
          have hX : gX D Z s (wM a cA hedges branches stand turn cuts asks (seen + (1 : Int32)) pageLength isWhole newBranches gameCuts isKept keptHedge keptStand keptTurn keptCuts keptSeen seedNow hsh kindOf onOf (upd seenBranch (seen).toNatClampNeg p1) (upd seenBegins (seen).toNatClampNeg p2) (upd seenWins (seen).toNatClampNeg (0 : Int32)) page winner lasting worthBy wonBy keptKind keptBranch keptBegins keptWins partsBy) H locs := ⟨hP, hD, hs⟩
          refine lv_aload_n hx hb dX11_see_83 rfl (lv_at hl 0 rfl) ?_
          refine va_get (D := D) (ci := 11) (v := .int (seen + (1 : Int32))) (C := RX11) (T := TX11) (N := 34) hx hb hts hi_X11 hown hS.1 hX.1 0 rfl rfl 8 (by decide) l_fieldLink_98 (fun _ h9 => h9) rfl dX11_see_84 ?_
          subst he
          exact g_iret hx hb hr hlocks hX hq rfl dX11_see_87
        · have he := he.trans (if_neg c64)
          have d64 := i_ne c64
          refine lv_iconst (v := (1 : Int32)) hx hb dX11_see_67 (by decide) ?_
          refine lv_goto (tgt := 72) hx hb dX11_see_68 (by decide) ?_
          refine va_iast hx hb hS.1 hX.1 hX.2.1 hX.2.2 5 4 rfl rfl (vp_in_iff.mpr (by omega)) dX11_see_72 (fun H locs hP hD hs => ?_)
          have hX : gX D Z s (wM a cA hedges branches stand turn cuts asks seen pageLength isWhole newBranches gameCuts isKept keptHedge keptStand keptTurn keptCuts keptSeen seedNow hsh kindOf onOf (upd seenBranch (seen).toNatClampNeg p1) (upd seenBegins (seen).toNatClampNeg p2) (upd seenWins (seen).toNatClampNeg (1 : Int32)) page winner lasting worthBy wonBy keptKind keptBranch keptBegins keptWins partsBy) H locs := ⟨hP, hD, hs⟩
          refine lv_aload_n hx hb dX11_see_73 rfl (lv_at hl 0 rfl) ?_
          refine lv_dup hx hb dX11_see_74 rfl ?_
          refine va_get (D := D) (ci := 11) (v := .int seen) (C := RX11) (T := TX11) (N := 34) hx hb hts hi_X11 hown hS.1 hX.1 0 rfl rfl 8 (by decide) l_fieldLink_98 (fun _ h9 => h9) rfl dX11_see_75 ?_
          refine lv_iconst (v := (1 : Int32)) hx hb dX11_see_78 (by decide) ?_
          refine lv_iadd hx hb dX11_see_79 ?_
          refine va_put (D := D) (ci := 11) (v := .int (seen + (1 : Int32))) (ty := .int) (C := RX11) (T := TX11) (N := 34) hx hb hts hi_X11 tyX11 tyX11_ok nmX11 hown hS.1 hX.1 hX.2.1 hX.2.2 0 rfl rfl 8 (by decide) l_fieldLink_98 (fun _ h9 => h9) rfl (by decide +kernel) rfl rfl (Nat.le_of_ble_eq_true rfl) dX11_see_80 (fun H locs hP hD hs => ?_)
          have hX : gX D Z s (wM a cA hedges branches stand turn cuts asks (seen + (1 : Int32)) pageLength isWhole newBranches gameCuts isKept keptHedge keptStand keptTurn keptCuts keptSeen seedNow hsh kindOf onOf (upd seenBranch (seen).toNatClampNeg p1) (upd seenBegins (seen).toNatClampNeg p2) (upd seenWins (seen).toNatClampNeg (1 : Int32)) page winner lasting worthBy wonBy keptKind keptBranch keptBegins keptWins partsBy) H locs := ⟨hP, hD, hs⟩
          refine lv_aload_n hx hb dX11_see_83 rfl (lv_at hl 0 rfl) ?_
          refine va_get (D := D) (ci := 11) (v := .int (seen + (1 : Int32))) (C := RX11) (T := TX11) (N := 34) hx hb hts hi_X11 hown hS.1 hX.1 0 rfl rfl 8 (by decide) l_fieldLink_98 (fun _ h9 => h9) rfl dX11_see_84 ?_
          subst he
          exact g_iret hx hb hr hlocks hX hq rfl dX11_see_87
      · have he := he.trans (if_pos c29)
        have d29 := i_eq c29
        refine lv_bipush (v := (-104 : Int32)) hx hb dX11_see_32 (by decide) ?_
        subst he
        exact g_iret hx hb hr hlocks hX hq rfl dX11_see_34
    · have he := he.trans (if_pos c17)
      have d17 := i_eq c17
      refine lv_bipush (v := (-102 : Int32)) hx hb dX11_see_20 (by decide) ?_
      subst he
      exact g_iret hx hb hr hlocks hX hq rfl dX11_see_22
  · have he := he.trans (if_pos c5)
    have d5 := i_eq c5
    refine lv_bipush (v := (-101 : Int32)) hx hb dX11_see_8 (by decide) ?_
    subst he
    exact g_iret hx hb hr hlocks hX hq rfl dX11_see_10
abbrev rm_X11_forget : Room := { frames := 0, cells := 0, slots := 0, locals := 0 }
set_option maxHeartbeats 4000000 in
set_option maxRecDepth 100000 in
theorem k_X11_forget {l : Launch} {D : va_G} {E : sE} {a : Nat → Nat} {cA : Nat → ClassId} {hedges : Int32} {branches : Int32} {stand : Int32} {turn : Int32} {cuts : Int32} {asks : Int32} {seen : Int32} {pageLength : Int32} {isWhole : Int32} {newBranches : Int32} {gameCuts : Int32} {isKept : Int32} {keptHedge : Int32} {keptStand : Int32} {keptTurn : Int32} {keptCuts : Int32} {keptSeen : Int32} {seedNow : Int64} {hsh : Int64} {kindOf : Nat → Int32} {onOf : Nat → Int32} {seenBranch : Nat → Int32} {seenBegins : Nat → Int32} {seenWins : Nat → Int32} {page : Nat → Int32} {winner : Nat → Int32} {lasting : Nat → Int32} {worthBy : Nat → Int32} {wonBy : Nat → Int32} {keptKind : Nat → Int32} {keptBranch : Nat → Int32} {keptBegins : Nat → Int32} {keptWins : Nat → Int32} {partsBy : Nat → Int64}   : ∀ q : Int32 × Int32, q = f_X11_forget seen → gMi l yX11_forget wsX11_forget rm_X11_forget D E (tM cA) [.ref (a 0)] (wM a cA hedges branches stand turn cuts asks seen pageLength isWhole newBranches gameCuts isKept keptHedge keptStand keptTurn keptCuts keptSeen seedNow hsh kindOf onOf seenBranch seenBegins seenWins page winner lasting worthBy wonBy keptKind keptBranch keptBegins keptWins partsBy) (wM a cA hedges branches stand turn cuts asks q.2 pageLength isWhole newBranches gameCuts isKept keptHedge keptStand keptTurn keptCuts keptSeen seedNow hsh kindOf onOf seenBranch seenBegins seenWins page winner lasting worthBy wonBy keptKind keptBranch keptBegins keptWins partsBy) q.1 := by
  intro q he0
  refine gM_of (cc := cX11_forget) (maxL := 2) (ret := (some .int)) (Qf := gQi D (wM a cA hedges branches stand turn cuts asks q.2 pageLength isWhole newBranches gameCuts isKept keptHedge keptStand keptTurn keptCuts keptSeen seedNow hsh kindOf onOf seenBranch seenBegins seenWins page winner lasting worthBy wonBy keptKind keptBranch keptBegins keptWins partsBy) q.1) (by decide) rfl (Nat.le_of_ble_eq_true rfl) ?_
  intro p e s m args below meth c Z ls Qz hx hb hr hml hlocks hown hts hS hX hl hq
  have he := he0.trans f_X11_forget_s
  have hown : s.vm.findClass RX11 = some m.cls := hown
  have hl : lv_has ls 2 [(0, .ref (a 0))] := hl
  have hi_X11 : ∀ w ∈ u_ws RX11 TX11 34, w ∈ wsX11_forget := fun _ h => List.mem_cons_of_mem _ (List.mem_append_right _ h)
  have l_fieldLink_98 := hts (Cond.fieldLink RX11 98 "HedgeGameModel" "seen" "I") (List.mem_of_getElem? (i := 1) rfl)
  have t0 : ((0 : Int32)).toInt = 0 := rfl
  have t1 : ((1 : Int32)).toInt = 1 := rfl
  refine lv_aload_n hx hb dX11_forget_0 rfl (lv_at hl 0 rfl) ?_
  refine va_get (D := D) (ci := 11) (v := .int seen) (C := RX11) (T := TX11) (N := 34) hx hb hts hi_X11 hown hS.1 hX.1 0 rfl rfl 8 (by decide) l_fieldLink_98 (fun _ h9 => h9) rfl dX11_forget_1 ?_
  refine lv_istore_n (lv' := [(1, .int seen), (0, .ref (a 0))]) hx hb dX11_forget_4 rfl hl (by decide) rfl (fun ls hl => ?_)
  refine lv_aload_n hx hb dX11_forget_5 rfl (lv_at hl 1 rfl) ?_
  refine lv_iconst (v := (0 : Int32)) hx hb dX11_forget_6 (by decide) ?_
  refine va_put (D := D) (ci := 11) (v := .int (0 : Int32)) (ty := .int) (C := RX11) (T := TX11) (N := 34) hx hb hts hi_X11 tyX11 tyX11_ok nmX11 hown hS.1 hX.1 hX.2.1 hX.2.2 0 rfl rfl 8 (by decide) l_fieldLink_98 (fun _ h9 => h9) rfl (by decide +kernel) rfl rfl (Nat.le_of_ble_eq_true rfl) dX11_forget_7 (fun H locs hP hD hs => ?_)
  have hX : gX D Z s (wM a cA hedges branches stand turn cuts asks (0 : Int32) pageLength isWhole newBranches gameCuts isKept keptHedge keptStand keptTurn keptCuts keptSeen seedNow hsh kindOf onOf seenBranch seenBegins seenWins page winner lasting worthBy wonBy keptKind keptBranch keptBegins keptWins partsBy) H locs := ⟨hP, hD, hs⟩
  refine lv_iload_n hx hb dX11_forget_10 rfl (lv_at hl 0 rfl) ?_
  subst he
  exact g_iret hx hb hr hlocks hX hq rfl dX11_forget_11
