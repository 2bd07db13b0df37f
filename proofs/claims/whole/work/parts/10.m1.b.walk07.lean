abbrev rm_X11_worthFrom : Room := { frames := 3, cells := 0, slots := 0, locals := 68 }
set_option maxHeartbeats 4000000 in
set_option maxRecDepth 100000 in
theorem k_X11_worthFrom {l : Launch} {D : va_G} {E : sE} {a : Nat → Nat} {cA : Nat → ClassId} {hedges : Int32} {branches : Int32} {stand : Int32} {turn : Int32} {cuts : Int32} {asks : Int32} {seen : Int32} {pageLength : Int32} {isWhole : Int32} {newBranches : Int32} {gameCuts : Int32} {isKept : Int32} {keptHedge : Int32} {keptStand : Int32} {keptTurn : Int32} {keptCuts : Int32} {keptSeen : Int32} {seedNow : Int64} {hsh : Int64} {kindOf : Nat → Int32} {onOf : Nat → Int32} {seenBranch : Nat → Int32} {seenBegins : Nat → Int32} {seenWins : Nat → Int32} {page : Nat → Int32} {winner : Nat → Int32} {lasting : Nat → Int32} {worthBy : Nat → Int32} {wonBy : Nat → Int32} {keptKind : Nat → Int32} {keptBranch : Nat → Int32} {keptBegins : Nat → Int32} {keptWins : Nat → Int32} {partsBy : Nat → Int64} (p1 : Int32) (hbr : 0 ≤ (branches).toInt ∧ (branches).toInt ≤ 8) (hsx : 0 ≤ (p1).toInt ∧ (p1).toInt < 256) : ∀ q : Int32, q = f_X11_worthFrom branches kindOf onOf worthBy p1 → gMi l yX11_worthFrom wsX11_worthFrom rm_X11_worthFrom D E (tM cA) [.ref (a 0), .int p1] (wM a cA hedges branches stand turn cuts asks seen pageLength isWhole newBranches gameCuts isKept keptHedge keptStand keptTurn keptCuts keptSeen seedNow hsh kindOf onOf seenBranch seenBegins seenWins page winner lasting worthBy wonBy keptKind keptBranch keptBegins keptWins partsBy) (wM a cA hedges branches stand turn cuts asks seen pageLength isWhole newBranches gameCuts isKept keptHedge keptStand keptTurn keptCuts keptSeen seedNow hsh kindOf onOf seenBranch seenBegins seenWins page winner lasting worthBy wonBy keptKind keptBranch keptBegins keptWins partsBy) q := by
  intro q he0
  refine gM_of (cc := cX11_worthFrom) (maxL := 8) (ret := (some .int)) (Qf := gQi D (wM a cA hedges branches stand turn cuts asks seen pageLength isWhole newBranches gameCuts isKept keptHedge keptStand keptTurn keptCuts keptSeen seedNow hsh kindOf onOf seenBranch seenBegins seenWins page winner lasting worthBy wonBy keptKind keptBranch keptBegins keptWins partsBy) q) (by decide) rfl (Nat.le_of_ble_eq_true rfl) ?_
  intro p e s m args below meth c Z ls Qz hx hb hr hml hlocks hown hts hS hX hl hq
  have he := he0.trans f_X11_worthFrom_s
  have hown : s.vm.findClass RX11 = some m.cls := hown
  have hl : lv_has ls 8 [(0, .ref (a 0)), (1, .int p1)] := hl
  have hi_X11 : ∀ w ∈ u_ws RX11 TX11 34, w ∈ wsX11_worthFrom := fun _ h => List.mem_cons_of_mem _ (List.mem_append_right _ h)
  have l_constant_134 := hts (Cond.constant RX11 134 (1048576)) (List.mem_of_getElem? (i := 2) rfl)
  have l_constant_159 := hts (Cond.constant RX11 159 (-1048576)) (List.mem_of_getElem? (i := 1) rfl)
  have l_fieldLink_35 := hts (Cond.fieldLink RX11 35 "HedgeGameModel" "worthBy" "[I") (List.mem_of_getElem? (i := 4) rfl)
  have l_fieldLink_83 := hts (Cond.fieldLink RX11 83 "HedgeGameModel" "branches" "I") (List.mem_of_getElem? (i := 3) rfl)
  have tm1048576 : ((-1048576 : Int32)).toInt = -1048576 := rfl
  have tm9999 : ((-9999 : Int32)).toInt = -9999 := rfl
  have t0 : ((0 : Int32)).toInt = 0 := rfl
  have t1 : ((1 : Int32)).toInt = 1 := rfl
  have t1048576 : ((1048576 : Int32)).toInt = 1048576 := rfl
  refine lv_ldc (v := (-1048576 : Int32)) hx hb hown l_constant_159 dX11_worthFrom_0 ?_
  refine lv_istore_n (lv' := [(2, .int (-1048576 : Int32)), (0, .ref (a 0)), (1, .int p1)]) hx hb dX11_worthFrom_2 rfl hl (by decide) rfl (fun ls hl => ?_)
  refine lv_ldc (v := (1048576 : Int32)) hx hb hown l_constant_134 dX11_worthFrom_3 ?_
  refine lv_istore_n (lv' := [(3, .int (1048576 : Int32)), (2, .int (-1048576 : Int32)), (0, .ref (a 0)), (1, .int p1)]) hx hb dX11_worthFrom_5 rfl hl (by decide) rfl (fun ls hl => ?_)
  refine lv_iconst (v := (0 : Int32)) hx hb dX11_worthFrom_6 (by decide) ?_
  refine lv_istore (lv' := [(4, .int (0 : Int32)), (3, .int (1048576 : Int32)), (2, .int (-1048576 : Int32)), (0, .ref (a 0)), (1, .int p1)]) hx hb dX11_worthFrom_7 hl (by decide) rfl (fun ls hl => ?_)
  have L9_1 : ∀ (n_9_1 : Nat) (x2_2 : Int32) (x3_3 : Int32) (x4_4 : Int32), 0 ≤ (x4_4).toInt ∧ (x4_4).toInt ≤ 8 → 8 - (x4_4).toInt < (n_9_1 : Int) → q = f_X11_worthFrom_L9 n_9_1 branches kindOf onOf worthBy p1 x2_2 x3_3 x4_4 → ∀ (H : Heap) (locs : List Loc) (ls : Array Slot), gX D Z s (wM a cA hedges branches stand turn cuts asks seen pageLength isWhole newBranches gameCuts isKept keptHedge keptStand keptTurn keptCuts keptSeen seedNow hsh kindOf onOf seenBranch seenBegins seenWins page winner lasting worthBy wonBy keptKind keptBranch keptBegins keptWins partsBy) H locs → lv_has ls 8 [(0, .ref (a 0)), (1, .int p1), (2, .int x2_2), (3, .int x3_3), (4, .int x4_4)] → W p l e rm_X11_worthFrom s m args below meth c H locs 0 0 Qz (F0 m 9 ls []) := by
    intro n_9_1
    induction n_9_1 with
    | zero =>
      intro x2_2 x3_3 x4_4 ia ifu _ _ _ _ _ _
      exfalso; omega
    | succ n_9_1 ih_L9_1 =>
      intro x2_2 x3_3 x4_4 ia ifu he H locs ls hX hl
      have he := he.trans f_X11_worthFrom_L9_s
      refine lv_iload hx hb dX11_worthFrom_9 (lv_at hl 4 rfl) ?_
      refine lv_aload_n hx hb dX11_worthFrom_11 rfl (lv_at hl 0 rfl) ?_
      refine va_get (D := D) (ci := 11) (v := .int branches) (C := RX11) (T := TX11) (N := 34) hx hb hts hi_X11 hown hS.1 hX.1 0 rfl rfl 1 (by decide) l_fieldLink_83 (fun _ h9 => h9) rfl dX11_worthFrom_12 ?_
      refine lv_icmp_ge (tgt := 116) hx hb dX11_worthFrom_15 (by decide) (fun c15 => ?_) (fun c15 => ?_)
      · have he := he.trans (if_pos c15)
        have d15 := i_le c15
        refine lv_iload_n hx hb dX11_worthFrom_116 rfl (lv_at hl 2 rfl) ?_
        refine lv_iload_n hx hb dX11_worthFrom_117 rfl (lv_at hl 3 rfl) ?_
        refine lv_icmp_ge (tgt := 129) hx hb dX11_worthFrom_118 (by decide) (fun c118 => ?_) (fun c118 => ?_)
        · have he := he.trans (if_pos c118)
          have d118 := i_le c118
          refine lv_sipush (v := (-9999 : Int32)) hx hb dX11_worthFrom_129 (by decide) ?_
          subst he
          exact g_iret hx hb hr hlocks hX hq rfl dX11_worthFrom_132
        · have he := he.trans (if_neg c118)
          have d118 := i_nle c118
          refine lv_iload_n hx hb dX11_worthFrom_121 rfl (lv_at hl 2 rfl) ?_
          refine lv_iload_n hx hb dX11_worthFrom_122 rfl (lv_at hl 3 rfl) ?_
          obtain ⟨r_5, e123⟩ : ∃ z, z = (f_X11_simplest x2_2 x3_3) := ⟨_, rfl⟩
          rw [← e123] at he
          refine g_Si (r := r_5) (As := [.int x2_2, .int x3_3]) (rest := []) ⟨hx, hb, hml, hown, hts⟩ hS hX (k_X11_simplest x2_2 x3_3 r_5 e123) (va_cwS 2 hts gX11_worthFrom_X11_simplest rfl rfl rfl (by decide +kernel) ⟨Nat.le_of_ble_eq_true rfl, Nat.le_of_ble_eq_true rfl⟩) rfl hl.1 rfl (Nat.le_of_ble_eq_true rfl) dX11_worthFrom_123 ⟨Nat.zero_le _, Nat.zero_le _⟩ (fun H locs hX => ?_)
          refine lv_goto (tgt := 132) hx hb dX11_worthFrom_126 (by decide) ?_
          subst he
          exact g_iret hx hb hr hlocks hX hq rfl dX11_worthFrom_132
      · have he := he.trans (if_neg c15)
        have d15 := i_nle c15
        refine lv_aload_n hx hb dX11_worthFrom_18 rfl (lv_at hl 0 rfl) ?_
        refine va_get (D := D) (ci := 11) (v := .ref (a 9)) (C := RX11) (T := TX11) (N := 34) hx hb hts hi_X11 hown hS.1 hX.1 0 rfl rfl 18 (by decide) l_fieldLink_35 (fun _ h9 => h9) rfl dX11_worthFrom_19 ?_
        refine lv_aload_n hx hb dX11_worthFrom_22 rfl (lv_at hl 0 rfl) ?_
        refine lv_iload hx hb dX11_worthFrom_23 (lv_at hl 4 rfl) ?_
        refine lv_iload_n hx hb dX11_worthFrom_25 rfl (lv_at hl 1 rfl) ?_
        obtain ⟨r_6, e26⟩ : ∃ z, z = (f_X11_leaves branches onOf x4_4 p1) := ⟨_, rfl⟩
        rw [← e26] at he
        refine g_Vi (r := r_6) (As := [.int x4_4, .int p1]) (rest := [.ref (a 9)]) (ci := 11) (q0 := 0) ⟨hx, hb, hml, hown, hts⟩ hS hX (k_X11_leaves x4_4 p1 (by omega) (by omega) r_6 e26) (cwV 2 hts gX11_worthFrom_X11_leaves rfl rfl rfl (by decide +kernel) ⟨Nat.le_of_ble_eq_true rfl, Nat.le_of_ble_eq_true rfl⟩) rfl rfl rfl hl.1 rfl (Nat.le_of_ble_eq_true rfl) dX11_worthFrom_26 ⟨Nat.zero_le _, Nat.zero_le _⟩ (fun H locs hX => ?_)
        have k26_0 : 0 ≤ (p1).toInt → (0 ≤ (r_6).toInt ∧ (r_6).toInt ≤ (p1).toInt) := by rw [e26]; exact r_leaves
        refine va_iald hx hb hS.1 hX.1 9 8 rfl rfl (vp_in_iff.mpr (by omega)) dX11_worthFrom_29 ?_
        refine lv_istore (lv' := [(5, .int (worthBy (r_6).toNatClampNeg)), (0, .ref (a 0)), (1, .int p1), (2, .int x2_2), (3, .int x3_3), (4, .int x4_4)]) hx hb dX11_worthFrom_30 hl (by decide) rfl (fun ls hl => ?_)
        refine lv_aload_n hx hb dX11_worthFrom_32 rfl (lv_at hl 1 rfl) ?_
        refine lv_iconst (v := (0 : Int32)) hx hb dX11_worthFrom_33 (by decide) ?_
        refine lv_iload hx hb dX11_worthFrom_34 (lv_at hl 5 rfl) ?_
        refine lv_iload_n hx hb dX11_worthFrom_36 rfl (lv_at hl 2 rfl) ?_
        obtain ⟨r_7, e37⟩ : ∃ z, z = (f_X11_mayCut branches kindOf onOf (0 : Int32) x4_4 p1) := ⟨_, rfl⟩
        rw [← e37] at he
        refine g_Vi (r := r_7) (As := [.int (0 : Int32), .int x4_4, .int p1]) (rest := []) (ci := 11) (q0 := 0) ⟨hx, hb, hml, hown, hts⟩ hS hX (k_X11_mayCut (0 : Int32) x4_4 p1 (by omega) (by omega) r_7 e37) (cwV 3 hts gX11_worthFrom_X11_mayCut rfl rfl rfl (by decide +kernel) ⟨Nat.le_of_ble_eq_true rfl, Nat.le_of_ble_eq_true rfl⟩) rfl rfl rfl hl.1 rfl (Nat.le_of_ble_eq_true rfl) dX11_worthFrom_37 ⟨Nat.zero_le _, Nat.zero_le _⟩ (fun H locs hX => ?_)
        refine lv_istore (lv' := [(6, .int r_7), (5, .int (worthBy (r_6).toNatClampNeg)), (0, .ref (a 0)), (1, .int p1), (2, .int x2_2), (3, .int x3_3), (4, .int x4_4)]) hx hb dX11_worthFrom_40 hl (by decide) rfl (fun ls hl => ?_)
        refine lv_aload_n hx hb dX11_worthFrom_42 rfl (lv_at hl 2 rfl) ?_
        refine lv_iconst (v := (1 : Int32)) hx hb dX11_worthFrom_43 (by decide) ?_
        refine lv_iload hx hb dX11_worthFrom_44 (lv_at hl 6 rfl) ?_
        refine lv_iload_n hx hb dX11_worthFrom_46 rfl (lv_at hl 3 rfl) ?_
        obtain ⟨r_8, e47⟩ : ∃ z, z = (f_X11_mayCut branches kindOf onOf (1 : Int32) x4_4 p1) := ⟨_, rfl⟩
        rw [← e47] at he
        refine g_Vi (r := r_8) (As := [.int (1 : Int32), .int x4_4, .int p1]) (rest := []) (ci := 11) (q0 := 0) ⟨hx, hb, hml, hown, hts⟩ hS hX (k_X11_mayCut (1 : Int32) x4_4 p1 (by omega) (by omega) r_8 e47) (cwV 3 hts gX11_worthFrom_X11_mayCut rfl rfl rfl (by decide +kernel) ⟨Nat.le_of_ble_eq_true rfl, Nat.le_of_ble_eq_true rfl⟩) rfl rfl rfl hl.1 rfl (Nat.le_of_ble_eq_true rfl) dX11_worthFrom_47 ⟨Nat.zero_le _, Nat.zero_le _⟩ (fun H locs hX => ?_)
        refine lv_istore (lv' := [(7, .int r_8), (6, .int r_7), (5, .int (worthBy (r_6).toNatClampNeg)), (0, .ref (a 0)), (1, .int p1), (2, .int x2_2), (3, .int x3_3), (4, .int x4_4)]) hx hb dX11_worthFrom_50 hl (by decide) rfl (fun ls hl => ?_)
        refine lv_iload hx hb dX11_worthFrom_52 (lv_at hl 1 rfl) ?_
        refine lv_if_ne (tgt := 62) hx hb dX11_worthFrom_54 (by decide) (fun c54 => ?_) (fun c54 => ?_)
        · have he := he.trans (if_neg c54)
          have d54 := i_ne c54
          refine lv_iload hx hb dX11_worthFrom_62 (lv_at hl 2 rfl) ?_
          refine lv_sipush (v := (-9999 : Int32)) hx hb dX11_worthFrom_64 (by decide) ?_
          refine lv_icmp_ne (tgt := 74) hx hb dX11_worthFrom_67 (by decide) (fun c67 => ?_) (fun c67 => ?_)
          · have he := he.trans (if_neg c67)
            have d67 := i_ne c67
            refine lv_iload hx hb dX11_worthFrom_74 (lv_at hl 1 rfl) ?_
            refine lv_if_eq (tgt := 90) hx hb dX11_worthFrom_76 (by decide) (fun c76 => ?_) (fun c76 => ?_)
            · have he := he.trans (if_pos c76)
              have d76 := i_eq c76
              refine lv_iload_n hx hb dX11_worthFrom_90 rfl (lv_at hl 5 rfl) ?_
              refine lv_istore_n (lv' := [(2, .int x2_2), (7, .int r_8), (6, .int r_7), (5, .int (worthBy (r_6).toNatClampNeg)), (0, .ref (a 0)), (1, .int p1), (3, .int x3_3), (4, .int x4_4)]) hx hb dX11_worthFrom_91 rfl hl (by decide) rfl (fun ls hl => ?_)
              refine lv_iload hx hb dX11_worthFrom_92 (lv_at hl 1 rfl) ?_
              refine lv_if_eq (tgt := 108) hx hb dX11_worthFrom_94 (by decide) (fun c94 => ?_) (fun c94 => ?_)
              · have he := he.trans (if_pos c94)
                have d94 := i_eq c94
                refine lv_iload_n hx hb dX11_worthFrom_108 rfl (lv_at hl 6 rfl) ?_
                refine lv_istore_n (lv' := [(3, .int x3_3), (2, .int x2_2), (7, .int r_8), (6, .int r_7), (5, .int (worthBy (r_6).toNatClampNeg)), (0, .ref (a 0)), (1, .int p1), (4, .int x4_4)]) hx hb dX11_worthFrom_109 rfl hl (by decide) rfl (fun ls hl => ?_)
                refine lv_iinc (v := (x4_4 + (1 : Int32))) (lv' := [(4, .int (x4_4 + (1 : Int32))), (3, .int x3_3), (2, .int x2_2), (7, .int r_8), (6, .int r_7), (5, .int (worthBy (r_6).toNatClampNeg)), (0, .ref (a 0)), (1, .int p1)]) hx hb dX11_worthFrom_110 hl (k := 7) rfl rfl (by decide) rfl (fun ls hl => ?_)
                have s110 := i_s1 (x := x4_4) (by omega)
                refine lv_goto (tgt := 9) hx hb dX11_worthFrom_113 (by decide) ?_
                exact ih_L9_1 x2_2 x3_3 (x4_4 + (1 : Int32)) (by omega) (by omega) he _ _ _ hX (lv_sub hl [6, 7, 2, 1, 0] rfl)
              · have he := he.trans (if_neg c94)
                have d94 := i_ne c94
                refine lv_iload hx hb dX11_worthFrom_97 (lv_at hl 3 rfl) ?_
                refine lv_iload_n hx hb dX11_worthFrom_99 rfl (lv_at hl 6 rfl) ?_
                refine lv_icmp_ge (tgt := 108) hx hb dX11_worthFrom_100 (by decide) (fun c100 => ?_) (fun c100 => ?_)
                · have he := he.trans (if_pos c100)
                  have d100 := i_le c100
                  refine lv_iload_n hx hb dX11_worthFrom_108 rfl (lv_at hl 6 rfl) ?_
                  refine lv_istore_n (lv' := [(3, .int x3_3), (2, .int x2_2), (7, .int r_8), (6, .int r_7), (5, .int (worthBy (r_6).toNatClampNeg)), (0, .ref (a 0)), (1, .int p1), (4, .int x4_4)]) hx hb dX11_worthFrom_109 rfl hl (by decide) rfl (fun ls hl => ?_)
                  refine lv_iinc (v := (x4_4 + (1 : Int32))) (lv' := [(4, .int (x4_4 + (1 : Int32))), (3, .int x3_3), (2, .int x2_2), (7, .int r_8), (6, .int r_7), (5, .int (worthBy (r_6).toNatClampNeg)), (0, .ref (a 0)), (1, .int p1)]) hx hb dX11_worthFrom_110 hl (k := 7) rfl rfl (by decide) rfl (fun ls hl => ?_)
                  have s110 := i_s1 (x := x4_4) (by omega)
                  refine lv_goto (tgt := 9) hx hb dX11_worthFrom_113 (by decide) ?_
                  exact ih_L9_1 x2_2 x3_3 (x4_4 + (1 : Int32)) (by omega) (by omega) he _ _ _ hX (lv_sub hl [6, 7, 2, 1, 0] rfl)
                · have he := he.trans (if_neg c100)
                  have d100 := i_nle c100
                  refine lv_iload hx hb dX11_worthFrom_103 (lv_at hl 3 rfl) ?_
                  refine lv_goto (tgt := 109) hx hb dX11_worthFrom_105 (by decide) ?_
                  refine lv_istore_n (lv' := [(3, .int (worthBy (r_6).toNatClampNeg)), (2, .int x2_2), (7, .int r_8), (6, .int r_7), (5, .int (worthBy (r_6).toNatClampNeg)), (0, .ref (a 0)), (1, .int p1), (4, .int x4_4)]) hx hb dX11_worthFrom_109 rfl hl (by decide) rfl (fun ls hl => ?_)
                  refine lv_iinc (v := (x4_4 + (1 : Int32))) (lv' := [(4, .int (x4_4 + (1 : Int32))), (3, .int (worthBy (r_6).toNatClampNeg)), (2, .int x2_2), (7, .int r_8), (6, .int r_7), (5, .int (worthBy (r_6).toNatClampNeg)), (0, .ref (a 0)), (1, .int p1)]) hx hb dX11_worthFrom_110 hl (k := 7) rfl rfl (by decide) rfl (fun ls hl => ?_)
                  have s110 := i_s1 (x := x4_4) (by omega)
                  refine lv_goto (tgt := 9) hx hb dX11_worthFrom_113 (by decide) ?_
                  exact ih_L9_1 x2_2 (worthBy (r_6).toNatClampNeg) (x4_4 + (1 : Int32)) (by omega) (by omega) he _ _ _ hX (lv_sub hl [6, 7, 2, 1, 0] rfl)
            · have he := he.trans (if_neg c76)
              have d76 := i_ne c76
              refine lv_iload hx hb dX11_worthFrom_79 (lv_at hl 2 rfl) ?_
              refine lv_iload_n hx hb dX11_worthFrom_81 rfl (lv_at hl 5 rfl) ?_
              refine lv_icmp_le (tgt := 90) hx hb dX11_worthFrom_82 (by decide) (fun c82 => ?_) (fun c82 => ?_)
              · have he := he.trans (if_pos c82)
                have d82 := i_le c82
                refine lv_iload_n hx hb dX11_worthFrom_90 rfl (lv_at hl 5 rfl) ?_
                refine lv_istore_n (lv' := [(2, .int x2_2), (7, .int r_8), (6, .int r_7), (5, .int (worthBy (r_6).toNatClampNeg)), (0, .ref (a 0)), (1, .int p1), (3, .int x3_3), (4, .int x4_4)]) hx hb dX11_worthFrom_91 rfl hl (by decide) rfl (fun ls hl => ?_)
                refine lv_iload hx hb dX11_worthFrom_92 (lv_at hl 1 rfl) ?_
                refine lv_if_eq (tgt := 108) hx hb dX11_worthFrom_94 (by decide) (fun c94 => ?_) (fun c94 => ?_)
                · have he := he.trans (if_pos c94)
                  have d94 := i_eq c94
                  refine lv_iload_n hx hb dX11_worthFrom_108 rfl (lv_at hl 6 rfl) ?_
                  refine lv_istore_n (lv' := [(3, .int x3_3), (2, .int x2_2), (7, .int r_8), (6, .int r_7), (5, .int (worthBy (r_6).toNatClampNeg)), (0, .ref (a 0)), (1, .int p1), (4, .int x4_4)]) hx hb dX11_worthFrom_109 rfl hl (by decide) rfl (fun ls hl => ?_)
                  refine lv_iinc (v := (x4_4 + (1 : Int32))) (lv' := [(4, .int (x4_4 + (1 : Int32))), (3, .int x3_3), (2, .int x2_2), (7, .int r_8), (6, .int r_7), (5, .int (worthBy (r_6).toNatClampNeg)), (0, .ref (a 0)), (1, .int p1)]) hx hb dX11_worthFrom_110 hl (k := 7) rfl rfl (by decide) rfl (fun ls hl => ?_)
                  have s110 := i_s1 (x := x4_4) (by omega)
                  refine lv_goto (tgt := 9) hx hb dX11_worthFrom_113 (by decide) ?_
                  exact ih_L9_1 x2_2 x3_3 (x4_4 + (1 : Int32)) (by omega) (by omega) he _ _ _ hX (lv_sub hl [6, 7, 2, 1, 0] rfl)
                · have he := he.trans (if_neg c94)
                  have d94 := i_ne c94
                  refine lv_iload hx hb dX11_worthFrom_97 (lv_at hl 3 rfl) ?_
                  refine lv_iload_n hx hb dX11_worthFrom_99 rfl (lv_at hl 6 rfl) ?_
                  refine lv_icmp_ge (tgt := 108) hx hb dX11_worthFrom_100 (by decide) (fun c100 => ?_) (fun c100 => ?_)
                  · have he := he.trans (if_pos c100)
                    have d100 := i_le c100
                    refine lv_iload_n hx hb dX11_worthFrom_108 rfl (lv_at hl 6 rfl) ?_
                    refine lv_istore_n (lv' := [(3, .int x3_3), (2, .int x2_2), (7, .int r_8), (6, .int r_7), (5, .int (worthBy (r_6).toNatClampNeg)), (0, .ref (a 0)), (1, .int p1), (4, .int x4_4)]) hx hb dX11_worthFrom_109 rfl hl (by decide) rfl (fun ls hl => ?_)
                    refine lv_iinc (v := (x4_4 + (1 : Int32))) (lv' := [(4, .int (x4_4 + (1 : Int32))), (3, .int x3_3), (2, .int x2_2), (7, .int r_8), (6, .int r_7), (5, .int (worthBy (r_6).toNatClampNeg)), (0, .ref (a 0)), (1, .int p1)]) hx hb dX11_worthFrom_110 hl (k := 7) rfl rfl (by decide) rfl (fun ls hl => ?_)
                    have s110 := i_s1 (x := x4_4) (by omega)
                    refine lv_goto (tgt := 9) hx hb dX11_worthFrom_113 (by decide) ?_
                    exact ih_L9_1 x2_2 x3_3 (x4_4 + (1 : Int32)) (by omega) (by omega) he _ _ _ hX (lv_sub hl [6, 7, 2, 1, 0] rfl)
                  · have he := he.trans (if_neg c100)
                    have d100 := i_nle c100
                    refine lv_iload hx hb dX11_worthFrom_103 (lv_at hl 3 rfl) ?_
                    refine lv_goto (tgt := 109) hx hb dX11_worthFrom_105 (by decide) ?_
                    refine lv_istore_n (lv' := [(3, .int (worthBy (r_6).toNatClampNeg)), (2, .int x2_2), (7, .int r_8), (6, .int r_7), (5, .int (worthBy (r_6).toNatClampNeg)), (0, .ref (a 0)), (1, .int p1), (4, .int x4_4)]) hx hb dX11_worthFrom_109 rfl hl (by decide) rfl (fun ls hl => ?_)
                    refine lv_iinc (v := (x4_4 + (1 : Int32))) (lv' := [(4, .int (x4_4 + (1 : Int32))), (3, .int (worthBy (r_6).toNatClampNeg)), (2, .int x2_2), (7, .int r_8), (6, .int r_7), (5, .int (worthBy (r_6).toNatClampNeg)), (0, .ref (a 0)), (1, .int p1)]) hx hb dX11_worthFrom_110 hl (k := 7) rfl rfl (by decide) rfl (fun ls hl => ?_)
                    have s110 := i_s1 (x := x4_4) (by omega)
                    refine lv_goto (tgt := 9) hx hb dX11_worthFrom_113 (by decide) ?_
                    exact ih_L9_1 x2_2 (worthBy (r_6).toNatClampNeg) (x4_4 + (1 : Int32)) (by omega) (by omega) he _ _ _ hX (lv_sub hl [6, 7, 2, 1, 0] rfl)
              · have he := he.trans (if_neg c82)
                have d82 := i_nle c82
                refine lv_iload hx hb dX11_worthFrom_85 (lv_at hl 2 rfl) ?_
                refine lv_goto (tgt := 91) hx hb dX11_worthFrom_87 (by decide) ?_
                refine lv_istore_n (lv' := [(2, .int (worthBy (r_6).toNatClampNeg)), (7, .int r_8), (6, .int r_7), (5, .int (worthBy (r_6).toNatClampNeg)), (0, .ref (a 0)), (1, .int p1), (3, .int x3_3), (4, .int x4_4)]) hx hb dX11_worthFrom_91 rfl hl (by decide) rfl (fun ls hl => ?_)
                refine lv_iload hx hb dX11_worthFrom_92 (lv_at hl 1 rfl) ?_
                refine lv_if_eq (tgt := 108) hx hb dX11_worthFrom_94 (by decide) (fun c94 => ?_) (fun c94 => ?_)
                · have he := he.trans (if_pos c94)
                  have d94 := i_eq c94
                  refine lv_iload_n hx hb dX11_worthFrom_108 rfl (lv_at hl 6 rfl) ?_
                  refine lv_istore_n (lv' := [(3, .int x3_3), (2, .int (worthBy (r_6).toNatClampNeg)), (7, .int r_8), (6, .int r_7), (5, .int (worthBy (r_6).toNatClampNeg)), (0, .ref (a 0)), (1, .int p1), (4, .int x4_4)]) hx hb dX11_worthFrom_109 rfl hl (by decide) rfl (fun ls hl => ?_)
                  refine lv_iinc (v := (x4_4 + (1 : Int32))) (lv' := [(4, .int (x4_4 + (1 : Int32))), (3, .int x3_3), (2, .int (worthBy (r_6).toNatClampNeg)), (7, .int r_8), (6, .int r_7), (5, .int (worthBy (r_6).toNatClampNeg)), (0, .ref (a 0)), (1, .int p1)]) hx hb dX11_worthFrom_110 hl (k := 7) rfl rfl (by decide) rfl (fun ls hl => ?_)
                  have s110 := i_s1 (x := x4_4) (by omega)
                  refine lv_goto (tgt := 9) hx hb dX11_worthFrom_113 (by decide) ?_
                  exact ih_L9_1 (worthBy (r_6).toNatClampNeg) x3_3 (x4_4 + (1 : Int32)) (by omega) (by omega) he _ _ _ hX (lv_sub hl [6, 7, 2, 1, 0] rfl)
                · have he := he.trans (if_neg c94)
                  have d94 := i_ne c94
                  refine lv_iload hx hb dX11_worthFrom_97 (lv_at hl 3 rfl) ?_
                  refine lv_iload_n hx hb dX11_worthFrom_99 rfl (lv_at hl 6 rfl) ?_
                  refine lv_icmp_ge (tgt := 108) hx hb dX11_worthFrom_100 (by decide) (fun c100 => ?_) (fun c100 => ?_)
                  · have he := he.trans (if_pos c100)
                    have d100 := i_le c100
                    refine lv_iload_n hx hb dX11_worthFrom_108 rfl (lv_at hl 6 rfl) ?_
                    refine lv_istore_n (lv' := [(3, .int x3_3), (2, .int (worthBy (r_6).toNatClampNeg)), (7, .int r_8), (6, .int r_7), (5, .int (worthBy (r_6).toNatClampNeg)), (0, .ref (a 0)), (1, .int p1), (4, .int x4_4)]) hx hb dX11_worthFrom_109 rfl hl (by decide) rfl (fun ls hl => ?_)
                    refine lv_iinc (v := (x4_4 + (1 : Int32))) (lv' := [(4, .int (x4_4 + (1 : Int32))), (3, .int x3_3), (2, .int (worthBy (r_6).toNatClampNeg)), (7, .int r_8), (6, .int r_7), (5, .int (worthBy (r_6).toNatClampNeg)), (0, .ref (a 0)), (1, .int p1)]) hx hb dX11_worthFrom_110 hl (k := 7) rfl rfl (by decide) rfl (fun ls hl => ?_)
                    have s110 := i_s1 (x := x4_4) (by omega)
                    refine lv_goto (tgt := 9) hx hb dX11_worthFrom_113 (by decide) ?_
                    exact ih_L9_1 (worthBy (r_6).toNatClampNeg) x3_3 (x4_4 + (1 : Int32)) (by omega) (by omega) he _ _ _ hX (lv_sub hl [6, 7, 2, 1, 0] rfl)
                  · have he := he.trans (if_neg c100)
                    have d100 := i_nle c100
                    refine lv_iload hx hb dX11_worthFrom_103 (lv_at hl 3 rfl) ?_
                    refine lv_goto (tgt := 109) hx hb dX11_worthFrom_105 (by decide) ?_
                    refine lv_istore_n (lv' := [(3, .int (worthBy (r_6).toNatClampNeg)), (2, .int (worthBy (r_6).toNatClampNeg)), (7, .int r_8), (6, .int r_7), (5, .int (worthBy (r_6).toNatClampNeg)), (0, .ref (a 0)), (1, .int p1), (4, .int x4_4)]) hx hb dX11_worthFrom_109 rfl hl (by decide) rfl (fun ls hl => ?_)
                    refine lv_iinc (v := (x4_4 + (1 : Int32))) (lv' := [(4, .int (x4_4 + (1 : Int32))), (3, .int (worthBy (r_6).toNatClampNeg)), (2, .int (worthBy (r_6).toNatClampNeg)), (7, .int r_8), (6, .int r_7), (5, .int (worthBy (r_6).toNatClampNeg)), (0, .ref (a 0)), (1, .int p1)]) hx hb dX11_worthFrom_110 hl (k := 7) rfl rfl (by decide) rfl (fun ls hl => ?_)
                    have s110 := i_s1 (x := x4_4) (by omega)
                    refine lv_goto (tgt := 9) hx hb dX11_worthFrom_113 (by decide) ?_
                    exact ih_L9_1 (worthBy (r_6).toNatClampNeg) (worthBy (r_6).toNatClampNeg) (x4_4 + (1 : Int32)) (by omega) (by omega) he _ _ _ hX (lv_sub hl [6, 7, 2, 1, 0] rfl)
          · have he := he.trans (if_pos c67)
            have d67 := i_eq c67
            refine lv_sipush (v := (-9999 : Int32)) hx hb dX11_worthFrom_70 (by decide) ?_
            subst he
            exact g_iret hx hb hr hlocks hX hq rfl dX11_worthFrom_73
        · have he := he.trans (if_pos c54)
          have d54 := i_eq c54
          refine lv_iload hx hb dX11_worthFrom_57 (lv_at hl 0 rfl) ?_
          refine lv_if_eq (tgt := 74) hx hb dX11_worthFrom_59 (by decide) (fun c59 => ?_) (fun c59 => ?_)
          · have he := he.trans (if_pos c59)
            have d59 := i_eq c59
            refine lv_iload hx hb dX11_worthFrom_74 (lv_at hl 1 rfl) ?_
            refine lv_if_eq (tgt := 90) hx hb dX11_worthFrom_76 (by decide) (fun c76 => ?_) (fun c76 => ?_)
            · have he := he.trans (if_pos c76)
              have d76 := i_eq c76
              refine lv_iload_n hx hb dX11_worthFrom_90 rfl (lv_at hl 5 rfl) ?_
              refine lv_istore_n (lv' := [(2, .int x2_2), (7, .int r_8), (6, .int r_7), (5, .int (worthBy (r_6).toNatClampNeg)), (0, .ref (a 0)), (1, .int p1), (3, .int x3_3), (4, .int x4_4)]) hx hb dX11_worthFrom_91 rfl hl (by decide) rfl (fun ls hl => ?_)
              refine lv_iload hx hb dX11_worthFrom_92 (lv_at hl 1 rfl) ?_
              refine lv_if_eq (tgt := 108) hx hb dX11_worthFrom_94 (by decide) (fun c94 => ?_) (fun c94 => ?_)
              · have he := he.trans (if_pos c94)
                have d94 := i_eq c94
                refine lv_iload_n hx hb dX11_worthFrom_108 rfl (lv_at hl 6 rfl) ?_
                refine lv_istore_n (lv' := [(3, .int x3_3), (2, .int x2_2), (7, .int r_8), (6, .int r_7), (5, .int (worthBy (r_6).toNatClampNeg)), (0, .ref (a 0)), (1, .int p1), (4, .int x4_4)]) hx hb dX11_worthFrom_109 rfl hl (by decide) rfl (fun ls hl => ?_)
                refine lv_iinc (v := (x4_4 + (1 : Int32))) (lv' := [(4, .int (x4_4 + (1 : Int32))), (3, .int x3_3), (2, .int x2_2), (7, .int r_8), (6, .int r_7), (5, .int (worthBy (r_6).toNatClampNeg)), (0, .ref (a 0)), (1, .int p1)]) hx hb dX11_worthFrom_110 hl (k := 7) rfl rfl (by decide) rfl (fun ls hl => ?_)
                have s110 := i_s1 (x := x4_4) (by omega)
                refine lv_goto (tgt := 9) hx hb dX11_worthFrom_113 (by decide) ?_
                exact ih_L9_1 x2_2 x3_3 (x4_4 + (1 : Int32)) (by omega) (by omega) he _ _ _ hX (lv_sub hl [6, 7, 2, 1, 0] rfl)
              · have he := he.trans (if_neg c94)
                have d94 := i_ne c94
                refine lv_iload hx hb dX11_worthFrom_97 (lv_at hl 3 rfl) ?_
                refine lv_iload_n hx hb dX11_worthFrom_99 rfl (lv_at hl 6 rfl) ?_
                refine lv_icmp_ge (tgt := 108) hx hb dX11_worthFrom_100 (by decide) (fun c100 => ?_) (fun c100 => ?_)
                · have he := he.trans (if_pos c100)
                  have d100 := i_le c100
                  refine lv_iload_n hx hb dX11_worthFrom_108 rfl (lv_at hl 6 rfl) ?_
                  refine lv_istore_n (lv' := [(3, .int x3_3), (2, .int x2_2), (7, .int r_8), (6, .int r_7), (5, .int (worthBy (r_6).toNatClampNeg)), (0, .ref (a 0)), (1, .int p1), (4, .int x4_4)]) hx hb dX11_worthFrom_109 rfl hl (by decide) rfl (fun ls hl => ?_)
                  refine lv_iinc (v := (x4_4 + (1 : Int32))) (lv' := [(4, .int (x4_4 + (1 : Int32))), (3, .int x3_3), (2, .int x2_2), (7, .int r_8), (6, .int r_7), (5, .int (worthBy (r_6).toNatClampNeg)), (0, .ref (a 0)), (1, .int p1)]) hx hb dX11_worthFrom_110 hl (k := 7) rfl rfl (by decide) rfl (fun ls hl => ?_)
                  have s110 := i_s1 (x := x4_4) (by omega)
                  refine lv_goto (tgt := 9) hx hb dX11_worthFrom_113 (by decide) ?_
                  exact ih_L9_1 x2_2 x3_3 (x4_4 + (1 : Int32)) (by omega) (by omega) he _ _ _ hX (lv_sub hl [6, 7, 2, 1, 0] rfl)
                · have he := he.trans (if_neg c100)
                  have d100 := i_nle c100
                  refine lv_iload hx hb dX11_worthFrom_103 (lv_at hl 3 rfl) ?_
                  refine lv_goto (tgt := 109) hx hb dX11_worthFrom_105 (by decide) ?_
                  refine lv_istore_n (lv' := [(3, .int (worthBy (r_6).toNatClampNeg)), (2, .int x2_2), (7, .int r_8), (6, .int r_7), (5, .int (worthBy (r_6).toNatClampNeg)), (0, .ref (a 0)), (1, .int p1), (4, .int x4_4)]) hx hb dX11_worthFrom_109 rfl hl (by decide) rfl (fun ls hl => ?_)
                  refine lv_iinc (v := (x4_4 + (1 : Int32))) (lv' := [(4, .int (x4_4 + (1 : Int32))), (3, .int (worthBy (r_6).toNatClampNeg)), (2, .int x2_2), (7, .int r_8), (6, .int r_7), (5, .int (worthBy (r_6).toNatClampNeg)), (0, .ref (a 0)), (1, .int p1)]) hx hb dX11_worthFrom_110 hl (k := 7) rfl rfl (by decide) rfl (fun ls hl => ?_)
                  have s110 := i_s1 (x := x4_4) (by omega)
                  refine lv_goto (tgt := 9) hx hb dX11_worthFrom_113 (by decide) ?_
                  exact ih_L9_1 x2_2 (worthBy (r_6).toNatClampNeg) (x4_4 + (1 : Int32)) (by omega) (by omega) he _ _ _ hX (lv_sub hl [6, 7, 2, 1, 0] rfl)
            · have he := he.trans (if_neg c76)
              have d76 := i_ne c76
              refine lv_iload hx hb dX11_worthFrom_79 (lv_at hl 2 rfl) ?_
              refine lv_iload_n hx hb dX11_worthFrom_81 rfl (lv_at hl 5 rfl) ?_
              refine lv_icmp_le (tgt := 90) hx hb dX11_worthFrom_82 (by decide) (fun c82 => ?_) (fun c82 => ?_)
              · have he := he.trans (if_pos c82)
                have d82 := i_le c82
                refine lv_iload_n hx hb dX11_worthFrom_90 rfl (lv_at hl 5 rfl) ?_
                refine lv_istore_n (lv' := [(2, .int x2_2), (7, .int r_8), (6, .int r_7), (5, .int (worthBy (r_6).toNatClampNeg)), (0, .ref (a 0)), (1, .int p1), (3, .int x3_3), (4, .int x4_4)]) hx hb dX11_worthFrom_91 rfl hl (by decide) rfl (fun ls hl => ?_)
                refine lv_iload hx hb dX11_worthFrom_92 (lv_at hl 1 rfl) ?_
                refine lv_if_eq (tgt := 108) hx hb dX11_worthFrom_94 (by decide) (fun c94 => ?_) (fun c94 => ?_)
                · have he := he.trans (if_pos c94)
                  have d94 := i_eq c94
                  refine lv_iload_n hx hb dX11_worthFrom_108 rfl (lv_at hl 6 rfl) ?_
                  refine lv_istore_n (lv' := [(3, .int x3_3), (2, .int x2_2), (7, .int r_8), (6, .int r_7), (5, .int (worthBy (r_6).toNatClampNeg)), (0, .ref (a 0)), (1, .int p1), (4, .int x4_4)]) hx hb dX11_worthFrom_109 rfl hl (by decide) rfl (fun ls hl => ?_)
                  refine lv_iinc (v := (x4_4 + (1 : Int32))) (lv' := [(4, .int (x4_4 + (1 : Int32))), (3, .int x3_3), (2, .int x2_2), (7, .int r_8), (6, .int r_7), (5, .int (worthBy (r_6).toNatClampNeg)), (0, .ref (a 0)), (1, .int p1)]) hx hb dX11_worthFrom_110 hl (k := 7) rfl rfl (by decide) rfl (fun ls hl => ?_)
                  have s110 := i_s1 (x := x4_4) (by omega)
                  refine lv_goto (tgt := 9) hx hb dX11_worthFrom_113 (by decide) ?_
                  exact ih_L9_1 x2_2 x3_3 (x4_4 + (1 : Int32)) (by omega) (by omega) he _ _ _ hX (lv_sub hl [6, 7, 2, 1, 0] rfl)
                · have he := he.trans (if_neg c94)
                  have d94 := i_ne c94
                  refine lv_iload hx hb dX11_worthFrom_97 (lv_at hl 3 rfl) ?_
                  refine lv_iload_n hx hb dX11_worthFrom_99 rfl (lv_at hl 6 rfl) ?_
                  refine lv_icmp_ge (tgt := 108) hx hb dX11_worthFrom_100 (by decide) (fun c100 => ?_) (fun c100 => ?_)
                  · have he := he.trans (if_pos c100)
                    have d100 := i_le c100
                    refine lv_iload_n hx hb dX11_worthFrom_108 rfl (lv_at hl 6 rfl) ?_
                    refine lv_istore_n (lv' := [(3, .int x3_3), (2, .int x2_2), (7, .int r_8), (6, .int r_7), (5, .int (worthBy (r_6).toNatClampNeg)), (0, .ref (a 0)), (1, .int p1), (4, .int x4_4)]) hx hb dX11_worthFrom_109 rfl hl (by decide) rfl (fun ls hl => ?_)
                    refine lv_iinc (v := (x4_4 + (1 : Int32))) (lv' := [(4, .int (x4_4 + (1 : Int32))), (3, .int x3_3), (2, .int x2_2), (7, .int r_8), (6, .int r_7), (5, .int (worthBy (r_6).toNatClampNeg)), (0, .ref (a 0)), (1, .int p1)]) hx hb dX11_worthFrom_110 hl (k := 7) rfl rfl (by decide) rfl (fun ls hl => ?_)
                    have s110 := i_s1 (x := x4_4) (by omega)
                    refine lv_goto (tgt := 9) hx hb dX11_worthFrom_113 (by decide) ?_
                    exact ih_L9_1 x2_2 x3_3 (x4_4 + (1 : Int32)) (by omega) (by omega) he _ _ _ hX (lv_sub hl [6, 7, 2, 1, 0] rfl)
                  · have he := he.trans (if_neg c100)
                    have d100 := i_nle c100
                    refine lv_iload hx hb dX11_worthFrom_103 (lv_at hl 3 rfl) ?_
                    refine lv_goto (tgt := 109) hx hb dX11_worthFrom_105 (by decide) ?_
                    refine lv_istore_n (lv' := [(3, .int (worthBy (r_6).toNatClampNeg)), (2, .int x2_2), (7, .int r_8), (6, .int r_7), (5, .int (worthBy (r_6).toNatClampNeg)), (0, .ref (a 0)), (1, .int p1), (4, .int x4_4)]) hx hb dX11_worthFrom_109 rfl hl (by decide) rfl (fun ls hl => ?_)
                    refine lv_iinc (v := (x4_4 + (1 : Int32))) (lv' := [(4, .int (x4_4 + (1 : Int32))), (3, .int (worthBy (r_6).toNatClampNeg)), (2, .int x2_2), (7, .int r_8), (6, .int r_7), (5, .int (worthBy (r_6).toNatClampNeg)), (0, .ref (a 0)), (1, .int p1)]) hx hb dX11_worthFrom_110 hl (k := 7) rfl rfl (by decide) rfl (fun ls hl => ?_)
                    have s110 := i_s1 (x := x4_4) (by omega)
                    refine lv_goto (tgt := 9) hx hb dX11_worthFrom_113 (by decide) ?_
                    exact ih_L9_1 x2_2 (worthBy (r_6).toNatClampNeg) (x4_4 + (1 : Int32)) (by omega) (by omega) he _ _ _ hX (lv_sub hl [6, 7, 2, 1, 0] rfl)
              · have he := he.trans (if_neg c82)
                have d82 := i_nle c82
                refine lv_iload hx hb dX11_worthFrom_85 (lv_at hl 2 rfl) ?_
                refine lv_goto (tgt := 91) hx hb dX11_worthFrom_87 (by decide) ?_
                refine lv_istore_n (lv' := [(2, .int (worthBy (r_6).toNatClampNeg)), (7, .int r_8), (6, .int r_7), (5, .int (worthBy (r_6).toNatClampNeg)), (0, .ref (a 0)), (1, .int p1), (3, .int x3_3), (4, .int x4_4)]) hx hb dX11_worthFrom_91 rfl hl (by decide) rfl (fun ls hl => ?_)
                refine lv_iload hx hb dX11_worthFrom_92 (lv_at hl 1 rfl) ?_
                refine lv_if_eq (tgt := 108) hx hb dX11_worthFrom_94 (by decide) (fun c94 => ?_) (fun c94 => ?_)
                · have he := he.trans (if_pos c94)
                  have d94 := i_eq c94
                  refine lv_iload_n hx hb dX11_worthFrom_108 rfl (lv_at hl 6 rfl) ?_
                  refine lv_istore_n (lv' := [(3, .int x3_3), (2, .int (worthBy (r_6).toNatClampNeg)), (7, .int r_8), (6, .int r_7), (5, .int (worthBy (r_6).toNatClampNeg)), (0, .ref (a 0)), (1, .int p1), (4, .int x4_4)]) hx hb dX11_worthFrom_109 rfl hl (by decide) rfl (fun ls hl => ?_)
                  refine lv_iinc (v := (x4_4 + (1 : Int32))) (lv' := [(4, .int (x4_4 + (1 : Int32))), (3, .int x3_3), (2, .int (worthBy (r_6).toNatClampNeg)), (7, .int r_8), (6, .int r_7), (5, .int (worthBy (r_6).toNatClampNeg)), (0, .ref (a 0)), (1, .int p1)]) hx hb dX11_worthFrom_110 hl (k := 7) rfl rfl (by decide) rfl (fun ls hl => ?_)
                  have s110 := i_s1 (x := x4_4) (by omega)
                  refine lv_goto (tgt := 9) hx hb dX11_worthFrom_113 (by decide) ?_
                  exact ih_L9_1 (worthBy (r_6).toNatClampNeg) x3_3 (x4_4 + (1 : Int32)) (by omega) (by omega) he _ _ _ hX (lv_sub hl [6, 7, 2, 1, 0] rfl)
                · have he := he.trans (if_neg c94)
                  have d94 := i_ne c94
                  refine lv_iload hx hb dX11_worthFrom_97 (lv_at hl 3 rfl) ?_
                  refine lv_iload_n hx hb dX11_worthFrom_99 rfl (lv_at hl 6 rfl) ?_
                  refine lv_icmp_ge (tgt := 108) hx hb dX11_worthFrom_100 (by decide) (fun c100 => ?_) (fun c100 => ?_)
                  · have he := he.trans (if_pos c100)
                    have d100 := i_le c100
                    refine lv_iload_n hx hb dX11_worthFrom_108 rfl (lv_at hl 6 rfl) ?_
                    refine lv_istore_n (lv' := [(3, .int x3_3), (2, .int (worthBy (r_6).toNatClampNeg)), (7, .int r_8), (6, .int r_7), (5, .int (worthBy (r_6).toNatClampNeg)), (0, .ref (a 0)), (1, .int p1), (4, .int x4_4)]) hx hb dX11_worthFrom_109 rfl hl (by decide) rfl (fun ls hl => ?_)
                    refine lv_iinc (v := (x4_4 + (1 : Int32))) (lv' := [(4, .int (x4_4 + (1 : Int32))), (3, .int x3_3), (2, .int (worthBy (r_6).toNatClampNeg)), (7, .int r_8), (6, .int r_7), (5, .int (worthBy (r_6).toNatClampNeg)), (0, .ref (a 0)), (1, .int p1)]) hx hb dX11_worthFrom_110 hl (k := 7) rfl rfl (by decide) rfl (fun ls hl => ?_)
                    have s110 := i_s1 (x := x4_4) (by omega)
                    refine lv_goto (tgt := 9) hx hb dX11_worthFrom_113 (by decide) ?_
                    exact ih_L9_1 (worthBy (r_6).toNatClampNeg) x3_3 (x4_4 + (1 : Int32)) (by omega) (by omega) he _ _ _ hX (lv_sub hl [6, 7, 2, 1, 0] rfl)
                  · have he := he.trans (if_neg c100)
                    have d100 := i_nle c100
                    refine lv_iload hx hb dX11_worthFrom_103 (lv_at hl 3 rfl) ?_
                    refine lv_goto (tgt := 109) hx hb dX11_worthFrom_105 (by decide) ?_
                    refine lv_istore_n (lv' := [(3, .int (worthBy (r_6).toNatClampNeg)), (2, .int (worthBy (r_6).toNatClampNeg)), (7, .int r_8), (6, .int r_7), (5, .int (worthBy (r_6).toNatClampNeg)), (0, .ref (a 0)), (1, .int p1), (4, .int x4_4)]) hx hb dX11_worthFrom_109 rfl hl (by decide) rfl (fun ls hl => ?_)
                    refine lv_iinc (v := (x4_4 + (1 : Int32))) (lv' := [(4, .int (x4_4 + (1 : Int32))), (3, .int (worthBy (r_6).toNatClampNeg)), (2, .int (worthBy (r_6).toNatClampNeg)), (7, .int r_8), (6, .int r_7), (5, .int (worthBy (r_6).toNatClampNeg)), (0, .ref (a 0)), (1, .int p1)]) hx hb dX11_worthFrom_110 hl (k := 7) rfl rfl (by decide) rfl (fun ls hl => ?_)
                    have s110 := i_s1 (x := x4_4) (by omega)
                    refine lv_goto (tgt := 9) hx hb dX11_worthFrom_113 (by decide) ?_
                    exact ih_L9_1 (worthBy (r_6).toNatClampNeg) (worthBy (r_6).toNatClampNeg) (x4_4 + (1 : Int32)) (by omega) (by omega) he _ _ _ hX (lv_sub hl [6, 7, 2, 1, 0] rfl)
          · have he := he.trans (if_neg c59)
            have d59 := i_ne c59
            refine lv_iload hx hb dX11_worthFrom_62 (lv_at hl 2 rfl) ?_
            refine lv_sipush (v := (-9999 : Int32)) hx hb dX11_worthFrom_64 (by decide) ?_
            refine lv_icmp_ne (tgt := 74) hx hb dX11_worthFrom_67 (by decide) (fun c67 => ?_) (fun c67 => ?_)
            · have he := he.trans (if_neg c67)
              have d67 := i_ne c67
              refine lv_iload hx hb dX11_worthFrom_74 (lv_at hl 1 rfl) ?_
              refine lv_if_eq (tgt := 90) hx hb dX11_worthFrom_76 (by decide) (fun c76 => ?_) (fun c76 => ?_)
              · have he := he.trans (if_pos c76)
                have d76 := i_eq c76
                refine lv_iload_n hx hb dX11_worthFrom_90 rfl (lv_at hl 5 rfl) ?_
                refine lv_istore_n (lv' := [(2, .int x2_2), (7, .int r_8), (6, .int r_7), (5, .int (worthBy (r_6).toNatClampNeg)), (0, .ref (a 0)), (1, .int p1), (3, .int x3_3), (4, .int x4_4)]) hx hb dX11_worthFrom_91 rfl hl (by decide) rfl (fun ls hl => ?_)
                refine lv_iload hx hb dX11_worthFrom_92 (lv_at hl 1 rfl) ?_
                refine lv_if_eq (tgt := 108) hx hb dX11_worthFrom_94 (by decide) (fun c94 => ?_) (fun c94 => ?_)
                · have he := he.trans (if_pos c94)
                  have d94 := i_eq c94
                  refine lv_iload_n hx hb dX11_worthFrom_108 rfl (lv_at hl 6 rfl) ?_
                  refine lv_istore_n (lv' := [(3, .int x3_3), (2, .int x2_2), (7, .int r_8), (6, .int r_7), (5, .int (worthBy (r_6).toNatClampNeg)), (0, .ref (a 0)), (1, .int p1), (4, .int x4_4)]) hx hb dX11_worthFrom_109 rfl hl (by decide) rfl (fun ls hl => ?_)
                  refine lv_iinc (v := (x4_4 + (1 : Int32))) (lv' := [(4, .int (x4_4 + (1 : Int32))), (3, .int x3_3), (2, .int x2_2), (7, .int r_8), (6, .int r_7), (5, .int (worthBy (r_6).toNatClampNeg)), (0, .ref (a 0)), (1, .int p1)]) hx hb dX11_worthFrom_110 hl (k := 7) rfl rfl (by decide) rfl (fun ls hl => ?_)
                  have s110 := i_s1 (x := x4_4) (by omega)
                  refine lv_goto (tgt := 9) hx hb dX11_worthFrom_113 (by decide) ?_
                  exact ih_L9_1 x2_2 x3_3 (x4_4 + (1 : Int32)) (by omega) (by omega) he _ _ _ hX (lv_sub hl [6, 7, 2, 1, 0] rfl)
                · have he := he.trans (if_neg c94)
                  have d94 := i_ne c94
                  refine lv_iload hx hb dX11_worthFrom_97 (lv_at hl 3 rfl) ?_
                  refine lv_iload_n hx hb dX11_worthFrom_99 rfl (lv_at hl 6 rfl) ?_
                  refine lv_icmp_ge (tgt := 108) hx hb dX11_worthFrom_100 (by decide) (fun c100 => ?_) (fun c100 => ?_)
                  · have he := he.trans (if_pos c100)
                    have d100 := i_le c100
                    refine lv_iload_n hx hb dX11_worthFrom_108 rfl (lv_at hl 6 rfl) ?_
                    refine lv_istore_n (lv' := [(3, .int x3_3), (2, .int x2_2), (7, .int r_8), (6, .int r_7), (5, .int (worthBy (r_6).toNatClampNeg)), (0, .ref (a 0)), (1, .int p1), (4, .int x4_4)]) hx hb dX11_worthFrom_109 rfl hl (by decide) rfl (fun ls hl => ?_)
                    refine lv_iinc (v := (x4_4 + (1 : Int32))) (lv' := [(4, .int (x4_4 + (1 : Int32))), (3, .int x3_3), (2, .int x2_2), (7, .int r_8), (6, .int r_7), (5, .int (worthBy (r_6).toNatClampNeg)), (0, .ref (a 0)), (1, .int p1)]) hx hb dX11_worthFrom_110 hl (k := 7) rfl rfl (by decide) rfl (fun ls hl => ?_)
                    have s110 := i_s1 (x := x4_4) (by omega)
                    refine lv_goto (tgt := 9) hx hb dX11_worthFrom_113 (by decide) ?_
                    exact ih_L9_1 x2_2 x3_3 (x4_4 + (1 : Int32)) (by omega) (by omega) he _ _ _ hX (lv_sub hl [6, 7, 2, 1, 0] rfl)
                  · have he := he.trans (if_neg c100)
                    have d100 := i_nle c100
                    refine lv_iload hx hb dX11_worthFrom_103 (lv_at hl 3 rfl) ?_
                    refine lv_goto (tgt := 109) hx hb dX11_worthFrom_105 (by decide) ?_
                    refine lv_istore_n (lv' := [(3, .int (worthBy (r_6).toNatClampNeg)), (2, .int x2_2), (7, .int r_8), (6, .int r_7), (5, .int (worthBy (r_6).toNatClampNeg)), (0, .ref (a 0)), (1, .int p1), (4, .int x4_4)]) hx hb dX11_worthFrom_109 rfl hl (by decide) rfl (fun ls hl => ?_)
                    refine lv_iinc (v := (x4_4 + (1 : Int32))) (lv' := [(4, .int (x4_4 + (1 : Int32))), (3, .int (worthBy (r_6).toNatClampNeg)), (2, .int x2_2), (7, .int r_8), (6, .int r_7), (5, .int (worthBy (r_6).toNatClampNeg)), (0, .ref (a 0)), (1, .int p1)]) hx hb dX11_worthFrom_110 hl (k := 7) rfl rfl (by decide) rfl (fun ls hl => ?_)
                    have s110 := i_s1 (x := x4_4) (by omega)
                    refine lv_goto (tgt := 9) hx hb dX11_worthFrom_113 (by decide) ?_
                    exact ih_L9_1 x2_2 (worthBy (r_6).toNatClampNeg) (x4_4 + (1 : Int32)) (by omega) (by omega) he _ _ _ hX (lv_sub hl [6, 7, 2, 1, 0] rfl)
              · have he := he.trans (if_neg c76)
                have d76 := i_ne c76
                refine lv_iload hx hb dX11_worthFrom_79 (lv_at hl 2 rfl) ?_
                refine lv_iload_n hx hb dX11_worthFrom_81 rfl (lv_at hl 5 rfl) ?_
                refine lv_icmp_le (tgt := 90) hx hb dX11_worthFrom_82 (by decide) (fun c82 => ?_) (fun c82 => ?_)
                · have he := he.trans (if_pos c82)
                  have d82 := i_le c82
                  refine lv_iload_n hx hb dX11_worthFrom_90 rfl (lv_at hl 5 rfl) ?_
                  refine lv_istore_n (lv' := [(2, .int x2_2), (7, .int r_8), (6, .int r_7), (5, .int (worthBy (r_6).toNatClampNeg)), (0, .ref (a 0)), (1, .int p1), (3, .int x3_3), (4, .int x4_4)]) hx hb dX11_worthFrom_91 rfl hl (by decide) rfl (fun ls hl => ?_)
                  refine lv_iload hx hb dX11_worthFrom_92 (lv_at hl 1 rfl) ?_
                  refine lv_if_eq (tgt := 108) hx hb dX11_worthFrom_94 (by decide) (fun c94 => ?_) (fun c94 => ?_)
                  · have he := he.trans (if_pos c94)
                    have d94 := i_eq c94
                    refine lv_iload_n hx hb dX11_worthFrom_108 rfl (lv_at hl 6 rfl) ?_
                    refine lv_istore_n (lv' := [(3, .int x3_3), (2, .int x2_2), (7, .int r_8), (6, .int r_7), (5, .int (worthBy (r_6).toNatClampNeg)), (0, .ref (a 0)), (1, .int p1), (4, .int x4_4)]) hx hb dX11_worthFrom_109 rfl hl (by decide) rfl (fun ls hl => ?_)
                    refine lv_iinc (v := (x4_4 + (1 : Int32))) (lv' := [(4, .int (x4_4 + (1 : Int32))), (3, .int x3_3), (2, .int x2_2), (7, .int r_8), (6, .int r_7), (5, .int (worthBy (r_6).toNatClampNeg)), (0, .ref (a 0)), (1, .int p1)]) hx hb dX11_worthFrom_110 hl (k := 7) rfl rfl (by decide) rfl (fun ls hl => ?_)
                    have s110 := i_s1 (x := x4_4) (by omega)
                    refine lv_goto (tgt := 9) hx hb dX11_worthFrom_113 (by decide) ?_
                    exact ih_L9_1 x2_2 x3_3 (x4_4 + (1 : Int32)) (by omega) (by omega) he _ _ _ hX (lv_sub hl [6, 7, 2, 1, 0] rfl)
                  · have he := he.trans (if_neg c94)
                    have d94 := i_ne c94
                    refine lv_iload hx hb dX11_worthFrom_97 (lv_at hl 3 rfl) ?_
                    refine lv_iload_n hx hb dX11_worthFrom_99 rfl (lv_at hl 6 rfl) ?_
                    refine lv_icmp_ge (tgt := 108) hx hb dX11_worthFrom_100 (by decide) (fun c100 => ?_) (fun c100 => ?_)
                    · have he := he.trans (if_pos c100)
                      have d100 := i_le c100
                      refine lv_iload_n hx hb dX11_worthFrom_108 rfl (lv_at hl 6 rfl) ?_
                      refine lv_istore_n (lv' := [(3, .int x3_3), (2, .int x2_2), (7, .int r_8), (6, .int r_7), (5, .int (worthBy (r_6).toNatClampNeg)), (0, .ref (a 0)), (1, .int p1), (4, .int x4_4)]) hx hb dX11_worthFrom_109 rfl hl (by decide) rfl (fun ls hl => ?_)
                      refine lv_iinc (v := (x4_4 + (1 : Int32))) (lv' := [(4, .int (x4_4 + (1 : Int32))), (3, .int x3_3), (2, .int x2_2), (7, .int r_8), (6, .int r_7), (5, .int (worthBy (r_6).toNatClampNeg)), (0, .ref (a 0)), (1, .int p1)]) hx hb dX11_worthFrom_110 hl (k := 7) rfl rfl (by decide) rfl (fun ls hl => ?_)
                      have s110 := i_s1 (x := x4_4) (by omega)
                      refine lv_goto (tgt := 9) hx hb dX11_worthFrom_113 (by decide) ?_
                      exact ih_L9_1 x2_2 x3_3 (x4_4 + (1 : Int32)) (by omega) (by omega) he _ _ _ hX (lv_sub hl [6, 7, 2, 1, 0] rfl)
                    · have he := he.trans (if_neg c100)
                      have d100 := i_nle c100
                      refine lv_iload hx hb dX11_worthFrom_103 (lv_at hl 3 rfl) ?_
                      refine lv_goto (tgt := 109) hx hb dX11_worthFrom_105 (by decide) ?_
                      refine lv_istore_n (lv' := [(3, .int (worthBy (r_6).toNatClampNeg)), (2, .int x2_2), (7, .int r_8), (6, .int r_7), (5, .int (worthBy (r_6).toNatClampNeg)), (0, .ref (a 0)), (1, .int p1), (4, .int x4_4)]) hx hb dX11_worthFrom_109 rfl hl (by decide) rfl (fun ls hl => ?_)
                      refine lv_iinc (v := (x4_4 + (1 : Int32))) (lv' := [(4, .int (x4_4 + (1 : Int32))), (3, .int (worthBy (r_6).toNatClampNeg)), (2, .int x2_2), (7, .int r_8), (6, .int r_7), (5, .int (worthBy (r_6).toNatClampNeg)), (0, .ref (a 0)), (1, .int p1)]) hx hb dX11_worthFrom_110 hl (k := 7) rfl rfl (by decide) rfl (fun ls hl => ?_)
                      have s110 := i_s1 (x := x4_4) (by omega)
                      refine lv_goto (tgt := 9) hx hb dX11_worthFrom_113 (by decide) ?_
                      exact ih_L9_1 x2_2 (worthBy (r_6).toNatClampNeg) (x4_4 + (1 : Int32)) (by omega) (by omega) he _ _ _ hX (lv_sub hl [6, 7, 2, 1, 0] rfl)
                · have he := he.trans (if_neg c82)
                  have d82 := i_nle c82
                  refine lv_iload hx hb dX11_worthFrom_85 (lv_at hl 2 rfl) ?_
                  refine lv_goto (tgt := 91) hx hb dX11_worthFrom_87 (by decide) ?_
                  refine lv_istore_n (lv' := [(2, .int (worthBy (r_6).toNatClampNeg)), (7, .int r_8), (6, .int r_7), (5, .int (worthBy (r_6).toNatClampNeg)), (0, .ref (a 0)), (1, .int p1), (3, .int x3_3), (4, .int x4_4)]) hx hb dX11_worthFrom_91 rfl hl (by decide) rfl (fun ls hl => ?_)
                  refine lv_iload hx hb dX11_worthFrom_92 (lv_at hl 1 rfl) ?_
                  refine lv_if_eq (tgt := 108) hx hb dX11_worthFrom_94 (by decide) (fun c94 => ?_) (fun c94 => ?_)
                  · have he := he.trans (if_pos c94)
                    have d94 := i_eq c94
                    refine lv_iload_n hx hb dX11_worthFrom_108 rfl (lv_at hl 6 rfl) ?_
                    refine lv_istore_n (lv' := [(3, .int x3_3), (2, .int (worthBy (r_6).toNatClampNeg)), (7, .int r_8), (6, .int r_7), (5, .int (worthBy (r_6).toNatClampNeg)), (0, .ref (a 0)), (1, .int p1), (4, .int x4_4)]) hx hb dX11_worthFrom_109 rfl hl (by decide) rfl (fun ls hl => ?_)
                    refine lv_iinc (v := (x4_4 + (1 : Int32))) (lv' := [(4, .int (x4_4 + (1 : Int32))), (3, .int x3_3), (2, .int (worthBy (r_6).toNatClampNeg)), (7, .int r_8), (6, .int r_7), (5, .int (worthBy (r_6).toNatClampNeg)), (0, .ref (a 0)), (1, .int p1)]) hx hb dX11_worthFrom_110 hl (k := 7) rfl rfl (by decide) rfl (fun ls hl => ?_)
                    have s110 := i_s1 (x := x4_4) (by omega)
                    refine lv_goto (tgt := 9) hx hb dX11_worthFrom_113 (by decide) ?_
                    exact ih_L9_1 (worthBy (r_6).toNatClampNeg) x3_3 (x4_4 + (1 : Int32)) (by omega) (by omega) he _ _ _ hX (lv_sub hl [6, 7, 2, 1, 0] rfl)
                  · have he := he.trans (if_neg c94)
                    have d94 := i_ne c94
                    refine lv_iload hx hb dX11_worthFrom_97 (lv_at hl 3 rfl) ?_
                    refine lv_iload_n hx hb dX11_worthFrom_99 rfl (lv_at hl 6 rfl) ?_
                    refine lv_icmp_ge (tgt := 108) hx hb dX11_worthFrom_100 (by decide) (fun c100 => ?_) (fun c100 => ?_)
                    · have he := he.trans (if_pos c100)
                      have d100 := i_le c100
                      refine lv_iload_n hx hb dX11_worthFrom_108 rfl (lv_at hl 6 rfl) ?_
                      refine lv_istore_n (lv' := [(3, .int x3_3), (2, .int (worthBy (r_6).toNatClampNeg)), (7, .int r_8), (6, .int r_7), (5, .int (worthBy (r_6).toNatClampNeg)), (0, .ref (a 0)), (1, .int p1), (4, .int x4_4)]) hx hb dX11_worthFrom_109 rfl hl (by decide) rfl (fun ls hl => ?_)
                      refine lv_iinc (v := (x4_4 + (1 : Int32))) (lv' := [(4, .int (x4_4 + (1 : Int32))), (3, .int x3_3), (2, .int (worthBy (r_6).toNatClampNeg)), (7, .int r_8), (6, .int r_7), (5, .int (worthBy (r_6).toNatClampNeg)), (0, .ref (a 0)), (1, .int p1)]) hx hb dX11_worthFrom_110 hl (k := 7) rfl rfl (by decide) rfl (fun ls hl => ?_)
                      have s110 := i_s1 (x := x4_4) (by omega)
                      refine lv_goto (tgt := 9) hx hb dX11_worthFrom_113 (by decide) ?_
                      exact ih_L9_1 (worthBy (r_6).toNatClampNeg) x3_3 (x4_4 + (1 : Int32)) (by omega) (by omega) he _ _ _ hX (lv_sub hl [6, 7, 2, 1, 0] rfl)
                    · have he := he.trans (if_neg c100)
                      have d100 := i_nle c100
                      refine lv_iload hx hb dX11_worthFrom_103 (lv_at hl 3 rfl) ?_
                      refine lv_goto (tgt := 109) hx hb dX11_worthFrom_105 (by decide) ?_
                      refine lv_istore_n (lv' := [(3, .int (worthBy (r_6).toNatClampNeg)), (2, .int (worthBy (r_6).toNatClampNeg)), (7, .int r_8), (6, .int r_7), (5, .int (worthBy (r_6).toNatClampNeg)), (0, .ref (a 0)), (1, .int p1), (4, .int x4_4)]) hx hb dX11_worthFrom_109 rfl hl (by decide) rfl (fun ls hl => ?_)
                      refine lv_iinc (v := (x4_4 + (1 : Int32))) (lv' := [(4, .int (x4_4 + (1 : Int32))), (3, .int (worthBy (r_6).toNatClampNeg)), (2, .int (worthBy (r_6).toNatClampNeg)), (7, .int r_8), (6, .int r_7), (5, .int (worthBy (r_6).toNatClampNeg)), (0, .ref (a 0)), (1, .int p1)]) hx hb dX11_worthFrom_110 hl (k := 7) rfl rfl (by decide) rfl (fun ls hl => ?_)
                      have s110 := i_s1 (x := x4_4) (by omega)
                      refine lv_goto (tgt := 9) hx hb dX11_worthFrom_113 (by decide) ?_
                      exact ih_L9_1 (worthBy (r_6).toNatClampNeg) (worthBy (r_6).toNatClampNeg) (x4_4 + (1 : Int32)) (by omega) (by omega) he _ _ _ hX (lv_sub hl [6, 7, 2, 1, 0] rfl)
            · have he := he.trans (if_pos c67)
              have d67 := i_eq c67
              refine lv_sipush (v := (-9999 : Int32)) hx hb dX11_worthFrom_70 (by decide) ?_
              subst he
              exact g_iret hx hb hr hlocks hX hq rfl dX11_worthFrom_73
  exact L9_1 9 (-1048576 : Int32) (1048576 : Int32) (0 : Int32) (by omega) (by omega) he _ _ _ hX (lv_sub hl [3, 4, 2, 1, 0] rfl)
abbrev rm_X11_layWorth : Room := { frames := 4, cells := 0, slots := 0, locals := 95 }
set_option maxHeartbeats 4000000 in
set_option maxRecDepth 100000 in
theorem k_X11_layWorth {l : Launch} {D : va_G} {E : sE} {a : Nat → Nat} {cA : Nat → ClassId} {hedges : Int32} {branches : Int32} {stand : Int32} {turn : Int32} {cuts : Int32} {asks : Int32} {seen : Int32} {pageLength : Int32} {isWhole : Int32} {newBranches : Int32} {gameCuts : Int32} {isKept : Int32} {keptHedge : Int32} {keptStand : Int32} {keptTurn : Int32} {keptCuts : Int32} {keptSeen : Int32} {seedNow : Int64} {hsh : Int64} {kindOf : Nat → Int32} {onOf : Nat → Int32} {seenBranch : Nat → Int32} {seenBegins : Nat → Int32} {seenWins : Nat → Int32} {page : Nat → Int32} {winner : Nat → Int32} {lasting : Nat → Int32} {worthBy : Nat → Int32} {wonBy : Nat → Int32} {keptKind : Nat → Int32} {keptBranch : Nat → Int32} {keptBegins : Nat → Int32} {keptWins : Nat → Int32} {partsBy : Nat → Int64}  (hbr : 0 ≤ (branches).toInt ∧ (branches).toInt ≤ 8) (hst : 0 ≤ (stand).toInt ∧ (stand).toInt < 256) : ∀ q : (Nat → Int32), q = f_X11_layWorth branches stand kindOf onOf worthBy → gMv l yX11_layWorth wsX11_layWorth rm_X11_layWorth D E (tM cA) [.ref (a 0)] (wM a cA hedges branches stand turn cuts asks seen pageLength isWhole newBranches gameCuts isKept keptHedge keptStand keptTurn keptCuts keptSeen seedNow hsh kindOf onOf seenBranch seenBegins seenWins page winner lasting worthBy wonBy keptKind keptBranch keptBegins keptWins partsBy) (wM a cA hedges branches stand turn cuts asks seen pageLength isWhole newBranches gameCuts isKept keptHedge keptStand keptTurn keptCuts keptSeen seedNow hsh kindOf onOf seenBranch seenBegins seenWins page winner lasting q wonBy keptKind keptBranch keptBegins keptWins partsBy) := by
  intro q he0
  refine gM_of (cc := cX11_layWorth) (maxL := 2) (ret := none) (Qf := gQv D (wM a cA hedges branches stand turn cuts asks seen pageLength isWhole newBranches gameCuts isKept keptHedge keptStand keptTurn keptCuts keptSeen seedNow hsh kindOf onOf seenBranch seenBegins seenWins page winner lasting q wonBy keptKind keptBranch keptBegins keptWins partsBy)) (by decide) rfl (Nat.le_of_ble_eq_true rfl) ?_
  intro p e s m args below meth c Z ls Qz hx hb hr hml hlocks hown hts hS hX hl hq
  have he := he0.trans f_X11_layWorth_s
  have hown : s.vm.findClass RX11 = some m.cls := hown
  have hl : lv_has ls 2 [(0, .ref (a 0))] := hl
  have hi_X11 : ∀ w ∈ u_ws RX11 TX11 34, w ∈ wsX11_layWorth := fun _ h => List.mem_cons_of_mem _ (List.mem_append_right _ h)
  have l_fieldLink_35 := hts (Cond.fieldLink RX11 35 "HedgeGameModel" "worthBy" "[I") (List.mem_of_getElem? (i := 2) rfl)
  have l_fieldLink_86 := hts (Cond.fieldLink RX11 86 "HedgeGameModel" "stand" "I") (List.mem_of_getElem? (i := 1) rfl)
  have tm1 : ((-1 : Int32)).toInt = -1 := rfl
  have t0 : ((0 : Int32)).toInt = 0 := rfl
  have t1 : ((1 : Int32)).toInt = 1 := rfl
  refine lv_iconst (v := (0 : Int32)) hx hb dX11_layWorth_0 (by decide) ?_
  refine lv_istore_n (lv' := [(1, .int (0 : Int32)), (0, .ref (a 0))]) hx hb dX11_layWorth_1 rfl hl (by decide) rfl (fun ls hl => ?_)
  have L2_1 : ∀ (n_2_1 : Nat) (worthBy_2 : Nat → Int32) (x1_3 : Int32), 0 ≤ (x1_3).toInt ∧ (x1_3).toInt ≤ 256 → 256 - (x1_3).toInt < (n_2_1 : Int) → q = f_X11_layWorth_L2 n_2_1 branches stand kindOf onOf worthBy_2 x1_3 → ∀ (H : Heap) (locs : List Loc) (ls : Array Slot), gX D Z s (wM a cA hedges branches stand turn cuts asks seen pageLength isWhole newBranches gameCuts isKept keptHedge keptStand keptTurn keptCuts keptSeen seedNow hsh kindOf onOf seenBranch seenBegins seenWins page winner lasting worthBy_2 wonBy keptKind keptBranch keptBegins keptWins partsBy) H locs → lv_has ls 2 [(0, .ref (a 0)), (1, .int x1_3)] → W p l e rm_X11_layWorth s m args below meth c H locs 0 0 Qz (F0 m 2 ls []) := by
    intro n_2_1
    induction n_2_1 with
    | zero =>
      intro worthBy_2 x1_3 ia ifu _ _ _ _ _ _
      exfalso; omega
    | succ n_2_1 ih_L2_1 =>
      intro worthBy_2 x1_3 ia ifu he H locs ls hX hl
      have he := he.trans f_X11_layWorth_L2_s
      refine lv_iload_n hx hb dX11_layWorth_2 rfl (lv_at hl 1 rfl) ?_
      refine lv_aload_n hx hb dX11_layWorth_3 rfl (lv_at hl 0 rfl) ?_
      refine va_get (D := D) (ci := 11) (v := .int stand) (C := RX11) (T := TX11) (N := 34) hx hb hts hi_X11 hown hS.1 hX.1 0 rfl rfl 4 (by decide) l_fieldLink_86 (fun _ h9 => h9) rfl dX11_layWorth_4 ?_
      refine lv_icmp_gt (tgt := 38) hx hb dX11_layWorth_7 (by decide) (fun c7 => ?_) (fun c7 => ?_)
      · have he := he.trans (if_pos c7)
        have d7 := i_lt c7
        subst he
        exact g_vret hx hb hr hlocks hX hq dX11_layWorth_38
      · have he := he.trans (if_neg c7)
        have d7 := i_nlt c7
        refine lv_iload_n hx hb dX11_layWorth_10 rfl (lv_at hl 1 rfl) ?_
        refine lv_aload_n hx hb dX11_layWorth_11 rfl (lv_at hl 0 rfl) ?_
        refine va_get (D := D) (ci := 11) (v := .int stand) (C := RX11) (T := TX11) (N := 34) hx hb hts hi_X11 hown hS.1 hX.1 0 rfl rfl 4 (by decide) l_fieldLink_86 (fun _ h9 => h9) rfl dX11_layWorth_12 ?_
        refine lv_iconst (v := (-1 : Int32)) hx hb dX11_layWorth_15 (by decide) ?_
        refine lv_ixor hx hb dX11_layWorth_16 ?_
        refine lv_iand hx hb dX11_layWorth_17 ?_
        refine lv_if_ne (tgt := 32) hx hb dX11_layWorth_18 (by decide) (fun c18 => ?_) (fun c18 => ?_)
        · have he := he.trans (if_neg c18)
          have d18 := i_ne c18
          refine lv_iinc (v := (x1_3 + (1 : Int32))) (lv' := [(1, .int (x1_3 + (1 : Int32))), (0, .ref (a 0))]) hx hb dX11_layWorth_32 hl (k := 1) rfl rfl (by decide) rfl (fun ls hl => ?_)
          have s32 := i_s1 (x := x1_3) (by omega)
          refine lv_goto (tgt := 2) hx hb dX11_layWorth_35 (by decide) ?_
          exact ih_L2_1 worthBy_2 (x1_3 + (1 : Int32)) (by omega) (by omega) he _ _ _ hX (lv_sub hl [1, 0] rfl)
        · have he := he.trans (if_pos c18)
          have d18 := i_eq c18
          refine lv_aload_n hx hb dX11_layWorth_21 rfl (lv_at hl 0 rfl) ?_
          refine va_get (D := D) (ci := 11) (v := .ref (a 9)) (C := RX11) (T := TX11) (N := 34) hx hb hts hi_X11 hown hS.1 hX.1 0 rfl rfl 18 (by decide) l_fieldLink_35 (fun _ h9 => h9) rfl dX11_layWorth_22 ?_
          refine lv_iload_n hx hb dX11_layWorth_25 rfl (lv_at hl 1 rfl) ?_
          refine lv_aload_n hx hb dX11_layWorth_26 rfl (lv_at hl 0 rfl) ?_
          refine lv_iload_n hx hb dX11_layWorth_27 rfl (lv_at hl 1 rfl) ?_
          obtain ⟨r_4, e28⟩ : ∃ z, z = (f_X11_worthFrom branches kindOf onOf worthBy_2 x1_3) := ⟨_, rfl⟩
          rw [← e28] at he
          refine g_Vi (r := r_4) (As := [.int x1_3]) (rest := [.int x1_3, .ref (a 9)]) (ci := 11) (q0 := 0) ⟨hx, hb, hml, hown, hts⟩ hS hX (k_X11_worthFrom x1_3 (by omega) (by omega) r_4 e28) (cwV 1 hts gX11_layWorth_X11_worthFrom rfl rfl rfl (by decide +kernel) ⟨Nat.le_of_ble_eq_true rfl, Nat.le_of_ble_eq_true rfl⟩) rfl rfl rfl hl.1 rfl (Nat.le_of_ble_eq_true rfl) dX11_layWorth_28 ⟨Nat.zero_le _, Nat.zero_le _⟩ (fun H locs hX => ?_)
          refine va_iast hx hb hS.1 hX.1 hX.2.1 hX.2.2 9 8 rfl rfl (vp_in_iff.mpr (by omega)) dX11_layWorth_31 (fun H locs hP hD hs => ?_)
          have hX : gX D Z s (wM a cA hedges branches stand turn cuts asks seen pageLength isWhole newBranches gameCuts isKept keptHedge keptStand keptTurn keptCuts keptSeen seedNow hsh kindOf onOf seenBranch seenBegins seenWins page winner lasting (upd worthBy_2 (x1_3).toNatClampNeg r_4) wonBy keptKind keptBranch keptBegins keptWins partsBy) H locs := ⟨hP, hD, hs⟩
          refine lv_iinc (v := (x1_3 + (1 : Int32))) (lv' := [(1, .int (x1_3 + (1 : Int32))), (0, .ref (a 0))]) hx hb dX11_layWorth_32 hl (k := 1) rfl rfl (by decide) rfl (fun ls hl => ?_)
          have s32 := i_s1 (x := x1_3) (by omega)
          refine lv_goto (tgt := 2) hx hb dX11_layWorth_35 (by decide) ?_
          exact ih_L2_1 (upd worthBy_2 (x1_3).toNatClampNeg r_4) (x1_3 + (1 : Int32)) (by omega) (by omega) he _ _ _ hX (lv_sub hl [1, 0] rfl)
  exact L2_1 257 worthBy (0 : Int32) (by omega) (by omega) he _ _ _ hX (lv_sub hl [1, 0] rfl)
abbrev rm_X11_worth : Room := { frames := 5, cells := 0, slots := 0, locals := 116 }
set_option maxHeartbeats 4000000 in
set_option maxRecDepth 100000 in
theorem k_X11_worth {l : Launch} {D : va_G} {E : sE} {a : Nat → Nat} {cA : Nat → ClassId} {hedges : Int32} {branches : Int32} {stand : Int32} {turn : Int32} {cuts : Int32} {asks : Int32} {seen : Int32} {pageLength : Int32} {isWhole : Int32} {newBranches : Int32} {gameCuts : Int32} {isKept : Int32} {keptHedge : Int32} {keptStand : Int32} {keptTurn : Int32} {keptCuts : Int32} {keptSeen : Int32} {seedNow : Int64} {hsh : Int64} {kindOf : Nat → Int32} {onOf : Nat → Int32} {seenBranch : Nat → Int32} {seenBegins : Nat → Int32} {seenWins : Nat → Int32} {page : Nat → Int32} {winner : Nat → Int32} {lasting : Nat → Int32} {worthBy : Nat → Int32} {wonBy : Nat → Int32} {keptKind : Nat → Int32} {keptBranch : Nat → Int32} {keptBegins : Nat → Int32} {keptWins : Nat → Int32} {partsBy : Nat → Int64}  (hbr : 0 ≤ (branches).toInt ∧ (branches).toInt ≤ 8) (hst : 0 ≤ (stand).toInt ∧ (stand).toInt < 256) : ∀ q : Int32 × (Nat → Int32), q = f_X11_worth branches stand kindOf onOf worthBy → gMi l yX11_worth wsX11_worth rm_X11_worth D E (tM cA) [.ref (a 0)] (wM a cA hedges branches stand turn cuts asks seen pageLength isWhole newBranches gameCuts isKept keptHedge keptStand keptTurn keptCuts keptSeen seedNow hsh kindOf onOf seenBranch seenBegins seenWins page winner lasting worthBy wonBy keptKind keptBranch keptBegins keptWins partsBy) (wM a cA hedges branches stand turn cuts asks seen pageLength isWhole newBranches gameCuts isKept keptHedge keptStand keptTurn keptCuts keptSeen seedNow hsh kindOf onOf seenBranch seenBegins seenWins page winner lasting q.2 wonBy keptKind keptBranch keptBegins keptWins partsBy) q.1 := by
  intro q he0
  refine gM_of (cc := cX11_worth) (maxL := 1) (ret := (some .int)) (Qf := gQi D (wM a cA hedges branches stand turn cuts asks seen pageLength isWhole newBranches gameCuts isKept keptHedge keptStand keptTurn keptCuts keptSeen seedNow hsh kindOf onOf seenBranch seenBegins seenWins page winner lasting q.2 wonBy keptKind keptBranch keptBegins keptWins partsBy) q.1) (by decide) rfl (Nat.le_of_ble_eq_true rfl) ?_
  intro p e s m args below meth c Z ls Qz hx hb hr hml hlocks hown hts hS hX hl hq
  have he := he0.trans f_X11_worth_s
  have hown : s.vm.findClass RX11 = some m.cls := hown
  have hl : lv_has ls 1 [(0, .ref (a 0))] := hl
  have hi_X11 : ∀ w ∈ u_ws RX11 TX11 34, w ∈ wsX11_worth := fun _ h => List.mem_cons_of_mem _ (List.mem_append_right _ h)
  have l_fieldLink_35 := hts (Cond.fieldLink RX11 35 "HedgeGameModel" "worthBy" "[I") (List.mem_of_getElem? (i := 2) rfl)
  have l_fieldLink_83 := hts (Cond.fieldLink RX11 83 "HedgeGameModel" "branches" "I") (List.mem_of_getElem? (i := 1) rfl)
  have l_fieldLink_86 := hts (Cond.fieldLink RX11 86 "HedgeGameModel" "stand" "I") (List.mem_of_getElem? (i := 3) rfl)
  have tm103 : ((-103 : Int32)).toInt = -103 := rfl
  have t0 : ((0 : Int32)).toInt = 0 := rfl
  have t1 : ((1 : Int32)).toInt = 1 := rfl
  refine lv_aload_n hx hb dX11_worth_0 rfl (lv_at hl 0 rfl) ?_
  refine va_get (D := D) (ci := 11) (v := .int branches) (C := RX11) (T := TX11) (N := 34) hx hb hts hi_X11 hown hS.1 hX.1 0 rfl rfl 1 (by decide) l_fieldLink_83 (fun _ h9 => h9) rfl dX11_worth_1 ?_
  refine lv_if_ne (tgt := 10) hx hb dX11_worth_4 (by decide) (fun c4 => ?_) (fun c4 => ?_)
  · have he := he.trans (if_neg c4)
    have d4 := i_ne c4
    refine lv_aload_n hx hb dX11_worth_10 rfl (lv_at hl 0 rfl) ?_
    obtain ⟨worthBy_1, e11⟩ : ∃ z, z = (f_X11_layWorth branches stand kindOf onOf worthBy) := ⟨_, rfl⟩
    rw [← e11] at he
    refine g_Vv (w2 := (wM a cA hedges branches stand turn cuts asks seen pageLength isWhole newBranches gameCuts isKept keptHedge keptStand keptTurn keptCuts keptSeen seedNow hsh kindOf onOf seenBranch seenBegins seenWins page winner lasting worthBy_1 wonBy keptKind keptBranch keptBegins keptWins partsBy)) (As := []) (rest := []) (ci := 11) (q0 := 0) ⟨hx, hb, hml, hown, hts⟩ hS hX (k_X11_layWorth (by omega) (by omega) worthBy_1 e11) (cwV 0 hts gX11_worth_X11_layWorth rfl rfl rfl (by decide +kernel) ⟨Nat.le_of_ble_eq_true rfl, Nat.le_of_ble_eq_true rfl⟩) rfl rfl rfl hl.1 rfl (Nat.le_of_ble_eq_true rfl) dX11_worth_11 ⟨Nat.zero_le _, Nat.zero_le _⟩ (fun H locs hX => ?_)
    refine lv_aload_n hx hb dX11_worth_14 rfl (lv_at hl 0 rfl) ?_
    refine va_get (D := D) (ci := 11) (v := .ref (a 9)) (C := RX11) (T := TX11) (N := 34) hx hb hts hi_X11 hown hS.1 hX.1 0 rfl rfl 18 (by decide) l_fieldLink_35 (fun _ h9 => h9) rfl dX11_worth_15 ?_
    refine lv_aload_n hx hb dX11_worth_18 rfl (lv_at hl 0 rfl) ?_
    refine va_get (D := D) (ci := 11) (v := .int stand) (C := RX11) (T := TX11) (N := 34) hx hb hts hi_X11 hown hS.1 hX.1 0 rfl rfl 4 (by decide) l_fieldLink_86 (fun _ h9 => h9) rfl dX11_worth_19 ?_
    refine va_iald hx hb hS.1 hX.1 9 8 rfl rfl (vp_in_iff.mpr (by omega)) dX11_worth_22 ?_
    subst he
    exact g_iret hx hb hr hlocks hX hq rfl dX11_worth_23
  · have he := he.trans (if_pos c4)
    have d4 := i_eq c4
    refine lv_bipush (v := (-103 : Int32)) hx hb dX11_worth_7 (by decide) ?_
    subst he
    exact g_iret hx hb hr hlocks hX hq rfl dX11_worth_9
abbrev rm_X11_treeNow : Room := { frames := 5, cells := 0, slots := 0, locals := 116 }
set_option maxHeartbeats 4000000 in
set_option maxRecDepth 100000 in
theorem k_X11_treeNow {l : Launch} {D : va_G} {E : sE} {a : Nat → Nat} {cA : Nat → ClassId} {hedges : Int32} {branches : Int32} {stand : Int32} {turn : Int32} {cuts : Int32} {asks : Int32} {seen : Int32} {pageLength : Int32} {isWhole : Int32} {newBranches : Int32} {gameCuts : Int32} {isKept : Int32} {keptHedge : Int32} {keptStand : Int32} {keptTurn : Int32} {keptCuts : Int32} {keptSeen : Int32} {seedNow : Int64} {hsh : Int64} {kindOf : Nat → Int32} {onOf : Nat → Int32} {seenBranch : Nat → Int32} {seenBegins : Nat → Int32} {seenWins : Nat → Int32} {page : Nat → Int32} {winner : Nat → Int32} {lasting : Nat → Int32} {worthBy : Nat → Int32} {wonBy : Nat → Int32} {keptKind : Nat → Int32} {keptBranch : Nat → Int32} {keptBegins : Nat → Int32} {keptWins : Nat → Int32} {partsBy : Nat → Int64} (p1 : Int32) (hbr : 0 ≤ (branches).toInt ∧ (branches).toInt ≤ 8) (hst : 0 ≤ (stand).toInt ∧ (stand).toInt < 256) (hbx : 0 ≤ (p1).toInt ∧ (p1).toInt < 8) : ∀ q : Int32 × (Nat → Int32), q = f_X11_treeNow branches stand kindOf onOf worthBy p1 → gMi l yX11_treeNow wsX11_treeNow rm_X11_treeNow D E (tM cA) [.ref (a 0), .int p1] (wM a cA hedges branches stand turn cuts asks seen pageLength isWhole newBranches gameCuts isKept keptHedge keptStand keptTurn keptCuts keptSeen seedNow hsh kindOf onOf seenBranch seenBegins seenWins page winner lasting worthBy wonBy keptKind keptBranch keptBegins keptWins partsBy) (wM a cA hedges branches stand turn cuts asks seen pageLength isWhole newBranches gameCuts isKept keptHedge keptStand keptTurn keptCuts keptSeen seedNow hsh kindOf onOf seenBranch seenBegins seenWins page winner lasting q.2 wonBy keptKind keptBranch keptBegins keptWins partsBy) q.1 := by
  intro q he0
  refine gM_of (cc := cX11_treeNow) (maxL := 2) (ret := (some .int)) (Qf := gQi D (wM a cA hedges branches stand turn cuts asks seen pageLength isWhole newBranches gameCuts isKept keptHedge keptStand keptTurn keptCuts keptSeen seedNow hsh kindOf onOf seenBranch seenBegins seenWins page winner lasting q.2 wonBy keptKind keptBranch keptBegins keptWins partsBy) q.1) (by decide) rfl (Nat.le_of_ble_eq_true rfl) ?_
  intro p e s m args below meth c Z ls Qz hx hb hr hml hlocks hown hts hS hX hl hq
  have he := he0.trans f_X11_treeNow_s
  have hown : s.vm.findClass RX11 = some m.cls := hown
  have hl : lv_has ls 2 [(0, .ref (a 0)), (1, .int p1)] := hl
  have hi_X11 : ∀ w ∈ u_ws RX11 TX11 34, w ∈ wsX11_treeNow := fun _ h => List.mem_cons_of_mem _ (List.mem_append_right _ h)
  have l_fieldLink_35 := hts (Cond.fieldLink RX11 35 "HedgeGameModel" "worthBy" "[I") (List.mem_of_getElem? (i := 1) rfl)
  have l_fieldLink_86 := hts (Cond.fieldLink RX11 86 "HedgeGameModel" "stand" "I") (List.mem_of_getElem? (i := 2) rfl)
  have t0 : ((0 : Int32)).toInt = 0 := rfl
  have t1 : ((1 : Int32)).toInt = 1 := rfl
  refine lv_aload_n hx hb dX11_treeNow_0 rfl (lv_at hl 0 rfl) ?_
  obtain ⟨worthBy_1, e1⟩ : ∃ z, z = (f_X11_layWorth branches stand kindOf onOf worthBy) := ⟨_, rfl⟩
  rw [← e1] at he
  refine g_Vv (w2 := (wM a cA hedges branches stand turn cuts asks seen pageLength isWhole newBranches gameCuts isKept keptHedge keptStand keptTurn keptCuts keptSeen seedNow hsh kindOf onOf seenBranch seenBegins seenWins page winner lasting worthBy_1 wonBy keptKind keptBranch keptBegins keptWins partsBy)) (As := []) (rest := []) (ci := 11) (q0 := 0) ⟨hx, hb, hml, hown, hts⟩ hS hX (k_X11_layWorth (by omega) (by omega) worthBy_1 e1) (cwV 0 hts gX11_treeNow_X11_layWorth rfl rfl rfl (by decide +kernel) ⟨Nat.le_of_ble_eq_true rfl, Nat.le_of_ble_eq_true rfl⟩) rfl rfl rfl hl.1 rfl (Nat.le_of_ble_eq_true rfl) dX11_treeNow_1 ⟨Nat.zero_le _, Nat.zero_le _⟩ (fun H locs hX => ?_)
  refine lv_aload_n hx hb dX11_treeNow_4 rfl (lv_at hl 0 rfl) ?_
  refine va_get (D := D) (ci := 11) (v := .ref (a 9)) (C := RX11) (T := TX11) (N := 34) hx hb hts hi_X11 hown hS.1 hX.1 0 rfl rfl 18 (by decide) l_fieldLink_35 (fun _ h9 => h9) rfl dX11_treeNow_5 ?_
  refine lv_aload_n hx hb dX11_treeNow_8 rfl (lv_at hl 0 rfl) ?_
  refine va_get (D := D) (ci := 11) (v := .int stand) (C := RX11) (T := TX11) (N := 34) hx hb hts hi_X11 hown hS.1 hX.1 0 rfl rfl 4 (by decide) l_fieldLink_86 (fun _ h9 => h9) rfl dX11_treeNow_9 ?_
  refine lv_aload_n hx hb dX11_treeNow_12 rfl (lv_at hl 0 rfl) ?_
  refine lv_iload_n hx hb dX11_treeNow_13 rfl (lv_at hl 1 rfl) ?_
  obtain ⟨r_2, e14⟩ : ∃ z, z = (f_X11_above branches onOf p1) := ⟨_, rfl⟩
  rw [← e14] at he
  refine g_Vi (r := r_2) (As := [.int p1]) (rest := [.int stand, .ref (a 9)]) (ci := 11) (q0 := 0) ⟨hx, hb, hml, hown, hts⟩ hS hX (k_X11_above p1 (by omega) (by omega) r_2 e14) (cwV 1 hts gX11_treeNow_X11_above rfl rfl rfl (by decide +kernel) ⟨Nat.le_of_ble_eq_true rfl, Nat.le_of_ble_eq_true rfl⟩) rfl rfl rfl hl.1 rfl (Nat.le_of_ble_eq_true rfl) dX11_treeNow_14 ⟨Nat.zero_le _, Nat.zero_le _⟩ (fun H locs hX => ?_)
  refine lv_iconst (v := (1 : Int32)) hx hb dX11_treeNow_17 (by decide) ?_
  refine lv_iload_n hx hb dX11_treeNow_18 rfl (lv_at hl 1 rfl) ?_
  refine lv_ishl hx hb dX11_treeNow_19 ?_
  refine lv_ior hx hb dX11_treeNow_20 ?_
  refine lv_iand hx hb dX11_treeNow_21 ?_
  refine va_iald hx hb hS.1 hX.1 9 8 rfl rfl (o_and (by omega)) dX11_treeNow_22 ?_
  subst he
  exact g_iret hx hb hr hlocks hX hq rfl dX11_treeNow_23
abbrev rm_X11_tree : Room := { frames := 6, cells := 0, slots := 0, locals := 137 }
set_option maxHeartbeats 4000000 in
set_option maxRecDepth 100000 in
theorem k_X11_tree {l : Launch} {D : va_G} {E : sE} {a : Nat → Nat} {cA : Nat → ClassId} {hedges : Int32} {branches : Int32} {stand : Int32} {turn : Int32} {cuts : Int32} {asks : Int32} {seen : Int32} {pageLength : Int32} {isWhole : Int32} {newBranches : Int32} {gameCuts : Int32} {isKept : Int32} {keptHedge : Int32} {keptStand : Int32} {keptTurn : Int32} {keptCuts : Int32} {keptSeen : Int32} {seedNow : Int64} {hsh : Int64} {kindOf : Nat → Int32} {onOf : Nat → Int32} {seenBranch : Nat → Int32} {seenBegins : Nat → Int32} {seenWins : Nat → Int32} {page : Nat → Int32} {winner : Nat → Int32} {lasting : Nat → Int32} {worthBy : Nat → Int32} {wonBy : Nat → Int32} {keptKind : Nat → Int32} {keptBranch : Nat → Int32} {keptBegins : Nat → Int32} {keptWins : Nat → Int32} {partsBy : Nat → Int64} (p1 : Int32) (hbr : 0 ≤ (branches).toInt ∧ (branches).toInt ≤ 8) (hst : 0 ≤ (stand).toInt ∧ (stand).toInt < 256) : ∀ q : Int32 × (Nat → Int32), q = f_X11_tree branches stand kindOf onOf worthBy p1 → gMi l yX11_tree wsX11_tree rm_X11_tree D E (tM cA) [.ref (a 0), .int p1] (wM a cA hedges branches stand turn cuts asks seen pageLength isWhole newBranches gameCuts isKept keptHedge keptStand keptTurn keptCuts keptSeen seedNow hsh kindOf onOf seenBranch seenBegins seenWins page winner lasting worthBy wonBy keptKind keptBranch keptBegins keptWins partsBy) (wM a cA hedges branches stand turn cuts asks seen pageLength isWhole newBranches gameCuts isKept keptHedge keptStand keptTurn keptCuts keptSeen seedNow hsh kindOf onOf seenBranch seenBegins seenWins page winner lasting q.2 wonBy keptKind keptBranch keptBegins keptWins partsBy) q.1 := by
  intro q he0
  refine gM_of (cc := cX11_tree) (maxL := 2) (ret := (some .int)) (Qf := gQi D (wM a cA hedges branches stand turn cuts asks seen pageLength isWhole newBranches gameCuts isKept keptHedge keptStand keptTurn keptCuts keptSeen seedNow hsh kindOf onOf seenBranch seenBegins seenWins page winner lasting q.2 wonBy keptKind keptBranch keptBegins keptWins partsBy) q.1) (by decide) rfl (Nat.le_of_ble_eq_true rfl) ?_
  intro p e s m args below meth c Z ls Qz hx hb hr hml hlocks hown hts hS hX hl hq
  have he := he0.trans f_X11_tree_s
  have hown : s.vm.findClass RX11 = some m.cls := hown
  have hl : lv_has ls 2 [(0, .ref (a 0)), (1, .int p1)] := hl
  have hi_X11 : ∀ w ∈ u_ws RX11 TX11 34, w ∈ wsX11_tree := fun _ h => List.mem_cons_of_mem _ (List.mem_append_right _ h)
  have l_fieldLink_13 := hts (Cond.fieldLink RX11 13 "HedgeGameModel" "onOf" "[I") (List.mem_of_getElem? (i := 1) rfl)
  have tm103 : ((-103 : Int32)).toInt = -103 := rfl
  have tm101 : ((-101 : Int32)).toInt = -101 := rfl
  have tm1 : ((-1 : Int32)).toInt = -1 := rfl
  have t0 : ((0 : Int32)).toInt = 0 := rfl
  have t1 : ((1 : Int32)).toInt = 1 := rfl
  refine lv_aload_n hx hb dX11_tree_0 rfl (lv_at hl 0 rfl) ?_
  refine lv_iload_n hx hb dX11_tree_1 rfl (lv_at hl 1 rfl) ?_
  obtain ⟨r_1, e2⟩ : ∃ z, z = (f_X11_isBranch branches p1) := ⟨_, rfl⟩
  rw [← e2] at he
  refine g_Vi (r := r_1) (As := [.int p1]) (rest := []) (ci := 11) (q0 := 0) ⟨hx, hb, hml, hown, hts⟩ hS hX (k_X11_isBranch p1 (by omega) r_1 e2) (cwV 1 hts gX11_tree_X11_isBranch rfl rfl rfl (by decide +kernel) ⟨Nat.le_of_ble_eq_true rfl, Nat.le_of_ble_eq_true rfl⟩) rfl rfl rfl hl.1 rfl (Nat.le_of_ble_eq_true rfl) dX11_tree_2 ⟨Nat.zero_le _, Nat.zero_le _⟩ (fun H locs hX => ?_)
  have k2_0 : (r_1).toInt = 0 ∨ ((r_1).toInt = 1 ∧ 0 ≤ (p1).toInt ∧ (p1).toInt < (branches).toInt) := by rw [e2]; exact r_isBranch (by omega)
  refine lv_if_ne (tgt := 11) hx hb dX11_tree_5 (by decide) (fun c5 => ?_) (fun c5 => ?_)
  · have he := he.trans (if_neg c5)
    have d5 := i_ne c5
    refine lv_aload_n hx hb dX11_tree_11 rfl (lv_at hl 0 rfl) ?_
    refine va_get (D := D) (ci := 11) (v := .ref (a 2)) (C := RX11) (T := TX11) (N := 34) hx hb hts hi_X11 hown hS.1 hX.1 0 rfl rfl 3 (by decide) l_fieldLink_13 (fun _ h9 => h9) rfl dX11_tree_12 ?_
    refine lv_iload_n hx hb dX11_tree_15 rfl (lv_at hl 1 rfl) ?_
    refine va_iald hx hb hS.1 hX.1 2 1 rfl rfl (vp_in_iff.mpr (by omega)) dX11_tree_16 ?_
    refine lv_iconst (v := (-1 : Int32)) hx hb dX11_tree_17 (by decide) ?_
    refine lv_icmp_ne (tgt := 29) hx hb dX11_tree_18 (by decide) (fun c18 => ?_) (fun c18 => ?_)
    · have he := he.trans (if_neg c18)
      have d18 := i_ne c18
      refine lv_bipush (v := (-103 : Int32)) hx hb dX11_tree_29 (by decide) ?_
      subst he
      exact g_iret hx hb hr hlocks hX hq rfl dX11_tree_31
    · have he := he.trans (if_pos c18)
      have d18 := i_eq c18
      refine lv_aload_n hx hb dX11_tree_21 rfl (lv_at hl 0 rfl) ?_
      refine lv_iload_n hx hb dX11_tree_22 rfl (lv_at hl 1 rfl) ?_
      obtain ⟨z_2, e23⟩ : ∃ z, z = (f_X11_treeNow branches stand kindOf onOf worthBy p1) := ⟨_, rfl⟩
      rw [← e23] at he
      try dsimp only at he
      refine g_Vi (r := z_2.1) (w2 := (wM a cA hedges branches stand turn cuts asks seen pageLength isWhole newBranches gameCuts isKept keptHedge keptStand keptTurn keptCuts keptSeen seedNow hsh kindOf onOf seenBranch seenBegins seenWins page winner lasting z_2.2 wonBy keptKind keptBranch keptBegins keptWins partsBy)) (As := [.int p1]) (rest := []) (ci := 11) (q0 := 0) ⟨hx, hb, hml, hown, hts⟩ hS hX (k_X11_treeNow p1 (by omega) (by omega) (by omega) z_2 e23) (cwV 1 hts gX11_tree_X11_treeNow rfl rfl rfl (by decide +kernel) ⟨Nat.le_of_ble_eq_true rfl, Nat.le_of_ble_eq_true rfl⟩) rfl rfl rfl hl.1 rfl (Nat.le_of_ble_eq_true rfl) dX11_tree_23 ⟨Nat.zero_le _, Nat.zero_le _⟩ (fun H locs hX => ?_)
      refine lv_goto (tgt := 31) hx hb dX11_tree_26 (by decide) ?_
      subst he
      exact g_iret hx hb hr hlocks hX hq rfl dX11_tree_31
  · have he := he.trans (if_pos c5)
    have d5 := i_eq c5
    refine lv_bipush (v := (-101 : Int32)) hx hb dX11_tree_8 (by decide) ?_
    subst he
    exact g_iret hx hb hr hlocks hX hq rfl dX11_tree_10
abbrev rm_X11_isEven : Room := { frames := 5, cells := 0, slots := 0, locals := 112 }
set_option maxHeartbeats 4000000 in
set_option maxRecDepth 100000 in
theorem k_X11_isEven {l : Launch} {D : va_G} {E : sE} {a : Nat → Nat} {cA : Nat → ClassId} {hedges : Int32} {branches : Int32} {stand : Int32} {turn : Int32} {cuts : Int32} {asks : Int32} {seen : Int32} {pageLength : Int32} {isWhole : Int32} {newBranches : Int32} {gameCuts : Int32} {isKept : Int32} {keptHedge : Int32} {keptStand : Int32} {keptTurn : Int32} {keptCuts : Int32} {keptSeen : Int32} {seedNow : Int64} {hsh : Int64} {kindOf : Nat → Int32} {onOf : Nat → Int32} {seenBranch : Nat → Int32} {seenBegins : Nat → Int32} {seenWins : Nat → Int32} {page : Nat → Int32} {winner : Nat → Int32} {lasting : Nat → Int32} {worthBy : Nat → Int32} {wonBy : Nat → Int32} {keptKind : Nat → Int32} {keptBranch : Nat → Int32} {keptBegins : Nat → Int32} {keptWins : Nat → Int32} {partsBy : Nat → Int64}  (hbr : 0 ≤ (branches).toInt ∧ (branches).toInt ≤ 8) (hst : 0 ≤ (stand).toInt ∧ (stand).toInt < 256) : ∀ q : Int32 × (Nat → Int32), q = f_X11_isEven branches stand kindOf onOf winner → gMi l yX11_isEven wsX11_isEven rm_X11_isEven D E (tM cA) [.ref (a 0)] (wM a cA hedges branches stand turn cuts asks seen pageLength isWhole newBranches gameCuts isKept keptHedge keptStand keptTurn keptCuts keptSeen seedNow hsh kindOf onOf seenBranch seenBegins seenWins page winner lasting worthBy wonBy keptKind keptBranch keptBegins keptWins partsBy) (wM a cA hedges branches stand turn cuts asks seen pageLength isWhole newBranches gameCuts isKept keptHedge keptStand keptTurn keptCuts keptSeen seedNow hsh kindOf onOf seenBranch seenBegins seenWins page q.2 lasting worthBy wonBy keptKind keptBranch keptBegins keptWins partsBy) q.1 := by
  intro q he0
  refine gM_of (cc := cX11_isEven) (maxL := 1) (ret := (some .boolean)) (Qf := gQi D (wM a cA hedges branches stand turn cuts asks seen pageLength isWhole newBranches gameCuts isKept keptHedge keptStand keptTurn keptCuts keptSeen seedNow hsh kindOf onOf seenBranch seenBegins seenWins page q.2 lasting worthBy wonBy keptKind keptBranch keptBegins keptWins partsBy) q.1) (by decide) rfl (Nat.le_of_ble_eq_true rfl) ?_
  intro p e s m args below meth c Z ls Qz hx hb hr hml hlocks hown hts hS hX hl hq
  have he := he0.trans f_X11_isEven_s
  have hown : s.vm.findClass RX11 = some m.cls := hown
  have hl : lv_has ls 1 [(0, .ref (a 0))] := hl
  have hi_X11 : ∀ w ∈ u_ws RX11 TX11 34, w ∈ wsX11_isEven := fun _ h => List.mem_cons_of_mem _ (List.mem_append_right _ h)
  have l_fieldLink_29 := hts (Cond.fieldLink RX11 29 "HedgeGameModel" "winner" "[I") (List.mem_of_getElem? (i := 1) rfl)
  have l_fieldLink_86 := hts (Cond.fieldLink RX11 86 "HedgeGameModel" "stand" "I") (List.mem_of_getElem? (i := 2) rfl)
  have t0 : ((0 : Int32)).toInt = 0 := rfl
  have t1 : ((1 : Int32)).toInt = 1 := rfl
  have t2 : ((2 : Int32)).toInt = 2 := rfl
  refine lv_aload_n hx hb dX11_isEven_0 rfl (lv_at hl 0 rfl) ?_
  obtain ⟨winner_1, e1⟩ : ∃ z, z = (f_X11_layWinners branches stand kindOf onOf winner) := ⟨_, rfl⟩
  rw [← e1] at he
  refine g_Vv (w2 := (wM a cA hedges branches stand turn cuts asks seen pageLength isWhole newBranches gameCuts isKept keptHedge keptStand keptTurn keptCuts keptSeen seedNow hsh kindOf onOf seenBranch seenBegins seenWins page winner_1 lasting worthBy wonBy keptKind keptBranch keptBegins keptWins partsBy)) (As := []) (rest := []) (ci := 11) (q0 := 0) ⟨hx, hb, hml, hown, hts⟩ hS hX (k_X11_layWinners (by omega) (by omega) winner_1 e1) (cwV 0 hts gX11_isEven_X11_layWinners rfl rfl rfl (by decide +kernel) ⟨Nat.le_of_ble_eq_true rfl, Nat.le_of_ble_eq_true rfl⟩) rfl rfl rfl hl.1 rfl (Nat.le_of_ble_eq_true rfl) dX11_isEven_1 ⟨Nat.zero_le _, Nat.zero_le _⟩ (fun H locs hX => ?_)
  refine lv_aload_n hx hb dX11_isEven_4 rfl (lv_at hl 0 rfl) ?_
  refine va_get (D := D) (ci := 11) (v := .ref (a 7)) (C := RX11) (T := TX11) (N := 34) hx hb hts hi_X11 hown hS.1 hX.1 0 rfl rfl 16 (by decide) l_fieldLink_29 (fun _ h9 => h9) rfl dX11_isEven_5 ?_
  refine lv_iconst (v := (2 : Int32)) hx hb dX11_isEven_8 (by decide) ?_
  refine lv_aload_n hx hb dX11_isEven_9 rfl (lv_at hl 0 rfl) ?_
  refine va_get (D := D) (ci := 11) (v := .int stand) (C := RX11) (T := TX11) (N := 34) hx hb hts hi_X11 hown hS.1 hX.1 0 rfl rfl 4 (by decide) l_fieldLink_86 (fun _ h9 => h9) rfl dX11_isEven_10 ?_
  refine lv_imul hx hb dX11_isEven_13 ?_
  refine va_iald hx hb hS.1 hX.1 7 6 rfl rfl (o_2s (by omega)) dX11_isEven_14 ?_
  refine lv_iconst (v := (1 : Int32)) hx hb dX11_isEven_15 (by decide) ?_
  refine lv_icmp_ne (tgt := 39) hx hb dX11_isEven_16 (by decide) (fun c16 => ?_) (fun c16 => ?_)
  · have he := he.trans (if_neg c16)
    have d16 := i_ne c16
    refine lv_iconst (v := (0 : Int32)) hx hb dX11_isEven_39 (by decide) ?_
    subst he
    exact g_zret hx hb hr rfl hlocks hX hq rfl dX11_isEven_40
  · have he := he.trans (if_pos c16)
    have d16 := i_eq c16
    refine lv_aload_n hx hb dX11_isEven_19 rfl (lv_at hl 0 rfl) ?_
    refine va_get (D := D) (ci := 11) (v := .ref (a 7)) (C := RX11) (T := TX11) (N := 34) hx hb hts hi_X11 hown hS.1 hX.1 0 rfl rfl 16 (by decide) l_fieldLink_29 (fun _ h9 => h9) rfl dX11_isEven_20 ?_
    refine lv_iconst (v := (2 : Int32)) hx hb dX11_isEven_23 (by decide) ?_
    refine lv_aload_n hx hb dX11_isEven_24 rfl (lv_at hl 0 rfl) ?_
    refine va_get (D := D) (ci := 11) (v := .int stand) (C := RX11) (T := TX11) (N := 34) hx hb hts hi_X11 hown hS.1 hX.1 0 rfl rfl 4 (by decide) l_fieldLink_86 (fun _ h9 => h9) rfl dX11_isEven_25 ?_
    refine lv_imul hx hb dX11_isEven_28 ?_
    refine lv_iconst (v := (1 : Int32)) hx hb dX11_isEven_29 (by decide) ?_
    refine lv_iadd hx hb dX11_isEven_30 ?_
    refine va_iald hx hb hS.1 hX.1 7 6 rfl rfl (o_2s1 (by omega)) dX11_isEven_31 ?_
    refine lv_if_ne (tgt := 39) hx hb dX11_isEven_32 (by decide) (fun c32 => ?_) (fun c32 => ?_)
    · have he := he.trans (if_neg c32)
      have d32 := i_ne c32
      refine lv_iconst (v := (0 : Int32)) hx hb dX11_isEven_39 (by decide) ?_
      subst he
      exact g_zret hx hb hr rfl hlocks hX hq rfl dX11_isEven_40
    · have he := he.trans (if_pos c32)
      have d32 := i_eq c32
      refine lv_iconst (v := (1 : Int32)) hx hb dX11_isEven_35 (by decide) ?_
      refine lv_goto (tgt := 40) hx hb dX11_isEven_36 (by decide) ?_
      subst he
      exact g_zret hx hb hr rfl hlocks hX hq rfl dX11_isEven_40
