abbrev rm_X11_lastingFrom : Room := { frames := 3, cells := 0, slots := 0, locals := 68 }
set_option maxHeartbeats 4000000 in
set_option maxRecDepth 100000 in
theorem k_X11_lastingFrom {l : Launch} {D : va_G} {E : sE} {a : Nat → Nat} {cA : Nat → ClassId} {hedges : Int32} {branches : Int32} {stand : Int32} {turn : Int32} {cuts : Int32} {asks : Int32} {seen : Int32} {pageLength : Int32} {isWhole : Int32} {newBranches : Int32} {gameCuts : Int32} {isKept : Int32} {keptHedge : Int32} {keptStand : Int32} {keptTurn : Int32} {keptCuts : Int32} {keptSeen : Int32} {seedNow : Int64} {hsh : Int64} {kindOf : Nat → Int32} {onOf : Nat → Int32} {seenBranch : Nat → Int32} {seenBegins : Nat → Int32} {seenWins : Nat → Int32} {page : Nat → Int32} {winner : Nat → Int32} {lasting : Nat → Int32} {worthBy : Nat → Int32} {wonBy : Nat → Int32} {keptKind : Nat → Int32} {keptBranch : Nat → Int32} {keptBegins : Nat → Int32} {keptWins : Nat → Int32} {partsBy : Nat → Int64} (p1 : Int32) (p2 : Int32) (hbr : 0 ≤ (branches).toInt ∧ (branches).toInt ≤ 8) (hsx : 0 ≤ (p1).toInt ∧ (p1).toInt < 256) (hwx : 0 ≤ (p2).toInt ∧ (p2).toInt ≤ 1) : ∀ q : Int32, q = f_X11_lastingFrom branches kindOf onOf winner lasting p1 p2 → gMi l yX11_lastingFrom wsX11_lastingFrom rm_X11_lastingFrom D E (tM cA) [.ref (a 0), .int p1, .int p2] (wM a cA hedges branches stand turn cuts asks seen pageLength isWhole newBranches gameCuts isKept keptHedge keptStand keptTurn keptCuts keptSeen seedNow hsh kindOf onOf seenBranch seenBegins seenWins page winner lasting worthBy wonBy keptKind keptBranch keptBegins keptWins partsBy) (wM a cA hedges branches stand turn cuts asks seen pageLength isWhole newBranches gameCuts isKept keptHedge keptStand keptTurn keptCuts keptSeen seedNow hsh kindOf onOf seenBranch seenBegins seenWins page winner lasting worthBy wonBy keptKind keptBranch keptBegins keptWins partsBy) q := by
  intro q he0
  refine gM_of (cc := cX11_lastingFrom) (maxL := 9) (ret := (some .int)) (Qf := gQi D (wM a cA hedges branches stand turn cuts asks seen pageLength isWhole newBranches gameCuts isKept keptHedge keptStand keptTurn keptCuts keptSeen seedNow hsh kindOf onOf seenBranch seenBegins seenWins page winner lasting worthBy wonBy keptKind keptBranch keptBegins keptWins partsBy) q) (by decide) rfl (Nat.le_of_ble_eq_true rfl) ?_
  intro p e s m args below meth c Z ls Qz hx hb hr hml hlocks hown hts hS hX hl hq
  have he := he0.trans f_X11_lastingFrom_s
  have hown : s.vm.findClass RX11 = some m.cls := hown
  have hl : lv_has ls 9 [(0, .ref (a 0)), (1, .int p1), (2, .int p2)] := hl
  have hi_X11 : ∀ w ∈ u_ws RX11 TX11 34, w ∈ wsX11_lastingFrom := fun _ h => List.mem_cons_of_mem _ (List.mem_append_right _ h)
  have l_constant_134 := hts (Cond.constant RX11 134 (1048576)) (List.mem_of_getElem? (i := 2) rfl)
  have l_fieldLink_29 := hts (Cond.fieldLink RX11 29 "HedgeGameModel" "winner" "[I") (List.mem_of_getElem? (i := 1) rfl)
  have l_fieldLink_32 := hts (Cond.fieldLink RX11 32 "HedgeGameModel" "lasting" "[I") (List.mem_of_getElem? (i := 4) rfl)
  have l_fieldLink_83 := hts (Cond.fieldLink RX11 83 "HedgeGameModel" "branches" "I") (List.mem_of_getElem? (i := 3) rfl)
  have tm1 : ((-1 : Int32)).toInt = -1 := rfl
  have t0 : ((0 : Int32)).toInt = 0 := rfl
  have t1 : ((1 : Int32)).toInt = 1 := rfl
  have t2 : ((2 : Int32)).toInt = 2 := rfl
  have t1048576 : ((1048576 : Int32)).toInt = 1048576 := rfl
  refine lv_aload_n hx hb dX11_lastingFrom_0 rfl (lv_at hl 0 rfl) ?_
  refine va_get (D := D) (ci := 11) (v := .ref (a 7)) (C := RX11) (T := TX11) (N := 34) hx hb hts hi_X11 hown hS.1 hX.1 0 rfl rfl 16 (by decide) l_fieldLink_29 (fun _ h9 => h9) rfl dX11_lastingFrom_1 ?_
  refine lv_iconst (v := (2 : Int32)) hx hb dX11_lastingFrom_4 (by decide) ?_
  refine lv_iload_n hx hb dX11_lastingFrom_5 rfl (lv_at hl 1 rfl) ?_
  refine lv_imul hx hb dX11_lastingFrom_6 ?_
  refine lv_iload_n hx hb dX11_lastingFrom_7 rfl (lv_at hl 2 rfl) ?_
  refine lv_iadd hx hb dX11_lastingFrom_8 ?_
  refine va_iald hx hb hS.1 hX.1 7 6 rfl rfl (o_2sw (by omega) (by omega)) dX11_lastingFrom_9 ?_
  refine lv_iload_n hx hb dX11_lastingFrom_10 rfl (lv_at hl 2 rfl) ?_
  refine lv_icmp_ne (tgt := 18) hx hb dX11_lastingFrom_11 (by decide) (fun c11 => ?_) (fun c11 => ?_)
  · have he := he.trans (if_neg c11)
    have d11 := i_ne c11
    refine lv_iconst (v := (0 : Int32)) hx hb dX11_lastingFrom_18 (by decide) ?_
    refine lv_istore_n (lv' := [(3, .int (0 : Int32)), (0, .ref (a 0)), (1, .int p1), (2, .int p2)]) hx hb dX11_lastingFrom_19 rfl hl (by decide) rfl (fun ls hl => ?_)
    refine lv_iload_n hx hb dX11_lastingFrom_20 rfl (lv_at hl 0 rfl) ?_
    refine lv_if_eq (tgt := 29) hx hb dX11_lastingFrom_21 (by decide) (fun c21 => ?_) (fun c21 => ?_)
    · have he := he.trans (if_pos c21)
      have d21 := i_eq c21
      refine lv_iconst (v := (-1 : Int32)) hx hb dX11_lastingFrom_29 (by decide) ?_
      refine lv_istore (lv' := [(4, .int (-1 : Int32)), (3, .int (0 : Int32)), (0, .ref (a 0)), (1, .int p1), (2, .int p2)]) hx hb dX11_lastingFrom_30 hl (by decide) rfl (fun ls hl => ?_)
      refine lv_iconst (v := (0 : Int32)) hx hb dX11_lastingFrom_32 (by decide) ?_
      refine lv_istore (lv' := [(5, .int (0 : Int32)), (4, .int (-1 : Int32)), (3, .int (0 : Int32)), (0, .ref (a 0)), (1, .int p1), (2, .int p2)]) hx hb dX11_lastingFrom_33 hl (by decide) rfl (fun ls hl => ?_)
      have L35_1 : ∀ (n_35_1 : Nat) (x4_2 : Int32) (x5_3 : Int32), 0 ≤ (x5_3).toInt ∧ (x5_3).toInt ≤ 8 → 8 - (x5_3).toInt < (n_35_1 : Int) → q = f_X11_lastingFrom_L35 n_35_1 branches kindOf onOf winner lasting p1 p2 (0 : Int32) x4_2 x5_3 → ∀ (H : Heap) (locs : List Loc) (ls : Array Slot), gX D Z s (wM a cA hedges branches stand turn cuts asks seen pageLength isWhole newBranches gameCuts isKept keptHedge keptStand keptTurn keptCuts keptSeen seedNow hsh kindOf onOf seenBranch seenBegins seenWins page winner lasting worthBy wonBy keptKind keptBranch keptBegins keptWins partsBy) H locs → lv_has ls 9 [(0, .ref (a 0)), (1, .int p1), (2, .int p2), (3, .int (0 : Int32)), (4, .int x4_2), (5, .int x5_3)] → W p l e rm_X11_lastingFrom s m args below meth c H locs 0 0 Qz (F0 m 35 ls []) := by
        intro n_35_1
        induction n_35_1 with
        | zero =>
          intro x4_2 x5_3 ia ifu _ _ _ _ _ _
          exfalso; omega
        | succ n_35_1 ih_L35_1 =>
          intro x4_2 x5_3 ia ifu he H locs ls hX hl
          have he := he.trans f_X11_lastingFrom_L35_s
          refine lv_iload hx hb dX11_lastingFrom_35 (lv_at hl 5 rfl) ?_
          refine lv_aload_n hx hb dX11_lastingFrom_37 rfl (lv_at hl 0 rfl) ?_
          refine va_get (D := D) (ci := 11) (v := .int branches) (C := RX11) (T := TX11) (N := 34) hx hb hts hi_X11 hown hS.1 hX.1 0 rfl rfl 1 (by decide) l_fieldLink_83 (fun _ h9 => h9) rfl dX11_lastingFrom_38 ?_
          refine lv_icmp_ge (tgt := 143) hx hb dX11_lastingFrom_41 (by decide) (fun c41 => ?_) (fun c41 => ?_)
          · have he := he.trans (if_pos c41)
            have d41 := i_le c41
            refine lv_iload hx hb dX11_lastingFrom_143 (lv_at hl 4 rfl) ?_
            refine lv_iconst (v := (1 : Int32)) hx hb dX11_lastingFrom_145 (by decide) ?_
            refine lv_iadd hx hb dX11_lastingFrom_146 ?_
            subst he
            exact g_iret hx hb hr hlocks hX hq rfl dX11_lastingFrom_147
          · have he := he.trans (if_neg c41)
            have d41 := i_nle c41
            refine lv_aload_n hx hb dX11_lastingFrom_44 rfl (lv_at hl 0 rfl) ?_
            refine lv_iload_n hx hb dX11_lastingFrom_45 rfl (lv_at hl 2 rfl) ?_
            refine lv_iload hx hb dX11_lastingFrom_46 (lv_at hl 5 rfl) ?_
            refine lv_iload_n hx hb dX11_lastingFrom_48 rfl (lv_at hl 1 rfl) ?_
            obtain ⟨r_4, e49⟩ : ∃ z, z = (f_X11_mayCut branches kindOf onOf p2 x5_3 p1) := ⟨_, rfl⟩
            rw [← e49] at he
            refine g_Vi (r := r_4) (As := [.int p2, .int x5_3, .int p1]) (rest := []) (ci := 11) (q0 := 0) ⟨hx, hb, hml, hown, hts⟩ hS hX (k_X11_mayCut p2 x5_3 p1 (by omega) (by omega) r_4 e49) (cwV 3 hts gX11_lastingFrom_X11_mayCut rfl rfl rfl (by decide +kernel) ⟨Nat.le_of_ble_eq_true rfl, Nat.le_of_ble_eq_true rfl⟩) rfl rfl rfl hl.1 rfl (Nat.le_of_ble_eq_true rfl) dX11_lastingFrom_49 ⟨Nat.zero_le _, Nat.zero_le _⟩ (fun H locs hX => ?_)
            refine lv_if_eq (tgt := 137) hx hb dX11_lastingFrom_52 (by decide) (fun c52 => ?_) (fun c52 => ?_)
            · have he := he.trans (if_pos c52)
              have d52 := i_eq c52
              refine lv_iinc (v := (x5_3 + (1 : Int32))) (lv' := [(5, .int (x5_3 + (1 : Int32))), (0, .ref (a 0)), (1, .int p1), (2, .int p2), (3, .int (0 : Int32)), (4, .int x4_2)]) hx hb dX11_lastingFrom_137 hl (k := 5) rfl rfl (by decide) rfl (fun ls hl => ?_)
              have s137 := i_s1 (x := x5_3) (by omega)
              refine lv_goto (tgt := 35) hx hb dX11_lastingFrom_140 (by decide) ?_
              exact ih_L35_1 x4_2 (x5_3 + (1 : Int32)) (by omega) (by omega) he _ _ _ hX (lv_sub hl [1, 2, 3, 4, 5, 0] rfl)
            · have he := he.trans (if_neg c52)
              have d52 := i_ne c52
              refine lv_iconst (v := (2 : Int32)) hx hb dX11_lastingFrom_55 (by decide) ?_
              refine lv_aload_n hx hb dX11_lastingFrom_56 rfl (lv_at hl 0 rfl) ?_
              refine lv_iload hx hb dX11_lastingFrom_57 (lv_at hl 5 rfl) ?_
              refine lv_iload_n hx hb dX11_lastingFrom_59 rfl (lv_at hl 1 rfl) ?_
              obtain ⟨r_5, e60⟩ : ∃ z, z = (f_X11_leaves branches onOf x5_3 p1) := ⟨_, rfl⟩
              rw [← e60] at he
              refine g_Vi (r := r_5) (As := [.int x5_3, .int p1]) (rest := [.int (2 : Int32)]) (ci := 11) (q0 := 0) ⟨hx, hb, hml, hown, hts⟩ hS hX (k_X11_leaves x5_3 p1 (by omega) (by omega) r_5 e60) (cwV 2 hts gX11_lastingFrom_X11_leaves rfl rfl rfl (by decide +kernel) ⟨Nat.le_of_ble_eq_true rfl, Nat.le_of_ble_eq_true rfl⟩) rfl rfl rfl hl.1 rfl (Nat.le_of_ble_eq_true rfl) dX11_lastingFrom_60 ⟨Nat.zero_le _, Nat.zero_le _⟩ (fun H locs hX => ?_)
              have k60_0 : 0 ≤ (p1).toInt → (0 ≤ (r_5).toInt ∧ (r_5).toInt ≤ (p1).toInt) := by rw [e60]; exact r_leaves
              refine lv_imul hx hb dX11_lastingFrom_63 ?_
              refine lv_iconst (v := (1 : Int32)) hx hb dX11_lastingFrom_64 (by decide) ?_
              refine lv_iadd hx hb dX11_lastingFrom_65 ?_
              refine lv_iload_n hx hb dX11_lastingFrom_66 rfl (lv_at hl 2 rfl) ?_
              refine lv_isub hx hb dX11_lastingFrom_67 ?_
              refine lv_istore (lv' := [(6, .int ((((2 : Int32) * r_5) + (1 : Int32)) - p2)), (0, .ref (a 0)), (1, .int p1), (2, .int p2), (3, .int (0 : Int32)), (4, .int x4_2), (5, .int x5_3)]) hx hb dX11_lastingFrom_68 hl (by decide) rfl (fun ls hl => ?_)
              refine lv_aload_n hx hb dX11_lastingFrom_70 rfl (lv_at hl 1 rfl) ?_
              refine va_get (D := D) (ci := 11) (v := .ref (a 8)) (C := RX11) (T := TX11) (N := 34) hx hb hts hi_X11 hown hS.1 hX.1 0 rfl rfl 17 (by decide) l_fieldLink_32 (fun _ h9 => h9) rfl dX11_lastingFrom_71 ?_
              refine lv_iload hx hb dX11_lastingFrom_74 (lv_at hl 0 rfl) ?_
              refine va_iald hx hb hS.1 hX.1 8 7 rfl rfl (o_2s1w (by omega) (by omega)) dX11_lastingFrom_76 ?_
              refine lv_istore (lv' := [(7, .int (lasting (((((2 : Int32) * r_5) + (1 : Int32)) - p2)).toNatClampNeg)), (6, .int ((((2 : Int32) * r_5) + (1 : Int32)) - p2)), (0, .ref (a 0)), (1, .int p1), (2, .int p2), (3, .int (0 : Int32)), (4, .int x4_2), (5, .int x5_3)]) hx hb dX11_lastingFrom_77 hl (by decide) rfl (fun ls hl => ?_)
              refine lv_iload_n hx hb dX11_lastingFrom_79 rfl (lv_at hl 5 rfl) ?_
              refine lv_if_eq (tgt := 109) hx hb dX11_lastingFrom_80 (by decide) (fun c80 => ?_) (fun c80 => ?_)
              · have he := he.trans (if_pos c80)
                have d80 := i_eq c80
                refine lv_iload hx hb dX11_lastingFrom_109 (lv_at hl 0 rfl) ?_
                refine lv_iload hx hb dX11_lastingFrom_111 (lv_at hl 6 rfl) ?_
                refine lv_icmp_le (tgt := 120) hx hb dX11_lastingFrom_113 (by decide) (fun c113 => ?_) (fun c113 => ?_)
                · have he := he.trans (if_pos c113)
                  have d113 := i_le c113
                  refine lv_iconst (v := (0 : Int32)) hx hb dX11_lastingFrom_120 (by decide) ?_
                  refine lv_istore (lv' := [(8, .int (0 : Int32)), (7, .int (lasting (((((2 : Int32) * r_5) + (1 : Int32)) - p2)).toNatClampNeg)), (6, .int ((((2 : Int32) * r_5) + (1 : Int32)) - p2)), (0, .ref (a 0)), (1, .int p1), (2, .int p2), (3, .int (0 : Int32)), (4, .int x4_2), (5, .int x5_3)]) hx hb dX11_lastingFrom_121 hl (by decide) rfl (fun ls hl => ?_)
                  refine lv_iload hx hb dX11_lastingFrom_123 (lv_at hl 0 rfl) ?_
                  refine lv_if_eq (tgt := 133) hx hb dX11_lastingFrom_125 (by decide) (fun c125 => ?_) (fun c125 => ?_)
                  · have he := he.trans (if_pos c125)
                    have d125 := i_eq c125
                    refine lv_iload hx hb dX11_lastingFrom_133 (lv_at hl 7 rfl) ?_
                    refine lv_istore (lv' := [(4, .int x4_2), (8, .int (0 : Int32)), (7, .int (lasting (((((2 : Int32) * r_5) + (1 : Int32)) - p2)).toNatClampNeg)), (6, .int ((((2 : Int32) * r_5) + (1 : Int32)) - p2)), (0, .ref (a 0)), (1, .int p1), (2, .int p2), (3, .int (0 : Int32)), (5, .int x5_3)]) hx hb dX11_lastingFrom_135 hl (by decide) rfl (fun ls hl => ?_)
                    refine lv_iinc (v := (x5_3 + (1 : Int32))) (lv' := [(5, .int (x5_3 + (1 : Int32))), (4, .int x4_2), (8, .int (0 : Int32)), (7, .int (lasting (((((2 : Int32) * r_5) + (1 : Int32)) - p2)).toNatClampNeg)), (6, .int ((((2 : Int32) * r_5) + (1 : Int32)) - p2)), (0, .ref (a 0)), (1, .int p1), (2, .int p2), (3, .int (0 : Int32))]) hx hb dX11_lastingFrom_137 hl (k := 8) rfl rfl (by decide) rfl (fun ls hl => ?_)
                    have s137 := i_s1 (x := x5_3) (by omega)
                    refine lv_goto (tgt := 35) hx hb dX11_lastingFrom_140 (by decide) ?_
                    exact ih_L35_1 x4_2 (x5_3 + (1 : Int32)) (by omega) (by omega) he _ _ _ hX (lv_sub hl [5, 6, 7, 8, 1, 0] rfl)
                  · have he := he.trans (if_neg c125)
                    have d125 := i_ne c125
                    refine lv_iload hx hb dX11_lastingFrom_128 (lv_at hl 1 rfl) ?_
                    refine lv_goto (tgt := 135) hx hb dX11_lastingFrom_130 (by decide) ?_
                    refine lv_istore (lv' := [(4, .int (lasting (((((2 : Int32) * r_5) + (1 : Int32)) - p2)).toNatClampNeg)), (8, .int (0 : Int32)), (7, .int (lasting (((((2 : Int32) * r_5) + (1 : Int32)) - p2)).toNatClampNeg)), (6, .int ((((2 : Int32) * r_5) + (1 : Int32)) - p2)), (0, .ref (a 0)), (1, .int p1), (2, .int p2), (3, .int (0 : Int32)), (5, .int x5_3)]) hx hb dX11_lastingFrom_135 hl (by decide) rfl (fun ls hl => ?_)
                    refine lv_iinc (v := (x5_3 + (1 : Int32))) (lv' := [(5, .int (x5_3 + (1 : Int32))), (4, .int (lasting (((((2 : Int32) * r_5) + (1 : Int32)) - p2)).toNatClampNeg)), (8, .int (0 : Int32)), (7, .int (lasting (((((2 : Int32) * r_5) + (1 : Int32)) - p2)).toNatClampNeg)), (6, .int ((((2 : Int32) * r_5) + (1 : Int32)) - p2)), (0, .ref (a 0)), (1, .int p1), (2, .int p2), (3, .int (0 : Int32))]) hx hb dX11_lastingFrom_137 hl (k := 8) rfl rfl (by decide) rfl (fun ls hl => ?_)
                    have s137 := i_s1 (x := x5_3) (by omega)
                    refine lv_goto (tgt := 35) hx hb dX11_lastingFrom_140 (by decide) ?_
                    exact ih_L35_1 (lasting (((((2 : Int32) * r_5) + (1 : Int32)) - p2)).toNatClampNeg) (x5_3 + (1 : Int32)) (by omega) (by omega) he _ _ _ hX (lv_sub hl [5, 6, 7, 8, 1, 0] rfl)
                · have he := he.trans (if_neg c113)
                  have d113 := i_nle c113
                  refine lv_iconst (v := (1 : Int32)) hx hb dX11_lastingFrom_116 (by decide) ?_
                  refine lv_goto (tgt := 121) hx hb dX11_lastingFrom_117 (by decide) ?_
                  refine lv_istore (lv' := [(8, .int (1 : Int32)), (7, .int (lasting (((((2 : Int32) * r_5) + (1 : Int32)) - p2)).toNatClampNeg)), (6, .int ((((2 : Int32) * r_5) + (1 : Int32)) - p2)), (0, .ref (a 0)), (1, .int p1), (2, .int p2), (3, .int (0 : Int32)), (4, .int x4_2), (5, .int x5_3)]) hx hb dX11_lastingFrom_121 hl (by decide) rfl (fun ls hl => ?_)
                  refine lv_iload hx hb dX11_lastingFrom_123 (lv_at hl 0 rfl) ?_
                  refine lv_if_eq (tgt := 133) hx hb dX11_lastingFrom_125 (by decide) (fun c125 => ?_) (fun c125 => ?_)
                  · have he := he.trans (if_pos c125)
                    have d125 := i_eq c125
                    refine lv_iload hx hb dX11_lastingFrom_133 (lv_at hl 7 rfl) ?_
                    refine lv_istore (lv' := [(4, .int x4_2), (8, .int (1 : Int32)), (7, .int (lasting (((((2 : Int32) * r_5) + (1 : Int32)) - p2)).toNatClampNeg)), (6, .int ((((2 : Int32) * r_5) + (1 : Int32)) - p2)), (0, .ref (a 0)), (1, .int p1), (2, .int p2), (3, .int (0 : Int32)), (5, .int x5_3)]) hx hb dX11_lastingFrom_135 hl (by decide) rfl (fun ls hl => ?_)
                    refine lv_iinc (v := (x5_3 + (1 : Int32))) (lv' := [(5, .int (x5_3 + (1 : Int32))), (4, .int x4_2), (8, .int (1 : Int32)), (7, .int (lasting (((((2 : Int32) * r_5) + (1 : Int32)) - p2)).toNatClampNeg)), (6, .int ((((2 : Int32) * r_5) + (1 : Int32)) - p2)), (0, .ref (a 0)), (1, .int p1), (2, .int p2), (3, .int (0 : Int32))]) hx hb dX11_lastingFrom_137 hl (k := 8) rfl rfl (by decide) rfl (fun ls hl => ?_)
                    have s137 := i_s1 (x := x5_3) (by omega)
                    refine lv_goto (tgt := 35) hx hb dX11_lastingFrom_140 (by decide) ?_
                    exact ih_L35_1 x4_2 (x5_3 + (1 : Int32)) (by omega) (by omega) he _ _ _ hX (lv_sub hl [5, 6, 7, 8, 1, 0] rfl)
                  · have he := he.trans (if_neg c125)
                    have d125 := i_ne c125
                    refine lv_iload hx hb dX11_lastingFrom_128 (lv_at hl 1 rfl) ?_
                    refine lv_goto (tgt := 135) hx hb dX11_lastingFrom_130 (by decide) ?_
                    refine lv_istore (lv' := [(4, .int (lasting (((((2 : Int32) * r_5) + (1 : Int32)) - p2)).toNatClampNeg)), (8, .int (1 : Int32)), (7, .int (lasting (((((2 : Int32) * r_5) + (1 : Int32)) - p2)).toNatClampNeg)), (6, .int ((((2 : Int32) * r_5) + (1 : Int32)) - p2)), (0, .ref (a 0)), (1, .int p1), (2, .int p2), (3, .int (0 : Int32)), (5, .int x5_3)]) hx hb dX11_lastingFrom_135 hl (by decide) rfl (fun ls hl => ?_)
                    refine lv_iinc (v := (x5_3 + (1 : Int32))) (lv' := [(5, .int (x5_3 + (1 : Int32))), (4, .int (lasting (((((2 : Int32) * r_5) + (1 : Int32)) - p2)).toNatClampNeg)), (8, .int (1 : Int32)), (7, .int (lasting (((((2 : Int32) * r_5) + (1 : Int32)) - p2)).toNatClampNeg)), (6, .int ((((2 : Int32) * r_5) + (1 : Int32)) - p2)), (0, .ref (a 0)), (1, .int p1), (2, .int p2), (3, .int (0 : Int32))]) hx hb dX11_lastingFrom_137 hl (k := 8) rfl rfl (by decide) rfl (fun ls hl => ?_)
                    have s137 := i_s1 (x := x5_3) (by omega)
                    refine lv_goto (tgt := 35) hx hb dX11_lastingFrom_140 (by decide) ?_
                    exact ih_L35_1 (lasting (((((2 : Int32) * r_5) + (1 : Int32)) - p2)).toNatClampNeg) (x5_3 + (1 : Int32)) (by omega) (by omega) he _ _ _ hX (lv_sub hl [5, 6, 7, 8, 1, 0] rfl)
              · have he := he.trans (if_neg c80)
                have d80 := i_ne c80
                refine lv_aload_n hx hb dX11_lastingFrom_83 rfl (lv_at hl 2 rfl) ?_
                refine va_get (D := D) (ci := 11) (v := .ref (a 7)) (C := RX11) (T := TX11) (N := 34) hx hb hts hi_X11 hown hS.1 hX.1 0 rfl rfl 16 (by decide) l_fieldLink_29 (fun _ h9 => h9) rfl dX11_lastingFrom_84 ?_
                refine lv_iload hx hb dX11_lastingFrom_87 (lv_at hl 1 rfl) ?_
                refine va_iald hx hb hS.1 hX.1 7 6 rfl rfl (o_2s1w (by omega) (by omega)) dX11_lastingFrom_89 ?_
                refine lv_iload_n hx hb dX11_lastingFrom_90 rfl (lv_at hl 4 rfl) ?_
                refine lv_icmp_ne (tgt := 105) hx hb dX11_lastingFrom_91 (by decide) (fun c91 => ?_) (fun c91 => ?_)
                · have he := he.trans (if_neg c91)
                  have d91 := i_ne c91
                  refine lv_iconst (v := (0 : Int32)) hx hb dX11_lastingFrom_105 (by decide) ?_
                  refine lv_goto (tgt := 121) hx hb dX11_lastingFrom_106 (by decide) ?_
                  refine lv_istore (lv' := [(8, .int (0 : Int32)), (7, .int (lasting (((((2 : Int32) * r_5) + (1 : Int32)) - p2)).toNatClampNeg)), (6, .int ((((2 : Int32) * r_5) + (1 : Int32)) - p2)), (0, .ref (a 0)), (1, .int p1), (2, .int p2), (3, .int (0 : Int32)), (4, .int x4_2), (5, .int x5_3)]) hx hb dX11_lastingFrom_121 hl (by decide) rfl (fun ls hl => ?_)
                  refine lv_iload hx hb dX11_lastingFrom_123 (lv_at hl 0 rfl) ?_
                  refine lv_if_eq (tgt := 133) hx hb dX11_lastingFrom_125 (by decide) (fun c125 => ?_) (fun c125 => ?_)
                  · have he := he.trans (if_pos c125)
                    have d125 := i_eq c125
                    refine lv_iload hx hb dX11_lastingFrom_133 (lv_at hl 7 rfl) ?_
                    refine lv_istore (lv' := [(4, .int x4_2), (8, .int (0 : Int32)), (7, .int (lasting (((((2 : Int32) * r_5) + (1 : Int32)) - p2)).toNatClampNeg)), (6, .int ((((2 : Int32) * r_5) + (1 : Int32)) - p2)), (0, .ref (a 0)), (1, .int p1), (2, .int p2), (3, .int (0 : Int32)), (5, .int x5_3)]) hx hb dX11_lastingFrom_135 hl (by decide) rfl (fun ls hl => ?_)
                    refine lv_iinc (v := (x5_3 + (1 : Int32))) (lv' := [(5, .int (x5_3 + (1 : Int32))), (4, .int x4_2), (8, .int (0 : Int32)), (7, .int (lasting (((((2 : Int32) * r_5) + (1 : Int32)) - p2)).toNatClampNeg)), (6, .int ((((2 : Int32) * r_5) + (1 : Int32)) - p2)), (0, .ref (a 0)), (1, .int p1), (2, .int p2), (3, .int (0 : Int32))]) hx hb dX11_lastingFrom_137 hl (k := 8) rfl rfl (by decide) rfl (fun ls hl => ?_)
                    have s137 := i_s1 (x := x5_3) (by omega)
                    refine lv_goto (tgt := 35) hx hb dX11_lastingFrom_140 (by decide) ?_
                    exact ih_L35_1 x4_2 (x5_3 + (1 : Int32)) (by omega) (by omega) he _ _ _ hX (lv_sub hl [5, 6, 7, 8, 1, 0] rfl)
                  · have he := he.trans (if_neg c125)
                    have d125 := i_ne c125
                    refine lv_iload hx hb dX11_lastingFrom_128 (lv_at hl 1 rfl) ?_
                    refine lv_goto (tgt := 135) hx hb dX11_lastingFrom_130 (by decide) ?_
                    refine lv_istore (lv' := [(4, .int (lasting (((((2 : Int32) * r_5) + (1 : Int32)) - p2)).toNatClampNeg)), (8, .int (0 : Int32)), (7, .int (lasting (((((2 : Int32) * r_5) + (1 : Int32)) - p2)).toNatClampNeg)), (6, .int ((((2 : Int32) * r_5) + (1 : Int32)) - p2)), (0, .ref (a 0)), (1, .int p1), (2, .int p2), (3, .int (0 : Int32)), (5, .int x5_3)]) hx hb dX11_lastingFrom_135 hl (by decide) rfl (fun ls hl => ?_)
                    refine lv_iinc (v := (x5_3 + (1 : Int32))) (lv' := [(5, .int (x5_3 + (1 : Int32))), (4, .int (lasting (((((2 : Int32) * r_5) + (1 : Int32)) - p2)).toNatClampNeg)), (8, .int (0 : Int32)), (7, .int (lasting (((((2 : Int32) * r_5) + (1 : Int32)) - p2)).toNatClampNeg)), (6, .int ((((2 : Int32) * r_5) + (1 : Int32)) - p2)), (0, .ref (a 0)), (1, .int p1), (2, .int p2), (3, .int (0 : Int32))]) hx hb dX11_lastingFrom_137 hl (k := 8) rfl rfl (by decide) rfl (fun ls hl => ?_)
                    have s137 := i_s1 (x := x5_3) (by omega)
                    refine lv_goto (tgt := 35) hx hb dX11_lastingFrom_140 (by decide) ?_
                    exact ih_L35_1 (lasting (((((2 : Int32) * r_5) + (1 : Int32)) - p2)).toNatClampNeg) (x5_3 + (1 : Int32)) (by omega) (by omega) he _ _ _ hX (lv_sub hl [5, 6, 7, 8, 1, 0] rfl)
                · have he := he.trans (if_pos c91)
                  have d91 := i_eq c91
                  refine lv_iload hx hb dX11_lastingFrom_94 (lv_at hl 0 rfl) ?_
                  refine lv_iload hx hb dX11_lastingFrom_96 (lv_at hl 6 rfl) ?_
                  refine lv_icmp_ge (tgt := 105) hx hb dX11_lastingFrom_98 (by decide) (fun c98 => ?_) (fun c98 => ?_)
                  · have he := he.trans (if_pos c98)
                    have d98 := i_le c98
                    refine lv_iconst (v := (0 : Int32)) hx hb dX11_lastingFrom_105 (by decide) ?_
                    refine lv_goto (tgt := 121) hx hb dX11_lastingFrom_106 (by decide) ?_
                    refine lv_istore (lv' := [(8, .int (0 : Int32)), (7, .int (lasting (((((2 : Int32) * r_5) + (1 : Int32)) - p2)).toNatClampNeg)), (6, .int ((((2 : Int32) * r_5) + (1 : Int32)) - p2)), (0, .ref (a 0)), (1, .int p1), (2, .int p2), (3, .int (0 : Int32)), (4, .int x4_2), (5, .int x5_3)]) hx hb dX11_lastingFrom_121 hl (by decide) rfl (fun ls hl => ?_)
                    refine lv_iload hx hb dX11_lastingFrom_123 (lv_at hl 0 rfl) ?_
                    refine lv_if_eq (tgt := 133) hx hb dX11_lastingFrom_125 (by decide) (fun c125 => ?_) (fun c125 => ?_)
                    · have he := he.trans (if_pos c125)
                      have d125 := i_eq c125
                      refine lv_iload hx hb dX11_lastingFrom_133 (lv_at hl 7 rfl) ?_
                      refine lv_istore (lv' := [(4, .int x4_2), (8, .int (0 : Int32)), (7, .int (lasting (((((2 : Int32) * r_5) + (1 : Int32)) - p2)).toNatClampNeg)), (6, .int ((((2 : Int32) * r_5) + (1 : Int32)) - p2)), (0, .ref (a 0)), (1, .int p1), (2, .int p2), (3, .int (0 : Int32)), (5, .int x5_3)]) hx hb dX11_lastingFrom_135 hl (by decide) rfl (fun ls hl => ?_)
                      refine lv_iinc (v := (x5_3 + (1 : Int32))) (lv' := [(5, .int (x5_3 + (1 : Int32))), (4, .int x4_2), (8, .int (0 : Int32)), (7, .int (lasting (((((2 : Int32) * r_5) + (1 : Int32)) - p2)).toNatClampNeg)), (6, .int ((((2 : Int32) * r_5) + (1 : Int32)) - p2)), (0, .ref (a 0)), (1, .int p1), (2, .int p2), (3, .int (0 : Int32))]) hx hb dX11_lastingFrom_137 hl (k := 8) rfl rfl (by decide) rfl (fun ls hl => ?_)
                      have s137 := i_s1 (x := x5_3) (by omega)
                      refine lv_goto (tgt := 35) hx hb dX11_lastingFrom_140 (by decide) ?_
                      exact ih_L35_1 x4_2 (x5_3 + (1 : Int32)) (by omega) (by omega) he _ _ _ hX (lv_sub hl [5, 6, 7, 8, 1, 0] rfl)
                    · have he := he.trans (if_neg c125)
                      have d125 := i_ne c125
                      refine lv_iload hx hb dX11_lastingFrom_128 (lv_at hl 1 rfl) ?_
                      refine lv_goto (tgt := 135) hx hb dX11_lastingFrom_130 (by decide) ?_
                      refine lv_istore (lv' := [(4, .int (lasting (((((2 : Int32) * r_5) + (1 : Int32)) - p2)).toNatClampNeg)), (8, .int (0 : Int32)), (7, .int (lasting (((((2 : Int32) * r_5) + (1 : Int32)) - p2)).toNatClampNeg)), (6, .int ((((2 : Int32) * r_5) + (1 : Int32)) - p2)), (0, .ref (a 0)), (1, .int p1), (2, .int p2), (3, .int (0 : Int32)), (5, .int x5_3)]) hx hb dX11_lastingFrom_135 hl (by decide) rfl (fun ls hl => ?_)
                      refine lv_iinc (v := (x5_3 + (1 : Int32))) (lv' := [(5, .int (x5_3 + (1 : Int32))), (4, .int (lasting (((((2 : Int32) * r_5) + (1 : Int32)) - p2)).toNatClampNeg)), (8, .int (0 : Int32)), (7, .int (lasting (((((2 : Int32) * r_5) + (1 : Int32)) - p2)).toNatClampNeg)), (6, .int ((((2 : Int32) * r_5) + (1 : Int32)) - p2)), (0, .ref (a 0)), (1, .int p1), (2, .int p2), (3, .int (0 : Int32))]) hx hb dX11_lastingFrom_137 hl (k := 8) rfl rfl (by decide) rfl (fun ls hl => ?_)
                      have s137 := i_s1 (x := x5_3) (by omega)
                      refine lv_goto (tgt := 35) hx hb dX11_lastingFrom_140 (by decide) ?_
                      exact ih_L35_1 (lasting (((((2 : Int32) * r_5) + (1 : Int32)) - p2)).toNatClampNeg) (x5_3 + (1 : Int32)) (by omega) (by omega) he _ _ _ hX (lv_sub hl [5, 6, 7, 8, 1, 0] rfl)
                  · have he := he.trans (if_neg c98)
                    have d98 := i_nle c98
                    refine lv_iconst (v := (1 : Int32)) hx hb dX11_lastingFrom_101 (by decide) ?_
                    refine lv_goto (tgt := 121) hx hb dX11_lastingFrom_102 (by decide) ?_
                    refine lv_istore (lv' := [(8, .int (1 : Int32)), (7, .int (lasting (((((2 : Int32) * r_5) + (1 : Int32)) - p2)).toNatClampNeg)), (6, .int ((((2 : Int32) * r_5) + (1 : Int32)) - p2)), (0, .ref (a 0)), (1, .int p1), (2, .int p2), (3, .int (0 : Int32)), (4, .int x4_2), (5, .int x5_3)]) hx hb dX11_lastingFrom_121 hl (by decide) rfl (fun ls hl => ?_)
                    refine lv_iload hx hb dX11_lastingFrom_123 (lv_at hl 0 rfl) ?_
                    refine lv_if_eq (tgt := 133) hx hb dX11_lastingFrom_125 (by decide) (fun c125 => ?_) (fun c125 => ?_)
                    · have he := he.trans (if_pos c125)
                      have d125 := i_eq c125
                      refine lv_iload hx hb dX11_lastingFrom_133 (lv_at hl 7 rfl) ?_
                      refine lv_istore (lv' := [(4, .int x4_2), (8, .int (1 : Int32)), (7, .int (lasting (((((2 : Int32) * r_5) + (1 : Int32)) - p2)).toNatClampNeg)), (6, .int ((((2 : Int32) * r_5) + (1 : Int32)) - p2)), (0, .ref (a 0)), (1, .int p1), (2, .int p2), (3, .int (0 : Int32)), (5, .int x5_3)]) hx hb dX11_lastingFrom_135 hl (by decide) rfl (fun ls hl => ?_)
                      refine lv_iinc (v := (x5_3 + (1 : Int32))) (lv' := [(5, .int (x5_3 + (1 : Int32))), (4, .int x4_2), (8, .int (1 : Int32)), (7, .int (lasting (((((2 : Int32) * r_5) + (1 : Int32)) - p2)).toNatClampNeg)), (6, .int ((((2 : Int32) * r_5) + (1 : Int32)) - p2)), (0, .ref (a 0)), (1, .int p1), (2, .int p2), (3, .int (0 : Int32))]) hx hb dX11_lastingFrom_137 hl (k := 8) rfl rfl (by decide) rfl (fun ls hl => ?_)
                      have s137 := i_s1 (x := x5_3) (by omega)
                      refine lv_goto (tgt := 35) hx hb dX11_lastingFrom_140 (by decide) ?_
                      exact ih_L35_1 x4_2 (x5_3 + (1 : Int32)) (by omega) (by omega) he _ _ _ hX (lv_sub hl [5, 6, 7, 8, 1, 0] rfl)
                    · have he := he.trans (if_neg c125)
                      have d125 := i_ne c125
                      refine lv_iload hx hb dX11_lastingFrom_128 (lv_at hl 1 rfl) ?_
                      refine lv_goto (tgt := 135) hx hb dX11_lastingFrom_130 (by decide) ?_
                      refine lv_istore (lv' := [(4, .int (lasting (((((2 : Int32) * r_5) + (1 : Int32)) - p2)).toNatClampNeg)), (8, .int (1 : Int32)), (7, .int (lasting (((((2 : Int32) * r_5) + (1 : Int32)) - p2)).toNatClampNeg)), (6, .int ((((2 : Int32) * r_5) + (1 : Int32)) - p2)), (0, .ref (a 0)), (1, .int p1), (2, .int p2), (3, .int (0 : Int32)), (5, .int x5_3)]) hx hb dX11_lastingFrom_135 hl (by decide) rfl (fun ls hl => ?_)
                      refine lv_iinc (v := (x5_3 + (1 : Int32))) (lv' := [(5, .int (x5_3 + (1 : Int32))), (4, .int (lasting (((((2 : Int32) * r_5) + (1 : Int32)) - p2)).toNatClampNeg)), (8, .int (1 : Int32)), (7, .int (lasting (((((2 : Int32) * r_5) + (1 : Int32)) - p2)).toNatClampNeg)), (6, .int ((((2 : Int32) * r_5) + (1 : Int32)) - p2)), (0, .ref (a 0)), (1, .int p1), (2, .int p2), (3, .int (0 : Int32))]) hx hb dX11_lastingFrom_137 hl (k := 8) rfl rfl (by decide) rfl (fun ls hl => ?_)
                      have s137 := i_s1 (x := x5_3) (by omega)
                      refine lv_goto (tgt := 35) hx hb dX11_lastingFrom_140 (by decide) ?_
                      exact ih_L35_1 (lasting (((((2 : Int32) * r_5) + (1 : Int32)) - p2)).toNatClampNeg) (x5_3 + (1 : Int32)) (by omega) (by omega) he _ _ _ hX (lv_sub hl [5, 6, 7, 8, 1, 0] rfl)
      exact L35_1 9 (-1 : Int32) (0 : Int32) (by omega) (by omega) he _ _ _ hX (lv_sub hl [3, 4, 5, 2, 1, 0] rfl)
    · have he := he.trans (if_neg c21)
      have d21 := i_ne c21
      refine lv_ldc (v := (1048576 : Int32)) hx hb hown l_constant_134 dX11_lastingFrom_24 ?_
      refine lv_goto (tgt := 30) hx hb dX11_lastingFrom_26 (by decide) ?_
      refine lv_istore (lv' := [(4, .int (1048576 : Int32)), (3, .int (0 : Int32)), (0, .ref (a 0)), (1, .int p1), (2, .int p2)]) hx hb dX11_lastingFrom_30 hl (by decide) rfl (fun ls hl => ?_)
      refine lv_iconst (v := (0 : Int32)) hx hb dX11_lastingFrom_32 (by decide) ?_
      refine lv_istore (lv' := [(5, .int (0 : Int32)), (4, .int (1048576 : Int32)), (3, .int (0 : Int32)), (0, .ref (a 0)), (1, .int p1), (2, .int p2)]) hx hb dX11_lastingFrom_33 hl (by decide) rfl (fun ls hl => ?_)
      have L35_6 : ∀ (n_35_6 : Nat) (x4_7 : Int32) (x5_8 : Int32), 0 ≤ (x5_8).toInt ∧ (x5_8).toInt ≤ 8 → 8 - (x5_8).toInt < (n_35_6 : Int) → q = f_X11_lastingFrom_L35 n_35_6 branches kindOf onOf winner lasting p1 p2 (0 : Int32) x4_7 x5_8 → ∀ (H : Heap) (locs : List Loc) (ls : Array Slot), gX D Z s (wM a cA hedges branches stand turn cuts asks seen pageLength isWhole newBranches gameCuts isKept keptHedge keptStand keptTurn keptCuts keptSeen seedNow hsh kindOf onOf seenBranch seenBegins seenWins page winner lasting worthBy wonBy keptKind keptBranch keptBegins keptWins partsBy) H locs → lv_has ls 9 [(0, .ref (a 0)), (1, .int p1), (2, .int p2), (3, .int (0 : Int32)), (4, .int x4_7), (5, .int x5_8)] → W p l e rm_X11_lastingFrom s m args below meth c H locs 0 0 Qz (F0 m 35 ls []) := by
        intro n_35_6
        induction n_35_6 with
        | zero =>
          intro x4_7 x5_8 ia ifu _ _ _ _ _ _
          exfalso; omega
        | succ n_35_6 ih_L35_6 =>
          intro x4_7 x5_8 ia ifu he H locs ls hX hl
          have he := he.trans f_X11_lastingFrom_L35_s
          refine lv_iload hx hb dX11_lastingFrom_35 (lv_at hl 5 rfl) ?_
          refine lv_aload_n hx hb dX11_lastingFrom_37 rfl (lv_at hl 0 rfl) ?_
          refine va_get (D := D) (ci := 11) (v := .int branches) (C := RX11) (T := TX11) (N := 34) hx hb hts hi_X11 hown hS.1 hX.1 0 rfl rfl 1 (by decide) l_fieldLink_83 (fun _ h9 => h9) rfl dX11_lastingFrom_38 ?_
          refine lv_icmp_ge (tgt := 143) hx hb dX11_lastingFrom_41 (by decide) (fun c41 => ?_) (fun c41 => ?_)
          · have he := he.trans (if_pos c41)
            have d41 := i_le c41
            refine lv_iload hx hb dX11_lastingFrom_143 (lv_at hl 4 rfl) ?_
            refine lv_iconst (v := (1 : Int32)) hx hb dX11_lastingFrom_145 (by decide) ?_
            refine lv_iadd hx hb dX11_lastingFrom_146 ?_
            subst he
            exact g_iret hx hb hr hlocks hX hq rfl dX11_lastingFrom_147
          · have he := he.trans (if_neg c41)
            have d41 := i_nle c41
            refine lv_aload_n hx hb dX11_lastingFrom_44 rfl (lv_at hl 0 rfl) ?_
            refine lv_iload_n hx hb dX11_lastingFrom_45 rfl (lv_at hl 2 rfl) ?_
            refine lv_iload hx hb dX11_lastingFrom_46 (lv_at hl 5 rfl) ?_
            refine lv_iload_n hx hb dX11_lastingFrom_48 rfl (lv_at hl 1 rfl) ?_
            obtain ⟨r_9, e49⟩ : ∃ z, z = (f_X11_mayCut branches kindOf onOf p2 x5_8 p1) := ⟨_, rfl⟩
            rw [← e49] at he
            refine g_Vi (r := r_9) (As := [.int p2, .int x5_8, .int p1]) (rest := []) (ci := 11) (q0 := 0) ⟨hx, hb, hml, hown, hts⟩ hS hX (k_X11_mayCut p2 x5_8 p1 (by omega) (by omega) r_9 e49) (cwV 3 hts gX11_lastingFrom_X11_mayCut rfl rfl rfl (by decide +kernel) ⟨Nat.le_of_ble_eq_true rfl, Nat.le_of_ble_eq_true rfl⟩) rfl rfl rfl hl.1 rfl (Nat.le_of_ble_eq_true rfl) dX11_lastingFrom_49 ⟨Nat.zero_le _, Nat.zero_le _⟩ (fun H locs hX => ?_)
            refine lv_if_eq (tgt := 137) hx hb dX11_lastingFrom_52 (by decide) (fun c52 => ?_) (fun c52 => ?_)
            · have he := he.trans (if_pos c52)
              have d52 := i_eq c52
              refine lv_iinc (v := (x5_8 + (1 : Int32))) (lv' := [(5, .int (x5_8 + (1 : Int32))), (0, .ref (a 0)), (1, .int p1), (2, .int p2), (3, .int (0 : Int32)), (4, .int x4_7)]) hx hb dX11_lastingFrom_137 hl (k := 5) rfl rfl (by decide) rfl (fun ls hl => ?_)
              have s137 := i_s1 (x := x5_8) (by omega)
              refine lv_goto (tgt := 35) hx hb dX11_lastingFrom_140 (by decide) ?_
              exact ih_L35_6 x4_7 (x5_8 + (1 : Int32)) (by omega) (by omega) he _ _ _ hX (lv_sub hl [1, 2, 3, 4, 5, 0] rfl)
            · have he := he.trans (if_neg c52)
              have d52 := i_ne c52
              refine lv_iconst (v := (2 : Int32)) hx hb dX11_lastingFrom_55 (by decide) ?_
              refine lv_aload_n hx hb dX11_lastingFrom_56 rfl (lv_at hl 0 rfl) ?_
              refine lv_iload hx hb dX11_lastingFrom_57 (lv_at hl 5 rfl) ?_
              refine lv_iload_n hx hb dX11_lastingFrom_59 rfl (lv_at hl 1 rfl) ?_
              obtain ⟨r_10, e60⟩ : ∃ z, z = (f_X11_leaves branches onOf x5_8 p1) := ⟨_, rfl⟩
              rw [← e60] at he
              refine g_Vi (r := r_10) (As := [.int x5_8, .int p1]) (rest := [.int (2 : Int32)]) (ci := 11) (q0 := 0) ⟨hx, hb, hml, hown, hts⟩ hS hX (k_X11_leaves x5_8 p1 (by omega) (by omega) r_10 e60) (cwV 2 hts gX11_lastingFrom_X11_leaves rfl rfl rfl (by decide +kernel) ⟨Nat.le_of_ble_eq_true rfl, Nat.le_of_ble_eq_true rfl⟩) rfl rfl rfl hl.1 rfl (Nat.le_of_ble_eq_true rfl) dX11_lastingFrom_60 ⟨Nat.zero_le _, Nat.zero_le _⟩ (fun H locs hX => ?_)
              have k60_0 : 0 ≤ (p1).toInt → (0 ≤ (r_10).toInt ∧ (r_10).toInt ≤ (p1).toInt) := by rw [e60]; exact r_leaves
              refine lv_imul hx hb dX11_lastingFrom_63 ?_
              refine lv_iconst (v := (1 : Int32)) hx hb dX11_lastingFrom_64 (by decide) ?_
              refine lv_iadd hx hb dX11_lastingFrom_65 ?_
              refine lv_iload_n hx hb dX11_lastingFrom_66 rfl (lv_at hl 2 rfl) ?_
              refine lv_isub hx hb dX11_lastingFrom_67 ?_
              refine lv_istore (lv' := [(6, .int ((((2 : Int32) * r_10) + (1 : Int32)) - p2)), (0, .ref (a 0)), (1, .int p1), (2, .int p2), (3, .int (0 : Int32)), (4, .int x4_7), (5, .int x5_8)]) hx hb dX11_lastingFrom_68 hl (by decide) rfl (fun ls hl => ?_)
              refine lv_aload_n hx hb dX11_lastingFrom_70 rfl (lv_at hl 1 rfl) ?_
              refine va_get (D := D) (ci := 11) (v := .ref (a 8)) (C := RX11) (T := TX11) (N := 34) hx hb hts hi_X11 hown hS.1 hX.1 0 rfl rfl 17 (by decide) l_fieldLink_32 (fun _ h9 => h9) rfl dX11_lastingFrom_71 ?_
              refine lv_iload hx hb dX11_lastingFrom_74 (lv_at hl 0 rfl) ?_
              refine va_iald hx hb hS.1 hX.1 8 7 rfl rfl (o_2s1w (by omega) (by omega)) dX11_lastingFrom_76 ?_
              refine lv_istore (lv' := [(7, .int (lasting (((((2 : Int32) * r_10) + (1 : Int32)) - p2)).toNatClampNeg)), (6, .int ((((2 : Int32) * r_10) + (1 : Int32)) - p2)), (0, .ref (a 0)), (1, .int p1), (2, .int p2), (3, .int (0 : Int32)), (4, .int x4_7), (5, .int x5_8)]) hx hb dX11_lastingFrom_77 hl (by decide) rfl (fun ls hl => ?_)
              refine lv_iload_n hx hb dX11_lastingFrom_79 rfl (lv_at hl 5 rfl) ?_
              refine lv_if_eq (tgt := 109) hx hb dX11_lastingFrom_80 (by decide) (fun c80 => ?_) (fun c80 => ?_)
              · have he := he.trans (if_pos c80)
                have d80 := i_eq c80
                refine lv_iload hx hb dX11_lastingFrom_109 (lv_at hl 0 rfl) ?_
                refine lv_iload hx hb dX11_lastingFrom_111 (lv_at hl 6 rfl) ?_
                refine lv_icmp_le (tgt := 120) hx hb dX11_lastingFrom_113 (by decide) (fun c113 => ?_) (fun c113 => ?_)
                · have he := he.trans (if_pos c113)
                  have d113 := i_le c113
                  refine lv_iconst (v := (0 : Int32)) hx hb dX11_lastingFrom_120 (by decide) ?_
                  refine lv_istore (lv' := [(8, .int (0 : Int32)), (7, .int (lasting (((((2 : Int32) * r_10) + (1 : Int32)) - p2)).toNatClampNeg)), (6, .int ((((2 : Int32) * r_10) + (1 : Int32)) - p2)), (0, .ref (a 0)), (1, .int p1), (2, .int p2), (3, .int (0 : Int32)), (4, .int x4_7), (5, .int x5_8)]) hx hb dX11_lastingFrom_121 hl (by decide) rfl (fun ls hl => ?_)
                  refine lv_iload hx hb dX11_lastingFrom_123 (lv_at hl 0 rfl) ?_
                  refine lv_if_eq (tgt := 133) hx hb dX11_lastingFrom_125 (by decide) (fun c125 => ?_) (fun c125 => ?_)
                  · have he := he.trans (if_pos c125)
                    have d125 := i_eq c125
                    refine lv_iload hx hb dX11_lastingFrom_133 (lv_at hl 7 rfl) ?_
                    refine lv_istore (lv' := [(4, .int x4_7), (8, .int (0 : Int32)), (7, .int (lasting (((((2 : Int32) * r_10) + (1 : Int32)) - p2)).toNatClampNeg)), (6, .int ((((2 : Int32) * r_10) + (1 : Int32)) - p2)), (0, .ref (a 0)), (1, .int p1), (2, .int p2), (3, .int (0 : Int32)), (5, .int x5_8)]) hx hb dX11_lastingFrom_135 hl (by decide) rfl (fun ls hl => ?_)
                    refine lv_iinc (v := (x5_8 + (1 : Int32))) (lv' := [(5, .int (x5_8 + (1 : Int32))), (4, .int x4_7), (8, .int (0 : Int32)), (7, .int (lasting (((((2 : Int32) * r_10) + (1 : Int32)) - p2)).toNatClampNeg)), (6, .int ((((2 : Int32) * r_10) + (1 : Int32)) - p2)), (0, .ref (a 0)), (1, .int p1), (2, .int p2), (3, .int (0 : Int32))]) hx hb dX11_lastingFrom_137 hl (k := 8) rfl rfl (by decide) rfl (fun ls hl => ?_)
                    have s137 := i_s1 (x := x5_8) (by omega)
                    refine lv_goto (tgt := 35) hx hb dX11_lastingFrom_140 (by decide) ?_
                    exact ih_L35_6 x4_7 (x5_8 + (1 : Int32)) (by omega) (by omega) he _ _ _ hX (lv_sub hl [5, 6, 7, 8, 1, 0] rfl)
                  · have he := he.trans (if_neg c125)
                    have d125 := i_ne c125
                    refine lv_iload hx hb dX11_lastingFrom_128 (lv_at hl 1 rfl) ?_
                    refine lv_goto (tgt := 135) hx hb dX11_lastingFrom_130 (by decide) ?_
                    refine lv_istore (lv' := [(4, .int (lasting (((((2 : Int32) * r_10) + (1 : Int32)) - p2)).toNatClampNeg)), (8, .int (0 : Int32)), (7, .int (lasting (((((2 : Int32) * r_10) + (1 : Int32)) - p2)).toNatClampNeg)), (6, .int ((((2 : Int32) * r_10) + (1 : Int32)) - p2)), (0, .ref (a 0)), (1, .int p1), (2, .int p2), (3, .int (0 : Int32)), (5, .int x5_8)]) hx hb dX11_lastingFrom_135 hl (by decide) rfl (fun ls hl => ?_)
                    refine lv_iinc (v := (x5_8 + (1 : Int32))) (lv' := [(5, .int (x5_8 + (1 : Int32))), (4, .int (lasting (((((2 : Int32) * r_10) + (1 : Int32)) - p2)).toNatClampNeg)), (8, .int (0 : Int32)), (7, .int (lasting (((((2 : Int32) * r_10) + (1 : Int32)) - p2)).toNatClampNeg)), (6, .int ((((2 : Int32) * r_10) + (1 : Int32)) - p2)), (0, .ref (a 0)), (1, .int p1), (2, .int p2), (3, .int (0 : Int32))]) hx hb dX11_lastingFrom_137 hl (k := 8) rfl rfl (by decide) rfl (fun ls hl => ?_)
                    have s137 := i_s1 (x := x5_8) (by omega)
                    refine lv_goto (tgt := 35) hx hb dX11_lastingFrom_140 (by decide) ?_
                    exact ih_L35_6 (lasting (((((2 : Int32) * r_10) + (1 : Int32)) - p2)).toNatClampNeg) (x5_8 + (1 : Int32)) (by omega) (by omega) he _ _ _ hX (lv_sub hl [5, 6, 7, 8, 1, 0] rfl)
                · have he := he.trans (if_neg c113)
                  have d113 := i_nle c113
                  refine lv_iconst (v := (1 : Int32)) hx hb dX11_lastingFrom_116 (by decide) ?_
                  refine lv_goto (tgt := 121) hx hb dX11_lastingFrom_117 (by decide) ?_
                  refine lv_istore (lv' := [(8, .int (1 : Int32)), (7, .int (lasting (((((2 : Int32) * r_10) + (1 : Int32)) - p2)).toNatClampNeg)), (6, .int ((((2 : Int32) * r_10) + (1 : Int32)) - p2)), (0, .ref (a 0)), (1, .int p1), (2, .int p2), (3, .int (0 : Int32)), (4, .int x4_7), (5, .int x5_8)]) hx hb dX11_lastingFrom_121 hl (by decide) rfl (fun ls hl => ?_)
                  refine lv_iload hx hb dX11_lastingFrom_123 (lv_at hl 0 rfl) ?_
                  refine lv_if_eq (tgt := 133) hx hb dX11_lastingFrom_125 (by decide) (fun c125 => ?_) (fun c125 => ?_)
                  · have he := he.trans (if_pos c125)
                    have d125 := i_eq c125
                    refine lv_iload hx hb dX11_lastingFrom_133 (lv_at hl 7 rfl) ?_
                    refine lv_istore (lv' := [(4, .int x4_7), (8, .int (1 : Int32)), (7, .int (lasting (((((2 : Int32) * r_10) + (1 : Int32)) - p2)).toNatClampNeg)), (6, .int ((((2 : Int32) * r_10) + (1 : Int32)) - p2)), (0, .ref (a 0)), (1, .int p1), (2, .int p2), (3, .int (0 : Int32)), (5, .int x5_8)]) hx hb dX11_lastingFrom_135 hl (by decide) rfl (fun ls hl => ?_)
                    refine lv_iinc (v := (x5_8 + (1 : Int32))) (lv' := [(5, .int (x5_8 + (1 : Int32))), (4, .int x4_7), (8, .int (1 : Int32)), (7, .int (lasting (((((2 : Int32) * r_10) + (1 : Int32)) - p2)).toNatClampNeg)), (6, .int ((((2 : Int32) * r_10) + (1 : Int32)) - p2)), (0, .ref (a 0)), (1, .int p1), (2, .int p2), (3, .int (0 : Int32))]) hx hb dX11_lastingFrom_137 hl (k := 8) rfl rfl (by decide) rfl (fun ls hl => ?_)
                    have s137 := i_s1 (x := x5_8) (by omega)
                    refine lv_goto (tgt := 35) hx hb dX11_lastingFrom_140 (by decide) ?_
                    exact ih_L35_6 x4_7 (x5_8 + (1 : Int32)) (by omega) (by omega) he _ _ _ hX (lv_sub hl [5, 6, 7, 8, 1, 0] rfl)
                  · have he := he.trans (if_neg c125)
                    have d125 := i_ne c125
                    refine lv_iload hx hb dX11_lastingFrom_128 (lv_at hl 1 rfl) ?_
                    refine lv_goto (tgt := 135) hx hb dX11_lastingFrom_130 (by decide) ?_
                    refine lv_istore (lv' := [(4, .int (lasting (((((2 : Int32) * r_10) + (1 : Int32)) - p2)).toNatClampNeg)), (8, .int (1 : Int32)), (7, .int (lasting (((((2 : Int32) * r_10) + (1 : Int32)) - p2)).toNatClampNeg)), (6, .int ((((2 : Int32) * r_10) + (1 : Int32)) - p2)), (0, .ref (a 0)), (1, .int p1), (2, .int p2), (3, .int (0 : Int32)), (5, .int x5_8)]) hx hb dX11_lastingFrom_135 hl (by decide) rfl (fun ls hl => ?_)
                    refine lv_iinc (v := (x5_8 + (1 : Int32))) (lv' := [(5, .int (x5_8 + (1 : Int32))), (4, .int (lasting (((((2 : Int32) * r_10) + (1 : Int32)) - p2)).toNatClampNeg)), (8, .int (1 : Int32)), (7, .int (lasting (((((2 : Int32) * r_10) + (1 : Int32)) - p2)).toNatClampNeg)), (6, .int ((((2 : Int32) * r_10) + (1 : Int32)) - p2)), (0, .ref (a 0)), (1, .int p1), (2, .int p2), (3, .int (0 : Int32))]) hx hb dX11_lastingFrom_137 hl (k := 8) rfl rfl (by decide) rfl (fun ls hl => ?_)
                    have s137 := i_s1 (x := x5_8) (by omega)
                    refine lv_goto (tgt := 35) hx hb dX11_lastingFrom_140 (by decide) ?_
                    exact ih_L35_6 (lasting (((((2 : Int32) * r_10) + (1 : Int32)) - p2)).toNatClampNeg) (x5_8 + (1 : Int32)) (by omega) (by omega) he _ _ _ hX (lv_sub hl [5, 6, 7, 8, 1, 0] rfl)
              · have he := he.trans (if_neg c80)
                have d80 := i_ne c80
                refine lv_aload_n hx hb dX11_lastingFrom_83 rfl (lv_at hl 2 rfl) ?_
                refine va_get (D := D) (ci := 11) (v := .ref (a 7)) (C := RX11) (T := TX11) (N := 34) hx hb hts hi_X11 hown hS.1 hX.1 0 rfl rfl 16 (by decide) l_fieldLink_29 (fun _ h9 => h9) rfl dX11_lastingFrom_84 ?_
                refine lv_iload hx hb dX11_lastingFrom_87 (lv_at hl 1 rfl) ?_
                refine va_iald hx hb hS.1 hX.1 7 6 rfl rfl (o_2s1w (by omega) (by omega)) dX11_lastingFrom_89 ?_
                refine lv_iload_n hx hb dX11_lastingFrom_90 rfl (lv_at hl 4 rfl) ?_
                refine lv_icmp_ne (tgt := 105) hx hb dX11_lastingFrom_91 (by decide) (fun c91 => ?_) (fun c91 => ?_)
                · have he := he.trans (if_neg c91)
                  have d91 := i_ne c91
                  refine lv_iconst (v := (0 : Int32)) hx hb dX11_lastingFrom_105 (by decide) ?_
                  refine lv_goto (tgt := 121) hx hb dX11_lastingFrom_106 (by decide) ?_
                  refine lv_istore (lv' := [(8, .int (0 : Int32)), (7, .int (lasting (((((2 : Int32) * r_10) + (1 : Int32)) - p2)).toNatClampNeg)), (6, .int ((((2 : Int32) * r_10) + (1 : Int32)) - p2)), (0, .ref (a 0)), (1, .int p1), (2, .int p2), (3, .int (0 : Int32)), (4, .int x4_7), (5, .int x5_8)]) hx hb dX11_lastingFrom_121 hl (by decide) rfl (fun ls hl => ?_)
                  refine lv_iload hx hb dX11_lastingFrom_123 (lv_at hl 0 rfl) ?_
                  refine lv_if_eq (tgt := 133) hx hb dX11_lastingFrom_125 (by decide) (fun c125 => ?_) (fun c125 => ?_)
                  · have he := he.trans (if_pos c125)
                    have d125 := i_eq c125
                    refine lv_iload hx hb dX11_lastingFrom_133 (lv_at hl 7 rfl) ?_
                    refine lv_istore (lv' := [(4, .int x4_7), (8, .int (0 : Int32)), (7, .int (lasting (((((2 : Int32) * r_10) + (1 : Int32)) - p2)).toNatClampNeg)), (6, .int ((((2 : Int32) * r_10) + (1 : Int32)) - p2)), (0, .ref (a 0)), (1, .int p1), (2, .int p2), (3, .int (0 : Int32)), (5, .int x5_8)]) hx hb dX11_lastingFrom_135 hl (by decide) rfl (fun ls hl => ?_)
                    refine lv_iinc (v := (x5_8 + (1 : Int32))) (lv' := [(5, .int (x5_8 + (1 : Int32))), (4, .int x4_7), (8, .int (0 : Int32)), (7, .int (lasting (((((2 : Int32) * r_10) + (1 : Int32)) - p2)).toNatClampNeg)), (6, .int ((((2 : Int32) * r_10) + (1 : Int32)) - p2)), (0, .ref (a 0)), (1, .int p1), (2, .int p2), (3, .int (0 : Int32))]) hx hb dX11_lastingFrom_137 hl (k := 8) rfl rfl (by decide) rfl (fun ls hl => ?_)
                    have s137 := i_s1 (x := x5_8) (by omega)
                    refine lv_goto (tgt := 35) hx hb dX11_lastingFrom_140 (by decide) ?_
                    exact ih_L35_6 x4_7 (x5_8 + (1 : Int32)) (by omega) (by omega) he _ _ _ hX (lv_sub hl [5, 6, 7, 8, 1, 0] rfl)
                  · have he := he.trans (if_neg c125)
                    have d125 := i_ne c125
                    refine lv_iload hx hb dX11_lastingFrom_128 (lv_at hl 1 rfl) ?_
                    refine lv_goto (tgt := 135) hx hb dX11_lastingFrom_130 (by decide) ?_
                    refine lv_istore (lv' := [(4, .int (lasting (((((2 : Int32) * r_10) + (1 : Int32)) - p2)).toNatClampNeg)), (8, .int (0 : Int32)), (7, .int (lasting (((((2 : Int32) * r_10) + (1 : Int32)) - p2)).toNatClampNeg)), (6, .int ((((2 : Int32) * r_10) + (1 : Int32)) - p2)), (0, .ref (a 0)), (1, .int p1), (2, .int p2), (3, .int (0 : Int32)), (5, .int x5_8)]) hx hb dX11_lastingFrom_135 hl (by decide) rfl (fun ls hl => ?_)
                    refine lv_iinc (v := (x5_8 + (1 : Int32))) (lv' := [(5, .int (x5_8 + (1 : Int32))), (4, .int (lasting (((((2 : Int32) * r_10) + (1 : Int32)) - p2)).toNatClampNeg)), (8, .int (0 : Int32)), (7, .int (lasting (((((2 : Int32) * r_10) + (1 : Int32)) - p2)).toNatClampNeg)), (6, .int ((((2 : Int32) * r_10) + (1 : Int32)) - p2)), (0, .ref (a 0)), (1, .int p1), (2, .int p2), (3, .int (0 : Int32))]) hx hb dX11_lastingFrom_137 hl (k := 8) rfl rfl (by decide) rfl (fun ls hl => ?_)
                    have s137 := i_s1 (x := x5_8) (by omega)
                    refine lv_goto (tgt := 35) hx hb dX11_lastingFrom_140 (by decide) ?_
                    exact ih_L35_6 (lasting (((((2 : Int32) * r_10) + (1 : Int32)) - p2)).toNatClampNeg) (x5_8 + (1 : Int32)) (by omega) (by omega) he _ _ _ hX (lv_sub hl [5, 6, 7, 8, 1, 0] rfl)
                · have he := he.trans (if_pos c91)
                  have d91 := i_eq c91
                  refine lv_iload hx hb dX11_lastingFrom_94 (lv_at hl 0 rfl) ?_
                  refine lv_iload hx hb dX11_lastingFrom_96 (lv_at hl 6 rfl) ?_
                  refine lv_icmp_ge (tgt := 105) hx hb dX11_lastingFrom_98 (by decide) (fun c98 => ?_) (fun c98 => ?_)
                  · have he := he.trans (if_pos c98)
                    have d98 := i_le c98
                    refine lv_iconst (v := (0 : Int32)) hx hb dX11_lastingFrom_105 (by decide) ?_
                    refine lv_goto (tgt := 121) hx hb dX11_lastingFrom_106 (by decide) ?_
                    refine lv_istore (lv' := [(8, .int (0 : Int32)), (7, .int (lasting (((((2 : Int32) * r_10) + (1 : Int32)) - p2)).toNatClampNeg)), (6, .int ((((2 : Int32) * r_10) + (1 : Int32)) - p2)), (0, .ref (a 0)), (1, .int p1), (2, .int p2), (3, .int (0 : Int32)), (4, .int x4_7), (5, .int x5_8)]) hx hb dX11_lastingFrom_121 hl (by decide) rfl (fun ls hl => ?_)
                    refine lv_iload hx hb dX11_lastingFrom_123 (lv_at hl 0 rfl) ?_
                    refine lv_if_eq (tgt := 133) hx hb dX11_lastingFrom_125 (by decide) (fun c125 => ?_) (fun c125 => ?_)
                    · have he := he.trans (if_pos c125)
                      have d125 := i_eq c125
                      refine lv_iload hx hb dX11_lastingFrom_133 (lv_at hl 7 rfl) ?_
                      refine lv_istore (lv' := [(4, .int x4_7), (8, .int (0 : Int32)), (7, .int (lasting (((((2 : Int32) * r_10) + (1 : Int32)) - p2)).toNatClampNeg)), (6, .int ((((2 : Int32) * r_10) + (1 : Int32)) - p2)), (0, .ref (a 0)), (1, .int p1), (2, .int p2), (3, .int (0 : Int32)), (5, .int x5_8)]) hx hb dX11_lastingFrom_135 hl (by decide) rfl (fun ls hl => ?_)
                      refine lv_iinc (v := (x5_8 + (1 : Int32))) (lv' := [(5, .int (x5_8 + (1 : Int32))), (4, .int x4_7), (8, .int (0 : Int32)), (7, .int (lasting (((((2 : Int32) * r_10) + (1 : Int32)) - p2)).toNatClampNeg)), (6, .int ((((2 : Int32) * r_10) + (1 : Int32)) - p2)), (0, .ref (a 0)), (1, .int p1), (2, .int p2), (3, .int (0 : Int32))]) hx hb dX11_lastingFrom_137 hl (k := 8) rfl rfl (by decide) rfl (fun ls hl => ?_)
                      have s137 := i_s1 (x := x5_8) (by omega)
                      refine lv_goto (tgt := 35) hx hb dX11_lastingFrom_140 (by decide) ?_
                      exact ih_L35_6 x4_7 (x5_8 + (1 : Int32)) (by omega) (by omega) he _ _ _ hX (lv_sub hl [5, 6, 7, 8, 1, 0] rfl)
                    · have he := he.trans (if_neg c125)
                      have d125 := i_ne c125
                      refine lv_iload hx hb dX11_lastingFrom_128 (lv_at hl 1 rfl) ?_
                      refine lv_goto (tgt := 135) hx hb dX11_lastingFrom_130 (by decide) ?_
                      refine lv_istore (lv' := [(4, .int (lasting (((((2 : Int32) * r_10) + (1 : Int32)) - p2)).toNatClampNeg)), (8, .int (0 : Int32)), (7, .int (lasting (((((2 : Int32) * r_10) + (1 : Int32)) - p2)).toNatClampNeg)), (6, .int ((((2 : Int32) * r_10) + (1 : Int32)) - p2)), (0, .ref (a 0)), (1, .int p1), (2, .int p2), (3, .int (0 : Int32)), (5, .int x5_8)]) hx hb dX11_lastingFrom_135 hl (by decide) rfl (fun ls hl => ?_)
                      refine lv_iinc (v := (x5_8 + (1 : Int32))) (lv' := [(5, .int (x5_8 + (1 : Int32))), (4, .int (lasting (((((2 : Int32) * r_10) + (1 : Int32)) - p2)).toNatClampNeg)), (8, .int (0 : Int32)), (7, .int (lasting (((((2 : Int32) * r_10) + (1 : Int32)) - p2)).toNatClampNeg)), (6, .int ((((2 : Int32) * r_10) + (1 : Int32)) - p2)), (0, .ref (a 0)), (1, .int p1), (2, .int p2), (3, .int (0 : Int32))]) hx hb dX11_lastingFrom_137 hl (k := 8) rfl rfl (by decide) rfl (fun ls hl => ?_)
                      have s137 := i_s1 (x := x5_8) (by omega)
                      refine lv_goto (tgt := 35) hx hb dX11_lastingFrom_140 (by decide) ?_
                      exact ih_L35_6 (lasting (((((2 : Int32) * r_10) + (1 : Int32)) - p2)).toNatClampNeg) (x5_8 + (1 : Int32)) (by omega) (by omega) he _ _ _ hX (lv_sub hl [5, 6, 7, 8, 1, 0] rfl)
                  · have he := he.trans (if_neg c98)
                    have d98 := i_nle c98
                    refine lv_iconst (v := (1 : Int32)) hx hb dX11_lastingFrom_101 (by decide) ?_
                    refine lv_goto (tgt := 121) hx hb dX11_lastingFrom_102 (by decide) ?_
                    refine lv_istore (lv' := [(8, .int (1 : Int32)), (7, .int (lasting (((((2 : Int32) * r_10) + (1 : Int32)) - p2)).toNatClampNeg)), (6, .int ((((2 : Int32) * r_10) + (1 : Int32)) - p2)), (0, .ref (a 0)), (1, .int p1), (2, .int p2), (3, .int (0 : Int32)), (4, .int x4_7), (5, .int x5_8)]) hx hb dX11_lastingFrom_121 hl (by decide) rfl (fun ls hl => ?_)
                    refine lv_iload hx hb dX11_lastingFrom_123 (lv_at hl 0 rfl) ?_
                    refine lv_if_eq (tgt := 133) hx hb dX11_lastingFrom_125 (by decide) (fun c125 => ?_) (fun c125 => ?_)
                    · have he := he.trans (if_pos c125)
                      have d125 := i_eq c125
                      refine lv_iload hx hb dX11_lastingFrom_133 (lv_at hl 7 rfl) ?_
                      refine lv_istore (lv' := [(4, .int x4_7), (8, .int (1 : Int32)), (7, .int (lasting (((((2 : Int32) * r_10) + (1 : Int32)) - p2)).toNatClampNeg)), (6, .int ((((2 : Int32) * r_10) + (1 : Int32)) - p2)), (0, .ref (a 0)), (1, .int p1), (2, .int p2), (3, .int (0 : Int32)), (5, .int x5_8)]) hx hb dX11_lastingFrom_135 hl (by decide) rfl (fun ls hl => ?_)
                      refine lv_iinc (v := (x5_8 + (1 : Int32))) (lv' := [(5, .int (x5_8 + (1 : Int32))), (4, .int x4_7), (8, .int (1 : Int32)), (7, .int (lasting (((((2 : Int32) * r_10) + (1 : Int32)) - p2)).toNatClampNeg)), (6, .int ((((2 : Int32) * r_10) + (1 : Int32)) - p2)), (0, .ref (a 0)), (1, .int p1), (2, .int p2), (3, .int (0 : Int32))]) hx hb dX11_lastingFrom_137 hl (k := 8) rfl rfl (by decide) rfl (fun ls hl => ?_)
                      have s137 := i_s1 (x := x5_8) (by omega)
                      refine lv_goto (tgt := 35) hx hb dX11_lastingFrom_140 (by decide) ?_
                      exact ih_L35_6 x4_7 (x5_8 + (1 : Int32)) (by omega) (by omega) he _ _ _ hX (lv_sub hl [5, 6, 7, 8, 1, 0] rfl)
                    · have he := he.trans (if_neg c125)
                      have d125 := i_ne c125
                      refine lv_iload hx hb dX11_lastingFrom_128 (lv_at hl 1 rfl) ?_
                      refine lv_goto (tgt := 135) hx hb dX11_lastingFrom_130 (by decide) ?_
                      refine lv_istore (lv' := [(4, .int (lasting (((((2 : Int32) * r_10) + (1 : Int32)) - p2)).toNatClampNeg)), (8, .int (1 : Int32)), (7, .int (lasting (((((2 : Int32) * r_10) + (1 : Int32)) - p2)).toNatClampNeg)), (6, .int ((((2 : Int32) * r_10) + (1 : Int32)) - p2)), (0, .ref (a 0)), (1, .int p1), (2, .int p2), (3, .int (0 : Int32)), (5, .int x5_8)]) hx hb dX11_lastingFrom_135 hl (by decide) rfl (fun ls hl => ?_)
                      refine lv_iinc (v := (x5_8 + (1 : Int32))) (lv' := [(5, .int (x5_8 + (1 : Int32))), (4, .int (lasting (((((2 : Int32) * r_10) + (1 : Int32)) - p2)).toNatClampNeg)), (8, .int (1 : Int32)), (7, .int (lasting (((((2 : Int32) * r_10) + (1 : Int32)) - p2)).toNatClampNeg)), (6, .int ((((2 : Int32) * r_10) + (1 : Int32)) - p2)), (0, .ref (a 0)), (1, .int p1), (2, .int p2), (3, .int (0 : Int32))]) hx hb dX11_lastingFrom_137 hl (k := 8) rfl rfl (by decide) rfl (fun ls hl => ?_)
                      have s137 := i_s1 (x := x5_8) (by omega)
                      refine lv_goto (tgt := 35) hx hb dX11_lastingFrom_140 (by decide) ?_
                      exact ih_L35_6 (lasting (((((2 : Int32) * r_10) + (1 : Int32)) - p2)).toNatClampNeg) (x5_8 + (1 : Int32)) (by omega) (by omega) he _ _ _ hX (lv_sub hl [5, 6, 7, 8, 1, 0] rfl)
      exact L35_6 9 (1048576 : Int32) (0 : Int32) (by omega) (by omega) he _ _ _ hX (lv_sub hl [3, 4, 5, 2, 1, 0] rfl)
  · have he := he.trans (if_pos c11)
    have d11 := i_eq c11
    refine lv_iconst (v := (1 : Int32)) hx hb dX11_lastingFrom_14 (by decide) ?_
    refine lv_goto (tgt := 19) hx hb dX11_lastingFrom_15 (by decide) ?_
    refine lv_istore_n (lv' := [(3, .int (1 : Int32)), (0, .ref (a 0)), (1, .int p1), (2, .int p2)]) hx hb dX11_lastingFrom_19 rfl hl (by decide) rfl (fun ls hl => ?_)
    refine lv_iload_n hx hb dX11_lastingFrom_20 rfl (lv_at hl 0 rfl) ?_
    refine lv_if_eq (tgt := 29) hx hb dX11_lastingFrom_21 (by decide) (fun c21 => ?_) (fun c21 => ?_)
    · have he := he.trans (if_pos c21)
      have d21 := i_eq c21
      refine lv_iconst (v := (-1 : Int32)) hx hb dX11_lastingFrom_29 (by decide) ?_
      refine lv_istore (lv' := [(4, .int (-1 : Int32)), (3, .int (1 : Int32)), (0, .ref (a 0)), (1, .int p1), (2, .int p2)]) hx hb dX11_lastingFrom_30 hl (by decide) rfl (fun ls hl => ?_)
      refine lv_iconst (v := (0 : Int32)) hx hb dX11_lastingFrom_32 (by decide) ?_
      refine lv_istore (lv' := [(5, .int (0 : Int32)), (4, .int (-1 : Int32)), (3, .int (1 : Int32)), (0, .ref (a 0)), (1, .int p1), (2, .int p2)]) hx hb dX11_lastingFrom_33 hl (by decide) rfl (fun ls hl => ?_)
      have L35_11 : ∀ (n_35_11 : Nat) (x4_12 : Int32) (x5_13 : Int32), 0 ≤ (x5_13).toInt ∧ (x5_13).toInt ≤ 8 → 8 - (x5_13).toInt < (n_35_11 : Int) → q = f_X11_lastingFrom_L35 n_35_11 branches kindOf onOf winner lasting p1 p2 (1 : Int32) x4_12 x5_13 → ∀ (H : Heap) (locs : List Loc) (ls : Array Slot), gX D Z s (wM a cA hedges branches stand turn cuts asks seen pageLength isWhole newBranches gameCuts isKept keptHedge keptStand keptTurn keptCuts keptSeen seedNow hsh kindOf onOf seenBranch seenBegins seenWins page winner lasting worthBy wonBy keptKind keptBranch keptBegins keptWins partsBy) H locs → lv_has ls 9 [(0, .ref (a 0)), (1, .int p1), (2, .int p2), (3, .int (1 : Int32)), (4, .int x4_12), (5, .int x5_13)] → W p l e rm_X11_lastingFrom s m args below meth c H locs 0 0 Qz (F0 m 35 ls []) := by
        intro n_35_11
        induction n_35_11 with
        | zero =>
          intro x4_12 x5_13 ia ifu _ _ _ _ _ _
          exfalso; omega
        | succ n_35_11 ih_L35_11 =>
          intro x4_12 x5_13 ia ifu he H locs ls hX hl
          have he := he.trans f_X11_lastingFrom_L35_s
          refine lv_iload hx hb dX11_lastingFrom_35 (lv_at hl 5 rfl) ?_
          refine lv_aload_n hx hb dX11_lastingFrom_37 rfl (lv_at hl 0 rfl) ?_
          refine va_get (D := D) (ci := 11) (v := .int branches) (C := RX11) (T := TX11) (N := 34) hx hb hts hi_X11 hown hS.1 hX.1 0 rfl rfl 1 (by decide) l_fieldLink_83 (fun _ h9 => h9) rfl dX11_lastingFrom_38 ?_
          refine lv_icmp_ge (tgt := 143) hx hb dX11_lastingFrom_41 (by decide) (fun c41 => ?_) (fun c41 => ?_)
          · have he := he.trans (if_pos c41)
            have d41 := i_le c41
            refine lv_iload hx hb dX11_lastingFrom_143 (lv_at hl 4 rfl) ?_
            refine lv_iconst (v := (1 : Int32)) hx hb dX11_lastingFrom_145 (by decide) ?_
            refine lv_iadd hx hb dX11_lastingFrom_146 ?_
            subst he
            exact g_iret hx hb hr hlocks hX hq rfl dX11_lastingFrom_147
          · have he := he.trans (if_neg c41)
            have d41 := i_nle c41
            refine lv_aload_n hx hb dX11_lastingFrom_44 rfl (lv_at hl 0 rfl) ?_
            refine lv_iload_n hx hb dX11_lastingFrom_45 rfl (lv_at hl 2 rfl) ?_
            refine lv_iload hx hb dX11_lastingFrom_46 (lv_at hl 5 rfl) ?_
            refine lv_iload_n hx hb dX11_lastingFrom_48 rfl (lv_at hl 1 rfl) ?_
            obtain ⟨r_14, e49⟩ : ∃ z, z = (f_X11_mayCut branches kindOf onOf p2 x5_13 p1) := ⟨_, rfl⟩
            rw [← e49] at he
            refine g_Vi (r := r_14) (As := [.int p2, .int x5_13, .int p1]) (rest := []) (ci := 11) (q0 := 0) ⟨hx, hb, hml, hown, hts⟩ hS hX (k_X11_mayCut p2 x5_13 p1 (by omega) (by omega) r_14 e49) (cwV 3 hts gX11_lastingFrom_X11_mayCut rfl rfl rfl (by decide +kernel) ⟨Nat.le_of_ble_eq_true rfl, Nat.le_of_ble_eq_true rfl⟩) rfl rfl rfl hl.1 rfl (Nat.le_of_ble_eq_true rfl) dX11_lastingFrom_49 ⟨Nat.zero_le _, Nat.zero_le _⟩ (fun H locs hX => ?_)
            refine lv_if_eq (tgt := 137) hx hb dX11_lastingFrom_52 (by decide) (fun c52 => ?_) (fun c52 => ?_)
            · have he := he.trans (if_pos c52)
              have d52 := i_eq c52
              refine lv_iinc (v := (x5_13 + (1 : Int32))) (lv' := [(5, .int (x5_13 + (1 : Int32))), (0, .ref (a 0)), (1, .int p1), (2, .int p2), (3, .int (1 : Int32)), (4, .int x4_12)]) hx hb dX11_lastingFrom_137 hl (k := 5) rfl rfl (by decide) rfl (fun ls hl => ?_)
              have s137 := i_s1 (x := x5_13) (by omega)
              refine lv_goto (tgt := 35) hx hb dX11_lastingFrom_140 (by decide) ?_
              exact ih_L35_11 x4_12 (x5_13 + (1 : Int32)) (by omega) (by omega) he _ _ _ hX (lv_sub hl [1, 2, 3, 4, 5, 0] rfl)
            · have he := he.trans (if_neg c52)
              have d52 := i_ne c52
              refine lv_iconst (v := (2 : Int32)) hx hb dX11_lastingFrom_55 (by decide) ?_
              refine lv_aload_n hx hb dX11_lastingFrom_56 rfl (lv_at hl 0 rfl) ?_
              refine lv_iload hx hb dX11_lastingFrom_57 (lv_at hl 5 rfl) ?_
              refine lv_iload_n hx hb dX11_lastingFrom_59 rfl (lv_at hl 1 rfl) ?_
              obtain ⟨r_15, e60⟩ : ∃ z, z = (f_X11_leaves branches onOf x5_13 p1) := ⟨_, rfl⟩
              rw [← e60] at he
              refine g_Vi (r := r_15) (As := [.int x5_13, .int p1]) (rest := [.int (2 : Int32)]) (ci := 11) (q0 := 0) ⟨hx, hb, hml, hown, hts⟩ hS hX (k_X11_leaves x5_13 p1 (by omega) (by omega) r_15 e60) (cwV 2 hts gX11_lastingFrom_X11_leaves rfl rfl rfl (by decide +kernel) ⟨Nat.le_of_ble_eq_true rfl, Nat.le_of_ble_eq_true rfl⟩) rfl rfl rfl hl.1 rfl (Nat.le_of_ble_eq_true rfl) dX11_lastingFrom_60 ⟨Nat.zero_le _, Nat.zero_le _⟩ (fun H locs hX => ?_)
              have k60_0 : 0 ≤ (p1).toInt → (0 ≤ (r_15).toInt ∧ (r_15).toInt ≤ (p1).toInt) := by rw [e60]; exact r_leaves
              refine lv_imul hx hb dX11_lastingFrom_63 ?_
              refine lv_iconst (v := (1 : Int32)) hx hb dX11_lastingFrom_64 (by decide) ?_
              refine lv_iadd hx hb dX11_lastingFrom_65 ?_
              refine lv_iload_n hx hb dX11_lastingFrom_66 rfl (lv_at hl 2 rfl) ?_
              refine lv_isub hx hb dX11_lastingFrom_67 ?_
              refine lv_istore (lv' := [(6, .int ((((2 : Int32) * r_15) + (1 : Int32)) - p2)), (0, .ref (a 0)), (1, .int p1), (2, .int p2), (3, .int (1 : Int32)), (4, .int x4_12), (5, .int x5_13)]) hx hb dX11_lastingFrom_68 hl (by decide) rfl (fun ls hl => ?_)
              refine lv_aload_n hx hb dX11_lastingFrom_70 rfl (lv_at hl 1 rfl) ?_
              refine va_get (D := D) (ci := 11) (v := .ref (a 8)) (C := RX11) (T := TX11) (N := 34) hx hb hts hi_X11 hown hS.1 hX.1 0 rfl rfl 17 (by decide) l_fieldLink_32 (fun _ h9 => h9) rfl dX11_lastingFrom_71 ?_
              refine lv_iload hx hb dX11_lastingFrom_74 (lv_at hl 0 rfl) ?_
              refine va_iald hx hb hS.1 hX.1 8 7 rfl rfl (o_2s1w (by omega) (by omega)) dX11_lastingFrom_76 ?_
              refine lv_istore (lv' := [(7, .int (lasting (((((2 : Int32) * r_15) + (1 : Int32)) - p2)).toNatClampNeg)), (6, .int ((((2 : Int32) * r_15) + (1 : Int32)) - p2)), (0, .ref (a 0)), (1, .int p1), (2, .int p2), (3, .int (1 : Int32)), (4, .int x4_12), (5, .int x5_13)]) hx hb dX11_lastingFrom_77 hl (by decide) rfl (fun ls hl => ?_)
              refine lv_iload_n hx hb dX11_lastingFrom_79 rfl (lv_at hl 5 rfl) ?_
              refine lv_if_eq (tgt := 109) hx hb dX11_lastingFrom_80 (by decide) (fun c80 => ?_) (fun c80 => ?_)
              · have he := he.trans (if_pos c80)
                have d80 := i_eq c80
                refine lv_iload hx hb dX11_lastingFrom_109 (lv_at hl 0 rfl) ?_
                refine lv_iload hx hb dX11_lastingFrom_111 (lv_at hl 6 rfl) ?_
                refine lv_icmp_le (tgt := 120) hx hb dX11_lastingFrom_113 (by decide) (fun c113 => ?_) (fun c113 => ?_)
                · have he := he.trans (if_pos c113)
                  have d113 := i_le c113
                  refine lv_iconst (v := (0 : Int32)) hx hb dX11_lastingFrom_120 (by decide) ?_
                  refine lv_istore (lv' := [(8, .int (0 : Int32)), (7, .int (lasting (((((2 : Int32) * r_15) + (1 : Int32)) - p2)).toNatClampNeg)), (6, .int ((((2 : Int32) * r_15) + (1 : Int32)) - p2)), (0, .ref (a 0)), (1, .int p1), (2, .int p2), (3, .int (1 : Int32)), (4, .int x4_12), (5, .int x5_13)]) hx hb dX11_lastingFrom_121 hl (by decide) rfl (fun ls hl => ?_)
                  refine lv_iload hx hb dX11_lastingFrom_123 (lv_at hl 0 rfl) ?_
                  refine lv_if_eq (tgt := 133) hx hb dX11_lastingFrom_125 (by decide) (fun c125 => ?_) (fun c125 => ?_)
                  · have he := he.trans (if_pos c125)
                    have d125 := i_eq c125
                    refine lv_iload hx hb dX11_lastingFrom_133 (lv_at hl 7 rfl) ?_
                    refine lv_istore (lv' := [(4, .int x4_12), (8, .int (0 : Int32)), (7, .int (lasting (((((2 : Int32) * r_15) + (1 : Int32)) - p2)).toNatClampNeg)), (6, .int ((((2 : Int32) * r_15) + (1 : Int32)) - p2)), (0, .ref (a 0)), (1, .int p1), (2, .int p2), (3, .int (1 : Int32)), (5, .int x5_13)]) hx hb dX11_lastingFrom_135 hl (by decide) rfl (fun ls hl => ?_)
                    refine lv_iinc (v := (x5_13 + (1 : Int32))) (lv' := [(5, .int (x5_13 + (1 : Int32))), (4, .int x4_12), (8, .int (0 : Int32)), (7, .int (lasting (((((2 : Int32) * r_15) + (1 : Int32)) - p2)).toNatClampNeg)), (6, .int ((((2 : Int32) * r_15) + (1 : Int32)) - p2)), (0, .ref (a 0)), (1, .int p1), (2, .int p2), (3, .int (1 : Int32))]) hx hb dX11_lastingFrom_137 hl (k := 8) rfl rfl (by decide) rfl (fun ls hl => ?_)
                    have s137 := i_s1 (x := x5_13) (by omega)
                    refine lv_goto (tgt := 35) hx hb dX11_lastingFrom_140 (by decide) ?_
                    exact ih_L35_11 x4_12 (x5_13 + (1 : Int32)) (by omega) (by omega) he _ _ _ hX (lv_sub hl [5, 6, 7, 8, 1, 0] rfl)
                  · have he := he.trans (if_neg c125)
                    have d125 := i_ne c125
                    refine lv_iload hx hb dX11_lastingFrom_128 (lv_at hl 1 rfl) ?_
                    refine lv_goto (tgt := 135) hx hb dX11_lastingFrom_130 (by decide) ?_
                    refine lv_istore (lv' := [(4, .int (lasting (((((2 : Int32) * r_15) + (1 : Int32)) - p2)).toNatClampNeg)), (8, .int (0 : Int32)), (7, .int (lasting (((((2 : Int32) * r_15) + (1 : Int32)) - p2)).toNatClampNeg)), (6, .int ((((2 : Int32) * r_15) + (1 : Int32)) - p2)), (0, .ref (a 0)), (1, .int p1), (2, .int p2), (3, .int (1 : Int32)), (5, .int x5_13)]) hx hb dX11_lastingFrom_135 hl (by decide) rfl (fun ls hl => ?_)
                    refine lv_iinc (v := (x5_13 + (1 : Int32))) (lv' := [(5, .int (x5_13 + (1 : Int32))), (4, .int (lasting (((((2 : Int32) * r_15) + (1 : Int32)) - p2)).toNatClampNeg)), (8, .int (0 : Int32)), (7, .int (lasting (((((2 : Int32) * r_15) + (1 : Int32)) - p2)).toNatClampNeg)), (6, .int ((((2 : Int32) * r_15) + (1 : Int32)) - p2)), (0, .ref (a 0)), (1, .int p1), (2, .int p2), (3, .int (1 : Int32))]) hx hb dX11_lastingFrom_137 hl (k := 8) rfl rfl (by decide) rfl (fun ls hl => ?_)
                    have s137 := i_s1 (x := x5_13) (by omega)
                    refine lv_goto (tgt := 35) hx hb dX11_lastingFrom_140 (by decide) ?_
                    exact ih_L35_11 (lasting (((((2 : Int32) * r_15) + (1 : Int32)) - p2)).toNatClampNeg) (x5_13 + (1 : Int32)) (by omega) (by omega) he _ _ _ hX (lv_sub hl [5, 6, 7, 8, 1, 0] rfl)
                · have he := he.trans (if_neg c113)
                  have d113 := i_nle c113
                  refine lv_iconst (v := (1 : Int32)) hx hb dX11_lastingFrom_116 (by decide) ?_
                  refine lv_goto (tgt := 121) hx hb dX11_lastingFrom_117 (by decide) ?_
                  refine lv_istore (lv' := [(8, .int (1 : Int32)), (7, .int (lasting (((((2 : Int32) * r_15) + (1 : Int32)) - p2)).toNatClampNeg)), (6, .int ((((2 : Int32) * r_15) + (1 : Int32)) - p2)), (0, .ref (a 0)), (1, .int p1), (2, .int p2), (3, .int (1 : Int32)), (4, .int x4_12), (5, .int x5_13)]) hx hb dX11_lastingFrom_121 hl (by decide) rfl (fun ls hl => ?_)
                  refine lv_iload hx hb dX11_lastingFrom_123 (lv_at hl 0 rfl) ?_
                  refine lv_if_eq (tgt := 133) hx hb dX11_lastingFrom_125 (by decide) (fun c125 => ?_) (fun c125 => ?_)
                  · have he := he.trans (if_pos c125)
                    have d125 := i_eq c125
                    refine lv_iload hx hb dX11_lastingFrom_133 (lv_at hl 7 rfl) ?_
                    refine lv_istore (lv' := [(4, .int x4_12), (8, .int (1 : Int32)), (7, .int (lasting (((((2 : Int32) * r_15) + (1 : Int32)) - p2)).toNatClampNeg)), (6, .int ((((2 : Int32) * r_15) + (1 : Int32)) - p2)), (0, .ref (a 0)), (1, .int p1), (2, .int p2), (3, .int (1 : Int32)), (5, .int x5_13)]) hx hb dX11_lastingFrom_135 hl (by decide) rfl (fun ls hl => ?_)
                    refine lv_iinc (v := (x5_13 + (1 : Int32))) (lv' := [(5, .int (x5_13 + (1 : Int32))), (4, .int x4_12), (8, .int (1 : Int32)), (7, .int (lasting (((((2 : Int32) * r_15) + (1 : Int32)) - p2)).toNatClampNeg)), (6, .int ((((2 : Int32) * r_15) + (1 : Int32)) - p2)), (0, .ref (a 0)), (1, .int p1), (2, .int p2), (3, .int (1 : Int32))]) hx hb dX11_lastingFrom_137 hl (k := 8) rfl rfl (by decide) rfl (fun ls hl => ?_)
                    have s137 := i_s1 (x := x5_13) (by omega)
                    refine lv_goto (tgt := 35) hx hb dX11_lastingFrom_140 (by decide) ?_
                    exact ih_L35_11 x4_12 (x5_13 + (1 : Int32)) (by omega) (by omega) he _ _ _ hX (lv_sub hl [5, 6, 7, 8, 1, 0] rfl)
                  · have he := he.trans (if_neg c125)
                    have d125 := i_ne c125
                    refine lv_iload hx hb dX11_lastingFrom_128 (lv_at hl 1 rfl) ?_
                    refine lv_goto (tgt := 135) hx hb dX11_lastingFrom_130 (by decide) ?_
                    refine lv_istore (lv' := [(4, .int (lasting (((((2 : Int32) * r_15) + (1 : Int32)) - p2)).toNatClampNeg)), (8, .int (1 : Int32)), (7, .int (lasting (((((2 : Int32) * r_15) + (1 : Int32)) - p2)).toNatClampNeg)), (6, .int ((((2 : Int32) * r_15) + (1 : Int32)) - p2)), (0, .ref (a 0)), (1, .int p1), (2, .int p2), (3, .int (1 : Int32)), (5, .int x5_13)]) hx hb dX11_lastingFrom_135 hl (by decide) rfl (fun ls hl => ?_)
                    refine lv_iinc (v := (x5_13 + (1 : Int32))) (lv' := [(5, .int (x5_13 + (1 : Int32))), (4, .int (lasting (((((2 : Int32) * r_15) + (1 : Int32)) - p2)).toNatClampNeg)), (8, .int (1 : Int32)), (7, .int (lasting (((((2 : Int32) * r_15) + (1 : Int32)) - p2)).toNatClampNeg)), (6, .int ((((2 : Int32) * r_15) + (1 : Int32)) - p2)), (0, .ref (a 0)), (1, .int p1), (2, .int p2), (3, .int (1 : Int32))]) hx hb dX11_lastingFrom_137 hl (k := 8) rfl rfl (by decide) rfl (fun ls hl => ?_)
                    have s137 := i_s1 (x := x5_13) (by omega)
                    refine lv_goto (tgt := 35) hx hb dX11_lastingFrom_140 (by decide) ?_
                    exact ih_L35_11 (lasting (((((2 : Int32) * r_15) + (1 : Int32)) - p2)).toNatClampNeg) (x5_13 + (1 : Int32)) (by omega) (by omega) he _ _ _ hX (lv_sub hl [5, 6, 7, 8, 1, 0] rfl)
              · have he := he.trans (if_neg c80)
                have d80 := i_ne c80
                refine lv_aload_n hx hb dX11_lastingFrom_83 rfl (lv_at hl 2 rfl) ?_
                refine va_get (D := D) (ci := 11) (v := .ref (a 7)) (C := RX11) (T := TX11) (N := 34) hx hb hts hi_X11 hown hS.1 hX.1 0 rfl rfl 16 (by decide) l_fieldLink_29 (fun _ h9 => h9) rfl dX11_lastingFrom_84 ?_
                refine lv_iload hx hb dX11_lastingFrom_87 (lv_at hl 1 rfl) ?_
                refine va_iald hx hb hS.1 hX.1 7 6 rfl rfl (o_2s1w (by omega) (by omega)) dX11_lastingFrom_89 ?_
                refine lv_iload_n hx hb dX11_lastingFrom_90 rfl (lv_at hl 4 rfl) ?_
                refine lv_icmp_ne (tgt := 105) hx hb dX11_lastingFrom_91 (by decide) (fun c91 => ?_) (fun c91 => ?_)
                · have he := he.trans (if_neg c91)
                  have d91 := i_ne c91
                  refine lv_iconst (v := (0 : Int32)) hx hb dX11_lastingFrom_105 (by decide) ?_
                  refine lv_goto (tgt := 121) hx hb dX11_lastingFrom_106 (by decide) ?_
                  refine lv_istore (lv' := [(8, .int (0 : Int32)), (7, .int (lasting (((((2 : Int32) * r_15) + (1 : Int32)) - p2)).toNatClampNeg)), (6, .int ((((2 : Int32) * r_15) + (1 : Int32)) - p2)), (0, .ref (a 0)), (1, .int p1), (2, .int p2), (3, .int (1 : Int32)), (4, .int x4_12), (5, .int x5_13)]) hx hb dX11_lastingFrom_121 hl (by decide) rfl (fun ls hl => ?_)
                  refine lv_iload hx hb dX11_lastingFrom_123 (lv_at hl 0 rfl) ?_
                  refine lv_if_eq (tgt := 133) hx hb dX11_lastingFrom_125 (by decide) (fun c125 => ?_) (fun c125 => ?_)
                  · have he := he.trans (if_pos c125)
                    have d125 := i_eq c125
                    refine lv_iload hx hb dX11_lastingFrom_133 (lv_at hl 7 rfl) ?_
                    refine lv_istore (lv' := [(4, .int x4_12), (8, .int (0 : Int32)), (7, .int (lasting (((((2 : Int32) * r_15) + (1 : Int32)) - p2)).toNatClampNeg)), (6, .int ((((2 : Int32) * r_15) + (1 : Int32)) - p2)), (0, .ref (a 0)), (1, .int p1), (2, .int p2), (3, .int (1 : Int32)), (5, .int x5_13)]) hx hb dX11_lastingFrom_135 hl (by decide) rfl (fun ls hl => ?_)
                    refine lv_iinc (v := (x5_13 + (1 : Int32))) (lv' := [(5, .int (x5_13 + (1 : Int32))), (4, .int x4_12), (8, .int (0 : Int32)), (7, .int (lasting (((((2 : Int32) * r_15) + (1 : Int32)) - p2)).toNatClampNeg)), (6, .int ((((2 : Int32) * r_15) + (1 : Int32)) - p2)), (0, .ref (a 0)), (1, .int p1), (2, .int p2), (3, .int (1 : Int32))]) hx hb dX11_lastingFrom_137 hl (k := 8) rfl rfl (by decide) rfl (fun ls hl => ?_)
                    have s137 := i_s1 (x := x5_13) (by omega)
                    refine lv_goto (tgt := 35) hx hb dX11_lastingFrom_140 (by decide) ?_
                    exact ih_L35_11 x4_12 (x5_13 + (1 : Int32)) (by omega) (by omega) he _ _ _ hX (lv_sub hl [5, 6, 7, 8, 1, 0] rfl)
                  · have he := he.trans (if_neg c125)
                    have d125 := i_ne c125
                    refine lv_iload hx hb dX11_lastingFrom_128 (lv_at hl 1 rfl) ?_
                    refine lv_goto (tgt := 135) hx hb dX11_lastingFrom_130 (by decide) ?_
                    refine lv_istore (lv' := [(4, .int (lasting (((((2 : Int32) * r_15) + (1 : Int32)) - p2)).toNatClampNeg)), (8, .int (0 : Int32)), (7, .int (lasting (((((2 : Int32) * r_15) + (1 : Int32)) - p2)).toNatClampNeg)), (6, .int ((((2 : Int32) * r_15) + (1 : Int32)) - p2)), (0, .ref (a 0)), (1, .int p1), (2, .int p2), (3, .int (1 : Int32)), (5, .int x5_13)]) hx hb dX11_lastingFrom_135 hl (by decide) rfl (fun ls hl => ?_)
                    refine lv_iinc (v := (x5_13 + (1 : Int32))) (lv' := [(5, .int (x5_13 + (1 : Int32))), (4, .int (lasting (((((2 : Int32) * r_15) + (1 : Int32)) - p2)).toNatClampNeg)), (8, .int (0 : Int32)), (7, .int (lasting (((((2 : Int32) * r_15) + (1 : Int32)) - p2)).toNatClampNeg)), (6, .int ((((2 : Int32) * r_15) + (1 : Int32)) - p2)), (0, .ref (a 0)), (1, .int p1), (2, .int p2), (3, .int (1 : Int32))]) hx hb dX11_lastingFrom_137 hl (k := 8) rfl rfl (by decide) rfl (fun ls hl => ?_)
                    have s137 := i_s1 (x := x5_13) (by omega)
                    refine lv_goto (tgt := 35) hx hb dX11_lastingFrom_140 (by decide) ?_
                    exact ih_L35_11 (lasting (((((2 : Int32) * r_15) + (1 : Int32)) - p2)).toNatClampNeg) (x5_13 + (1 : Int32)) (by omega) (by omega) he _ _ _ hX (lv_sub hl [5, 6, 7, 8, 1, 0] rfl)
                · have he := he.trans (if_pos c91)
                  have d91 := i_eq c91
                  refine lv_iload hx hb dX11_lastingFrom_94 (lv_at hl 0 rfl) ?_
                  refine lv_iload hx hb dX11_lastingFrom_96 (lv_at hl 6 rfl) ?_
                  refine lv_icmp_ge (tgt := 105) hx hb dX11_lastingFrom_98 (by decide) (fun c98 => ?_) (fun c98 => ?_)
                  · have he := he.trans (if_pos c98)
                    have d98 := i_le c98
                    refine lv_iconst (v := (0 : Int32)) hx hb dX11_lastingFrom_105 (by decide) ?_
                    refine lv_goto (tgt := 121) hx hb dX11_lastingFrom_106 (by decide) ?_
                    refine lv_istore (lv' := [(8, .int (0 : Int32)), (7, .int (lasting (((((2 : Int32) * r_15) + (1 : Int32)) - p2)).toNatClampNeg)), (6, .int ((((2 : Int32) * r_15) + (1 : Int32)) - p2)), (0, .ref (a 0)), (1, .int p1), (2, .int p2), (3, .int (1 : Int32)), (4, .int x4_12), (5, .int x5_13)]) hx hb dX11_lastingFrom_121 hl (by decide) rfl (fun ls hl => ?_)
                    refine lv_iload hx hb dX11_lastingFrom_123 (lv_at hl 0 rfl) ?_
                    refine lv_if_eq (tgt := 133) hx hb dX11_lastingFrom_125 (by decide) (fun c125 => ?_) (fun c125 => ?_)
                    · have he := he.trans (if_pos c125)
                      have d125 := i_eq c125
                      refine lv_iload hx hb dX11_lastingFrom_133 (lv_at hl 7 rfl) ?_
                      refine lv_istore (lv' := [(4, .int x4_12), (8, .int (0 : Int32)), (7, .int (lasting (((((2 : Int32) * r_15) + (1 : Int32)) - p2)).toNatClampNeg)), (6, .int ((((2 : Int32) * r_15) + (1 : Int32)) - p2)), (0, .ref (a 0)), (1, .int p1), (2, .int p2), (3, .int (1 : Int32)), (5, .int x5_13)]) hx hb dX11_lastingFrom_135 hl (by decide) rfl (fun ls hl => ?_)
                      refine lv_iinc (v := (x5_13 + (1 : Int32))) (lv' := [(5, .int (x5_13 + (1 : Int32))), (4, .int x4_12), (8, .int (0 : Int32)), (7, .int (lasting (((((2 : Int32) * r_15) + (1 : Int32)) - p2)).toNatClampNeg)), (6, .int ((((2 : Int32) * r_15) + (1 : Int32)) - p2)), (0, .ref (a 0)), (1, .int p1), (2, .int p2), (3, .int (1 : Int32))]) hx hb dX11_lastingFrom_137 hl (k := 8) rfl rfl (by decide) rfl (fun ls hl => ?_)
                      have s137 := i_s1 (x := x5_13) (by omega)
                      refine lv_goto (tgt := 35) hx hb dX11_lastingFrom_140 (by decide) ?_
                      exact ih_L35_11 x4_12 (x5_13 + (1 : Int32)) (by omega) (by omega) he _ _ _ hX (lv_sub hl [5, 6, 7, 8, 1, 0] rfl)
                    · have he := he.trans (if_neg c125)
                      have d125 := i_ne c125
                      refine lv_iload hx hb dX11_lastingFrom_128 (lv_at hl 1 rfl) ?_
                      refine lv_goto (tgt := 135) hx hb dX11_lastingFrom_130 (by decide) ?_
                      refine lv_istore (lv' := [(4, .int (lasting (((((2 : Int32) * r_15) + (1 : Int32)) - p2)).toNatClampNeg)), (8, .int (0 : Int32)), (7, .int (lasting (((((2 : Int32) * r_15) + (1 : Int32)) - p2)).toNatClampNeg)), (6, .int ((((2 : Int32) * r_15) + (1 : Int32)) - p2)), (0, .ref (a 0)), (1, .int p1), (2, .int p2), (3, .int (1 : Int32)), (5, .int x5_13)]) hx hb dX11_lastingFrom_135 hl (by decide) rfl (fun ls hl => ?_)
                      refine lv_iinc (v := (x5_13 + (1 : Int32))) (lv' := [(5, .int (x5_13 + (1 : Int32))), (4, .int (lasting (((((2 : Int32) * r_15) + (1 : Int32)) - p2)).toNatClampNeg)), (8, .int (0 : Int32)), (7, .int (lasting (((((2 : Int32) * r_15) + (1 : Int32)) - p2)).toNatClampNeg)), (6, .int ((((2 : Int32) * r_15) + (1 : Int32)) - p2)), (0, .ref (a 0)), (1, .int p1), (2, .int p2), (3, .int (1 : Int32))]) hx hb dX11_lastingFrom_137 hl (k := 8) rfl rfl (by decide) rfl (fun ls hl => ?_)
                      have s137 := i_s1 (x := x5_13) (by omega)
                      refine lv_goto (tgt := 35) hx hb dX11_lastingFrom_140 (by decide) ?_
                      exact ih_L35_11 (lasting (((((2 : Int32) * r_15) + (1 : Int32)) - p2)).toNatClampNeg) (x5_13 + (1 : Int32)) (by omega) (by omega) he _ _ _ hX (lv_sub hl [5, 6, 7, 8, 1, 0] rfl)
                  · have he := he.trans (if_neg c98)
                    have d98 := i_nle c98
                    refine lv_iconst (v := (1 : Int32)) hx hb dX11_lastingFrom_101 (by decide) ?_
                    refine lv_goto (tgt := 121) hx hb dX11_lastingFrom_102 (by decide) ?_
                    refine lv_istore (lv' := [(8, .int (1 : Int32)), (7, .int (lasting (((((2 : Int32) * r_15) + (1 : Int32)) - p2)).toNatClampNeg)), (6, .int ((((2 : Int32) * r_15) + (1 : Int32)) - p2)), (0, .ref (a 0)), (1, .int p1), (2, .int p2), (3, .int (1 : Int32)), (4, .int x4_12), (5, .int x5_13)]) hx hb dX11_lastingFrom_121 hl (by decide) rfl (fun ls hl => ?_)
                    refine lv_iload hx hb dX11_lastingFrom_123 (lv_at hl 0 rfl) ?_
                    refine lv_if_eq (tgt := 133) hx hb dX11_lastingFrom_125 (by decide) (fun c125 => ?_) (fun c125 => ?_)
                    · have he := he.trans (if_pos c125)
                      have d125 := i_eq c125
                      refine lv_iload hx hb dX11_lastingFrom_133 (lv_at hl 7 rfl) ?_
                      refine lv_istore (lv' := [(4, .int x4_12), (8, .int (1 : Int32)), (7, .int (lasting (((((2 : Int32) * r_15) + (1 : Int32)) - p2)).toNatClampNeg)), (6, .int ((((2 : Int32) * r_15) + (1 : Int32)) - p2)), (0, .ref (a 0)), (1, .int p1), (2, .int p2), (3, .int (1 : Int32)), (5, .int x5_13)]) hx hb dX11_lastingFrom_135 hl (by decide) rfl (fun ls hl => ?_)
                      refine lv_iinc (v := (x5_13 + (1 : Int32))) (lv' := [(5, .int (x5_13 + (1 : Int32))), (4, .int x4_12), (8, .int (1 : Int32)), (7, .int (lasting (((((2 : Int32) * r_15) + (1 : Int32)) - p2)).toNatClampNeg)), (6, .int ((((2 : Int32) * r_15) + (1 : Int32)) - p2)), (0, .ref (a 0)), (1, .int p1), (2, .int p2), (3, .int (1 : Int32))]) hx hb dX11_lastingFrom_137 hl (k := 8) rfl rfl (by decide) rfl (fun ls hl => ?_)
                      have s137 := i_s1 (x := x5_13) (by omega)
                      refine lv_goto (tgt := 35) hx hb dX11_lastingFrom_140 (by decide) ?_
                      exact ih_L35_11 x4_12 (x5_13 + (1 : Int32)) (by omega) (by omega) he _ _ _ hX (lv_sub hl [5, 6, 7, 8, 1, 0] rfl)
                    · have he := he.trans (if_neg c125)
                      have d125 := i_ne c125
                      refine lv_iload hx hb dX11_lastingFrom_128 (lv_at hl 1 rfl) ?_
                      refine lv_goto (tgt := 135) hx hb dX11_lastingFrom_130 (by decide) ?_
                      refine lv_istore (lv' := [(4, .int (lasting (((((2 : Int32) * r_15) + (1 : Int32)) - p2)).toNatClampNeg)), (8, .int (1 : Int32)), (7, .int (lasting (((((2 : Int32) * r_15) + (1 : Int32)) - p2)).toNatClampNeg)), (6, .int ((((2 : Int32) * r_15) + (1 : Int32)) - p2)), (0, .ref (a 0)), (1, .int p1), (2, .int p2), (3, .int (1 : Int32)), (5, .int x5_13)]) hx hb dX11_lastingFrom_135 hl (by decide) rfl (fun ls hl => ?_)
                      refine lv_iinc (v := (x5_13 + (1 : Int32))) (lv' := [(5, .int (x5_13 + (1 : Int32))), (4, .int (lasting (((((2 : Int32) * r_15) + (1 : Int32)) - p2)).toNatClampNeg)), (8, .int (1 : Int32)), (7, .int (lasting (((((2 : Int32) * r_15) + (1 : Int32)) - p2)).toNatClampNeg)), (6, .int ((((2 : Int32) * r_15) + (1 : Int32)) - p2)), (0, .ref (a 0)), (1, .int p1), (2, .int p2), (3, .int (1 : Int32))]) hx hb dX11_lastingFrom_137 hl (k := 8) rfl rfl (by decide) rfl (fun ls hl => ?_)
                      have s137 := i_s1 (x := x5_13) (by omega)
                      refine lv_goto (tgt := 35) hx hb dX11_lastingFrom_140 (by decide) ?_
                      exact ih_L35_11 (lasting (((((2 : Int32) * r_15) + (1 : Int32)) - p2)).toNatClampNeg) (x5_13 + (1 : Int32)) (by omega) (by omega) he _ _ _ hX (lv_sub hl [5, 6, 7, 8, 1, 0] rfl)
      exact L35_11 9 (-1 : Int32) (0 : Int32) (by omega) (by omega) he _ _ _ hX (lv_sub hl [3, 4, 5, 2, 1, 0] rfl)
    · have he := he.trans (if_neg c21)
      have d21 := i_ne c21
      refine lv_ldc (v := (1048576 : Int32)) hx hb hown l_constant_134 dX11_lastingFrom_24 ?_
      refine lv_goto (tgt := 30) hx hb dX11_lastingFrom_26 (by decide) ?_
      refine lv_istore (lv' := [(4, .int (1048576 : Int32)), (3, .int (1 : Int32)), (0, .ref (a 0)), (1, .int p1), (2, .int p2)]) hx hb dX11_lastingFrom_30 hl (by decide) rfl (fun ls hl => ?_)
      refine lv_iconst (v := (0 : Int32)) hx hb dX11_lastingFrom_32 (by decide) ?_
      refine lv_istore (lv' := [(5, .int (0 : Int32)), (4, .int (1048576 : Int32)), (3, .int (1 : Int32)), (0, .ref (a 0)), (1, .int p1), (2, .int p2)]) hx hb dX11_lastingFrom_33 hl (by decide) rfl (fun ls hl => ?_)
      have L35_16 : ∀ (n_35_16 : Nat) (x4_17 : Int32) (x5_18 : Int32), 0 ≤ (x5_18).toInt ∧ (x5_18).toInt ≤ 8 → 8 - (x5_18).toInt < (n_35_16 : Int) → q = f_X11_lastingFrom_L35 n_35_16 branches kindOf onOf winner lasting p1 p2 (1 : Int32) x4_17 x5_18 → ∀ (H : Heap) (locs : List Loc) (ls : Array Slot), gX D Z s (wM a cA hedges branches stand turn cuts asks seen pageLength isWhole newBranches gameCuts isKept keptHedge keptStand keptTurn keptCuts keptSeen seedNow hsh kindOf onOf seenBranch seenBegins seenWins page winner lasting worthBy wonBy keptKind keptBranch keptBegins keptWins partsBy) H locs → lv_has ls 9 [(0, .ref (a 0)), (1, .int p1), (2, .int p2), (3, .int (1 : Int32)), (4, .int x4_17), (5, .int x5_18)] → W p l e rm_X11_lastingFrom s m args below meth c H locs 0 0 Qz (F0 m 35 ls []) := by
        intro n_35_16
        induction n_35_16 with
        | zero =>
          intro x4_17 x5_18 ia ifu _ _ _ _ _ _
          exfalso; omega
        | succ n_35_16 ih_L35_16 =>
          intro x4_17 x5_18 ia ifu he H locs ls hX hl
          have he := he.trans f_X11_lastingFrom_L35_s
          refine lv_iload hx hb dX11_lastingFrom_35 (lv_at hl 5 rfl) ?_
          refine lv_aload_n hx hb dX11_lastingFrom_37 rfl (lv_at hl 0 rfl) ?_
          refine va_get (D := D) (ci := 11) (v := .int branches) (C := RX11) (T := TX11) (N := 34) hx hb hts hi_X11 hown hS.1 hX.1 0 rfl rfl 1 (by decide) l_fieldLink_83 (fun _ h9 => h9) rfl dX11_lastingFrom_38 ?_
          refine lv_icmp_ge (tgt := 143) hx hb dX11_lastingFrom_41 (by decide) (fun c41 => ?_) (fun c41 => ?_)
          · have he := he.trans (if_pos c41)
            have d41 := i_le c41
            refine lv_iload hx hb dX11_lastingFrom_143 (lv_at hl 4 rfl) ?_
            refine lv_iconst (v := (1 : Int32)) hx hb dX11_lastingFrom_145 (by decide) ?_
            refine lv_iadd hx hb dX11_lastingFrom_146 ?_
            subst he
            exact g_iret hx hb hr hlocks hX hq rfl dX11_lastingFrom_147
          · have he := he.trans (if_neg c41)
            have d41 := i_nle c41
            refine lv_aload_n hx hb dX11_lastingFrom_44 rfl (lv_at hl 0 rfl) ?_
            refine lv_iload_n hx hb dX11_lastingFrom_45 rfl (lv_at hl 2 rfl) ?_
            refine lv_iload hx hb dX11_lastingFrom_46 (lv_at hl 5 rfl) ?_
            refine lv_iload_n hx hb dX11_lastingFrom_48 rfl (lv_at hl 1 rfl) ?_
            obtain ⟨r_19, e49⟩ : ∃ z, z = (f_X11_mayCut branches kindOf onOf p2 x5_18 p1) := ⟨_, rfl⟩
            rw [← e49] at he
            refine g_Vi (r := r_19) (As := [.int p2, .int x5_18, .int p1]) (rest := []) (ci := 11) (q0 := 0) ⟨hx, hb, hml, hown, hts⟩ hS hX (k_X11_mayCut p2 x5_18 p1 (by omega) (by omega) r_19 e49) (cwV 3 hts gX11_lastingFrom_X11_mayCut rfl rfl rfl (by decide +kernel) ⟨Nat.le_of_ble_eq_true rfl, Nat.le_of_ble_eq_true rfl⟩) rfl rfl rfl hl.1 rfl (Nat.le_of_ble_eq_true rfl) dX11_lastingFrom_49 ⟨Nat.zero_le _, Nat.zero_le _⟩ (fun H locs hX => ?_)
            refine lv_if_eq (tgt := 137) hx hb dX11_lastingFrom_52 (by decide) (fun c52 => ?_) (fun c52 => ?_)
            · have he := he.trans (if_pos c52)
              have d52 := i_eq c52
              refine lv_iinc (v := (x5_18 + (1 : Int32))) (lv' := [(5, .int (x5_18 + (1 : Int32))), (0, .ref (a 0)), (1, .int p1), (2, .int p2), (3, .int (1 : Int32)), (4, .int x4_17)]) hx hb dX11_lastingFrom_137 hl (k := 5) rfl rfl (by decide) rfl (fun ls hl => ?_)
              have s137 := i_s1 (x := x5_18) (by omega)
              refine lv_goto (tgt := 35) hx hb dX11_lastingFrom_140 (by decide) ?_
              exact ih_L35_16 x4_17 (x5_18 + (1 : Int32)) (by omega) (by omega) he _ _ _ hX (lv_sub hl [1, 2, 3, 4, 5, 0] rfl)
            · have he := he.trans (if_neg c52)
              have d52 := i_ne c52
              refine lv_iconst (v := (2 : Int32)) hx hb dX11_lastingFrom_55 (by decide) ?_
              refine lv_aload_n hx hb dX11_lastingFrom_56 rfl (lv_at hl 0 rfl) ?_
              refine lv_iload hx hb dX11_lastingFrom_57 (lv_at hl 5 rfl) ?_
              refine lv_iload_n hx hb dX11_lastingFrom_59 rfl (lv_at hl 1 rfl) ?_
              obtain ⟨r_20, e60⟩ : ∃ z, z = (f_X11_leaves branches onOf x5_18 p1) := ⟨_, rfl⟩
              rw [← e60] at he
              refine g_Vi (r := r_20) (As := [.int x5_18, .int p1]) (rest := [.int (2 : Int32)]) (ci := 11) (q0 := 0) ⟨hx, hb, hml, hown, hts⟩ hS hX (k_X11_leaves x5_18 p1 (by omega) (by omega) r_20 e60) (cwV 2 hts gX11_lastingFrom_X11_leaves rfl rfl rfl (by decide +kernel) ⟨Nat.le_of_ble_eq_true rfl, Nat.le_of_ble_eq_true rfl⟩) rfl rfl rfl hl.1 rfl (Nat.le_of_ble_eq_true rfl) dX11_lastingFrom_60 ⟨Nat.zero_le _, Nat.zero_le _⟩ (fun H locs hX => ?_)
              have k60_0 : 0 ≤ (p1).toInt → (0 ≤ (r_20).toInt ∧ (r_20).toInt ≤ (p1).toInt) := by rw [e60]; exact r_leaves
              refine lv_imul hx hb dX11_lastingFrom_63 ?_
              refine lv_iconst (v := (1 : Int32)) hx hb dX11_lastingFrom_64 (by decide) ?_
              refine lv_iadd hx hb dX11_lastingFrom_65 ?_
              refine lv_iload_n hx hb dX11_lastingFrom_66 rfl (lv_at hl 2 rfl) ?_
              refine lv_isub hx hb dX11_lastingFrom_67 ?_
              refine lv_istore (lv' := [(6, .int ((((2 : Int32) * r_20) + (1 : Int32)) - p2)), (0, .ref (a 0)), (1, .int p1), (2, .int p2), (3, .int (1 : Int32)), (4, .int x4_17), (5, .int x5_18)]) hx hb dX11_lastingFrom_68 hl (by decide) rfl (fun ls hl => ?_)
              refine lv_aload_n hx hb dX11_lastingFrom_70 rfl (lv_at hl 1 rfl) ?_
              refine va_get (D := D) (ci := 11) (v := .ref (a 8)) (C := RX11) (T := TX11) (N := 34) hx hb hts hi_X11 hown hS.1 hX.1 0 rfl rfl 17 (by decide) l_fieldLink_32 (fun _ h9 => h9) rfl dX11_lastingFrom_71 ?_
              refine lv_iload hx hb dX11_lastingFrom_74 (lv_at hl 0 rfl) ?_
              refine va_iald hx hb hS.1 hX.1 8 7 rfl rfl (o_2s1w (by omega) (by omega)) dX11_lastingFrom_76 ?_
              refine lv_istore (lv' := [(7, .int (lasting (((((2 : Int32) * r_20) + (1 : Int32)) - p2)).toNatClampNeg)), (6, .int ((((2 : Int32) * r_20) + (1 : Int32)) - p2)), (0, .ref (a 0)), (1, .int p1), (2, .int p2), (3, .int (1 : Int32)), (4, .int x4_17), (5, .int x5_18)]) hx hb dX11_lastingFrom_77 hl (by decide) rfl (fun ls hl => ?_)
              refine lv_iload_n hx hb dX11_lastingFrom_79 rfl (lv_at hl 5 rfl) ?_
              refine lv_if_eq (tgt := 109) hx hb dX11_lastingFrom_80 (by decide) (fun c80 => ?_) (fun c80 => ?_)
              · have he := he.trans (if_pos c80)
                have d80 := i_eq c80
                refine lv_iload hx hb dX11_lastingFrom_109 (lv_at hl 0 rfl) ?_
                refine lv_iload hx hb dX11_lastingFrom_111 (lv_at hl 6 rfl) ?_
                refine lv_icmp_le (tgt := 120) hx hb dX11_lastingFrom_113 (by decide) (fun c113 => ?_) (fun c113 => ?_)
                · have he := he.trans (if_pos c113)
                  have d113 := i_le c113
                  refine lv_iconst (v := (0 : Int32)) hx hb dX11_lastingFrom_120 (by decide) ?_
                  refine lv_istore (lv' := [(8, .int (0 : Int32)), (7, .int (lasting (((((2 : Int32) * r_20) + (1 : Int32)) - p2)).toNatClampNeg)), (6, .int ((((2 : Int32) * r_20) + (1 : Int32)) - p2)), (0, .ref (a 0)), (1, .int p1), (2, .int p2), (3, .int (1 : Int32)), (4, .int x4_17), (5, .int x5_18)]) hx hb dX11_lastingFrom_121 hl (by decide) rfl (fun ls hl => ?_)
                  refine lv_iload hx hb dX11_lastingFrom_123 (lv_at hl 0 rfl) ?_
                  refine lv_if_eq (tgt := 133) hx hb dX11_lastingFrom_125 (by decide) (fun c125 => ?_) (fun c125 => ?_)
                  · have he := he.trans (if_pos c125)
                    have d125 := i_eq c125
                    refine lv_iload hx hb dX11_lastingFrom_133 (lv_at hl 7 rfl) ?_
                    refine lv_istore (lv' := [(4, .int x4_17), (8, .int (0 : Int32)), (7, .int (lasting (((((2 : Int32) * r_20) + (1 : Int32)) - p2)).toNatClampNeg)), (6, .int ((((2 : Int32) * r_20) + (1 : Int32)) - p2)), (0, .ref (a 0)), (1, .int p1), (2, .int p2), (3, .int (1 : Int32)), (5, .int x5_18)]) hx hb dX11_lastingFrom_135 hl (by decide) rfl (fun ls hl => ?_)
                    refine lv_iinc (v := (x5_18 + (1 : Int32))) (lv' := [(5, .int (x5_18 + (1 : Int32))), (4, .int x4_17), (8, .int (0 : Int32)), (7, .int (lasting (((((2 : Int32) * r_20) + (1 : Int32)) - p2)).toNatClampNeg)), (6, .int ((((2 : Int32) * r_20) + (1 : Int32)) - p2)), (0, .ref (a 0)), (1, .int p1), (2, .int p2), (3, .int (1 : Int32))]) hx hb dX11_lastingFrom_137 hl (k := 8) rfl rfl (by decide) rfl (fun ls hl => ?_)
                    have s137 := i_s1 (x := x5_18) (by omega)
                    refine lv_goto (tgt := 35) hx hb dX11_lastingFrom_140 (by decide) ?_
                    exact ih_L35_16 x4_17 (x5_18 + (1 : Int32)) (by omega) (by omega) he _ _ _ hX (lv_sub hl [5, 6, 7, 8, 1, 0] rfl)
                  · have he := he.trans (if_neg c125)
                    have d125 := i_ne c125
                    refine lv_iload hx hb dX11_lastingFrom_128 (lv_at hl 1 rfl) ?_
                    refine lv_goto (tgt := 135) hx hb dX11_lastingFrom_130 (by decide) ?_
                    refine lv_istore (lv' := [(4, .int (lasting (((((2 : Int32) * r_20) + (1 : Int32)) - p2)).toNatClampNeg)), (8, .int (0 : Int32)), (7, .int (lasting (((((2 : Int32) * r_20) + (1 : Int32)) - p2)).toNatClampNeg)), (6, .int ((((2 : Int32) * r_20) + (1 : Int32)) - p2)), (0, .ref (a 0)), (1, .int p1), (2, .int p2), (3, .int (1 : Int32)), (5, .int x5_18)]) hx hb dX11_lastingFrom_135 hl (by decide) rfl (fun ls hl => ?_)
                    refine lv_iinc (v := (x5_18 + (1 : Int32))) (lv' := [(5, .int (x5_18 + (1 : Int32))), (4, .int (lasting (((((2 : Int32) * r_20) + (1 : Int32)) - p2)).toNatClampNeg)), (8, .int (0 : Int32)), (7, .int (lasting (((((2 : Int32) * r_20) + (1 : Int32)) - p2)).toNatClampNeg)), (6, .int ((((2 : Int32) * r_20) + (1 : Int32)) - p2)), (0, .ref (a 0)), (1, .int p1), (2, .int p2), (3, .int (1 : Int32))]) hx hb dX11_lastingFrom_137 hl (k := 8) rfl rfl (by decide) rfl (fun ls hl => ?_)
                    have s137 := i_s1 (x := x5_18) (by omega)
                    refine lv_goto (tgt := 35) hx hb dX11_lastingFrom_140 (by decide) ?_
                    exact ih_L35_16 (lasting (((((2 : Int32) * r_20) + (1 : Int32)) - p2)).toNatClampNeg) (x5_18 + (1 : Int32)) (by omega) (by omega) he _ _ _ hX (lv_sub hl [5, 6, 7, 8, 1, 0] rfl)
                · have he := he.trans (if_neg c113)
                  have d113 := i_nle c113
                  refine lv_iconst (v := (1 : Int32)) hx hb dX11_lastingFrom_116 (by decide) ?_
                  refine lv_goto (tgt := 121) hx hb dX11_lastingFrom_117 (by decide) ?_
                  refine lv_istore (lv' := [(8, .int (1 : Int32)), (7, .int (lasting (((((2 : Int32) * r_20) + (1 : Int32)) - p2)).toNatClampNeg)), (6, .int ((((2 : Int32) * r_20) + (1 : Int32)) - p2)), (0, .ref (a 0)), (1, .int p1), (2, .int p2), (3, .int (1 : Int32)), (4, .int x4_17), (5, .int x5_18)]) hx hb dX11_lastingFrom_121 hl (by decide) rfl (fun ls hl => ?_)
                  refine lv_iload hx hb dX11_lastingFrom_123 (lv_at hl 0 rfl) ?_
                  refine lv_if_eq (tgt := 133) hx hb dX11_lastingFrom_125 (by decide) (fun c125 => ?_) (fun c125 => ?_)
                  · have he := he.trans (if_pos c125)
                    have d125 := i_eq c125
                    refine lv_iload hx hb dX11_lastingFrom_133 (lv_at hl 7 rfl) ?_
                    refine lv_istore (lv' := [(4, .int x4_17), (8, .int (1 : Int32)), (7, .int (lasting (((((2 : Int32) * r_20) + (1 : Int32)) - p2)).toNatClampNeg)), (6, .int ((((2 : Int32) * r_20) + (1 : Int32)) - p2)), (0, .ref (a 0)), (1, .int p1), (2, .int p2), (3, .int (1 : Int32)), (5, .int x5_18)]) hx hb dX11_lastingFrom_135 hl (by decide) rfl (fun ls hl => ?_)
                    refine lv_iinc (v := (x5_18 + (1 : Int32))) (lv' := [(5, .int (x5_18 + (1 : Int32))), (4, .int x4_17), (8, .int (1 : Int32)), (7, .int (lasting (((((2 : Int32) * r_20) + (1 : Int32)) - p2)).toNatClampNeg)), (6, .int ((((2 : Int32) * r_20) + (1 : Int32)) - p2)), (0, .ref (a 0)), (1, .int p1), (2, .int p2), (3, .int (1 : Int32))]) hx hb dX11_lastingFrom_137 hl (k := 8) rfl rfl (by decide) rfl (fun ls hl => ?_)
                    have s137 := i_s1 (x := x5_18) (by omega)
                    refine lv_goto (tgt := 35) hx hb dX11_lastingFrom_140 (by decide) ?_
                    exact ih_L35_16 x4_17 (x5_18 + (1 : Int32)) (by omega) (by omega) he _ _ _ hX (lv_sub hl [5, 6, 7, 8, 1, 0] rfl)
                  · have he := he.trans (if_neg c125)
                    have d125 := i_ne c125
                    refine lv_iload hx hb dX11_lastingFrom_128 (lv_at hl 1 rfl) ?_
                    refine lv_goto (tgt := 135) hx hb dX11_lastingFrom_130 (by decide) ?_
                    refine lv_istore (lv' := [(4, .int (lasting (((((2 : Int32) * r_20) + (1 : Int32)) - p2)).toNatClampNeg)), (8, .int (1 : Int32)), (7, .int (lasting (((((2 : Int32) * r_20) + (1 : Int32)) - p2)).toNatClampNeg)), (6, .int ((((2 : Int32) * r_20) + (1 : Int32)) - p2)), (0, .ref (a 0)), (1, .int p1), (2, .int p2), (3, .int (1 : Int32)), (5, .int x5_18)]) hx hb dX11_lastingFrom_135 hl (by decide) rfl (fun ls hl => ?_)
                    refine lv_iinc (v := (x5_18 + (1 : Int32))) (lv' := [(5, .int (x5_18 + (1 : Int32))), (4, .int (lasting (((((2 : Int32) * r_20) + (1 : Int32)) - p2)).toNatClampNeg)), (8, .int (1 : Int32)), (7, .int (lasting (((((2 : Int32) * r_20) + (1 : Int32)) - p2)).toNatClampNeg)), (6, .int ((((2 : Int32) * r_20) + (1 : Int32)) - p2)), (0, .ref (a 0)), (1, .int p1), (2, .int p2), (3, .int (1 : Int32))]) hx hb dX11_lastingFrom_137 hl (k := 8) rfl rfl (by decide) rfl (fun ls hl => ?_)
                    have s137 := i_s1 (x := x5_18) (by omega)
                    refine lv_goto (tgt := 35) hx hb dX11_lastingFrom_140 (by decide) ?_
                    exact ih_L35_16 (lasting (((((2 : Int32) * r_20) + (1 : Int32)) - p2)).toNatClampNeg) (x5_18 + (1 : Int32)) (by omega) (by omega) he _ _ _ hX (lv_sub hl [5, 6, 7, 8, 1, 0] rfl)
              · have he := he.trans (if_neg c80)
                have d80 := i_ne c80
                refine lv_aload_n hx hb dX11_lastingFrom_83 rfl (lv_at hl 2 rfl) ?_
                refine va_get (D := D) (ci := 11) (v := .ref (a 7)) (C := RX11) (T := TX11) (N := 34) hx hb hts hi_X11 hown hS.1 hX.1 0 rfl rfl 16 (by decide) l_fieldLink_29 (fun _ h9 => h9) rfl dX11_lastingFrom_84 ?_
                refine lv_iload hx hb dX11_lastingFrom_87 (lv_at hl 1 rfl) ?_
                refine va_iald hx hb hS.1 hX.1 7 6 rfl rfl (o_2s1w (by omega) (by omega)) dX11_lastingFrom_89 ?_
                refine lv_iload_n hx hb dX11_lastingFrom_90 rfl (lv_at hl 4 rfl) ?_
                refine lv_icmp_ne (tgt := 105) hx hb dX11_lastingFrom_91 (by decide) (fun c91 => ?_) (fun c91 => ?_)
                · have he := he.trans (if_neg c91)
                  have d91 := i_ne c91
                  refine lv_iconst (v := (0 : Int32)) hx hb dX11_lastingFrom_105 (by decide) ?_
                  refine lv_goto (tgt := 121) hx hb dX11_lastingFrom_106 (by decide) ?_
                  refine lv_istore (lv' := [(8, .int (0 : Int32)), (7, .int (lasting (((((2 : Int32) * r_20) + (1 : Int32)) - p2)).toNatClampNeg)), (6, .int ((((2 : Int32) * r_20) + (1 : Int32)) - p2)), (0, .ref (a 0)), (1, .int p1), (2, .int p2), (3, .int (1 : Int32)), (4, .int x4_17), (5, .int x5_18)]) hx hb dX11_lastingFrom_121 hl (by decide) rfl (fun ls hl => ?_)
                  refine lv_iload hx hb dX11_lastingFrom_123 (lv_at hl 0 rfl) ?_
                  refine lv_if_eq (tgt := 133) hx hb dX11_lastingFrom_125 (by decide) (fun c125 => ?_) (fun c125 => ?_)
                  · have he := he.trans (if_pos c125)
                    have d125 := i_eq c125
                    refine lv_iload hx hb dX11_lastingFrom_133 (lv_at hl 7 rfl) ?_
                    refine lv_istore (lv' := [(4, .int x4_17), (8, .int (0 : Int32)), (7, .int (lasting (((((2 : Int32) * r_20) + (1 : Int32)) - p2)).toNatClampNeg)), (6, .int ((((2 : Int32) * r_20) + (1 : Int32)) - p2)), (0, .ref (a 0)), (1, .int p1), (2, .int p2), (3, .int (1 : Int32)), (5, .int x5_18)]) hx hb dX11_lastingFrom_135 hl (by decide) rfl (fun ls hl => ?_)
                    refine lv_iinc (v := (x5_18 + (1 : Int32))) (lv' := [(5, .int (x5_18 + (1 : Int32))), (4, .int x4_17), (8, .int (0 : Int32)), (7, .int (lasting (((((2 : Int32) * r_20) + (1 : Int32)) - p2)).toNatClampNeg)), (6, .int ((((2 : Int32) * r_20) + (1 : Int32)) - p2)), (0, .ref (a 0)), (1, .int p1), (2, .int p2), (3, .int (1 : Int32))]) hx hb dX11_lastingFrom_137 hl (k := 8) rfl rfl (by decide) rfl (fun ls hl => ?_)
                    have s137 := i_s1 (x := x5_18) (by omega)
                    refine lv_goto (tgt := 35) hx hb dX11_lastingFrom_140 (by decide) ?_
                    exact ih_L35_16 x4_17 (x5_18 + (1 : Int32)) (by omega) (by omega) he _ _ _ hX (lv_sub hl [5, 6, 7, 8, 1, 0] rfl)
                  · have he := he.trans (if_neg c125)
                    have d125 := i_ne c125
                    refine lv_iload hx hb dX11_lastingFrom_128 (lv_at hl 1 rfl) ?_
                    refine lv_goto (tgt := 135) hx hb dX11_lastingFrom_130 (by decide) ?_
                    refine lv_istore (lv' := [(4, .int (lasting (((((2 : Int32) * r_20) + (1 : Int32)) - p2)).toNatClampNeg)), (8, .int (0 : Int32)), (7, .int (lasting (((((2 : Int32) * r_20) + (1 : Int32)) - p2)).toNatClampNeg)), (6, .int ((((2 : Int32) * r_20) + (1 : Int32)) - p2)), (0, .ref (a 0)), (1, .int p1), (2, .int p2), (3, .int (1 : Int32)), (5, .int x5_18)]) hx hb dX11_lastingFrom_135 hl (by decide) rfl (fun ls hl => ?_)
                    refine lv_iinc (v := (x5_18 + (1 : Int32))) (lv' := [(5, .int (x5_18 + (1 : Int32))), (4, .int (lasting (((((2 : Int32) * r_20) + (1 : Int32)) - p2)).toNatClampNeg)), (8, .int (0 : Int32)), (7, .int (lasting (((((2 : Int32) * r_20) + (1 : Int32)) - p2)).toNatClampNeg)), (6, .int ((((2 : Int32) * r_20) + (1 : Int32)) - p2)), (0, .ref (a 0)), (1, .int p1), (2, .int p2), (3, .int (1 : Int32))]) hx hb dX11_lastingFrom_137 hl (k := 8) rfl rfl (by decide) rfl (fun ls hl => ?_)
                    have s137 := i_s1 (x := x5_18) (by omega)
                    refine lv_goto (tgt := 35) hx hb dX11_lastingFrom_140 (by decide) ?_
                    exact ih_L35_16 (lasting (((((2 : Int32) * r_20) + (1 : Int32)) - p2)).toNatClampNeg) (x5_18 + (1 : Int32)) (by omega) (by omega) he _ _ _ hX (lv_sub hl [5, 6, 7, 8, 1, 0] rfl)
                · have he := he.trans (if_pos c91)
                  have d91 := i_eq c91
                  refine lv_iload hx hb dX11_lastingFrom_94 (lv_at hl 0 rfl) ?_
                  refine lv_iload hx hb dX11_lastingFrom_96 (lv_at hl 6 rfl) ?_
                  refine lv_icmp_ge (tgt := 105) hx hb dX11_lastingFrom_98 (by decide) (fun c98 => ?_) (fun c98 => ?_)
                  · have he := he.trans (if_pos c98)
                    have d98 := i_le c98
                    refine lv_iconst (v := (0 : Int32)) hx hb dX11_lastingFrom_105 (by decide) ?_
                    refine lv_goto (tgt := 121) hx hb dX11_lastingFrom_106 (by decide) ?_
                    refine lv_istore (lv' := [(8, .int (0 : Int32)), (7, .int (lasting (((((2 : Int32) * r_20) + (1 : Int32)) - p2)).toNatClampNeg)), (6, .int ((((2 : Int32) * r_20) + (1 : Int32)) - p2)), (0, .ref (a 0)), (1, .int p1), (2, .int p2), (3, .int (1 : Int32)), (4, .int x4_17), (5, .int x5_18)]) hx hb dX11_lastingFrom_121 hl (by decide) rfl (fun ls hl => ?_)
                    refine lv_iload hx hb dX11_lastingFrom_123 (lv_at hl 0 rfl) ?_
                    refine lv_if_eq (tgt := 133) hx hb dX11_lastingFrom_125 (by decide) (fun c125 => ?_) (fun c125 => ?_)
                    · have he := he.trans (if_pos c125)
                      have d125 := i_eq c125
                      refine lv_iload hx hb dX11_lastingFrom_133 (lv_at hl 7 rfl) ?_
                      refine lv_istore (lv' := [(4, .int x4_17), (8, .int (0 : Int32)), (7, .int (lasting (((((2 : Int32) * r_20) + (1 : Int32)) - p2)).toNatClampNeg)), (6, .int ((((2 : Int32) * r_20) + (1 : Int32)) - p2)), (0, .ref (a 0)), (1, .int p1), (2, .int p2), (3, .int (1 : Int32)), (5, .int x5_18)]) hx hb dX11_lastingFrom_135 hl (by decide) rfl (fun ls hl => ?_)
                      refine lv_iinc (v := (x5_18 + (1 : Int32))) (lv' := [(5, .int (x5_18 + (1 : Int32))), (4, .int x4_17), (8, .int (0 : Int32)), (7, .int (lasting (((((2 : Int32) * r_20) + (1 : Int32)) - p2)).toNatClampNeg)), (6, .int ((((2 : Int32) * r_20) + (1 : Int32)) - p2)), (0, .ref (a 0)), (1, .int p1), (2, .int p2), (3, .int (1 : Int32))]) hx hb dX11_lastingFrom_137 hl (k := 8) rfl rfl (by decide) rfl (fun ls hl => ?_)
                      have s137 := i_s1 (x := x5_18) (by omega)
                      refine lv_goto (tgt := 35) hx hb dX11_lastingFrom_140 (by decide) ?_
                      exact ih_L35_16 x4_17 (x5_18 + (1 : Int32)) (by omega) (by omega) he _ _ _ hX (lv_sub hl [5, 6, 7, 8, 1, 0] rfl)
                    · have he := he.trans (if_neg c125)
                      have d125 := i_ne c125
                      refine lv_iload hx hb dX11_lastingFrom_128 (lv_at hl 1 rfl) ?_
                      refine lv_goto (tgt := 135) hx hb dX11_lastingFrom_130 (by decide) ?_
                      refine lv_istore (lv' := [(4, .int (lasting (((((2 : Int32) * r_20) + (1 : Int32)) - p2)).toNatClampNeg)), (8, .int (0 : Int32)), (7, .int (lasting (((((2 : Int32) * r_20) + (1 : Int32)) - p2)).toNatClampNeg)), (6, .int ((((2 : Int32) * r_20) + (1 : Int32)) - p2)), (0, .ref (a 0)), (1, .int p1), (2, .int p2), (3, .int (1 : Int32)), (5, .int x5_18)]) hx hb dX11_lastingFrom_135 hl (by decide) rfl (fun ls hl => ?_)
                      refine lv_iinc (v := (x5_18 + (1 : Int32))) (lv' := [(5, .int (x5_18 + (1 : Int32))), (4, .int (lasting (((((2 : Int32) * r_20) + (1 : Int32)) - p2)).toNatClampNeg)), (8, .int (0 : Int32)), (7, .int (lasting (((((2 : Int32) * r_20) + (1 : Int32)) - p2)).toNatClampNeg)), (6, .int ((((2 : Int32) * r_20) + (1 : Int32)) - p2)), (0, .ref (a 0)), (1, .int p1), (2, .int p2), (3, .int (1 : Int32))]) hx hb dX11_lastingFrom_137 hl (k := 8) rfl rfl (by decide) rfl (fun ls hl => ?_)
                      have s137 := i_s1 (x := x5_18) (by omega)
                      refine lv_goto (tgt := 35) hx hb dX11_lastingFrom_140 (by decide) ?_
                      exact ih_L35_16 (lasting (((((2 : Int32) * r_20) + (1 : Int32)) - p2)).toNatClampNeg) (x5_18 + (1 : Int32)) (by omega) (by omega) he _ _ _ hX (lv_sub hl [5, 6, 7, 8, 1, 0] rfl)
                  · have he := he.trans (if_neg c98)
                    have d98 := i_nle c98
                    refine lv_iconst (v := (1 : Int32)) hx hb dX11_lastingFrom_101 (by decide) ?_
                    refine lv_goto (tgt := 121) hx hb dX11_lastingFrom_102 (by decide) ?_
                    refine lv_istore (lv' := [(8, .int (1 : Int32)), (7, .int (lasting (((((2 : Int32) * r_20) + (1 : Int32)) - p2)).toNatClampNeg)), (6, .int ((((2 : Int32) * r_20) + (1 : Int32)) - p2)), (0, .ref (a 0)), (1, .int p1), (2, .int p2), (3, .int (1 : Int32)), (4, .int x4_17), (5, .int x5_18)]) hx hb dX11_lastingFrom_121 hl (by decide) rfl (fun ls hl => ?_)
                    refine lv_iload hx hb dX11_lastingFrom_123 (lv_at hl 0 rfl) ?_
                    refine lv_if_eq (tgt := 133) hx hb dX11_lastingFrom_125 (by decide) (fun c125 => ?_) (fun c125 => ?_)
                    · have he := he.trans (if_pos c125)
                      have d125 := i_eq c125
                      refine lv_iload hx hb dX11_lastingFrom_133 (lv_at hl 7 rfl) ?_
                      refine lv_istore (lv' := [(4, .int x4_17), (8, .int (1 : Int32)), (7, .int (lasting (((((2 : Int32) * r_20) + (1 : Int32)) - p2)).toNatClampNeg)), (6, .int ((((2 : Int32) * r_20) + (1 : Int32)) - p2)), (0, .ref (a 0)), (1, .int p1), (2, .int p2), (3, .int (1 : Int32)), (5, .int x5_18)]) hx hb dX11_lastingFrom_135 hl (by decide) rfl (fun ls hl => ?_)
                      refine lv_iinc (v := (x5_18 + (1 : Int32))) (lv' := [(5, .int (x5_18 + (1 : Int32))), (4, .int x4_17), (8, .int (1 : Int32)), (7, .int (lasting (((((2 : Int32) * r_20) + (1 : Int32)) - p2)).toNatClampNeg)), (6, .int ((((2 : Int32) * r_20) + (1 : Int32)) - p2)), (0, .ref (a 0)), (1, .int p1), (2, .int p2), (3, .int (1 : Int32))]) hx hb dX11_lastingFrom_137 hl (k := 8) rfl rfl (by decide) rfl (fun ls hl => ?_)
                      have s137 := i_s1 (x := x5_18) (by omega)
                      refine lv_goto (tgt := 35) hx hb dX11_lastingFrom_140 (by decide) ?_
                      exact ih_L35_16 x4_17 (x5_18 + (1 : Int32)) (by omega) (by omega) he _ _ _ hX (lv_sub hl [5, 6, 7, 8, 1, 0] rfl)
                    · have he := he.trans (if_neg c125)
                      have d125 := i_ne c125
                      refine lv_iload hx hb dX11_lastingFrom_128 (lv_at hl 1 rfl) ?_
                      refine lv_goto (tgt := 135) hx hb dX11_lastingFrom_130 (by decide) ?_
                      refine lv_istore (lv' := [(4, .int (lasting (((((2 : Int32) * r_20) + (1 : Int32)) - p2)).toNatClampNeg)), (8, .int (1 : Int32)), (7, .int (lasting (((((2 : Int32) * r_20) + (1 : Int32)) - p2)).toNatClampNeg)), (6, .int ((((2 : Int32) * r_20) + (1 : Int32)) - p2)), (0, .ref (a 0)), (1, .int p1), (2, .int p2), (3, .int (1 : Int32)), (5, .int x5_18)]) hx hb dX11_lastingFrom_135 hl (by decide) rfl (fun ls hl => ?_)
                      refine lv_iinc (v := (x5_18 + (1 : Int32))) (lv' := [(5, .int (x5_18 + (1 : Int32))), (4, .int (lasting (((((2 : Int32) * r_20) + (1 : Int32)) - p2)).toNatClampNeg)), (8, .int (1 : Int32)), (7, .int (lasting (((((2 : Int32) * r_20) + (1 : Int32)) - p2)).toNatClampNeg)), (6, .int ((((2 : Int32) * r_20) + (1 : Int32)) - p2)), (0, .ref (a 0)), (1, .int p1), (2, .int p2), (3, .int (1 : Int32))]) hx hb dX11_lastingFrom_137 hl (k := 8) rfl rfl (by decide) rfl (fun ls hl => ?_)
                      have s137 := i_s1 (x := x5_18) (by omega)
                      refine lv_goto (tgt := 35) hx hb dX11_lastingFrom_140 (by decide) ?_
                      exact ih_L35_16 (lasting (((((2 : Int32) * r_20) + (1 : Int32)) - p2)).toNatClampNeg) (x5_18 + (1 : Int32)) (by omega) (by omega) he _ _ _ hX (lv_sub hl [5, 6, 7, 8, 1, 0] rfl)
      exact L35_16 9 (1048576 : Int32) (0 : Int32) (by omega) (by omega) he _ _ _ hX (lv_sub hl [3, 4, 5, 2, 1, 0] rfl)
