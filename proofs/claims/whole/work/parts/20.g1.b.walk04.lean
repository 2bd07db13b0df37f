abbrev rm_X1_bestCut : Room := { frames := 2, cells := 0, slots := 0, locals := 48 }
set_option maxHeartbeats 4000000 in
set_option maxRecDepth 100000 in
theorem k_X1_bestCut {l : Launch} {D : va_G} {E : sE} {a : Nat → Nat} {cA : Nat → ClassId} {isCharted : Int32} {isKept : Int32} {hedgesRead : Int32} {evensDone : Int32} {plen : Int32} {number : Int32} {setCount : Int32} {standing : Int32} {turn : Int32} {cuts : Int32} {ssize : Int32} {kstanding : Int32} {kturn : Int32} {kcuts : Int32} {kssize : Int32} {seed : Int32} {whiteWon : Int32} {cutsDone : Int32} {lett : Nat → Int32} {onB : Nat → Int32} {abv : Nat → Int32} {sets : Nat → Int32} {kinds : Nat → Int32} {sbranches : Nat → Int32} {sbeginners : Nat → Int32} {swon : Nat → Int32} {kkinds : Nat → Int32} {ksbranches : Nat → Int32} {ksbeginners : Nat → Int32} {kswon : Nat → Int32} {lcuts : Nat → Int32} {valu : Nat → Int32} {won : Nat → Int64} {chance : Nat → Int64} (p1 : Int32) (p2 : Int32) (hnm : 0 ≤ (number).toInt ∧ (number).toInt ≤ 8) (hwx : 0 ≤ (p1).toInt ∧ (p1).toInt ≤ 1) (hsx : 0 ≤ (p2).toInt ∧ (p2).toInt < 256) : ∀ q : Int32, q = f_X1_bestCut number abv kinds lcuts won p1 p2 → gMi l yX1_bestCut wsX1_bestCut rm_X1_bestCut D E (tG cA) [.ref (a 22), .int p1, .int p2] (wG a cA isCharted isKept hedgesRead evensDone plen number setCount standing turn cuts ssize kstanding kturn kcuts kssize seed whiteWon cutsDone lett onB abv sets kinds sbranches sbeginners swon kkinds ksbranches ksbeginners kswon lcuts valu won chance) (wG a cA isCharted isKept hedgesRead evensDone plen number setCount standing turn cuts ssize kstanding kturn kcuts kssize seed whiteWon cutsDone lett onB abv sets kinds sbranches sbeginners swon kkinds ksbranches ksbeginners kswon lcuts valu won chance) q := by
  intro q he0
  refine gM_of (cc := cX1_bestCut) (maxL := 9) (ret := (some .int)) (Qf := gQi D (wG a cA isCharted isKept hedgesRead evensDone plen number setCount standing turn cuts ssize kstanding kturn kcuts kssize seed whiteWon cutsDone lett onB abv sets kinds sbranches sbeginners swon kkinds ksbranches ksbeginners kswon lcuts valu won chance) q) (by decide) rfl (Nat.le_of_ble_eq_true rfl) ?_
  intro p e s m args below meth c Z ls Qz hx hb hr hml hlocks hown hts hS hX hl hq
  have he := he0.trans f_X1_bestCut_s
  have hown : s.vm.findClass RX1 = some m.cls := hown
  have hl : lv_has ls 9 [(0, .ref (a 22)), (1, .int p1), (2, .int p2)] := hl
  have hi_X1 : ∀ w ∈ u_ws RX1 TX1 3, w ∈ wsX1_bestCut := fun _ h => List.mem_cons_of_mem _ (List.mem_append_left _ (List.mem_append_left _ (List.mem_append_left _ (List.mem_append_left _ (List.mem_append_right _ h)))))
  have hi_X6 : ∀ w ∈ u_ws RX6 TX6 2, w ∈ wsX1_bestCut := fun _ h => List.mem_cons_of_mem _ (List.mem_append_left _ (List.mem_append_left _ (List.mem_append_left _ (List.mem_append_right _ h))))
  have hi_X8 : ∀ w ∈ u_ws RX8 TX8 5, w ∈ wsX1_bestCut := fun _ h => List.mem_cons_of_mem _ (List.mem_append_left _ (List.mem_append_left _ (List.mem_append_right _ h)))
  have l_fieldLink_15 := hts (Cond.fieldLink RX1 15 "HedgeGame$Lengths" "rules" "LHedgeGame$Rules;") (List.mem_of_getElem? (i := 2) rfl)
  have l_fieldLink_19 := hts (Cond.fieldLink RX1 19 "HedgeGame$Lengths" "outcomes" "LHedgeGame$Outcomes;") (List.mem_of_getElem? (i := 1) rfl)
  have l_fieldLink_9 := hts (Cond.fieldLink RX1 9 "HedgeGame$Lengths" "cuts" "[I") (List.mem_of_getElem? (i := 3) rfl)
  have l_w_11 := hts (Cond.static yX10_place) (List.mem_of_getElem? (i := 11) rfl)
  have l_w_12 := hts (Cond.initialized RX10) (List.mem_of_getElem? (i := 12) rfl)
  have tm1 : ((-1 : Int32)).toInt = -1 := rfl
  have t0 : ((0 : Int32)).toInt = 0 := rfl
  have t1 : ((1 : Int32)).toInt = 1 := rfl
  have g1 := i_sub (x := (1 : Int32)) (y := p1) (by omega) (by omega)
  refine lv_aload_n hx hb dX1_bestCut_0 rfl (lv_at hl 0 rfl) ?_
  refine va_get (D := D) (ci := 1) (v := .ref (a 20)) (C := RX1) (T := TX1) (N := 3) hx hb hts hi_X1 hown hS.1 hX.1 22 rfl rfl 1 (by decide) l_fieldLink_19 (fun _ h9 => h9) rfl dX1_bestCut_1 ?_
  refine lv_iload_n hx hb dX1_bestCut_4 rfl (lv_at hl 1 rfl) ?_
  refine lv_iload_n hx hb dX1_bestCut_5 rfl (lv_at hl 2 rfl) ?_
  obtain ⟨r_1, e6⟩ : ∃ z, z = (f_X4_isWonBy won p1 p2) := ⟨_, rfl⟩
  rw [← e6] at he
  refine g_Vi (r := r_1) (As := [.int p1, .int p2]) (rest := []) (ci := 4) (q0 := 20) ⟨hx, hb, hml, hown, hts⟩ hS hX (k_X4_isWonBy p1 p2 (by omega) (by omega) r_1 e6) (cwV 2 hts gX1_bestCut_X4_isWonBy rfl rfl rfl (by decide +kernel) ⟨Nat.le_of_ble_eq_true rfl, Nat.le_of_ble_eq_true rfl⟩) rfl rfl rfl hl.1 rfl (Nat.le_of_ble_eq_true rfl) dX1_bestCut_6 ⟨Nat.zero_le _, Nat.zero_le _⟩ (fun H locs hX => ?_)
  refine lv_istore_n (lv' := [(3, .int r_1), (0, .ref (a 22)), (1, .int p1), (2, .int p2)]) hx hb dX1_bestCut_9 rfl hl (by decide) rfl (fun ls hl => ?_)
  refine lv_aload_n hx hb dX1_bestCut_10 rfl (lv_at hl 1 rfl) ?_
  refine va_get (D := D) (ci := 1) (v := .ref (a 19)) (C := RX1) (T := TX1) (N := 3) hx hb hts hi_X1 hown hS.1 hX.1 22 rfl rfl 0 (by decide) l_fieldLink_15 (fun _ h9 => h9) rfl dX1_bestCut_11 ?_
  refine lv_iload_n hx hb dX1_bestCut_14 rfl (lv_at hl 2 rfl) ?_
  refine lv_iload_n hx hb dX1_bestCut_15 rfl (lv_at hl 3 rfl) ?_
  obtain ⟨r_2, e16⟩ : ∃ z, z = (f_X6_choices number abv kinds p1 p2) := ⟨_, rfl⟩
  rw [← e16] at he
  refine g_Vi (r := r_2) (As := [.int p1, .int p2]) (rest := []) (ci := 6) (q0 := 19) ⟨hx, hb, hml, hown, hts⟩ hS hX (k_X6_choices p1 p2 (by omega) r_2 e16) (cwV 2 hts gX1_bestCut_X6_choices rfl rfl rfl (by decide +kernel) ⟨Nat.le_of_ble_eq_true rfl, Nat.le_of_ble_eq_true rfl⟩) rfl rfl rfl hl.1 rfl (Nat.le_of_ble_eq_true rfl) dX1_bestCut_16 ⟨Nat.zero_le _, Nat.zero_le _⟩ (fun H locs hX => ?_)
  refine lv_istore (lv' := [(4, .int r_2), (3, .int r_1), (0, .ref (a 22)), (1, .int p1), (2, .int p2)]) hx hb dX1_bestCut_19 hl (by decide) rfl (fun ls hl => ?_)
  refine lv_iconst (v := (-1 : Int32)) hx hb dX1_bestCut_21 (by decide) ?_
  refine lv_istore (lv' := [(5, .int (-1 : Int32)), (4, .int r_2), (3, .int r_1), (0, .ref (a 22)), (1, .int p1), (2, .int p2)]) hx hb dX1_bestCut_22 hl (by decide) rfl (fun ls hl => ?_)
  refine lv_iconst (v := (-1 : Int32)) hx hb dX1_bestCut_24 (by decide) ?_
  refine lv_istore (lv' := [(6, .int (-1 : Int32)), (5, .int (-1 : Int32)), (4, .int r_2), (3, .int r_1), (0, .ref (a 22)), (1, .int p1), (2, .int p2)]) hx hb dX1_bestCut_25 hl (by decide) rfl (fun ls hl => ?_)
  refine lv_iconst (v := (0 : Int32)) hx hb dX1_bestCut_27 (by decide) ?_
  refine lv_istore (lv' := [(7, .int (0 : Int32)), (6, .int (-1 : Int32)), (5, .int (-1 : Int32)), (4, .int r_2), (3, .int r_1), (0, .ref (a 22)), (1, .int p1), (2, .int p2)]) hx hb dX1_bestCut_28 hl (by decide) rfl (fun ls hl => ?_)
  have L30_3 : ∀ (n_30_3 : Nat) (x5_4 : Int32) (x6_5 : Int32) (x7_6 : Int32), 0 ≤ (x7_6).toInt ∧ (x7_6).toInt ≤ 8 → 8 - (x7_6).toInt < (n_30_3 : Int) → q = f_X1_bestCut_L30 n_30_3 number abv kinds lcuts won p1 p2 r_1 r_2 x5_4 x6_5 x7_6 → ∀ (H : Heap) (locs : List Loc) (ls : Array Slot), gX D Z s (wG a cA isCharted isKept hedgesRead evensDone plen number setCount standing turn cuts ssize kstanding kturn kcuts kssize seed whiteWon cutsDone lett onB abv sets kinds sbranches sbeginners swon kkinds ksbranches ksbeginners kswon lcuts valu won chance) H locs → lv_has ls 9 [(0, .ref (a 22)), (1, .int p1), (2, .int p2), (3, .int r_1), (4, .int r_2), (5, .int x5_4), (6, .int x6_5), (7, .int x7_6)] → W p l e rm_X1_bestCut s m args below meth c H locs 0 0 Qz (F0 m 30 ls []) := by
    intro n_30_3
    induction n_30_3 with
    | zero =>
      intro x5_4 x6_5 x7_6 ia ifu _ _ _ _ _ _
      exfalso; omega
    | succ n_30_3 ih_L30_3 =>
      intro x5_4 x6_5 x7_6 ia ifu he H locs ls hX hl
      have he := he.trans f_X1_bestCut_L30_s
      refine lv_iload hx hb dX1_bestCut_30 (lv_at hl 7 rfl) ?_
      refine lv_aload_n hx hb dX1_bestCut_32 rfl (lv_at hl 0 rfl) ?_
      refine va_get (D := D) (ci := 1) (v := .ref (a 19)) (C := RX1) (T := TX1) (N := 3) hx hb hts hi_X1 hown hS.1 hX.1 22 rfl rfl 0 (by decide) l_fieldLink_15 (fun _ h9 => h9) rfl dX1_bestCut_33 ?_
      refine va_getN (D := D) (ci := 6) (v := .ref (a 3)) (C := RX6) (T := TX6) (N := 2) hx hb hts hi_X6 hown hS.1 hX.1 19 rfl rfl 0 (by decide) (hS.2.1.get 23 rfl) (fun _ h9 => h9) rfl dX1_bestCut_36 ?_
      refine va_getN (D := D) (ci := 8) (v := .int number) (C := RX8) (T := TX8) (N := 5) hx hb hts hi_X8 hown hS.1 hX.1 3 rfl rfl 0 (by decide) (hS.2.1.get 1 rfl) (fun _ h9 => h9) rfl dX1_bestCut_39 ?_
      refine lv_icmp_ge (tgt := 132) hx hb dX1_bestCut_42 (by decide) (fun c42 => ?_) (fun c42 => ?_)
      · have he := he.trans (if_pos c42)
        have d42 := i_le c42
        refine lv_iload hx hb dX1_bestCut_132 (lv_at hl 5 rfl) ?_
        subst he
        exact g_iret hx hb hr hlocks hX hq rfl dX1_bestCut_134
      · have he := he.trans (if_neg c42)
        have d42 := i_nle c42
        refine lv_iload hx hb dX1_bestCut_45 (lv_at hl 4 rfl) ?_
        refine lv_iload hx hb dX1_bestCut_47 (lv_at hl 7 rfl) ?_
        refine lv_ishr hx hb dX1_bestCut_49 ?_
        refine lv_iconst (v := (1 : Int32)) hx hb dX1_bestCut_50 (by decide) ?_
        refine lv_iand hx hb dX1_bestCut_51 ?_
        refine lv_if_eq (tgt := 126) hx hb dX1_bestCut_52 (by decide) (fun c52 => ?_) (fun c52 => ?_)
        · have he := he.trans (if_pos c52)
          have d52 := i_eq c52
          refine lv_iinc (v := (x7_6 + (1 : Int32))) (lv' := [(7, .int (x7_6 + (1 : Int32))), (0, .ref (a 22)), (1, .int p1), (2, .int p2), (3, .int r_1), (4, .int r_2), (5, .int x5_4), (6, .int x6_5)]) hx hb dX1_bestCut_126 hl (k := 7) rfl rfl (by decide) rfl (fun ls hl => ?_)
          have s126 := i_s1 (x := x7_6) (by omega)
          refine lv_goto (tgt := 30) hx hb dX1_bestCut_129 (by decide) ?_
          exact ih_L30_3 x5_4 x6_5 (x7_6 + (1 : Int32)) (by omega) (by omega) he _ _ _ hX (lv_sub hl [1, 2, 3, 4, 5, 6, 7, 0] rfl)
        · have he := he.trans (if_neg c52)
          have d52 := i_ne c52
          refine lv_aload_n hx hb dX1_bestCut_55 rfl (lv_at hl 0 rfl) ?_
          refine va_get (D := D) (ci := 1) (v := .ref (a 19)) (C := RX1) (T := TX1) (N := 3) hx hb hts hi_X1 hown hS.1 hX.1 22 rfl rfl 0 (by decide) l_fieldLink_15 (fun _ h9 => h9) rfl dX1_bestCut_56 ?_
          refine lv_iload hx hb dX1_bestCut_59 (lv_at hl 7 rfl) ?_
          refine lv_iload_n hx hb dX1_bestCut_61 rfl (lv_at hl 2 rfl) ?_
          obtain ⟨r_7, e62⟩ : ∃ z, z = (f_X6_leftBy abv x7_6 p2) := ⟨_, rfl⟩
          rw [← e62] at he
          refine g_Vi (r := r_7) (As := [.int x7_6, .int p2]) (rest := []) (ci := 6) (q0 := 19) ⟨hx, hb, hml, hown, hts⟩ hS hX (k_X6_leftBy x7_6 p2 (by omega) r_7 e62) (cwV 2 hts gX1_bestCut_X6_leftBy rfl rfl rfl (by decide +kernel) ⟨Nat.le_of_ble_eq_true rfl, Nat.le_of_ble_eq_true rfl⟩) rfl rfl rfl hl.1 rfl (Nat.le_of_ble_eq_true rfl) dX1_bestCut_62 ⟨Nat.zero_le _, Nat.zero_le _⟩ (fun H locs hX => ?_)
          have k62_0 : 0 ≤ (p2).toInt → (0 ≤ (r_7).toInt ∧ (r_7).toInt ≤ (p2).toInt) := by rw [e62]; exact r_leftBy
          refine lv_istore (lv' := [(8, .int r_7), (0, .ref (a 22)), (1, .int p1), (2, .int p2), (3, .int r_1), (4, .int r_2), (5, .int x5_4), (6, .int x6_5), (7, .int x7_6)]) hx hb dX1_bestCut_65 hl (by decide) rfl (fun ls hl => ?_)
          refine lv_iload_n hx hb dX1_bestCut_67 rfl (lv_at hl 4 rfl) ?_
          refine lv_if_eq (tgt := 89) hx hb dX1_bestCut_68 (by decide) (fun c68 => ?_) (fun c68 => ?_)
          · have he := he.trans (if_pos c68)
            have d68 := i_eq c68
            refine lv_aload_n hx hb dX1_bestCut_89 rfl (lv_at hl 1 rfl) ?_
            refine va_get (D := D) (ci := 1) (v := .ref (a 23)) (C := RX1) (T := TX1) (N := 3) hx hb hts hi_X1 hown hS.1 hX.1 22 rfl rfl 2 (by decide) l_fieldLink_9 (fun _ h9 => h9) rfl dX1_bestCut_90 ?_
            refine lv_iconst (v := (1 : Int32)) hx hb dX1_bestCut_93 (by decide) ?_
            refine lv_iload_n hx hb dX1_bestCut_94 rfl (lv_at hl 2 rfl) ?_
            refine lv_isub hx hb dX1_bestCut_95 ?_
            refine lv_iload hx hb dX1_bestCut_96 (lv_at hl 0 rfl) ?_
            obtain ⟨r_8, e98⟩ : ∃ z, z = (f_X10_place ((1 : Int32) - p1) r_7) := ⟨_, rfl⟩
            rw [← e98] at he
            refine g_SNi (r := r_8) (As := [.int ((1 : Int32) - p1), .int r_7]) (rest := [.ref (a 23)]) ⟨hx, hb, hml, hown, hts⟩ hS hX (k_X10_place ((1 : Int32) - p1) r_7 r_8 e98) ⟨va_cnB 2 hts ggX1_bestCut_X10_place rfl rfl rfl (hS.2.1.at 32 rfl) l_w_12 (by decide +kernel) ⟨Nat.le_of_ble_eq_true rfl, Nat.le_of_ble_eq_true rfl⟩, l_w_11, trivial⟩ rfl hl.1 rfl (Nat.le_of_ble_eq_true rfl) dX1_bestCut_98 ⟨Nat.zero_le _, Nat.zero_le _⟩ (fun H locs hX => ?_)
            have k98_0 : (0 ≤ (((1 : Int32) - p1)).toInt ∧ (((1 : Int32) - p1)).toInt ≤ 1 ∧ 0 ≤ (r_7).toInt ∧ (r_7).toInt < 256) → (0 ≤ (r_8).toInt ∧ (r_8).toInt < 512) := by rw [e98]; exact r_place
            refine va_iald hx hb hS.1 hX.1 23 13 rfl rfl (vp_in_iff.mpr (by omega)) dX1_bestCut_101 ?_
            refine lv_iload hx hb dX1_bestCut_102 (lv_at hl 7 rfl) ?_
            refine lv_icmp_le (tgt := 126) hx hb dX1_bestCut_104 (by decide) (fun c104 => ?_) (fun c104 => ?_)
            · have he := he.trans (if_pos c104)
              have d104 := i_le c104
              refine lv_iinc (v := (x7_6 + (1 : Int32))) (lv' := [(7, .int (x7_6 + (1 : Int32))), (8, .int r_7), (0, .ref (a 22)), (1, .int p1), (2, .int p2), (3, .int r_1), (4, .int r_2), (5, .int x5_4), (6, .int x6_5)]) hx hb dX1_bestCut_126 hl (k := 8) rfl rfl (by decide) rfl (fun ls hl => ?_)
              have s126 := i_s1 (x := x7_6) (by omega)
              refine lv_goto (tgt := 30) hx hb dX1_bestCut_129 (by decide) ?_
              exact ih_L30_3 x5_4 x6_5 (x7_6 + (1 : Int32)) (by omega) (by omega) he _ _ _ hX (lv_sub hl [2, 3, 4, 5, 6, 7, 8, 0] rfl)
            · have he := he.trans (if_neg c104)
              have d104 := i_nle c104
              refine lv_aload_n hx hb dX1_bestCut_107 rfl (lv_at hl 1 rfl) ?_
              refine va_get (D := D) (ci := 1) (v := .ref (a 23)) (C := RX1) (T := TX1) (N := 3) hx hb hts hi_X1 hown hS.1 hX.1 22 rfl rfl 2 (by decide) l_fieldLink_9 (fun _ h9 => h9) rfl dX1_bestCut_108 ?_
              refine lv_iconst (v := (1 : Int32)) hx hb dX1_bestCut_111 (by decide) ?_
              refine lv_iload_n hx hb dX1_bestCut_112 rfl (lv_at hl 2 rfl) ?_
              refine lv_isub hx hb dX1_bestCut_113 ?_
              refine lv_iload hx hb dX1_bestCut_114 (lv_at hl 0 rfl) ?_
              refine g_SNi (r := r_8) (As := [.int ((1 : Int32) - p1), .int r_7]) (rest := [.ref (a 23)]) ⟨hx, hb, hml, hown, hts⟩ hS hX (k_X10_place ((1 : Int32) - p1) r_7 r_8 e98) ⟨va_cnB 2 hts ggX1_bestCut_X10_place rfl rfl rfl (hS.2.1.at 32 rfl) l_w_12 (by decide +kernel) ⟨Nat.le_of_ble_eq_true rfl, Nat.le_of_ble_eq_true rfl⟩, l_w_11, trivial⟩ rfl hl.1 rfl (Nat.le_of_ble_eq_true rfl) dX1_bestCut_116 ⟨Nat.zero_le _, Nat.zero_le _⟩ (fun H locs hX => ?_)
              have k116_0 : (0 ≤ (((1 : Int32) - p1)).toInt ∧ (((1 : Int32) - p1)).toInt ≤ 1 ∧ 0 ≤ (r_7).toInt ∧ (r_7).toInt < 256) → (0 ≤ (r_8).toInt ∧ (r_8).toInt < 512) := by rw [e98]; exact r_place
              refine va_iald hx hb hS.1 hX.1 23 13 rfl rfl (vp_in_iff.mpr (by omega)) dX1_bestCut_119 ?_
              refine lv_istore (lv' := [(6, .int (lcuts (r_8).toNatClampNeg)), (8, .int r_7), (0, .ref (a 22)), (1, .int p1), (2, .int p2), (3, .int r_1), (4, .int r_2), (5, .int x5_4), (7, .int x7_6)]) hx hb dX1_bestCut_120 hl (by decide) rfl (fun ls hl => ?_)
              refine lv_iload hx hb dX1_bestCut_122 (lv_at hl 8 rfl) ?_
              refine lv_istore (lv' := [(5, .int x7_6), (6, .int (lcuts (r_8).toNatClampNeg)), (8, .int r_7), (0, .ref (a 22)), (1, .int p1), (2, .int p2), (3, .int r_1), (4, .int r_2), (7, .int x7_6)]) hx hb dX1_bestCut_124 hl (by decide) rfl (fun ls hl => ?_)
              refine lv_iinc (v := (x7_6 + (1 : Int32))) (lv' := [(7, .int (x7_6 + (1 : Int32))), (5, .int x7_6), (6, .int (lcuts (r_8).toNatClampNeg)), (8, .int r_7), (0, .ref (a 22)), (1, .int p1), (2, .int p2), (3, .int r_1), (4, .int r_2)]) hx hb dX1_bestCut_126 hl (k := 8) rfl rfl (by decide) rfl (fun ls hl => ?_)
              have s126 := i_s1 (x := x7_6) (by omega)
              refine lv_goto (tgt := 30) hx hb dX1_bestCut_129 (by decide) ?_
              exact ih_L30_3 x7_6 (lcuts (r_8).toNatClampNeg) (x7_6 + (1 : Int32)) (by omega) (by omega) he _ _ _ hX (lv_sub hl [4, 5, 6, 7, 8, 1, 2, 0] rfl)
          · have he := he.trans (if_neg c68)
            have d68 := i_ne c68
            refine lv_aload_n hx hb dX1_bestCut_71 rfl (lv_at hl 1 rfl) ?_
            refine va_get (D := D) (ci := 1) (v := .ref (a 20)) (C := RX1) (T := TX1) (N := 3) hx hb hts hi_X1 hown hS.1 hX.1 22 rfl rfl 1 (by decide) l_fieldLink_19 (fun _ h9 => h9) rfl dX1_bestCut_72 ?_
            refine lv_iconst (v := (1 : Int32)) hx hb dX1_bestCut_75 (by decide) ?_
            refine lv_iload_n hx hb dX1_bestCut_76 rfl (lv_at hl 2 rfl) ?_
            refine lv_isub hx hb dX1_bestCut_77 ?_
            refine lv_iload hx hb dX1_bestCut_78 (lv_at hl 0 rfl) ?_
            obtain ⟨r_9, e80⟩ : ∃ z, z = (f_X4_isWonBy won ((1 : Int32) - p1) r_7) := ⟨_, rfl⟩
            rw [← e80] at he
            refine g_Vi (r := r_9) (As := [.int ((1 : Int32) - p1), .int r_7]) (rest := []) (ci := 4) (q0 := 20) ⟨hx, hb, hml, hown, hts⟩ hS hX (k_X4_isWonBy ((1 : Int32) - p1) r_7 (by omega) (by omega) r_9 e80) (cwV 2 hts gX1_bestCut_X4_isWonBy rfl rfl rfl (by decide +kernel) ⟨Nat.le_of_ble_eq_true rfl, Nat.le_of_ble_eq_true rfl⟩) rfl rfl rfl hl.1 rfl (Nat.le_of_ble_eq_true rfl) dX1_bestCut_80 ⟨Nat.zero_le _, Nat.zero_le _⟩ (fun H locs hX => ?_)
            refine lv_if_ne (tgt := 89) hx hb dX1_bestCut_83 (by decide) (fun c83 => ?_) (fun c83 => ?_)
            · have he := he.trans (if_neg c83)
              have d83 := i_ne c83
              refine lv_aload_n hx hb dX1_bestCut_89 rfl (lv_at hl 1 rfl) ?_
              refine va_get (D := D) (ci := 1) (v := .ref (a 23)) (C := RX1) (T := TX1) (N := 3) hx hb hts hi_X1 hown hS.1 hX.1 22 rfl rfl 2 (by decide) l_fieldLink_9 (fun _ h9 => h9) rfl dX1_bestCut_90 ?_
              refine lv_iconst (v := (1 : Int32)) hx hb dX1_bestCut_93 (by decide) ?_
              refine lv_iload_n hx hb dX1_bestCut_94 rfl (lv_at hl 2 rfl) ?_
              refine lv_isub hx hb dX1_bestCut_95 ?_
              refine lv_iload hx hb dX1_bestCut_96 (lv_at hl 0 rfl) ?_
              obtain ⟨r_10, e98⟩ : ∃ z, z = (f_X10_place ((1 : Int32) - p1) r_7) := ⟨_, rfl⟩
              rw [← e98] at he
              refine g_SNi (r := r_10) (As := [.int ((1 : Int32) - p1), .int r_7]) (rest := [.ref (a 23)]) ⟨hx, hb, hml, hown, hts⟩ hS hX (k_X10_place ((1 : Int32) - p1) r_7 r_10 e98) ⟨va_cnB 2 hts ggX1_bestCut_X10_place rfl rfl rfl (hS.2.1.at 32 rfl) l_w_12 (by decide +kernel) ⟨Nat.le_of_ble_eq_true rfl, Nat.le_of_ble_eq_true rfl⟩, l_w_11, trivial⟩ rfl hl.1 rfl (Nat.le_of_ble_eq_true rfl) dX1_bestCut_98 ⟨Nat.zero_le _, Nat.zero_le _⟩ (fun H locs hX => ?_)
              have k98_0 : (0 ≤ (((1 : Int32) - p1)).toInt ∧ (((1 : Int32) - p1)).toInt ≤ 1 ∧ 0 ≤ (r_7).toInt ∧ (r_7).toInt < 256) → (0 ≤ (r_10).toInt ∧ (r_10).toInt < 512) := by rw [e98]; exact r_place
              refine va_iald hx hb hS.1 hX.1 23 13 rfl rfl (vp_in_iff.mpr (by omega)) dX1_bestCut_101 ?_
              refine lv_iload hx hb dX1_bestCut_102 (lv_at hl 7 rfl) ?_
              refine lv_icmp_le (tgt := 126) hx hb dX1_bestCut_104 (by decide) (fun c104 => ?_) (fun c104 => ?_)
              · have he := he.trans (if_pos c104)
                have d104 := i_le c104
                refine lv_iinc (v := (x7_6 + (1 : Int32))) (lv' := [(7, .int (x7_6 + (1 : Int32))), (8, .int r_7), (0, .ref (a 22)), (1, .int p1), (2, .int p2), (3, .int r_1), (4, .int r_2), (5, .int x5_4), (6, .int x6_5)]) hx hb dX1_bestCut_126 hl (k := 8) rfl rfl (by decide) rfl (fun ls hl => ?_)
                have s126 := i_s1 (x := x7_6) (by omega)
                refine lv_goto (tgt := 30) hx hb dX1_bestCut_129 (by decide) ?_
                exact ih_L30_3 x5_4 x6_5 (x7_6 + (1 : Int32)) (by omega) (by omega) he _ _ _ hX (lv_sub hl [2, 3, 4, 5, 6, 7, 8, 0] rfl)
              · have he := he.trans (if_neg c104)
                have d104 := i_nle c104
                refine lv_aload_n hx hb dX1_bestCut_107 rfl (lv_at hl 1 rfl) ?_
                refine va_get (D := D) (ci := 1) (v := .ref (a 23)) (C := RX1) (T := TX1) (N := 3) hx hb hts hi_X1 hown hS.1 hX.1 22 rfl rfl 2 (by decide) l_fieldLink_9 (fun _ h9 => h9) rfl dX1_bestCut_108 ?_
                refine lv_iconst (v := (1 : Int32)) hx hb dX1_bestCut_111 (by decide) ?_
                refine lv_iload_n hx hb dX1_bestCut_112 rfl (lv_at hl 2 rfl) ?_
                refine lv_isub hx hb dX1_bestCut_113 ?_
                refine lv_iload hx hb dX1_bestCut_114 (lv_at hl 0 rfl) ?_
                refine g_SNi (r := r_10) (As := [.int ((1 : Int32) - p1), .int r_7]) (rest := [.ref (a 23)]) ⟨hx, hb, hml, hown, hts⟩ hS hX (k_X10_place ((1 : Int32) - p1) r_7 r_10 e98) ⟨va_cnB 2 hts ggX1_bestCut_X10_place rfl rfl rfl (hS.2.1.at 32 rfl) l_w_12 (by decide +kernel) ⟨Nat.le_of_ble_eq_true rfl, Nat.le_of_ble_eq_true rfl⟩, l_w_11, trivial⟩ rfl hl.1 rfl (Nat.le_of_ble_eq_true rfl) dX1_bestCut_116 ⟨Nat.zero_le _, Nat.zero_le _⟩ (fun H locs hX => ?_)
                have k116_0 : (0 ≤ (((1 : Int32) - p1)).toInt ∧ (((1 : Int32) - p1)).toInt ≤ 1 ∧ 0 ≤ (r_7).toInt ∧ (r_7).toInt < 256) → (0 ≤ (r_10).toInt ∧ (r_10).toInt < 512) := by rw [e98]; exact r_place
                refine va_iald hx hb hS.1 hX.1 23 13 rfl rfl (vp_in_iff.mpr (by omega)) dX1_bestCut_119 ?_
                refine lv_istore (lv' := [(6, .int (lcuts (r_10).toNatClampNeg)), (8, .int r_7), (0, .ref (a 22)), (1, .int p1), (2, .int p2), (3, .int r_1), (4, .int r_2), (5, .int x5_4), (7, .int x7_6)]) hx hb dX1_bestCut_120 hl (by decide) rfl (fun ls hl => ?_)
                refine lv_iload hx hb dX1_bestCut_122 (lv_at hl 8 rfl) ?_
                refine lv_istore (lv' := [(5, .int x7_6), (6, .int (lcuts (r_10).toNatClampNeg)), (8, .int r_7), (0, .ref (a 22)), (1, .int p1), (2, .int p2), (3, .int r_1), (4, .int r_2), (7, .int x7_6)]) hx hb dX1_bestCut_124 hl (by decide) rfl (fun ls hl => ?_)
                refine lv_iinc (v := (x7_6 + (1 : Int32))) (lv' := [(7, .int (x7_6 + (1 : Int32))), (5, .int x7_6), (6, .int (lcuts (r_10).toNatClampNeg)), (8, .int r_7), (0, .ref (a 22)), (1, .int p1), (2, .int p2), (3, .int r_1), (4, .int r_2)]) hx hb dX1_bestCut_126 hl (k := 8) rfl rfl (by decide) rfl (fun ls hl => ?_)
                have s126 := i_s1 (x := x7_6) (by omega)
                refine lv_goto (tgt := 30) hx hb dX1_bestCut_129 (by decide) ?_
                exact ih_L30_3 x7_6 (lcuts (r_10).toNatClampNeg) (x7_6 + (1 : Int32)) (by omega) (by omega) he _ _ _ hX (lv_sub hl [4, 5, 6, 7, 8, 1, 2, 0] rfl)
            · have he := he.trans (if_pos c83)
              have d83 := i_eq c83
              refine lv_iload hx hb dX1_bestCut_86 (lv_at hl 8 rfl) ?_
              subst he
              exact g_iret hx hb hr hlocks hX hq rfl dX1_bestCut_88
  exact L30_3 9 (-1 : Int32) (-1 : Int32) (0 : Int32) (by omega) (by omega) he _ _ _ hX (lv_sub hl [5, 6, 7, 4, 3, 2, 1, 0] rfl)
abbrev rm_X1_enter : Room := { frames := 2, cells := 0, slots := 0, locals := 43 }
set_option maxHeartbeats 4000000 in
set_option maxRecDepth 100000 in
theorem k_X1_enter {l : Launch} {D : va_G} {E : sE} {a : Nat → Nat} {cA : Nat → ClassId} {isCharted : Int32} {isKept : Int32} {hedgesRead : Int32} {evensDone : Int32} {plen : Int32} {number : Int32} {setCount : Int32} {standing : Int32} {turn : Int32} {cuts : Int32} {ssize : Int32} {kstanding : Int32} {kturn : Int32} {kcuts : Int32} {kssize : Int32} {seed : Int32} {whiteWon : Int32} {cutsDone : Int32} {lett : Nat → Int32} {onB : Nat → Int32} {abv : Nat → Int32} {sets : Nat → Int32} {kinds : Nat → Int32} {sbranches : Nat → Int32} {sbeginners : Nat → Int32} {swon : Nat → Int32} {kkinds : Nat → Int32} {ksbranches : Nat → Int32} {ksbeginners : Nat → Int32} {kswon : Nat → Int32} {lcuts : Nat → Int32} {valu : Nat → Int32} {won : Nat → Int64} {chance : Nat → Int64} (p1 : Int32) (p2 : Int32) (p3 : Int32) (hnm : 0 ≤ (number).toInt ∧ (number).toInt ≤ 8) (hwx : 0 ≤ (p1).toInt ∧ (p1).toInt ≤ 1) (hsx : 0 ≤ (p2).toInt ∧ (p2).toInt < 256) : ∀ q : (Nat → Int32), q = f_X1_enter number abv lcuts won p1 p2 p3 → gMv l yX1_enter wsX1_enter rm_X1_enter D E (tG cA) [.ref (a 22), .int p1, .int p2, .int p3] (wG a cA isCharted isKept hedgesRead evensDone plen number setCount standing turn cuts ssize kstanding kturn kcuts kssize seed whiteWon cutsDone lett onB abv sets kinds sbranches sbeginners swon kkinds ksbranches ksbeginners kswon lcuts valu won chance) (wG a cA isCharted isKept hedgesRead evensDone plen number setCount standing turn cuts ssize kstanding kturn kcuts kssize seed whiteWon cutsDone lett onB abv sets kinds sbranches sbeginners swon kkinds ksbranches ksbeginners kswon q valu won chance) := by
  intro q he0
  refine gM_of (cc := cX1_enter) (maxL := 9) (ret := none) (Qf := gQv D (wG a cA isCharted isKept hedgesRead evensDone plen number setCount standing turn cuts ssize kstanding kturn kcuts kssize seed whiteWon cutsDone lett onB abv sets kinds sbranches sbeginners swon kkinds ksbranches ksbeginners kswon q valu won chance)) (by decide) rfl (Nat.le_of_ble_eq_true rfl) ?_
  intro p e s m args below meth c Z ls Qz hx hb hr hml hlocks hown hts hS hX hl hq
  have he := he0.trans f_X1_enter_s
  have hown : s.vm.findClass RX1 = some m.cls := hown
  have hl : lv_has ls 9 [(0, .ref (a 22)), (1, .int p1), (2, .int p2), (3, .int p3)] := hl
  have hi_X1 : ∀ w ∈ u_ws RX1 TX1 3, w ∈ wsX1_enter := fun _ h => List.mem_cons_of_mem _ (List.mem_append_left _ (List.mem_append_left _ (List.mem_append_left _ (List.mem_append_right _ h))))
  have hi_X6 : ∀ w ∈ u_ws RX6 TX6 2, w ∈ wsX1_enter := fun _ h => List.mem_cons_of_mem _ (List.mem_append_left _ (List.mem_append_left _ (List.mem_append_right _ h)))
  have hi_X8 : ∀ w ∈ u_ws RX8 TX8 5, w ∈ wsX1_enter := fun _ h => List.mem_cons_of_mem _ (List.mem_append_left _ (List.mem_append_right _ h))
  have l_fieldLink_15 := hts (Cond.fieldLink RX1 15 "HedgeGame$Lengths" "rules" "LHedgeGame$Rules;") (List.mem_of_getElem? (i := 2) rfl)
  have l_fieldLink_19 := hts (Cond.fieldLink RX1 19 "HedgeGame$Lengths" "outcomes" "LHedgeGame$Outcomes;") (List.mem_of_getElem? (i := 1) rfl)
  have l_fieldLink_9 := hts (Cond.fieldLink RX1 9 "HedgeGame$Lengths" "cuts" "[I") (List.mem_of_getElem? (i := 3) rfl)
  have l_w_10 := hts (Cond.code Lib.Math.min.name Lib.Math.min.code 2 (some .int)) (List.mem_of_getElem? (i := 10) rfl)
  have l_w_18 := hts (Cond.static yX10_place) (List.mem_of_getElem? (i := 18) rfl)
  have l_w_19 := hts (Cond.initialized RX10) (List.mem_of_getElem? (i := 19) rfl)
  have l_w_4 := hts (Cond.methodLink RX1 51 Lib.Math.max.name) (List.mem_of_getElem? (i := 4) rfl)
  have l_w_5 := hts (Cond.static Lib.Math.max.name) (List.mem_of_getElem? (i := 5) rfl)
  have l_w_6 := hts (Cond.initialized "java/lang/Math") (List.mem_of_getElem? (i := 6) rfl)
  have l_w_7 := hts (Cond.code Lib.Math.max.name Lib.Math.max.code 2 (some .int)) (List.mem_of_getElem? (i := 7) rfl)
  have l_w_8 := hts (Cond.methodLink RX1 56 Lib.Math.min.name) (List.mem_of_getElem? (i := 8) rfl)
  have l_w_9 := hts (Cond.static Lib.Math.min.name) (List.mem_of_getElem? (i := 9) rfl)
  have t0 : ((0 : Int32)).toInt = 0 := rfl
  have t1 : ((1 : Int32)).toInt = 1 := rfl
  have g1 := i_sub (x := (1 : Int32)) (y := p1) (by omega) (by omega)
  refine lv_aload_n hx hb dX1_enter_0 rfl (lv_at hl 0 rfl) ?_
  refine va_get (D := D) (ci := 1) (v := .ref (a 20)) (C := RX1) (T := TX1) (N := 3) hx hb hts hi_X1 hown hS.1 hX.1 22 rfl rfl 1 (by decide) l_fieldLink_19 (fun _ h9 => h9) rfl dX1_enter_1 ?_
  refine lv_iload_n hx hb dX1_enter_4 rfl (lv_at hl 1 rfl) ?_
  refine lv_iload_n hx hb dX1_enter_5 rfl (lv_at hl 2 rfl) ?_
  obtain ⟨r_1, e6⟩ : ∃ z, z = (f_X4_isWonBy won p1 p2) := ⟨_, rfl⟩
  rw [← e6] at he
  refine g_Vi (r := r_1) (As := [.int p1, .int p2]) (rest := []) (ci := 4) (q0 := 20) ⟨hx, hb, hml, hown, hts⟩ hS hX (k_X4_isWonBy p1 p2 (by omega) (by omega) r_1 e6) (cwV 2 hts gX1_enter_X4_isWonBy rfl rfl rfl (by decide +kernel) ⟨Nat.le_of_ble_eq_true rfl, Nat.le_of_ble_eq_true rfl⟩) rfl rfl rfl hl.1 rfl (Nat.le_of_ble_eq_true rfl) dX1_enter_6 ⟨Nat.zero_le _, Nat.zero_le _⟩ (fun H locs hX => ?_)
  refine lv_istore (lv' := [(4, .int r_1), (0, .ref (a 22)), (1, .int p1), (2, .int p2), (3, .int p3)]) hx hb dX1_enter_9 hl (by decide) rfl (fun ls hl => ?_)
  refine lv_iconst (v := (0 : Int32)) hx hb dX1_enter_11 (by decide) ?_
  refine lv_istore (lv' := [(5, .int (0 : Int32)), (4, .int r_1), (0, .ref (a 22)), (1, .int p1), (2, .int p2), (3, .int p3)]) hx hb dX1_enter_12 hl (by decide) rfl (fun ls hl => ?_)
  refine lv_iconst (v := (0 : Int32)) hx hb dX1_enter_14 (by decide) ?_
  refine lv_istore (lv' := [(6, .int (0 : Int32)), (5, .int (0 : Int32)), (4, .int r_1), (0, .ref (a 22)), (1, .int p1), (2, .int p2), (3, .int p3)]) hx hb dX1_enter_15 hl (by decide) rfl (fun ls hl => ?_)
  have L17_2 : ∀ (n_17_2 : Nat) (x5_3 : Int32) (x6_4 : Int32), 0 ≤ (x6_4).toInt ∧ (x6_4).toInt ≤ 8 → 8 - (x6_4).toInt < (n_17_2 : Int) → q = f_X1_enter_L17 n_17_2 number abv lcuts won p1 p2 p3 r_1 x5_3 x6_4 → ∀ (H : Heap) (locs : List Loc) (ls : Array Slot), gX D Z s (wG a cA isCharted isKept hedgesRead evensDone plen number setCount standing turn cuts ssize kstanding kturn kcuts kssize seed whiteWon cutsDone lett onB abv sets kinds sbranches sbeginners swon kkinds ksbranches ksbeginners kswon lcuts valu won chance) H locs → lv_has ls 9 [(0, .ref (a 22)), (1, .int p1), (2, .int p2), (3, .int p3), (4, .int r_1), (5, .int x5_3), (6, .int x6_4)] → W p l e rm_X1_enter s m args below meth c H locs 0 0 Qz (F0 m 17 ls []) := by
    intro n_17_2
    induction n_17_2 with
    | zero =>
      intro x5_3 x6_4 ia ifu _ _ _ _ _ _
      exfalso; omega
    | succ n_17_2 ih_L17_2 =>
      intro x5_3 x6_4 ia ifu he H locs ls hX hl
      have he := he.trans f_X1_enter_L17_s
      refine lv_iload hx hb dX1_enter_17 (lv_at hl 6 rfl) ?_
      refine lv_aload_n hx hb dX1_enter_19 rfl (lv_at hl 0 rfl) ?_
      refine va_get (D := D) (ci := 1) (v := .ref (a 19)) (C := RX1) (T := TX1) (N := 3) hx hb hts hi_X1 hown hS.1 hX.1 22 rfl rfl 0 (by decide) l_fieldLink_15 (fun _ h9 => h9) rfl dX1_enter_20 ?_
      refine va_getN (D := D) (ci := 6) (v := .ref (a 3)) (C := RX6) (T := TX6) (N := 2) hx hb hts hi_X6 hown hS.1 hX.1 19 rfl rfl 0 (by decide) (hS.2.1.get 23 rfl) (fun _ h9 => h9) rfl dX1_enter_23 ?_
      refine va_getN (D := D) (ci := 8) (v := .int number) (C := RX8) (T := TX8) (N := 5) hx hb hts hi_X8 hown hS.1 hX.1 3 rfl rfl 0 (by decide) (hS.2.1.get 1 rfl) (fun _ h9 => h9) rfl dX1_enter_26 ?_
      refine lv_icmp_ge (tgt := 127) hx hb dX1_enter_29 (by decide) (fun c29 => ?_) (fun c29 => ?_)
      · have he := he.trans (if_pos c29)
        have d29 := i_le c29
        refine lv_aload_n hx hb dX1_enter_127 rfl (lv_at hl 0 rfl) ?_
        refine va_get (D := D) (ci := 1) (v := .ref (a 23)) (C := RX1) (T := TX1) (N := 3) hx hb hts hi_X1 hown hS.1 hX.1 22 rfl rfl 2 (by decide) l_fieldLink_9 (fun _ h9 => h9) rfl dX1_enter_128 ?_
        refine lv_iload_n hx hb dX1_enter_131 rfl (lv_at hl 1 rfl) ?_
        refine lv_iload_n hx hb dX1_enter_132 rfl (lv_at hl 2 rfl) ?_
        obtain ⟨r_5, e133⟩ : ∃ z, z = (f_X10_place p1 p2) := ⟨_, rfl⟩
        rw [← e133] at he
        refine g_SNi (r := r_5) (As := [.int p1, .int p2]) (rest := [.ref (a 23)]) ⟨hx, hb, hml, hown, hts⟩ hS hX (k_X10_place p1 p2 r_5 e133) ⟨va_cnB 2 hts ggX1_enter_X10_place rfl rfl rfl (hS.2.1.at 32 rfl) l_w_19 (by decide +kernel) ⟨Nat.le_of_ble_eq_true rfl, Nat.le_of_ble_eq_true rfl⟩, l_w_18, trivial⟩ rfl hl.1 rfl (Nat.le_of_ble_eq_true rfl) dX1_enter_133 ⟨Nat.zero_le _, Nat.zero_le _⟩ (fun H locs hX => ?_)
        have k133_0 : (0 ≤ (p1).toInt ∧ (p1).toInt ≤ 1 ∧ 0 ≤ (p2).toInt ∧ (p2).toInt < 256) → (0 ≤ (r_5).toInt ∧ (r_5).toInt < 512) := by rw [e133]; exact r_place
        refine lv_iload hx hb dX1_enter_136 (lv_at hl 5 rfl) ?_
        refine va_iast hx hb hS.1 hX.1 hX.2.1 hX.2.2 23 13 rfl rfl (vp_in_iff.mpr (by omega)) dX1_enter_138 (fun H locs hP hD hs => ?_)
        have hX : gX D Z s (wG a cA isCharted isKept hedgesRead evensDone plen number setCount standing turn cuts ssize kstanding kturn kcuts kssize seed whiteWon cutsDone lett onB abv sets kinds sbranches sbeginners swon kkinds ksbranches ksbeginners kswon (upd lcuts (r_5).toNatClampNeg x5_3) valu won chance) H locs := ⟨hP, hD, hs⟩
        subst he
        exact g_vret hx hb hr hlocks hX hq dX1_enter_139
      · have he := he.trans (if_neg c29)
        have d29 := i_nle c29
        refine lv_iload_n hx hb dX1_enter_32 rfl (lv_at hl 3 rfl) ?_
        refine lv_iload hx hb dX1_enter_33 (lv_at hl 6 rfl) ?_
        refine lv_ishr hx hb dX1_enter_35 ?_
        refine lv_iconst (v := (1 : Int32)) hx hb dX1_enter_36 (by decide) ?_
        refine lv_iand hx hb dX1_enter_37 ?_
        refine lv_if_eq (tgt := 121) hx hb dX1_enter_38 (by decide) (fun c38 => ?_) (fun c38 => ?_)
        · have he := he.trans (if_pos c38)
          have d38 := i_eq c38
          refine lv_iinc (v := (x6_4 + (1 : Int32))) (lv' := [(6, .int (x6_4 + (1 : Int32))), (0, .ref (a 22)), (1, .int p1), (2, .int p2), (3, .int p3), (4, .int r_1), (5, .int x5_3)]) hx hb dX1_enter_121 hl (k := 6) rfl rfl (by decide) rfl (fun ls hl => ?_)
          have s121 := i_s1 (x := x6_4) (by omega)
          refine lv_goto (tgt := 17) hx hb dX1_enter_124 (by decide) ?_
          exact ih_L17_2 x5_3 (x6_4 + (1 : Int32)) (by omega) (by omega) he _ _ _ hX (lv_sub hl [1, 2, 3, 4, 5, 6, 0] rfl)
        · have he := he.trans (if_neg c38)
          have d38 := i_ne c38
          refine lv_aload_n hx hb dX1_enter_41 rfl (lv_at hl 0 rfl) ?_
          refine va_get (D := D) (ci := 1) (v := .ref (a 19)) (C := RX1) (T := TX1) (N := 3) hx hb hts hi_X1 hown hS.1 hX.1 22 rfl rfl 0 (by decide) l_fieldLink_15 (fun _ h9 => h9) rfl dX1_enter_42 ?_
          refine lv_iload hx hb dX1_enter_45 (lv_at hl 6 rfl) ?_
          refine lv_iload_n hx hb dX1_enter_47 rfl (lv_at hl 2 rfl) ?_
          obtain ⟨r_6, e48⟩ : ∃ z, z = (f_X6_leftBy abv x6_4 p2) := ⟨_, rfl⟩
          rw [← e48] at he
          refine g_Vi (r := r_6) (As := [.int x6_4, .int p2]) (rest := []) (ci := 6) (q0 := 19) ⟨hx, hb, hml, hown, hts⟩ hS hX (k_X6_leftBy x6_4 p2 (by omega) r_6 e48) (cwV 2 hts gX1_enter_X6_leftBy rfl rfl rfl (by decide +kernel) ⟨Nat.le_of_ble_eq_true rfl, Nat.le_of_ble_eq_true rfl⟩) rfl rfl rfl hl.1 rfl (Nat.le_of_ble_eq_true rfl) dX1_enter_48 ⟨Nat.zero_le _, Nat.zero_le _⟩ (fun H locs hX => ?_)
          have k48_0 : 0 ≤ (p2).toInt → (0 ≤ (r_6).toInt ∧ (r_6).toInt ≤ (p2).toInt) := by rw [e48]; exact r_leftBy
          refine lv_istore (lv' := [(7, .int r_6), (0, .ref (a 22)), (1, .int p1), (2, .int p2), (3, .int p3), (4, .int r_1), (5, .int x5_3), (6, .int x6_4)]) hx hb dX1_enter_51 hl (by decide) rfl (fun ls hl => ?_)
          refine lv_iconst (v := (1 : Int32)) hx hb dX1_enter_53 (by decide) ?_
          refine lv_aload_n hx hb dX1_enter_54 rfl (lv_at hl 1 rfl) ?_
          refine va_get (D := D) (ci := 1) (v := .ref (a 23)) (C := RX1) (T := TX1) (N := 3) hx hb hts hi_X1 hown hS.1 hX.1 22 rfl rfl 2 (by decide) l_fieldLink_9 (fun _ h9 => h9) rfl dX1_enter_55 ?_
          refine lv_iconst (v := (1 : Int32)) hx hb dX1_enter_58 (by decide) ?_
          refine lv_iload_n hx hb dX1_enter_59 rfl (lv_at hl 2 rfl) ?_
          refine lv_isub hx hb dX1_enter_60 ?_
          refine lv_iload hx hb dX1_enter_61 (lv_at hl 0 rfl) ?_
          obtain ⟨r_7, e63⟩ : ∃ z, z = (f_X10_place ((1 : Int32) - p1) r_6) := ⟨_, rfl⟩
          rw [← e63] at he
          refine g_SNi (r := r_7) (As := [.int ((1 : Int32) - p1), .int r_6]) (rest := [.ref (a 23), .int (1 : Int32)]) ⟨hx, hb, hml, hown, hts⟩ hS hX (k_X10_place ((1 : Int32) - p1) r_6 r_7 e63) ⟨va_cnB 2 hts ggX1_enter_X10_place rfl rfl rfl (hS.2.1.at 32 rfl) l_w_19 (by decide +kernel) ⟨Nat.le_of_ble_eq_true rfl, Nat.le_of_ble_eq_true rfl⟩, l_w_18, trivial⟩ rfl hl.1 rfl (Nat.le_of_ble_eq_true rfl) dX1_enter_63 ⟨Nat.zero_le _, Nat.zero_le _⟩ (fun H locs hX => ?_)
          have k63_0 : (0 ≤ (((1 : Int32) - p1)).toInt ∧ (((1 : Int32) - p1)).toInt ≤ 1 ∧ 0 ≤ (r_6).toInt ∧ (r_6).toInt < 256) → (0 ≤ (r_7).toInt ∧ (r_7).toInt < 512) := by rw [e63]; exact r_place
          refine va_iald hx hb hS.1 hX.1 23 13 rfl rfl (vp_in_iff.mpr (by omega)) dX1_enter_66 ?_
          refine lv_iadd hx hb dX1_enter_67 ?_
          refine lv_istore (lv' := [(8, .int ((1 : Int32) + (lcuts (r_7).toNatClampNeg))), (7, .int r_6), (0, .ref (a 22)), (1, .int p1), (2, .int p2), (3, .int p3), (4, .int r_1), (5, .int x5_3), (6, .int x6_4)]) hx hb dX1_enter_68 hl (by decide) rfl (fun ls hl => ?_)
          refine lv_iload hx hb dX1_enter_70 (lv_at hl 6 rfl) ?_
          refine lv_if_ne (tgt := 87) hx hb dX1_enter_72 (by decide) (fun c72 => ?_) (fun c72 => ?_)
          · have he := he.trans (if_neg c72)
            have d72 := i_ne c72
            refine lv_aload_n hx hb dX1_enter_87 rfl (lv_at hl 2 rfl) ?_
            refine va_get (D := D) (ci := 1) (v := .ref (a 20)) (C := RX1) (T := TX1) (N := 3) hx hb hts hi_X1 hown hS.1 hX.1 22 rfl rfl 1 (by decide) l_fieldLink_19 (fun _ h9 => h9) rfl dX1_enter_88 ?_
            refine lv_iconst (v := (1 : Int32)) hx hb dX1_enter_91 (by decide) ?_
            refine lv_iload_n hx hb dX1_enter_92 rfl (lv_at hl 3 rfl) ?_
            refine lv_isub hx hb dX1_enter_93 ?_
            refine lv_iload hx hb dX1_enter_94 (lv_at hl 1 rfl) ?_
            obtain ⟨r_8, e96⟩ : ∃ z, z = (f_X4_isWonBy won ((1 : Int32) - p1) r_6) := ⟨_, rfl⟩
            rw [← e96] at he
            refine g_Vi (r := r_8) (As := [.int ((1 : Int32) - p1), .int r_6]) (rest := []) (ci := 4) (q0 := 20) ⟨hx, hb, hml, hown, hts⟩ hS hX (k_X4_isWonBy ((1 : Int32) - p1) r_6 (by omega) (by omega) r_8 e96) (cwV 2 hts gX1_enter_X4_isWonBy rfl rfl rfl (by decide +kernel) ⟨Nat.le_of_ble_eq_true rfl, Nat.le_of_ble_eq_true rfl⟩) rfl rfl rfl hl.1 rfl (Nat.le_of_ble_eq_true rfl) dX1_enter_96 ⟨Nat.zero_le _, Nat.zero_le _⟩ (fun H locs hX => ?_)
            refine lv_if_ne (tgt := 121) hx hb dX1_enter_99 (by decide) (fun c99 => ?_) (fun c99 => ?_)
            · have he := he.trans (if_neg c99)
              have d99 := i_ne c99
              refine lv_iinc (v := (x6_4 + (1 : Int32))) (lv' := [(6, .int (x6_4 + (1 : Int32))), (8, .int ((1 : Int32) + (lcuts (r_7).toNatClampNeg))), (7, .int r_6), (0, .ref (a 22)), (1, .int p1), (2, .int p2), (3, .int p3), (4, .int r_1), (5, .int x5_3)]) hx hb dX1_enter_121 hl (k := 8) rfl rfl (by decide) rfl (fun ls hl => ?_)
              have s121 := i_s1 (x := x6_4) (by omega)
              refine lv_goto (tgt := 17) hx hb dX1_enter_124 (by decide) ?_
              exact ih_L17_2 x5_3 (x6_4 + (1 : Int32)) (by omega) (by omega) he _ _ _ hX (lv_sub hl [3, 4, 5, 6, 7, 8, 0] rfl)
            · have he := he.trans (if_pos c99)
              have d99 := i_eq c99
              refine lv_iload hx hb dX1_enter_102 (lv_at hl 7 rfl) ?_
              refine lv_if_ne (tgt := 112) hx hb dX1_enter_104 (by decide) (fun c104 => ?_) (fun c104 => ?_)
              · have he := he.trans (if_neg c104)
                have d104 := i_ne c104
                refine lv_iload hx hb dX1_enter_112 (lv_at hl 7 rfl) ?_
                refine lv_iload hx hb dX1_enter_114 (lv_at hl 0 rfl) ?_
                refine va_mmin hx hb (hml.trans hl.1.symm) hown l_w_8 l_w_9 l_w_6 l_w_10 (Nat.le_of_ble_eq_true rfl) (Nat.le_of_ble_eq_true rfl) (Nat.zero_le _) (Nat.zero_le _) dX1_enter_116 ?_
                refine lv_istore (lv' := [(5, .int (if ((1 : Int32) + (lcuts (r_7).toNatClampNeg)) < x5_3 then ((1 : Int32) + (lcuts (r_7).toNatClampNeg)) else x5_3)), (8, .int ((1 : Int32) + (lcuts (r_7).toNatClampNeg))), (7, .int r_6), (0, .ref (a 22)), (1, .int p1), (2, .int p2), (3, .int p3), (4, .int r_1), (6, .int x6_4)]) hx hb dX1_enter_119 hl (by decide) rfl (fun ls hl => ?_)
                refine lv_iinc (v := (x6_4 + (1 : Int32))) (lv' := [(6, .int (x6_4 + (1 : Int32))), (5, .int (if ((1 : Int32) + (lcuts (r_7).toNatClampNeg)) < x5_3 then ((1 : Int32) + (lcuts (r_7).toNatClampNeg)) else x5_3)), (8, .int ((1 : Int32) + (lcuts (r_7).toNatClampNeg))), (7, .int r_6), (0, .ref (a 22)), (1, .int p1), (2, .int p2), (3, .int p3), (4, .int r_1)]) hx hb dX1_enter_121 hl (k := 8) rfl rfl (by decide) rfl (fun ls hl => ?_)
                have s121 := i_s1 (x := x6_4) (by omega)
                refine lv_goto (tgt := 17) hx hb dX1_enter_124 (by decide) ?_
                exact ih_L17_2 (if ((1 : Int32) + (lcuts (r_7).toNatClampNeg)) < x5_3 then ((1 : Int32) + (lcuts (r_7).toNatClampNeg)) else x5_3) (x6_4 + (1 : Int32)) (by omega) (by omega) he _ _ _ hX (lv_sub hl [4, 5, 6, 7, 8, 1, 0] rfl)
              · have he := he.trans (if_pos c104)
                have d104 := i_eq c104
                refine lv_iload hx hb dX1_enter_107 (lv_at hl 0 rfl) ?_
                refine lv_goto (tgt := 119) hx hb dX1_enter_109 (by decide) ?_
                refine lv_istore (lv' := [(5, .int ((1 : Int32) + (lcuts (r_7).toNatClampNeg))), (8, .int ((1 : Int32) + (lcuts (r_7).toNatClampNeg))), (7, .int r_6), (0, .ref (a 22)), (1, .int p1), (2, .int p2), (3, .int p3), (4, .int r_1), (6, .int x6_4)]) hx hb dX1_enter_119 hl (by decide) rfl (fun ls hl => ?_)
                refine lv_iinc (v := (x6_4 + (1 : Int32))) (lv' := [(6, .int (x6_4 + (1 : Int32))), (5, .int ((1 : Int32) + (lcuts (r_7).toNatClampNeg))), (8, .int ((1 : Int32) + (lcuts (r_7).toNatClampNeg))), (7, .int r_6), (0, .ref (a 22)), (1, .int p1), (2, .int p2), (3, .int p3), (4, .int r_1)]) hx hb dX1_enter_121 hl (k := 8) rfl rfl (by decide) rfl (fun ls hl => ?_)
                have s121 := i_s1 (x := x6_4) (by omega)
                refine lv_goto (tgt := 17) hx hb dX1_enter_124 (by decide) ?_
                exact ih_L17_2 ((1 : Int32) + (lcuts (r_7).toNatClampNeg)) (x6_4 + (1 : Int32)) (by omega) (by omega) he _ _ _ hX (lv_sub hl [4, 5, 6, 7, 8, 1, 0] rfl)
          · have he := he.trans (if_pos c72)
            have d72 := i_eq c72
            refine lv_iload hx hb dX1_enter_75 (lv_at hl 7 rfl) ?_
            refine lv_iload hx hb dX1_enter_77 (lv_at hl 0 rfl) ?_
            refine va_mmax hx hb (hml.trans hl.1.symm) hown l_w_4 l_w_5 l_w_6 l_w_7 (Nat.le_of_ble_eq_true rfl) (Nat.le_of_ble_eq_true rfl) (Nat.zero_le _) (Nat.zero_le _) dX1_enter_79 ?_
            refine lv_istore (lv' := [(5, .int (if x5_3 < ((1 : Int32) + (lcuts (r_7).toNatClampNeg)) then ((1 : Int32) + (lcuts (r_7).toNatClampNeg)) else x5_3)), (8, .int ((1 : Int32) + (lcuts (r_7).toNatClampNeg))), (7, .int r_6), (0, .ref (a 22)), (1, .int p1), (2, .int p2), (3, .int p3), (4, .int r_1), (6, .int x6_4)]) hx hb dX1_enter_82 hl (by decide) rfl (fun ls hl => ?_)
            refine lv_goto (tgt := 121) hx hb dX1_enter_84 (by decide) ?_
            refine lv_iinc (v := (x6_4 + (1 : Int32))) (lv' := [(6, .int (x6_4 + (1 : Int32))), (5, .int (if x5_3 < ((1 : Int32) + (lcuts (r_7).toNatClampNeg)) then ((1 : Int32) + (lcuts (r_7).toNatClampNeg)) else x5_3)), (8, .int ((1 : Int32) + (lcuts (r_7).toNatClampNeg))), (7, .int r_6), (0, .ref (a 22)), (1, .int p1), (2, .int p2), (3, .int p3), (4, .int r_1)]) hx hb dX1_enter_121 hl (k := 8) rfl rfl (by decide) rfl (fun ls hl => ?_)
            have s121 := i_s1 (x := x6_4) (by omega)
            refine lv_goto (tgt := 17) hx hb dX1_enter_124 (by decide) ?_
            exact ih_L17_2 (if x5_3 < ((1 : Int32) + (lcuts (r_7).toNatClampNeg)) then ((1 : Int32) + (lcuts (r_7).toNatClampNeg)) else x5_3) (x6_4 + (1 : Int32)) (by omega) (by omega) he _ _ _ hX (lv_sub hl [4, 5, 6, 7, 8, 1, 0] rfl)
  exact L17_2 9 (0 : Int32) (0 : Int32) (by omega) (by omega) he _ _ _ hX (lv_sub hl [3, 4, 5, 6, 2, 1, 0] rfl)
abbrev rm_X9_valueOf : Room := { frames := 0, cells := 0, slots := 0, locals := 0 }
set_option maxHeartbeats 4000000 in
set_option maxRecDepth 100000 in
theorem k_X9_valueOf {l : Launch} {D : va_G} {E : sE} {a : Nat → Nat} {cA : Nat → ClassId} {isCharted : Int32} {isKept : Int32} {hedgesRead : Int32} {evensDone : Int32} {plen : Int32} {number : Int32} {setCount : Int32} {standing : Int32} {turn : Int32} {cuts : Int32} {ssize : Int32} {kstanding : Int32} {kturn : Int32} {kcuts : Int32} {kssize : Int32} {seed : Int32} {whiteWon : Int32} {cutsDone : Int32} {lett : Nat → Int32} {onB : Nat → Int32} {abv : Nat → Int32} {sets : Nat → Int32} {kinds : Nat → Int32} {sbranches : Nat → Int32} {sbeginners : Nat → Int32} {swon : Nat → Int32} {kkinds : Nat → Int32} {ksbranches : Nat → Int32} {ksbeginners : Nat → Int32} {kswon : Nat → Int32} {lcuts : Nat → Int32} {valu : Nat → Int32} {won : Nat → Int64} {chance : Nat → Int64} (p1 : Int32) (hsx : 0 ≤ (p1).toInt ∧ (p1).toInt < 256) : ∀ q : Int32, q = f_X9_valueOf valu p1 → gMi l yX9_valueOf wsX9_valueOf rm_X9_valueOf D E (tG cA) [.ref (a 24), .int p1] (wG a cA isCharted isKept hedgesRead evensDone plen number setCount standing turn cuts ssize kstanding kturn kcuts kssize seed whiteWon cutsDone lett onB abv sets kinds sbranches sbeginners swon kkinds ksbranches ksbeginners kswon lcuts valu won chance) (wG a cA isCharted isKept hedgesRead evensDone plen number setCount standing turn cuts ssize kstanding kturn kcuts kssize seed whiteWon cutsDone lett onB abv sets kinds sbranches sbeginners swon kkinds ksbranches ksbeginners kswon lcuts valu won chance) q := by
  intro q he0
  refine gM_of (cc := cX9_valueOf) (maxL := 2) (ret := (some .int)) (Qf := gQi D (wG a cA isCharted isKept hedgesRead evensDone plen number setCount standing turn cuts ssize kstanding kturn kcuts kssize seed whiteWon cutsDone lett onB abv sets kinds sbranches sbeginners swon kkinds ksbranches ksbeginners kswon lcuts valu won chance) q) (by decide) rfl (Nat.le_of_ble_eq_true rfl) ?_
  intro p e s m args below meth c Z ls Qz hx hb hr hml hlocks hown hts hS hX hl hq
  have he := he0.trans f_X9_valueOf_s
  have hown : s.vm.findClass RX9 = some m.cls := hown
  have hl : lv_has ls 2 [(0, .ref (a 24)), (1, .int p1)] := hl
  have hi_X9 : ∀ w ∈ u_ws RX9 TX9 2, w ∈ wsX9_valueOf := fun _ h => List.mem_cons_of_mem _ (List.mem_append_right _ h)
  have l_fieldLink_9 := hts (Cond.fieldLink RX9 9 "HedgeGame$Values" "value" "[I") (List.mem_of_getElem? (i := 1) rfl)
  have t0 : ((0 : Int32)).toInt = 0 := rfl
  have t1 : ((1 : Int32)).toInt = 1 := rfl
  refine lv_aload_n hx hb dX9_valueOf_0 rfl (lv_at hl 0 rfl) ?_
  refine va_get (D := D) (ci := 9) (v := .ref (a 25)) (C := RX9) (T := TX9) (N := 2) hx hb hts hi_X9 hown hS.1 hX.1 24 rfl rfl 1 (by decide) l_fieldLink_9 (fun _ h9 => h9) rfl dX9_valueOf_1 ?_
  refine lv_iload_n hx hb dX9_valueOf_4 rfl (lv_at hl 1 rfl) ?_
  refine va_iald hx hb hS.1 hX.1 25 14 rfl rfl (vp_in_iff.mpr (by omega)) dX9_valueOf_5 ?_
  subst he
  exact g_iret hx hb hr hlocks hX hq rfl dX9_valueOf_6
abbrev rm_X9_simplestOf : Room := { frames := 1, cells := 0, slots := 0, locals := 26 }
set_option maxHeartbeats 4000000 in
set_option maxRecDepth 100000 in
theorem k_X9_simplestOf {l : Launch} {D : va_G} {E : sE} {a : Nat → Nat} {cA : Nat → ClassId} {isCharted : Int32} {isKept : Int32} {hedgesRead : Int32} {evensDone : Int32} {plen : Int32} {number : Int32} {setCount : Int32} {standing : Int32} {turn : Int32} {cuts : Int32} {ssize : Int32} {kstanding : Int32} {kturn : Int32} {kcuts : Int32} {kssize : Int32} {seed : Int32} {whiteWon : Int32} {cutsDone : Int32} {lett : Nat → Int32} {onB : Nat → Int32} {abv : Nat → Int32} {sets : Nat → Int32} {kinds : Nat → Int32} {sbranches : Nat → Int32} {sbeginners : Nat → Int32} {swon : Nat → Int32} {kkinds : Nat → Int32} {ksbranches : Nat → Int32} {ksbeginners : Nat → Int32} {kswon : Nat → Int32} {lcuts : Nat → Int32} {valu : Nat → Int32} {won : Nat → Int64} {chance : Nat → Int64} (p1 : Int32) (p2 : Int32) (p3 : Int32) (hnm : 0 ≤ (number).toInt ∧ (number).toInt ≤ 8) (hsx : 0 ≤ (p1).toInt ∧ (p1).toInt < 256) : ∀ q : Int32, q = f_X9_simplestOf number abv valu p1 p2 p3 → gMi l yX9_simplestOf wsX9_simplestOf rm_X9_simplestOf D E (tG cA) [.ref (a 24), .int p1, .int p2, .int p3] (wG a cA isCharted isKept hedgesRead evensDone plen number setCount standing turn cuts ssize kstanding kturn kcuts kssize seed whiteWon cutsDone lett onB abv sets kinds sbranches sbeginners swon kkinds ksbranches ksbeginners kswon lcuts valu won chance) (wG a cA isCharted isKept hedgesRead evensDone plen number setCount standing turn cuts ssize kstanding kturn kcuts kssize seed whiteWon cutsDone lett onB abv sets kinds sbranches sbeginners swon kkinds ksbranches ksbeginners kswon lcuts valu won chance) q := by
  intro q he0
  refine gM_of (cc := cX9_simplestOf) (maxL := 8) (ret := (some .int)) (Qf := gQi D (wG a cA isCharted isKept hedgesRead evensDone plen number setCount standing turn cuts ssize kstanding kturn kcuts kssize seed whiteWon cutsDone lett onB abv sets kinds sbranches sbeginners swon kkinds ksbranches ksbeginners kswon lcuts valu won chance) q) (by decide) rfl (Nat.le_of_ble_eq_true rfl) ?_
  intro p e s m args below meth c Z ls Qz hx hb hr hml hlocks hown hts hS hX hl hq
  have he := he0.trans f_X9_simplestOf_s
  have hown : s.vm.findClass RX9 = some m.cls := hown
  have hl : lv_has ls 8 [(0, .ref (a 24)), (1, .int p1), (2, .int p2), (3, .int p3)] := hl
  have hi_X6 : ∀ w ∈ u_ws RX6 TX6 2, w ∈ wsX9_simplestOf := fun _ h => List.mem_cons_of_mem _ (List.mem_append_left _ (List.mem_append_right _ h))
  have hi_X8 : ∀ w ∈ u_ws RX8 TX8 5, w ∈ wsX9_simplestOf := fun _ h => List.mem_cons_of_mem _ (List.mem_append_right _ h)
  have hi_X9 : ∀ w ∈ u_ws RX9 TX9 2, w ∈ wsX9_simplestOf := fun _ h => List.mem_cons_of_mem _ (List.mem_append_left _ (List.mem_append_left _ (List.mem_append_right _ h)))
  have l_constant_23 := hts (Cond.constant RX9 23 (-1048576)) (List.mem_of_getElem? (i := 1) rfl)
  have l_constant_24 := hts (Cond.constant RX9 24 (1048576)) (List.mem_of_getElem? (i := 2) rfl)
  have l_fieldLink_15 := hts (Cond.fieldLink RX9 15 "HedgeGame$Values" "rules" "LHedgeGame$Rules;") (List.mem_of_getElem? (i := 3) rfl)
  have l_fieldLink_9 := hts (Cond.fieldLink RX9 9 "HedgeGame$Values" "value" "[I") (List.mem_of_getElem? (i := 4) rfl)
  have l_w_10 := hts (Cond.static Lib.Math.min.name) (List.mem_of_getElem? (i := 10) rfl)
  have l_w_11 := hts (Cond.code Lib.Math.min.name Lib.Math.min.code 2 (some .int)) (List.mem_of_getElem? (i := 11) rfl)
  have l_w_5 := hts (Cond.methodLink RX9 41 Lib.Math.max.name) (List.mem_of_getElem? (i := 5) rfl)
  have l_w_6 := hts (Cond.static Lib.Math.max.name) (List.mem_of_getElem? (i := 6) rfl)
  have l_w_7 := hts (Cond.initialized "java/lang/Math") (List.mem_of_getElem? (i := 7) rfl)
  have l_w_8 := hts (Cond.code Lib.Math.max.name Lib.Math.max.code 2 (some .int)) (List.mem_of_getElem? (i := 8) rfl)
  have l_w_9 := hts (Cond.methodLink RX9 46 Lib.Math.min.name) (List.mem_of_getElem? (i := 9) rfl)
  have tm1048576 : ((-1048576 : Int32)).toInt = -1048576 := rfl
  have tm9999 : ((-9999 : Int32)).toInt = -9999 := rfl
  have t0 : ((0 : Int32)).toInt = 0 := rfl
  have t1 : ((1 : Int32)).toInt = 1 := rfl
  have t1048576 : ((1048576 : Int32)).toInt = 1048576 := rfl
  refine lv_ldc (v := (-1048576 : Int32)) hx hb hown l_constant_23 dX9_simplestOf_0 ?_
  refine lv_istore (lv' := [(4, .int (-1048576 : Int32)), (0, .ref (a 24)), (1, .int p1), (2, .int p2), (3, .int p3)]) hx hb dX9_simplestOf_2 hl (by decide) rfl (fun ls hl => ?_)
  refine lv_ldc (v := (1048576 : Int32)) hx hb hown l_constant_24 dX9_simplestOf_4 ?_
  refine lv_istore (lv' := [(5, .int (1048576 : Int32)), (4, .int (-1048576 : Int32)), (0, .ref (a 24)), (1, .int p1), (2, .int p2), (3, .int p3)]) hx hb dX9_simplestOf_6 hl (by decide) rfl (fun ls hl => ?_)
  refine lv_iconst (v := (0 : Int32)) hx hb dX9_simplestOf_8 (by decide) ?_
  refine lv_istore (lv' := [(6, .int (0 : Int32)), (5, .int (1048576 : Int32)), (4, .int (-1048576 : Int32)), (0, .ref (a 24)), (1, .int p1), (2, .int p2), (3, .int p3)]) hx hb dX9_simplestOf_9 hl (by decide) rfl (fun ls hl => ?_)
  have L11_1 : ∀ (n_11_1 : Nat) (x4_2 : Int32) (x5_3 : Int32) (x6_4 : Int32), 0 ≤ (x6_4).toInt ∧ (x6_4).toInt ≤ 8 → 8 - (x6_4).toInt < (n_11_1 : Int) → q = f_X9_simplestOf_L11 n_11_1 number abv valu p1 p2 p3 x4_2 x5_3 x6_4 → ∀ (H : Heap) (locs : List Loc) (ls : Array Slot), gX D Z s (wG a cA isCharted isKept hedgesRead evensDone plen number setCount standing turn cuts ssize kstanding kturn kcuts kssize seed whiteWon cutsDone lett onB abv sets kinds sbranches sbeginners swon kkinds ksbranches ksbeginners kswon lcuts valu won chance) H locs → lv_has ls 8 [(0, .ref (a 24)), (1, .int p1), (2, .int p2), (3, .int p3), (4, .int x4_2), (5, .int x5_3), (6, .int x6_4)] → W p l e rm_X9_simplestOf s m args below meth c H locs 0 0 Qz (F0 m 11 ls []) := by
    intro n_11_1
    induction n_11_1 with
    | zero =>
      intro x4_2 x5_3 x6_4 ia ifu _ _ _ _ _ _
      exfalso; omega
    | succ n_11_1 ih_L11_1 =>
      intro x4_2 x5_3 x6_4 ia ifu he H locs ls hX hl
      have he := he.trans f_X9_simplestOf_L11_s
      refine lv_iload hx hb dX9_simplestOf_11 (lv_at hl 6 rfl) ?_
      refine lv_aload_n hx hb dX9_simplestOf_13 rfl (lv_at hl 0 rfl) ?_
      refine va_get (D := D) (ci := 9) (v := .ref (a 19)) (C := RX9) (T := TX9) (N := 2) hx hb hts hi_X9 hown hS.1 hX.1 24 rfl rfl 0 (by decide) l_fieldLink_15 (fun _ h9 => h9) rfl dX9_simplestOf_14 ?_
      refine va_getN (D := D) (ci := 6) (v := .ref (a 3)) (C := RX6) (T := TX6) (N := 2) hx hb hts hi_X6 hown hS.1 hX.1 19 rfl rfl 0 (by decide) (hS.2.1.get 26 rfl) (fun _ h9 => h9) rfl dX9_simplestOf_17 ?_
      refine va_getN (D := D) (ci := 8) (v := .int number) (C := RX8) (T := TX8) (N := 5) hx hb hts hi_X8 hown hS.1 hX.1 3 rfl rfl 0 (by decide) (hS.2.1.get 4 rfl) (fun _ h9 => h9) rfl dX9_simplestOf_20 ?_
      refine lv_icmp_ge (tgt := 108) hx hb dX9_simplestOf_23 (by decide) (fun c23 => ?_) (fun c23 => ?_)
      · have he := he.trans (if_pos c23)
        have d23 := i_le c23
        refine lv_iload hx hb dX9_simplestOf_108 (lv_at hl 4 rfl) ?_
        refine lv_iload hx hb dX9_simplestOf_110 (lv_at hl 5 rfl) ?_
        refine lv_icmp_ge (tgt := 125) hx hb dX9_simplestOf_112 (by decide) (fun c112 => ?_) (fun c112 => ?_)
        · have he := he.trans (if_pos c112)
          have d112 := i_le c112
          refine lv_sipush (v := (-9999 : Int32)) hx hb dX9_simplestOf_125 (by decide) ?_
          subst he
          exact g_iret hx hb hr hlocks hX hq rfl dX9_simplestOf_128
        · have he := he.trans (if_neg c112)
          have d112 := i_nle c112
          refine lv_iload hx hb dX9_simplestOf_115 (lv_at hl 4 rfl) ?_
          refine lv_iload hx hb dX9_simplestOf_117 (lv_at hl 5 rfl) ?_
          obtain ⟨r_5, e119⟩ : ∃ z, z = (f_X9_simplestBetween x4_2 x5_3) := ⟨_, rfl⟩
          rw [← e119] at he
          refine g_Si (r := r_5) (As := [.int x4_2, .int x5_3]) (rest := []) ⟨hx, hb, hml, hown, hts⟩ hS hX (k_X9_simplestBetween x4_2 x5_3 r_5 e119) (va_cwS 2 hts gX9_simplestOf_X9_simplestBetween rfl rfl rfl (by decide +kernel) ⟨Nat.le_of_ble_eq_true rfl, Nat.le_of_ble_eq_true rfl⟩) rfl hl.1 rfl (Nat.le_of_ble_eq_true rfl) dX9_simplestOf_119 ⟨Nat.zero_le _, Nat.zero_le _⟩ (fun H locs hX => ?_)
          refine lv_goto (tgt := 128) hx hb dX9_simplestOf_122 (by decide) ?_
          subst he
          exact g_iret hx hb hr hlocks hX hq rfl dX9_simplestOf_128
      · have he := he.trans (if_neg c23)
        have d23 := i_nle c23
        refine lv_iload_n hx hb dX9_simplestOf_26 rfl (lv_at hl 2 rfl) ?_
        refine lv_iload_n hx hb dX9_simplestOf_27 rfl (lv_at hl 3 rfl) ?_
        refine lv_ior hx hb dX9_simplestOf_28 ?_
        refine lv_iload hx hb dX9_simplestOf_29 (lv_at hl 6 rfl) ?_
        refine lv_ishr hx hb dX9_simplestOf_31 ?_
        refine lv_iconst (v := (1 : Int32)) hx hb dX9_simplestOf_32 (by decide) ?_
        refine lv_iand hx hb dX9_simplestOf_33 ?_
        refine lv_if_eq (tgt := 102) hx hb dX9_simplestOf_34 (by decide) (fun c34 => ?_) (fun c34 => ?_)
        · have he := he.trans (if_pos c34)
          have d34 := i_eq c34
          refine lv_iinc (v := (x6_4 + (1 : Int32))) (lv' := [(6, .int (x6_4 + (1 : Int32))), (0, .ref (a 24)), (1, .int p1), (2, .int p2), (3, .int p3), (4, .int x4_2), (5, .int x5_3)]) hx hb dX9_simplestOf_102 hl (k := 6) rfl rfl (by decide) rfl (fun ls hl => ?_)
          have s102 := i_s1 (x := x6_4) (by omega)
          refine lv_goto (tgt := 11) hx hb dX9_simplestOf_105 (by decide) ?_
          exact ih_L11_1 x4_2 x5_3 (x6_4 + (1 : Int32)) (by omega) (by omega) he _ _ _ hX (lv_sub hl [1, 2, 3, 4, 5, 6, 0] rfl)
        · have he := he.trans (if_neg c34)
          have d34 := i_ne c34
          refine lv_aload_n hx hb dX9_simplestOf_37 rfl (lv_at hl 0 rfl) ?_
          refine va_get (D := D) (ci := 9) (v := .ref (a 25)) (C := RX9) (T := TX9) (N := 2) hx hb hts hi_X9 hown hS.1 hX.1 24 rfl rfl 1 (by decide) l_fieldLink_9 (fun _ h9 => h9) rfl dX9_simplestOf_38 ?_
          refine lv_aload_n hx hb dX9_simplestOf_41 rfl (lv_at hl 0 rfl) ?_
          refine va_get (D := D) (ci := 9) (v := .ref (a 19)) (C := RX9) (T := TX9) (N := 2) hx hb hts hi_X9 hown hS.1 hX.1 24 rfl rfl 0 (by decide) l_fieldLink_15 (fun _ h9 => h9) rfl dX9_simplestOf_42 ?_
          refine lv_iload hx hb dX9_simplestOf_45 (lv_at hl 6 rfl) ?_
          refine lv_iload_n hx hb dX9_simplestOf_47 rfl (lv_at hl 1 rfl) ?_
          obtain ⟨r_6, e48⟩ : ∃ z, z = (f_X6_leftBy abv x6_4 p1) := ⟨_, rfl⟩
          rw [← e48] at he
          refine g_Vi (r := r_6) (As := [.int x6_4, .int p1]) (rest := [.ref (a 25)]) (ci := 6) (q0 := 19) ⟨hx, hb, hml, hown, hts⟩ hS hX (k_X6_leftBy x6_4 p1 (by omega) r_6 e48) (cwV 2 hts gX9_simplestOf_X6_leftBy rfl rfl rfl (by decide +kernel) ⟨Nat.le_of_ble_eq_true rfl, Nat.le_of_ble_eq_true rfl⟩) rfl rfl rfl hl.1 rfl (Nat.le_of_ble_eq_true rfl) dX9_simplestOf_48 ⟨Nat.zero_le _, Nat.zero_le _⟩ (fun H locs hX => ?_)
          have k48_0 : 0 ≤ (p1).toInt → (0 ≤ (r_6).toInt ∧ (r_6).toInt ≤ (p1).toInt) := by rw [e48]; exact r_leftBy
          refine va_iald hx hb hS.1 hX.1 25 14 rfl rfl (vp_in_iff.mpr (by omega)) dX9_simplestOf_51 ?_
          refine lv_istore (lv' := [(7, .int (valu (r_6).toNatClampNeg)), (0, .ref (a 24)), (1, .int p1), (2, .int p2), (3, .int p3), (4, .int x4_2), (5, .int x5_3), (6, .int x6_4)]) hx hb dX9_simplestOf_52 hl (by decide) rfl (fun ls hl => ?_)
          refine lv_iload hx hb dX9_simplestOf_54 (lv_at hl 0 rfl) ?_
          refine lv_sipush (v := (-9999 : Int32)) hx hb dX9_simplestOf_56 (by decide) ?_
          refine lv_icmp_ne (tgt := 66) hx hb dX9_simplestOf_59 (by decide) (fun c59 => ?_) (fun c59 => ?_)
          · have he := he.trans (if_neg c59)
            have d59 := i_ne c59
            refine lv_iload_n hx hb dX9_simplestOf_66 rfl (lv_at hl 3 rfl) ?_
            refine lv_iload hx hb dX9_simplestOf_67 (lv_at hl 7 rfl) ?_
            refine lv_ishr hx hb dX9_simplestOf_69 ?_
            refine lv_iconst (v := (1 : Int32)) hx hb dX9_simplestOf_70 (by decide) ?_
            refine lv_iand hx hb dX9_simplestOf_71 ?_
            refine lv_if_eq (tgt := 84) hx hb dX9_simplestOf_72 (by decide) (fun c72 => ?_) (fun c72 => ?_)
            · have he := he.trans (if_pos c72)
              have d72 := i_eq c72
              refine lv_iload_n hx hb dX9_simplestOf_84 rfl (lv_at hl 4 rfl) ?_
              refine lv_iload hx hb dX9_simplestOf_85 (lv_at hl 7 rfl) ?_
              refine lv_ishr hx hb dX9_simplestOf_87 ?_
              refine lv_iconst (v := (1 : Int32)) hx hb dX9_simplestOf_88 (by decide) ?_
              refine lv_iand hx hb dX9_simplestOf_89 ?_
              refine lv_if_eq (tgt := 102) hx hb dX9_simplestOf_90 (by decide) (fun c90 => ?_) (fun c90 => ?_)
              · have he := he.trans (if_pos c90)
                have d90 := i_eq c90
                refine lv_iinc (v := (x6_4 + (1 : Int32))) (lv' := [(6, .int (x6_4 + (1 : Int32))), (7, .int (valu (r_6).toNatClampNeg)), (0, .ref (a 24)), (1, .int p1), (2, .int p2), (3, .int p3), (4, .int x4_2), (5, .int x5_3)]) hx hb dX9_simplestOf_102 hl (k := 7) rfl rfl (by decide) rfl (fun ls hl => ?_)
                have s102 := i_s1 (x := x6_4) (by omega)
                refine lv_goto (tgt := 11) hx hb dX9_simplestOf_105 (by decide) ?_
                exact ih_L11_1 x4_2 x5_3 (x6_4 + (1 : Int32)) (by omega) (by omega) he _ _ _ hX (lv_sub hl [2, 3, 4, 5, 6, 7, 0] rfl)
              · have he := he.trans (if_neg c90)
                have d90 := i_ne c90
                refine lv_iload hx hb dX9_simplestOf_93 (lv_at hl 6 rfl) ?_
                refine lv_iload hx hb dX9_simplestOf_95 (lv_at hl 0 rfl) ?_
                refine va_mmin hx hb (hml.trans hl.1.symm) hown l_w_9 l_w_10 l_w_7 l_w_11 (Nat.le_of_ble_eq_true rfl) (Nat.le_of_ble_eq_true rfl) (Nat.zero_le _) (Nat.zero_le _) dX9_simplestOf_97 ?_
                refine lv_istore (lv' := [(5, .int (if (valu (r_6).toNatClampNeg) < x5_3 then (valu (r_6).toNatClampNeg) else x5_3)), (7, .int (valu (r_6).toNatClampNeg)), (0, .ref (a 24)), (1, .int p1), (2, .int p2), (3, .int p3), (4, .int x4_2), (6, .int x6_4)]) hx hb dX9_simplestOf_100 hl (by decide) rfl (fun ls hl => ?_)
                refine lv_iinc (v := (x6_4 + (1 : Int32))) (lv' := [(6, .int (x6_4 + (1 : Int32))), (5, .int (if (valu (r_6).toNatClampNeg) < x5_3 then (valu (r_6).toNatClampNeg) else x5_3)), (7, .int (valu (r_6).toNatClampNeg)), (0, .ref (a 24)), (1, .int p1), (2, .int p2), (3, .int p3), (4, .int x4_2)]) hx hb dX9_simplestOf_102 hl (k := 7) rfl rfl (by decide) rfl (fun ls hl => ?_)
                have s102 := i_s1 (x := x6_4) (by omega)
                refine lv_goto (tgt := 11) hx hb dX9_simplestOf_105 (by decide) ?_
                exact ih_L11_1 x4_2 (if (valu (r_6).toNatClampNeg) < x5_3 then (valu (r_6).toNatClampNeg) else x5_3) (x6_4 + (1 : Int32)) (by omega) (by omega) he _ _ _ hX (lv_sub hl [3, 4, 5, 6, 7, 1, 0] rfl)
            · have he := he.trans (if_neg c72)
              have d72 := i_ne c72
              refine lv_iload hx hb dX9_simplestOf_75 (lv_at hl 5 rfl) ?_
              refine lv_iload hx hb dX9_simplestOf_77 (lv_at hl 0 rfl) ?_
              refine va_mmax hx hb (hml.trans hl.1.symm) hown l_w_5 l_w_6 l_w_7 l_w_8 (Nat.le_of_ble_eq_true rfl) (Nat.le_of_ble_eq_true rfl) (Nat.zero_le _) (Nat.zero_le _) dX9_simplestOf_79 ?_
              refine lv_istore (lv' := [(4, .int (if x4_2 < (valu (r_6).toNatClampNeg) then (valu (r_6).toNatClampNeg) else x4_2)), (7, .int (valu (r_6).toNatClampNeg)), (0, .ref (a 24)), (1, .int p1), (2, .int p2), (3, .int p3), (5, .int x5_3), (6, .int x6_4)]) hx hb dX9_simplestOf_82 hl (by decide) rfl (fun ls hl => ?_)
              refine lv_iload_n hx hb dX9_simplestOf_84 rfl (lv_at hl 5 rfl) ?_
              refine lv_iload hx hb dX9_simplestOf_85 (lv_at hl 7 rfl) ?_
              refine lv_ishr hx hb dX9_simplestOf_87 ?_
              refine lv_iconst (v := (1 : Int32)) hx hb dX9_simplestOf_88 (by decide) ?_
              refine lv_iand hx hb dX9_simplestOf_89 ?_
              refine lv_if_eq (tgt := 102) hx hb dX9_simplestOf_90 (by decide) (fun c90 => ?_) (fun c90 => ?_)
              · have he := he.trans (if_pos c90)
                have d90 := i_eq c90
                refine lv_iinc (v := (x6_4 + (1 : Int32))) (lv' := [(6, .int (x6_4 + (1 : Int32))), (4, .int (if x4_2 < (valu (r_6).toNatClampNeg) then (valu (r_6).toNatClampNeg) else x4_2)), (7, .int (valu (r_6).toNatClampNeg)), (0, .ref (a 24)), (1, .int p1), (2, .int p2), (3, .int p3), (5, .int x5_3)]) hx hb dX9_simplestOf_102 hl (k := 7) rfl rfl (by decide) rfl (fun ls hl => ?_)
                have s102 := i_s1 (x := x6_4) (by omega)
                refine lv_goto (tgt := 11) hx hb dX9_simplestOf_105 (by decide) ?_
                exact ih_L11_1 (if x4_2 < (valu (r_6).toNatClampNeg) then (valu (r_6).toNatClampNeg) else x4_2) x5_3 (x6_4 + (1 : Int32)) (by omega) (by omega) he _ _ _ hX (lv_sub hl [3, 4, 5, 6, 1, 7, 0] rfl)
              · have he := he.trans (if_neg c90)
                have d90 := i_ne c90
                refine lv_iload hx hb dX9_simplestOf_93 (lv_at hl 6 rfl) ?_
                refine lv_iload hx hb dX9_simplestOf_95 (lv_at hl 1 rfl) ?_
                refine va_mmin hx hb (hml.trans hl.1.symm) hown l_w_9 l_w_10 l_w_7 l_w_11 (Nat.le_of_ble_eq_true rfl) (Nat.le_of_ble_eq_true rfl) (Nat.zero_le _) (Nat.zero_le _) dX9_simplestOf_97 ?_
                refine lv_istore (lv' := [(5, .int (if (valu (r_6).toNatClampNeg) < x5_3 then (valu (r_6).toNatClampNeg) else x5_3)), (4, .int (if x4_2 < (valu (r_6).toNatClampNeg) then (valu (r_6).toNatClampNeg) else x4_2)), (7, .int (valu (r_6).toNatClampNeg)), (0, .ref (a 24)), (1, .int p1), (2, .int p2), (3, .int p3), (6, .int x6_4)]) hx hb dX9_simplestOf_100 hl (by decide) rfl (fun ls hl => ?_)
                refine lv_iinc (v := (x6_4 + (1 : Int32))) (lv' := [(6, .int (x6_4 + (1 : Int32))), (5, .int (if (valu (r_6).toNatClampNeg) < x5_3 then (valu (r_6).toNatClampNeg) else x5_3)), (4, .int (if x4_2 < (valu (r_6).toNatClampNeg) then (valu (r_6).toNatClampNeg) else x4_2)), (7, .int (valu (r_6).toNatClampNeg)), (0, .ref (a 24)), (1, .int p1), (2, .int p2), (3, .int p3)]) hx hb dX9_simplestOf_102 hl (k := 7) rfl rfl (by decide) rfl (fun ls hl => ?_)
                have s102 := i_s1 (x := x6_4) (by omega)
                refine lv_goto (tgt := 11) hx hb dX9_simplestOf_105 (by decide) ?_
                exact ih_L11_1 (if x4_2 < (valu (r_6).toNatClampNeg) then (valu (r_6).toNatClampNeg) else x4_2) (if (valu (r_6).toNatClampNeg) < x5_3 then (valu (r_6).toNatClampNeg) else x5_3) (x6_4 + (1 : Int32)) (by omega) (by omega) he _ _ _ hX (lv_sub hl [4, 5, 6, 7, 2, 1, 0] rfl)
          · have he := he.trans (if_pos c59)
            have d59 := i_eq c59
            refine lv_sipush (v := (-9999 : Int32)) hx hb dX9_simplestOf_62 (by decide) ?_
            subst he
            exact g_iret hx hb hr hlocks hX hq rfl dX9_simplestOf_65
  exact L11_1 9 (-1048576 : Int32) (1048576 : Int32) (0 : Int32) (by omega) (by omega) he _ _ _ hX (lv_sub hl [3, 4, 5, 6, 2, 1, 0] rfl)
abbrev rm_X9_enter : Room := { frames := 2, cells := 0, slots := 0, locals := 53 }
set_option maxHeartbeats 4000000 in
set_option maxRecDepth 100000 in
theorem k_X9_enter {l : Launch} {D : va_G} {E : sE} {a : Nat → Nat} {cA : Nat → ClassId} {isCharted : Int32} {isKept : Int32} {hedgesRead : Int32} {evensDone : Int32} {plen : Int32} {number : Int32} {setCount : Int32} {standing : Int32} {turn : Int32} {cuts : Int32} {ssize : Int32} {kstanding : Int32} {kturn : Int32} {kcuts : Int32} {kssize : Int32} {seed : Int32} {whiteWon : Int32} {cutsDone : Int32} {lett : Nat → Int32} {onB : Nat → Int32} {abv : Nat → Int32} {sets : Nat → Int32} {kinds : Nat → Int32} {sbranches : Nat → Int32} {sbeginners : Nat → Int32} {swon : Nat → Int32} {kkinds : Nat → Int32} {ksbranches : Nat → Int32} {ksbeginners : Nat → Int32} {kswon : Nat → Int32} {lcuts : Nat → Int32} {valu : Nat → Int32} {won : Nat → Int64} {chance : Nat → Int64} (p1 : Int32) (p2 : Int32) (p3 : Int32) (hnm : 0 ≤ (number).toInt ∧ (number).toInt ≤ 8) (hsx : 0 ≤ (p1).toInt ∧ (p1).toInt < 256) : ∀ q : (Nat → Int32), q = f_X9_enter number abv valu p1 p2 p3 → gMv l yX9_enter wsX9_enter rm_X9_enter D E (tG cA) [.ref (a 24), .int p1, .int p2, .int p3] (wG a cA isCharted isKept hedgesRead evensDone plen number setCount standing turn cuts ssize kstanding kturn kcuts kssize seed whiteWon cutsDone lett onB abv sets kinds sbranches sbeginners swon kkinds ksbranches ksbeginners kswon lcuts valu won chance) (wG a cA isCharted isKept hedgesRead evensDone plen number setCount standing turn cuts ssize kstanding kturn kcuts kssize seed whiteWon cutsDone lett onB abv sets kinds sbranches sbeginners swon kkinds ksbranches ksbeginners kswon lcuts q won chance) := by
  intro q he0
  refine gM_of (cc := cX9_enter) (maxL := 4) (ret := none) (Qf := gQv D (wG a cA isCharted isKept hedgesRead evensDone plen number setCount standing turn cuts ssize kstanding kturn kcuts kssize seed whiteWon cutsDone lett onB abv sets kinds sbranches sbeginners swon kkinds ksbranches ksbeginners kswon lcuts q won chance)) (by decide) rfl (Nat.le_of_ble_eq_true rfl) ?_
  intro p e s m args below meth c Z ls Qz hx hb hr hml hlocks hown hts hS hX hl hq
  have he := he0.trans f_X9_enter_s
  have hown : s.vm.findClass RX9 = some m.cls := hown
  have hl : lv_has ls 4 [(0, .ref (a 24)), (1, .int p1), (2, .int p2), (3, .int p3)] := hl
  have hi_X9 : ∀ w ∈ u_ws RX9 TX9 2, w ∈ wsX9_enter := fun _ h => List.mem_cons_of_mem _ (List.mem_append_left _ (List.mem_append_left _ (List.mem_append_right _ h)))
  have l_fieldLink_9 := hts (Cond.fieldLink RX9 9 "HedgeGame$Values" "value" "[I") (List.mem_of_getElem? (i := 1) rfl)
  have t0 : ((0 : Int32)).toInt = 0 := rfl
  have t1 : ((1 : Int32)).toInt = 1 := rfl
  refine lv_aload_n hx hb dX9_enter_0 rfl (lv_at hl 0 rfl) ?_
  refine va_get (D := D) (ci := 9) (v := .ref (a 25)) (C := RX9) (T := TX9) (N := 2) hx hb hts hi_X9 hown hS.1 hX.1 24 rfl rfl 1 (by decide) l_fieldLink_9 (fun _ h9 => h9) rfl dX9_enter_1 ?_
  refine lv_iload_n hx hb dX9_enter_4 rfl (lv_at hl 1 rfl) ?_
  refine lv_aload_n hx hb dX9_enter_5 rfl (lv_at hl 0 rfl) ?_
  refine lv_iload_n hx hb dX9_enter_6 rfl (lv_at hl 1 rfl) ?_
  refine lv_iload_n hx hb dX9_enter_7 rfl (lv_at hl 2 rfl) ?_
  refine lv_iload_n hx hb dX9_enter_8 rfl (lv_at hl 3 rfl) ?_
  obtain ⟨r_1, e9⟩ : ∃ z, z = (f_X9_simplestOf number abv valu p1 p2 p3) := ⟨_, rfl⟩
  rw [← e9] at he
  refine g_Vi (r := r_1) (As := [.int p1, .int p2, .int p3]) (rest := [.int p1, .ref (a 25)]) (ci := 9) (q0 := 24) ⟨hx, hb, hml, hown, hts⟩ hS hX (k_X9_simplestOf p1 p2 p3 (by omega) (by omega) r_1 e9) (cwV 3 hts gX9_enter_X9_simplestOf rfl rfl rfl (by decide +kernel) ⟨Nat.le_of_ble_eq_true rfl, Nat.le_of_ble_eq_true rfl⟩) rfl rfl rfl hl.1 rfl (Nat.le_of_ble_eq_true rfl) dX9_enter_9 ⟨Nat.zero_le _, Nat.zero_le _⟩ (fun H locs hX => ?_)
  refine va_iast hx hb hS.1 hX.1 hX.2.1 hX.2.2 25 14 rfl rfl (vp_in_iff.mpr (by omega)) dX9_enter_12 (fun H locs hP hD hs => ?_)
  have hX : gX D Z s (wG a cA isCharted isKept hedgesRead evensDone plen number setCount standing turn cuts ssize kstanding kturn kcuts kssize seed whiteWon cutsDone lett onB abv sets kinds sbranches sbeginners swon kkinds ksbranches ksbeginners kswon lcuts (upd valu (p1).toNatClampNeg r_1) won chance) H locs := ⟨hP, hD, hs⟩
  subst he
  exact g_vret hx hb hr hlocks hX hq dX9_enter_13
abbrev rm_X0_millionths : Room := { frames := 1, cells := 0, slots := 0, locals := 21 }
set_option maxHeartbeats 4000000 in
set_option maxRecDepth 100000 in
theorem k_X0_millionths {l : Launch} {D : va_G} {E : sE} {a : Nat → Nat} {cA : Nat → ClassId} {isCharted : Int32} {isKept : Int32} {hedgesRead : Int32} {evensDone : Int32} {plen : Int32} {number : Int32} {setCount : Int32} {standing : Int32} {turn : Int32} {cuts : Int32} {ssize : Int32} {kstanding : Int32} {kturn : Int32} {kcuts : Int32} {kssize : Int32} {seed : Int32} {whiteWon : Int32} {cutsDone : Int32} {lett : Nat → Int32} {onB : Nat → Int32} {abv : Nat → Int32} {sets : Nat → Int32} {kinds : Nat → Int32} {sbranches : Nat → Int32} {sbeginners : Nat → Int32} {swon : Nat → Int32} {kkinds : Nat → Int32} {ksbranches : Nat → Int32} {ksbeginners : Nat → Int32} {kswon : Nat → Int32} {lcuts : Nat → Int32} {valu : Nat → Int32} {won : Nat → Int64} {chance : Nat → Int64} (p1 : Int32) (p2 : Int32) (hwx : 0 ≤ (p1).toInt ∧ (p1).toInt ≤ 1) (hsx : 0 ≤ (p2).toInt ∧ (p2).toInt < 256) : ∀ q : Int32, q = f_X0_millionths chance p1 p2 → gMi l yX0_millionths wsX0_millionths rm_X0_millionths D E (tG cA) [.ref (a 26), .int p1, .int p2] (wG a cA isCharted isKept hedgesRead evensDone plen number setCount standing turn cuts ssize kstanding kturn kcuts kssize seed whiteWon cutsDone lett onB abv sets kinds sbranches sbeginners swon kkinds ksbranches ksbeginners kswon lcuts valu won chance) (wG a cA isCharted isKept hedgesRead evensDone plen number setCount standing turn cuts ssize kstanding kturn kcuts kssize seed whiteWon cutsDone lett onB abv sets kinds sbranches sbeginners swon kkinds ksbranches ksbeginners kswon lcuts valu won chance) q := by
  intro q he0
  refine gM_of (cc := cX0_millionths) (maxL := 3) (ret := (some .int)) (Qf := gQi D (wG a cA isCharted isKept hedgesRead evensDone plen number setCount standing turn cuts ssize kstanding kturn kcuts kssize seed whiteWon cutsDone lett onB abv sets kinds sbranches sbeginners swon kkinds ksbranches ksbeginners kswon lcuts valu won chance) q) (by decide) rfl (Nat.le_of_ble_eq_true rfl) ?_
  intro p e s m args below meth c Z ls Qz hx hb hr hml hlocks hown hts hS hX hl hq
  have he := he0.trans f_X0_millionths_s
  have hown : s.vm.findClass RX0 = some m.cls := hown
  have hl : lv_has ls 3 [(0, .ref (a 26)), (1, .int p1), (2, .int p2)] := hl
  have hi_X0 : ∀ w ∈ u_ws RX0 TX0 2, w ∈ wsX0_millionths := fun _ h => List.mem_cons_of_mem _ (List.mem_append_right _ h)
  have l_constantLong_23 := hts (Cond.constantLong RX0 23 (1000000)) (List.mem_of_getElem? (i := 2) rfl)
  have l_constantLong_25 := hts (Cond.constantLong RX0 25 (182891520000)) (List.mem_of_getElem? (i := 3) rfl)
  have l_fieldLink_9 := hts (Cond.fieldLink RX0 9 "HedgeGame$Chances" "chance" "[J") (List.mem_of_getElem? (i := 1) rfl)
  have l_w_4 := hts (Cond.static yX10_place) (List.mem_of_getElem? (i := 4) rfl)
  have l_w_5 := hts (Cond.initialized RX10) (List.mem_of_getElem? (i := 5) rfl)
  have t0 : ((0 : Int32)).toInt = 0 := rfl
  have t1 : ((1 : Int32)).toInt = 1 := rfl
  refine lv_aload_n hx hb dX0_millionths_0 rfl (lv_at hl 0 rfl) ?_
  refine va_get (D := D) (ci := 0) (v := .ref (a 27)) (C := RX0) (T := TX0) (N := 2) hx hb hts hi_X0 hown hS.1 hX.1 26 rfl rfl 1 (by decide) l_fieldLink_9 (fun _ h9 => h9) rfl dX0_millionths_1 ?_
  refine lv_iload_n hx hb dX0_millionths_4 rfl (lv_at hl 1 rfl) ?_
  refine lv_iload_n hx hb dX0_millionths_5 rfl (lv_at hl 2 rfl) ?_
  obtain ⟨r_1, e6⟩ : ∃ z, z = (f_X10_place p1 p2) := ⟨_, rfl⟩
  rw [← e6] at he
  refine g_SNi (r := r_1) (As := [.int p1, .int p2]) (rest := [.ref (a 27)]) ⟨hx, hb, hml, hown, hts⟩ hS hX (k_X10_place p1 p2 r_1 e6) ⟨va_cnB 2 hts ggX0_millionths_X10_place rfl rfl rfl (hS.2.1.at 33 rfl) l_w_5 (by decide +kernel) ⟨Nat.le_of_ble_eq_true rfl, Nat.le_of_ble_eq_true rfl⟩, l_w_4, trivial⟩ rfl hl.1 rfl (Nat.le_of_ble_eq_true rfl) dX0_millionths_6 ⟨Nat.zero_le _, Nat.zero_le _⟩ (fun H locs hX => ?_)
  have k6_0 : (0 ≤ (p1).toInt ∧ (p1).toInt ≤ 1 ∧ 0 ≤ (p2).toInt ∧ (p2).toInt < 256) → (0 ≤ (r_1).toInt ∧ (r_1).toInt < 512) := by rw [e6]; exact r_place
  refine va_lald hx hb hS.1 hX.1 27 15 rfl rfl (vp_in_iff.mpr (by omega)) dX0_millionths_9 ?_
  refine lv_ldc2 (v := (1000000 : Int64)) hx hb hown l_constantLong_23 dX0_millionths_10 ?_
  refine lv_lmul hx hb dX0_millionths_13 ?_
  refine lv_ldc2 (v := (182891520000 : Int64)) hx hb hown l_constantLong_25 dX0_millionths_14 ?_
  refine lv_ldiv hx hb dX0_millionths_17 (by decide) ?_
  refine lv_l2i hx hb dX0_millionths_18 rfl ?_
  subst he
  exact g_iret hx hb hr hlocks hX hq rfl dX0_millionths_19
