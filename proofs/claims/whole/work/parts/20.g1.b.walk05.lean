abbrev rm_X0_enter : Room := { frames := 1, cells := 0, slots := 0, locals := 22 }
set_option maxHeartbeats 4000000 in
set_option maxRecDepth 100000 in
theorem k_X0_enter {l : Launch} {D : va_G} {E : sE} {a : Nat → Nat} {cA : Nat → ClassId} {isCharted : Int32} {isKept : Int32} {hedgesRead : Int32} {evensDone : Int32} {plen : Int32} {number : Int32} {setCount : Int32} {standing : Int32} {turn : Int32} {cuts : Int32} {ssize : Int32} {kstanding : Int32} {kturn : Int32} {kcuts : Int32} {kssize : Int32} {seed : Int32} {whiteWon : Int32} {cutsDone : Int32} {lett : Nat → Int32} {onB : Nat → Int32} {abv : Nat → Int32} {sets : Nat → Int32} {kinds : Nat → Int32} {sbranches : Nat → Int32} {sbeginners : Nat → Int32} {swon : Nat → Int32} {kkinds : Nat → Int32} {ksbranches : Nat → Int32} {ksbeginners : Nat → Int32} {kswon : Nat → Int32} {lcuts : Nat → Int32} {valu : Nat → Int32} {won : Nat → Int64} {chance : Nat → Int64} (p1 : Int32) (p2 : Int32) (p3 : Int32) (hnm : 0 ≤ (number).toInt ∧ (number).toInt ≤ 8) (hwx : 0 ≤ (p1).toInt ∧ (p1).toInt ≤ 1) (hsx : 0 ≤ (p2).toInt ∧ (p2).toInt < 256) : ∀ q : (Nat → Int64), q = f_X0_enter number abv chance p1 p2 p3 → gMv l yX0_enter wsX0_enter rm_X0_enter D E (tG cA) [.ref (a 26), .int p1, .int p2, .int p3] (wG a cA isCharted isKept hedgesRead evensDone plen number setCount standing turn cuts ssize kstanding kturn kcuts kssize seed whiteWon cutsDone lett onB abv sets kinds sbranches sbeginners swon kkinds ksbranches ksbeginners kswon lcuts valu won chance) (wG a cA isCharted isKept hedgesRead evensDone plen number setCount standing turn cuts ssize kstanding kturn kcuts kssize seed whiteWon cutsDone lett onB abv sets kinds sbranches sbeginners swon kkinds ksbranches ksbeginners kswon lcuts valu won q) := by
  intro q he0
  refine gM_of (cc := cX0_enter) (maxL := 8) (ret := none) (Qf := gQv D (wG a cA isCharted isKept hedgesRead evensDone plen number setCount standing turn cuts ssize kstanding kturn kcuts kssize seed whiteWon cutsDone lett onB abv sets kinds sbranches sbeginners swon kkinds ksbranches ksbeginners kswon lcuts valu won q)) (by decide) rfl (Nat.le_of_ble_eq_true rfl) ?_
  intro p e s m args below meth c Z ls Qz hx hb hr hml hlocks hown hts hS hX hl hq
  have he := he0.trans f_X0_enter_s
  have hown : s.vm.findClass RX0 = some m.cls := hown
  have hl : lv_has ls 8 [(0, .ref (a 26)), (1, .int p1), (2, .int p2), (3, .int p3)] := hl
  have hi_X0 : ∀ w ∈ u_ws RX0 TX0 2, w ∈ wsX0_enter := fun _ h => List.mem_cons_of_mem _ (List.mem_append_left _ (List.mem_append_left _ (List.mem_append_right _ h)))
  have hi_X6 : ∀ w ∈ u_ws RX6 TX6 2, w ∈ wsX0_enter := fun _ h => List.mem_cons_of_mem _ (List.mem_append_left _ (List.mem_append_right _ h))
  have hi_X8 : ∀ w ∈ u_ws RX8 TX8 5, w ∈ wsX0_enter := fun _ h => List.mem_cons_of_mem _ (List.mem_append_right _ h)
  have l_constantLong_25 := hts (Cond.constantLong RX0 25 (182891520000)) (List.mem_of_getElem? (i := 2) rfl)
  have l_fieldLink_15 := hts (Cond.fieldLink RX0 15 "HedgeGame$Chances" "rules" "LHedgeGame$Rules;") (List.mem_of_getElem? (i := 3) rfl)
  have l_fieldLink_9 := hts (Cond.fieldLink RX0 9 "HedgeGame$Chances" "chance" "[J") (List.mem_of_getElem? (i := 1) rfl)
  have l_w_11 := hts (Cond.static yX10_place) (List.mem_of_getElem? (i := 11) rfl)
  have l_w_12 := hts (Cond.initialized RX10) (List.mem_of_getElem? (i := 12) rfl)
  have t0 : ((0 : Int32)).toInt = 0 := rfl
  have t1 : ((1 : Int32)).toInt = 1 := rfl
  have g1 := i_sub (x := (1 : Int32)) (y := p1) (by omega) (by omega)
  refine lv_iload_n hx hb dX0_enter_0 rfl (lv_at hl 3 rfl) ?_
  obtain ⟨r_1, e1⟩ : ∃ z, z = (f_J6_bitCount_0f7a4 p3) := ⟨_, rfl⟩
  rw [← e1] at he
  refine g_Si (r := r_1) (As := [.int p3]) (rest := []) ⟨hx, hb, hml, hown, hts⟩ hS hX (k_J6_bitCount_0f7a4 p3 r_1 e1) (va_cwS 1 hts gX0_enter_J6_bitCount_0f7a4 rfl rfl rfl (by decide +kernel) ⟨Nat.le_of_ble_eq_true rfl, Nat.le_of_ble_eq_true rfl⟩) rfl hl.1 rfl (Nat.le_of_ble_eq_true rfl) dX0_enter_1 ⟨Nat.zero_le _, Nat.zero_le _⟩ (fun H locs hX => ?_)
  refine lv_istore (lv' := [(4, .int r_1), (0, .ref (a 26)), (1, .int p1), (2, .int p2), (3, .int p3)]) hx hb dX0_enter_4 hl (by decide) rfl (fun ls hl => ?_)
  refine lv_iload hx hb dX0_enter_6 (lv_at hl 0 rfl) ?_
  refine lv_if_ne (tgt := 34) hx hb dX0_enter_8 (by decide) (fun c8 => ?_) (fun c8 => ?_)
  · have he := he.trans (if_neg c8)
    have d8 := i_ne c8
    refine lv_lconst (v := (0 : Int64)) hx hb dX0_enter_34 (by decide) ?_
    refine lv_lstore (lv' := [(5, .long (0 : Int64)), (4, .int r_1), (0, .ref (a 26)), (1, .int p1), (2, .int p2), (3, .int p3)]) hx hb dX0_enter_35 hl (by decide) rfl (fun ls hl => ?_)
    refine lv_iconst (v := (0 : Int32)) hx hb dX0_enter_37 (by decide) ?_
    refine lv_istore (lv' := [(7, .int (0 : Int32)), (5, .long (0 : Int64)), (4, .int r_1), (0, .ref (a 26)), (1, .int p1), (2, .int p2), (3, .int p3)]) hx hb dX0_enter_38 hl (by decide) rfl (fun ls hl => ?_)
    have L40_2 : ∀ (n_40_2 : Nat) (x5_3 : Int64) (x7_4 : Int32), 0 ≤ (x7_4).toInt ∧ (x7_4).toInt ≤ 8 → 8 - (x7_4).toInt < (n_40_2 : Int) → q = f_X0_enter_L40 n_40_2 number abv chance p1 p2 p3 r_1 x5_3 x7_4 → ∀ (H : Heap) (locs : List Loc) (ls : Array Slot), gX D Z s (wG a cA isCharted isKept hedgesRead evensDone plen number setCount standing turn cuts ssize kstanding kturn kcuts kssize seed whiteWon cutsDone lett onB abv sets kinds sbranches sbeginners swon kkinds ksbranches ksbeginners kswon lcuts valu won chance) H locs → lv_has ls 8 [(0, .ref (a 26)), (1, .int p1), (2, .int p2), (3, .int p3), (4, .int r_1), (5, .long x5_3), (7, .int x7_4)] → W p l e rm_X0_enter s m args below meth c H locs 0 0 Qz (F0 m 40 ls []) := by
      intro n_40_2
      induction n_40_2 with
      | zero =>
        intro x5_3 x7_4 ia ifu _ _ _ _ _ _
        exfalso; omega
      | succ n_40_2 ih_L40_2 =>
        intro x5_3 x7_4 ia ifu he H locs ls hX hl
        have he := he.trans f_X0_enter_L40_s
        refine lv_iload hx hb dX0_enter_40 (lv_at hl 6 rfl) ?_
        refine lv_aload_n hx hb dX0_enter_42 rfl (lv_at hl 0 rfl) ?_
        refine va_get (D := D) (ci := 0) (v := .ref (a 19)) (C := RX0) (T := TX0) (N := 2) hx hb hts hi_X0 hown hS.1 hX.1 26 rfl rfl 0 (by decide) l_fieldLink_15 (fun _ h9 => h9) rfl dX0_enter_43 ?_
        refine va_getN (D := D) (ci := 6) (v := .ref (a 3)) (C := RX6) (T := TX6) (N := 2) hx hb hts hi_X6 hown hS.1 hX.1 19 rfl rfl 0 (by decide) (hS.2.1.get 24 rfl) (fun _ h9 => h9) rfl dX0_enter_46 ?_
        refine va_getN (D := D) (ci := 8) (v := .int number) (C := RX8) (T := TX8) (N := 5) hx hb hts hi_X8 hown hS.1 hX.1 3 rfl rfl 0 (by decide) (hS.2.1.get 2 rfl) (fun _ h9 => h9) rfl dX0_enter_49 ?_
        refine lv_icmp_ge (tgt := 96) hx hb dX0_enter_52 (by decide) (fun c52 => ?_) (fun c52 => ?_)
        · have he := he.trans (if_pos c52)
          have d52 := i_le c52
          refine lv_aload_n hx hb dX0_enter_96 rfl (lv_at hl 0 rfl) ?_
          refine va_get (D := D) (ci := 0) (v := .ref (a 27)) (C := RX0) (T := TX0) (N := 2) hx hb hts hi_X0 hown hS.1 hX.1 26 rfl rfl 1 (by decide) l_fieldLink_9 (fun _ h9 => h9) rfl dX0_enter_97 ?_
          refine lv_iload_n hx hb dX0_enter_100 rfl (lv_at hl 1 rfl) ?_
          refine lv_iload_n hx hb dX0_enter_101 rfl (lv_at hl 2 rfl) ?_
          obtain ⟨r_5, e102⟩ : ∃ z, z = (f_X10_place p1 p2) := ⟨_, rfl⟩
          rw [← e102] at he
          refine g_SNi (r := r_5) (As := [.int p1, .int p2]) (rest := [.ref (a 27)]) ⟨hx, hb, hml, hown, hts⟩ hS hX (k_X10_place p1 p2 r_5 e102) ⟨va_cnB 2 hts ggX0_enter_X10_place rfl rfl rfl (hS.2.1.at 33 rfl) l_w_12 (by decide +kernel) ⟨Nat.le_of_ble_eq_true rfl, Nat.le_of_ble_eq_true rfl⟩, l_w_11, trivial⟩ rfl hl.1 rfl (Nat.le_of_ble_eq_true rfl) dX0_enter_102 ⟨Nat.zero_le _, Nat.zero_le _⟩ (fun H locs hX => ?_)
          have k102_0 : (0 ≤ (p1).toInt ∧ (p1).toInt ≤ 1 ∧ 0 ≤ (p2).toInt ∧ (p2).toInt < 256) → (0 ≤ (r_5).toInt ∧ (r_5).toInt < 512) := by rw [e102]; exact r_place
          refine lv_lload hx hb dX0_enter_105 (lv_at hl 5 rfl) ?_
          refine lv_iload hx hb dX0_enter_107 (lv_at hl 4 rfl) ?_
          refine lv_i2l hx hb dX0_enter_109 rfl ?_
          refine lv_ldiv hx hb dX0_enter_110 (l_ne0n (by assumption)) ?_
          refine va_last hx hb hS.1 hX.1 hX.2.1 hX.2.2 27 15 rfl rfl (vp_in_iff.mpr (by omega)) dX0_enter_111 (fun H locs hP hD hs => ?_)
          have hX : gX D Z s (wG a cA isCharted isKept hedgesRead evensDone plen number setCount standing turn cuts ssize kstanding kturn kcuts kssize seed whiteWon cutsDone lett onB abv sets kinds sbranches sbeginners swon kkinds ksbranches ksbeginners kswon lcuts valu won (vp_updL chance (r_5).toNatClampNeg (x5_3 / ((r_1).toInt64)))) H locs := ⟨hP, hD, hs⟩
          subst he
          exact g_vret hx hb hr hlocks hX hq dX0_enter_112
        · have he := he.trans (if_neg c52)
          have d52 := i_nle c52
          refine lv_iload_n hx hb dX0_enter_55 rfl (lv_at hl 3 rfl) ?_
          refine lv_iload hx hb dX0_enter_56 (lv_at hl 6 rfl) ?_
          refine lv_ishr hx hb dX0_enter_58 ?_
          refine lv_iconst (v := (1 : Int32)) hx hb dX0_enter_59 (by decide) ?_
          refine lv_iand hx hb dX0_enter_60 ?_
          refine lv_if_eq (tgt := 90) hx hb dX0_enter_61 (by decide) (fun c61 => ?_) (fun c61 => ?_)
          · have he := he.trans (if_pos c61)
            have d61 := i_eq c61
            refine lv_iinc (v := (x7_4 + (1 : Int32))) (lv' := [(7, .int (x7_4 + (1 : Int32))), (0, .ref (a 26)), (1, .int p1), (2, .int p2), (3, .int p3), (4, .int r_1), (5, .long x5_3)]) hx hb dX0_enter_90 hl (k := 6) rfl rfl (by decide) rfl (fun ls hl => ?_)
            have s90 := i_s1 (x := x7_4) (by omega)
            refine lv_goto (tgt := 40) hx hb dX0_enter_93 (by decide) ?_
            exact ih_L40_2 x5_3 (x7_4 + (1 : Int32)) (by omega) (by omega) he _ _ _ hX (lv_sub hl [1, 2, 3, 4, 5, 6, 0] rfl)
          · have he := he.trans (if_neg c61)
            have d61 := i_ne c61
            refine lv_lload hx hb dX0_enter_64 (lv_at hl 5 rfl) ?_
            refine lv_aload_n hx hb dX0_enter_66 rfl (lv_at hl 0 rfl) ?_
            refine va_get (D := D) (ci := 0) (v := .ref (a 27)) (C := RX0) (T := TX0) (N := 2) hx hb hts hi_X0 hown hS.1 hX.1 26 rfl rfl 1 (by decide) l_fieldLink_9 (fun _ h9 => h9) rfl dX0_enter_67 ?_
            refine lv_iconst (v := (1 : Int32)) hx hb dX0_enter_70 (by decide) ?_
            refine lv_iload_n hx hb dX0_enter_71 rfl (lv_at hl 1 rfl) ?_
            refine lv_isub hx hb dX0_enter_72 ?_
            refine lv_aload_n hx hb dX0_enter_73 rfl (lv_at hl 0 rfl) ?_
            refine va_get (D := D) (ci := 0) (v := .ref (a 19)) (C := RX0) (T := TX0) (N := 2) hx hb hts hi_X0 hown hS.1 hX.1 26 rfl rfl 0 (by decide) l_fieldLink_15 (fun _ h9 => h9) rfl dX0_enter_74 ?_
            refine lv_iload hx hb dX0_enter_77 (lv_at hl 6 rfl) ?_
            refine lv_iload_n hx hb dX0_enter_79 rfl (lv_at hl 2 rfl) ?_
            obtain ⟨r_6, e80⟩ : ∃ z, z = (f_X6_leftBy abv x7_4 p2) := ⟨_, rfl⟩
            rw [← e80] at he
            refine g_Vi (r := r_6) (As := [.int x7_4, .int p2]) (rest := [.int ((1 : Int32) - p1), .ref (a 27), .long x5_3]) (ci := 6) (q0 := 19) ⟨hx, hb, hml, hown, hts⟩ hS hX (k_X6_leftBy x7_4 p2 (by omega) r_6 e80) (cwV 2 hts gX0_enter_X6_leftBy rfl rfl rfl (by decide +kernel) ⟨Nat.le_of_ble_eq_true rfl, Nat.le_of_ble_eq_true rfl⟩) rfl rfl rfl hl.1 rfl (Nat.le_of_ble_eq_true rfl) dX0_enter_80 ⟨Nat.zero_le _, Nat.zero_le _⟩ (fun H locs hX => ?_)
            have k80_0 : 0 ≤ (p2).toInt → (0 ≤ (r_6).toInt ∧ (r_6).toInt ≤ (p2).toInt) := by rw [e80]; exact r_leftBy
            obtain ⟨r_7, e83⟩ : ∃ z, z = (f_X10_place ((1 : Int32) - p1) r_6) := ⟨_, rfl⟩
            rw [← e83] at he
            refine g_SNi (r := r_7) (As := [.int ((1 : Int32) - p1), .int r_6]) (rest := [.ref (a 27), .long x5_3]) ⟨hx, hb, hml, hown, hts⟩ hS hX (k_X10_place ((1 : Int32) - p1) r_6 r_7 e83) ⟨va_cnB 2 hts ggX0_enter_X10_place rfl rfl rfl (hS.2.1.at 33 rfl) l_w_12 (by decide +kernel) ⟨Nat.le_of_ble_eq_true rfl, Nat.le_of_ble_eq_true rfl⟩, l_w_11, trivial⟩ rfl hl.1 rfl (Nat.le_of_ble_eq_true rfl) dX0_enter_83 ⟨Nat.zero_le _, Nat.zero_le _⟩ (fun H locs hX => ?_)
            have k83_0 : (0 ≤ (((1 : Int32) - p1)).toInt ∧ (((1 : Int32) - p1)).toInt ≤ 1 ∧ 0 ≤ (r_6).toInt ∧ (r_6).toInt < 256) → (0 ≤ (r_7).toInt ∧ (r_7).toInt < 512) := by rw [e83]; exact r_place
            refine va_lald hx hb hS.1 hX.1 27 15 rfl rfl (vp_in_iff.mpr (by omega)) dX0_enter_86 ?_
            refine lv_ladd hx hb dX0_enter_87 ?_
            refine lv_lstore (lv' := [(5, .long (x5_3 + (chance (r_7).toNatClampNeg))), (0, .ref (a 26)), (1, .int p1), (2, .int p2), (3, .int p3), (4, .int r_1), (7, .int x7_4)]) hx hb dX0_enter_88 hl (by decide) rfl (fun ls hl => ?_)
            refine lv_iinc (v := (x7_4 + (1 : Int32))) (lv' := [(7, .int (x7_4 + (1 : Int32))), (5, .long (x5_3 + (chance (r_7).toNatClampNeg))), (0, .ref (a 26)), (1, .int p1), (2, .int p2), (3, .int p3), (4, .int r_1)]) hx hb dX0_enter_90 hl (k := 6) rfl rfl (by decide) rfl (fun ls hl => ?_)
            have s90 := i_s1 (x := x7_4) (by omega)
            refine lv_goto (tgt := 40) hx hb dX0_enter_93 (by decide) ?_
            exact ih_L40_2 (x5_3 + (chance (r_7).toNatClampNeg)) (x7_4 + (1 : Int32)) (by omega) (by omega) he _ _ _ hX (lv_sub hl [2, 3, 4, 5, 6, 1, 0] rfl)
    exact L40_2 9 (0 : Int64) (0 : Int32) (by omega) (by omega) he _ _ _ hX (lv_sub hl [3, 4, 5, 6, 2, 1, 0] rfl)
  · have he := he.trans (if_pos c8)
    have d8 := i_eq c8
    refine lv_aload_n hx hb dX0_enter_11 rfl (lv_at hl 1 rfl) ?_
    refine va_get (D := D) (ci := 0) (v := .ref (a 27)) (C := RX0) (T := TX0) (N := 2) hx hb hts hi_X0 hown hS.1 hX.1 26 rfl rfl 1 (by decide) l_fieldLink_9 (fun _ h9 => h9) rfl dX0_enter_12 ?_
    refine lv_iload_n hx hb dX0_enter_15 rfl (lv_at hl 2 rfl) ?_
    refine lv_iload_n hx hb dX0_enter_16 rfl (lv_at hl 3 rfl) ?_
    obtain ⟨r_8, e17⟩ : ∃ z, z = (f_X10_place p1 p2) := ⟨_, rfl⟩
    rw [← e17] at he
    refine g_SNi (r := r_8) (As := [.int p1, .int p2]) (rest := [.ref (a 27)]) ⟨hx, hb, hml, hown, hts⟩ hS hX (k_X10_place p1 p2 r_8 e17) ⟨va_cnB 2 hts ggX0_enter_X10_place rfl rfl rfl (hS.2.1.at 33 rfl) l_w_12 (by decide +kernel) ⟨Nat.le_of_ble_eq_true rfl, Nat.le_of_ble_eq_true rfl⟩, l_w_11, trivial⟩ rfl hl.1 rfl (Nat.le_of_ble_eq_true rfl) dX0_enter_17 ⟨Nat.zero_le _, Nat.zero_le _⟩ (fun H locs hX => ?_)
    have k17_0 : (0 ≤ (p1).toInt ∧ (p1).toInt ≤ 1 ∧ 0 ≤ (p2).toInt ∧ (p2).toInt < 256) → (0 ≤ (r_8).toInt ∧ (r_8).toInt < 512) := by rw [e17]; exact r_place
    refine lv_iload_n hx hb dX0_enter_20 rfl (lv_at hl 2 rfl) ?_
    refine lv_iconst (v := (1 : Int32)) hx hb dX0_enter_21 (by decide) ?_
    refine lv_icmp_ne (tgt := 31) hx hb dX0_enter_22 (by decide) (fun c22 => ?_) (fun c22 => ?_)
    · have he := he.trans (if_neg c22)
      have d22 := i_ne c22
      refine lv_lconst (v := (0 : Int64)) hx hb dX0_enter_31 (by decide) ?_
      refine va_last hx hb hS.1 hX.1 hX.2.1 hX.2.2 27 15 rfl rfl (vp_in_iff.mpr (by omega)) dX0_enter_32 (fun H locs hP hD hs => ?_)
      have hX : gX D Z s (wG a cA isCharted isKept hedgesRead evensDone plen number setCount standing turn cuts ssize kstanding kturn kcuts kssize seed whiteWon cutsDone lett onB abv sets kinds sbranches sbeginners swon kkinds ksbranches ksbeginners kswon lcuts valu won (vp_updL chance (r_8).toNatClampNeg (0 : Int64))) H locs := ⟨hP, hD, hs⟩
      subst he
      exact g_vret hx hb hr hlocks hX hq dX0_enter_33
    · have he := he.trans (if_pos c22)
      have d22 := i_eq c22
      refine lv_ldc2 (v := (182891520000 : Int64)) hx hb hown l_constantLong_25 dX0_enter_25 ?_
      refine lv_goto (tgt := 32) hx hb dX0_enter_28 (by decide) ?_
      refine va_last hx hb hS.1 hX.1 hX.2.1 hX.2.2 27 15 rfl rfl (vp_in_iff.mpr (by omega)) dX0_enter_32 (fun H locs hP hD hs => ?_)
      have hX : gX D Z s (wG a cA isCharted isKept hedgesRead evensDone plen number setCount standing turn cuts ssize kstanding kturn kcuts kssize seed whiteWon cutsDone lett onB abv sets kinds sbranches sbeginners swon kkinds ksbranches ksbeginners kswon lcuts valu won (vp_updL chance (r_8).toNatClampNeg (182891520000 : Int64))) H locs := ⟨hP, hD, hs⟩
      subst he
      exact g_vret hx hb hr hlocks hX hq dX0_enter_33
abbrev rm_X2_draw : Room := { frames := 0, cells := 0, slots := 0, locals := 0 }
set_option maxHeartbeats 4000000 in
set_option maxRecDepth 100000 in
theorem k_X2_draw {l : Launch} {D : va_G} {E : sE} {a : Nat → Nat} {cA : Nat → ClassId} {isCharted : Int32} {isKept : Int32} {hedgesRead : Int32} {evensDone : Int32} {plen : Int32} {number : Int32} {setCount : Int32} {standing : Int32} {turn : Int32} {cuts : Int32} {ssize : Int32} {kstanding : Int32} {kturn : Int32} {kcuts : Int32} {kssize : Int32} {seed : Int32} {whiteWon : Int32} {cutsDone : Int32} {lett : Nat → Int32} {onB : Nat → Int32} {abv : Nat → Int32} {sets : Nat → Int32} {kinds : Nat → Int32} {sbranches : Nat → Int32} {sbeginners : Nat → Int32} {swon : Nat → Int32} {kkinds : Nat → Int32} {ksbranches : Nat → Int32} {ksbeginners : Nat → Int32} {kswon : Nat → Int32} {lcuts : Nat → Int32} {valu : Nat → Int32} {won : Nat → Int64} {chance : Nat → Int64} (p1 : Int32)  : ∀ q : Int32 × Int32, q = f_X2_draw seed p1 → gMi l yX2_draw wsX2_draw rm_X2_draw D E (tG cA) [.ref (a 28), .int p1] (wG a cA isCharted isKept hedgesRead evensDone plen number setCount standing turn cuts ssize kstanding kturn kcuts kssize seed whiteWon cutsDone lett onB abv sets kinds sbranches sbeginners swon kkinds ksbranches ksbeginners kswon lcuts valu won chance) (wG a cA isCharted isKept hedgesRead evensDone plen number setCount standing turn cuts ssize kstanding kturn kcuts kssize q.2 whiteWon cutsDone lett onB abv sets kinds sbranches sbeginners swon kkinds ksbranches ksbeginners kswon lcuts valu won chance) q.1 := by
  intro q he0
  refine gM_of (cc := cX2_draw) (maxL := 2) (ret := (some .int)) (Qf := gQi D (wG a cA isCharted isKept hedgesRead evensDone plen number setCount standing turn cuts ssize kstanding kturn kcuts kssize q.2 whiteWon cutsDone lett onB abv sets kinds sbranches sbeginners swon kkinds ksbranches ksbeginners kswon lcuts valu won chance) q.1) (by decide) rfl (Nat.le_of_ble_eq_true rfl) ?_
  intro p e s m args below meth c Z ls Qz hx hb hr hml hlocks hown hts hS hX hl hq
  have he := he0.trans f_X2_draw_s
  have hown : s.vm.findClass RX2 = some m.cls := hown
  have hl : lv_has ls 2 [(0, .ref (a 28)), (1, .int p1)] := hl
  have hi_X2 : ∀ w ∈ u_ws RX2 TX2 4, w ∈ wsX2_draw := fun _ h => List.mem_cons_of_mem _ (List.mem_append_right _ h)
  have l_constant_55 := hts (Cond.constant RX2 55 (65536)) (List.mem_of_getElem? (i := 5) rfl)
  have l_constantLong_49 := hts (Cond.constantLong RX2 49 (1103515245)) (List.mem_of_getElem? (i := 1) rfl)
  have l_constantLong_51 := hts (Cond.constantLong RX2 51 (12345)) (List.mem_of_getElem? (i := 3) rfl)
  have l_constantLong_53 := hts (Cond.constantLong RX2 53 (2147483648)) (List.mem_of_getElem? (i := 4) rfl)
  have l_fieldLink_9 := hts (Cond.fieldLink RX2 9 "HedgeGame$Lottery" "seed" "I") (List.mem_of_getElem? (i := 2) rfl)
  have t0 : ((0 : Int32)).toInt = 0 := rfl
  have t1 : ((1 : Int32)).toInt = 1 := rfl
  have t65536 : ((65536 : Int32)).toInt = 65536 := rfl
  refine lv_aload_n hx hb dX2_draw_0 rfl (lv_at hl 0 rfl) ?_
  refine lv_ldc2 (v := (1103515245 : Int64)) hx hb hown l_constantLong_49 dX2_draw_1 ?_
  refine lv_aload_n hx hb dX2_draw_4 rfl (lv_at hl 0 rfl) ?_
  refine va_get (D := D) (ci := 2) (v := .int seed) (C := RX2) (T := TX2) (N := 4) hx hb hts hi_X2 hown hS.1 hX.1 28 rfl rfl 1 (by decide) l_fieldLink_9 (fun _ h9 => h9) rfl dX2_draw_5 ?_
  refine lv_i2l hx hb dX2_draw_8 rfl ?_
  refine lv_lmul hx hb dX2_draw_9 ?_
  refine lv_ldc2 (v := (12345 : Int64)) hx hb hown l_constantLong_51 dX2_draw_10 ?_
  refine lv_ladd hx hb dX2_draw_13 ?_
  refine lv_ldc2 (v := (2147483648 : Int64)) hx hb hown l_constantLong_53 dX2_draw_14 ?_
  refine lv_lrem hx hb dX2_draw_17 (by decide) ?_
  refine lv_l2i hx hb dX2_draw_18 rfl ?_
  refine va_put (D := D) (ci := 2) (v := .int ((((((1103515245 : Int64) * ((seed).toInt64)) + (12345 : Int64)) - (((1103515245 : Int64) * ((seed).toInt64)) + (12345 : Int64)) / (2147483648 : Int64) * (2147483648 : Int64))).toInt32)) (ty := .int) (C := RX2) (T := TX2) (N := 4) hx hb hts hi_X2 tyX2 tyX2_ok nmX2 hown hS.1 hX.1 hX.2.1 hX.2.2 28 rfl rfl 1 (by decide) l_fieldLink_9 (fun _ h9 => h9) rfl (by decide +kernel) rfl rfl (Nat.le_of_ble_eq_true rfl) dX2_draw_19 (fun H locs hP hD hs => ?_)
  have hX : gX D Z s (wG a cA isCharted isKept hedgesRead evensDone plen number setCount standing turn cuts ssize kstanding kturn kcuts kssize ((((((1103515245 : Int64) * ((seed).toInt64)) + (12345 : Int64)) - (((1103515245 : Int64) * ((seed).toInt64)) + (12345 : Int64)) / (2147483648 : Int64) * (2147483648 : Int64))).toInt32) whiteWon cutsDone lett onB abv sets kinds sbranches sbeginners swon kkinds ksbranches ksbeginners kswon lcuts valu won chance) H locs := ⟨hP, hD, hs⟩
  refine lv_iload_n hx hb dX2_draw_22 rfl (lv_at hl 1 rfl) ?_
  refine lv_if_le (tgt := 38) hx hb dX2_draw_23 (by decide) (fun c23 => ?_) (fun c23 => ?_)
  · have he := he.trans (if_pos c23)
    have d23 := i_le c23
    refine lv_iconst (v := (0 : Int32)) hx hb dX2_draw_38 (by decide) ?_
    subst he
    exact g_iret hx hb hr hlocks hX hq rfl dX2_draw_39
  · have he := he.trans (if_neg c23)
    have d23 := i_nle c23
    refine lv_aload_n hx hb dX2_draw_26 rfl (lv_at hl 0 rfl) ?_
    refine va_get (D := D) (ci := 2) (v := .int ((((((1103515245 : Int64) * ((seed).toInt64)) + (12345 : Int64)) - (((1103515245 : Int64) * ((seed).toInt64)) + (12345 : Int64)) / (2147483648 : Int64) * (2147483648 : Int64))).toInt32)) (C := RX2) (T := TX2) (N := 4) hx hb hts hi_X2 hown hS.1 hX.1 28 rfl rfl 1 (by decide) l_fieldLink_9 (fun _ h9 => h9) rfl dX2_draw_27 ?_
    refine lv_ldc (v := (65536 : Int32)) hx hb hown l_constant_55 dX2_draw_30 ?_
    refine lv_idiv hx hb dX2_draw_32 (by decide) ?_
    refine lv_iload_n hx hb dX2_draw_33 rfl (lv_at hl 1 rfl) ?_
    refine lv_irem hx hb dX2_draw_34 (fun h => by have := i_eq h; omega) ?_
    refine lv_goto (tgt := 39) hx hb dX2_draw_35 (by decide) ?_
    subst he
    exact g_iret hx hb hr hlocks hX hq rfl dX2_draw_39
abbrev rm_X2_drawFrom : Room := { frames := 1, cells := 0, slots := 0, locals := 21 }
set_option maxHeartbeats 4000000 in
set_option maxRecDepth 100000 in
theorem k_X2_drawFrom {l : Launch} {D : va_G} {E : sE} {a : Nat → Nat} {cA : Nat → ClassId} {isCharted : Int32} {isKept : Int32} {hedgesRead : Int32} {evensDone : Int32} {plen : Int32} {number : Int32} {setCount : Int32} {standing : Int32} {turn : Int32} {cuts : Int32} {ssize : Int32} {kstanding : Int32} {kturn : Int32} {kcuts : Int32} {kssize : Int32} {seed : Int32} {whiteWon : Int32} {cutsDone : Int32} {lett : Nat → Int32} {onB : Nat → Int32} {abv : Nat → Int32} {sets : Nat → Int32} {kinds : Nat → Int32} {sbranches : Nat → Int32} {sbeginners : Nat → Int32} {swon : Nat → Int32} {kkinds : Nat → Int32} {ksbranches : Nat → Int32} {ksbeginners : Nat → Int32} {kswon : Nat → Int32} {lcuts : Nat → Int32} {valu : Nat → Int32} {won : Nat → Int64} {chance : Nat → Int64} (p1 : Int32)  : ∀ q : Int32 × Int32, q = f_X2_drawFrom seed p1 → gMi l yX2_drawFrom wsX2_drawFrom rm_X2_drawFrom D E (tG cA) [.ref (a 28), .int p1] (wG a cA isCharted isKept hedgesRead evensDone plen number setCount standing turn cuts ssize kstanding kturn kcuts kssize seed whiteWon cutsDone lett onB abv sets kinds sbranches sbeginners swon kkinds ksbranches ksbeginners kswon lcuts valu won chance) (wG a cA isCharted isKept hedgesRead evensDone plen number setCount standing turn cuts ssize kstanding kturn kcuts kssize q.2 whiteWon cutsDone lett onB abv sets kinds sbranches sbeginners swon kkinds ksbranches ksbeginners kswon lcuts valu won chance) q.1 := by
  intro q he0
  refine gM_of (cc := cX2_drawFrom) (maxL := 4) (ret := (some .int)) (Qf := gQi D (wG a cA isCharted isKept hedgesRead evensDone plen number setCount standing turn cuts ssize kstanding kturn kcuts kssize q.2 whiteWon cutsDone lett onB abv sets kinds sbranches sbeginners swon kkinds ksbranches ksbeginners kswon lcuts valu won chance) q.1) (by decide) rfl (Nat.le_of_ble_eq_true rfl) ?_
  intro p e s m args below meth c Z ls Qz hx hb hr hml hlocks hown hts hS hX hl hq
  have he := he0.trans f_X2_drawFrom_s
  have hown : s.vm.findClass RX2 = some m.cls := hown
  have hl : lv_has ls 4 [(0, .ref (a 28)), (1, .int p1)] := hl
  have tm1 : ((-1 : Int32)).toInt = -1 := rfl
  have t0 : ((0 : Int32)).toInt = 0 := rfl
  have t1 : ((1 : Int32)).toInt = 1 := rfl
  have t8 : ((8 : Int32)).toInt = 8 := rfl
  refine lv_aload_n hx hb dX2_drawFrom_0 rfl (lv_at hl 0 rfl) ?_
  refine lv_iload_n hx hb dX2_drawFrom_1 rfl (lv_at hl 1 rfl) ?_
  obtain ⟨r_1, e2⟩ : ∃ z, z = (f_J6_bitCount_0f7a4 p1) := ⟨_, rfl⟩
  rw [← e2] at he
  refine g_Si (r := r_1) (As := [.int p1]) (rest := [.ref (a 28)]) ⟨hx, hb, hml, hown, hts⟩ hS hX (k_J6_bitCount_0f7a4 p1 r_1 e2) (va_cwS 1 hts gX2_drawFrom_J6_bitCount_0f7a4 rfl rfl rfl (by decide +kernel) ⟨Nat.le_of_ble_eq_true rfl, Nat.le_of_ble_eq_true rfl⟩) rfl hl.1 rfl (Nat.le_of_ble_eq_true rfl) dX2_drawFrom_2 ⟨Nat.zero_le _, Nat.zero_le _⟩ (fun H locs hX => ?_)
  obtain ⟨z_2, e5⟩ : ∃ z, z = (f_X2_draw seed r_1) := ⟨_, rfl⟩
  rw [← e5] at he
  try dsimp only at he
  refine g_Vi (r := z_2.1) (w2 := (wG a cA isCharted isKept hedgesRead evensDone plen number setCount standing turn cuts ssize kstanding kturn kcuts kssize z_2.2 whiteWon cutsDone lett onB abv sets kinds sbranches sbeginners swon kkinds ksbranches ksbeginners kswon lcuts valu won chance)) (As := [.int r_1]) (rest := []) (ci := 2) (q0 := 28) ⟨hx, hb, hml, hown, hts⟩ hS hX (k_X2_draw r_1 z_2 e5) (cwV 1 hts gX2_drawFrom_X2_draw rfl rfl rfl (by decide +kernel) ⟨Nat.le_of_ble_eq_true rfl, Nat.le_of_ble_eq_true rfl⟩) rfl rfl rfl hl.1 rfl (Nat.le_of_ble_eq_true rfl) dX2_drawFrom_5 ⟨Nat.zero_le _, Nat.zero_le _⟩ (fun H locs hX => ?_)
  refine lv_istore_n (lv' := [(2, .int z_2.1), (0, .ref (a 28)), (1, .int p1)]) hx hb dX2_drawFrom_8 rfl hl (by decide) rfl (fun ls hl => ?_)
  refine lv_iconst (v := (0 : Int32)) hx hb dX2_drawFrom_9 (by decide) ?_
  refine lv_istore_n (lv' := [(3, .int (0 : Int32)), (2, .int z_2.1), (0, .ref (a 28)), (1, .int p1)]) hx hb dX2_drawFrom_10 rfl hl (by decide) rfl (fun ls hl => ?_)
  have L11_3 : ∀ (n_11_3 : Nat) (x2_4 : Int32) (x3_5 : Int32), 0 ≤ (x3_5).toInt ∧ (x3_5).toInt ≤ 8 → 8 - (x3_5).toInt < (n_11_3 : Int) → q = f_X2_drawFrom_L11 n_11_3 z_2.2 p1 x2_4 x3_5 → ∀ (H : Heap) (locs : List Loc) (ls : Array Slot), gX D Z s (wG a cA isCharted isKept hedgesRead evensDone plen number setCount standing turn cuts ssize kstanding kturn kcuts kssize z_2.2 whiteWon cutsDone lett onB abv sets kinds sbranches sbeginners swon kkinds ksbranches ksbeginners kswon lcuts valu won chance) H locs → lv_has ls 4 [(0, .ref (a 28)), (1, .int p1), (2, .int x2_4), (3, .int x3_5)] → W p l e rm_X2_drawFrom s m args below meth c H locs 0 0 Qz (F0 m 11 ls []) := by
    intro n_11_3
    induction n_11_3 with
    | zero =>
      intro x2_4 x3_5 ia ifu _ _ _ _ _ _
      exfalso; omega
    | succ n_11_3 ih_L11_3 =>
      intro x2_4 x3_5 ia ifu he H locs ls hX hl
      have he := he.trans f_X2_drawFrom_L11_s
      refine lv_iload_n hx hb dX2_drawFrom_11 rfl (lv_at hl 3 rfl) ?_
      refine lv_bipush (v := (8 : Int32)) hx hb dX2_drawFrom_12 (by decide) ?_
      refine lv_icmp_ge (tgt := 40) hx hb dX2_drawFrom_14 (by decide) (fun c14 => ?_) (fun c14 => ?_)
      · have he := he.trans (if_pos c14)
        have d14 := i_le c14
        refine lv_iconst (v := (0 : Int32)) hx hb dX2_drawFrom_40 (by decide) ?_
        subst he
        exact g_iret hx hb hr hlocks hX hq rfl dX2_drawFrom_41
      · have he := he.trans (if_neg c14)
        have d14 := i_nle c14
        refine lv_iload_n hx hb dX2_drawFrom_17 rfl (lv_at hl 1 rfl) ?_
        refine lv_iload_n hx hb dX2_drawFrom_18 rfl (lv_at hl 3 rfl) ?_
        refine lv_ishr hx hb dX2_drawFrom_19 ?_
        refine lv_iconst (v := (1 : Int32)) hx hb dX2_drawFrom_20 (by decide) ?_
        refine lv_iand hx hb dX2_drawFrom_21 ?_
        refine lv_if_eq (tgt := 34) hx hb dX2_drawFrom_22 (by decide) (fun c22 => ?_) (fun c22 => ?_)
        · have he := he.trans (if_pos c22)
          have d22 := i_eq c22
          refine lv_iinc (v := (x3_5 + (1 : Int32))) (lv' := [(3, .int (x3_5 + (1 : Int32))), (0, .ref (a 28)), (1, .int p1), (2, .int x2_4)]) hx hb dX2_drawFrom_34 hl (k := 3) rfl rfl (by decide) rfl (fun ls hl => ?_)
          have s34 := i_s1 (x := x3_5) (by omega)
          refine lv_goto (tgt := 11) hx hb dX2_drawFrom_37 (by decide) ?_
          exact ih_L11_3 x2_4 (x3_5 + (1 : Int32)) (by omega) (by omega) he _ _ _ hX (lv_sub hl [1, 2, 3, 0] rfl)
        · have he := he.trans (if_neg c22)
          have d22 := i_ne c22
          refine lv_iload_n hx hb dX2_drawFrom_25 rfl (lv_at hl 2 rfl) ?_
          refine lv_if_ne (tgt := 31) hx hb dX2_drawFrom_26 (by decide) (fun c26 => ?_) (fun c26 => ?_)
          · have he := he.trans (if_neg c26)
            have d26 := i_ne c26
            refine lv_iinc (v := (x2_4 + (-1 : Int32))) (lv' := [(2, .int (x2_4 + (-1 : Int32))), (0, .ref (a 28)), (1, .int p1), (3, .int x3_5)]) hx hb dX2_drawFrom_31 hl (k := 2) rfl rfl (by decide) rfl (fun ls hl => ?_)
            refine lv_iinc (v := (x3_5 + (1 : Int32))) (lv' := [(3, .int (x3_5 + (1 : Int32))), (2, .int (x2_4 + (-1 : Int32))), (0, .ref (a 28)), (1, .int p1)]) hx hb dX2_drawFrom_34 hl (k := 3) rfl rfl (by decide) rfl (fun ls hl => ?_)
            have s34 := i_s1 (x := x3_5) (by omega)
            refine lv_goto (tgt := 11) hx hb dX2_drawFrom_37 (by decide) ?_
            exact ih_L11_3 (x2_4 + (-1 : Int32)) (x3_5 + (1 : Int32)) (by omega) (by omega) he _ _ _ hX (lv_sub hl [2, 3, 1, 0] rfl)
          · have he := he.trans (if_pos c26)
            have d26 := i_eq c26
            refine lv_iload_n hx hb dX2_drawFrom_29 rfl (lv_at hl 3 rfl) ?_
            subst he
            exact g_iret hx hb hr hlocks hX hq rfl dX2_drawFrom_30
  exact L11_3 9 z_2.1 (0 : Int32) (by omega) (by omega) he _ _ _ hX (lv_sub hl [2, 3, 1, 0] rfl)
abbrev rm_X2_winnerOf : Room := { frames := 2, cells := 0, slots := 0, locals := 48 }
set_option maxHeartbeats 4000000 in
set_option maxRecDepth 100000 in
theorem k_X2_winnerOf {l : Launch} {D : va_G} {E : sE} {a : Nat → Nat} {cA : Nat → ClassId} {isCharted : Int32} {isKept : Int32} {hedgesRead : Int32} {evensDone : Int32} {plen : Int32} {number : Int32} {setCount : Int32} {standing : Int32} {turn : Int32} {cuts : Int32} {ssize : Int32} {kstanding : Int32} {kturn : Int32} {kcuts : Int32} {kssize : Int32} {seed : Int32} {whiteWon : Int32} {cutsDone : Int32} {lett : Nat → Int32} {onB : Nat → Int32} {abv : Nat → Int32} {sets : Nat → Int32} {kinds : Nat → Int32} {sbranches : Nat → Int32} {sbeginners : Nat → Int32} {swon : Nat → Int32} {kkinds : Nat → Int32} {ksbranches : Nat → Int32} {ksbeginners : Nat → Int32} {kswon : Nat → Int32} {lcuts : Nat → Int32} {valu : Nat → Int32} {won : Nat → Int64} {chance : Nat → Int64} (p1 : Int32) (p2 : Int32) (hnm : 0 ≤ (number).toInt ∧ (number).toInt ≤ 8) : ∀ q : Int32 × Int32 × Int32, q = f_X2_winnerOf number seed cutsDone abv kinds p1 p2 → gMi l yX2_winnerOf wsX2_winnerOf rm_X2_winnerOf D E (tG cA) [.ref (a 28), .int p1, .int p2] (wG a cA isCharted isKept hedgesRead evensDone plen number setCount standing turn cuts ssize kstanding kturn kcuts kssize seed whiteWon cutsDone lett onB abv sets kinds sbranches sbeginners swon kkinds ksbranches ksbeginners kswon lcuts valu won chance) (wG a cA isCharted isKept hedgesRead evensDone plen number setCount standing turn cuts ssize kstanding kturn kcuts kssize q.2.1 whiteWon q.2.2 lett onB abv sets kinds sbranches sbeginners swon kkinds ksbranches ksbeginners kswon lcuts valu won chance) q.1 := by
  intro q he0
  refine gM_of (cc := cX2_winnerOf) (maxL := 7) (ret := (some .int)) (Qf := gQi D (wG a cA isCharted isKept hedgesRead evensDone plen number setCount standing turn cuts ssize kstanding kturn kcuts kssize q.2.1 whiteWon q.2.2 lett onB abv sets kinds sbranches sbeginners swon kkinds ksbranches ksbeginners kswon lcuts valu won chance) q.1) (by decide) rfl (Nat.le_of_ble_eq_true rfl) ?_
  intro p e s m args below meth c Z ls Qz hx hb hr hml hlocks hown hts hS hX hl hq
  have he := he0.trans f_X2_winnerOf_s
  have hown : s.vm.findClass RX2 = some m.cls := hown
  have hl : lv_has ls 7 [(0, .ref (a 28)), (1, .int p1), (2, .int p2)] := hl
  have hi_X2 : ∀ w ∈ u_ws RX2 TX2 4, w ∈ wsX2_winnerOf := fun _ h => List.mem_cons_of_mem _ (List.mem_append_left _ (List.mem_append_left _ (List.mem_append_left _ (List.mem_append_right _ h))))
  have l_fieldLink_18 := hts (Cond.fieldLink RX2 18 "HedgeGame$Lottery" "cutsDone" "I") (List.mem_of_getElem? (i := 2) rfl)
  have l_fieldLink_21 := hts (Cond.fieldLink RX2 21 "HedgeGame$Lottery" "rules" "LHedgeGame$Rules;") (List.mem_of_getElem? (i := 1) rfl)
  have t0 : ((0 : Int32)).toInt = 0 := rfl
  have t1 : ((1 : Int32)).toInt = 1 := rfl
  have t8 : ((8 : Int32)).toInt = 8 := rfl
  refine lv_iload_n hx hb dX2_winnerOf_0 rfl (lv_at hl 1 rfl) ?_
  refine lv_istore_n (lv' := [(3, .int p1), (0, .ref (a 28)), (1, .int p1), (2, .int p2)]) hx hb dX2_winnerOf_1 rfl hl (by decide) rfl (fun ls hl => ?_)
  refine lv_iload_n hx hb dX2_winnerOf_2 rfl (lv_at hl 3 rfl) ?_
  refine lv_istore (lv' := [(4, .int p2), (3, .int p1), (0, .ref (a 28)), (1, .int p1), (2, .int p2)]) hx hb dX2_winnerOf_3 hl (by decide) rfl (fun ls hl => ?_)
  refine lv_aload_n hx hb dX2_winnerOf_5 rfl (lv_at hl 2 rfl) ?_
  refine va_get (D := D) (ci := 2) (v := .ref (a 19)) (C := RX2) (T := TX2) (N := 4) hx hb hts hi_X2 hown hS.1 hX.1 28 rfl rfl 0 (by decide) l_fieldLink_21 (fun _ h9 => h9) rfl dX2_winnerOf_6 ?_
  refine lv_iload_n hx hb dX2_winnerOf_9 rfl (lv_at hl 1 rfl) ?_
  refine lv_iload hx hb dX2_winnerOf_10 (lv_at hl 0 rfl) ?_
  obtain ⟨r_1, e12⟩ : ∃ z, z = (f_X6_choices number abv kinds p1 p2) := ⟨_, rfl⟩
  rw [← e12] at he
  refine g_Vi (r := r_1) (As := [.int p1, .int p2]) (rest := []) (ci := 6) (q0 := 19) ⟨hx, hb, hml, hown, hts⟩ hS hX (k_X6_choices p1 p2 (by omega) r_1 e12) (cwV 2 hts gX2_winnerOf_X6_choices rfl rfl rfl (by decide +kernel) ⟨Nat.le_of_ble_eq_true rfl, Nat.le_of_ble_eq_true rfl⟩) rfl rfl rfl hl.1 rfl (Nat.le_of_ble_eq_true rfl) dX2_winnerOf_12 ⟨Nat.zero_le _, Nat.zero_le _⟩ (fun H locs hX => ?_)
  refine lv_istore (lv' := [(5, .int r_1), (4, .int p2), (3, .int p1), (0, .ref (a 28)), (1, .int p1), (2, .int p2)]) hx hb dX2_winnerOf_15 hl (by decide) rfl (fun ls hl => ?_)
  refine lv_iconst (v := (0 : Int32)) hx hb dX2_winnerOf_17 (by decide) ?_
  refine lv_istore (lv' := [(6, .int (0 : Int32)), (5, .int r_1), (4, .int p2), (3, .int p1), (0, .ref (a 28)), (1, .int p1), (2, .int p2)]) hx hb dX2_winnerOf_18 hl (by decide) rfl (fun ls hl => ?_)
  have L20_2 : ∀ (n_20_2 : Nat) (seed_3 : Int32) (cutsDone_4 : Int32) (x3_5 : Int32) (x4_6 : Int32) (x5_7 : Int32) (x6_8 : Int32), 0 ≤ (x6_8).toInt ∧ (x6_8).toInt ≤ 8 → 8 - (x6_8).toInt < (n_20_2 : Int) → q = f_X2_winnerOf_L20 n_20_2 number seed_3 cutsDone_4 abv kinds p1 p2 x3_5 x4_6 x5_7 x6_8 → ∀ (H : Heap) (locs : List Loc) (ls : Array Slot), gX D Z s (wG a cA isCharted isKept hedgesRead evensDone plen number setCount standing turn cuts ssize kstanding kturn kcuts kssize seed_3 whiteWon cutsDone_4 lett onB abv sets kinds sbranches sbeginners swon kkinds ksbranches ksbeginners kswon lcuts valu won chance) H locs → lv_has ls 7 [(0, .ref (a 28)), (1, .int p1), (2, .int p2), (3, .int x3_5), (4, .int x4_6), (5, .int x5_7), (6, .int x6_8)] → W p l e rm_X2_winnerOf s m args below meth c H locs 0 0 Qz (F0 m 20 ls []) := by
    intro n_20_2
    induction n_20_2 with
    | zero =>
      intro seed_3 cutsDone_4 x3_5 x4_6 x5_7 x6_8 ia ifu _ _ _ _ _ _
      exfalso; omega
    | succ n_20_2 ih_L20_2 =>
      intro seed_3 cutsDone_4 x3_5 x4_6 x5_7 x6_8 ia ifu he H locs ls hX hl
      have he := he.trans f_X2_winnerOf_L20_s
      refine lv_iload hx hb dX2_winnerOf_20 (lv_at hl 6 rfl) ?_
      refine lv_bipush (v := (8 : Int32)) hx hb dX2_winnerOf_22 (by decide) ?_
      refine lv_icmp_ge (tgt := 81) hx hb dX2_winnerOf_24 (by decide) (fun c24 => ?_) (fun c24 => ?_)
      · have he := he.trans (if_pos c24)
        have d24 := i_le c24
        refine lv_iconst (v := (1 : Int32)) hx hb dX2_winnerOf_81 (by decide) ?_
        refine lv_iload_n hx hb dX2_winnerOf_82 rfl (lv_at hl 3 rfl) ?_
        refine lv_isub hx hb dX2_winnerOf_83 ?_
        subst he
        exact g_iret hx hb hr hlocks hX hq rfl dX2_winnerOf_84
      · have he := he.trans (if_neg c24)
        have d24 := i_nle c24
        refine lv_iload hx hb dX2_winnerOf_27 (lv_at hl 5 rfl) ?_
        refine lv_if_eq (tgt := 81) hx hb dX2_winnerOf_29 (by decide) (fun c29 => ?_) (fun c29 => ?_)
        · have he := he.trans (if_pos c29)
          have d29 := i_eq c29
          refine lv_iconst (v := (1 : Int32)) hx hb dX2_winnerOf_81 (by decide) ?_
          refine lv_iload_n hx hb dX2_winnerOf_82 rfl (lv_at hl 3 rfl) ?_
          refine lv_isub hx hb dX2_winnerOf_83 ?_
          subst he
          exact g_iret hx hb hr hlocks hX hq rfl dX2_winnerOf_84
        · have he := he.trans (if_neg c29)
          have d29 := i_ne c29
          refine lv_aload_n hx hb dX2_winnerOf_32 rfl (lv_at hl 0 rfl) ?_
          refine va_get (D := D) (ci := 2) (v := .ref (a 19)) (C := RX2) (T := TX2) (N := 4) hx hb hts hi_X2 hown hS.1 hX.1 28 rfl rfl 0 (by decide) l_fieldLink_21 (fun _ h9 => h9) rfl dX2_winnerOf_33 ?_
          refine lv_aload_n hx hb dX2_winnerOf_36 rfl (lv_at hl 0 rfl) ?_
          refine lv_iload hx hb dX2_winnerOf_37 (lv_at hl 5 rfl) ?_
          obtain ⟨z_9, e39⟩ : ∃ z, z = (f_X2_drawFrom seed_3 x5_7) := ⟨_, rfl⟩
          rw [← e39] at he
          try dsimp only at he
          refine g_Vi (r := z_9.1) (w2 := (wG a cA isCharted isKept hedgesRead evensDone plen number setCount standing turn cuts ssize kstanding kturn kcuts kssize z_9.2 whiteWon cutsDone_4 lett onB abv sets kinds sbranches sbeginners swon kkinds ksbranches ksbeginners kswon lcuts valu won chance)) (As := [.int x5_7]) (rest := [.ref (a 19)]) (ci := 2) (q0 := 28) ⟨hx, hb, hml, hown, hts⟩ hS hX (k_X2_drawFrom x5_7 z_9 e39) (cwV 1 hts gX2_winnerOf_X2_drawFrom rfl rfl rfl (by decide +kernel) ⟨Nat.le_of_ble_eq_true rfl, Nat.le_of_ble_eq_true rfl⟩) rfl rfl rfl hl.1 rfl (Nat.le_of_ble_eq_true rfl) dX2_winnerOf_39 ⟨Nat.zero_le _, Nat.zero_le _⟩ (fun H locs hX => ?_)
          have k39_0 : 0 ≤ (z_9.1).toInt ∧ (z_9.1).toInt < 8 := r_drawFrom e39
          refine lv_iload hx hb dX2_winnerOf_42 (lv_at hl 4 rfl) ?_
          obtain ⟨r_10, e44⟩ : ∃ z, z = (f_X6_leftBy abv z_9.1 x4_6) := ⟨_, rfl⟩
          rw [← e44] at he
          refine g_Vi (r := r_10) (As := [.int z_9.1, .int x4_6]) (rest := []) (ci := 6) (q0 := 19) ⟨hx, hb, hml, hown, hts⟩ hS hX (k_X6_leftBy z_9.1 x4_6 (by omega) r_10 e44) (cwV 2 hts gX2_winnerOf_X6_leftBy rfl rfl rfl (by decide +kernel) ⟨Nat.le_of_ble_eq_true rfl, Nat.le_of_ble_eq_true rfl⟩) rfl rfl rfl hl.1 rfl (Nat.le_of_ble_eq_true rfl) dX2_winnerOf_44 ⟨Nat.zero_le _, Nat.zero_le _⟩ (fun H locs hX => ?_)
          have k44_0 : 0 ≤ (x4_6).toInt → (0 ≤ (r_10).toInt ∧ (r_10).toInt ≤ (x4_6).toInt) := by rw [e44]; exact r_leftBy
          refine lv_istore (lv' := [(4, .int r_10), (0, .ref (a 28)), (1, .int p1), (2, .int p2), (3, .int x3_5), (5, .int x5_7), (6, .int x6_8)]) hx hb dX2_winnerOf_47 hl (by decide) rfl (fun ls hl => ?_)
          refine lv_aload_n hx hb dX2_winnerOf_49 rfl (lv_at hl 1 rfl) ?_
          refine lv_dup hx hb dX2_winnerOf_50 rfl ?_
          refine va_get (D := D) (ci := 2) (v := .int cutsDone_4) (C := RX2) (T := TX2) (N := 4) hx hb hts hi_X2 hown hS.1 hX.1 28 rfl rfl 3 (by decide) l_fieldLink_18 (fun _ h9 => h9) rfl dX2_winnerOf_51 ?_
          refine lv_iconst (v := (1 : Int32)) hx hb dX2_winnerOf_54 (by decide) ?_
          refine lv_iadd hx hb dX2_winnerOf_55 ?_
          refine va_put (D := D) (ci := 2) (v := .int (cutsDone_4 + (1 : Int32))) (ty := .int) (C := RX2) (T := TX2) (N := 4) hx hb hts hi_X2 tyX2 tyX2_ok nmX2 hown hS.1 hX.1 hX.2.1 hX.2.2 28 rfl rfl 3 (by decide) l_fieldLink_18 (fun _ h9 => h9) rfl (by decide +kernel) rfl rfl (Nat.le_of_ble_eq_true rfl) dX2_winnerOf_56 (fun H locs hP hD hs => ?_)
          have hX : gX D Z s (wG a cA isCharted isKept hedgesRead evensDone plen number setCount standing turn cuts ssize kstanding kturn kcuts kssize z_9.2 whiteWon (cutsDone_4 + (1 : Int32)) lett onB abv sets kinds sbranches sbeginners swon kkinds ksbranches ksbeginners kswon lcuts valu won chance) H locs := ⟨hP, hD, hs⟩
          refine lv_iconst (v := (1 : Int32)) hx hb dX2_winnerOf_59 (by decide) ?_
          refine lv_iload_n hx hb dX2_winnerOf_60 rfl (lv_at hl 4 rfl) ?_
          refine lv_isub hx hb dX2_winnerOf_61 ?_
          refine lv_istore_n (lv' := [(3, .int ((1 : Int32) - x3_5)), (4, .int r_10), (0, .ref (a 28)), (1, .int p1), (2, .int p2), (5, .int x5_7), (6, .int x6_8)]) hx hb dX2_winnerOf_62 rfl hl (by decide) rfl (fun ls hl => ?_)
          refine lv_aload_n hx hb dX2_winnerOf_63 rfl (lv_at hl 2 rfl) ?_
          refine va_get (D := D) (ci := 2) (v := .ref (a 19)) (C := RX2) (T := TX2) (N := 4) hx hb hts hi_X2 hown hS.1 hX.1 28 rfl rfl 0 (by decide) l_fieldLink_21 (fun _ h9 => h9) rfl dX2_winnerOf_64 ?_
          refine lv_iload_n hx hb dX2_winnerOf_67 rfl (lv_at hl 0 rfl) ?_
          refine lv_iload hx hb dX2_winnerOf_68 (lv_at hl 1 rfl) ?_
          obtain ⟨r_11, e70⟩ : ∃ z, z = (f_X6_choices number abv kinds ((1 : Int32) - x3_5) r_10) := ⟨_, rfl⟩
          rw [← e70] at he
          refine g_Vi (r := r_11) (As := [.int ((1 : Int32) - x3_5), .int r_10]) (rest := []) (ci := 6) (q0 := 19) ⟨hx, hb, hml, hown, hts⟩ hS hX (k_X6_choices ((1 : Int32) - x3_5) r_10 (by omega) r_11 e70) (cwV 2 hts gX2_winnerOf_X6_choices rfl rfl rfl (by decide +kernel) ⟨Nat.le_of_ble_eq_true rfl, Nat.le_of_ble_eq_true rfl⟩) rfl rfl rfl hl.1 rfl (Nat.le_of_ble_eq_true rfl) dX2_winnerOf_70 ⟨Nat.zero_le _, Nat.zero_le _⟩ (fun H locs hX => ?_)
          refine lv_istore (lv' := [(5, .int r_11), (3, .int ((1 : Int32) - x3_5)), (4, .int r_10), (0, .ref (a 28)), (1, .int p1), (2, .int p2), (6, .int x6_8)]) hx hb dX2_winnerOf_73 hl (by decide) rfl (fun ls hl => ?_)
          refine lv_iinc (v := (x6_8 + (1 : Int32))) (lv' := [(6, .int (x6_8 + (1 : Int32))), (5, .int r_11), (3, .int ((1 : Int32) - x3_5)), (4, .int r_10), (0, .ref (a 28)), (1, .int p1), (2, .int p2)]) hx hb dX2_winnerOf_75 hl (k := 6) rfl rfl (by decide) rfl (fun ls hl => ?_)
          have s75 := i_s1 (x := x6_8) (by omega)
          refine lv_goto (tgt := 20) hx hb dX2_winnerOf_78 (by decide) ?_
          exact ih_L20_2 z_9.2 (cutsDone_4 + (1 : Int32)) ((1 : Int32) - x3_5) r_10 r_11 (x6_8 + (1 : Int32)) (by omega) (by omega) he _ _ _ hX (lv_sub hl [4, 5, 6, 2, 3, 1, 0] rfl)
  exact L20_2 9 seed cutsDone p1 p2 r_1 (0 : Int32) (by omega) (by omega) he _ _ _ hX (lv_sub hl [4, 5, 6, 3, 2, 1, 0] rfl)
abbrev rm_X2_playAll : Room := { frames := 3, cells := 0, slots := 0, locals := 74 }
set_option maxHeartbeats 4000000 in
set_option maxRecDepth 100000 in
theorem k_X2_playAll {l : Launch} {D : va_G} {E : sE} {a : Nat → Nat} {cA : Nat → ClassId} {isCharted : Int32} {isKept : Int32} {hedgesRead : Int32} {evensDone : Int32} {plen : Int32} {number : Int32} {setCount : Int32} {standing : Int32} {turn : Int32} {cuts : Int32} {ssize : Int32} {kstanding : Int32} {kturn : Int32} {kcuts : Int32} {kssize : Int32} {seed : Int32} {whiteWon : Int32} {cutsDone : Int32} {lett : Nat → Int32} {onB : Nat → Int32} {abv : Nat → Int32} {sets : Nat → Int32} {kinds : Nat → Int32} {sbranches : Nat → Int32} {sbeginners : Nat → Int32} {swon : Nat → Int32} {kkinds : Nat → Int32} {ksbranches : Nat → Int32} {ksbeginners : Nat → Int32} {kswon : Nat → Int32} {lcuts : Nat → Int32} {valu : Nat → Int32} {won : Nat → Int64} {chance : Nat → Int64} (p1 : Int32) (p2 : Int32) (p3 : Int32) (hnm : 0 ≤ (number).toInt ∧ (number).toInt ≤ 8) (hti : 0 ≤ (p1).toInt ∧ (p1).toInt ≤ 40) : ∀ q : Int32 × Int32 × Int32, q = f_X2_playAll number seed whiteWon cutsDone abv kinds p1 p2 p3 → gMv l yX2_playAll wsX2_playAll rm_X2_playAll D E (tG cA) [.ref (a 28), .int p1, .int p2, .int p3] (wG a cA isCharted isKept hedgesRead evensDone plen number setCount standing turn cuts ssize kstanding kturn kcuts kssize seed whiteWon cutsDone lett onB abv sets kinds sbranches sbeginners swon kkinds ksbranches ksbeginners kswon lcuts valu won chance) (wG a cA isCharted isKept hedgesRead evensDone plen number setCount standing turn cuts ssize kstanding kturn kcuts kssize q.1 q.2.1 q.2.2 lett onB abv sets kinds sbranches sbeginners swon kkinds ksbranches ksbeginners kswon lcuts valu won chance) := by
  intro q he0
  refine gM_of (cc := cX2_playAll) (maxL := 5) (ret := none) (Qf := gQv D (wG a cA isCharted isKept hedgesRead evensDone plen number setCount standing turn cuts ssize kstanding kturn kcuts kssize q.1 q.2.1 q.2.2 lett onB abv sets kinds sbranches sbeginners swon kkinds ksbranches ksbeginners kswon lcuts valu won chance)) (by decide) rfl (Nat.le_of_ble_eq_true rfl) ?_
  intro p e s m args below meth c Z ls Qz hx hb hr hml hlocks hown hts hS hX hl hq
  have he := he0.trans f_X2_playAll_s
  have hown : s.vm.findClass RX2 = some m.cls := hown
  have hl : lv_has ls 5 [(0, .ref (a 28)), (1, .int p1), (2, .int p2), (3, .int p3)] := hl
  have hi_X2 : ∀ w ∈ u_ws RX2 TX2 4, w ∈ wsX2_playAll := fun _ h => List.mem_cons_of_mem _ (List.mem_append_left _ (List.mem_append_left _ (List.mem_append_left _ (List.mem_append_right _ h))))
  have l_fieldLink_15 := hts (Cond.fieldLink RX2 15 "HedgeGame$Lottery" "whiteWon" "I") (List.mem_of_getElem? (i := 2) rfl)
  have l_fieldLink_18 := hts (Cond.fieldLink RX2 18 "HedgeGame$Lottery" "cutsDone" "I") (List.mem_of_getElem? (i := 3) rfl)
  have l_fieldLink_9 := hts (Cond.fieldLink RX2 9 "HedgeGame$Lottery" "seed" "I") (List.mem_of_getElem? (i := 1) rfl)
  have t0 : ((0 : Int32)).toInt = 0 := rfl
  have t1 : ((1 : Int32)).toInt = 1 := rfl
  have t2 : ((2 : Int32)).toInt = 2 := rfl
  refine lv_aload_n hx hb dX2_playAll_0 rfl (lv_at hl 0 rfl) ?_
  refine lv_iload_n hx hb dX2_playAll_1 rfl (lv_at hl 2 rfl) ?_
  refine va_put (D := D) (ci := 2) (v := .int p2) (ty := .int) (C := RX2) (T := TX2) (N := 4) hx hb hts hi_X2 tyX2 tyX2_ok nmX2 hown hS.1 hX.1 hX.2.1 hX.2.2 28 rfl rfl 1 (by decide) l_fieldLink_9 (fun _ h9 => h9) rfl (by decide +kernel) rfl rfl (Nat.le_of_ble_eq_true rfl) dX2_playAll_2 (fun H locs hP hD hs => ?_)
  have hX : gX D Z s (wG a cA isCharted isKept hedgesRead evensDone plen number setCount standing turn cuts ssize kstanding kturn kcuts kssize p2 whiteWon cutsDone lett onB abv sets kinds sbranches sbeginners swon kkinds ksbranches ksbeginners kswon lcuts valu won chance) H locs := ⟨hP, hD, hs⟩
  refine lv_aload_n hx hb dX2_playAll_5 rfl (lv_at hl 0 rfl) ?_
  refine lv_iconst (v := (0 : Int32)) hx hb dX2_playAll_6 (by decide) ?_
  refine va_put (D := D) (ci := 2) (v := .int (0 : Int32)) (ty := .int) (C := RX2) (T := TX2) (N := 4) hx hb hts hi_X2 tyX2 tyX2_ok nmX2 hown hS.1 hX.1 hX.2.1 hX.2.2 28 rfl rfl 2 (by decide) l_fieldLink_15 (fun _ h9 => h9) rfl (by decide +kernel) rfl rfl (Nat.le_of_ble_eq_true rfl) dX2_playAll_7 (fun H locs hP hD hs => ?_)
  have hX : gX D Z s (wG a cA isCharted isKept hedgesRead evensDone plen number setCount standing turn cuts ssize kstanding kturn kcuts kssize p2 (0 : Int32) cutsDone lett onB abv sets kinds sbranches sbeginners swon kkinds ksbranches ksbeginners kswon lcuts valu won chance) H locs := ⟨hP, hD, hs⟩
  refine lv_aload_n hx hb dX2_playAll_10 rfl (lv_at hl 0 rfl) ?_
  refine lv_iconst (v := (0 : Int32)) hx hb dX2_playAll_11 (by decide) ?_
  refine va_put (D := D) (ci := 2) (v := .int (0 : Int32)) (ty := .int) (C := RX2) (T := TX2) (N := 4) hx hb hts hi_X2 tyX2 tyX2_ok nmX2 hown hS.1 hX.1 hX.2.1 hX.2.2 28 rfl rfl 3 (by decide) l_fieldLink_18 (fun _ h9 => h9) rfl (by decide +kernel) rfl rfl (Nat.le_of_ble_eq_true rfl) dX2_playAll_12 (fun H locs hP hD hs => ?_)
  have hX : gX D Z s (wG a cA isCharted isKept hedgesRead evensDone plen number setCount standing turn cuts ssize kstanding kturn kcuts kssize p2 (0 : Int32) (0 : Int32) lett onB abv sets kinds sbranches sbeginners swon kkinds ksbranches ksbeginners kswon lcuts valu won chance) H locs := ⟨hP, hD, hs⟩
  refine lv_iconst (v := (0 : Int32)) hx hb dX2_playAll_15 (by decide) ?_
  refine lv_istore (lv' := [(4, .int (0 : Int32)), (0, .ref (a 28)), (1, .int p1), (2, .int p2), (3, .int p3)]) hx hb dX2_playAll_16 hl (by decide) rfl (fun ls hl => ?_)
  have L18_1 : ∀ (n_18_1 : Nat) (seed_2 : Int32) (whiteWon_3 : Int32) (cutsDone_4 : Int32) (x4_5 : Int32), 0 ≤ (x4_5).toInt ∧ (x4_5).toInt ≤ 40 → 40 - (x4_5).toInt < (n_18_1 : Int) → q = f_X2_playAll_L18 n_18_1 number seed_2 whiteWon_3 cutsDone_4 abv kinds p1 p2 p3 x4_5 → ∀ (H : Heap) (locs : List Loc) (ls : Array Slot), gX D Z s (wG a cA isCharted isKept hedgesRead evensDone plen number setCount standing turn cuts ssize kstanding kturn kcuts kssize seed_2 whiteWon_3 cutsDone_4 lett onB abv sets kinds sbranches sbeginners swon kkinds ksbranches ksbeginners kswon lcuts valu won chance) H locs → lv_has ls 5 [(0, .ref (a 28)), (1, .int p1), (2, .int p2), (3, .int p3), (4, .int x4_5)] → W p l e rm_X2_playAll s m args below meth c H locs 0 0 Qz (F0 m 18 ls []) := by
    intro n_18_1
    induction n_18_1 with
    | zero =>
      intro seed_2 whiteWon_3 cutsDone_4 x4_5 ia ifu _ _ _ _ _ _
      exfalso; omega
    | succ n_18_1 ih_L18_1 =>
      intro seed_2 whiteWon_3 cutsDone_4 x4_5 ia ifu he H locs ls hX hl
      have he := he.trans f_X2_playAll_L18_s
      refine lv_iload hx hb dX2_playAll_18 (lv_at hl 4 rfl) ?_
      refine lv_iload_n hx hb dX2_playAll_20 rfl (lv_at hl 1 rfl) ?_
      refine lv_icmp_ge (tgt := 52) hx hb dX2_playAll_21 (by decide) (fun c21 => ?_) (fun c21 => ?_)
      · have he := he.trans (if_pos c21)
        have d21 := i_le c21
        subst he
        exact g_vret hx hb hr hlocks hX hq dX2_playAll_52
      · have he := he.trans (if_neg c21)
        have d21 := i_nle c21
        refine lv_aload_n hx hb dX2_playAll_24 rfl (lv_at hl 0 rfl) ?_
        refine lv_iload hx hb dX2_playAll_25 (lv_at hl 4 rfl) ?_
        refine lv_iconst (v := (2 : Int32)) hx hb dX2_playAll_27 (by decide) ?_
        refine lv_irem hx hb dX2_playAll_28 (by decide) ?_
        refine lv_iload_n hx hb dX2_playAll_29 rfl (lv_at hl 3 rfl) ?_
        obtain ⟨z_6, e30⟩ : ∃ z, z = (f_X2_winnerOf number seed_2 cutsDone_4 abv kinds (x4_5 - x4_5 / (2 : Int32) * (2 : Int32)) p3) := ⟨_, rfl⟩
        rw [← e30] at he
        try dsimp only at he
        refine g_Vi (r := z_6.1) (w2 := (wG a cA isCharted isKept hedgesRead evensDone plen number setCount standing turn cuts ssize kstanding kturn kcuts kssize z_6.2.1 whiteWon_3 z_6.2.2 lett onB abv sets kinds sbranches sbeginners swon kkinds ksbranches ksbeginners kswon lcuts valu won chance)) (As := [.int (x4_5 - x4_5 / (2 : Int32) * (2 : Int32)), .int p3]) (rest := []) (ci := 2) (q0 := 28) ⟨hx, hb, hml, hown, hts⟩ hS hX (k_X2_winnerOf (x4_5 - x4_5 / (2 : Int32) * (2 : Int32)) p3 (by omega) z_6 e30) (cwV 2 hts gX2_playAll_X2_winnerOf rfl rfl rfl (by decide +kernel) ⟨Nat.le_of_ble_eq_true rfl, Nat.le_of_ble_eq_true rfl⟩) rfl rfl rfl hl.1 rfl (Nat.le_of_ble_eq_true rfl) dX2_playAll_30 ⟨Nat.zero_le _, Nat.zero_le _⟩ (fun H locs hX => ?_)
        refine lv_if_ne (tgt := 46) hx hb dX2_playAll_33 (by decide) (fun c33 => ?_) (fun c33 => ?_)
        · have he := he.trans (if_neg c33)
          have d33 := i_ne c33
          refine lv_iinc (v := (x4_5 + (1 : Int32))) (lv' := [(4, .int (x4_5 + (1 : Int32))), (0, .ref (a 28)), (1, .int p1), (2, .int p2), (3, .int p3)]) hx hb dX2_playAll_46 hl (k := 4) rfl rfl (by decide) rfl (fun ls hl => ?_)
          have s46 := i_s1 (x := x4_5) (by omega)
          refine lv_goto (tgt := 18) hx hb dX2_playAll_49 (by decide) ?_
          exact ih_L18_1 z_6.2.1 whiteWon_3 z_6.2.2 (x4_5 + (1 : Int32)) (by omega) (by omega) he _ _ _ hX (lv_sub hl [1, 2, 3, 4, 0] rfl)
        · have he := he.trans (if_pos c33)
          have d33 := i_eq c33
          refine lv_aload_n hx hb dX2_playAll_36 rfl (lv_at hl 0 rfl) ?_
          refine lv_dup hx hb dX2_playAll_37 rfl ?_
          refine va_get (D := D) (ci := 2) (v := .int whiteWon_3) (C := RX2) (T := TX2) (N := 4) hx hb hts hi_X2 hown hS.1 hX.1 28 rfl rfl 2 (by decide) l_fieldLink_15 (fun _ h9 => h9) rfl dX2_playAll_38 ?_
          refine lv_iconst (v := (1 : Int32)) hx hb dX2_playAll_41 (by decide) ?_
          refine lv_iadd hx hb dX2_playAll_42 ?_
          refine va_put (D := D) (ci := 2) (v := .int (whiteWon_3 + (1 : Int32))) (ty := .int) (C := RX2) (T := TX2) (N := 4) hx hb hts hi_X2 tyX2 tyX2_ok nmX2 hown hS.1 hX.1 hX.2.1 hX.2.2 28 rfl rfl 2 (by decide) l_fieldLink_15 (fun _ h9 => h9) rfl (by decide +kernel) rfl rfl (Nat.le_of_ble_eq_true rfl) dX2_playAll_43 (fun H locs hP hD hs => ?_)
          have hX : gX D Z s (wG a cA isCharted isKept hedgesRead evensDone plen number setCount standing turn cuts ssize kstanding kturn kcuts kssize z_6.2.1 (whiteWon_3 + (1 : Int32)) z_6.2.2 lett onB abv sets kinds sbranches sbeginners swon kkinds ksbranches ksbeginners kswon lcuts valu won chance) H locs := ⟨hP, hD, hs⟩
          refine lv_iinc (v := (x4_5 + (1 : Int32))) (lv' := [(4, .int (x4_5 + (1 : Int32))), (0, .ref (a 28)), (1, .int p1), (2, .int p2), (3, .int p3)]) hx hb dX2_playAll_46 hl (k := 4) rfl rfl (by decide) rfl (fun ls hl => ?_)
          have s46 := i_s1 (x := x4_5) (by omega)
          refine lv_goto (tgt := 18) hx hb dX2_playAll_49 (by decide) ?_
          exact ih_L18_1 z_6.2.1 (whiteWon_3 + (1 : Int32)) z_6.2.2 (x4_5 + (1 : Int32)) (by omega) (by omega) he _ _ _ hX (lv_sub hl [1, 2, 3, 4, 0] rfl)
  exact L18_1 41 p2 (0 : Int32) (0 : Int32) (0 : Int32) (by omega) (by omega) he _ _ _ hX (lv_sub hl [1, 2, 3, 4, 0] rfl)
abbrev rm_X3_beginWith_now : Room := { frames := 5, cells := 0, slots := 0, locals := 112 }
set_option maxHeartbeats 4000000 in
set_option maxRecDepth 100000 in
theorem k_X3_beginWith_now {l : Launch} {D : va_G} {E : sE} {a : Nat → Nat} {cA : Nat → ClassId} {isCharted : Int32} {isKept : Int32} {hedgesRead : Int32} {evensDone : Int32} {plen : Int32} {number : Int32} {setCount : Int32} {standing : Int32} {turn : Int32} {cuts : Int32} {ssize : Int32} {kstanding : Int32} {kturn : Int32} {kcuts : Int32} {kssize : Int32} {seed : Int32} {whiteWon : Int32} {cutsDone : Int32} {lett : Nat → Int32} {onB : Nat → Int32} {abv : Nat → Int32} {sets : Nat → Int32} {kinds : Nat → Int32} {sbranches : Nat → Int32} {sbeginners : Nat → Int32} {swon : Nat → Int32} {kkinds : Nat → Int32} {ksbranches : Nat → Int32} {ksbeginners : Nat → Int32} {kswon : Nat → Int32} {lcuts : Nat → Int32} {valu : Nat → Int32} {won : Nat → Int64} {chance : Nat → Int64} (p2 : Int32) (hlp : 0 ≤ (plen).toInt ∧ (plen).toInt ≤ 26) (hlc : ∀ k : Nat, 0 ≤ (lett k).toInt ∧ (lett k).toInt < 128) (hn8 : 0 ≤ (p2).toInt ∧ (p2).toInt ≤ 8) : ∀ q : Int32 × Int32 × Int32 × Int32 × (Nat → Int32), q = f_X3_beginWith_now plen standing turn cuts ssize lett kinds p2 → gMv l yX3_beginWith wsX3_beginWith rm_X3_beginWith_now D E (tG cA) [.ref (a 7), .ref (a 1), .int p2] (wG a cA isCharted isKept hedgesRead evensDone plen number setCount standing turn cuts ssize kstanding kturn kcuts kssize seed whiteWon cutsDone lett onB abv sets kinds sbranches sbeginners swon kkinds ksbranches ksbeginners kswon lcuts valu won chance) (wG a cA isCharted isKept hedgesRead evensDone plen number setCount q.1 q.2.1 q.2.2.1 q.2.2.2.1 kstanding kturn kcuts kssize seed whiteWon cutsDone lett onB abv sets q.2.2.2.2 sbranches sbeginners swon kkinds ksbranches ksbeginners kswon lcuts valu won chance) := by
  intro q he0
  refine gM_of (cc := cX3_beginWith) (maxL := 4) (ret := none) (Qf := gQv D (wG a cA isCharted isKept hedgesRead evensDone plen number setCount q.1 q.2.1 q.2.2.1 q.2.2.2.1 kstanding kturn kcuts kssize seed whiteWon cutsDone lett onB abv sets q.2.2.2.2 sbranches sbeginners swon kkinds ksbranches ksbeginners kswon lcuts valu won chance)) (by decide) rfl (Nat.le_of_ble_eq_true rfl) ?_
  intro p e s m args below meth c Z ls Qz hx hb hr hml hlocks hown hts hS hX hl hq
  have he := he0.trans f_X3_beginWith_now_s
  have hown : s.vm.findClass RX3 = some m.cls := hown
  have hl : lv_has ls 4 [(0, .ref (a 7)), (1, .ref (a 1)), (2, .int p2)] := hl
  have hi_X3 : ∀ w ∈ u_ws RX3 TX3 5, w ∈ wsX3_beginWith := fun _ h => List.mem_cons_of_mem _ (List.mem_append_left _ (List.mem_append_left _ (List.mem_append_right _ h)))
  have hi_X7 : ∀ w ∈ u_ws RX7 TX7 4, w ∈ wsX3_beginWith := fun _ h => List.mem_cons_of_mem _ (List.mem_append_left _ (List.mem_append_right _ h))
  have l_fieldLink_15 := hts (Cond.fieldLink RX3 15 "HedgeGame$Moment" "standing" "I") (List.mem_of_getElem? (i := 2) rfl)
  have l_fieldLink_19 := hts (Cond.fieldLink RX3 19 "HedgeGame$Moment" "turn" "I") (List.mem_of_getElem? (i := 3) rfl)
  have l_fieldLink_22 := hts (Cond.fieldLink RX3 22 "HedgeGame$Moment" "cuts" "I") (List.mem_of_getElem? (i := 4) rfl)
  have l_fieldLink_28 := hts (Cond.fieldLink RX3 28 "HedgeGame$Moment" "seen" "LHedgeGame$Seen;") (List.mem_of_getElem? (i := 5) rfl)
  have l_fieldLink_9 := hts (Cond.fieldLink RX3 9 "HedgeGame$Moment" "kinds" "[I") (List.mem_of_getElem? (i := 1) rfl)
  have t0 : ((0 : Int32)).toInt = 0 := rfl
  have t1 : ((1 : Int32)).toInt = 1 := rfl
  refine lv_iconst (v := (0 : Int32)) hx hb dX3_beginWith_0 (by decide) ?_
  refine lv_istore_n (lv' := [(3, .int (0 : Int32)), (0, .ref (a 7)), (1, .ref (a 1)), (2, .int p2)]) hx hb dX3_beginWith_1 rfl hl (by decide) rfl (fun ls hl => ?_)
  have L2_1 : ∀ (n_2_1 : Nat) (kinds_2 : Nat → Int32) (x3_3 : Int32), 0 ≤ (x3_3).toInt ∧ (x3_3).toInt ≤ 8 → 8 - (x3_3).toInt < (n_2_1 : Int) → q = f_X3_beginWith_now_L2 n_2_1 plen standing turn cuts ssize lett kinds_2 p2 x3_3 → ∀ (H : Heap) (locs : List Loc) (ls : Array Slot), gX D Z s (wG a cA isCharted isKept hedgesRead evensDone plen number setCount standing turn cuts ssize kstanding kturn kcuts kssize seed whiteWon cutsDone lett onB abv sets kinds_2 sbranches sbeginners swon kkinds ksbranches ksbeginners kswon lcuts valu won chance) H locs → lv_has ls 4 [(0, .ref (a 7)), (1, .ref (a 1)), (2, .int p2), (3, .int x3_3)] → W p l e rm_X3_beginWith_now s m args below meth c H locs 0 0 Qz (F0 m 2 ls []) := by
    intro n_2_1
    induction n_2_1 with
    | zero =>
      intro kinds_2 x3_3 ia ifu _ _ _ _ _ _
      exfalso; omega
    | succ n_2_1 ih_L2_1 =>
      intro kinds_2 x3_3 ia ifu he H locs ls hX hl
      have he := he.trans f_X3_beginWith_now_L2_s
      refine lv_iload_n hx hb dX3_beginWith_2 rfl (lv_at hl 3 rfl) ?_
      refine lv_iload_n hx hb dX3_beginWith_3 rfl (lv_at hl 2 rfl) ?_
      refine lv_icmp_ge (tgt := 24) hx hb dX3_beginWith_4 (by decide) (fun c4 => ?_) (fun c4 => ?_)
      · have he := he.trans (if_pos c4)
        have d4 := i_le c4
        refine lv_aload_n hx hb dX3_beginWith_24 rfl (lv_at hl 0 rfl) ?_
        refine lv_iconst (v := (1 : Int32)) hx hb dX3_beginWith_25 (by decide) ?_
        refine lv_iload_n hx hb dX3_beginWith_26 rfl (lv_at hl 2 rfl) ?_
        refine lv_ishl hx hb dX3_beginWith_27 ?_
        refine lv_iconst (v := (1 : Int32)) hx hb dX3_beginWith_28 (by decide) ?_
        refine lv_isub hx hb dX3_beginWith_29 ?_
        refine va_put (D := D) (ci := 3) (v := .int (((1 : Int32) <<< (p2 &&& 31)) - (1 : Int32))) (ty := .int) (C := RX3) (T := TX3) (N := 5) hx hb hts hi_X3 tyX3 tyX3_ok nmX3 hown hS.1 hX.1 hX.2.1 hX.2.2 7 rfl rfl 1 (by decide) l_fieldLink_15 (fun _ h9 => h9) rfl (by decide +kernel) rfl rfl (Nat.le_of_ble_eq_true rfl) dX3_beginWith_30 (fun H locs hP hD hs => ?_)
        have hX : gX D Z s (wG a cA isCharted isKept hedgesRead evensDone plen number setCount (((1 : Int32) <<< (p2 &&& 31)) - (1 : Int32)) turn cuts ssize kstanding kturn kcuts kssize seed whiteWon cutsDone lett onB abv sets kinds_2 sbranches sbeginners swon kkinds ksbranches ksbeginners kswon lcuts valu won chance) H locs := ⟨hP, hD, hs⟩
        refine lv_aload_n hx hb dX3_beginWith_33 rfl (lv_at hl 0 rfl) ?_
        refine lv_iconst (v := (0 : Int32)) hx hb dX3_beginWith_34 (by decide) ?_
        refine va_put (D := D) (ci := 3) (v := .int (0 : Int32)) (ty := .int) (C := RX3) (T := TX3) (N := 5) hx hb hts hi_X3 tyX3 tyX3_ok nmX3 hown hS.1 hX.1 hX.2.1 hX.2.2 7 rfl rfl 2 (by decide) l_fieldLink_19 (fun _ h9 => h9) rfl (by decide +kernel) rfl rfl (Nat.le_of_ble_eq_true rfl) dX3_beginWith_35 (fun H locs hP hD hs => ?_)
        have hX : gX D Z s (wG a cA isCharted isKept hedgesRead evensDone plen number setCount (((1 : Int32) <<< (p2 &&& 31)) - (1 : Int32)) (0 : Int32) cuts ssize kstanding kturn kcuts kssize seed whiteWon cutsDone lett onB abv sets kinds_2 sbranches sbeginners swon kkinds ksbranches ksbeginners kswon lcuts valu won chance) H locs := ⟨hP, hD, hs⟩
        refine lv_aload_n hx hb dX3_beginWith_38 rfl (lv_at hl 0 rfl) ?_
        refine lv_iconst (v := (0 : Int32)) hx hb dX3_beginWith_39 (by decide) ?_
        refine va_put (D := D) (ci := 3) (v := .int (0 : Int32)) (ty := .int) (C := RX3) (T := TX3) (N := 5) hx hb hts hi_X3 tyX3 tyX3_ok nmX3 hown hS.1 hX.1 hX.2.1 hX.2.2 7 rfl rfl 3 (by decide) l_fieldLink_22 (fun _ h9 => h9) rfl (by decide +kernel) rfl rfl (Nat.le_of_ble_eq_true rfl) dX3_beginWith_40 (fun H locs hP hD hs => ?_)
        have hX : gX D Z s (wG a cA isCharted isKept hedgesRead evensDone plen number setCount (((1 : Int32) <<< (p2 &&& 31)) - (1 : Int32)) (0 : Int32) (0 : Int32) ssize kstanding kturn kcuts kssize seed whiteWon cutsDone lett onB abv sets kinds_2 sbranches sbeginners swon kkinds ksbranches ksbeginners kswon lcuts valu won chance) H locs := ⟨hP, hD, hs⟩
        refine lv_aload_n hx hb dX3_beginWith_43 rfl (lv_at hl 0 rfl) ?_
        refine va_get (D := D) (ci := 3) (v := .ref (a 9)) (C := RX3) (T := TX3) (N := 5) hx hb hts hi_X3 hown hS.1 hX.1 7 rfl rfl 4 (by decide) l_fieldLink_28 (fun _ h9 => h9) rfl dX3_beginWith_44 ?_
        refine lv_iconst (v := (0 : Int32)) hx hb dX3_beginWith_47 (by decide) ?_
        refine va_putN (D := D) (ci := 7) (v := .int (0 : Int32)) (ty := .int) (C := RX7) (T := TX7) (N := 4) hx hb hts hi_X7 tyX7 tyX7_ok nmX7 hown hS.1 hX.1 hX.2.1 hX.2.2 9 rfl rfl 0 (by decide) (hS.2.1.get 11 rfl) (fun _ h9 => h9) rfl (by decide +kernel) rfl rfl (Nat.le_of_ble_eq_true rfl) dX3_beginWith_48 (fun H locs hP hD hs => ?_)
        have hX : gX D Z s (wG a cA isCharted isKept hedgesRead evensDone plen number setCount (((1 : Int32) <<< (p2 &&& 31)) - (1 : Int32)) (0 : Int32) (0 : Int32) (0 : Int32) kstanding kturn kcuts kssize seed whiteWon cutsDone lett onB abv sets kinds_2 sbranches sbeginners swon kkinds ksbranches ksbeginners kswon lcuts valu won chance) H locs := ⟨hP, hD, hs⟩
        subst he
        exact g_vret hx hb hr hlocks hX hq dX3_beginWith_51
      · have he := he.trans (if_neg c4)
        have d4 := i_nle c4
        refine lv_aload_n hx hb dX3_beginWith_7 rfl (lv_at hl 0 rfl) ?_
        refine va_get (D := D) (ci := 3) (v := .ref (a 8)) (C := RX3) (T := TX3) (N := 5) hx hb hts hi_X3 hown hS.1 hX.1 7 rfl rfl 0 (by decide) l_fieldLink_9 (fun _ h9 => h9) rfl dX3_beginWith_8 ?_
        refine lv_iload_n hx hb dX3_beginWith_11 rfl (lv_at hl 3 rfl) ?_
        refine lv_aload_n hx hb dX3_beginWith_12 rfl (lv_at hl 1 rfl) ?_
        refine lv_iload_n hx hb dX3_beginWith_13 rfl (lv_at hl 3 rfl) ?_
        obtain ⟨r_4, e14⟩ : ∃ z, z = (f_X5_kindAt plen lett x3_3) := ⟨_, rfl⟩
        rw [← e14] at he
        refine g_Vi (r := r_4) (As := [.int x3_3]) (rest := [.int x3_3, .ref (a 8)]) (ci := 5) (q0 := 1) ⟨hx, hb, hml, hown, hts⟩ hS hX (k_X5_kindAt x3_3 (by omega) (by assumption) r_4 e14) (cwV 1 hts gX3_beginWith_X5_kindAt rfl rfl rfl (by decide +kernel) ⟨Nat.le_of_ble_eq_true rfl, Nat.le_of_ble_eq_true rfl⟩) rfl rfl rfl hl.1 rfl (Nat.le_of_ble_eq_true rfl) dX3_beginWith_14 ⟨Nat.zero_le _, Nat.zero_le _⟩ (fun H locs hX => ?_)
        refine va_iast hx hb hS.1 hX.1 hX.2.1 hX.2.2 8 4 rfl rfl (vp_in_iff.mpr (by omega)) dX3_beginWith_17 (fun H locs hP hD hs => ?_)
        have hX : gX D Z s (wG a cA isCharted isKept hedgesRead evensDone plen number setCount standing turn cuts ssize kstanding kturn kcuts kssize seed whiteWon cutsDone lett onB abv sets (upd kinds_2 (x3_3).toNatClampNeg r_4) sbranches sbeginners swon kkinds ksbranches ksbeginners kswon lcuts valu won chance) H locs := ⟨hP, hD, hs⟩
        refine lv_iinc (v := (x3_3 + (1 : Int32))) (lv' := [(3, .int (x3_3 + (1 : Int32))), (0, .ref (a 7)), (1, .ref (a 1)), (2, .int p2)]) hx hb dX3_beginWith_18 hl (k := 3) rfl rfl (by decide) rfl (fun ls hl => ?_)
        have s18 := i_s1 (x := x3_3) (by omega)
        refine lv_goto (tgt := 2) hx hb dX3_beginWith_21 (by decide) ?_
        exact ih_L2_1 (upd kinds_2 (x3_3).toNatClampNeg r_4) (x3_3 + (1 : Int32)) (by omega) (by omega) he _ _ _ hX (lv_sub hl [1, 2, 3, 0] rfl)
  exact L2_1 9 kinds (0 : Int32) (by omega) (by omega) he _ _ _ hX (lv_sub hl [1, 2, 3, 0] rfl)
abbrev rm_X7_copyFrom_now : Room := { frames := 0, cells := 0, slots := 0, locals := 0 }
set_option maxHeartbeats 4000000 in
set_option maxRecDepth 100000 in
theorem k_X7_copyFrom_now {l : Launch} {D : va_G} {E : sE} {a : Nat → Nat} {cA : Nat → ClassId} {isCharted : Int32} {isKept : Int32} {hedgesRead : Int32} {evensDone : Int32} {plen : Int32} {number : Int32} {setCount : Int32} {standing : Int32} {turn : Int32} {cuts : Int32} {ssize : Int32} {kstanding : Int32} {kturn : Int32} {kcuts : Int32} {kssize : Int32} {seed : Int32} {whiteWon : Int32} {cutsDone : Int32} {lett : Nat → Int32} {onB : Nat → Int32} {abv : Nat → Int32} {sets : Nat → Int32} {kinds : Nat → Int32} {sbranches : Nat → Int32} {sbeginners : Nat → Int32} {swon : Nat → Int32} {kkinds : Nat → Int32} {ksbranches : Nat → Int32} {ksbeginners : Nat → Int32} {kswon : Nat → Int32} {lcuts : Nat → Int32} {valu : Nat → Int32} {won : Nat → Int64} {chance : Nat → Int64}   : ∀ q : Int32 × (Nat → Int32) × (Nat → Int32) × (Nat → Int32), q = f_X7_copyFrom_now ssize kssize sbranches sbeginners swon ksbranches ksbeginners kswon → gMv l yX7_copyFrom wsX7_copyFrom rm_X7_copyFrom_now D E (tG cA) [.ref (a 9), .ref (a 15)] (wG a cA isCharted isKept hedgesRead evensDone plen number setCount standing turn cuts ssize kstanding kturn kcuts kssize seed whiteWon cutsDone lett onB abv sets kinds sbranches sbeginners swon kkinds ksbranches ksbeginners kswon lcuts valu won chance) (wG a cA isCharted isKept hedgesRead evensDone plen number setCount standing turn cuts q.1 kstanding kturn kcuts kssize seed whiteWon cutsDone lett onB abv sets kinds q.2.1 q.2.2.1 q.2.2.2 kkinds ksbranches ksbeginners kswon lcuts valu won chance) := by
  intro q he0
  refine gM_of (cc := cX7_copyFrom) (maxL := 3) (ret := none) (Qf := gQv D (wG a cA isCharted isKept hedgesRead evensDone plen number setCount standing turn cuts q.1 kstanding kturn kcuts kssize seed whiteWon cutsDone lett onB abv sets kinds q.2.1 q.2.2.1 q.2.2.2 kkinds ksbranches ksbeginners kswon lcuts valu won chance)) (by decide) rfl (Nat.le_of_ble_eq_true rfl) ?_
  intro p e s m args below meth c Z ls Qz hx hb hr hml hlocks hown hts hS hX hl hq
  have he := he0.trans f_X7_copyFrom_now_s
  have hown : s.vm.findClass RX7 = some m.cls := hown
  have hl : lv_has ls 3 [(0, .ref (a 9)), (1, .ref (a 15))] := hl
  have hi_X7 : ∀ w ∈ u_ws RX7 TX7 4, w ∈ wsX7_copyFrom := fun _ h => List.mem_cons_of_mem _ (List.mem_append_right _ h)
  have l_fieldLink_15 := hts (Cond.fieldLink RX7 15 "HedgeGame$Seen" "branches" "[I") (List.mem_of_getElem? (i := 2) rfl)
  have l_fieldLink_19 := hts (Cond.fieldLink RX7 19 "HedgeGame$Seen" "beginners" "[I") (List.mem_of_getElem? (i := 3) rfl)
  have l_fieldLink_22 := hts (Cond.fieldLink RX7 22 "HedgeGame$Seen" "won" "[Z") (List.mem_of_getElem? (i := 4) rfl)
  have l_fieldLink_9 := hts (Cond.fieldLink RX7 9 "HedgeGame$Seen" "size" "I") (List.mem_of_getElem? (i := 1) rfl)
  have t0 : ((0 : Int32)).toInt = 0 := rfl
  have t1 : ((1 : Int32)).toInt = 1 := rfl
  have t6 : ((6 : Int32)).toInt = 6 := rfl
  refine lv_aload_n hx hb dX7_copyFrom_0 rfl (lv_at hl 0 rfl) ?_
  refine lv_aload_n hx hb dX7_copyFrom_1 rfl (lv_at hl 1 rfl) ?_
  refine va_get (D := D) (ci := 7) (v := .int kssize) (C := RX7) (T := TX7) (N := 4) hx hb hts hi_X7 hown hS.1 hX.1 15 rfl rfl 0 (by decide) l_fieldLink_9 (fun _ h9 => h9) rfl dX7_copyFrom_2 ?_
  refine va_put (D := D) (ci := 7) (v := .int kssize) (ty := .int) (C := RX7) (T := TX7) (N := 4) hx hb hts hi_X7 tyX7 tyX7_ok nmX7 hown hS.1 hX.1 hX.2.1 hX.2.2 9 rfl rfl 0 (by decide) l_fieldLink_9 (fun _ h9 => h9) rfl (by decide +kernel) rfl rfl (Nat.le_of_ble_eq_true rfl) dX7_copyFrom_5 (fun H locs hP hD hs => ?_)
  have hX : gX D Z s (wG a cA isCharted isKept hedgesRead evensDone plen number setCount standing turn cuts kssize kstanding kturn kcuts kssize seed whiteWon cutsDone lett onB abv sets kinds sbranches sbeginners swon kkinds ksbranches ksbeginners kswon lcuts valu won chance) H locs := ⟨hP, hD, hs⟩
  refine lv_iconst (v := (0 : Int32)) hx hb dX7_copyFrom_8 (by decide) ?_
  refine lv_istore_n (lv' := [(2, .int (0 : Int32)), (0, .ref (a 9)), (1, .ref (a 15))]) hx hb dX7_copyFrom_9 rfl hl (by decide) rfl (fun ls hl => ?_)
  have L10_1 : ∀ (n_10_1 : Nat) (sbranches_2 : Nat → Int32) (sbeginners_3 : Nat → Int32) (swon_4 : Nat → Int32) (x2_5 : Int32), 0 ≤ (x2_5).toInt ∧ (x2_5).toInt ≤ 6 → 6 - (x2_5).toInt < (n_10_1 : Int) → q = f_X7_copyFrom_now_L10 n_10_1 kssize kssize sbranches_2 sbeginners_3 swon_4 ksbranches ksbeginners kswon x2_5 → ∀ (H : Heap) (locs : List Loc) (ls : Array Slot), gX D Z s (wG a cA isCharted isKept hedgesRead evensDone plen number setCount standing turn cuts kssize kstanding kturn kcuts kssize seed whiteWon cutsDone lett onB abv sets kinds sbranches_2 sbeginners_3 swon_4 kkinds ksbranches ksbeginners kswon lcuts valu won chance) H locs → lv_has ls 3 [(0, .ref (a 9)), (1, .ref (a 15)), (2, .int x2_5)] → W p l e rm_X7_copyFrom_now s m args below meth c H locs 0 0 Qz (F0 m 10 ls []) := by
    intro n_10_1
    induction n_10_1 with
    | zero =>
      intro sbranches_2 sbeginners_3 swon_4 x2_5 ia ifu _ _ _ _ _ _
      exfalso; omega
    | succ n_10_1 ih_L10_1 =>
      intro sbranches_2 sbeginners_3 swon_4 x2_5 ia ifu he H locs ls hX hl
      have he := he.trans f_X7_copyFrom_now_L10_s
      refine lv_iload_n hx hb dX7_copyFrom_10 rfl (lv_at hl 2 rfl) ?_
      refine lv_bipush (v := (6 : Int32)) hx hb dX7_copyFrom_11 (by decide) ?_
      refine lv_icmp_ge (tgt := 58) hx hb dX7_copyFrom_13 (by decide) (fun c13 => ?_) (fun c13 => ?_)
      · have he := he.trans (if_pos c13)
        have d13 := i_le c13
        subst he
        exact g_vret hx hb hr hlocks hX hq dX7_copyFrom_58
      · have he := he.trans (if_neg c13)
        have d13 := i_nle c13
        refine lv_aload_n hx hb dX7_copyFrom_16 rfl (lv_at hl 0 rfl) ?_
        refine va_get (D := D) (ci := 7) (v := .ref (a 10)) (C := RX7) (T := TX7) (N := 4) hx hb hts hi_X7 hown hS.1 hX.1 9 rfl rfl 1 (by decide) l_fieldLink_15 (fun _ h9 => h9) rfl dX7_copyFrom_17 ?_
        refine lv_iload_n hx hb dX7_copyFrom_20 rfl (lv_at hl 2 rfl) ?_
        refine lv_aload_n hx hb dX7_copyFrom_21 rfl (lv_at hl 1 rfl) ?_
        refine va_get (D := D) (ci := 7) (v := .ref (a 16)) (C := RX7) (T := TX7) (N := 4) hx hb hts hi_X7 hown hS.1 hX.1 15 rfl rfl 1 (by decide) l_fieldLink_15 (fun _ h9 => h9) rfl dX7_copyFrom_22 ?_
        refine lv_iload_n hx hb dX7_copyFrom_25 rfl (lv_at hl 2 rfl) ?_
        refine va_iald hx hb hS.1 hX.1 16 9 rfl rfl (vp_in_iff.mpr (by omega)) dX7_copyFrom_26 ?_
        refine va_iast hx hb hS.1 hX.1 hX.2.1 hX.2.2 10 5 rfl rfl (vp_in_iff.mpr (by omega)) dX7_copyFrom_27 (fun H locs hP hD hs => ?_)
        have hX : gX D Z s (wG a cA isCharted isKept hedgesRead evensDone plen number setCount standing turn cuts kssize kstanding kturn kcuts kssize seed whiteWon cutsDone lett onB abv sets kinds (upd sbranches_2 (x2_5).toNatClampNeg (ksbranches (x2_5).toNatClampNeg)) sbeginners_3 swon_4 kkinds ksbranches ksbeginners kswon lcuts valu won chance) H locs := ⟨hP, hD, hs⟩
        refine lv_aload_n hx hb dX7_copyFrom_28 rfl (lv_at hl 0 rfl) ?_
        refine va_get (D := D) (ci := 7) (v := .ref (a 11)) (C := RX7) (T := TX7) (N := 4) hx hb hts hi_X7 hown hS.1 hX.1 9 rfl rfl 2 (by decide) l_fieldLink_19 (fun _ h9 => h9) rfl dX7_copyFrom_29 ?_
        refine lv_iload_n hx hb dX7_copyFrom_32 rfl (lv_at hl 2 rfl) ?_
        refine lv_aload_n hx hb dX7_copyFrom_33 rfl (lv_at hl 1 rfl) ?_
        refine va_get (D := D) (ci := 7) (v := .ref (a 17)) (C := RX7) (T := TX7) (N := 4) hx hb hts hi_X7 hown hS.1 hX.1 15 rfl rfl 2 (by decide) l_fieldLink_19 (fun _ h9 => h9) rfl dX7_copyFrom_34 ?_
        refine lv_iload_n hx hb dX7_copyFrom_37 rfl (lv_at hl 2 rfl) ?_
        refine va_iald hx hb hS.1 hX.1 17 10 rfl rfl (vp_in_iff.mpr (by omega)) dX7_copyFrom_38 ?_
        refine va_iast hx hb hS.1 hX.1 hX.2.1 hX.2.2 11 6 rfl rfl (vp_in_iff.mpr (by omega)) dX7_copyFrom_39 (fun H locs hP hD hs => ?_)
        have hX : gX D Z s (wG a cA isCharted isKept hedgesRead evensDone plen number setCount standing turn cuts kssize kstanding kturn kcuts kssize seed whiteWon cutsDone lett onB abv sets kinds (upd sbranches_2 (x2_5).toNatClampNeg (ksbranches (x2_5).toNatClampNeg)) (upd sbeginners_3 (x2_5).toNatClampNeg (ksbeginners (x2_5).toNatClampNeg)) swon_4 kkinds ksbranches ksbeginners kswon lcuts valu won chance) H locs := ⟨hP, hD, hs⟩
        refine lv_aload_n hx hb dX7_copyFrom_40 rfl (lv_at hl 0 rfl) ?_
        refine va_get (D := D) (ci := 7) (v := .ref (a 12)) (C := RX7) (T := TX7) (N := 4) hx hb hts hi_X7 hown hS.1 hX.1 9 rfl rfl 3 (by decide) l_fieldLink_22 (fun _ h9 => h9) rfl dX7_copyFrom_41 ?_
        refine lv_iload_n hx hb dX7_copyFrom_44 rfl (lv_at hl 2 rfl) ?_
        refine lv_aload_n hx hb dX7_copyFrom_45 rfl (lv_at hl 1 rfl) ?_
        refine va_get (D := D) (ci := 7) (v := .ref (a 18)) (C := RX7) (T := TX7) (N := 4) hx hb hts hi_X7 hown hS.1 hX.1 15 rfl rfl 3 (by decide) l_fieldLink_22 (fun _ h9 => h9) rfl dX7_copyFrom_46 ?_
        refine lv_iload_n hx hb dX7_copyFrom_49 rfl (lv_at hl 2 rfl) ?_
        refine va_zald hx hb hS.1 hX.1 18 11 rfl rfl (vp_in_iff.mpr (by omega)) dX7_copyFrom_50 ?_
        refine va_zast hx hb hS.1 hX.1 hX.2.1 hX.2.2 12 7 rfl rfl (vp_in_iff.mpr (by omega)) dX7_copyFrom_51 (fun H locs hP hD hs => ?_)
        have hX : gX D Z s (wG a cA isCharted isKept hedgesRead evensDone plen number setCount standing turn cuts kssize kstanding kturn kcuts kssize seed whiteWon cutsDone lett onB abv sets kinds (upd sbranches_2 (x2_5).toNatClampNeg (ksbranches (x2_5).toNatClampNeg)) (upd sbeginners_3 (x2_5).toNatClampNeg (ksbeginners (x2_5).toNatClampNeg)) (upd swon_4 (x2_5).toNatClampNeg (vp_nar .boolean (kswon (x2_5).toNatClampNeg))) kkinds ksbranches ksbeginners kswon lcuts valu won chance) H locs := ⟨hP, hD, hs⟩
        refine lv_iinc (v := (x2_5 + (1 : Int32))) (lv' := [(2, .int (x2_5 + (1 : Int32))), (0, .ref (a 9)), (1, .ref (a 15))]) hx hb dX7_copyFrom_52 hl (k := 2) rfl rfl (by decide) rfl (fun ls hl => ?_)
        have s52 := i_s1 (x := x2_5) (by omega)
        refine lv_goto (tgt := 10) hx hb dX7_copyFrom_55 (by decide) ?_
        exact ih_L10_1 (upd sbranches_2 (x2_5).toNatClampNeg (ksbranches (x2_5).toNatClampNeg)) (upd sbeginners_3 (x2_5).toNatClampNeg (ksbeginners (x2_5).toNatClampNeg)) (upd swon_4 (x2_5).toNatClampNeg (vp_nar .boolean (kswon (x2_5).toNatClampNeg))) (x2_5 + (1 : Int32)) (by omega) (by omega) he _ _ _ hX (lv_sub hl [1, 2, 0] rfl)
  exact L10_1 7 sbranches sbeginners swon (0 : Int32) (by omega) (by omega) he _ _ _ hX (lv_sub hl [1, 2, 0] rfl)
abbrev rm_X3_copyFrom_now : Room := { frames := 1, cells := 0, slots := 0, locals := 48 }
set_option maxHeartbeats 4000000 in
set_option maxRecDepth 100000 in
theorem k_X3_copyFrom_now {l : Launch} {D : va_G} {E : sE} {a : Nat → Nat} {cA : Nat → ClassId} {isCharted : Int32} {isKept : Int32} {hedgesRead : Int32} {evensDone : Int32} {plen : Int32} {number : Int32} {setCount : Int32} {standing : Int32} {turn : Int32} {cuts : Int32} {ssize : Int32} {kstanding : Int32} {kturn : Int32} {kcuts : Int32} {kssize : Int32} {seed : Int32} {whiteWon : Int32} {cutsDone : Int32} {lett : Nat → Int32} {onB : Nat → Int32} {abv : Nat → Int32} {sets : Nat → Int32} {kinds : Nat → Int32} {sbranches : Nat → Int32} {sbeginners : Nat → Int32} {swon : Nat → Int32} {kkinds : Nat → Int32} {ksbranches : Nat → Int32} {ksbeginners : Nat → Int32} {kswon : Nat → Int32} {lcuts : Nat → Int32} {valu : Nat → Int32} {won : Nat → Int64} {chance : Nat → Int64}   : ∀ q : Int32 × Int32 × Int32 × Int32 × (Nat → Int32) × (Nat → Int32) × (Nat → Int32) × (Nat → Int32), q = f_X3_copyFrom_now standing turn cuts ssize kstanding kturn kcuts kssize kinds sbranches sbeginners swon kkinds ksbranches ksbeginners kswon → gMv l yX3_copyFrom wsX3_copyFrom rm_X3_copyFrom_now D E (tG cA) [.ref (a 7), .ref (a 13)] (wG a cA isCharted isKept hedgesRead evensDone plen number setCount standing turn cuts ssize kstanding kturn kcuts kssize seed whiteWon cutsDone lett onB abv sets kinds sbranches sbeginners swon kkinds ksbranches ksbeginners kswon lcuts valu won chance) (wG a cA isCharted isKept hedgesRead evensDone plen number setCount q.1 q.2.1 q.2.2.1 q.2.2.2.1 kstanding kturn kcuts kssize seed whiteWon cutsDone lett onB abv sets q.2.2.2.2.1 q.2.2.2.2.2.1 q.2.2.2.2.2.2.1 q.2.2.2.2.2.2.2 kkinds ksbranches ksbeginners kswon lcuts valu won chance) := by
  intro q he0
  refine gM_of (cc := cX3_copyFrom) (maxL := 2) (ret := none) (Qf := gQv D (wG a cA isCharted isKept hedgesRead evensDone plen number setCount q.1 q.2.1 q.2.2.1 q.2.2.2.1 kstanding kturn kcuts kssize seed whiteWon cutsDone lett onB abv sets q.2.2.2.2.1 q.2.2.2.2.2.1 q.2.2.2.2.2.2.1 q.2.2.2.2.2.2.2 kkinds ksbranches ksbeginners kswon lcuts valu won chance)) (by decide) rfl (Nat.le_of_ble_eq_true rfl) ?_
  intro p e s m args below meth c Z ls Qz hx hb hr hml hlocks hown hts hS hX hl hq
  have he := he0.trans f_X3_copyFrom_now_s
  have hown : s.vm.findClass RX3 = some m.cls := hown
  have hl : lv_has ls 2 [(0, .ref (a 7)), (1, .ref (a 13))] := hl
  have hi_X3 : ∀ w ∈ u_ws RX3 TX3 5, w ∈ wsX3_copyFrom := fun _ h => List.mem_cons_of_mem _ (List.mem_append_left _ (List.mem_append_right _ h))
  have l_fieldLink_15 := hts (Cond.fieldLink RX3 15 "HedgeGame$Moment" "standing" "I") (List.mem_of_getElem? (i := 6) rfl)
  have l_fieldLink_19 := hts (Cond.fieldLink RX3 19 "HedgeGame$Moment" "turn" "I") (List.mem_of_getElem? (i := 7) rfl)
  have l_fieldLink_22 := hts (Cond.fieldLink RX3 22 "HedgeGame$Moment" "cuts" "I") (List.mem_of_getElem? (i := 8) rfl)
  have l_fieldLink_28 := hts (Cond.fieldLink RX3 28 "HedgeGame$Moment" "seen" "LHedgeGame$Seen;") (List.mem_of_getElem? (i := 9) rfl)
  have l_fieldLink_9 := hts (Cond.fieldLink RX3 9 "HedgeGame$Moment" "kinds" "[I") (List.mem_of_getElem? (i := 1) rfl)
  have l_w_2 := hts (Cond.methodLink RX3 41 arraycopyName) (List.mem_of_getElem? (i := 2) rfl)
  have l_w_3 := hts (Cond.native arraycopyName) (List.mem_of_getElem? (i := 3) rfl)
  have l_w_4 := hts (Cond.static arraycopyName) (List.mem_of_getElem? (i := 4) rfl)
  have l_w_5 := hts (Cond.initialized "java/lang/System") (List.mem_of_getElem? (i := 5) rfl)
  have t0 : ((0 : Int32)).toInt = 0 := rfl
  have t1 : ((1 : Int32)).toInt = 1 := rfl
  have t8 : ((8 : Int32)).toInt = 8 := rfl
  refine lv_aload_n hx hb dX3_copyFrom_0 rfl (lv_at hl 1 rfl) ?_
  refine va_get (D := D) (ci := 3) (v := .ref (a 14)) (C := RX3) (T := TX3) (N := 5) hx hb hts hi_X3 hown hS.1 hX.1 13 rfl rfl 0 (by decide) l_fieldLink_9 (fun _ h9 => h9) rfl dX3_copyFrom_1 ?_
  refine lv_iconst (v := (0 : Int32)) hx hb dX3_copyFrom_4 (by decide) ?_
  refine lv_aload_n hx hb dX3_copyFrom_5 rfl (lv_at hl 0 rfl) ?_
  refine va_get (D := D) (ci := 3) (v := .ref (a 8)) (C := RX3) (T := TX3) (N := 5) hx hb hts hi_X3 hown hS.1 hX.1 7 rfl rfl 0 (by decide) l_fieldLink_9 (fun _ h9 => h9) rfl dX3_copyFrom_6 ?_
  refine lv_iconst (v := (0 : Int32)) hx hb dX3_copyFrom_9 (by decide) ?_
  refine lv_bipush (v := (8 : Int32)) hx hb dX3_copyFrom_10 (by decide) ?_
  refine va_copyi (ty := .int) hx hb (hml.trans hl.1.symm) hown l_w_2 l_w_3 l_w_4 l_w_5 hS.1 hX.1 hX.2.1 hX.2.2 14 8 8 4 rfl rfl rfl rfl rfl (by decide) (by decide) (by decide) (by decide) (by decide) (fun _ _ => rfl) (Nat.le_of_ble_eq_true rfl) (Nat.le_of_ble_eq_true rfl) dX3_copyFrom_12 (fun H locs hP hD hs => ?_)
  have hX : gX D Z s (wG a cA isCharted isKept hedgesRead evensDone plen number setCount standing turn cuts ssize kstanding kturn kcuts kssize seed whiteWon cutsDone lett onB abv sets (va_cpy kkinds kinds ((0 : Int32)).toNatClampNeg ((0 : Int32)).toNatClampNeg ((8 : Int32)).toNatClampNeg) sbranches sbeginners swon kkinds ksbranches ksbeginners kswon lcuts valu won chance) H locs := ⟨hP, hD, hs⟩
  refine lv_aload_n hx hb dX3_copyFrom_15 rfl (lv_at hl 0 rfl) ?_
  refine lv_aload_n hx hb dX3_copyFrom_16 rfl (lv_at hl 1 rfl) ?_
  refine va_get (D := D) (ci := 3) (v := .int kstanding) (C := RX3) (T := TX3) (N := 5) hx hb hts hi_X3 hown hS.1 hX.1 13 rfl rfl 1 (by decide) l_fieldLink_15 (fun _ h9 => h9) rfl dX3_copyFrom_17 ?_
  refine va_put (D := D) (ci := 3) (v := .int kstanding) (ty := .int) (C := RX3) (T := TX3) (N := 5) hx hb hts hi_X3 tyX3 tyX3_ok nmX3 hown hS.1 hX.1 hX.2.1 hX.2.2 7 rfl rfl 1 (by decide) l_fieldLink_15 (fun _ h9 => h9) rfl (by decide +kernel) rfl rfl (Nat.le_of_ble_eq_true rfl) dX3_copyFrom_20 (fun H locs hP hD hs => ?_)
  have hX : gX D Z s (wG a cA isCharted isKept hedgesRead evensDone plen number setCount kstanding turn cuts ssize kstanding kturn kcuts kssize seed whiteWon cutsDone lett onB abv sets (va_cpy kkinds kinds ((0 : Int32)).toNatClampNeg ((0 : Int32)).toNatClampNeg ((8 : Int32)).toNatClampNeg) sbranches sbeginners swon kkinds ksbranches ksbeginners kswon lcuts valu won chance) H locs := ⟨hP, hD, hs⟩
  refine lv_aload_n hx hb dX3_copyFrom_23 rfl (lv_at hl 0 rfl) ?_
  refine lv_aload_n hx hb dX3_copyFrom_24 rfl (lv_at hl 1 rfl) ?_
  refine va_get (D := D) (ci := 3) (v := .int kturn) (C := RX3) (T := TX3) (N := 5) hx hb hts hi_X3 hown hS.1 hX.1 13 rfl rfl 2 (by decide) l_fieldLink_19 (fun _ h9 => h9) rfl dX3_copyFrom_25 ?_
  refine va_put (D := D) (ci := 3) (v := .int kturn) (ty := .int) (C := RX3) (T := TX3) (N := 5) hx hb hts hi_X3 tyX3 tyX3_ok nmX3 hown hS.1 hX.1 hX.2.1 hX.2.2 7 rfl rfl 2 (by decide) l_fieldLink_19 (fun _ h9 => h9) rfl (by decide +kernel) rfl rfl (Nat.le_of_ble_eq_true rfl) dX3_copyFrom_28 (fun H locs hP hD hs => ?_)
  have hX : gX D Z s (wG a cA isCharted isKept hedgesRead evensDone plen number setCount kstanding kturn cuts ssize kstanding kturn kcuts kssize seed whiteWon cutsDone lett onB abv sets (va_cpy kkinds kinds ((0 : Int32)).toNatClampNeg ((0 : Int32)).toNatClampNeg ((8 : Int32)).toNatClampNeg) sbranches sbeginners swon kkinds ksbranches ksbeginners kswon lcuts valu won chance) H locs := ⟨hP, hD, hs⟩
  refine lv_aload_n hx hb dX3_copyFrom_31 rfl (lv_at hl 0 rfl) ?_
  refine lv_aload_n hx hb dX3_copyFrom_32 rfl (lv_at hl 1 rfl) ?_
  refine va_get (D := D) (ci := 3) (v := .int kcuts) (C := RX3) (T := TX3) (N := 5) hx hb hts hi_X3 hown hS.1 hX.1 13 rfl rfl 3 (by decide) l_fieldLink_22 (fun _ h9 => h9) rfl dX3_copyFrom_33 ?_
  refine va_put (D := D) (ci := 3) (v := .int kcuts) (ty := .int) (C := RX3) (T := TX3) (N := 5) hx hb hts hi_X3 tyX3 tyX3_ok nmX3 hown hS.1 hX.1 hX.2.1 hX.2.2 7 rfl rfl 3 (by decide) l_fieldLink_22 (fun _ h9 => h9) rfl (by decide +kernel) rfl rfl (Nat.le_of_ble_eq_true rfl) dX3_copyFrom_36 (fun H locs hP hD hs => ?_)
  have hX : gX D Z s (wG a cA isCharted isKept hedgesRead evensDone plen number setCount kstanding kturn kcuts ssize kstanding kturn kcuts kssize seed whiteWon cutsDone lett onB abv sets (va_cpy kkinds kinds ((0 : Int32)).toNatClampNeg ((0 : Int32)).toNatClampNeg ((8 : Int32)).toNatClampNeg) sbranches sbeginners swon kkinds ksbranches ksbeginners kswon lcuts valu won chance) H locs := ⟨hP, hD, hs⟩
  refine lv_aload_n hx hb dX3_copyFrom_39 rfl (lv_at hl 0 rfl) ?_
  refine va_get (D := D) (ci := 3) (v := .ref (a 9)) (C := RX3) (T := TX3) (N := 5) hx hb hts hi_X3 hown hS.1 hX.1 7 rfl rfl 4 (by decide) l_fieldLink_28 (fun _ h9 => h9) rfl dX3_copyFrom_40 ?_
  refine lv_aload_n hx hb dX3_copyFrom_43 rfl (lv_at hl 1 rfl) ?_
  refine va_get (D := D) (ci := 3) (v := .ref (a 15)) (C := RX3) (T := TX3) (N := 5) hx hb hts hi_X3 hown hS.1 hX.1 13 rfl rfl 4 (by decide) l_fieldLink_28 (fun _ h9 => h9) rfl dX3_copyFrom_44 ?_
  obtain ⟨z_1, e47⟩ : ∃ z, z = (f_X7_copyFrom_now ssize kssize sbranches sbeginners swon ksbranches ksbeginners kswon) := ⟨_, rfl⟩
  rw [← e47] at he
  try dsimp only at he
  refine g_Vv (w2 := (wG a cA isCharted isKept hedgesRead evensDone plen number setCount kstanding kturn kcuts z_1.1 kstanding kturn kcuts kssize seed whiteWon cutsDone lett onB abv sets (va_cpy kkinds kinds ((0 : Int32)).toNatClampNeg ((0 : Int32)).toNatClampNeg ((8 : Int32)).toNatClampNeg) z_1.2.1 z_1.2.2.1 z_1.2.2.2 kkinds ksbranches ksbeginners kswon lcuts valu won chance)) (As := [.ref (a 15)]) (rest := []) (ci := 7) (q0 := 9) ⟨hx, hb, hml, hown, hts⟩ hS hX (k_X7_copyFrom_now  z_1 e47) (cwV 1 hts gX3_copyFrom_X7_copyFrom rfl rfl rfl (by decide +kernel) ⟨Nat.le_of_ble_eq_true rfl, Nat.le_of_ble_eq_true rfl⟩) rfl rfl rfl hl.1 rfl (Nat.le_of_ble_eq_true rfl) dX3_copyFrom_47 ⟨Nat.zero_le _, Nat.zero_le _⟩ (fun H locs hX => ?_)
  subst he
  exact g_vret hx hb hr hlocks hX hq dX3_copyFrom_50
