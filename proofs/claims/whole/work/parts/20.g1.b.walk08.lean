abbrev rm_X10_cut : Room := { frames := 2, cells := 0, slots := 0, locals := 48 }
set_option maxHeartbeats 4000000 in
set_option maxRecDepth 100000 in
theorem k_X10_cut {l : Launch} {D : va_G} {E : sE} {a : Nat → Nat} {cA : Nat → ClassId} {isCharted : Int32} {isKept : Int32} {hedgesRead : Int32} {evensDone : Int32} {plen : Int32} {number : Int32} {setCount : Int32} {standing : Int32} {turn : Int32} {cuts : Int32} {ssize : Int32} {kstanding : Int32} {kturn : Int32} {kcuts : Int32} {kssize : Int32} {seed : Int32} {whiteWon : Int32} {cutsDone : Int32} {lett : Nat → Int32} {onB : Nat → Int32} {abv : Nat → Int32} {sets : Nat → Int32} {kinds : Nat → Int32} {sbranches : Nat → Int32} {sbeginners : Nat → Int32} {swon : Nat → Int32} {kkinds : Nat → Int32} {ksbranches : Nat → Int32} {ksbeginners : Nat → Int32} {kswon : Nat → Int32} {lcuts : Nat → Int32} {valu : Nat → Int32} {won : Nat → Int64} {chance : Nat → Int64} (p1 : Int32) (hnm : 0 ≤ (number).toInt ∧ (number).toInt ≤ 8) : ∀ q : Int32 × Int32 × Int32 × Int32, q = f_X10_cut number standing turn cuts abv kinds p1 → gMi l yX10_cut wsX10_cut rm_X10_cut D E (tG cA) [.ref (a 0), .int p1] (wG a cA isCharted isKept hedgesRead evensDone plen number setCount standing turn cuts ssize kstanding kturn kcuts kssize seed whiteWon cutsDone lett onB abv sets kinds sbranches sbeginners swon kkinds ksbranches ksbeginners kswon lcuts valu won chance) (wG a cA isCharted isKept hedgesRead evensDone plen number setCount q.2.1 q.2.2.1 q.2.2.2 ssize kstanding kturn kcuts kssize seed whiteWon cutsDone lett onB abv sets kinds sbranches sbeginners swon kkinds ksbranches ksbeginners kswon lcuts valu won chance) q.1 := by
  intro q he0
  refine gM_of (cc := cX10_cut) (maxL := 3) (ret := (some .int)) (Qf := gQi D (wG a cA isCharted isKept hedgesRead evensDone plen number setCount q.2.1 q.2.2.1 q.2.2.2 ssize kstanding kturn kcuts kssize seed whiteWon cutsDone lett onB abv sets kinds sbranches sbeginners swon kkinds ksbranches ksbeginners kswon lcuts valu won chance) q.1) (by decide) rfl (Nat.le_of_ble_eq_true rfl) ?_
  intro p e s m args below meth c Z ls Qz hx hb hr hml hlocks hown hts hS hX hl hq
  have he := he0.trans f_X10_cut_s
  have hown : s.vm.findClass RX10 = some m.cls := hown
  have hl : lv_has ls 3 [(0, .ref (a 0)), (1, .int p1)] := hl
  have hi_X10 : ∀ w ∈ u_ws RX10 TX10 14, w ∈ wsX10_cut := fun _ h => List.mem_cons_of_mem _ (List.mem_append_left _ (List.mem_append_left _ (List.mem_append_left _ (List.mem_append_right _ h))))
  have hi_X3 : ∀ w ∈ u_ws RX3 TX3 5, w ∈ wsX10_cut := fun _ h => List.mem_cons_of_mem _ (List.mem_append_left _ (List.mem_append_left _ (List.mem_append_right _ h)))
  have l_fieldLink_26 := hts (Cond.fieldLink RX10 26 "HedgeGame" "now" "LHedgeGame$Moment;") (List.mem_of_getElem? (i := 2) rfl)
  have l_fieldLink_38 := hts (Cond.fieldLink RX10 38 "HedgeGame" "rules" "LHedgeGame$Rules;") (List.mem_of_getElem? (i := 1) rfl)
  have tm104 : ((-104 : Int32)).toInt = -104 := rfl
  have tm103 : ((-103 : Int32)).toInt = -103 := rfl
  have tm101 : ((-101 : Int32)).toInt = -101 := rfl
  have t0 : ((0 : Int32)).toInt = 0 := rfl
  have t1 : ((1 : Int32)).toInt = 1 := rfl
  have t999 : ((999 : Int32)).toInt = 999 := rfl
  refine lv_aload_n hx hb dX10_cut_0 rfl (lv_at hl 0 rfl) ?_
  refine lv_iload_n hx hb dX10_cut_1 rfl (lv_at hl 1 rfl) ?_
  obtain ⟨r_1, e2⟩ : ∃ z, z = (f_X10_isUnknown number p1) := ⟨_, rfl⟩
  rw [← e2] at he
  refine g_Vi (r := r_1) (As := [.int p1]) (rest := []) (ci := 10) (q0 := 0) ⟨hx, hb, hml, hown, hts⟩ hS hX (k_X10_isUnknown p1 (by omega) r_1 e2) (cwV 1 hts gX10_cut_X10_isUnknown rfl rfl rfl (by decide +kernel) ⟨Nat.le_of_ble_eq_true rfl, Nat.le_of_ble_eq_true rfl⟩) rfl rfl rfl hl.1 rfl (Nat.le_of_ble_eq_true rfl) dX10_cut_2 ⟨Nat.zero_le _, Nat.zero_le _⟩ (fun H locs hX => ?_)
  have k2_0 : (r_1).toInt = 1 ∨ ((r_1).toInt = 0 ∧ 0 ≤ (p1).toInt ∧ (p1).toInt < (number).toInt) := by rw [e2]; exact r_isUnknown
  refine lv_if_eq (tgt := 11) hx hb dX10_cut_5 (by decide) (fun c5 => ?_) (fun c5 => ?_)
  · have he := he.trans (if_pos c5)
    have d5 := i_eq c5
    refine lv_aload_n hx hb dX10_cut_11 rfl (lv_at hl 0 rfl) ?_
    refine va_get (D := D) (ci := 10) (v := .ref (a 19)) (C := RX10) (T := TX10) (N := 14) hx hb hts hi_X10 hown hS.1 hX.1 0 rfl rfl 4 (by decide) l_fieldLink_38 (fun _ h9 => h9) rfl dX10_cut_12 ?_
    refine lv_aload_n hx hb dX10_cut_15 rfl (lv_at hl 0 rfl) ?_
    refine va_get (D := D) (ci := 10) (v := .ref (a 7)) (C := RX10) (T := TX10) (N := 14) hx hb hts hi_X10 hown hS.1 hX.1 0 rfl rfl 2 (by decide) l_fieldLink_26 (fun _ h9 => h9) rfl dX10_cut_16 ?_
    refine va_getN (D := D) (ci := 3) (v := .int turn) (C := RX3) (T := TX3) (N := 5) hx hb hts hi_X3 hown hS.1 hX.1 7 rfl rfl 2 (by decide) (hS.2.1.get 20 rfl) (fun _ h9 => h9) rfl dX10_cut_19 ?_
    refine lv_aload_n hx hb dX10_cut_22 rfl (lv_at hl 0 rfl) ?_
    refine va_get (D := D) (ci := 10) (v := .ref (a 7)) (C := RX10) (T := TX10) (N := 14) hx hb hts hi_X10 hown hS.1 hX.1 0 rfl rfl 2 (by decide) l_fieldLink_26 (fun _ h9 => h9) rfl dX10_cut_23 ?_
    refine va_getN (D := D) (ci := 3) (v := .int standing) (C := RX3) (T := TX3) (N := 5) hx hb hts hi_X3 hown hS.1 hX.1 7 rfl rfl 1 (by decide) (hS.2.1.get 19 rfl) (fun _ h9 => h9) rfl dX10_cut_26 ?_
    obtain ⟨r_2, e29⟩ : ∃ z, z = (f_X6_choices number abv kinds turn standing) := ⟨_, rfl⟩
    rw [← e29] at he
    refine g_Vi (r := r_2) (As := [.int turn, .int standing]) (rest := []) (ci := 6) (q0 := 19) ⟨hx, hb, hml, hown, hts⟩ hS hX (k_X6_choices turn standing (by omega) r_2 e29) (cwV 2 hts gX10_cut_X6_choices rfl rfl rfl (by decide +kernel) ⟨Nat.le_of_ble_eq_true rfl, Nat.le_of_ble_eq_true rfl⟩) rfl rfl rfl hl.1 rfl (Nat.le_of_ble_eq_true rfl) dX10_cut_29 ⟨Nat.zero_le _, Nat.zero_le _⟩ (fun H locs hX => ?_)
    refine lv_iload_n hx hb dX10_cut_32 rfl (lv_at hl 1 rfl) ?_
    refine lv_ishr hx hb dX10_cut_33 ?_
    refine lv_iconst (v := (1 : Int32)) hx hb dX10_cut_34 (by decide) ?_
    refine lv_iand hx hb dX10_cut_35 ?_
    refine lv_if_ne (tgt := 42) hx hb dX10_cut_36 (by decide) (fun c36 => ?_) (fun c36 => ?_)
    · have he := he.trans (if_neg c36)
      have d36 := i_ne c36
      refine lv_aload_n hx hb dX10_cut_42 rfl (lv_at hl 0 rfl) ?_
      refine va_get (D := D) (ci := 10) (v := .ref (a 7)) (C := RX10) (T := TX10) (N := 14) hx hb hts hi_X10 hown hS.1 hX.1 0 rfl rfl 2 (by decide) l_fieldLink_26 (fun _ h9 => h9) rfl dX10_cut_43 ?_
      refine va_getN (D := D) (ci := 3) (v := .int cuts) (C := RX3) (T := TX3) (N := 5) hx hb hts hi_X3 hown hS.1 hX.1 7 rfl rfl 3 (by decide) (hS.2.1.get 21 rfl) (fun _ h9 => h9) rfl dX10_cut_46 ?_
      refine lv_sipush (v := (999 : Int32)) hx hb dX10_cut_49 (by decide) ?_
      refine lv_icmp_lt (tgt := 58) hx hb dX10_cut_52 (by decide) (fun c52 => ?_) (fun c52 => ?_)
      · have he := he.trans (if_pos c52)
        have d52 := i_lt c52
        refine lv_aload_n hx hb dX10_cut_58 rfl (lv_at hl 0 rfl) ?_
        refine va_get (D := D) (ci := 10) (v := .ref (a 7)) (C := RX10) (T := TX10) (N := 14) hx hb hts hi_X10 hown hS.1 hX.1 0 rfl rfl 2 (by decide) l_fieldLink_26 (fun _ h9 => h9) rfl dX10_cut_59 ?_
        refine va_getN (D := D) (ci := 3) (v := .int standing) (C := RX3) (T := TX3) (N := 5) hx hb hts hi_X3 hown hS.1 hX.1 7 rfl rfl 1 (by decide) (hS.2.1.get 19 rfl) (fun _ h9 => h9) rfl dX10_cut_62 ?_
        obtain ⟨r_3, e65⟩ : ∃ z, z = (f_J6_bitCount_0f7a4 standing) := ⟨_, rfl⟩
        rw [← e65] at he
        refine g_Si (r := r_3) (As := [.int standing]) (rest := []) ⟨hx, hb, hml, hown, hts⟩ hS hX (k_J6_bitCount_0f7a4 standing r_3 e65) (va_cwS 1 hts gX10_cut_J6_bitCount_0f7a4 rfl rfl rfl (by decide +kernel) ⟨Nat.le_of_ble_eq_true rfl, Nat.le_of_ble_eq_true rfl⟩) rfl hl.1 rfl (Nat.le_of_ble_eq_true rfl) dX10_cut_65 ⟨Nat.zero_le _, Nat.zero_le _⟩ (fun H locs hX => ?_)
        refine lv_istore_n (lv' := [(2, .int r_3), (0, .ref (a 0)), (1, .int p1)]) hx hb dX10_cut_68 rfl hl (by decide) rfl (fun ls hl => ?_)
        refine lv_aload_n hx hb dX10_cut_69 rfl (lv_at hl 1 rfl) ?_
        refine va_get (D := D) (ci := 10) (v := .ref (a 7)) (C := RX10) (T := TX10) (N := 14) hx hb hts hi_X10 hown hS.1 hX.1 0 rfl rfl 2 (by decide) l_fieldLink_26 (fun _ h9 => h9) rfl dX10_cut_70 ?_
        refine lv_aload_n hx hb dX10_cut_73 rfl (lv_at hl 1 rfl) ?_
        refine va_get (D := D) (ci := 10) (v := .ref (a 19)) (C := RX10) (T := TX10) (N := 14) hx hb hts hi_X10 hown hS.1 hX.1 0 rfl rfl 4 (by decide) l_fieldLink_38 (fun _ h9 => h9) rfl dX10_cut_74 ?_
        refine lv_iload_n hx hb dX10_cut_77 rfl (lv_at hl 2 rfl) ?_
        refine lv_aload_n hx hb dX10_cut_78 rfl (lv_at hl 1 rfl) ?_
        refine va_get (D := D) (ci := 10) (v := .ref (a 7)) (C := RX10) (T := TX10) (N := 14) hx hb hts hi_X10 hown hS.1 hX.1 0 rfl rfl 2 (by decide) l_fieldLink_26 (fun _ h9 => h9) rfl dX10_cut_79 ?_
        refine va_getN (D := D) (ci := 3) (v := .int standing) (C := RX3) (T := TX3) (N := 5) hx hb hts hi_X3 hown hS.1 hX.1 7 rfl rfl 1 (by decide) (hS.2.1.get 19 rfl) (fun _ h9 => h9) rfl dX10_cut_82 ?_
        obtain ⟨r_4, e85⟩ : ∃ z, z = (f_X6_leftBy abv p1 standing) := ⟨_, rfl⟩
        rw [← e85] at he
        refine g_Vi (r := r_4) (As := [.int p1, .int standing]) (rest := [.ref (a 7)]) (ci := 6) (q0 := 19) ⟨hx, hb, hml, hown, hts⟩ hS hX (k_X6_leftBy p1 standing (by omega) r_4 e85) (cwV 2 hts gX10_cut_X6_leftBy rfl rfl rfl (by decide +kernel) ⟨Nat.le_of_ble_eq_true rfl, Nat.le_of_ble_eq_true rfl⟩) rfl rfl rfl hl.1 rfl (Nat.le_of_ble_eq_true rfl) dX10_cut_85 ⟨Nat.zero_le _, Nat.zero_le _⟩ (fun H locs hX => ?_)
        have k85_0 : 0 ≤ (standing).toInt → (0 ≤ (r_4).toInt ∧ (r_4).toInt ≤ (standing).toInt) := by rw [e85]; exact r_leftBy
        refine va_putN (D := D) (ci := 3) (v := .int r_4) (ty := .int) (C := RX3) (T := TX3) (N := 5) hx hb hts hi_X3 tyX3 tyX3_ok nmX3 hown hS.1 hX.1 hX.2.1 hX.2.2 7 rfl rfl 1 (by decide) (hS.2.1.get 19 rfl) (fun _ h9 => h9) rfl (by decide +kernel) rfl rfl (Nat.le_of_ble_eq_true rfl) dX10_cut_88 (fun H locs hP hD hs => ?_)
        have hX : gX D Z s (wG a cA isCharted isKept hedgesRead evensDone plen number setCount r_4 turn cuts ssize kstanding kturn kcuts kssize seed whiteWon cutsDone lett onB abv sets kinds sbranches sbeginners swon kkinds ksbranches ksbeginners kswon lcuts valu won chance) H locs := ⟨hP, hD, hs⟩
        refine lv_aload_n hx hb dX10_cut_91 rfl (lv_at hl 1 rfl) ?_
        refine va_get (D := D) (ci := 10) (v := .ref (a 7)) (C := RX10) (T := TX10) (N := 14) hx hb hts hi_X10 hown hS.1 hX.1 0 rfl rfl 2 (by decide) l_fieldLink_26 (fun _ h9 => h9) rfl dX10_cut_92 ?_
        refine lv_iconst (v := (1 : Int32)) hx hb dX10_cut_95 (by decide) ?_
        refine lv_aload_n hx hb dX10_cut_96 rfl (lv_at hl 1 rfl) ?_
        refine va_get (D := D) (ci := 10) (v := .ref (a 7)) (C := RX10) (T := TX10) (N := 14) hx hb hts hi_X10 hown hS.1 hX.1 0 rfl rfl 2 (by decide) l_fieldLink_26 (fun _ h9 => h9) rfl dX10_cut_97 ?_
        refine va_getN (D := D) (ci := 3) (v := .int turn) (C := RX3) (T := TX3) (N := 5) hx hb hts hi_X3 hown hS.1 hX.1 7 rfl rfl 2 (by decide) (hS.2.1.get 20 rfl) (fun _ h9 => h9) rfl dX10_cut_100 ?_
        refine lv_isub hx hb dX10_cut_103 ?_
        refine va_putN (D := D) (ci := 3) (v := .int ((1 : Int32) - turn)) (ty := .int) (C := RX3) (T := TX3) (N := 5) hx hb hts hi_X3 tyX3 tyX3_ok nmX3 hown hS.1 hX.1 hX.2.1 hX.2.2 7 rfl rfl 2 (by decide) (hS.2.1.get 20 rfl) (fun _ h9 => h9) rfl (by decide +kernel) rfl rfl (Nat.le_of_ble_eq_true rfl) dX10_cut_104 (fun H locs hP hD hs => ?_)
        have hX : gX D Z s (wG a cA isCharted isKept hedgesRead evensDone plen number setCount r_4 ((1 : Int32) - turn) cuts ssize kstanding kturn kcuts kssize seed whiteWon cutsDone lett onB abv sets kinds sbranches sbeginners swon kkinds ksbranches ksbeginners kswon lcuts valu won chance) H locs := ⟨hP, hD, hs⟩
        refine lv_aload_n hx hb dX10_cut_107 rfl (lv_at hl 1 rfl) ?_
        refine va_get (D := D) (ci := 10) (v := .ref (a 7)) (C := RX10) (T := TX10) (N := 14) hx hb hts hi_X10 hown hS.1 hX.1 0 rfl rfl 2 (by decide) l_fieldLink_26 (fun _ h9 => h9) rfl dX10_cut_108 ?_
        refine lv_dup hx hb dX10_cut_111 rfl ?_
        refine va_getN (D := D) (ci := 3) (v := .int cuts) (C := RX3) (T := TX3) (N := 5) hx hb hts hi_X3 hown hS.1 hX.1 7 rfl rfl 3 (by decide) (hS.2.1.get 21 rfl) (fun _ h9 => h9) rfl dX10_cut_112 ?_
        refine lv_iconst (v := (1 : Int32)) hx hb dX10_cut_115 (by decide) ?_
        refine lv_iadd hx hb dX10_cut_116 ?_
        refine va_putN (D := D) (ci := 3) (v := .int (cuts + (1 : Int32))) (ty := .int) (C := RX3) (T := TX3) (N := 5) hx hb hts hi_X3 tyX3 tyX3_ok nmX3 hown hS.1 hX.1 hX.2.1 hX.2.2 7 rfl rfl 3 (by decide) (hS.2.1.get 21 rfl) (fun _ h9 => h9) rfl (by decide +kernel) rfl rfl (Nat.le_of_ble_eq_true rfl) dX10_cut_117 (fun H locs hP hD hs => ?_)
        have hX : gX D Z s (wG a cA isCharted isKept hedgesRead evensDone plen number setCount r_4 ((1 : Int32) - turn) (cuts + (1 : Int32)) ssize kstanding kturn kcuts kssize seed whiteWon cutsDone lett onB abv sets kinds sbranches sbeginners swon kkinds ksbranches ksbeginners kswon lcuts valu won chance) H locs := ⟨hP, hD, hs⟩
        refine lv_iload_n hx hb dX10_cut_120 rfl (lv_at hl 0 rfl) ?_
        refine lv_aload_n hx hb dX10_cut_121 rfl (lv_at hl 1 rfl) ?_
        refine va_get (D := D) (ci := 10) (v := .ref (a 7)) (C := RX10) (T := TX10) (N := 14) hx hb hts hi_X10 hown hS.1 hX.1 0 rfl rfl 2 (by decide) l_fieldLink_26 (fun _ h9 => h9) rfl dX10_cut_122 ?_
        refine va_getN (D := D) (ci := 3) (v := .int r_4) (C := RX3) (T := TX3) (N := 5) hx hb hts hi_X3 hown hS.1 hX.1 7 rfl rfl 1 (by decide) (hS.2.1.get 19 rfl) (fun _ h9 => h9) rfl dX10_cut_125 ?_
        obtain ⟨r_5, e128⟩ : ∃ z, z = (f_J6_bitCount_0f7a4 r_4) := ⟨_, rfl⟩
        rw [← e128] at he
        refine g_Si (r := r_5) (As := [.int r_4]) (rest := [.int r_3]) ⟨hx, hb, hml, hown, hts⟩ hS hX (k_J6_bitCount_0f7a4 r_4 r_5 e128) (va_cwS 1 hts gX10_cut_J6_bitCount_0f7a4 rfl rfl rfl (by decide +kernel) ⟨Nat.le_of_ble_eq_true rfl, Nat.le_of_ble_eq_true rfl⟩) rfl hl.1 rfl (Nat.le_of_ble_eq_true rfl) dX10_cut_128 ⟨Nat.zero_le _, Nat.zero_le _⟩ (fun H locs hX => ?_)
        refine lv_isub hx hb dX10_cut_131 ?_
        subst he
        exact g_iret hx hb hr hlocks hX hq rfl dX10_cut_132
      · have he := he.trans (if_neg c52)
        have d52 := i_nlt c52
        refine lv_bipush (v := (-104 : Int32)) hx hb dX10_cut_55 (by decide) ?_
        subst he
        exact g_iret hx hb hr hlocks hX hq rfl dX10_cut_57
    · have he := he.trans (if_pos c36)
      have d36 := i_eq c36
      refine lv_bipush (v := (-103 : Int32)) hx hb dX10_cut_39 (by decide) ?_
      subst he
      exact g_iret hx hb hr hlocks hX hq rfl dX10_cut_41
  · have he := he.trans (if_neg c5)
    have d5 := i_ne c5
    refine lv_bipush (v := (-101 : Int32)) hx hb dX10_cut_8 (by decide) ?_
    subst he
    exact g_iret hx hb hr hlocks hX hq rfl dX10_cut_10
abbrev rm_X10_grow : Room := { frames := 1, cells := 0, slots := 0, locals := 22 }
set_option maxHeartbeats 4000000 in
set_option maxRecDepth 100000 in
theorem k_X10_grow {l : Launch} {D : va_G} {E : sE} {a : Nat → Nat} {cA : Nat → ClassId} {isCharted : Int32} {isKept : Int32} {hedgesRead : Int32} {evensDone : Int32} {plen : Int32} {number : Int32} {setCount : Int32} {standing : Int32} {turn : Int32} {cuts : Int32} {ssize : Int32} {kstanding : Int32} {kturn : Int32} {kcuts : Int32} {kssize : Int32} {seed : Int32} {whiteWon : Int32} {cutsDone : Int32} {lett : Nat → Int32} {onB : Nat → Int32} {abv : Nat → Int32} {sets : Nat → Int32} {kinds : Nat → Int32} {sbranches : Nat → Int32} {sbeginners : Nat → Int32} {swon : Nat → Int32} {kkinds : Nat → Int32} {ksbranches : Nat → Int32} {ksbeginners : Nat → Int32} {kswon : Nat → Int32} {lcuts : Nat → Int32} {valu : Nat → Int32} {won : Nat → Int64} {chance : Nat → Int64} (p1 : Int32) (hnm : 0 ≤ (number).toInt ∧ (number).toInt ≤ 8) : ∀ q : Int32 × Int32, q = f_X10_grow number standing onB p1 → gMi l yX10_grow wsX10_grow rm_X10_grow D E (tG cA) [.ref (a 0), .int p1] (wG a cA isCharted isKept hedgesRead evensDone plen number setCount standing turn cuts ssize kstanding kturn kcuts kssize seed whiteWon cutsDone lett onB abv sets kinds sbranches sbeginners swon kkinds ksbranches ksbeginners kswon lcuts valu won chance) (wG a cA isCharted isKept hedgesRead evensDone plen number setCount q.2 turn cuts ssize kstanding kturn kcuts kssize seed whiteWon cutsDone lett onB abv sets kinds sbranches sbeginners swon kkinds ksbranches ksbeginners kswon lcuts valu won chance) q.1 := by
  intro q he0
  refine gM_of (cc := cX10_grow) (maxL := 2) (ret := (some .int)) (Qf := gQi D (wG a cA isCharted isKept hedgesRead evensDone plen number setCount q.2 turn cuts ssize kstanding kturn kcuts kssize seed whiteWon cutsDone lett onB abv sets kinds sbranches sbeginners swon kkinds ksbranches ksbeginners kswon lcuts valu won chance) q.1) (by decide) rfl (Nat.le_of_ble_eq_true rfl) ?_
  intro p e s m args below meth c Z ls Qz hx hb hr hml hlocks hown hts hS hX hl hq
  have he := he0.trans f_X10_grow_s
  have hown : s.vm.findClass RX10 = some m.cls := hown
  have hl : lv_has ls 2 [(0, .ref (a 0)), (1, .int p1)] := hl
  have hi_X10 : ∀ w ∈ u_ws RX10 TX10 14, w ∈ wsX10_grow := fun _ h => List.mem_cons_of_mem _ (List.mem_append_left _ (List.mem_append_left _ (List.mem_append_right _ h)))
  have hi_X3 : ∀ w ∈ u_ws RX3 TX3 5, w ∈ wsX10_grow := fun _ h => List.mem_cons_of_mem _ (List.mem_append_left _ (List.mem_append_right _ h))
  have l_fieldLink_19 := hts (Cond.fieldLink RX10 19 "HedgeGame" "shape" "LHedgeGame$Shape;") (List.mem_of_getElem? (i := 2) rfl)
  have l_fieldLink_26 := hts (Cond.fieldLink RX10 26 "HedgeGame" "now" "LHedgeGame$Moment;") (List.mem_of_getElem? (i := 1) rfl)
  have tm103 : ((-103 : Int32)).toInt = -103 := rfl
  have tm101 : ((-101 : Int32)).toInt = -101 := rfl
  have t0 : ((0 : Int32)).toInt = 0 := rfl
  have t1 : ((1 : Int32)).toInt = 1 := rfl
  refine lv_aload_n hx hb dX10_grow_0 rfl (lv_at hl 0 rfl) ?_
  refine lv_iload_n hx hb dX10_grow_1 rfl (lv_at hl 1 rfl) ?_
  obtain ⟨r_1, e2⟩ : ∃ z, z = (f_X10_isUnknown number p1) := ⟨_, rfl⟩
  rw [← e2] at he
  refine g_Vi (r := r_1) (As := [.int p1]) (rest := []) (ci := 10) (q0 := 0) ⟨hx, hb, hml, hown, hts⟩ hS hX (k_X10_isUnknown p1 (by omega) r_1 e2) (cwV 1 hts gX10_grow_X10_isUnknown rfl rfl rfl (by decide +kernel) ⟨Nat.le_of_ble_eq_true rfl, Nat.le_of_ble_eq_true rfl⟩) rfl rfl rfl hl.1 rfl (Nat.le_of_ble_eq_true rfl) dX10_grow_2 ⟨Nat.zero_le _, Nat.zero_le _⟩ (fun H locs hX => ?_)
  have k2_0 : (r_1).toInt = 1 ∨ ((r_1).toInt = 0 ∧ 0 ≤ (p1).toInt ∧ (p1).toInt < (number).toInt) := by rw [e2]; exact r_isUnknown
  refine lv_if_eq (tgt := 11) hx hb dX10_grow_5 (by decide) (fun c5 => ?_) (fun c5 => ?_)
  · have he := he.trans (if_pos c5)
    have d5 := i_eq c5
    refine lv_aload_n hx hb dX10_grow_11 rfl (lv_at hl 0 rfl) ?_
    refine va_get (D := D) (ci := 10) (v := .ref (a 7)) (C := RX10) (T := TX10) (N := 14) hx hb hts hi_X10 hown hS.1 hX.1 0 rfl rfl 2 (by decide) l_fieldLink_26 (fun _ h9 => h9) rfl dX10_grow_12 ?_
    refine va_getN (D := D) (ci := 3) (v := .int standing) (C := RX3) (T := TX3) (N := 5) hx hb hts hi_X3 hown hS.1 hX.1 7 rfl rfl 1 (by decide) (hS.2.1.get 19 rfl) (fun _ h9 => h9) rfl dX10_grow_15 ?_
    refine lv_iload_n hx hb dX10_grow_18 rfl (lv_at hl 1 rfl) ?_
    refine lv_ishr hx hb dX10_grow_19 ?_
    refine lv_iconst (v := (1 : Int32)) hx hb dX10_grow_20 (by decide) ?_
    refine lv_iand hx hb dX10_grow_21 ?_
    refine lv_if_ne (tgt := 43) hx hb dX10_grow_22 (by decide) (fun c22 => ?_) (fun c22 => ?_)
    · have he := he.trans (if_neg c22)
      have d22 := i_ne c22
      refine lv_bipush (v := (-103 : Int32)) hx hb dX10_grow_43 (by decide) ?_
      subst he
      exact g_iret hx hb hr hlocks hX hq rfl dX10_grow_45
    · have he := he.trans (if_pos c22)
      have d22 := i_eq c22
      refine lv_aload_n hx hb dX10_grow_25 rfl (lv_at hl 0 rfl) ?_
      refine va_get (D := D) (ci := 10) (v := .ref (a 3)) (C := RX10) (T := TX10) (N := 14) hx hb hts hi_X10 hown hS.1 hX.1 0 rfl rfl 1 (by decide) l_fieldLink_19 (fun _ h9 => h9) rfl dX10_grow_26 ?_
      refine lv_iload_n hx hb dX10_grow_29 rfl (lv_at hl 1 rfl) ?_
      refine lv_aload_n hx hb dX10_grow_30 rfl (lv_at hl 0 rfl) ?_
      refine va_get (D := D) (ci := 10) (v := .ref (a 7)) (C := RX10) (T := TX10) (N := 14) hx hb hts hi_X10 hown hS.1 hX.1 0 rfl rfl 2 (by decide) l_fieldLink_26 (fun _ h9 => h9) rfl dX10_grow_31 ?_
      refine va_getN (D := D) (ci := 3) (v := .int standing) (C := RX3) (T := TX3) (N := 5) hx hb hts hi_X3 hown hS.1 hX.1 7 rfl rfl 1 (by decide) (hS.2.1.get 19 rfl) (fun _ h9 => h9) rfl dX10_grow_34 ?_
      obtain ⟨r_2, e37⟩ : ∃ z, z = (f_X8_hasFooting onB p1 standing) := ⟨_, rfl⟩
      rw [← e37] at he
      refine g_Vi (r := r_2) (As := [.int p1, .int standing]) (rest := []) (ci := 8) (q0 := 3) ⟨hx, hb, hml, hown, hts⟩ hS hX (k_X8_hasFooting p1 standing (by omega) r_2 e37) (cwV 2 hts gX10_grow_X8_hasFooting rfl rfl rfl (by decide +kernel) ⟨Nat.le_of_ble_eq_true rfl, Nat.le_of_ble_eq_true rfl⟩) rfl rfl rfl hl.1 rfl (Nat.le_of_ble_eq_true rfl) dX10_grow_37 ⟨Nat.zero_le _, Nat.zero_le _⟩ (fun H locs hX => ?_)
      refine lv_if_ne (tgt := 46) hx hb dX10_grow_40 (by decide) (fun c40 => ?_) (fun c40 => ?_)
      · have he := he.trans (if_neg c40)
        have d40 := i_ne c40
        refine lv_aload_n hx hb dX10_grow_46 rfl (lv_at hl 0 rfl) ?_
        refine va_get (D := D) (ci := 10) (v := .ref (a 7)) (C := RX10) (T := TX10) (N := 14) hx hb hts hi_X10 hown hS.1 hX.1 0 rfl rfl 2 (by decide) l_fieldLink_26 (fun _ h9 => h9) rfl dX10_grow_47 ?_
        refine lv_dup hx hb dX10_grow_50 rfl ?_
        refine va_getN (D := D) (ci := 3) (v := .int standing) (C := RX3) (T := TX3) (N := 5) hx hb hts hi_X3 hown hS.1 hX.1 7 rfl rfl 1 (by decide) (hS.2.1.get 19 rfl) (fun _ h9 => h9) rfl dX10_grow_51 ?_
        refine lv_iconst (v := (1 : Int32)) hx hb dX10_grow_54 (by decide) ?_
        refine lv_iload_n hx hb dX10_grow_55 rfl (lv_at hl 1 rfl) ?_
        refine lv_ishl hx hb dX10_grow_56 ?_
        refine lv_ior hx hb dX10_grow_57 ?_
        refine va_putN (D := D) (ci := 3) (v := .int (standing ||| ((1 : Int32) <<< (p1 &&& 31)))) (ty := .int) (C := RX3) (T := TX3) (N := 5) hx hb hts hi_X3 tyX3 tyX3_ok nmX3 hown hS.1 hX.1 hX.2.1 hX.2.2 7 rfl rfl 1 (by decide) (hS.2.1.get 19 rfl) (fun _ h9 => h9) rfl (by decide +kernel) rfl rfl (Nat.le_of_ble_eq_true rfl) dX10_grow_58 (fun H locs hP hD hs => ?_)
        have hX : gX D Z s (wG a cA isCharted isKept hedgesRead evensDone plen number setCount (standing ||| ((1 : Int32) <<< (p1 &&& 31))) turn cuts ssize kstanding kturn kcuts kssize seed whiteWon cutsDone lett onB abv sets kinds sbranches sbeginners swon kkinds ksbranches ksbeginners kswon lcuts valu won chance) H locs := ⟨hP, hD, hs⟩
        refine lv_aload_n hx hb dX10_grow_61 rfl (lv_at hl 0 rfl) ?_
        refine va_get (D := D) (ci := 10) (v := .ref (a 7)) (C := RX10) (T := TX10) (N := 14) hx hb hts hi_X10 hown hS.1 hX.1 0 rfl rfl 2 (by decide) l_fieldLink_26 (fun _ h9 => h9) rfl dX10_grow_62 ?_
        refine va_getN (D := D) (ci := 3) (v := .int (standing ||| ((1 : Int32) <<< (p1 &&& 31)))) (C := RX3) (T := TX3) (N := 5) hx hb hts hi_X3 hown hS.1 hX.1 7 rfl rfl 1 (by decide) (hS.2.1.get 19 rfl) (fun _ h9 => h9) rfl dX10_grow_65 ?_
        obtain ⟨r_3, e68⟩ : ∃ z, z = (f_J6_bitCount_0f7a4 (standing ||| ((1 : Int32) <<< (p1 &&& 31)))) := ⟨_, rfl⟩
        rw [← e68] at he
        refine g_Si (r := r_3) (As := [.int (standing ||| ((1 : Int32) <<< (p1 &&& 31)))]) (rest := []) ⟨hx, hb, hml, hown, hts⟩ hS hX (k_J6_bitCount_0f7a4 (standing ||| ((1 : Int32) <<< (p1 &&& 31))) r_3 e68) (va_cwS 1 hts gX10_grow_J6_bitCount_0f7a4 rfl rfl rfl (by decide +kernel) ⟨Nat.le_of_ble_eq_true rfl, Nat.le_of_ble_eq_true rfl⟩) rfl hl.1 rfl (Nat.le_of_ble_eq_true rfl) dX10_grow_68 ⟨Nat.zero_le _, Nat.zero_le _⟩ (fun H locs hX => ?_)
        subst he
        exact g_iret hx hb hr hlocks hX hq rfl dX10_grow_71
      · have he := he.trans (if_pos c40)
        have d40 := i_eq c40
        refine lv_bipush (v := (-103 : Int32)) hx hb dX10_grow_43 (by decide) ?_
        subst he
        exact g_iret hx hb hr hlocks hX hq rfl dX10_grow_45
  · have he := he.trans (if_neg c5)
    have d5 := i_ne c5
    refine lv_bipush (v := (-101 : Int32)) hx hb dX10_grow_8 (by decide) ?_
    subst he
    exact g_iret hx hb hr hlocks hX hq rfl dX10_grow_10
abbrev rm_X10_pass : Room := { frames := 1, cells := 0, slots := 0, locals := 20 }
set_option maxHeartbeats 4000000 in
set_option maxRecDepth 100000 in
theorem k_X10_pass {l : Launch} {D : va_G} {E : sE} {a : Nat → Nat} {cA : Nat → ClassId} {isCharted : Int32} {isKept : Int32} {hedgesRead : Int32} {evensDone : Int32} {plen : Int32} {number : Int32} {setCount : Int32} {standing : Int32} {turn : Int32} {cuts : Int32} {ssize : Int32} {kstanding : Int32} {kturn : Int32} {kcuts : Int32} {kssize : Int32} {seed : Int32} {whiteWon : Int32} {cutsDone : Int32} {lett : Nat → Int32} {onB : Nat → Int32} {abv : Nat → Int32} {sets : Nat → Int32} {kinds : Nat → Int32} {sbranches : Nat → Int32} {sbeginners : Nat → Int32} {swon : Nat → Int32} {kkinds : Nat → Int32} {ksbranches : Nat → Int32} {ksbeginners : Nat → Int32} {kswon : Nat → Int32} {lcuts : Nat → Int32} {valu : Nat → Int32} {won : Nat → Int64} {chance : Nat → Int64}   : ∀ q : Int32 × Int32, q = f_X10_pass number turn → gMi l yX10_pass wsX10_pass rm_X10_pass D E (tG cA) [.ref (a 0)] (wG a cA isCharted isKept hedgesRead evensDone plen number setCount standing turn cuts ssize kstanding kturn kcuts kssize seed whiteWon cutsDone lett onB abv sets kinds sbranches sbeginners swon kkinds ksbranches ksbeginners kswon lcuts valu won chance) (wG a cA isCharted isKept hedgesRead evensDone plen number setCount standing q.2 cuts ssize kstanding kturn kcuts kssize seed whiteWon cutsDone lett onB abv sets kinds sbranches sbeginners swon kkinds ksbranches ksbeginners kswon lcuts valu won chance) q.1 := by
  intro q he0
  refine gM_of (cc := cX10_pass) (maxL := 2) (ret := (some .int)) (Qf := gQi D (wG a cA isCharted isKept hedgesRead evensDone plen number setCount standing q.2 cuts ssize kstanding kturn kcuts kssize seed whiteWon cutsDone lett onB abv sets kinds sbranches sbeginners swon kkinds ksbranches ksbeginners kswon lcuts valu won chance) q.1) (by decide) rfl (Nat.le_of_ble_eq_true rfl) ?_
  intro p e s m args below meth c Z ls Qz hx hb hr hml hlocks hown hts hS hX hl hq
  have he := he0.trans f_X10_pass_s
  have hown : s.vm.findClass RX10 = some m.cls := hown
  have hl : lv_has ls 2 [(0, .ref (a 0))] := hl
  have hi_X10 : ∀ w ∈ u_ws RX10 TX10 14, w ∈ wsX10_pass := fun _ h => List.mem_cons_of_mem _ (List.mem_append_left _ (List.mem_append_left _ (List.mem_append_right _ h)))
  have hi_X3 : ∀ w ∈ u_ws RX3 TX3 5, w ∈ wsX10_pass := fun _ h => List.mem_cons_of_mem _ (List.mem_append_left _ (List.mem_append_right _ h))
  have l_fieldLink_26 := hts (Cond.fieldLink RX10 26 "HedgeGame" "now" "LHedgeGame$Moment;") (List.mem_of_getElem? (i := 1) rfl)
  have tm103 : ((-103 : Int32)).toInt = -103 := rfl
  have t0 : ((0 : Int32)).toInt = 0 := rfl
  have t1 : ((1 : Int32)).toInt = 1 := rfl
  refine lv_aload_n hx hb dX10_pass_0 rfl (lv_at hl 0 rfl) ?_
  obtain ⟨r_1, e1⟩ : ∃ z, z = (f_X10_hasNoHedge number) := ⟨_, rfl⟩
  rw [← e1] at he
  refine g_Vi (r := r_1) (As := []) (rest := []) (ci := 10) (q0 := 0) ⟨hx, hb, hml, hown, hts⟩ hS hX (k_X10_hasNoHedge  r_1 e1) (cwV 0 hts gX10_pass_X10_hasNoHedge rfl rfl rfl (by decide +kernel) ⟨Nat.le_of_ble_eq_true rfl, Nat.le_of_ble_eq_true rfl⟩) rfl rfl rfl hl.1 rfl (Nat.le_of_ble_eq_true rfl) dX10_pass_1 ⟨Nat.zero_le _, Nat.zero_le _⟩ (fun H locs hX => ?_)
  refine lv_if_eq (tgt := 10) hx hb dX10_pass_4 (by decide) (fun c4 => ?_) (fun c4 => ?_)
  · have he := he.trans (if_pos c4)
    have d4 := i_eq c4
    refine lv_aload_n hx hb dX10_pass_10 rfl (lv_at hl 0 rfl) ?_
    refine va_get (D := D) (ci := 10) (v := .ref (a 7)) (C := RX10) (T := TX10) (N := 14) hx hb hts hi_X10 hown hS.1 hX.1 0 rfl rfl 2 (by decide) l_fieldLink_26 (fun _ h9 => h9) rfl dX10_pass_11 ?_
    refine va_getN (D := D) (ci := 3) (v := .int turn) (C := RX3) (T := TX3) (N := 5) hx hb hts hi_X3 hown hS.1 hX.1 7 rfl rfl 2 (by decide) (hS.2.1.get 20 rfl) (fun _ h9 => h9) rfl dX10_pass_14 ?_
    refine lv_istore_n (lv' := [(1, .int turn), (0, .ref (a 0))]) hx hb dX10_pass_17 rfl hl (by decide) rfl (fun ls hl => ?_)
    refine lv_aload_n hx hb dX10_pass_18 rfl (lv_at hl 1 rfl) ?_
    refine va_get (D := D) (ci := 10) (v := .ref (a 7)) (C := RX10) (T := TX10) (N := 14) hx hb hts hi_X10 hown hS.1 hX.1 0 rfl rfl 2 (by decide) l_fieldLink_26 (fun _ h9 => h9) rfl dX10_pass_19 ?_
    refine lv_iconst (v := (1 : Int32)) hx hb dX10_pass_22 (by decide) ?_
    refine lv_iload_n hx hb dX10_pass_23 rfl (lv_at hl 0 rfl) ?_
    refine lv_isub hx hb dX10_pass_24 ?_
    refine va_putN (D := D) (ci := 3) (v := .int ((1 : Int32) - turn)) (ty := .int) (C := RX3) (T := TX3) (N := 5) hx hb hts hi_X3 tyX3 tyX3_ok nmX3 hown hS.1 hX.1 hX.2.1 hX.2.2 7 rfl rfl 2 (by decide) (hS.2.1.get 20 rfl) (fun _ h9 => h9) rfl (by decide +kernel) rfl rfl (Nat.le_of_ble_eq_true rfl) dX10_pass_25 (fun H locs hP hD hs => ?_)
    have hX : gX D Z s (wG a cA isCharted isKept hedgesRead evensDone plen number setCount standing ((1 : Int32) - turn) cuts ssize kstanding kturn kcuts kssize seed whiteWon cutsDone lett onB abv sets kinds sbranches sbeginners swon kkinds ksbranches ksbeginners kswon lcuts valu won chance) H locs := ⟨hP, hD, hs⟩
    refine lv_iload_n hx hb dX10_pass_28 rfl (lv_at hl 0 rfl) ?_
    subst he
    exact g_iret hx hb hr hlocks hX hq rfl dX10_pass_29
  · have he := he.trans (if_neg c4)
    have d4 := i_ne c4
    refine lv_bipush (v := (-103 : Int32)) hx hb dX10_pass_7 (by decide) ?_
    subst he
    exact g_iret hx hb hr hlocks hX hq rfl dX10_pass_9
abbrev rm_X10_graft : Room := { frames := 1, cells := 0, slots := 0, locals := 21 }
set_option maxHeartbeats 4000000 in
set_option maxRecDepth 100000 in
theorem k_X10_graft {l : Launch} {D : va_G} {E : sE} {a : Nat → Nat} {cA : Nat → ClassId} {isCharted : Int32} {isKept : Int32} {hedgesRead : Int32} {evensDone : Int32} {plen : Int32} {number : Int32} {setCount : Int32} {standing : Int32} {turn : Int32} {cuts : Int32} {ssize : Int32} {kstanding : Int32} {kturn : Int32} {kcuts : Int32} {kssize : Int32} {seed : Int32} {whiteWon : Int32} {cutsDone : Int32} {lett : Nat → Int32} {onB : Nat → Int32} {abv : Nat → Int32} {sets : Nat → Int32} {kinds : Nat → Int32} {sbranches : Nat → Int32} {sbeginners : Nat → Int32} {swon : Nat → Int32} {kkinds : Nat → Int32} {ksbranches : Nat → Int32} {ksbeginners : Nat → Int32} {kswon : Nat → Int32} {lcuts : Nat → Int32} {valu : Nat → Int32} {won : Nat → Int64} {chance : Nat → Int64} (p1 : Int32) (p2 : Int32) (hnm : 0 ≤ (number).toInt ∧ (number).toInt ≤ 8) : ∀ q : Int32 × Int32 × (Nat → Int32), q = f_X10_graft isCharted number kinds p1 p2 → gMi l yX10_graft wsX10_graft rm_X10_graft D E (tG cA) [.ref (a 0), .int p1, .int p2] (wG a cA isCharted isKept hedgesRead evensDone plen number setCount standing turn cuts ssize kstanding kturn kcuts kssize seed whiteWon cutsDone lett onB abv sets kinds sbranches sbeginners swon kkinds ksbranches ksbeginners kswon lcuts valu won chance) (wG a cA q.2.1 isKept hedgesRead evensDone plen number setCount standing turn cuts ssize kstanding kturn kcuts kssize seed whiteWon cutsDone lett onB abv sets q.2.2 sbranches sbeginners swon kkinds ksbranches ksbeginners kswon lcuts valu won chance) q.1 := by
  intro q he0
  refine gM_of (cc := cX10_graft) (maxL := 4) (ret := (some .int)) (Qf := gQi D (wG a cA q.2.1 isKept hedgesRead evensDone plen number setCount standing turn cuts ssize kstanding kturn kcuts kssize seed whiteWon cutsDone lett onB abv sets q.2.2 sbranches sbeginners swon kkinds ksbranches ksbeginners kswon lcuts valu won chance) q.1) (by decide) rfl (Nat.le_of_ble_eq_true rfl) ?_
  intro p e s m args below meth c Z ls Qz hx hb hr hml hlocks hown hts hS hX hl hq
  have he := he0.trans f_X10_graft_s
  have hown : s.vm.findClass RX10 = some m.cls := hown
  have hl : lv_has ls 4 [(0, .ref (a 0)), (1, .int p1), (2, .int p2)] := hl
  have hi_X10 : ∀ w ∈ u_ws RX10 TX10 14, w ∈ wsX10_graft := fun _ h => List.mem_cons_of_mem _ (List.mem_append_left _ (List.mem_append_left _ (List.mem_append_right _ h)))
  have hi_X3 : ∀ w ∈ u_ws RX3 TX3 5, w ∈ wsX10_graft := fun _ h => List.mem_cons_of_mem _ (List.mem_append_left _ (List.mem_append_right _ h))
  have l_fieldLink_26 := hts (Cond.fieldLink RX10 26 "HedgeGame" "now" "LHedgeGame$Moment;") (List.mem_of_getElem? (i := 1) rfl)
  have l_fieldLink_81 := hts (Cond.fieldLink RX10 81 "HedgeGame" "isCharted" "Z") (List.mem_of_getElem? (i := 2) rfl)
  have tm102 : ((-102 : Int32)).toInt = -102 := rfl
  have tm101 : ((-101 : Int32)).toInt = -101 := rfl
  have t0 : ((0 : Int32)).toInt = 0 := rfl
  have t1 : ((1 : Int32)).toInt = 1 := rfl
  have t5 : ((5 : Int32)).toInt = 5 := rfl
  refine lv_aload_n hx hb dX10_graft_0 rfl (lv_at hl 0 rfl) ?_
  refine lv_iload_n hx hb dX10_graft_1 rfl (lv_at hl 1 rfl) ?_
  obtain ⟨r_1, e2⟩ : ∃ z, z = (f_X10_isUnknown number p1) := ⟨_, rfl⟩
  rw [← e2] at he
  refine g_Vi (r := r_1) (As := [.int p1]) (rest := []) (ci := 10) (q0 := 0) ⟨hx, hb, hml, hown, hts⟩ hS hX (k_X10_isUnknown p1 (by omega) r_1 e2) (cwV 1 hts gX10_graft_X10_isUnknown rfl rfl rfl (by decide +kernel) ⟨Nat.le_of_ble_eq_true rfl, Nat.le_of_ble_eq_true rfl⟩) rfl rfl rfl hl.1 rfl (Nat.le_of_ble_eq_true rfl) dX10_graft_2 ⟨Nat.zero_le _, Nat.zero_le _⟩ (fun H locs hX => ?_)
  have k2_0 : (r_1).toInt = 1 ∨ ((r_1).toInt = 0 ∧ 0 ≤ (p1).toInt ∧ (p1).toInt < (number).toInt) := by rw [e2]; exact r_isUnknown
  refine lv_if_eq (tgt := 11) hx hb dX10_graft_5 (by decide) (fun c5 => ?_) (fun c5 => ?_)
  · have he := he.trans (if_pos c5)
    have d5 := i_eq c5
    refine lv_iload_n hx hb dX10_graft_11 rfl (lv_at hl 2 rfl) ?_
    refine lv_if_lt (tgt := 20) hx hb dX10_graft_12 (by decide) (fun c12 => ?_) (fun c12 => ?_)
    · have he := he.trans (if_pos c12)
      have d12 := i_lt c12
      refine lv_bipush (v := (-102 : Int32)) hx hb dX10_graft_20 (by decide) ?_
      subst he
      exact g_iret hx hb hr hlocks hX hq rfl dX10_graft_22
    · have he := he.trans (if_neg c12)
      have d12 := i_nlt c12
      refine lv_iload_n hx hb dX10_graft_15 rfl (lv_at hl 2 rfl) ?_
      refine lv_iconst (v := (5 : Int32)) hx hb dX10_graft_16 (by decide) ?_
      refine lv_icmp_lt (tgt := 23) hx hb dX10_graft_17 (by decide) (fun c17 => ?_) (fun c17 => ?_)
      · have he := he.trans (if_pos c17)
        have d17 := i_lt c17
        refine lv_aload_n hx hb dX10_graft_23 rfl (lv_at hl 0 rfl) ?_
        refine va_get (D := D) (ci := 10) (v := .ref (a 7)) (C := RX10) (T := TX10) (N := 14) hx hb hts hi_X10 hown hS.1 hX.1 0 rfl rfl 2 (by decide) l_fieldLink_26 (fun _ h9 => h9) rfl dX10_graft_24 ?_
        refine va_getN (D := D) (ci := 3) (v := .ref (a 8)) (C := RX3) (T := TX3) (N := 5) hx hb hts hi_X3 hown hS.1 hX.1 7 rfl rfl 0 (by decide) (hS.2.1.get 18 rfl) (fun _ h9 => h9) rfl dX10_graft_27 ?_
        refine lv_iload_n hx hb dX10_graft_30 rfl (lv_at hl 1 rfl) ?_
        refine va_iald hx hb hS.1 hX.1 8 4 rfl rfl (vp_in_iff.mpr (by omega)) dX10_graft_31 ?_
        refine lv_istore_n (lv' := [(3, .int (kinds (p1).toNatClampNeg)), (0, .ref (a 0)), (1, .int p1), (2, .int p2)]) hx hb dX10_graft_32 rfl hl (by decide) rfl (fun ls hl => ?_)
        refine lv_aload_n hx hb dX10_graft_33 rfl (lv_at hl 1 rfl) ?_
        refine va_get (D := D) (ci := 10) (v := .ref (a 7)) (C := RX10) (T := TX10) (N := 14) hx hb hts hi_X10 hown hS.1 hX.1 0 rfl rfl 2 (by decide) l_fieldLink_26 (fun _ h9 => h9) rfl dX10_graft_34 ?_
        refine va_getN (D := D) (ci := 3) (v := .ref (a 8)) (C := RX3) (T := TX3) (N := 5) hx hb hts hi_X3 hown hS.1 hX.1 7 rfl rfl 0 (by decide) (hS.2.1.get 18 rfl) (fun _ h9 => h9) rfl dX10_graft_37 ?_
        refine lv_iload_n hx hb dX10_graft_40 rfl (lv_at hl 2 rfl) ?_
        refine lv_iload_n hx hb dX10_graft_41 rfl (lv_at hl 3 rfl) ?_
        refine va_iast hx hb hS.1 hX.1 hX.2.1 hX.2.2 8 4 rfl rfl (vp_in_iff.mpr (by omega)) dX10_graft_42 (fun H locs hP hD hs => ?_)
        have hX : gX D Z s (wG a cA isCharted isKept hedgesRead evensDone plen number setCount standing turn cuts ssize kstanding kturn kcuts kssize seed whiteWon cutsDone lett onB abv sets (upd kinds (p1).toNatClampNeg p2) sbranches sbeginners swon kkinds ksbranches ksbeginners kswon lcuts valu won chance) H locs := ⟨hP, hD, hs⟩
        refine lv_aload_n hx hb dX10_graft_43 rfl (lv_at hl 1 rfl) ?_
        refine lv_iconst (v := (0 : Int32)) hx hb dX10_graft_44 (by decide) ?_
        refine va_put (D := D) (ci := 10) (v := .int (0 : Int32)) (ty := .boolean) (C := RX10) (T := TX10) (N := 14) hx hb hts hi_X10 tyX10 tyX10_ok nmX10 hown hS.1 hX.1 hX.2.1 hX.2.2 0 rfl rfl 10 (by decide) l_fieldLink_81 (fun _ h9 => h9) rfl (by decide +kernel) rfl rfl (Nat.le_of_ble_eq_true rfl) dX10_graft_45 (fun H locs hP hD hs => ?_)
        have hX : gX D Z s (wG a cA (0 : Int32) isKept hedgesRead evensDone plen number setCount standing turn cuts ssize kstanding kturn kcuts kssize seed whiteWon cutsDone lett onB abv sets (upd kinds (p1).toNatClampNeg p2) sbranches sbeginners swon kkinds ksbranches ksbeginners kswon lcuts valu won chance) H locs := ⟨hP, hD, hs⟩
        refine lv_iload_n hx hb dX10_graft_48 rfl (lv_at hl 0 rfl) ?_
        subst he
        exact g_iret hx hb hr hlocks hX hq rfl dX10_graft_49
      · have he := he.trans (if_neg c17)
        have d17 := i_nlt c17
        refine lv_bipush (v := (-102 : Int32)) hx hb dX10_graft_20 (by decide) ?_
        subst he
        exact g_iret hx hb hr hlocks hX hq rfl dX10_graft_22
  · have he := he.trans (if_neg c5)
    have d5 := i_ne c5
    refine lv_bipush (v := (-101 : Int32)) hx hb dX10_graft_8 (by decide) ?_
    subst he
    exact g_iret hx hb hr hlocks hX hq rfl dX10_graft_10
abbrev rm_X10_wins : Room := { frames := 4, cells := 0, slots := 0, locals := 103 }
set_option maxHeartbeats 4000000 in
set_option maxRecDepth 100000 in
theorem k_X10_wins {l : Launch} {D : va_G} {E : sE} {a : Nat → Nat} {cA : Nat → ClassId} {isCharted : Int32} {isKept : Int32} {hedgesRead : Int32} {evensDone : Int32} {plen : Int32} {number : Int32} {setCount : Int32} {standing : Int32} {turn : Int32} {cuts : Int32} {ssize : Int32} {kstanding : Int32} {kturn : Int32} {kcuts : Int32} {kssize : Int32} {seed : Int32} {whiteWon : Int32} {cutsDone : Int32} {lett : Nat → Int32} {onB : Nat → Int32} {abv : Nat → Int32} {sets : Nat → Int32} {kinds : Nat → Int32} {sbranches : Nat → Int32} {sbeginners : Nat → Int32} {swon : Nat → Int32} {kkinds : Nat → Int32} {ksbranches : Nat → Int32} {ksbeginners : Nat → Int32} {kswon : Nat → Int32} {lcuts : Nat → Int32} {valu : Nat → Int32} {won : Nat → Int64} {chance : Nat → Int64} (p1 : Int32) (hnm : 0 ≤ (number).toInt ∧ (number).toInt ≤ 8) (hsc : 0 ≤ (setCount).toInt ∧ (setCount).toInt ≤ 256) (hss : ∀ k : Nat, 0 ≤ (sets k).toInt ∧ (sets k).toInt < 256) (hsd : 0 ≤ (standing).toInt ∧ (standing).toInt < 256) : ∀ q : Int32 × Int32 × (Nat → Int32) × (Nat → Int32) × (Nat → Int64) × (Nat → Int64), q = f_X10_wins isCharted number setCount standing abv sets kinds lcuts valu won chance p1 → gMi l yX10_wins wsX10_wins rm_X10_wins D E (tG cA) [.ref (a 0), .int p1] (wG a cA isCharted isKept hedgesRead evensDone plen number setCount standing turn cuts ssize kstanding kturn kcuts kssize seed whiteWon cutsDone lett onB abv sets kinds sbranches sbeginners swon kkinds ksbranches ksbeginners kswon lcuts valu won chance) (wG a cA q.2.1 isKept hedgesRead evensDone plen number setCount standing turn cuts ssize kstanding kturn kcuts kssize seed whiteWon cutsDone lett onB abv sets kinds sbranches sbeginners swon kkinds ksbranches ksbeginners kswon q.2.2.1 q.2.2.2.1 q.2.2.2.2.1 q.2.2.2.2.2) q.1 := by
  intro q he0
  refine gM_of (cc := cX10_wins) (maxL := 2) (ret := (some .int)) (Qf := gQi D (wG a cA q.2.1 isKept hedgesRead evensDone plen number setCount standing turn cuts ssize kstanding kturn kcuts kssize seed whiteWon cutsDone lett onB abv sets kinds sbranches sbeginners swon kkinds ksbranches ksbeginners kswon q.2.2.1 q.2.2.2.1 q.2.2.2.2.1 q.2.2.2.2.2) q.1) (by decide) rfl (Nat.le_of_ble_eq_true rfl) ?_
  intro p e s m args below meth c Z ls Qz hx hb hr hml hlocks hown hts hS hX hl hq
  have he := he0.trans f_X10_wins_s
  have hown : s.vm.findClass RX10 = some m.cls := hown
  have hl : lv_has ls 2 [(0, .ref (a 0)), (1, .int p1)] := hl
  have hi_X10 : ∀ w ∈ u_ws RX10 TX10 14, w ∈ wsX10_wins := fun _ h => List.mem_cons_of_mem _ (List.mem_append_left _ (List.mem_append_left _ (List.mem_append_left _ (List.mem_append_left _ (List.mem_append_left _ (List.mem_append_left _ (List.mem_append_left _ (List.mem_append_right _ h))))))))
  have hi_X3 : ∀ w ∈ u_ws RX3 TX3 5, w ∈ wsX10_wins := fun _ h => List.mem_cons_of_mem _ (List.mem_append_left _ (List.mem_append_left _ (List.mem_append_left _ (List.mem_append_left _ (List.mem_append_left _ (List.mem_append_left _ (List.mem_append_right _ h)))))))
  have l_fieldLink_26 := hts (Cond.fieldLink RX10 26 "HedgeGame" "now" "LHedgeGame$Moment;") (List.mem_of_getElem? (i := 2) rfl)
  have l_fieldLink_47 := hts (Cond.fieldLink RX10 47 "HedgeGame" "outcomes" "LHedgeGame$Outcomes;") (List.mem_of_getElem? (i := 1) rfl)
  have tm103 : ((-103 : Int32)).toInt = -103 := rfl
  have tm102 : ((-102 : Int32)).toInt = -102 := rfl
  have t0 : ((0 : Int32)).toInt = 0 := rfl
  have t1 : ((1 : Int32)).toInt = 1 := rfl
  refine lv_iload_n hx hb dX10_wins_0 rfl (lv_at hl 1 rfl) ?_
  obtain ⟨r_1, e1⟩ : ∃ z, z = (f_X10_isNoSide p1) := ⟨_, rfl⟩
  rw [← e1] at he
  refine g_Si (r := r_1) (As := [.int p1]) (rest := []) ⟨hx, hb, hml, hown, hts⟩ hS hX (k_X10_isNoSide p1 r_1 e1) (va_cwS 1 hts gX10_wins_X10_isNoSide rfl rfl rfl (by decide +kernel) ⟨Nat.le_of_ble_eq_true rfl, Nat.le_of_ble_eq_true rfl⟩) rfl hl.1 rfl (Nat.le_of_ble_eq_true rfl) dX10_wins_1 ⟨Nat.zero_le _, Nat.zero_le _⟩ (fun H locs hX => ?_)
  have k1_0 : (r_1).toInt = 1 ∨ ((r_1).toInt = 0 ∧ 0 ≤ (p1).toInt ∧ (p1).toInt ≤ 1) := by rw [e1]; exact r_isNoSide
  refine lv_if_eq (tgt := 10) hx hb dX10_wins_4 (by decide) (fun c4 => ?_) (fun c4 => ?_)
  · have he := he.trans (if_pos c4)
    have d4 := i_eq c4
    refine lv_aload_n hx hb dX10_wins_10 rfl (lv_at hl 0 rfl) ?_
    obtain ⟨r_2, e11⟩ : ∃ z, z = (f_X10_hasNoHedge number) := ⟨_, rfl⟩
    rw [← e11] at he
    refine g_Vi (r := r_2) (As := []) (rest := []) (ci := 10) (q0 := 0) ⟨hx, hb, hml, hown, hts⟩ hS hX (k_X10_hasNoHedge  r_2 e11) (cwV 0 hts gX10_wins_X10_hasNoHedge rfl rfl rfl (by decide +kernel) ⟨Nat.le_of_ble_eq_true rfl, Nat.le_of_ble_eq_true rfl⟩) rfl rfl rfl hl.1 rfl (Nat.le_of_ble_eq_true rfl) dX10_wins_11 ⟨Nat.zero_le _, Nat.zero_le _⟩ (fun H locs hX => ?_)
    refine lv_if_eq (tgt := 20) hx hb dX10_wins_14 (by decide) (fun c14 => ?_) (fun c14 => ?_)
    · have he := he.trans (if_pos c14)
      have d14 := i_eq c14
      refine lv_aload_n hx hb dX10_wins_20 rfl (lv_at hl 0 rfl) ?_
      obtain ⟨z_3, e21⟩ : ∃ z, z = (f_X10_chart isCharted number setCount abv sets kinds lcuts valu won chance) := ⟨_, rfl⟩
      rw [← e21] at he
      try dsimp only at he
      refine g_Vv (w2 := (wG a cA z_3.1 isKept hedgesRead evensDone plen number setCount standing turn cuts ssize kstanding kturn kcuts kssize seed whiteWon cutsDone lett onB abv sets kinds sbranches sbeginners swon kkinds ksbranches ksbeginners kswon z_3.2.1 z_3.2.2.1 z_3.2.2.2.1 z_3.2.2.2.2)) (As := []) (rest := []) (ci := 10) (q0 := 0) ⟨hx, hb, hml, hown, hts⟩ hS hX (k_X10_chart (by omega) (by omega) (by assumption) z_3 e21) (cwV 0 hts gX10_wins_X10_chart rfl rfl rfl (by decide +kernel) ⟨Nat.le_of_ble_eq_true rfl, Nat.le_of_ble_eq_true rfl⟩) rfl rfl rfl hl.1 rfl (Nat.le_of_ble_eq_true rfl) dX10_wins_21 ⟨Nat.zero_le _, Nat.zero_le _⟩ (fun H locs hX => ?_)
      refine lv_aload_n hx hb dX10_wins_24 rfl (lv_at hl 0 rfl) ?_
      refine va_get (D := D) (ci := 10) (v := .ref (a 20)) (C := RX10) (T := TX10) (N := 14) hx hb hts hi_X10 hown hS.1 hX.1 0 rfl rfl 5 (by decide) l_fieldLink_47 (fun _ h9 => h9) rfl dX10_wins_25 ?_
      refine lv_iload_n hx hb dX10_wins_28 rfl (lv_at hl 1 rfl) ?_
      refine lv_aload_n hx hb dX10_wins_29 rfl (lv_at hl 0 rfl) ?_
      refine va_get (D := D) (ci := 10) (v := .ref (a 7)) (C := RX10) (T := TX10) (N := 14) hx hb hts hi_X10 hown hS.1 hX.1 0 rfl rfl 2 (by decide) l_fieldLink_26 (fun _ h9 => h9) rfl dX10_wins_30 ?_
      refine va_getN (D := D) (ci := 3) (v := .int standing) (C := RX3) (T := TX3) (N := 5) hx hb hts hi_X3 hown hS.1 hX.1 7 rfl rfl 1 (by decide) (hS.2.1.get 19 rfl) (fun _ h9 => h9) rfl dX10_wins_33 ?_
      obtain ⟨r_4, e36⟩ : ∃ z, z = (f_X4_isWonBy z_3.2.2.2.1 p1 standing) := ⟨_, rfl⟩
      rw [← e36] at he
      refine g_Vi (r := r_4) (As := [.int p1, .int standing]) (rest := []) (ci := 4) (q0 := 20) ⟨hx, hb, hml, hown, hts⟩ hS hX (k_X4_isWonBy p1 standing (by omega) (by omega) r_4 e36) (cwV 2 hts gX10_wins_X4_isWonBy rfl rfl rfl (by decide +kernel) ⟨Nat.le_of_ble_eq_true rfl, Nat.le_of_ble_eq_true rfl⟩) rfl rfl rfl hl.1 rfl (Nat.le_of_ble_eq_true rfl) dX10_wins_36 ⟨Nat.zero_le _, Nat.zero_le _⟩ (fun H locs hX => ?_)
      refine lv_if_eq (tgt := 46) hx hb dX10_wins_39 (by decide) (fun c39 => ?_) (fun c39 => ?_)
      · have he := he.trans (if_pos c39)
        have d39 := i_eq c39
        refine lv_iconst (v := (1 : Int32)) hx hb dX10_wins_46 (by decide) ?_
        refine lv_iload_n hx hb dX10_wins_47 rfl (lv_at hl 1 rfl) ?_
        refine lv_isub hx hb dX10_wins_48 ?_
        subst he
        exact g_iret hx hb hr hlocks hX hq rfl dX10_wins_49
      · have he := he.trans (if_neg c39)
        have d39 := i_ne c39
        refine lv_iload_n hx hb dX10_wins_42 rfl (lv_at hl 1 rfl) ?_
        refine lv_goto (tgt := 49) hx hb dX10_wins_43 (by decide) ?_
        subst he
        exact g_iret hx hb hr hlocks hX hq rfl dX10_wins_49
    · have he := he.trans (if_neg c14)
      have d14 := i_ne c14
      refine lv_bipush (v := (-103 : Int32)) hx hb dX10_wins_17 (by decide) ?_
      subst he
      exact g_iret hx hb hr hlocks hX hq rfl dX10_wins_19
  · have he := he.trans (if_neg c4)
    have d4 := i_ne c4
    refine lv_bipush (v := (-102 : Int32)) hx hb dX10_wins_7 (by decide) ?_
    subst he
    exact g_iret hx hb hr hlocks hX hq rfl dX10_wins_9
abbrev rm_X10_best : Room := { frames := 4, cells := 0, slots := 0, locals := 103 }
set_option maxHeartbeats 4000000 in
set_option maxRecDepth 100000 in
theorem k_X10_best {l : Launch} {D : va_G} {E : sE} {a : Nat → Nat} {cA : Nat → ClassId} {isCharted : Int32} {isKept : Int32} {hedgesRead : Int32} {evensDone : Int32} {plen : Int32} {number : Int32} {setCount : Int32} {standing : Int32} {turn : Int32} {cuts : Int32} {ssize : Int32} {kstanding : Int32} {kturn : Int32} {kcuts : Int32} {kssize : Int32} {seed : Int32} {whiteWon : Int32} {cutsDone : Int32} {lett : Nat → Int32} {onB : Nat → Int32} {abv : Nat → Int32} {sets : Nat → Int32} {kinds : Nat → Int32} {sbranches : Nat → Int32} {sbeginners : Nat → Int32} {swon : Nat → Int32} {kkinds : Nat → Int32} {ksbranches : Nat → Int32} {ksbeginners : Nat → Int32} {kswon : Nat → Int32} {lcuts : Nat → Int32} {valu : Nat → Int32} {won : Nat → Int64} {chance : Nat → Int64} (p1 : Int32) (hnm : 0 ≤ (number).toInt ∧ (number).toInt ≤ 8) (hsc : 0 ≤ (setCount).toInt ∧ (setCount).toInt ≤ 256) (hss : ∀ k : Nat, 0 ≤ (sets k).toInt ∧ (sets k).toInt < 256) (hsd : 0 ≤ (standing).toInt ∧ (standing).toInt < 256) : ∀ q : Int32 × Int32 × (Nat → Int32) × (Nat → Int32) × (Nat → Int64) × (Nat → Int64), q = f_X10_best isCharted number setCount standing abv sets kinds lcuts valu won chance p1 → gMi l yX10_best wsX10_best rm_X10_best D E (tG cA) [.ref (a 0), .int p1] (wG a cA isCharted isKept hedgesRead evensDone plen number setCount standing turn cuts ssize kstanding kturn kcuts kssize seed whiteWon cutsDone lett onB abv sets kinds sbranches sbeginners swon kkinds ksbranches ksbeginners kswon lcuts valu won chance) (wG a cA q.2.1 isKept hedgesRead evensDone plen number setCount standing turn cuts ssize kstanding kturn kcuts kssize seed whiteWon cutsDone lett onB abv sets kinds sbranches sbeginners swon kkinds ksbranches ksbeginners kswon q.2.2.1 q.2.2.2.1 q.2.2.2.2.1 q.2.2.2.2.2) q.1 := by
  intro q he0
  refine gM_of (cc := cX10_best) (maxL := 2) (ret := (some .int)) (Qf := gQi D (wG a cA q.2.1 isKept hedgesRead evensDone plen number setCount standing turn cuts ssize kstanding kturn kcuts kssize seed whiteWon cutsDone lett onB abv sets kinds sbranches sbeginners swon kkinds ksbranches ksbeginners kswon q.2.2.1 q.2.2.2.1 q.2.2.2.2.1 q.2.2.2.2.2) q.1) (by decide) rfl (Nat.le_of_ble_eq_true rfl) ?_
  intro p e s m args below meth c Z ls Qz hx hb hr hml hlocks hown hts hS hX hl hq
  have he := he0.trans f_X10_best_s
  have hown : s.vm.findClass RX10 = some m.cls := hown
  have hl : lv_has ls 2 [(0, .ref (a 0)), (1, .int p1)] := hl
  have hi_X10 : ∀ w ∈ u_ws RX10 TX10 14, w ∈ wsX10_best := fun _ h => List.mem_cons_of_mem _ (List.mem_append_left _ (List.mem_append_left _ (List.mem_append_left _ (List.mem_append_left _ (List.mem_append_left _ (List.mem_append_left _ (List.mem_append_left _ (List.mem_append_right _ h))))))))
  have hi_X3 : ∀ w ∈ u_ws RX3 TX3 5, w ∈ wsX10_best := fun _ h => List.mem_cons_of_mem _ (List.mem_append_left _ (List.mem_append_left _ (List.mem_append_left _ (List.mem_append_left _ (List.mem_append_left _ (List.mem_append_left _ (List.mem_append_right _ h)))))))
  have l_fieldLink_26 := hts (Cond.fieldLink RX10 26 "HedgeGame" "now" "LHedgeGame$Moment;") (List.mem_of_getElem? (i := 2) rfl)
  have l_fieldLink_56 := hts (Cond.fieldLink RX10 56 "HedgeGame" "lengths" "LHedgeGame$Lengths;") (List.mem_of_getElem? (i := 1) rfl)
  have tm103 : ((-103 : Int32)).toInt = -103 := rfl
  have tm102 : ((-102 : Int32)).toInt = -102 := rfl
  have t0 : ((0 : Int32)).toInt = 0 := rfl
  have t1 : ((1 : Int32)).toInt = 1 := rfl
  refine lv_iload_n hx hb dX10_best_0 rfl (lv_at hl 1 rfl) ?_
  obtain ⟨r_1, e1⟩ : ∃ z, z = (f_X10_isNoSide p1) := ⟨_, rfl⟩
  rw [← e1] at he
  refine g_Si (r := r_1) (As := [.int p1]) (rest := []) ⟨hx, hb, hml, hown, hts⟩ hS hX (k_X10_isNoSide p1 r_1 e1) (va_cwS 1 hts gX10_best_X10_isNoSide rfl rfl rfl (by decide +kernel) ⟨Nat.le_of_ble_eq_true rfl, Nat.le_of_ble_eq_true rfl⟩) rfl hl.1 rfl (Nat.le_of_ble_eq_true rfl) dX10_best_1 ⟨Nat.zero_le _, Nat.zero_le _⟩ (fun H locs hX => ?_)
  have k1_0 : (r_1).toInt = 1 ∨ ((r_1).toInt = 0 ∧ 0 ≤ (p1).toInt ∧ (p1).toInt ≤ 1) := by rw [e1]; exact r_isNoSide
  refine lv_if_eq (tgt := 10) hx hb dX10_best_4 (by decide) (fun c4 => ?_) (fun c4 => ?_)
  · have he := he.trans (if_pos c4)
    have d4 := i_eq c4
    refine lv_aload_n hx hb dX10_best_10 rfl (lv_at hl 0 rfl) ?_
    obtain ⟨r_2, e11⟩ : ∃ z, z = (f_X10_hasNoHedge number) := ⟨_, rfl⟩
    rw [← e11] at he
    refine g_Vi (r := r_2) (As := []) (rest := []) (ci := 10) (q0 := 0) ⟨hx, hb, hml, hown, hts⟩ hS hX (k_X10_hasNoHedge  r_2 e11) (cwV 0 hts gX10_best_X10_hasNoHedge rfl rfl rfl (by decide +kernel) ⟨Nat.le_of_ble_eq_true rfl, Nat.le_of_ble_eq_true rfl⟩) rfl rfl rfl hl.1 rfl (Nat.le_of_ble_eq_true rfl) dX10_best_11 ⟨Nat.zero_le _, Nat.zero_le _⟩ (fun H locs hX => ?_)
    refine lv_if_eq (tgt := 20) hx hb dX10_best_14 (by decide) (fun c14 => ?_) (fun c14 => ?_)
    · have he := he.trans (if_pos c14)
      have d14 := i_eq c14
      refine lv_aload_n hx hb dX10_best_20 rfl (lv_at hl 0 rfl) ?_
      obtain ⟨z_3, e21⟩ : ∃ z, z = (f_X10_chart isCharted number setCount abv sets kinds lcuts valu won chance) := ⟨_, rfl⟩
      rw [← e21] at he
      try dsimp only at he
      refine g_Vv (w2 := (wG a cA z_3.1 isKept hedgesRead evensDone plen number setCount standing turn cuts ssize kstanding kturn kcuts kssize seed whiteWon cutsDone lett onB abv sets kinds sbranches sbeginners swon kkinds ksbranches ksbeginners kswon z_3.2.1 z_3.2.2.1 z_3.2.2.2.1 z_3.2.2.2.2)) (As := []) (rest := []) (ci := 10) (q0 := 0) ⟨hx, hb, hml, hown, hts⟩ hS hX (k_X10_chart (by omega) (by omega) (by assumption) z_3 e21) (cwV 0 hts gX10_best_X10_chart rfl rfl rfl (by decide +kernel) ⟨Nat.le_of_ble_eq_true rfl, Nat.le_of_ble_eq_true rfl⟩) rfl rfl rfl hl.1 rfl (Nat.le_of_ble_eq_true rfl) dX10_best_21 ⟨Nat.zero_le _, Nat.zero_le _⟩ (fun H locs hX => ?_)
      refine lv_aload_n hx hb dX10_best_24 rfl (lv_at hl 0 rfl) ?_
      refine va_get (D := D) (ci := 10) (v := .ref (a 22)) (C := RX10) (T := TX10) (N := 14) hx hb hts hi_X10 hown hS.1 hX.1 0 rfl rfl 6 (by decide) l_fieldLink_56 (fun _ h9 => h9) rfl dX10_best_25 ?_
      refine lv_iload_n hx hb dX10_best_28 rfl (lv_at hl 1 rfl) ?_
      refine lv_aload_n hx hb dX10_best_29 rfl (lv_at hl 0 rfl) ?_
      refine va_get (D := D) (ci := 10) (v := .ref (a 7)) (C := RX10) (T := TX10) (N := 14) hx hb hts hi_X10 hown hS.1 hX.1 0 rfl rfl 2 (by decide) l_fieldLink_26 (fun _ h9 => h9) rfl dX10_best_30 ?_
      refine va_getN (D := D) (ci := 3) (v := .int standing) (C := RX3) (T := TX3) (N := 5) hx hb hts hi_X3 hown hS.1 hX.1 7 rfl rfl 1 (by decide) (hS.2.1.get 19 rfl) (fun _ h9 => h9) rfl dX10_best_33 ?_
      obtain ⟨r_4, e36⟩ : ∃ z, z = (f_X1_bestCut number abv kinds z_3.2.1 z_3.2.2.2.1 p1 standing) := ⟨_, rfl⟩
      rw [← e36] at he
      refine g_Vi (r := r_4) (As := [.int p1, .int standing]) (rest := []) (ci := 1) (q0 := 22) ⟨hx, hb, hml, hown, hts⟩ hS hX (k_X1_bestCut p1 standing (by omega) (by omega) (by omega) r_4 e36) (cwV 2 hts gX10_best_X1_bestCut rfl rfl rfl (by decide +kernel) ⟨Nat.le_of_ble_eq_true rfl, Nat.le_of_ble_eq_true rfl⟩) rfl rfl rfl hl.1 rfl (Nat.le_of_ble_eq_true rfl) dX10_best_36 ⟨Nat.zero_le _, Nat.zero_le _⟩ (fun H locs hX => ?_)
      subst he
      exact g_iret hx hb hr hlocks hX hq rfl dX10_best_39
    · have he := he.trans (if_neg c14)
      have d14 := i_ne c14
      refine lv_bipush (v := (-103 : Int32)) hx hb dX10_best_17 (by decide) ?_
      subst he
      exact g_iret hx hb hr hlocks hX hq rfl dX10_best_19
  · have he := he.trans (if_neg c4)
    have d4 := i_ne c4
    refine lv_bipush (v := (-102 : Int32)) hx hb dX10_best_7 (by decide) ?_
    subst he
    exact g_iret hx hb hr hlocks hX hq rfl dX10_best_9
abbrev rm_X10_lasts : Room := { frames := 4, cells := 0, slots := 0, locals := 103 }
set_option maxHeartbeats 4000000 in
set_option maxRecDepth 100000 in
theorem k_X10_lasts {l : Launch} {D : va_G} {E : sE} {a : Nat → Nat} {cA : Nat → ClassId} {isCharted : Int32} {isKept : Int32} {hedgesRead : Int32} {evensDone : Int32} {plen : Int32} {number : Int32} {setCount : Int32} {standing : Int32} {turn : Int32} {cuts : Int32} {ssize : Int32} {kstanding : Int32} {kturn : Int32} {kcuts : Int32} {kssize : Int32} {seed : Int32} {whiteWon : Int32} {cutsDone : Int32} {lett : Nat → Int32} {onB : Nat → Int32} {abv : Nat → Int32} {sets : Nat → Int32} {kinds : Nat → Int32} {sbranches : Nat → Int32} {sbeginners : Nat → Int32} {swon : Nat → Int32} {kkinds : Nat → Int32} {ksbranches : Nat → Int32} {ksbeginners : Nat → Int32} {kswon : Nat → Int32} {lcuts : Nat → Int32} {valu : Nat → Int32} {won : Nat → Int64} {chance : Nat → Int64} (p1 : Int32) (hnm : 0 ≤ (number).toInt ∧ (number).toInt ≤ 8) (hsc : 0 ≤ (setCount).toInt ∧ (setCount).toInt ≤ 256) (hss : ∀ k : Nat, 0 ≤ (sets k).toInt ∧ (sets k).toInt < 256) (hsd : 0 ≤ (standing).toInt ∧ (standing).toInt < 256) : ∀ q : Int32 × Int32 × (Nat → Int32) × (Nat → Int32) × (Nat → Int64) × (Nat → Int64), q = f_X10_lasts isCharted number setCount standing abv sets kinds lcuts valu won chance p1 → gMi l yX10_lasts wsX10_lasts rm_X10_lasts D E (tG cA) [.ref (a 0), .int p1] (wG a cA isCharted isKept hedgesRead evensDone plen number setCount standing turn cuts ssize kstanding kturn kcuts kssize seed whiteWon cutsDone lett onB abv sets kinds sbranches sbeginners swon kkinds ksbranches ksbeginners kswon lcuts valu won chance) (wG a cA q.2.1 isKept hedgesRead evensDone plen number setCount standing turn cuts ssize kstanding kturn kcuts kssize seed whiteWon cutsDone lett onB abv sets kinds sbranches sbeginners swon kkinds ksbranches ksbeginners kswon q.2.2.1 q.2.2.2.1 q.2.2.2.2.1 q.2.2.2.2.2) q.1 := by
  intro q he0
  refine gM_of (cc := cX10_lasts) (maxL := 2) (ret := (some .int)) (Qf := gQi D (wG a cA q.2.1 isKept hedgesRead evensDone plen number setCount standing turn cuts ssize kstanding kturn kcuts kssize seed whiteWon cutsDone lett onB abv sets kinds sbranches sbeginners swon kkinds ksbranches ksbeginners kswon q.2.2.1 q.2.2.2.1 q.2.2.2.2.1 q.2.2.2.2.2) q.1) (by decide) rfl (Nat.le_of_ble_eq_true rfl) ?_
  intro p e s m args below meth c Z ls Qz hx hb hr hml hlocks hown hts hS hX hl hq
  have he := he0.trans f_X10_lasts_s
  have hown : s.vm.findClass RX10 = some m.cls := hown
  have hl : lv_has ls 2 [(0, .ref (a 0)), (1, .int p1)] := hl
  have hi_X10 : ∀ w ∈ u_ws RX10 TX10 14, w ∈ wsX10_lasts := fun _ h => List.mem_cons_of_mem _ (List.mem_append_left _ (List.mem_append_left _ (List.mem_append_left _ (List.mem_append_left _ (List.mem_append_left _ (List.mem_append_left _ (List.mem_append_left _ (List.mem_append_right _ h))))))))
  have hi_X3 : ∀ w ∈ u_ws RX3 TX3 5, w ∈ wsX10_lasts := fun _ h => List.mem_cons_of_mem _ (List.mem_append_left _ (List.mem_append_left _ (List.mem_append_left _ (List.mem_append_left _ (List.mem_append_left _ (List.mem_append_left _ (List.mem_append_right _ h)))))))
  have l_fieldLink_26 := hts (Cond.fieldLink RX10 26 "HedgeGame" "now" "LHedgeGame$Moment;") (List.mem_of_getElem? (i := 2) rfl)
  have l_fieldLink_56 := hts (Cond.fieldLink RX10 56 "HedgeGame" "lengths" "LHedgeGame$Lengths;") (List.mem_of_getElem? (i := 1) rfl)
  have tm103 : ((-103 : Int32)).toInt = -103 := rfl
  have tm102 : ((-102 : Int32)).toInt = -102 := rfl
  have t0 : ((0 : Int32)).toInt = 0 := rfl
  have t1 : ((1 : Int32)).toInt = 1 := rfl
  refine lv_iload_n hx hb dX10_lasts_0 rfl (lv_at hl 1 rfl) ?_
  obtain ⟨r_1, e1⟩ : ∃ z, z = (f_X10_isNoSide p1) := ⟨_, rfl⟩
  rw [← e1] at he
  refine g_Si (r := r_1) (As := [.int p1]) (rest := []) ⟨hx, hb, hml, hown, hts⟩ hS hX (k_X10_isNoSide p1 r_1 e1) (va_cwS 1 hts gX10_lasts_X10_isNoSide rfl rfl rfl (by decide +kernel) ⟨Nat.le_of_ble_eq_true rfl, Nat.le_of_ble_eq_true rfl⟩) rfl hl.1 rfl (Nat.le_of_ble_eq_true rfl) dX10_lasts_1 ⟨Nat.zero_le _, Nat.zero_le _⟩ (fun H locs hX => ?_)
  have k1_0 : (r_1).toInt = 1 ∨ ((r_1).toInt = 0 ∧ 0 ≤ (p1).toInt ∧ (p1).toInt ≤ 1) := by rw [e1]; exact r_isNoSide
  refine lv_if_eq (tgt := 10) hx hb dX10_lasts_4 (by decide) (fun c4 => ?_) (fun c4 => ?_)
  · have he := he.trans (if_pos c4)
    have d4 := i_eq c4
    refine lv_aload_n hx hb dX10_lasts_10 rfl (lv_at hl 0 rfl) ?_
    obtain ⟨r_2, e11⟩ : ∃ z, z = (f_X10_hasNoHedge number) := ⟨_, rfl⟩
    rw [← e11] at he
    refine g_Vi (r := r_2) (As := []) (rest := []) (ci := 10) (q0 := 0) ⟨hx, hb, hml, hown, hts⟩ hS hX (k_X10_hasNoHedge  r_2 e11) (cwV 0 hts gX10_lasts_X10_hasNoHedge rfl rfl rfl (by decide +kernel) ⟨Nat.le_of_ble_eq_true rfl, Nat.le_of_ble_eq_true rfl⟩) rfl rfl rfl hl.1 rfl (Nat.le_of_ble_eq_true rfl) dX10_lasts_11 ⟨Nat.zero_le _, Nat.zero_le _⟩ (fun H locs hX => ?_)
    refine lv_if_eq (tgt := 20) hx hb dX10_lasts_14 (by decide) (fun c14 => ?_) (fun c14 => ?_)
    · have he := he.trans (if_pos c14)
      have d14 := i_eq c14
      refine lv_aload_n hx hb dX10_lasts_20 rfl (lv_at hl 0 rfl) ?_
      obtain ⟨z_3, e21⟩ : ∃ z, z = (f_X10_chart isCharted number setCount abv sets kinds lcuts valu won chance) := ⟨_, rfl⟩
      rw [← e21] at he
      try dsimp only at he
      refine g_Vv (w2 := (wG a cA z_3.1 isKept hedgesRead evensDone plen number setCount standing turn cuts ssize kstanding kturn kcuts kssize seed whiteWon cutsDone lett onB abv sets kinds sbranches sbeginners swon kkinds ksbranches ksbeginners kswon z_3.2.1 z_3.2.2.1 z_3.2.2.2.1 z_3.2.2.2.2)) (As := []) (rest := []) (ci := 10) (q0 := 0) ⟨hx, hb, hml, hown, hts⟩ hS hX (k_X10_chart (by omega) (by omega) (by assumption) z_3 e21) (cwV 0 hts gX10_lasts_X10_chart rfl rfl rfl (by decide +kernel) ⟨Nat.le_of_ble_eq_true rfl, Nat.le_of_ble_eq_true rfl⟩) rfl rfl rfl hl.1 rfl (Nat.le_of_ble_eq_true rfl) dX10_lasts_21 ⟨Nat.zero_le _, Nat.zero_le _⟩ (fun H locs hX => ?_)
      refine lv_aload_n hx hb dX10_lasts_24 rfl (lv_at hl 0 rfl) ?_
      refine va_get (D := D) (ci := 10) (v := .ref (a 22)) (C := RX10) (T := TX10) (N := 14) hx hb hts hi_X10 hown hS.1 hX.1 0 rfl rfl 6 (by decide) l_fieldLink_56 (fun _ h9 => h9) rfl dX10_lasts_25 ?_
      refine lv_iload_n hx hb dX10_lasts_28 rfl (lv_at hl 1 rfl) ?_
      refine lv_aload_n hx hb dX10_lasts_29 rfl (lv_at hl 0 rfl) ?_
      refine va_get (D := D) (ci := 10) (v := .ref (a 7)) (C := RX10) (T := TX10) (N := 14) hx hb hts hi_X10 hown hS.1 hX.1 0 rfl rfl 2 (by decide) l_fieldLink_26 (fun _ h9 => h9) rfl dX10_lasts_30 ?_
      refine va_getN (D := D) (ci := 3) (v := .int standing) (C := RX3) (T := TX3) (N := 5) hx hb hts hi_X3 hown hS.1 hX.1 7 rfl rfl 1 (by decide) (hS.2.1.get 19 rfl) (fun _ h9 => h9) rfl dX10_lasts_33 ?_
      obtain ⟨r_4, e36⟩ : ∃ z, z = (f_X1_cutsFrom z_3.2.1 p1 standing) := ⟨_, rfl⟩
      rw [← e36] at he
      refine g_Vi (r := r_4) (As := [.int p1, .int standing]) (rest := []) (ci := 1) (q0 := 22) ⟨hx, hb, hml, hown, hts⟩ hS hX (k_X1_cutsFrom p1 standing (by omega) (by omega) r_4 e36) (cwV 2 hts gX10_lasts_X1_cutsFrom rfl rfl rfl (by decide +kernel) ⟨Nat.le_of_ble_eq_true rfl, Nat.le_of_ble_eq_true rfl⟩) rfl rfl rfl hl.1 rfl (Nat.le_of_ble_eq_true rfl) dX10_lasts_36 ⟨Nat.zero_le _, Nat.zero_le _⟩ (fun H locs hX => ?_)
      subst he
      exact g_iret hx hb hr hlocks hX hq rfl dX10_lasts_39
    · have he := he.trans (if_neg c14)
      have d14 := i_ne c14
      refine lv_bipush (v := (-103 : Int32)) hx hb dX10_lasts_17 (by decide) ?_
      subst he
      exact g_iret hx hb hr hlocks hX hq rfl dX10_lasts_19
  · have he := he.trans (if_neg c4)
    have d4 := i_ne c4
    refine lv_bipush (v := (-102 : Int32)) hx hb dX10_lasts_7 (by decide) ?_
    subst he
    exact g_iret hx hb hr hlocks hX hq rfl dX10_lasts_9
abbrev rm_X10_worth : Room := { frames := 4, cells := 0, slots := 0, locals := 103 }
set_option maxHeartbeats 4000000 in
set_option maxRecDepth 100000 in
theorem k_X10_worth {l : Launch} {D : va_G} {E : sE} {a : Nat → Nat} {cA : Nat → ClassId} {isCharted : Int32} {isKept : Int32} {hedgesRead : Int32} {evensDone : Int32} {plen : Int32} {number : Int32} {setCount : Int32} {standing : Int32} {turn : Int32} {cuts : Int32} {ssize : Int32} {kstanding : Int32} {kturn : Int32} {kcuts : Int32} {kssize : Int32} {seed : Int32} {whiteWon : Int32} {cutsDone : Int32} {lett : Nat → Int32} {onB : Nat → Int32} {abv : Nat → Int32} {sets : Nat → Int32} {kinds : Nat → Int32} {sbranches : Nat → Int32} {sbeginners : Nat → Int32} {swon : Nat → Int32} {kkinds : Nat → Int32} {ksbranches : Nat → Int32} {ksbeginners : Nat → Int32} {kswon : Nat → Int32} {lcuts : Nat → Int32} {valu : Nat → Int32} {won : Nat → Int64} {chance : Nat → Int64}  (hnm : 0 ≤ (number).toInt ∧ (number).toInt ≤ 8) (hsc : 0 ≤ (setCount).toInt ∧ (setCount).toInt ≤ 256) (hss : ∀ k : Nat, 0 ≤ (sets k).toInt ∧ (sets k).toInt < 256) (hsd : 0 ≤ (standing).toInt ∧ (standing).toInt < 256) : ∀ q : Int32 × Int32 × (Nat → Int32) × (Nat → Int32) × (Nat → Int64) × (Nat → Int64), q = f_X10_worth isCharted number setCount standing abv sets kinds lcuts valu won chance → gMi l yX10_worth wsX10_worth rm_X10_worth D E (tG cA) [.ref (a 0)] (wG a cA isCharted isKept hedgesRead evensDone plen number setCount standing turn cuts ssize kstanding kturn kcuts kssize seed whiteWon cutsDone lett onB abv sets kinds sbranches sbeginners swon kkinds ksbranches ksbeginners kswon lcuts valu won chance) (wG a cA q.2.1 isKept hedgesRead evensDone plen number setCount standing turn cuts ssize kstanding kturn kcuts kssize seed whiteWon cutsDone lett onB abv sets kinds sbranches sbeginners swon kkinds ksbranches ksbeginners kswon q.2.2.1 q.2.2.2.1 q.2.2.2.2.1 q.2.2.2.2.2) q.1 := by
  intro q he0
  refine gM_of (cc := cX10_worth) (maxL := 1) (ret := (some .int)) (Qf := gQi D (wG a cA q.2.1 isKept hedgesRead evensDone plen number setCount standing turn cuts ssize kstanding kturn kcuts kssize seed whiteWon cutsDone lett onB abv sets kinds sbranches sbeginners swon kkinds ksbranches ksbeginners kswon q.2.2.1 q.2.2.2.1 q.2.2.2.2.1 q.2.2.2.2.2) q.1) (by decide) rfl (Nat.le_of_ble_eq_true rfl) ?_
  intro p e s m args below meth c Z ls Qz hx hb hr hml hlocks hown hts hS hX hl hq
  have he := he0.trans f_X10_worth_s
  have hown : s.vm.findClass RX10 = some m.cls := hown
  have hl : lv_has ls 1 [(0, .ref (a 0))] := hl
  have hi_X10 : ∀ w ∈ u_ws RX10 TX10 14, w ∈ wsX10_worth := fun _ h => List.mem_cons_of_mem _ (List.mem_append_left _ (List.mem_append_left _ (List.mem_append_left _ (List.mem_append_left _ (List.mem_append_left _ (List.mem_append_left _ (List.mem_append_left _ (List.mem_append_right _ h))))))))
  have hi_X3 : ∀ w ∈ u_ws RX3 TX3 5, w ∈ wsX10_worth := fun _ h => List.mem_cons_of_mem _ (List.mem_append_left _ (List.mem_append_left _ (List.mem_append_left _ (List.mem_append_left _ (List.mem_append_left _ (List.mem_append_left _ (List.mem_append_right _ h)))))))
  have l_fieldLink_26 := hts (Cond.fieldLink RX10 26 "HedgeGame" "now" "LHedgeGame$Moment;") (List.mem_of_getElem? (i := 2) rfl)
  have l_fieldLink_63 := hts (Cond.fieldLink RX10 63 "HedgeGame" "values" "LHedgeGame$Values;") (List.mem_of_getElem? (i := 1) rfl)
  have tm103 : ((-103 : Int32)).toInt = -103 := rfl
  have t0 : ((0 : Int32)).toInt = 0 := rfl
  have t1 : ((1 : Int32)).toInt = 1 := rfl
  refine lv_aload_n hx hb dX10_worth_0 rfl (lv_at hl 0 rfl) ?_
  obtain ⟨r_1, e1⟩ : ∃ z, z = (f_X10_hasNoHedge number) := ⟨_, rfl⟩
  rw [← e1] at he
  refine g_Vi (r := r_1) (As := []) (rest := []) (ci := 10) (q0 := 0) ⟨hx, hb, hml, hown, hts⟩ hS hX (k_X10_hasNoHedge  r_1 e1) (cwV 0 hts gX10_worth_X10_hasNoHedge rfl rfl rfl (by decide +kernel) ⟨Nat.le_of_ble_eq_true rfl, Nat.le_of_ble_eq_true rfl⟩) rfl rfl rfl hl.1 rfl (Nat.le_of_ble_eq_true rfl) dX10_worth_1 ⟨Nat.zero_le _, Nat.zero_le _⟩ (fun H locs hX => ?_)
  refine lv_if_eq (tgt := 10) hx hb dX10_worth_4 (by decide) (fun c4 => ?_) (fun c4 => ?_)
  · have he := he.trans (if_pos c4)
    have d4 := i_eq c4
    refine lv_aload_n hx hb dX10_worth_10 rfl (lv_at hl 0 rfl) ?_
    obtain ⟨z_2, e11⟩ : ∃ z, z = (f_X10_chart isCharted number setCount abv sets kinds lcuts valu won chance) := ⟨_, rfl⟩
    rw [← e11] at he
    try dsimp only at he
    refine g_Vv (w2 := (wG a cA z_2.1 isKept hedgesRead evensDone plen number setCount standing turn cuts ssize kstanding kturn kcuts kssize seed whiteWon cutsDone lett onB abv sets kinds sbranches sbeginners swon kkinds ksbranches ksbeginners kswon z_2.2.1 z_2.2.2.1 z_2.2.2.2.1 z_2.2.2.2.2)) (As := []) (rest := []) (ci := 10) (q0 := 0) ⟨hx, hb, hml, hown, hts⟩ hS hX (k_X10_chart (by omega) (by omega) (by assumption) z_2 e11) (cwV 0 hts gX10_worth_X10_chart rfl rfl rfl (by decide +kernel) ⟨Nat.le_of_ble_eq_true rfl, Nat.le_of_ble_eq_true rfl⟩) rfl rfl rfl hl.1 rfl (Nat.le_of_ble_eq_true rfl) dX10_worth_11 ⟨Nat.zero_le _, Nat.zero_le _⟩ (fun H locs hX => ?_)
    refine lv_aload_n hx hb dX10_worth_14 rfl (lv_at hl 0 rfl) ?_
    refine va_get (D := D) (ci := 10) (v := .ref (a 24)) (C := RX10) (T := TX10) (N := 14) hx hb hts hi_X10 hown hS.1 hX.1 0 rfl rfl 7 (by decide) l_fieldLink_63 (fun _ h9 => h9) rfl dX10_worth_15 ?_
    refine lv_aload_n hx hb dX10_worth_18 rfl (lv_at hl 0 rfl) ?_
    refine va_get (D := D) (ci := 10) (v := .ref (a 7)) (C := RX10) (T := TX10) (N := 14) hx hb hts hi_X10 hown hS.1 hX.1 0 rfl rfl 2 (by decide) l_fieldLink_26 (fun _ h9 => h9) rfl dX10_worth_19 ?_
    refine va_getN (D := D) (ci := 3) (v := .int standing) (C := RX3) (T := TX3) (N := 5) hx hb hts hi_X3 hown hS.1 hX.1 7 rfl rfl 1 (by decide) (hS.2.1.get 19 rfl) (fun _ h9 => h9) rfl dX10_worth_22 ?_
    obtain ⟨r_3, e25⟩ : ∃ z, z = (f_X9_valueOf z_2.2.2.1 standing) := ⟨_, rfl⟩
    rw [← e25] at he
    refine g_Vi (r := r_3) (As := [.int standing]) (rest := []) (ci := 9) (q0 := 24) ⟨hx, hb, hml, hown, hts⟩ hS hX (k_X9_valueOf standing (by omega) r_3 e25) (cwV 1 hts gX10_worth_X9_valueOf rfl rfl rfl (by decide +kernel) ⟨Nat.le_of_ble_eq_true rfl, Nat.le_of_ble_eq_true rfl⟩) rfl rfl rfl hl.1 rfl (Nat.le_of_ble_eq_true rfl) dX10_worth_25 ⟨Nat.zero_le _, Nat.zero_le _⟩ (fun H locs hX => ?_)
    subst he
    exact g_iret hx hb hr hlocks hX hq rfl dX10_worth_28
  · have he := he.trans (if_neg c4)
    have d4 := i_ne c4
    refine lv_bipush (v := (-103 : Int32)) hx hb dX10_worth_7 (by decide) ?_
    subst he
    exact g_iret hx hb hr hlocks hX hq rfl dX10_worth_9
abbrev rm_X10_tree : Room := { frames := 4, cells := 0, slots := 0, locals := 103 }
set_option maxHeartbeats 4000000 in
set_option maxRecDepth 100000 in
theorem k_X10_tree {l : Launch} {D : va_G} {E : sE} {a : Nat → Nat} {cA : Nat → ClassId} {isCharted : Int32} {isKept : Int32} {hedgesRead : Int32} {evensDone : Int32} {plen : Int32} {number : Int32} {setCount : Int32} {standing : Int32} {turn : Int32} {cuts : Int32} {ssize : Int32} {kstanding : Int32} {kturn : Int32} {kcuts : Int32} {kssize : Int32} {seed : Int32} {whiteWon : Int32} {cutsDone : Int32} {lett : Nat → Int32} {onB : Nat → Int32} {abv : Nat → Int32} {sets : Nat → Int32} {kinds : Nat → Int32} {sbranches : Nat → Int32} {sbeginners : Nat → Int32} {swon : Nat → Int32} {kkinds : Nat → Int32} {ksbranches : Nat → Int32} {ksbeginners : Nat → Int32} {kswon : Nat → Int32} {lcuts : Nat → Int32} {valu : Nat → Int32} {won : Nat → Int64} {chance : Nat → Int64} (p1 : Int32) (hnm : 0 ≤ (number).toInt ∧ (number).toInt ≤ 8) (hsc : 0 ≤ (setCount).toInt ∧ (setCount).toInt ≤ 256) (hss : ∀ k : Nat, 0 ≤ (sets k).toInt ∧ (sets k).toInt < 256) (hsd : 0 ≤ (standing).toInt ∧ (standing).toInt < 256) : ∀ q : Int32 × Int32 × (Nat → Int32) × (Nat → Int32) × (Nat → Int64) × (Nat → Int64), q = f_X10_tree isCharted number setCount standing onB abv sets kinds lcuts valu won chance p1 → gMi l yX10_tree wsX10_tree rm_X10_tree D E (tG cA) [.ref (a 0), .int p1] (wG a cA isCharted isKept hedgesRead evensDone plen number setCount standing turn cuts ssize kstanding kturn kcuts kssize seed whiteWon cutsDone lett onB abv sets kinds sbranches sbeginners swon kkinds ksbranches ksbeginners kswon lcuts valu won chance) (wG a cA q.2.1 isKept hedgesRead evensDone plen number setCount standing turn cuts ssize kstanding kturn kcuts kssize seed whiteWon cutsDone lett onB abv sets kinds sbranches sbeginners swon kkinds ksbranches ksbeginners kswon q.2.2.1 q.2.2.2.1 q.2.2.2.2.1 q.2.2.2.2.2) q.1 := by
  intro q he0
  refine gM_of (cc := cX10_tree) (maxL := 2) (ret := (some .int)) (Qf := gQi D (wG a cA q.2.1 isKept hedgesRead evensDone plen number setCount standing turn cuts ssize kstanding kturn kcuts kssize seed whiteWon cutsDone lett onB abv sets kinds sbranches sbeginners swon kkinds ksbranches ksbeginners kswon q.2.2.1 q.2.2.2.1 q.2.2.2.2.1 q.2.2.2.2.2) q.1) (by decide) rfl (Nat.le_of_ble_eq_true rfl) ?_
  intro p e s m args below meth c Z ls Qz hx hb hr hml hlocks hown hts hS hX hl hq
  have he := he0.trans f_X10_tree_s
  have hown : s.vm.findClass RX10 = some m.cls := hown
  have hl : lv_has ls 2 [(0, .ref (a 0)), (1, .int p1)] := hl
  have hi_X10 : ∀ w ∈ u_ws RX10 TX10 14, w ∈ wsX10_tree := fun _ h => List.mem_cons_of_mem _ (List.mem_append_left _ (List.mem_append_left _ (List.mem_append_left _ (List.mem_append_left _ (List.mem_append_left _ (List.mem_append_left _ (List.mem_append_left _ (List.mem_append_right _ h))))))))
  have hi_X3 : ∀ w ∈ u_ws RX3 TX3 5, w ∈ wsX10_tree := fun _ h => List.mem_cons_of_mem _ (List.mem_append_left _ (List.mem_append_left _ (List.mem_append_left _ (List.mem_append_left _ (List.mem_append_left _ (List.mem_append_right _ h))))))
  have hi_X8 : ∀ w ∈ u_ws RX8 TX8 5, w ∈ wsX10_tree := fun _ h => List.mem_cons_of_mem _ (List.mem_append_left _ (List.mem_append_left _ (List.mem_append_left _ (List.mem_append_left _ (List.mem_append_left _ (List.mem_append_left _ (List.mem_append_right _ h)))))))
  have l_fieldLink_19 := hts (Cond.fieldLink RX10 19 "HedgeGame" "shape" "LHedgeGame$Shape;") (List.mem_of_getElem? (i := 1) rfl)
  have l_fieldLink_26 := hts (Cond.fieldLink RX10 26 "HedgeGame" "now" "LHedgeGame$Moment;") (List.mem_of_getElem? (i := 3) rfl)
  have l_fieldLink_63 := hts (Cond.fieldLink RX10 63 "HedgeGame" "values" "LHedgeGame$Values;") (List.mem_of_getElem? (i := 2) rfl)
  have tm103 : ((-103 : Int32)).toInt = -103 := rfl
  have tm101 : ((-101 : Int32)).toInt = -101 := rfl
  have tm1 : ((-1 : Int32)).toInt = -1 := rfl
  have t0 : ((0 : Int32)).toInt = 0 := rfl
  have t1 : ((1 : Int32)).toInt = 1 := rfl
  refine lv_aload_n hx hb dX10_tree_0 rfl (lv_at hl 0 rfl) ?_
  refine lv_iload_n hx hb dX10_tree_1 rfl (lv_at hl 1 rfl) ?_
  obtain ⟨r_1, e2⟩ : ∃ z, z = (f_X10_isUnknown number p1) := ⟨_, rfl⟩
  rw [← e2] at he
  refine g_Vi (r := r_1) (As := [.int p1]) (rest := []) (ci := 10) (q0 := 0) ⟨hx, hb, hml, hown, hts⟩ hS hX (k_X10_isUnknown p1 (by omega) r_1 e2) (cwV 1 hts gX10_tree_X10_isUnknown rfl rfl rfl (by decide +kernel) ⟨Nat.le_of_ble_eq_true rfl, Nat.le_of_ble_eq_true rfl⟩) rfl rfl rfl hl.1 rfl (Nat.le_of_ble_eq_true rfl) dX10_tree_2 ⟨Nat.zero_le _, Nat.zero_le _⟩ (fun H locs hX => ?_)
  have k2_0 : (r_1).toInt = 1 ∨ ((r_1).toInt = 0 ∧ 0 ≤ (p1).toInt ∧ (p1).toInt < (number).toInt) := by rw [e2]; exact r_isUnknown
  refine lv_if_eq (tgt := 11) hx hb dX10_tree_5 (by decide) (fun c5 => ?_) (fun c5 => ?_)
  · have he := he.trans (if_pos c5)
    have d5 := i_eq c5
    refine lv_aload_n hx hb dX10_tree_11 rfl (lv_at hl 0 rfl) ?_
    refine va_get (D := D) (ci := 10) (v := .ref (a 3)) (C := RX10) (T := TX10) (N := 14) hx hb hts hi_X10 hown hS.1 hX.1 0 rfl rfl 1 (by decide) l_fieldLink_19 (fun _ h9 => h9) rfl dX10_tree_12 ?_
    refine va_getN (D := D) (ci := 8) (v := .ref (a 4)) (C := RX8) (T := TX8) (N := 5) hx hb hts hi_X8 hown hS.1 hX.1 3 rfl rfl 1 (by decide) (hS.2.1.get 6 rfl) (fun _ h9 => h9) rfl dX10_tree_15 ?_
    refine lv_iload_n hx hb dX10_tree_18 rfl (lv_at hl 1 rfl) ?_
    refine va_iald hx hb hS.1 hX.1 4 1 rfl rfl (vp_in_iff.mpr (by omega)) dX10_tree_19 ?_
    refine lv_iconst (v := (-1 : Int32)) hx hb dX10_tree_20 (by decide) ?_
    refine lv_icmp_eq (tgt := 27) hx hb dX10_tree_21 (by decide) (fun c21 => ?_) (fun c21 => ?_)
    · have he := he.trans (if_pos c21)
      have d21 := i_eq c21
      refine lv_aload_n hx hb dX10_tree_27 rfl (lv_at hl 0 rfl) ?_
      obtain ⟨z_2, e28⟩ : ∃ z, z = (f_X10_chart isCharted number setCount abv sets kinds lcuts valu won chance) := ⟨_, rfl⟩
      rw [← e28] at he
      try dsimp only at he
      refine g_Vv (w2 := (wG a cA z_2.1 isKept hedgesRead evensDone plen number setCount standing turn cuts ssize kstanding kturn kcuts kssize seed whiteWon cutsDone lett onB abv sets kinds sbranches sbeginners swon kkinds ksbranches ksbeginners kswon z_2.2.1 z_2.2.2.1 z_2.2.2.2.1 z_2.2.2.2.2)) (As := []) (rest := []) (ci := 10) (q0 := 0) ⟨hx, hb, hml, hown, hts⟩ hS hX (k_X10_chart (by omega) (by omega) (by assumption) z_2 e28) (cwV 0 hts gX10_tree_X10_chart rfl rfl rfl (by decide +kernel) ⟨Nat.le_of_ble_eq_true rfl, Nat.le_of_ble_eq_true rfl⟩) rfl rfl rfl hl.1 rfl (Nat.le_of_ble_eq_true rfl) dX10_tree_28 ⟨Nat.zero_le _, Nat.zero_le _⟩ (fun H locs hX => ?_)
      refine lv_aload_n hx hb dX10_tree_31 rfl (lv_at hl 0 rfl) ?_
      refine va_get (D := D) (ci := 10) (v := .ref (a 24)) (C := RX10) (T := TX10) (N := 14) hx hb hts hi_X10 hown hS.1 hX.1 0 rfl rfl 7 (by decide) l_fieldLink_63 (fun _ h9 => h9) rfl dX10_tree_32 ?_
      refine lv_aload_n hx hb dX10_tree_35 rfl (lv_at hl 0 rfl) ?_
      refine va_get (D := D) (ci := 10) (v := .ref (a 7)) (C := RX10) (T := TX10) (N := 14) hx hb hts hi_X10 hown hS.1 hX.1 0 rfl rfl 2 (by decide) l_fieldLink_26 (fun _ h9 => h9) rfl dX10_tree_36 ?_
      refine va_getN (D := D) (ci := 3) (v := .int standing) (C := RX3) (T := TX3) (N := 5) hx hb hts hi_X3 hown hS.1 hX.1 7 rfl rfl 1 (by decide) (hS.2.1.get 19 rfl) (fun _ h9 => h9) rfl dX10_tree_39 ?_
      refine lv_aload_n hx hb dX10_tree_42 rfl (lv_at hl 0 rfl) ?_
      refine va_get (D := D) (ci := 10) (v := .ref (a 3)) (C := RX10) (T := TX10) (N := 14) hx hb hts hi_X10 hown hS.1 hX.1 0 rfl rfl 1 (by decide) l_fieldLink_19 (fun _ h9 => h9) rfl dX10_tree_43 ?_
      refine lv_iload_n hx hb dX10_tree_46 rfl (lv_at hl 1 rfl) ?_
      obtain ⟨r_3, e47⟩ : ∃ z, z = (f_X8_withAllOn abv p1) := ⟨_, rfl⟩
      rw [← e47] at he
      refine g_Vi (r := r_3) (As := [.int p1]) (rest := [.int standing, .ref (a 24)]) (ci := 8) (q0 := 3) ⟨hx, hb, hml, hown, hts⟩ hS hX (k_X8_withAllOn p1 (by omega) r_3 e47) (cwV 1 hts gX10_tree_X8_withAllOn rfl rfl rfl (by decide +kernel) ⟨Nat.le_of_ble_eq_true rfl, Nat.le_of_ble_eq_true rfl⟩) rfl rfl rfl hl.1 rfl (Nat.le_of_ble_eq_true rfl) dX10_tree_47 ⟨Nat.zero_le _, Nat.zero_le _⟩ (fun H locs hX => ?_)
      refine lv_iand hx hb dX10_tree_50 ?_
      have g51 : 0 ≤ ((standing &&& r_3)).toInt ∧ ((standing &&& r_3)).toInt ≤ (standing).toInt := i_and (by omega)
      obtain ⟨r_4, e51⟩ : ∃ z, z = (f_X9_valueOf z_2.2.2.1 (standing &&& r_3)) := ⟨_, rfl⟩
      rw [← e51] at he
      refine g_Vi (r := r_4) (As := [.int (standing &&& r_3)]) (rest := []) (ci := 9) (q0 := 24) ⟨hx, hb, hml, hown, hts⟩ hS hX (k_X9_valueOf (standing &&& r_3) (by omega) r_4 e51) (cwV 1 hts gX10_tree_X9_valueOf rfl rfl rfl (by decide +kernel) ⟨Nat.le_of_ble_eq_true rfl, Nat.le_of_ble_eq_true rfl⟩) rfl rfl rfl hl.1 rfl (Nat.le_of_ble_eq_true rfl) dX10_tree_51 ⟨Nat.zero_le _, Nat.zero_le _⟩ (fun H locs hX => ?_)
      subst he
      exact g_iret hx hb hr hlocks hX hq rfl dX10_tree_54
    · have he := he.trans (if_neg c21)
      have d21 := i_ne c21
      refine lv_bipush (v := (-103 : Int32)) hx hb dX10_tree_24 (by decide) ?_
      subst he
      exact g_iret hx hb hr hlocks hX hq rfl dX10_tree_26
  · have he := he.trans (if_neg c5)
    have d5 := i_ne c5
    refine lv_bipush (v := (-101 : Int32)) hx hb dX10_tree_8 (by decide) ?_
    subst he
    exact g_iret hx hb hr hlocks hX hq rfl dX10_tree_10
abbrev rm_X10_even : Room := { frames := 4, cells := 0, slots := 0, locals := 103 }
set_option maxHeartbeats 4000000 in
set_option maxRecDepth 100000 in
theorem k_X10_even {l : Launch} {D : va_G} {E : sE} {a : Nat → Nat} {cA : Nat → ClassId} {isCharted : Int32} {isKept : Int32} {hedgesRead : Int32} {evensDone : Int32} {plen : Int32} {number : Int32} {setCount : Int32} {standing : Int32} {turn : Int32} {cuts : Int32} {ssize : Int32} {kstanding : Int32} {kturn : Int32} {kcuts : Int32} {kssize : Int32} {seed : Int32} {whiteWon : Int32} {cutsDone : Int32} {lett : Nat → Int32} {onB : Nat → Int32} {abv : Nat → Int32} {sets : Nat → Int32} {kinds : Nat → Int32} {sbranches : Nat → Int32} {sbeginners : Nat → Int32} {swon : Nat → Int32} {kkinds : Nat → Int32} {ksbranches : Nat → Int32} {ksbeginners : Nat → Int32} {kswon : Nat → Int32} {lcuts : Nat → Int32} {valu : Nat → Int32} {won : Nat → Int64} {chance : Nat → Int64}  (hnm : 0 ≤ (number).toInt ∧ (number).toInt ≤ 8) (hsc : 0 ≤ (setCount).toInt ∧ (setCount).toInt ≤ 256) (hss : ∀ k : Nat, 0 ≤ (sets k).toInt ∧ (sets k).toInt < 256) (hsd : 0 ≤ (standing).toInt ∧ (standing).toInt < 256) : ∀ q : Int32 × Int32 × Int32 × (Nat → Int32) × (Nat → Int32) × (Nat → Int64) × (Nat → Int64), q = f_X10_even isCharted evensDone number setCount standing abv sets kinds lcuts valu won chance → gMi l yX10_even wsX10_even rm_X10_even D E (tG cA) [.ref (a 0)] (wG a cA isCharted isKept hedgesRead evensDone plen number setCount standing turn cuts ssize kstanding kturn kcuts kssize seed whiteWon cutsDone lett onB abv sets kinds sbranches sbeginners swon kkinds ksbranches ksbeginners kswon lcuts valu won chance) (wG a cA q.2.1 isKept hedgesRead q.2.2.1 plen number setCount standing turn cuts ssize kstanding kturn kcuts kssize seed whiteWon cutsDone lett onB abv sets kinds sbranches sbeginners swon kkinds ksbranches ksbeginners kswon q.2.2.2.1 q.2.2.2.2.1 q.2.2.2.2.2.1 q.2.2.2.2.2.2) q.1 := by
  intro q he0
  refine gM_of (cc := cX10_even) (maxL := 1) (ret := (some .int)) (Qf := gQi D (wG a cA q.2.1 isKept hedgesRead q.2.2.1 plen number setCount standing turn cuts ssize kstanding kturn kcuts kssize seed whiteWon cutsDone lett onB abv sets kinds sbranches sbeginners swon kkinds ksbranches ksbeginners kswon q.2.2.2.1 q.2.2.2.2.1 q.2.2.2.2.2.1 q.2.2.2.2.2.2) q.1) (by decide) rfl (Nat.le_of_ble_eq_true rfl) ?_
  intro p e s m args below meth c Z ls Qz hx hb hr hml hlocks hown hts hS hX hl hq
  have he := he0.trans f_X10_even_s
  have hown : s.vm.findClass RX10 = some m.cls := hown
  have hl : lv_has ls 1 [(0, .ref (a 0))] := hl
  have hi_X10 : ∀ w ∈ u_ws RX10 TX10 14, w ∈ wsX10_even := fun _ h => List.mem_cons_of_mem _ (List.mem_append_left _ (List.mem_append_left _ (List.mem_append_left _ (List.mem_append_left _ (List.mem_append_left _ (List.mem_append_left _ (List.mem_append_left _ (List.mem_append_right _ h))))))))
  have l_fieldLink_92 := hts (Cond.fieldLink RX10 92 "HedgeGame" "evensDone" "I") (List.mem_of_getElem? (i := 1) rfl)
  have tm103 : ((-103 : Int32)).toInt = -103 := rfl
  have t0 : ((0 : Int32)).toInt = 0 := rfl
  have t1 : ((1 : Int32)).toInt = 1 := rfl
  have t30 : ((30 : Int32)).toInt = 30 := rfl
  refine lv_aload_n hx hb dX10_even_0 rfl (lv_at hl 0 rfl) ?_
  obtain ⟨r_1, e1⟩ : ∃ z, z = (f_X10_hasNoHedge number) := ⟨_, rfl⟩
  rw [← e1] at he
  refine g_Vi (r := r_1) (As := []) (rest := []) (ci := 10) (q0 := 0) ⟨hx, hb, hml, hown, hts⟩ hS hX (k_X10_hasNoHedge  r_1 e1) (cwV 0 hts gX10_even_X10_hasNoHedge rfl rfl rfl (by decide +kernel) ⟨Nat.le_of_ble_eq_true rfl, Nat.le_of_ble_eq_true rfl⟩) rfl rfl rfl hl.1 rfl (Nat.le_of_ble_eq_true rfl) dX10_even_1 ⟨Nat.zero_le _, Nat.zero_le _⟩ (fun H locs hX => ?_)
  refine lv_if_ne (tgt := 16) hx hb dX10_even_4 (by decide) (fun c4 => ?_) (fun c4 => ?_)
  · have he := he.trans (if_neg c4)
    have d4 := i_ne c4
    refine lv_bipush (v := (-103 : Int32)) hx hb dX10_even_16 (by decide) ?_
    subst he
    exact g_iret hx hb hr hlocks hX hq rfl dX10_even_18
  · have he := he.trans (if_pos c4)
    have d4 := i_eq c4
    refine lv_aload_n hx hb dX10_even_7 rfl (lv_at hl 0 rfl) ?_
    refine va_get (D := D) (ci := 10) (v := .int evensDone) (C := RX10) (T := TX10) (N := 14) hx hb hts hi_X10 hown hS.1 hX.1 0 rfl rfl 13 (by decide) l_fieldLink_92 (fun _ h9 => h9) rfl dX10_even_8 ?_
    refine lv_bipush (v := (30 : Int32)) hx hb dX10_even_11 (by decide) ?_
    refine lv_icmp_lt (tgt := 19) hx hb dX10_even_13 (by decide) (fun c13 => ?_) (fun c13 => ?_)
    · have he := he.trans (if_pos c13)
      have d13 := i_lt c13
      refine lv_aload_n hx hb dX10_even_19 rfl (lv_at hl 0 rfl) ?_
      refine lv_dup hx hb dX10_even_20 rfl ?_
      refine va_get (D := D) (ci := 10) (v := .int evensDone) (C := RX10) (T := TX10) (N := 14) hx hb hts hi_X10 hown hS.1 hX.1 0 rfl rfl 13 (by decide) l_fieldLink_92 (fun _ h9 => h9) rfl dX10_even_21 ?_
      refine lv_iconst (v := (1 : Int32)) hx hb dX10_even_24 (by decide) ?_
      refine lv_iadd hx hb dX10_even_25 ?_
      refine va_put (D := D) (ci := 10) (v := .int (evensDone + (1 : Int32))) (ty := .int) (C := RX10) (T := TX10) (N := 14) hx hb hts hi_X10 tyX10 tyX10_ok nmX10 hown hS.1 hX.1 hX.2.1 hX.2.2 0 rfl rfl 13 (by decide) l_fieldLink_92 (fun _ h9 => h9) rfl (by decide +kernel) rfl rfl (Nat.le_of_ble_eq_true rfl) dX10_even_26 (fun H locs hP hD hs => ?_)
      have hX : gX D Z s (wG a cA isCharted isKept hedgesRead (evensDone + (1 : Int32)) plen number setCount standing turn cuts ssize kstanding kturn kcuts kssize seed whiteWon cutsDone lett onB abv sets kinds sbranches sbeginners swon kkinds ksbranches ksbeginners kswon lcuts valu won chance) H locs := ⟨hP, hD, hs⟩
      refine lv_aload_n hx hb dX10_even_29 rfl (lv_at hl 0 rfl) ?_
      obtain ⟨z_2, e30⟩ : ∃ z, z = (f_X10_chart isCharted number setCount abv sets kinds lcuts valu won chance) := ⟨_, rfl⟩
      rw [← e30] at he
      try dsimp only at he
      refine g_Vv (w2 := (wG a cA z_2.1 isKept hedgesRead (evensDone + (1 : Int32)) plen number setCount standing turn cuts ssize kstanding kturn kcuts kssize seed whiteWon cutsDone lett onB abv sets kinds sbranches sbeginners swon kkinds ksbranches ksbeginners kswon z_2.2.1 z_2.2.2.1 z_2.2.2.2.1 z_2.2.2.2.2)) (As := []) (rest := []) (ci := 10) (q0 := 0) ⟨hx, hb, hml, hown, hts⟩ hS hX (k_X10_chart (by omega) (by omega) (by assumption) z_2 e30) (cwV 0 hts gX10_even_X10_chart rfl rfl rfl (by decide +kernel) ⟨Nat.le_of_ble_eq_true rfl, Nat.le_of_ble_eq_true rfl⟩) rfl rfl rfl hl.1 rfl (Nat.le_of_ble_eq_true rfl) dX10_even_30 ⟨Nat.zero_le _, Nat.zero_le _⟩ (fun H locs hX => ?_)
      refine lv_aload_n hx hb dX10_even_33 rfl (lv_at hl 0 rfl) ?_
      obtain ⟨r_3, e34⟩ : ∃ z, z = (f_X10_evenBy number standing z_2.2.2.2.1) := ⟨_, rfl⟩
      rw [← e34] at he
      refine g_Vi (r := r_3) (As := []) (rest := []) (ci := 10) (q0 := 0) ⟨hx, hb, hml, hown, hts⟩ hS hX (k_X10_evenBy (by omega) (by omega) r_3 e34) (cwV 0 hts gX10_even_X10_evenBy rfl rfl rfl (by decide +kernel) ⟨Nat.le_of_ble_eq_true rfl, Nat.le_of_ble_eq_true rfl⟩) rfl rfl rfl hl.1 rfl (Nat.le_of_ble_eq_true rfl) dX10_even_34 ⟨Nat.zero_le _, Nat.zero_le _⟩ (fun H locs hX => ?_)
      subst he
      exact g_iret hx hb hr hlocks hX hq rfl dX10_even_37
    · have he := he.trans (if_neg c13)
      have d13 := i_nlt c13
      refine lv_bipush (v := (-103 : Int32)) hx hb dX10_even_16 (by decide) ?_
      subst he
      exact g_iret hx hb hr hlocks hX hq rfl dX10_even_18
