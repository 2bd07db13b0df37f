abbrev rm_X10_sortsOf : Room := { frames := 2, cells := 0, slots := 0, locals := 44 }
set_option maxHeartbeats 4000000 in
set_option maxRecDepth 100000 in
theorem k_X10_sortsOf {l : Launch} {D : va_G} {E : sE} {a : Nat → Nat} {cA : Nat → ClassId} {isCharted : Int32} {isKept : Int32} {hedgesRead : Int32} {evensDone : Int32} {plen : Int32} {number : Int32} {setCount : Int32} {standing : Int32} {turn : Int32} {cuts : Int32} {ssize : Int32} {kstanding : Int32} {kturn : Int32} {kcuts : Int32} {kssize : Int32} {seed : Int32} {whiteWon : Int32} {cutsDone : Int32} {lett : Nat → Int32} {onB : Nat → Int32} {abv : Nat → Int32} {sets : Nat → Int32} {kinds : Nat → Int32} {sbranches : Nat → Int32} {sbeginners : Nat → Int32} {swon : Nat → Int32} {kkinds : Nat → Int32} {ksbranches : Nat → Int32} {ksbeginners : Nat → Int32} {kswon : Nat → Int32} {lcuts : Nat → Int32} {valu : Nat → Int32} {won : Nat → Int64} {chance : Nat → Int64} (p1 : Int32) (hnm : 0 ≤ (number).toInt ∧ (number).toInt ≤ 8) (hsd : 0 ≤ (standing).toInt ∧ (standing).toInt < 256) (hsz : 0 ≤ (ssize).toInt ∧ (ssize).toInt ≤ 6) (hsb : ∀ k : Nat, (k : Int) < (ssize).toInt → 0 ≤ (sbeginners k).toInt ∧ (sbeginners k).toInt ≤ 1) : ∀ q : Int32, q = f_X10_sortsOf standing ssize sbranches sbeginners swon won p1 → gMi l yX10_sortsOf wsX10_sortsOf rm_X10_sortsOf D E (tG cA) [.ref (a 0), .int p1] (wG a cA isCharted isKept hedgesRead evensDone plen number setCount standing turn cuts ssize kstanding kturn kcuts kssize seed whiteWon cutsDone lett onB abv sets kinds sbranches sbeginners swon kkinds ksbranches ksbeginners kswon lcuts valu won chance) (wG a cA isCharted isKept hedgesRead evensDone plen number setCount standing turn cuts ssize kstanding kturn kcuts kssize seed whiteWon cutsDone lett onB abv sets kinds sbranches sbeginners swon kkinds ksbranches ksbeginners kswon lcuts valu won chance) q := by
  intro q he0
  refine gM_of (cc := cX10_sortsOf) (maxL := 5) (ret := (some .int)) (Qf := gQi D (wG a cA isCharted isKept hedgesRead evensDone plen number setCount standing turn cuts ssize kstanding kturn kcuts kssize seed whiteWon cutsDone lett onB abv sets kinds sbranches sbeginners swon kkinds ksbranches ksbeginners kswon lcuts valu won chance) q) (by decide) rfl (Nat.le_of_ble_eq_true rfl) ?_
  intro p e s m args below meth c Z ls Qz hx hb hr hml hlocks hown hts hS hX hl hq
  have he := he0.trans f_X10_sortsOf_s
  have hown : s.vm.findClass RX10 = some m.cls := hown
  have hl : lv_has ls 5 [(0, .ref (a 0)), (1, .int p1)] := hl
  have hi_X10 : ∀ w ∈ u_ws RX10 TX10 14, w ∈ wsX10_sortsOf := fun _ h => List.mem_cons_of_mem _ (List.mem_append_left _ (List.mem_append_left _ (List.mem_append_left _ (List.mem_append_right _ h))))
  have hi_X3 : ∀ w ∈ u_ws RX3 TX3 5, w ∈ wsX10_sortsOf := fun _ h => List.mem_cons_of_mem _ (List.mem_append_left _ (List.mem_append_left _ (List.mem_append_right _ h)))
  have hi_X7 : ∀ w ∈ u_ws RX7 TX7 4, w ∈ wsX10_sortsOf := fun _ h => List.mem_cons_of_mem _ (List.mem_append_left _ (List.mem_append_right _ h))
  have l_fieldLink_26 := hts (Cond.fieldLink RX10 26 "HedgeGame" "now" "LHedgeGame$Moment;") (List.mem_of_getElem? (i := 1) rfl)
  have l_fieldLink_47 := hts (Cond.fieldLink RX10 47 "HedgeGame" "outcomes" "LHedgeGame$Outcomes;") (List.mem_of_getElem? (i := 2) rfl)
  have tm1 : ((-1 : Int32)).toInt = -1 := rfl
  have t0 : ((0 : Int32)).toInt = 0 := rfl
  have t1 : ((1 : Int32)).toInt = 1 := rfl
  have t31 : ((31 : Int32)).toInt = 31 := rfl
  refine lv_bipush (v := (31 : Int32)) hx hb dX10_sortsOf_0 (by decide) ?_
  refine lv_istore_n (lv' := [(2, .int (31 : Int32)), (0, .ref (a 0)), (1, .int p1)]) hx hb dX10_sortsOf_2 rfl hl (by decide) rfl (fun ls hl => ?_)
  refine lv_iconst (v := (0 : Int32)) hx hb dX10_sortsOf_3 (by decide) ?_
  refine lv_istore_n (lv' := [(3, .int (0 : Int32)), (2, .int (31 : Int32)), (0, .ref (a 0)), (1, .int p1)]) hx hb dX10_sortsOf_4 rfl hl (by decide) rfl (fun ls hl => ?_)
  have L5_1 : ∀ (n_5_1 : Nat) (x2_2 : Int32) (x3_3 : Int32), 0 ≤ (x3_3).toInt ∧ (x3_3).toInt ≤ 6 → 6 - (x3_3).toInt < (n_5_1 : Int) → q = f_X10_sortsOf_L5 n_5_1 standing ssize sbranches sbeginners swon won p1 x2_2 x3_3 → ∀ (H : Heap) (locs : List Loc) (ls : Array Slot), gX D Z s (wG a cA isCharted isKept hedgesRead evensDone plen number setCount standing turn cuts ssize kstanding kturn kcuts kssize seed whiteWon cutsDone lett onB abv sets kinds sbranches sbeginners swon kkinds ksbranches ksbeginners kswon lcuts valu won chance) H locs → lv_has ls 5 [(0, .ref (a 0)), (1, .int p1), (2, .int x2_2), (3, .int x3_3)] → W p l e rm_X10_sortsOf s m args below meth c H locs 0 0 Qz (F0 m 5 ls []) := by
    intro n_5_1
    induction n_5_1 with
    | zero =>
      intro x2_2 x3_3 ia ifu _ _ _ _ _ _
      exfalso; omega
    | succ n_5_1 ih_L5_1 =>
      intro x2_2 x3_3 ia ifu he H locs ls hX hl
      have he := he.trans f_X10_sortsOf_L5_s
      refine lv_iload_n hx hb dX10_sortsOf_5 rfl (lv_at hl 3 rfl) ?_
      refine lv_aload_n hx hb dX10_sortsOf_6 rfl (lv_at hl 0 rfl) ?_
      refine va_get (D := D) (ci := 10) (v := .ref (a 7)) (C := RX10) (T := TX10) (N := 14) hx hb hts hi_X10 hown hS.1 hX.1 0 rfl rfl 2 (by decide) l_fieldLink_26 (fun _ h9 => h9) rfl dX10_sortsOf_7 ?_
      refine va_getN (D := D) (ci := 3) (v := .ref (a 9)) (C := RX3) (T := TX3) (N := 5) hx hb hts hi_X3 hown hS.1 hX.1 7 rfl rfl 4 (by decide) (hS.2.1.get 22 rfl) (fun _ h9 => h9) rfl dX10_sortsOf_10 ?_
      refine va_getN (D := D) (ci := 7) (v := .int ssize) (C := RX7) (T := TX7) (N := 4) hx hb hts hi_X7 hown hS.1 hX.1 9 rfl rfl 0 (by decide) (hS.2.1.get 12 rfl) (fun _ h9 => h9) rfl dX10_sortsOf_13 ?_
      refine lv_icmp_ge (tgt := 97) hx hb dX10_sortsOf_16 (by decide) (fun c16 => ?_) (fun c16 => ?_)
      · have he := he.trans (if_pos c16)
        have d16 := i_le c16
        refine lv_iload_n hx hb dX10_sortsOf_97 rfl (lv_at hl 2 rfl) ?_
        subst he
        exact g_iret hx hb hr hlocks hX hq rfl dX10_sortsOf_98
      · have he := he.trans (if_neg c16)
        have d16 := i_nle c16
        refine lv_aload_n hx hb dX10_sortsOf_19 rfl (lv_at hl 0 rfl) ?_
        refine va_get (D := D) (ci := 10) (v := .ref (a 7)) (C := RX10) (T := TX10) (N := 14) hx hb hts hi_X10 hown hS.1 hX.1 0 rfl rfl 2 (by decide) l_fieldLink_26 (fun _ h9 => h9) rfl dX10_sortsOf_20 ?_
        refine va_getN (D := D) (ci := 3) (v := .ref (a 9)) (C := RX3) (T := TX3) (N := 5) hx hb hts hi_X3 hown hS.1 hX.1 7 rfl rfl 4 (by decide) (hS.2.1.get 22 rfl) (fun _ h9 => h9) rfl dX10_sortsOf_23 ?_
        refine va_getN (D := D) (ci := 7) (v := .ref (a 10)) (C := RX7) (T := TX7) (N := 4) hx hb hts hi_X7 hown hS.1 hX.1 9 rfl rfl 1 (by decide) (hS.2.1.get 13 rfl) (fun _ h9 => h9) rfl dX10_sortsOf_26 ?_
        refine lv_iload_n hx hb dX10_sortsOf_29 rfl (lv_at hl 3 rfl) ?_
        refine va_iald hx hb hS.1 hX.1 10 5 rfl rfl (vp_in_iff.mpr (by omega)) dX10_sortsOf_30 ?_
        refine lv_iload_n hx hb dX10_sortsOf_31 rfl (lv_at hl 1 rfl) ?_
        refine lv_icmp_ne (tgt := 91) hx hb dX10_sortsOf_32 (by decide) (fun c32 => ?_) (fun c32 => ?_)
        · have he := he.trans (if_neg c32)
          have d32 := i_ne c32
          refine lv_iinc (v := (x3_3 + (1 : Int32))) (lv' := [(3, .int (x3_3 + (1 : Int32))), (0, .ref (a 0)), (1, .int p1), (2, .int x2_2)]) hx hb dX10_sortsOf_91 hl (k := 3) rfl rfl (by decide) rfl (fun ls hl => ?_)
          have s91 := i_s1 (x := x3_3) (by omega)
          refine lv_goto (tgt := 5) hx hb dX10_sortsOf_94 (by decide) ?_
          exact ih_L5_1 x2_2 (x3_3 + (1 : Int32)) (by omega) (by omega) he _ _ _ hX (lv_sub hl [1, 2, 3, 0] rfl)
        · have he := he.trans (if_pos c32)
          have d32 := i_eq c32
          refine lv_aload_n hx hb dX10_sortsOf_35 rfl (lv_at hl 0 rfl) ?_
          refine va_get (D := D) (ci := 10) (v := .ref (a 20)) (C := RX10) (T := TX10) (N := 14) hx hb hts hi_X10 hown hS.1 hX.1 0 rfl rfl 5 (by decide) l_fieldLink_47 (fun _ h9 => h9) rfl dX10_sortsOf_36 ?_
          refine lv_aload_n hx hb dX10_sortsOf_39 rfl (lv_at hl 0 rfl) ?_
          refine va_get (D := D) (ci := 10) (v := .ref (a 7)) (C := RX10) (T := TX10) (N := 14) hx hb hts hi_X10 hown hS.1 hX.1 0 rfl rfl 2 (by decide) l_fieldLink_26 (fun _ h9 => h9) rfl dX10_sortsOf_40 ?_
          refine va_getN (D := D) (ci := 3) (v := .ref (a 9)) (C := RX3) (T := TX3) (N := 5) hx hb hts hi_X3 hown hS.1 hX.1 7 rfl rfl 4 (by decide) (hS.2.1.get 22 rfl) (fun _ h9 => h9) rfl dX10_sortsOf_43 ?_
          refine va_getN (D := D) (ci := 7) (v := .ref (a 11)) (C := RX7) (T := TX7) (N := 4) hx hb hts hi_X7 hown hS.1 hX.1 9 rfl rfl 2 (by decide) (hS.2.1.get 14 rfl) (fun _ h9 => h9) rfl dX10_sortsOf_46 ?_
          refine lv_iload_n hx hb dX10_sortsOf_49 rfl (lv_at hl 3 rfl) ?_
          refine va_iald hx hb hS.1 hX.1 11 6 rfl rfl (vp_in_iff.mpr (by omega)) dX10_sortsOf_50 ?_
          refine lv_iload_n hx hb dX10_sortsOf_51 rfl (lv_at hl 1 rfl) ?_
          refine lv_aload_n hx hb dX10_sortsOf_52 rfl (lv_at hl 0 rfl) ?_
          refine va_get (D := D) (ci := 10) (v := .ref (a 7)) (C := RX10) (T := TX10) (N := 14) hx hb hts hi_X10 hown hS.1 hX.1 0 rfl rfl 2 (by decide) l_fieldLink_26 (fun _ h9 => h9) rfl dX10_sortsOf_53 ?_
          refine va_getN (D := D) (ci := 3) (v := .int standing) (C := RX3) (T := TX3) (N := 5) hx hb hts hi_X3 hown hS.1 hX.1 7 rfl rfl 1 (by decide) (hS.2.1.get 19 rfl) (fun _ h9 => h9) rfl dX10_sortsOf_56 ?_
          have g50 := hsb (x3_3).toNatClampNeg (i_clamp (by omega) (by omega))
          obtain ⟨r_4, e59⟩ : ∃ z, z = (f_X4_winningKinds won (sbeginners (x3_3).toNatClampNeg) p1 standing) := ⟨_, rfl⟩
          rw [← e59] at he
          refine g_Vi (r := r_4) (As := [.int (sbeginners (x3_3).toNatClampNeg), .int p1, .int standing]) (rest := []) (ci := 4) (q0 := 20) ⟨hx, hb, hml, hown, hts⟩ hS hX (k_X4_winningKinds (sbeginners (x3_3).toNatClampNeg) p1 standing (by omega) (by omega) r_4 e59) (cwV 3 hts gX10_sortsOf_X4_winningKinds rfl rfl rfl (by decide +kernel) ⟨Nat.le_of_ble_eq_true rfl, Nat.le_of_ble_eq_true rfl⟩) rfl rfl rfl hl.1 rfl (Nat.le_of_ble_eq_true rfl) dX10_sortsOf_59 ⟨Nat.zero_le _, Nat.zero_le _⟩ (fun H locs hX => ?_)
          refine lv_istore (lv' := [(4, .int r_4), (0, .ref (a 0)), (1, .int p1), (2, .int x2_2), (3, .int x3_3)]) hx hb dX10_sortsOf_62 hl (by decide) rfl (fun ls hl => ?_)
          refine lv_iload_n hx hb dX10_sortsOf_64 rfl (lv_at hl 3 rfl) ?_
          refine lv_aload_n hx hb dX10_sortsOf_65 rfl (lv_at hl 1 rfl) ?_
          refine va_get (D := D) (ci := 10) (v := .ref (a 7)) (C := RX10) (T := TX10) (N := 14) hx hb hts hi_X10 hown hS.1 hX.1 0 rfl rfl 2 (by decide) l_fieldLink_26 (fun _ h9 => h9) rfl dX10_sortsOf_66 ?_
          refine va_getN (D := D) (ci := 3) (v := .ref (a 9)) (C := RX3) (T := TX3) (N := 5) hx hb hts hi_X3 hown hS.1 hX.1 7 rfl rfl 4 (by decide) (hS.2.1.get 22 rfl) (fun _ h9 => h9) rfl dX10_sortsOf_69 ?_
          refine va_getN (D := D) (ci := 7) (v := .ref (a 12)) (C := RX7) (T := TX7) (N := 4) hx hb hts hi_X7 hown hS.1 hX.1 9 rfl rfl 3 (by decide) (hS.2.1.get 15 rfl) (fun _ h9 => h9) rfl dX10_sortsOf_72 ?_
          refine lv_iload_n hx hb dX10_sortsOf_75 rfl (lv_at hl 4 rfl) ?_
          refine va_zald hx hb hS.1 hX.1 12 7 rfl rfl (vp_in_iff.mpr (by omega)) dX10_sortsOf_76 ?_
          refine lv_if_eq (tgt := 85) hx hb dX10_sortsOf_77 (by decide) (fun c77 => ?_) (fun c77 => ?_)
          · have he := he.trans (if_pos c77)
            have d77 := i_eq c77
            refine lv_iload hx hb dX10_sortsOf_85 (lv_at hl 0 rfl) ?_
            refine lv_iconst (v := (-1 : Int32)) hx hb dX10_sortsOf_87 (by decide) ?_
            refine lv_ixor hx hb dX10_sortsOf_88 ?_
            refine lv_iand hx hb dX10_sortsOf_89 ?_
            refine lv_istore_n (lv' := [(2, .int (x2_2 &&& (r_4 ^^^ (-1 : Int32)))), (4, .int r_4), (0, .ref (a 0)), (1, .int p1), (3, .int x3_3)]) hx hb dX10_sortsOf_90 rfl hl (by decide) rfl (fun ls hl => ?_)
            refine lv_iinc (v := (x3_3 + (1 : Int32))) (lv' := [(3, .int (x3_3 + (1 : Int32))), (2, .int (x2_2 &&& (r_4 ^^^ (-1 : Int32)))), (4, .int r_4), (0, .ref (a 0)), (1, .int p1)]) hx hb dX10_sortsOf_91 hl (k := 4) rfl rfl (by decide) rfl (fun ls hl => ?_)
            have s91 := i_s1 (x := x3_3) (by omega)
            refine lv_goto (tgt := 5) hx hb dX10_sortsOf_94 (by decide) ?_
            exact ih_L5_1 (x2_2 &&& (r_4 ^^^ (-1 : Int32))) (x3_3 + (1 : Int32)) (by omega) (by omega) he _ _ _ hX (lv_sub hl [3, 4, 1, 0] rfl)
          · have he := he.trans (if_neg c77)
            have d77 := i_ne c77
            refine lv_iload hx hb dX10_sortsOf_80 (lv_at hl 0 rfl) ?_
            refine lv_goto (tgt := 89) hx hb dX10_sortsOf_82 (by decide) ?_
            refine lv_iand hx hb dX10_sortsOf_89 ?_
            refine lv_istore_n (lv' := [(2, .int (x2_2 &&& r_4)), (4, .int r_4), (0, .ref (a 0)), (1, .int p1), (3, .int x3_3)]) hx hb dX10_sortsOf_90 rfl hl (by decide) rfl (fun ls hl => ?_)
            refine lv_iinc (v := (x3_3 + (1 : Int32))) (lv' := [(3, .int (x3_3 + (1 : Int32))), (2, .int (x2_2 &&& r_4)), (4, .int r_4), (0, .ref (a 0)), (1, .int p1)]) hx hb dX10_sortsOf_91 hl (k := 4) rfl rfl (by decide) rfl (fun ls hl => ?_)
            have s91 := i_s1 (x := x3_3) (by omega)
            refine lv_goto (tgt := 5) hx hb dX10_sortsOf_94 (by decide) ?_
            exact ih_L5_1 (x2_2 &&& r_4) (x3_3 + (1 : Int32)) (by omega) (by omega) he _ _ _ hX (lv_sub hl [3, 4, 1, 0] rfl)
  exact L5_1 7 (31 : Int32) (0 : Int32) (by omega) (by omega) he _ _ _ hX (lv_sub hl [2, 3, 1, 0] rfl)
abbrev rm_X10_whomToLetBegin : Room := { frames := 3, cells := 0, slots := 0, locals := 68 }
set_option maxHeartbeats 4000000 in
set_option maxRecDepth 100000 in
theorem k_X10_whomToLetBegin {l : Launch} {D : va_G} {E : sE} {a : Nat → Nat} {cA : Nat → ClassId} {isCharted : Int32} {isKept : Int32} {hedgesRead : Int32} {evensDone : Int32} {plen : Int32} {number : Int32} {setCount : Int32} {standing : Int32} {turn : Int32} {cuts : Int32} {ssize : Int32} {kstanding : Int32} {kturn : Int32} {kcuts : Int32} {kssize : Int32} {seed : Int32} {whiteWon : Int32} {cutsDone : Int32} {lett : Nat → Int32} {onB : Nat → Int32} {abv : Nat → Int32} {sets : Nat → Int32} {kinds : Nat → Int32} {sbranches : Nat → Int32} {sbeginners : Nat → Int32} {swon : Nat → Int32} {kkinds : Nat → Int32} {ksbranches : Nat → Int32} {ksbeginners : Nat → Int32} {kswon : Nat → Int32} {lcuts : Nat → Int32} {valu : Nat → Int32} {won : Nat → Int64} {chance : Nat → Int64} (p1 : Int32) (hnm : 0 ≤ (number).toInt ∧ (number).toInt ≤ 8) (hsd : 0 ≤ (standing).toInt ∧ (standing).toInt < 256) (hsz : 0 ≤ (ssize).toInt ∧ (ssize).toInt ≤ 6) (hsb : ∀ k : Nat, (k : Int) < (ssize).toInt → 0 ≤ (sbeginners k).toInt ∧ (sbeginners k).toInt ≤ 1) : ∀ q : Int32, q = f_X10_whomToLetBegin standing ssize sbranches sbeginners swon won p1 → gMi l yX10_whomToLetBegin wsX10_whomToLetBegin rm_X10_whomToLetBegin D E (tG cA) [.ref (a 0), .int p1] (wG a cA isCharted isKept hedgesRead evensDone plen number setCount standing turn cuts ssize kstanding kturn kcuts kssize seed whiteWon cutsDone lett onB abv sets kinds sbranches sbeginners swon kkinds ksbranches ksbeginners kswon lcuts valu won chance) (wG a cA isCharted isKept hedgesRead evensDone plen number setCount standing turn cuts ssize kstanding kturn kcuts kssize seed whiteWon cutsDone lett onB abv sets kinds sbranches sbeginners swon kkinds ksbranches ksbeginners kswon lcuts valu won chance) q := by
  intro q he0
  refine gM_of (cc := cX10_whomToLetBegin) (maxL := 5) (ret := (some .int)) (Qf := gQi D (wG a cA isCharted isKept hedgesRead evensDone plen number setCount standing turn cuts ssize kstanding kturn kcuts kssize seed whiteWon cutsDone lett onB abv sets kinds sbranches sbeginners swon kkinds ksbranches ksbeginners kswon lcuts valu won chance) q) (by decide) rfl (Nat.le_of_ble_eq_true rfl) ?_
  intro p e s m args below meth c Z ls Qz hx hb hr hml hlocks hown hts hS hX hl hq
  have he := he0.trans f_X10_whomToLetBegin_s
  have hown : s.vm.findClass RX10 = some m.cls := hown
  have hl : lv_has ls 5 [(0, .ref (a 0)), (1, .int p1)] := hl
  have hi_X10 : ∀ w ∈ u_ws RX10 TX10 14, w ∈ wsX10_whomToLetBegin := fun _ h => List.mem_cons_of_mem _ (List.mem_append_left _ (List.mem_append_left _ (List.mem_append_left _ (List.mem_append_right _ h))))
  have hi_X3 : ∀ w ∈ u_ws RX3 TX3 5, w ∈ wsX10_whomToLetBegin := fun _ h => List.mem_cons_of_mem _ (List.mem_append_left _ (List.mem_append_left _ (List.mem_append_right _ h)))
  have l_fieldLink_26 := hts (Cond.fieldLink RX10 26 "HedgeGame" "now" "LHedgeGame$Moment;") (List.mem_of_getElem? (i := 2) rfl)
  have l_fieldLink_47 := hts (Cond.fieldLink RX10 47 "HedgeGame" "outcomes" "LHedgeGame$Outcomes;") (List.mem_of_getElem? (i := 1) rfl)
  have tm1 : ((-1 : Int32)).toInt = -1 := rfl
  have t0 : ((0 : Int32)).toInt = 0 := rfl
  have t1 : ((1 : Int32)).toInt = 1 := rfl
  refine lv_aload_n hx hb dX10_whomToLetBegin_0 rfl (lv_at hl 0 rfl) ?_
  refine lv_iload_n hx hb dX10_whomToLetBegin_1 rfl (lv_at hl 1 rfl) ?_
  obtain ⟨r_1, e2⟩ : ∃ z, z = (f_X10_sortsOf standing ssize sbranches sbeginners swon won p1) := ⟨_, rfl⟩
  rw [← e2] at he
  refine g_Vi (r := r_1) (As := [.int p1]) (rest := []) (ci := 10) (q0 := 0) ⟨hx, hb, hml, hown, hts⟩ hS hX (k_X10_sortsOf p1 (by omega) (by omega) (by omega) (by assumption) r_1 e2) (cwV 1 hts gX10_whomToLetBegin_X10_sortsOf rfl rfl rfl (by decide +kernel) ⟨Nat.le_of_ble_eq_true rfl, Nat.le_of_ble_eq_true rfl⟩) rfl rfl rfl hl.1 rfl (Nat.le_of_ble_eq_true rfl) dX10_whomToLetBegin_2 ⟨Nat.zero_le _, Nat.zero_le _⟩ (fun H locs hX => ?_)
  refine lv_istore_n (lv' := [(2, .int r_1), (0, .ref (a 0)), (1, .int p1)]) hx hb dX10_whomToLetBegin_5 rfl hl (by decide) rfl (fun ls hl => ?_)
  refine lv_iload_n hx hb dX10_whomToLetBegin_6 rfl (lv_at hl 0 rfl) ?_
  refine lv_if_ne (tgt := 12) hx hb dX10_whomToLetBegin_7 (by decide) (fun c7 => ?_) (fun c7 => ?_)
  · have he := he.trans (if_neg c7)
    have d7 := i_ne c7
    refine lv_iload_n hx hb dX10_whomToLetBegin_12 rfl (lv_at hl 0 rfl) ?_
    refine lv_aload_n hx hb dX10_whomToLetBegin_13 rfl (lv_at hl 1 rfl) ?_
    refine va_get (D := D) (ci := 10) (v := .ref (a 20)) (C := RX10) (T := TX10) (N := 14) hx hb hts hi_X10 hown hS.1 hX.1 0 rfl rfl 5 (by decide) l_fieldLink_47 (fun _ h9 => h9) rfl dX10_whomToLetBegin_14 ?_
    refine lv_iconst (v := (0 : Int32)) hx hb dX10_whomToLetBegin_17 (by decide) ?_
    refine lv_iload_n hx hb dX10_whomToLetBegin_18 rfl (lv_at hl 2 rfl) ?_
    refine lv_aload_n hx hb dX10_whomToLetBegin_19 rfl (lv_at hl 1 rfl) ?_
    refine va_get (D := D) (ci := 10) (v := .ref (a 7)) (C := RX10) (T := TX10) (N := 14) hx hb hts hi_X10 hown hS.1 hX.1 0 rfl rfl 2 (by decide) l_fieldLink_26 (fun _ h9 => h9) rfl dX10_whomToLetBegin_20 ?_
    refine va_getN (D := D) (ci := 3) (v := .int standing) (C := RX3) (T := TX3) (N := 5) hx hb hts hi_X3 hown hS.1 hX.1 7 rfl rfl 1 (by decide) (hS.2.1.get 19 rfl) (fun _ h9 => h9) rfl dX10_whomToLetBegin_23 ?_
    obtain ⟨r_2, e26⟩ : ∃ z, z = (f_X4_winningKinds won (0 : Int32) p1 standing) := ⟨_, rfl⟩
    rw [← e26] at he
    refine g_Vi (r := r_2) (As := [.int (0 : Int32), .int p1, .int standing]) (rest := [.int r_1]) (ci := 4) (q0 := 20) ⟨hx, hb, hml, hown, hts⟩ hS hX (k_X4_winningKinds (0 : Int32) p1 standing (by omega) (by omega) r_2 e26) (cwV 3 hts gX10_whomToLetBegin_X4_winningKinds rfl rfl rfl (by decide +kernel) ⟨Nat.le_of_ble_eq_true rfl, Nat.le_of_ble_eq_true rfl⟩) rfl rfl rfl hl.1 rfl (Nat.le_of_ble_eq_true rfl) dX10_whomToLetBegin_26 ⟨Nat.zero_le _, Nat.zero_le _⟩ (fun H locs hX => ?_)
    obtain ⟨r_3, e29⟩ : ∃ z, z = (f_X10_mostLeft r_1 r_2) := ⟨_, rfl⟩
    rw [← e29] at he
    refine g_Si (r := r_3) (As := [.int r_1, .int r_2]) (rest := []) ⟨hx, hb, hml, hown, hts⟩ hS hX (k_X10_mostLeft r_1 r_2 r_3 e29) (va_cwS 2 hts gX10_whomToLetBegin_X10_mostLeft rfl rfl rfl (by decide +kernel) ⟨Nat.le_of_ble_eq_true rfl, Nat.le_of_ble_eq_true rfl⟩) rfl hl.1 rfl (Nat.le_of_ble_eq_true rfl) dX10_whomToLetBegin_29 ⟨Nat.zero_le _, Nat.zero_le _⟩ (fun H locs hX => ?_)
    refine lv_istore_n (lv' := [(3, .int r_3), (2, .int r_1), (0, .ref (a 0)), (1, .int p1)]) hx hb dX10_whomToLetBegin_32 rfl hl (by decide) rfl (fun ls hl => ?_)
    refine lv_iload_n hx hb dX10_whomToLetBegin_33 rfl (lv_at hl 1 rfl) ?_
    refine lv_aload_n hx hb dX10_whomToLetBegin_34 rfl (lv_at hl 2 rfl) ?_
    refine va_get (D := D) (ci := 10) (v := .ref (a 20)) (C := RX10) (T := TX10) (N := 14) hx hb hts hi_X10 hown hS.1 hX.1 0 rfl rfl 5 (by decide) l_fieldLink_47 (fun _ h9 => h9) rfl dX10_whomToLetBegin_35 ?_
    refine lv_iconst (v := (1 : Int32)) hx hb dX10_whomToLetBegin_38 (by decide) ?_
    refine lv_iload_n hx hb dX10_whomToLetBegin_39 rfl (lv_at hl 3 rfl) ?_
    refine lv_aload_n hx hb dX10_whomToLetBegin_40 rfl (lv_at hl 2 rfl) ?_
    refine va_get (D := D) (ci := 10) (v := .ref (a 7)) (C := RX10) (T := TX10) (N := 14) hx hb hts hi_X10 hown hS.1 hX.1 0 rfl rfl 2 (by decide) l_fieldLink_26 (fun _ h9 => h9) rfl dX10_whomToLetBegin_41 ?_
    refine va_getN (D := D) (ci := 3) (v := .int standing) (C := RX3) (T := TX3) (N := 5) hx hb hts hi_X3 hown hS.1 hX.1 7 rfl rfl 1 (by decide) (hS.2.1.get 19 rfl) (fun _ h9 => h9) rfl dX10_whomToLetBegin_44 ?_
    obtain ⟨r_4, e47⟩ : ∃ z, z = (f_X4_winningKinds won (1 : Int32) p1 standing) := ⟨_, rfl⟩
    rw [← e47] at he
    refine g_Vi (r := r_4) (As := [.int (1 : Int32), .int p1, .int standing]) (rest := [.int r_1]) (ci := 4) (q0 := 20) ⟨hx, hb, hml, hown, hts⟩ hS hX (k_X4_winningKinds (1 : Int32) p1 standing (by omega) (by omega) r_4 e47) (cwV 3 hts gX10_whomToLetBegin_X4_winningKinds rfl rfl rfl (by decide +kernel) ⟨Nat.le_of_ble_eq_true rfl, Nat.le_of_ble_eq_true rfl⟩) rfl rfl rfl hl.1 rfl (Nat.le_of_ble_eq_true rfl) dX10_whomToLetBegin_47 ⟨Nat.zero_le _, Nat.zero_le _⟩ (fun H locs hX => ?_)
    obtain ⟨r_5, e50⟩ : ∃ z, z = (f_X10_mostLeft r_1 r_4) := ⟨_, rfl⟩
    rw [← e50] at he
    refine g_Si (r := r_5) (As := [.int r_1, .int r_4]) (rest := []) ⟨hx, hb, hml, hown, hts⟩ hS hX (k_X10_mostLeft r_1 r_4 r_5 e50) (va_cwS 2 hts gX10_whomToLetBegin_X10_mostLeft rfl rfl rfl (by decide +kernel) ⟨Nat.le_of_ble_eq_true rfl, Nat.le_of_ble_eq_true rfl⟩) rfl hl.1 rfl (Nat.le_of_ble_eq_true rfl) dX10_whomToLetBegin_50 ⟨Nat.zero_le _, Nat.zero_le _⟩ (fun H locs hX => ?_)
    refine lv_istore (lv' := [(4, .int r_5), (3, .int r_3), (2, .int r_1), (0, .ref (a 0)), (1, .int p1)]) hx hb dX10_whomToLetBegin_53 hl (by decide) rfl (fun ls hl => ?_)
    refine lv_iload hx hb dX10_whomToLetBegin_55 (lv_at hl 0 rfl) ?_
    refine lv_iload_n hx hb dX10_whomToLetBegin_57 rfl (lv_at hl 1 rfl) ?_
    refine lv_icmp_ge (tgt := 65) hx hb dX10_whomToLetBegin_58 (by decide) (fun c58 => ?_) (fun c58 => ?_)
    · have he := he.trans (if_pos c58)
      have d58 := i_le c58
      refine lv_iconst (v := (0 : Int32)) hx hb dX10_whomToLetBegin_65 (by decide) ?_
      subst he
      exact g_iret hx hb hr hlocks hX hq rfl dX10_whomToLetBegin_66
    · have he := he.trans (if_neg c58)
      have d58 := i_nle c58
      refine lv_iconst (v := (1 : Int32)) hx hb dX10_whomToLetBegin_61 (by decide) ?_
      refine lv_goto (tgt := 66) hx hb dX10_whomToLetBegin_62 (by decide) ?_
      subst he
      exact g_iret hx hb hr hlocks hX hq rfl dX10_whomToLetBegin_66
  · have he := he.trans (if_pos c7)
    have d7 := i_eq c7
    refine lv_iconst (v := (-1 : Int32)) hx hb dX10_whomToLetBegin_10 (by decide) ?_
    subst he
    exact g_iret hx hb hr hlocks hX hq rfl dX10_whomToLetBegin_11
abbrev rm_X10_evenBy : Room := { frames := 2, cells := 0, slots := 0, locals := 44 }
set_option maxHeartbeats 4000000 in
set_option maxRecDepth 100000 in
theorem k_X10_evenBy {l : Launch} {D : va_G} {E : sE} {a : Nat → Nat} {cA : Nat → ClassId} {isCharted : Int32} {isKept : Int32} {hedgesRead : Int32} {evensDone : Int32} {plen : Int32} {number : Int32} {setCount : Int32} {standing : Int32} {turn : Int32} {cuts : Int32} {ssize : Int32} {kstanding : Int32} {kturn : Int32} {kcuts : Int32} {kssize : Int32} {seed : Int32} {whiteWon : Int32} {cutsDone : Int32} {lett : Nat → Int32} {onB : Nat → Int32} {abv : Nat → Int32} {sets : Nat → Int32} {kinds : Nat → Int32} {sbranches : Nat → Int32} {sbeginners : Nat → Int32} {swon : Nat → Int32} {kkinds : Nat → Int32} {ksbranches : Nat → Int32} {ksbeginners : Nat → Int32} {kswon : Nat → Int32} {lcuts : Nat → Int32} {valu : Nat → Int32} {won : Nat → Int64} {chance : Nat → Int64}  (hnm : 0 ≤ (number).toInt ∧ (number).toInt ≤ 8) (hsd : 0 ≤ (standing).toInt ∧ (standing).toInt < 256) : ∀ q : Int32, q = f_X10_evenBy number standing won → gMi l yX10_evenBy wsX10_evenBy rm_X10_evenBy D E (tG cA) [.ref (a 0)] (wG a cA isCharted isKept hedgesRead evensDone plen number setCount standing turn cuts ssize kstanding kturn kcuts kssize seed whiteWon cutsDone lett onB abv sets kinds sbranches sbeginners swon kkinds ksbranches ksbeginners kswon lcuts valu won chance) (wG a cA isCharted isKept hedgesRead evensDone plen number setCount standing turn cuts ssize kstanding kturn kcuts kssize seed whiteWon cutsDone lett onB abv sets kinds sbranches sbeginners swon kkinds ksbranches ksbeginners kswon lcuts valu won chance) q := by
  intro q he0
  refine gM_of (cc := cX10_evenBy) (maxL := 5) (ret := (some .int)) (Qf := gQi D (wG a cA isCharted isKept hedgesRead evensDone plen number setCount standing turn cuts ssize kstanding kturn kcuts kssize seed whiteWon cutsDone lett onB abv sets kinds sbranches sbeginners swon kkinds ksbranches ksbeginners kswon lcuts valu won chance) q) (by decide) rfl (Nat.le_of_ble_eq_true rfl) ?_
  intro p e s m args below meth c Z ls Qz hx hb hr hml hlocks hown hts hS hX hl hq
  have he := he0.trans f_X10_evenBy_s
  have hown : s.vm.findClass RX10 = some m.cls := hown
  have hl : lv_has ls 5 [(0, .ref (a 0))] := hl
  have hi_X10 : ∀ w ∈ u_ws RX10 TX10 14, w ∈ wsX10_evenBy := fun _ h => List.mem_cons_of_mem _ (List.mem_append_left _ (List.mem_append_left _ (List.mem_append_left _ (List.mem_append_right _ h))))
  have hi_X3 : ∀ w ∈ u_ws RX3 TX3 5, w ∈ wsX10_evenBy := fun _ h => List.mem_cons_of_mem _ (List.mem_append_left _ (List.mem_append_left _ (List.mem_append_right _ h)))
  have hi_X8 : ∀ w ∈ u_ws RX8 TX8 5, w ∈ wsX10_evenBy := fun _ h => List.mem_cons_of_mem _ (List.mem_append_left _ (List.mem_append_right _ h))
  have l_fieldLink_19 := hts (Cond.fieldLink RX10 19 "HedgeGame" "shape" "LHedgeGame$Shape;") (List.mem_of_getElem? (i := 3) rfl)
  have l_fieldLink_26 := hts (Cond.fieldLink RX10 26 "HedgeGame" "now" "LHedgeGame$Moment;") (List.mem_of_getElem? (i := 1) rfl)
  have l_fieldLink_47 := hts (Cond.fieldLink RX10 47 "HedgeGame" "outcomes" "LHedgeGame$Outcomes;") (List.mem_of_getElem? (i := 2) rfl)
  have tm2 : ((-2 : Int32)).toInt = -2 := rfl
  have tm1 : ((-1 : Int32)).toInt = -1 := rfl
  have t0 : ((0 : Int32)).toInt = 0 := rfl
  have t1 : ((1 : Int32)).toInt = 1 := rfl
  have t5 : ((5 : Int32)).toInt = 5 := rfl
  have t10 : ((10 : Int32)).toInt = 10 := rfl
  refine lv_aload_n hx hb dX10_evenBy_0 rfl (lv_at hl 0 rfl) ?_
  refine va_get (D := D) (ci := 10) (v := .ref (a 7)) (C := RX10) (T := TX10) (N := 14) hx hb hts hi_X10 hown hS.1 hX.1 0 rfl rfl 2 (by decide) l_fieldLink_26 (fun _ h9 => h9) rfl dX10_evenBy_1 ?_
  refine va_getN (D := D) (ci := 3) (v := .int standing) (C := RX3) (T := TX3) (N := 5) hx hb hts hi_X3 hown hS.1 hX.1 7 rfl rfl 1 (by decide) (hS.2.1.get 19 rfl) (fun _ h9 => h9) rfl dX10_evenBy_4 ?_
  refine lv_istore_n (lv' := [(1, .int standing), (0, .ref (a 0))]) hx hb dX10_evenBy_7 rfl hl (by decide) rfl (fun ls hl => ?_)
  refine lv_aload_n hx hb dX10_evenBy_8 rfl (lv_at hl 1 rfl) ?_
  refine va_get (D := D) (ci := 10) (v := .ref (a 20)) (C := RX10) (T := TX10) (N := 14) hx hb hts hi_X10 hown hS.1 hX.1 0 rfl rfl 5 (by decide) l_fieldLink_47 (fun _ h9 => h9) rfl dX10_evenBy_9 ?_
  refine lv_iconst (v := (0 : Int32)) hx hb dX10_evenBy_12 (by decide) ?_
  refine lv_iload_n hx hb dX10_evenBy_13 rfl (lv_at hl 0 rfl) ?_
  obtain ⟨r_1, e14⟩ : ∃ z, z = (f_X4_isWonBy won (0 : Int32) standing) := ⟨_, rfl⟩
  rw [← e14] at he
  refine g_Vi (r := r_1) (As := [.int (0 : Int32), .int standing]) (rest := []) (ci := 4) (q0 := 20) ⟨hx, hb, hml, hown, hts⟩ hS hX (k_X4_isWonBy (0 : Int32) standing (by omega) (by omega) r_1 e14) (cwV 2 hts gX10_evenBy_X4_isWonBy rfl rfl rfl (by decide +kernel) ⟨Nat.le_of_ble_eq_true rfl, Nat.le_of_ble_eq_true rfl⟩) rfl rfl rfl hl.1 rfl (Nat.le_of_ble_eq_true rfl) dX10_evenBy_14 ⟨Nat.zero_le _, Nat.zero_le _⟩ (fun H locs hX => ?_)
  refine lv_if_ne (tgt := 35) hx hb dX10_evenBy_17 (by decide) (fun c17 => ?_) (fun c17 => ?_)
  · have he := he.trans (if_neg c17)
    have d17 := i_ne c17
    refine lv_iconst (v := (0 : Int32)) hx hb dX10_evenBy_35 (by decide) ?_
    refine lv_istore_n (lv' := [(2, .int (0 : Int32)), (1, .int standing), (0, .ref (a 0))]) hx hb dX10_evenBy_36 rfl hl (by decide) rfl (fun ls hl => ?_)
    have L37_2 : ∀ (n_37_2 : Nat) (x2_3 : Int32), 0 ≤ (x2_3).toInt ∧ (x2_3).toInt ≤ 8 → 8 - (x2_3).toInt < (n_37_2 : Int) → q = f_X10_evenBy_L37 n_37_2 number standing won standing x2_3 → ∀ (H : Heap) (locs : List Loc) (ls : Array Slot), gX D Z s (wG a cA isCharted isKept hedgesRead evensDone plen number setCount standing turn cuts ssize kstanding kturn kcuts kssize seed whiteWon cutsDone lett onB abv sets kinds sbranches sbeginners swon kkinds ksbranches ksbeginners kswon lcuts valu won chance) H locs → lv_has ls 5 [(0, .ref (a 0)), (1, .int standing), (2, .int x2_3)] → W p l e rm_X10_evenBy s m args below meth c H locs 0 0 Qz (F0 m 37 ls []) := by
      intro n_37_2
      induction n_37_2 with
      | zero =>
        intro x2_3 ia ifu _ _ _ _ _ _
        exfalso; omega
      | succ n_37_2 ih_L37_2 =>
        intro x2_3 ia ifu he H locs ls hX hl
        have he := he.trans f_X10_evenBy_L37_s
        refine lv_iload_n hx hb dX10_evenBy_37 rfl (lv_at hl 2 rfl) ?_
        refine lv_aload_n hx hb dX10_evenBy_38 rfl (lv_at hl 0 rfl) ?_
        refine va_get (D := D) (ci := 10) (v := .ref (a 3)) (C := RX10) (T := TX10) (N := 14) hx hb hts hi_X10 hown hS.1 hX.1 0 rfl rfl 1 (by decide) l_fieldLink_19 (fun _ h9 => h9) rfl dX10_evenBy_39 ?_
        refine va_getN (D := D) (ci := 8) (v := .int number) (C := RX8) (T := TX8) (N := 5) hx hb hts hi_X8 hown hS.1 hX.1 3 rfl rfl 0 (by decide) (hS.2.1.get 5 rfl) (fun _ h9 => h9) rfl dX10_evenBy_42 ?_
        refine lv_icmp_ge (tgt := 108) hx hb dX10_evenBy_45 (by decide) (fun c45 => ?_) (fun c45 => ?_)
        · have he := he.trans (if_pos c45)
          have d45 := i_le c45
          refine lv_iconst (v := (-1 : Int32)) hx hb dX10_evenBy_108 (by decide) ?_
          subst he
          exact g_iret hx hb hr hlocks hX hq rfl dX10_evenBy_109
        · have he := he.trans (if_neg c45)
          have d45 := i_nle c45
          refine lv_aload_n hx hb dX10_evenBy_48 rfl (lv_at hl 0 rfl) ?_
          refine va_get (D := D) (ci := 10) (v := .ref (a 20)) (C := RX10) (T := TX10) (N := 14) hx hb hts hi_X10 hown hS.1 hX.1 0 rfl rfl 5 (by decide) l_fieldLink_47 (fun _ h9 => h9) rfl dX10_evenBy_49 ?_
          refine lv_iconst (v := (0 : Int32)) hx hb dX10_evenBy_52 (by decide) ?_
          refine lv_iload_n hx hb dX10_evenBy_53 rfl (lv_at hl 2 rfl) ?_
          refine lv_iload_n hx hb dX10_evenBy_54 rfl (lv_at hl 1 rfl) ?_
          obtain ⟨r_4, e55⟩ : ∃ z, z = (f_X4_winningKinds won (0 : Int32) x2_3 standing) := ⟨_, rfl⟩
          rw [← e55] at he
          refine g_Vi (r := r_4) (As := [.int (0 : Int32), .int x2_3, .int standing]) (rest := []) (ci := 4) (q0 := 20) ⟨hx, hb, hml, hown, hts⟩ hS hX (k_X4_winningKinds (0 : Int32) x2_3 standing (by omega) (by omega) r_4 e55) (cwV 3 hts gX10_evenBy_X4_winningKinds rfl rfl rfl (by decide +kernel) ⟨Nat.le_of_ble_eq_true rfl, Nat.le_of_ble_eq_true rfl⟩) rfl rfl rfl hl.1 rfl (Nat.le_of_ble_eq_true rfl) dX10_evenBy_55 ⟨Nat.zero_le _, Nat.zero_le _⟩ (fun H locs hX => ?_)
          refine lv_aload_n hx hb dX10_evenBy_58 rfl (lv_at hl 0 rfl) ?_
          refine va_get (D := D) (ci := 10) (v := .ref (a 20)) (C := RX10) (T := TX10) (N := 14) hx hb hts hi_X10 hown hS.1 hX.1 0 rfl rfl 5 (by decide) l_fieldLink_47 (fun _ h9 => h9) rfl dX10_evenBy_59 ?_
          refine lv_iconst (v := (1 : Int32)) hx hb dX10_evenBy_62 (by decide) ?_
          refine lv_iload_n hx hb dX10_evenBy_63 rfl (lv_at hl 2 rfl) ?_
          refine lv_iload_n hx hb dX10_evenBy_64 rfl (lv_at hl 1 rfl) ?_
          obtain ⟨r_5, e65⟩ : ∃ z, z = (f_X4_winningKinds won (1 : Int32) x2_3 standing) := ⟨_, rfl⟩
          rw [← e65] at he
          refine g_Vi (r := r_5) (As := [.int (1 : Int32), .int x2_3, .int standing]) (rest := [.int r_4]) (ci := 4) (q0 := 20) ⟨hx, hb, hml, hown, hts⟩ hS hX (k_X4_winningKinds (1 : Int32) x2_3 standing (by omega) (by omega) r_5 e65) (cwV 3 hts gX10_evenBy_X4_winningKinds rfl rfl rfl (by decide +kernel) ⟨Nat.le_of_ble_eq_true rfl, Nat.le_of_ble_eq_true rfl⟩) rfl rfl rfl hl.1 rfl (Nat.le_of_ble_eq_true rfl) dX10_evenBy_65 ⟨Nat.zero_le _, Nat.zero_le _⟩ (fun H locs hX => ?_)
          refine lv_ior hx hb dX10_evenBy_68 ?_
          refine lv_istore_n (lv' := [(3, .int (r_4 ||| r_5)), (0, .ref (a 0)), (1, .int standing), (2, .int x2_3)]) hx hb dX10_evenBy_69 rfl hl (by decide) rfl (fun ls hl => ?_)
          refine lv_iconst (v := (0 : Int32)) hx hb dX10_evenBy_70 (by decide) ?_
          refine lv_istore (lv' := [(4, .int (0 : Int32)), (3, .int (r_4 ||| r_5)), (0, .ref (a 0)), (1, .int standing), (2, .int x2_3)]) hx hb dX10_evenBy_71 hl (by decide) rfl (fun ls hl => ?_)
          have L73_6 : ∀ (kk_L73_6 : (Int32) → Int32), (∀ (x4_8 : Int32), q = kk_L73_6 x4_8 → ∀ (H : Heap) (locs : List Loc) (ls : Array Slot), gX D Z s (wG a cA isCharted isKept hedgesRead evensDone plen number setCount standing turn cuts ssize kstanding kturn kcuts kssize seed whiteWon cutsDone lett onB abv sets kinds sbranches sbeginners swon kkinds ksbranches ksbeginners kswon lcuts valu won chance) H locs → lv_has ls 5 [(0, .ref (a 0)), (1, .int standing), (2, .int x2_3), (3, .int (r_4 ||| r_5)), (4, .int x4_8)] → W p l e rm_X10_evenBy s m args below meth c H locs 0 0 Qz (F0 m 102 ls [])) → ∀ (n_73_6 : Nat) (x4_7 : Int32), 0 ≤ (x4_7).toInt ∧ (x4_7).toInt ≤ 5 → 5 - (x4_7).toInt < (n_73_6 : Int) → q = f_X10_evenBy_L73 kk_L73_6 n_73_6 number standing won standing x2_3 (r_4 ||| r_5) x4_7 → ∀ (H : Heap) (locs : List Loc) (ls : Array Slot), gX D Z s (wG a cA isCharted isKept hedgesRead evensDone plen number setCount standing turn cuts ssize kstanding kturn kcuts kssize seed whiteWon cutsDone lett onB abv sets kinds sbranches sbeginners swon kkinds ksbranches ksbeginners kswon lcuts valu won chance) H locs → lv_has ls 5 [(0, .ref (a 0)), (1, .int standing), (2, .int x2_3), (3, .int (r_4 ||| r_5)), (4, .int x4_7)] → W p l e rm_X10_evenBy s m args below meth c H locs 0 0 Qz (F0 m 73 ls []) := by
            intro kk_L73_6 hk_L73_6
            intro n_73_6
            induction n_73_6 with
            | zero =>
              intro x4_7 iai ifui _ _ _ _ _ _
              exfalso; omega
            | succ n_73_6 ih_L73_6 =>
              intro x4_7 iai ifui he H locs ls hX hl
              have he := he.trans f_X10_evenBy_L73_s
              refine lv_iload hx hb dX10_evenBy_73 (lv_at hl 4 rfl) ?_
              refine lv_iconst (v := (5 : Int32)) hx hb dX10_evenBy_75 (by decide) ?_
              refine lv_icmp_ge (tgt := 102) hx hb dX10_evenBy_76 (by decide) (fun c76 => ?_) (fun c76 => ?_)
              · have he := he.trans (if_pos c76)
                have d76 := i_le c76
                exact hk_L73_6 x4_7 he _ _ _ hX (lv_sub hl [0, 1, 2, 3, 4] rfl)
              · have he := he.trans (if_neg c76)
                have d76 := i_nle c76
                refine lv_iload_n hx hb dX10_evenBy_79 rfl (lv_at hl 3 rfl) ?_
                refine lv_iload hx hb dX10_evenBy_80 (lv_at hl 4 rfl) ?_
                refine lv_ishr hx hb dX10_evenBy_82 ?_
                refine lv_iconst (v := (1 : Int32)) hx hb dX10_evenBy_83 (by decide) ?_
                refine lv_iand hx hb dX10_evenBy_84 ?_
                refine lv_if_ne (tgt := 96) hx hb dX10_evenBy_85 (by decide) (fun c85 => ?_) (fun c85 => ?_)
                · have he := he.trans (if_neg c85)
                  have d85 := i_ne c85
                  refine lv_iinc (v := (x4_7 + (1 : Int32))) (lv' := [(4, .int (x4_7 + (1 : Int32))), (0, .ref (a 0)), (1, .int standing), (2, .int x2_3), (3, .int (r_4 ||| r_5))]) hx hb dX10_evenBy_96 hl (k := 4) rfl rfl (by decide) rfl (fun ls hl => ?_)
                  have s96 := i_s1 (x := x4_7) (by omega)
                  refine lv_goto (tgt := 73) hx hb dX10_evenBy_99 (by decide) ?_
                  exact ih_L73_6 (x4_7 + (1 : Int32)) (by omega) (by omega) he _ _ _ hX (lv_sub hl [1, 2, 3, 4, 0] rfl)
                · have he := he.trans (if_pos c85)
                  have d85 := i_eq c85
                  refine lv_bipush (v := (10 : Int32)) hx hb dX10_evenBy_88 (by decide) ?_
                  refine lv_iload_n hx hb dX10_evenBy_90 rfl (lv_at hl 2 rfl) ?_
                  refine lv_imul hx hb dX10_evenBy_91 ?_
                  refine lv_iload hx hb dX10_evenBy_92 (lv_at hl 4 rfl) ?_
                  refine lv_iadd hx hb dX10_evenBy_94 ?_
                  subst he
                  exact g_iret hx hb hr hlocks hX hq rfl dX10_evenBy_95
          refine L73_6 _ (fun x4_8 he H locs ls hX hl => ?_) 6 (0 : Int32) (by omega) (by omega) he _ _ _ hX (lv_sub hl [2, 3, 4, 1, 0] rfl)
          refine lv_iinc (v := (x2_3 + (1 : Int32))) (lv' := [(2, .int (x2_3 + (1 : Int32))), (0, .ref (a 0)), (1, .int standing), (3, .int (r_4 ||| r_5)), (4, .int x4_8)]) hx hb dX10_evenBy_102 hl (k := 2) rfl rfl (by decide) rfl (fun ls hl => ?_)
          have s102 := i_s1 (x := x2_3) (by omega)
          refine lv_goto (tgt := 37) hx hb dX10_evenBy_105 (by decide) ?_
          exact ih_L37_2 (x2_3 + (1 : Int32)) (by omega) (by omega) he _ _ _ hX (lv_sub hl [1, 2, 0] rfl)
    exact L37_2 9 (0 : Int32) (by omega) (by omega) he _ _ _ hX (lv_sub hl [2, 1, 0] rfl)
  · have he := he.trans (if_pos c17)
    have d17 := i_eq c17
    refine lv_aload_n hx hb dX10_evenBy_20 rfl (lv_at hl 1 rfl) ?_
    refine va_get (D := D) (ci := 10) (v := .ref (a 20)) (C := RX10) (T := TX10) (N := 14) hx hb hts hi_X10 hown hS.1 hX.1 0 rfl rfl 5 (by decide) l_fieldLink_47 (fun _ h9 => h9) rfl dX10_evenBy_21 ?_
    refine lv_iconst (v := (1 : Int32)) hx hb dX10_evenBy_24 (by decide) ?_
    refine lv_iload_n hx hb dX10_evenBy_25 rfl (lv_at hl 0 rfl) ?_
    obtain ⟨r_9, e26⟩ : ∃ z, z = (f_X4_isWonBy won (1 : Int32) standing) := ⟨_, rfl⟩
    rw [← e26] at he
    refine g_Vi (r := r_9) (As := [.int (1 : Int32), .int standing]) (rest := []) (ci := 4) (q0 := 20) ⟨hx, hb, hml, hown, hts⟩ hS hX (k_X4_isWonBy (1 : Int32) standing (by omega) (by omega) r_9 e26) (cwV 2 hts gX10_evenBy_X4_isWonBy rfl rfl rfl (by decide +kernel) ⟨Nat.le_of_ble_eq_true rfl, Nat.le_of_ble_eq_true rfl⟩) rfl rfl rfl hl.1 rfl (Nat.le_of_ble_eq_true rfl) dX10_evenBy_26 ⟨Nat.zero_le _, Nat.zero_le _⟩ (fun H locs hX => ?_)
    refine lv_if_ne (tgt := 35) hx hb dX10_evenBy_29 (by decide) (fun c29 => ?_) (fun c29 => ?_)
    · have he := he.trans (if_neg c29)
      have d29 := i_ne c29
      refine lv_iconst (v := (0 : Int32)) hx hb dX10_evenBy_35 (by decide) ?_
      refine lv_istore_n (lv' := [(2, .int (0 : Int32)), (1, .int standing), (0, .ref (a 0))]) hx hb dX10_evenBy_36 rfl hl (by decide) rfl (fun ls hl => ?_)
      have L37_10 : ∀ (n_37_10 : Nat) (x2_11 : Int32), 0 ≤ (x2_11).toInt ∧ (x2_11).toInt ≤ 8 → 8 - (x2_11).toInt < (n_37_10 : Int) → q = f_X10_evenBy_L37 n_37_10 number standing won standing x2_11 → ∀ (H : Heap) (locs : List Loc) (ls : Array Slot), gX D Z s (wG a cA isCharted isKept hedgesRead evensDone plen number setCount standing turn cuts ssize kstanding kturn kcuts kssize seed whiteWon cutsDone lett onB abv sets kinds sbranches sbeginners swon kkinds ksbranches ksbeginners kswon lcuts valu won chance) H locs → lv_has ls 5 [(0, .ref (a 0)), (1, .int standing), (2, .int x2_11)] → W p l e rm_X10_evenBy s m args below meth c H locs 0 0 Qz (F0 m 37 ls []) := by
        intro n_37_10
        induction n_37_10 with
        | zero =>
          intro x2_11 ia ifu _ _ _ _ _ _
          exfalso; omega
        | succ n_37_10 ih_L37_10 =>
          intro x2_11 ia ifu he H locs ls hX hl
          have he := he.trans f_X10_evenBy_L37_s
          refine lv_iload_n hx hb dX10_evenBy_37 rfl (lv_at hl 2 rfl) ?_
          refine lv_aload_n hx hb dX10_evenBy_38 rfl (lv_at hl 0 rfl) ?_
          refine va_get (D := D) (ci := 10) (v := .ref (a 3)) (C := RX10) (T := TX10) (N := 14) hx hb hts hi_X10 hown hS.1 hX.1 0 rfl rfl 1 (by decide) l_fieldLink_19 (fun _ h9 => h9) rfl dX10_evenBy_39 ?_
          refine va_getN (D := D) (ci := 8) (v := .int number) (C := RX8) (T := TX8) (N := 5) hx hb hts hi_X8 hown hS.1 hX.1 3 rfl rfl 0 (by decide) (hS.2.1.get 5 rfl) (fun _ h9 => h9) rfl dX10_evenBy_42 ?_
          refine lv_icmp_ge (tgt := 108) hx hb dX10_evenBy_45 (by decide) (fun c45 => ?_) (fun c45 => ?_)
          · have he := he.trans (if_pos c45)
            have d45 := i_le c45
            refine lv_iconst (v := (-1 : Int32)) hx hb dX10_evenBy_108 (by decide) ?_
            subst he
            exact g_iret hx hb hr hlocks hX hq rfl dX10_evenBy_109
          · have he := he.trans (if_neg c45)
            have d45 := i_nle c45
            refine lv_aload_n hx hb dX10_evenBy_48 rfl (lv_at hl 0 rfl) ?_
            refine va_get (D := D) (ci := 10) (v := .ref (a 20)) (C := RX10) (T := TX10) (N := 14) hx hb hts hi_X10 hown hS.1 hX.1 0 rfl rfl 5 (by decide) l_fieldLink_47 (fun _ h9 => h9) rfl dX10_evenBy_49 ?_
            refine lv_iconst (v := (0 : Int32)) hx hb dX10_evenBy_52 (by decide) ?_
            refine lv_iload_n hx hb dX10_evenBy_53 rfl (lv_at hl 2 rfl) ?_
            refine lv_iload_n hx hb dX10_evenBy_54 rfl (lv_at hl 1 rfl) ?_
            obtain ⟨r_12, e55⟩ : ∃ z, z = (f_X4_winningKinds won (0 : Int32) x2_11 standing) := ⟨_, rfl⟩
            rw [← e55] at he
            refine g_Vi (r := r_12) (As := [.int (0 : Int32), .int x2_11, .int standing]) (rest := []) (ci := 4) (q0 := 20) ⟨hx, hb, hml, hown, hts⟩ hS hX (k_X4_winningKinds (0 : Int32) x2_11 standing (by omega) (by omega) r_12 e55) (cwV 3 hts gX10_evenBy_X4_winningKinds rfl rfl rfl (by decide +kernel) ⟨Nat.le_of_ble_eq_true rfl, Nat.le_of_ble_eq_true rfl⟩) rfl rfl rfl hl.1 rfl (Nat.le_of_ble_eq_true rfl) dX10_evenBy_55 ⟨Nat.zero_le _, Nat.zero_le _⟩ (fun H locs hX => ?_)
            refine lv_aload_n hx hb dX10_evenBy_58 rfl (lv_at hl 0 rfl) ?_
            refine va_get (D := D) (ci := 10) (v := .ref (a 20)) (C := RX10) (T := TX10) (N := 14) hx hb hts hi_X10 hown hS.1 hX.1 0 rfl rfl 5 (by decide) l_fieldLink_47 (fun _ h9 => h9) rfl dX10_evenBy_59 ?_
            refine lv_iconst (v := (1 : Int32)) hx hb dX10_evenBy_62 (by decide) ?_
            refine lv_iload_n hx hb dX10_evenBy_63 rfl (lv_at hl 2 rfl) ?_
            refine lv_iload_n hx hb dX10_evenBy_64 rfl (lv_at hl 1 rfl) ?_
            obtain ⟨r_13, e65⟩ : ∃ z, z = (f_X4_winningKinds won (1 : Int32) x2_11 standing) := ⟨_, rfl⟩
            rw [← e65] at he
            refine g_Vi (r := r_13) (As := [.int (1 : Int32), .int x2_11, .int standing]) (rest := [.int r_12]) (ci := 4) (q0 := 20) ⟨hx, hb, hml, hown, hts⟩ hS hX (k_X4_winningKinds (1 : Int32) x2_11 standing (by omega) (by omega) r_13 e65) (cwV 3 hts gX10_evenBy_X4_winningKinds rfl rfl rfl (by decide +kernel) ⟨Nat.le_of_ble_eq_true rfl, Nat.le_of_ble_eq_true rfl⟩) rfl rfl rfl hl.1 rfl (Nat.le_of_ble_eq_true rfl) dX10_evenBy_65 ⟨Nat.zero_le _, Nat.zero_le _⟩ (fun H locs hX => ?_)
            refine lv_ior hx hb dX10_evenBy_68 ?_
            refine lv_istore_n (lv' := [(3, .int (r_12 ||| r_13)), (0, .ref (a 0)), (1, .int standing), (2, .int x2_11)]) hx hb dX10_evenBy_69 rfl hl (by decide) rfl (fun ls hl => ?_)
            refine lv_iconst (v := (0 : Int32)) hx hb dX10_evenBy_70 (by decide) ?_
            refine lv_istore (lv' := [(4, .int (0 : Int32)), (3, .int (r_12 ||| r_13)), (0, .ref (a 0)), (1, .int standing), (2, .int x2_11)]) hx hb dX10_evenBy_71 hl (by decide) rfl (fun ls hl => ?_)
            have L73_14 : ∀ (kk_L73_14 : (Int32) → Int32), (∀ (x4_16 : Int32), q = kk_L73_14 x4_16 → ∀ (H : Heap) (locs : List Loc) (ls : Array Slot), gX D Z s (wG a cA isCharted isKept hedgesRead evensDone plen number setCount standing turn cuts ssize kstanding kturn kcuts kssize seed whiteWon cutsDone lett onB abv sets kinds sbranches sbeginners swon kkinds ksbranches ksbeginners kswon lcuts valu won chance) H locs → lv_has ls 5 [(0, .ref (a 0)), (1, .int standing), (2, .int x2_11), (3, .int (r_12 ||| r_13)), (4, .int x4_16)] → W p l e rm_X10_evenBy s m args below meth c H locs 0 0 Qz (F0 m 102 ls [])) → ∀ (n_73_14 : Nat) (x4_15 : Int32), 0 ≤ (x4_15).toInt ∧ (x4_15).toInt ≤ 5 → 5 - (x4_15).toInt < (n_73_14 : Int) → q = f_X10_evenBy_L73 kk_L73_14 n_73_14 number standing won standing x2_11 (r_12 ||| r_13) x4_15 → ∀ (H : Heap) (locs : List Loc) (ls : Array Slot), gX D Z s (wG a cA isCharted isKept hedgesRead evensDone plen number setCount standing turn cuts ssize kstanding kturn kcuts kssize seed whiteWon cutsDone lett onB abv sets kinds sbranches sbeginners swon kkinds ksbranches ksbeginners kswon lcuts valu won chance) H locs → lv_has ls 5 [(0, .ref (a 0)), (1, .int standing), (2, .int x2_11), (3, .int (r_12 ||| r_13)), (4, .int x4_15)] → W p l e rm_X10_evenBy s m args below meth c H locs 0 0 Qz (F0 m 73 ls []) := by
              intro kk_L73_14 hk_L73_14
              intro n_73_14
              induction n_73_14 with
              | zero =>
                intro x4_15 iai ifui _ _ _ _ _ _
                exfalso; omega
              | succ n_73_14 ih_L73_14 =>
                intro x4_15 iai ifui he H locs ls hX hl
                have he := he.trans f_X10_evenBy_L73_s
                refine lv_iload hx hb dX10_evenBy_73 (lv_at hl 4 rfl) ?_
                refine lv_iconst (v := (5 : Int32)) hx hb dX10_evenBy_75 (by decide) ?_
                refine lv_icmp_ge (tgt := 102) hx hb dX10_evenBy_76 (by decide) (fun c76 => ?_) (fun c76 => ?_)
                · have he := he.trans (if_pos c76)
                  have d76 := i_le c76
                  exact hk_L73_14 x4_15 he _ _ _ hX (lv_sub hl [0, 1, 2, 3, 4] rfl)
                · have he := he.trans (if_neg c76)
                  have d76 := i_nle c76
                  refine lv_iload_n hx hb dX10_evenBy_79 rfl (lv_at hl 3 rfl) ?_
                  refine lv_iload hx hb dX10_evenBy_80 (lv_at hl 4 rfl) ?_
                  refine lv_ishr hx hb dX10_evenBy_82 ?_
                  refine lv_iconst (v := (1 : Int32)) hx hb dX10_evenBy_83 (by decide) ?_
                  refine lv_iand hx hb dX10_evenBy_84 ?_
                  refine lv_if_ne (tgt := 96) hx hb dX10_evenBy_85 (by decide) (fun c85 => ?_) (fun c85 => ?_)
                  · have he := he.trans (if_neg c85)
                    have d85 := i_ne c85
                    refine lv_iinc (v := (x4_15 + (1 : Int32))) (lv' := [(4, .int (x4_15 + (1 : Int32))), (0, .ref (a 0)), (1, .int standing), (2, .int x2_11), (3, .int (r_12 ||| r_13))]) hx hb dX10_evenBy_96 hl (k := 4) rfl rfl (by decide) rfl (fun ls hl => ?_)
                    have s96 := i_s1 (x := x4_15) (by omega)
                    refine lv_goto (tgt := 73) hx hb dX10_evenBy_99 (by decide) ?_
                    exact ih_L73_14 (x4_15 + (1 : Int32)) (by omega) (by omega) he _ _ _ hX (lv_sub hl [1, 2, 3, 4, 0] rfl)
                  · have he := he.trans (if_pos c85)
                    have d85 := i_eq c85
                    refine lv_bipush (v := (10 : Int32)) hx hb dX10_evenBy_88 (by decide) ?_
                    refine lv_iload_n hx hb dX10_evenBy_90 rfl (lv_at hl 2 rfl) ?_
                    refine lv_imul hx hb dX10_evenBy_91 ?_
                    refine lv_iload hx hb dX10_evenBy_92 (lv_at hl 4 rfl) ?_
                    refine lv_iadd hx hb dX10_evenBy_94 ?_
                    subst he
                    exact g_iret hx hb hr hlocks hX hq rfl dX10_evenBy_95
            refine L73_14 _ (fun x4_16 he H locs ls hX hl => ?_) 6 (0 : Int32) (by omega) (by omega) he _ _ _ hX (lv_sub hl [2, 3, 4, 1, 0] rfl)
            refine lv_iinc (v := (x2_11 + (1 : Int32))) (lv' := [(2, .int (x2_11 + (1 : Int32))), (0, .ref (a 0)), (1, .int standing), (3, .int (r_12 ||| r_13)), (4, .int x4_16)]) hx hb dX10_evenBy_102 hl (k := 2) rfl rfl (by decide) rfl (fun ls hl => ?_)
            have s102 := i_s1 (x := x2_11) (by omega)
            refine lv_goto (tgt := 37) hx hb dX10_evenBy_105 (by decide) ?_
            exact ih_L37_10 (x2_11 + (1 : Int32)) (by omega) (by omega) he _ _ _ hX (lv_sub hl [1, 2, 0] rfl)
      exact L37_10 9 (0 : Int32) (by omega) (by omega) he _ _ _ hX (lv_sub hl [2, 1, 0] rfl)
    · have he := he.trans (if_pos c29)
      have d29 := i_eq c29
      refine lv_bipush (v := (-2 : Int32)) hx hb dX10_evenBy_32 (by decide) ?_
      subst he
      exact g_iret hx hb hr hlocks hX hq rfl dX10_evenBy_34
abbrev rm_X10_branch : Room := { frames := 4, cells := 0, slots := 0, locals := 103 }
set_option maxHeartbeats 4000000 in
set_option maxRecDepth 100000 in
theorem k_X10_branch {l : Launch} {D : va_G} {E : sE} {a : Nat → Nat} {cA : Nat → ClassId} {isCharted : Int32} {isKept : Int32} {hedgesRead : Int32} {evensDone : Int32} {plen : Int32} {number : Int32} {setCount : Int32} {standing : Int32} {turn : Int32} {cuts : Int32} {ssize : Int32} {kstanding : Int32} {kturn : Int32} {kcuts : Int32} {kssize : Int32} {seed : Int32} {whiteWon : Int32} {cutsDone : Int32} {lett : Nat → Int32} {onB : Nat → Int32} {abv : Nat → Int32} {sets : Nat → Int32} {kinds : Nat → Int32} {sbranches : Nat → Int32} {sbeginners : Nat → Int32} {swon : Nat → Int32} {kkinds : Nat → Int32} {ksbranches : Nat → Int32} {ksbeginners : Nat → Int32} {kswon : Nat → Int32} {lcuts : Nat → Int32} {valu : Nat → Int32} {won : Nat → Int64} {chance : Nat → Int64} (p1 : Int32) (p2 : Int32) (hnm : 0 ≤ (number).toInt ∧ (number).toInt ≤ 8) (hsc : 0 ≤ (setCount).toInt ∧ (setCount).toInt ≤ 256) (hss : ∀ k : Nat, 0 ≤ (sets k).toInt ∧ (sets k).toInt < 256) (hsd : 0 ≤ (standing).toInt ∧ (standing).toInt < 256) (hsz : 0 ≤ (ssize).toInt ∧ (ssize).toInt ≤ 6) (hsb : ∀ k : Nat, (k : Int) < (ssize).toInt → 0 ≤ (sbeginners k).toInt ∧ (sbeginners k).toInt ≤ 1) : ∀ q : Int32 × Int32 × (Nat → Int32) × (Nat → Int32) × (Nat → Int64) × (Nat → Int64), q = f_X10_branch isCharted number setCount standing ssize onB abv sets kinds sbranches sbeginners swon lcuts valu won chance p1 p2 → gMi l yX10_branch wsX10_branch rm_X10_branch D E (tG cA) [.ref (a 0), .int p1, .int p2] (wG a cA isCharted isKept hedgesRead evensDone plen number setCount standing turn cuts ssize kstanding kturn kcuts kssize seed whiteWon cutsDone lett onB abv sets kinds sbranches sbeginners swon kkinds ksbranches ksbeginners kswon lcuts valu won chance) (wG a cA q.2.1 isKept hedgesRead evensDone plen number setCount standing turn cuts ssize kstanding kturn kcuts kssize seed whiteWon cutsDone lett onB abv sets kinds sbranches sbeginners swon kkinds ksbranches ksbeginners kswon q.2.2.1 q.2.2.2.1 q.2.2.2.2.1 q.2.2.2.2.2) q.1 := by
  intro q he0
  refine gM_of (cc := cX10_branch) (maxL := 3) (ret := (some .int)) (Qf := gQi D (wG a cA q.2.1 isKept hedgesRead evensDone plen number setCount standing turn cuts ssize kstanding kturn kcuts kssize seed whiteWon cutsDone lett onB abv sets kinds sbranches sbeginners swon kkinds ksbranches ksbeginners kswon q.2.2.1 q.2.2.2.1 q.2.2.2.2.1 q.2.2.2.2.2) q.1) (by decide) rfl (Nat.le_of_ble_eq_true rfl) ?_
  intro p e s m args below meth c Z ls Qz hx hb hr hml hlocks hown hts hS hX hl hq
  have he := he0.trans f_X10_branch_s
  have hown : s.vm.findClass RX10 = some m.cls := hown
  have hl : lv_has ls 3 [(0, .ref (a 0)), (1, .int p1), (2, .int p2)] := hl
  have hi_X10 : ∀ w ∈ u_ws RX10 TX10 14, w ∈ wsX10_branch := fun _ h => List.mem_cons_of_mem _ (List.mem_append_left _ (List.mem_append_left _ (List.mem_append_left _ (List.mem_append_left _ (List.mem_append_left _ (List.mem_append_left _ (List.mem_append_left _ (List.mem_append_left _ (List.mem_append_right _ h)))))))))
  have hi_X3 : ∀ w ∈ u_ws RX3 TX3 5, w ∈ wsX10_branch := fun _ h => List.mem_cons_of_mem _ (List.mem_append_left _ (List.mem_append_left _ (List.mem_append_left _ (List.mem_append_left _ (List.mem_append_left _ (List.mem_append_left _ (List.mem_append_left _ (List.mem_append_right _ h))))))))
  have hi_X8 : ∀ w ∈ u_ws RX8 TX8 5, w ∈ wsX10_branch := fun _ h => List.mem_cons_of_mem _ (List.mem_append_left _ (List.mem_append_left _ (List.mem_append_left _ (List.mem_append_left _ (List.mem_append_left _ (List.mem_append_left _ (List.mem_append_right _ h)))))))
  have l_fieldLink_19 := hts (Cond.fieldLink RX10 19 "HedgeGame" "shape" "LHedgeGame$Shape;") (List.mem_of_getElem? (i := 2) rfl)
  have l_fieldLink_26 := hts (Cond.fieldLink RX10 26 "HedgeGame" "now" "LHedgeGame$Moment;") (List.mem_of_getElem? (i := 1) rfl)
  have l_fieldLink_38 := hts (Cond.fieldLink RX10 38 "HedgeGame" "rules" "LHedgeGame$Rules;") (List.mem_of_getElem? (i := 3) rfl)
  have tm102 : ((-102 : Int32)).toInt = -102 := rfl
  have tm101 : ((-101 : Int32)).toInt = -101 := rfl
  have t0 : ((0 : Int32)).toInt = 0 := rfl
  have t1 : ((1 : Int32)).toInt = 1 := rfl
  refine lv_aload_n hx hb dX10_branch_0 rfl (lv_at hl 0 rfl) ?_
  refine lv_iload_n hx hb dX10_branch_1 rfl (lv_at hl 1 rfl) ?_
  obtain ⟨r_1, e2⟩ : ∃ z, z = (f_X10_isUnknown number p1) := ⟨_, rfl⟩
  rw [← e2] at he
  refine g_Vi (r := r_1) (As := [.int p1]) (rest := []) (ci := 10) (q0 := 0) ⟨hx, hb, hml, hown, hts⟩ hS hX (k_X10_isUnknown p1 (by omega) r_1 e2) (cwV 1 hts gX10_branch_X10_isUnknown rfl rfl rfl (by decide +kernel) ⟨Nat.le_of_ble_eq_true rfl, Nat.le_of_ble_eq_true rfl⟩) rfl rfl rfl hl.1 rfl (Nat.le_of_ble_eq_true rfl) dX10_branch_2 ⟨Nat.zero_le _, Nat.zero_le _⟩ (fun H locs hX => ?_)
  have k2_0 : (r_1).toInt = 1 ∨ ((r_1).toInt = 0 ∧ 0 ≤ (p1).toInt ∧ (p1).toInt < (number).toInt) := by rw [e2]; exact r_isUnknown
  refine lv_if_eq (tgt := 11) hx hb dX10_branch_5 (by decide) (fun c5 => ?_) (fun c5 => ?_)
  · have he := he.trans (if_pos c5)
    have d5 := i_eq c5
    refine lv_iload_n hx hb dX10_branch_11 rfl (lv_at hl 2 rfl) ?_
    by_cases q12_0 : p2 = (0 : Int32)
    · have he := he.trans (if_pos q12_0)
      refine lv_tableIn (tgt := 60) (off := 48) hx hb dX10_branch_12 (by rw [q12_0]; decide) (by rw [q12_0]; decide) (by rw [q12_0]; rfl) (by decide) ?_
      refine lv_aload_n hx hb dX10_branch_60 rfl (lv_at hl 0 rfl) ?_
      refine va_get (D := D) (ci := 10) (v := .ref (a 7)) (C := RX10) (T := TX10) (N := 14) hx hb hts hi_X10 hown hS.1 hX.1 0 rfl rfl 2 (by decide) l_fieldLink_26 (fun _ h9 => h9) rfl dX10_branch_61 ?_
      refine va_getN (D := D) (ci := 3) (v := .ref (a 8)) (C := RX3) (T := TX3) (N := 5) hx hb hts hi_X3 hown hS.1 hX.1 7 rfl rfl 0 (by decide) (hS.2.1.get 18 rfl) (fun _ h9 => h9) rfl dX10_branch_64 ?_
      refine lv_iload_n hx hb dX10_branch_67 rfl (lv_at hl 1 rfl) ?_
      refine va_iald hx hb hS.1 hX.1 8 4 rfl rfl (vp_in_iff.mpr (by omega)) dX10_branch_68 ?_
      subst he
      exact g_iret hx hb hr hlocks hX hq rfl dX10_branch_69
    · have he := he.trans (if_neg q12_0)
      by_cases q12_1 : p2 = (1 : Int32)
      · have he := he.trans (if_pos q12_1)
        refine lv_tableIn (tgt := 70) (off := 58) hx hb dX10_branch_12 (by rw [q12_1]; decide) (by rw [q12_1]; decide) (by rw [q12_1]; rfl) (by decide) ?_
        refine lv_aload_n hx hb dX10_branch_70 rfl (lv_at hl 0 rfl) ?_
        refine va_get (D := D) (ci := 10) (v := .ref (a 3)) (C := RX10) (T := TX10) (N := 14) hx hb hts hi_X10 hown hS.1 hX.1 0 rfl rfl 1 (by decide) l_fieldLink_19 (fun _ h9 => h9) rfl dX10_branch_71 ?_
        refine va_getN (D := D) (ci := 8) (v := .ref (a 4)) (C := RX8) (T := TX8) (N := 5) hx hb hts hi_X8 hown hS.1 hX.1 3 rfl rfl 1 (by decide) (hS.2.1.get 6 rfl) (fun _ h9 => h9) rfl dX10_branch_74 ?_
        refine lv_iload_n hx hb dX10_branch_77 rfl (lv_at hl 1 rfl) ?_
        refine va_iald hx hb hS.1 hX.1 4 1 rfl rfl (vp_in_iff.mpr (by omega)) dX10_branch_78 ?_
        subst he
        exact g_iret hx hb hr hlocks hX hq rfl dX10_branch_79
      · have he := he.trans (if_neg q12_1)
        by_cases q12_2 : p2 = (2 : Int32)
        · have he := he.trans (if_pos q12_2)
          refine lv_tableIn (tgt := 80) (off := 68) hx hb dX10_branch_12 (by rw [q12_2]; decide) (by rw [q12_2]; decide) (by rw [q12_2]; rfl) (by decide) ?_
          refine lv_aload_n hx hb dX10_branch_80 rfl (lv_at hl 0 rfl) ?_
          refine va_get (D := D) (ci := 10) (v := .ref (a 7)) (C := RX10) (T := TX10) (N := 14) hx hb hts hi_X10 hown hS.1 hX.1 0 rfl rfl 2 (by decide) l_fieldLink_26 (fun _ h9 => h9) rfl dX10_branch_81 ?_
          refine va_getN (D := D) (ci := 3) (v := .int standing) (C := RX3) (T := TX3) (N := 5) hx hb hts hi_X3 hown hS.1 hX.1 7 rfl rfl 1 (by decide) (hS.2.1.get 19 rfl) (fun _ h9 => h9) rfl dX10_branch_84 ?_
          refine lv_iload_n hx hb dX10_branch_87 rfl (lv_at hl 1 rfl) ?_
          refine lv_ishr hx hb dX10_branch_88 ?_
          refine lv_iconst (v := (1 : Int32)) hx hb dX10_branch_89 (by decide) ?_
          refine lv_iand hx hb dX10_branch_90 ?_
          subst he
          exact g_iret hx hb hr hlocks hX hq rfl dX10_branch_91
        · have he := he.trans (if_neg q12_2)
          by_cases q12_3 : p2 = (3 : Int32)
          · have he := he.trans (if_pos q12_3)
            refine lv_tableIn (tgt := 92) (off := 80) hx hb dX10_branch_12 (by rw [q12_3]; decide) (by rw [q12_3]; decide) (by rw [q12_3]; rfl) (by decide) ?_
            refine lv_aload_n hx hb dX10_branch_92 rfl (lv_at hl 0 rfl) ?_
            refine va_get (D := D) (ci := 10) (v := .ref (a 19)) (C := RX10) (T := TX10) (N := 14) hx hb hts hi_X10 hown hS.1 hX.1 0 rfl rfl 4 (by decide) l_fieldLink_38 (fun _ h9 => h9) rfl dX10_branch_93 ?_
            refine lv_iconst (v := (0 : Int32)) hx hb dX10_branch_96 (by decide) ?_
            refine lv_aload_n hx hb dX10_branch_97 rfl (lv_at hl 0 rfl) ?_
            refine va_get (D := D) (ci := 10) (v := .ref (a 7)) (C := RX10) (T := TX10) (N := 14) hx hb hts hi_X10 hown hS.1 hX.1 0 rfl rfl 2 (by decide) l_fieldLink_26 (fun _ h9 => h9) rfl dX10_branch_98 ?_
            refine va_getN (D := D) (ci := 3) (v := .int standing) (C := RX3) (T := TX3) (N := 5) hx hb hts hi_X3 hown hS.1 hX.1 7 rfl rfl 1 (by decide) (hS.2.1.get 19 rfl) (fun _ h9 => h9) rfl dX10_branch_101 ?_
            obtain ⟨r_2, e104⟩ : ∃ z, z = (f_X6_choices number abv kinds (0 : Int32) standing) := ⟨_, rfl⟩
            rw [← e104] at he
            refine g_Vi (r := r_2) (As := [.int (0 : Int32), .int standing]) (rest := []) (ci := 6) (q0 := 19) ⟨hx, hb, hml, hown, hts⟩ hS hX (k_X6_choices (0 : Int32) standing (by omega) r_2 e104) (cwV 2 hts gX10_branch_X6_choices rfl rfl rfl (by decide +kernel) ⟨Nat.le_of_ble_eq_true rfl, Nat.le_of_ble_eq_true rfl⟩) rfl rfl rfl hl.1 rfl (Nat.le_of_ble_eq_true rfl) dX10_branch_104 ⟨Nat.zero_le _, Nat.zero_le _⟩ (fun H locs hX => ?_)
            refine lv_iload_n hx hb dX10_branch_107 rfl (lv_at hl 1 rfl) ?_
            refine lv_ishr hx hb dX10_branch_108 ?_
            refine lv_iconst (v := (1 : Int32)) hx hb dX10_branch_109 (by decide) ?_
            refine lv_iand hx hb dX10_branch_110 ?_
            subst he
            exact g_iret hx hb hr hlocks hX hq rfl dX10_branch_111
          · have he := he.trans (if_neg q12_3)
            by_cases q12_4 : p2 = (4 : Int32)
            · have he := he.trans (if_pos q12_4)
              refine lv_tableIn (tgt := 112) (off := 100) hx hb dX10_branch_12 (by rw [q12_4]; decide) (by rw [q12_4]; decide) (by rw [q12_4]; rfl) (by decide) ?_
              refine lv_aload_n hx hb dX10_branch_112 rfl (lv_at hl 0 rfl) ?_
              refine va_get (D := D) (ci := 10) (v := .ref (a 19)) (C := RX10) (T := TX10) (N := 14) hx hb hts hi_X10 hown hS.1 hX.1 0 rfl rfl 4 (by decide) l_fieldLink_38 (fun _ h9 => h9) rfl dX10_branch_113 ?_
              refine lv_iconst (v := (1 : Int32)) hx hb dX10_branch_116 (by decide) ?_
              refine lv_aload_n hx hb dX10_branch_117 rfl (lv_at hl 0 rfl) ?_
              refine va_get (D := D) (ci := 10) (v := .ref (a 7)) (C := RX10) (T := TX10) (N := 14) hx hb hts hi_X10 hown hS.1 hX.1 0 rfl rfl 2 (by decide) l_fieldLink_26 (fun _ h9 => h9) rfl dX10_branch_118 ?_
              refine va_getN (D := D) (ci := 3) (v := .int standing) (C := RX3) (T := TX3) (N := 5) hx hb hts hi_X3 hown hS.1 hX.1 7 rfl rfl 1 (by decide) (hS.2.1.get 19 rfl) (fun _ h9 => h9) rfl dX10_branch_121 ?_
              obtain ⟨r_3, e124⟩ : ∃ z, z = (f_X6_choices number abv kinds (1 : Int32) standing) := ⟨_, rfl⟩
              rw [← e124] at he
              refine g_Vi (r := r_3) (As := [.int (1 : Int32), .int standing]) (rest := []) (ci := 6) (q0 := 19) ⟨hx, hb, hml, hown, hts⟩ hS hX (k_X6_choices (1 : Int32) standing (by omega) r_3 e124) (cwV 2 hts gX10_branch_X6_choices rfl rfl rfl (by decide +kernel) ⟨Nat.le_of_ble_eq_true rfl, Nat.le_of_ble_eq_true rfl⟩) rfl rfl rfl hl.1 rfl (Nat.le_of_ble_eq_true rfl) dX10_branch_124 ⟨Nat.zero_le _, Nat.zero_le _⟩ (fun H locs hX => ?_)
              refine lv_iload_n hx hb dX10_branch_127 rfl (lv_at hl 1 rfl) ?_
              refine lv_ishr hx hb dX10_branch_128 ?_
              refine lv_iconst (v := (1 : Int32)) hx hb dX10_branch_129 (by decide) ?_
              refine lv_iand hx hb dX10_branch_130 ?_
              subst he
              exact g_iret hx hb hr hlocks hX hq rfl dX10_branch_131
            · have he := he.trans (if_neg q12_4)
              by_cases q12_5 : p2 = (5 : Int32)
              · have he := he.trans (if_pos q12_5)
                refine lv_tableIn (tgt := 132) (off := 120) hx hb dX10_branch_12 (by rw [q12_5]; decide) (by rw [q12_5]; decide) (by rw [q12_5]; rfl) (by decide) ?_
                refine lv_aload_n hx hb dX10_branch_132 rfl (lv_at hl 0 rfl) ?_
                refine va_get (D := D) (ci := 10) (v := .ref (a 3)) (C := RX10) (T := TX10) (N := 14) hx hb hts hi_X10 hown hS.1 hX.1 0 rfl rfl 1 (by decide) l_fieldLink_19 (fun _ h9 => h9) rfl dX10_branch_133 ?_
                refine va_getN (D := D) (ci := 8) (v := .ref (a 5)) (C := RX8) (T := TX8) (N := 5) hx hb hts hi_X8 hown hS.1 hX.1 3 rfl rfl 2 (by decide) (hS.2.1.get 8 rfl) (fun _ h9 => h9) rfl dX10_branch_136 ?_
                refine lv_iload_n hx hb dX10_branch_139 rfl (lv_at hl 1 rfl) ?_
                refine va_iald hx hb hS.1 hX.1 5 2 rfl rfl (vp_in_iff.mpr (by omega)) dX10_branch_140 ?_
                subst he
                exact g_iret hx hb hr hlocks hX hq rfl dX10_branch_141
              · have he := he.trans (if_neg q12_5)
                by_cases q12_6 : p2 = (6 : Int32)
                · have he := he.trans (if_pos q12_6)
                  refine lv_tableIn (tgt := 142) (off := 130) hx hb dX10_branch_12 (by rw [q12_6]; decide) (by rw [q12_6]; decide) (by rw [q12_6]; rfl) (by decide) ?_
                  refine lv_aload_n hx hb dX10_branch_142 rfl (lv_at hl 0 rfl) ?_
                  obtain ⟨z_4, e143⟩ : ∃ z, z = (f_X10_chart isCharted number setCount abv sets kinds lcuts valu won chance) := ⟨_, rfl⟩
                  rw [← e143] at he
                  try dsimp only at he
                  refine g_Vv (w2 := (wG a cA z_4.1 isKept hedgesRead evensDone plen number setCount standing turn cuts ssize kstanding kturn kcuts kssize seed whiteWon cutsDone lett onB abv sets kinds sbranches sbeginners swon kkinds ksbranches ksbeginners kswon z_4.2.1 z_4.2.2.1 z_4.2.2.2.1 z_4.2.2.2.2)) (As := []) (rest := []) (ci := 10) (q0 := 0) ⟨hx, hb, hml, hown, hts⟩ hS hX (k_X10_chart (by omega) (by omega) (by assumption) z_4 e143) (cwV 0 hts gX10_branch_X10_chart rfl rfl rfl (by decide +kernel) ⟨Nat.le_of_ble_eq_true rfl, Nat.le_of_ble_eq_true rfl⟩) rfl rfl rfl hl.1 rfl (Nat.le_of_ble_eq_true rfl) dX10_branch_143 ⟨Nat.zero_le _, Nat.zero_le _⟩ (fun H locs hX => ?_)
                  refine lv_aload_n hx hb dX10_branch_146 rfl (lv_at hl 0 rfl) ?_
                  refine lv_iload_n hx hb dX10_branch_147 rfl (lv_at hl 1 rfl) ?_
                  obtain ⟨r_5, e148⟩ : ∃ z, z = (f_X10_sortsOf standing ssize sbranches sbeginners swon z_4.2.2.2.1 p1) := ⟨_, rfl⟩
                  rw [← e148] at he
                  refine g_Vi (r := r_5) (As := [.int p1]) (rest := []) (ci := 10) (q0 := 0) ⟨hx, hb, hml, hown, hts⟩ hS hX (k_X10_sortsOf p1 (by omega) (by omega) (by omega) (by assumption) r_5 e148) (cwV 1 hts gX10_branch_X10_sortsOf rfl rfl rfl (by decide +kernel) ⟨Nat.le_of_ble_eq_true rfl, Nat.le_of_ble_eq_true rfl⟩) rfl rfl rfl hl.1 rfl (Nat.le_of_ble_eq_true rfl) dX10_branch_148 ⟨Nat.zero_le _, Nat.zero_le _⟩ (fun H locs hX => ?_)
                  subst he
                  exact g_iret hx hb hr hlocks hX hq rfl dX10_branch_151
                · have he := he.trans (if_neg q12_6)
                  by_cases q12_7 : p2 = (7 : Int32)
                  · have he := he.trans (if_pos q12_7)
                    refine lv_tableIn (tgt := 152) (off := 140) hx hb dX10_branch_12 (by rw [q12_7]; decide) (by rw [q12_7]; decide) (by rw [q12_7]; rfl) (by decide) ?_
                    refine lv_aload_n hx hb dX10_branch_152 rfl (lv_at hl 0 rfl) ?_
                    obtain ⟨z_6, e153⟩ : ∃ z, z = (f_X10_chart isCharted number setCount abv sets kinds lcuts valu won chance) := ⟨_, rfl⟩
                    rw [← e153] at he
                    try dsimp only at he
                    refine g_Vv (w2 := (wG a cA z_6.1 isKept hedgesRead evensDone plen number setCount standing turn cuts ssize kstanding kturn kcuts kssize seed whiteWon cutsDone lett onB abv sets kinds sbranches sbeginners swon kkinds ksbranches ksbeginners kswon z_6.2.1 z_6.2.2.1 z_6.2.2.2.1 z_6.2.2.2.2)) (As := []) (rest := []) (ci := 10) (q0 := 0) ⟨hx, hb, hml, hown, hts⟩ hS hX (k_X10_chart (by omega) (by omega) (by assumption) z_6 e153) (cwV 0 hts gX10_branch_X10_chart rfl rfl rfl (by decide +kernel) ⟨Nat.le_of_ble_eq_true rfl, Nat.le_of_ble_eq_true rfl⟩) rfl rfl rfl hl.1 rfl (Nat.le_of_ble_eq_true rfl) dX10_branch_153 ⟨Nat.zero_le _, Nat.zero_le _⟩ (fun H locs hX => ?_)
                    refine lv_aload_n hx hb dX10_branch_156 rfl (lv_at hl 0 rfl) ?_
                    refine lv_iload_n hx hb dX10_branch_157 rfl (lv_at hl 1 rfl) ?_
                    obtain ⟨r_7, e158⟩ : ∃ z, z = (f_X10_whomToLetBegin standing ssize sbranches sbeginners swon z_6.2.2.2.1 p1) := ⟨_, rfl⟩
                    rw [← e158] at he
                    refine g_Vi (r := r_7) (As := [.int p1]) (rest := []) (ci := 10) (q0 := 0) ⟨hx, hb, hml, hown, hts⟩ hS hX (k_X10_whomToLetBegin p1 (by omega) (by omega) (by omega) (by assumption) r_7 e158) (cwV 1 hts gX10_branch_X10_whomToLetBegin rfl rfl rfl (by decide +kernel) ⟨Nat.le_of_ble_eq_true rfl, Nat.le_of_ble_eq_true rfl⟩) rfl rfl rfl hl.1 rfl (Nat.le_of_ble_eq_true rfl) dX10_branch_158 ⟨Nat.zero_le _, Nat.zero_le _⟩ (fun H locs hX => ?_)
                    subst he
                    exact g_iret hx hb hr hlocks hX hq rfl dX10_branch_161
                  · have he := he.trans (if_neg q12_7)
                    have hne : p2.toInt < 0 ∨ 7 < p2.toInt := by
                      have z0 := i_ne q12_0
                      have y0 : ((0 : Int32)).toInt = 0 := rfl
                      have z1 := i_ne q12_1
                      have y1 : ((1 : Int32)).toInt = 1 := rfl
                      have z2 := i_ne q12_2
                      have y2 : ((2 : Int32)).toInt = 2 := rfl
                      have z3 := i_ne q12_3
                      have y3 : ((3 : Int32)).toInt = 3 := rfl
                      have z4 := i_ne q12_4
                      have y4 : ((4 : Int32)).toInt = 4 := rfl
                      have z5 := i_ne q12_5
                      have y5 : ((5 : Int32)).toInt = 5 := rfl
                      have z6 := i_ne q12_6
                      have y6 : ((6 : Int32)).toInt = 6 := rfl
                      have z7 := i_ne q12_7
                      have y7 : ((7 : Int32)).toInt = 7 := rfl
                      omega
                    refine lv_tableOut (tgt := 162) hx hb dX10_branch_12 hne (by decide) ?_
                    refine lv_bipush (v := (-102 : Int32)) hx hb dX10_branch_162 (by decide) ?_
                    subst he
                    exact g_iret hx hb hr hlocks hX hq rfl dX10_branch_164
  · have he := he.trans (if_neg c5)
    have d5 := i_ne c5
    refine lv_bipush (v := (-101 : Int32)) hx hb dX10_branch_8 (by decide) ?_
    subst he
    exact g_iret hx hb hr hlocks hX hq rfl dX10_branch_10
abbrev rm_X10_as : Room := { frames := 1, cells := 0, slots := 0, locals := 21 }
set_option maxHeartbeats 4000000 in
set_option maxRecDepth 100000 in
theorem k_X10_as {l : Launch} {D : va_G} {E : sE} {a : Nat → Nat} {cA : Nat → ClassId} {isCharted : Int32} {isKept : Int32} {hedgesRead : Int32} {evensDone : Int32} {plen : Int32} {number : Int32} {setCount : Int32} {standing : Int32} {turn : Int32} {cuts : Int32} {ssize : Int32} {kstanding : Int32} {kturn : Int32} {kcuts : Int32} {kssize : Int32} {seed : Int32} {whiteWon : Int32} {cutsDone : Int32} {lett : Nat → Int32} {onB : Nat → Int32} {abv : Nat → Int32} {sets : Nat → Int32} {kinds : Nat → Int32} {sbranches : Nat → Int32} {sbeginners : Nat → Int32} {swon : Nat → Int32} {kkinds : Nat → Int32} {ksbranches : Nat → Int32} {ksbeginners : Nat → Int32} {kswon : Nat → Int32} {lcuts : Nat → Int32} {valu : Nat → Int32} {won : Nat → Int64} {chance : Nat → Int64} (p1 : Int32) (p2 : Int32) (hnm : 0 ≤ (number).toInt ∧ (number).toInt ≤ 8) : ∀ q : Int32, q = f_X10_as number kinds p1 p2 → gMi l yX10_as wsX10_as rm_X10_as D E (tG cA) [.ref (a 0), .int p1, .int p2] (wG a cA isCharted isKept hedgesRead evensDone plen number setCount standing turn cuts ssize kstanding kturn kcuts kssize seed whiteWon cutsDone lett onB abv sets kinds sbranches sbeginners swon kkinds ksbranches ksbeginners kswon lcuts valu won chance) (wG a cA isCharted isKept hedgesRead evensDone plen number setCount standing turn cuts ssize kstanding kturn kcuts kssize seed whiteWon cutsDone lett onB abv sets kinds sbranches sbeginners swon kkinds ksbranches ksbeginners kswon lcuts valu won chance) q := by
  intro q he0
  refine gM_of (cc := cX10_as) (maxL := 3) (ret := (some .int)) (Qf := gQi D (wG a cA isCharted isKept hedgesRead evensDone plen number setCount standing turn cuts ssize kstanding kturn kcuts kssize seed whiteWon cutsDone lett onB abv sets kinds sbranches sbeginners swon kkinds ksbranches ksbeginners kswon lcuts valu won chance) q) (by decide) rfl (Nat.le_of_ble_eq_true rfl) ?_
  intro p e s m args below meth c Z ls Qz hx hb hr hml hlocks hown hts hS hX hl hq
  have he := he0.trans f_X10_as_s
  have hown : s.vm.findClass RX10 = some m.cls := hown
  have hl : lv_has ls 3 [(0, .ref (a 0)), (1, .int p1), (2, .int p2)] := hl
  have hi_X10 : ∀ w ∈ u_ws RX10 TX10 14, w ∈ wsX10_as := fun _ h => List.mem_cons_of_mem _ (List.mem_append_left _ (List.mem_append_left _ (List.mem_append_right _ h)))
  have hi_X3 : ∀ w ∈ u_ws RX3 TX3 5, w ∈ wsX10_as := fun _ h => List.mem_cons_of_mem _ (List.mem_append_left _ (List.mem_append_right _ h))
  have l_fieldLink_155 := hts (Cond.fieldLink RX10 155 "HedgeGame" "SUCH_KINDS" "[I") (List.mem_of_getElem? (i := 1) rfl)
  have l_fieldLink_26 := hts (Cond.fieldLink RX10 26 "HedgeGame" "now" "LHedgeGame$Moment;") (List.mem_of_getElem? (i := 2) rfl)
  have tm102 : ((-102 : Int32)).toInt = -102 := rfl
  have tm101 : ((-101 : Int32)).toInt = -101 := rfl
  have tm1 : ((-1 : Int32)).toInt = -1 := rfl
  have t0 : ((0 : Int32)).toInt = 0 := rfl
  have t1 : ((1 : Int32)).toInt = 1 := rfl
  have t5 : ((5 : Int32)).toInt = 5 := rfl
  refine lv_aload_n hx hb dX10_as_0 rfl (lv_at hl 0 rfl) ?_
  refine lv_iload_n hx hb dX10_as_1 rfl (lv_at hl 1 rfl) ?_
  obtain ⟨r_1, e2⟩ : ∃ z, z = (f_X10_isUnknown number p1) := ⟨_, rfl⟩
  rw [← e2] at he
  refine g_Vi (r := r_1) (As := [.int p1]) (rest := []) (ci := 10) (q0 := 0) ⟨hx, hb, hml, hown, hts⟩ hS hX (k_X10_isUnknown p1 (by omega) r_1 e2) (cwV 1 hts gX10_as_X10_isUnknown rfl rfl rfl (by decide +kernel) ⟨Nat.le_of_ble_eq_true rfl, Nat.le_of_ble_eq_true rfl⟩) rfl rfl rfl hl.1 rfl (Nat.le_of_ble_eq_true rfl) dX10_as_2 ⟨Nat.zero_le _, Nat.zero_le _⟩ (fun H locs hX => ?_)
  have k2_0 : (r_1).toInt = 1 ∨ ((r_1).toInt = 0 ∧ 0 ≤ (p1).toInt ∧ (p1).toInt < (number).toInt) := by rw [e2]; exact r_isUnknown
  refine lv_if_eq (tgt := 11) hx hb dX10_as_5 (by decide) (fun c5 => ?_) (fun c5 => ?_)
  · have he := he.trans (if_pos c5)
    have d5 := i_eq c5
    refine lv_iload_n hx hb dX10_as_11 rfl (lv_at hl 2 rfl) ?_
    refine lv_if_lt (tgt := 20) hx hb dX10_as_12 (by decide) (fun c12 => ?_) (fun c12 => ?_)
    · have he := he.trans (if_pos c12)
      have d12 := i_lt c12
      refine lv_bipush (v := (-102 : Int32)) hx hb dX10_as_20 (by decide) ?_
      subst he
      exact g_iret hx hb hr hlocks hX hq rfl dX10_as_22
    · have he := he.trans (if_neg c12)
      have d12 := i_nlt c12
      refine lv_iload_n hx hb dX10_as_15 rfl (lv_at hl 2 rfl) ?_
      refine lv_iconst (v := (5 : Int32)) hx hb dX10_as_16 (by decide) ?_
      refine lv_icmp_lt (tgt := 23) hx hb dX10_as_17 (by decide) (fun c17 => ?_) (fun c17 => ?_)
      · have he := he.trans (if_pos c17)
        have d17 := i_lt c17
        refine va_gets (v := .ref E.1) hx hb hS.2.2.2.1.1 hX.2.2 hown l_fieldLink_155 (fun _ h9 => h9) dX10_as_23 ?_
        refine lv_iload_n hx hb dX10_as_26 rfl (lv_at hl 2 rfl) ?_
        refine va_ti (v := .int (([31, 18, 4, 8, 16] : List Int32).getD (p2).toNatClampNeg 0)) hx hb hS.2.2.2.1.2.1 hX.2.2 (vp_in_iff.mpr (by omega)) rfl dX10_as_27 ?_
        refine lv_aload_n hx hb dX10_as_28 rfl (lv_at hl 0 rfl) ?_
        refine va_get (D := D) (ci := 10) (v := .ref (a 7)) (C := RX10) (T := TX10) (N := 14) hx hb hts hi_X10 hown hS.1 hX.1 0 rfl rfl 2 (by decide) l_fieldLink_26 (fun _ h9 => h9) rfl dX10_as_29 ?_
        refine va_getN (D := D) (ci := 3) (v := .ref (a 8)) (C := RX3) (T := TX3) (N := 5) hx hb hts hi_X3 hown hS.1 hX.1 7 rfl rfl 0 (by decide) (hS.2.1.get 18 rfl) (fun _ h9 => h9) rfl dX10_as_32 ?_
        refine lv_iload_n hx hb dX10_as_35 rfl (lv_at hl 1 rfl) ?_
        refine va_iald hx hb hS.1 hX.1 8 4 rfl rfl (vp_in_iff.mpr (by omega)) dX10_as_36 ?_
        refine lv_ishr hx hb dX10_as_37 ?_
        refine lv_iconst (v := (1 : Int32)) hx hb dX10_as_38 (by decide) ?_
        refine lv_iand hx hb dX10_as_39 ?_
        refine lv_if_eq (tgt := 47) hx hb dX10_as_40 (by decide) (fun c40 => ?_) (fun c40 => ?_)
        · have he := he.trans (if_pos c40)
          have d40 := i_eq c40
          refine lv_iconst (v := (-1 : Int32)) hx hb dX10_as_47 (by decide) ?_
          subst he
          exact g_iret hx hb hr hlocks hX hq rfl dX10_as_48
        · have he := he.trans (if_neg c40)
          have d40 := i_ne c40
          refine lv_iload_n hx hb dX10_as_43 rfl (lv_at hl 1 rfl) ?_
          refine lv_goto (tgt := 48) hx hb dX10_as_44 (by decide) ?_
          subst he
          exact g_iret hx hb hr hlocks hX hq rfl dX10_as_48
      · have he := he.trans (if_neg c17)
        have d17 := i_nlt c17
        refine lv_bipush (v := (-102 : Int32)) hx hb dX10_as_20 (by decide) ?_
        subst he
        exact g_iret hx hb hr hlocks hX hq rfl dX10_as_22
  · have he := he.trans (if_neg c5)
    have d5 := i_ne c5
    refine lv_bipush (v := (-101 : Int32)) hx hb dX10_as_8 (by decide) ?_
    subst he
    exact g_iret hx hb hr hlocks hX hq rfl dX10_as_10
