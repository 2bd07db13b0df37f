abbrev rm_X7_copyFrom_kept : Room := { frames := 0, cells := 0, slots := 0, locals := 0 }
set_option maxHeartbeats 4000000 in
set_option maxRecDepth 100000 in
theorem k_X7_copyFrom_kept {l : Launch} {D : va_G} {E : sE} {a : Nat → Nat} {cA : Nat → ClassId} {isCharted : Int32} {isKept : Int32} {hedgesRead : Int32} {evensDone : Int32} {plen : Int32} {number : Int32} {setCount : Int32} {standing : Int32} {turn : Int32} {cuts : Int32} {ssize : Int32} {kstanding : Int32} {kturn : Int32} {kcuts : Int32} {kssize : Int32} {seed : Int32} {whiteWon : Int32} {cutsDone : Int32} {lett : Nat → Int32} {onB : Nat → Int32} {abv : Nat → Int32} {sets : Nat → Int32} {kinds : Nat → Int32} {sbranches : Nat → Int32} {sbeginners : Nat → Int32} {swon : Nat → Int32} {kkinds : Nat → Int32} {ksbranches : Nat → Int32} {ksbeginners : Nat → Int32} {kswon : Nat → Int32} {lcuts : Nat → Int32} {valu : Nat → Int32} {won : Nat → Int64} {chance : Nat → Int64}   : ∀ q : Int32 × (Nat → Int32) × (Nat → Int32) × (Nat → Int32), q = f_X7_copyFrom_kept ssize kssize sbranches sbeginners swon ksbranches ksbeginners kswon → gMv l yX7_copyFrom wsX7_copyFrom rm_X7_copyFrom_kept D E (tG cA) [.ref (a 15), .ref (a 9)] (wG a cA isCharted isKept hedgesRead evensDone plen number setCount standing turn cuts ssize kstanding kturn kcuts kssize seed whiteWon cutsDone lett onB abv sets kinds sbranches sbeginners swon kkinds ksbranches ksbeginners kswon lcuts valu won chance) (wG a cA isCharted isKept hedgesRead evensDone plen number setCount standing turn cuts ssize kstanding kturn kcuts q.1 seed whiteWon cutsDone lett onB abv sets kinds sbranches sbeginners swon kkinds q.2.1 q.2.2.1 q.2.2.2 lcuts valu won chance) := by
  intro q he0
  refine gM_of (cc := cX7_copyFrom) (maxL := 3) (ret := none) (Qf := gQv D (wG a cA isCharted isKept hedgesRead evensDone plen number setCount standing turn cuts ssize kstanding kturn kcuts q.1 seed whiteWon cutsDone lett onB abv sets kinds sbranches sbeginners swon kkinds q.2.1 q.2.2.1 q.2.2.2 lcuts valu won chance)) (by decide) rfl (Nat.le_of_ble_eq_true rfl) ?_
  intro p e s m args below meth c Z ls Qz hx hb hr hml hlocks hown hts hS hX hl hq
  have he := he0.trans f_X7_copyFrom_kept_s
  have hown : s.vm.findClass RX7 = some m.cls := hown
  have hl : lv_has ls 3 [(0, .ref (a 15)), (1, .ref (a 9))] := hl
  have hi_X7 : ∀ w ∈ u_ws RX7 TX7 4, w ∈ wsX7_copyFrom := fun _ h => List.mem_cons_of_mem _ (List.mem_append_right _ h)
  have l_fieldLink_15 := hts (Cond.fieldLink RX7 15 "HedgeGame$Seen" "branches" "[I") (List.mem_of_getElem? (i := 2) rfl)
  have l_fieldLink_19 := hts (Cond.fieldLink RX7 19 "HedgeGame$Seen" "beginners" "[I") (List.mem_of_getElem? (i := 3) rfl)
  have l_fieldLink_22 := hts (Cond.fieldLink RX7 22 "HedgeGame$Seen" "won" "[Z") (List.mem_of_getElem? (i := 4) rfl)
  have l_fieldLink_9 := hts (Cond.fieldLink RX7 9 "HedgeGame$Seen" "size" "I") (List.mem_of_getElem? (i := 1) rfl)
  have t0 : ((0 : Int32)).toInt = 0 := rfl
  have t1 : ((1 : Int32)).toInt = 1 := rfl
  have t6 : ((6 : Int32)).toInt = 6 := rfl
  refine lv_aload_n hx hb dX7_copyFrom_0 rfl (lv_at hl 0 rfl) ?_
  refine lv_aload_n hx hb dX7_copyFrom_1 rfl (lv_at hl 1 rfl) ?_
  refine va_get (D := D) (ci := 7) (v := .int ssize) (C := RX7) (T := TX7) (N := 4) hx hb hts hi_X7 hown hS.1 hX.1 9 rfl rfl 0 (by decide) l_fieldLink_9 (fun _ h9 => h9) rfl dX7_copyFrom_2 ?_
  refine va_put (D := D) (ci := 7) (v := .int ssize) (ty := .int) (C := RX7) (T := TX7) (N := 4) hx hb hts hi_X7 tyX7 tyX7_ok nmX7 hown hS.1 hX.1 hX.2.1 hX.2.2 15 rfl rfl 0 (by decide) l_fieldLink_9 (fun _ h9 => h9) rfl (by decide +kernel) rfl rfl (Nat.le_of_ble_eq_true rfl) dX7_copyFrom_5 (fun H locs hP hD hs => ?_)
  have hX : gX D Z s (wG a cA isCharted isKept hedgesRead evensDone plen number setCount standing turn cuts ssize kstanding kturn kcuts ssize seed whiteWon cutsDone lett onB abv sets kinds sbranches sbeginners swon kkinds ksbranches ksbeginners kswon lcuts valu won chance) H locs := ⟨hP, hD, hs⟩
  refine lv_iconst (v := (0 : Int32)) hx hb dX7_copyFrom_8 (by decide) ?_
  refine lv_istore_n (lv' := [(2, .int (0 : Int32)), (0, .ref (a 15)), (1, .ref (a 9))]) hx hb dX7_copyFrom_9 rfl hl (by decide) rfl (fun ls hl => ?_)
  have L10_1 : ∀ (n_10_1 : Nat) (ksbranches_2 : Nat → Int32) (ksbeginners_3 : Nat → Int32) (kswon_4 : Nat → Int32) (x2_5 : Int32), 0 ≤ (x2_5).toInt ∧ (x2_5).toInt ≤ 6 → 6 - (x2_5).toInt < (n_10_1 : Int) → q = f_X7_copyFrom_kept_L10 n_10_1 ssize ssize sbranches sbeginners swon ksbranches_2 ksbeginners_3 kswon_4 x2_5 → ∀ (H : Heap) (locs : List Loc) (ls : Array Slot), gX D Z s (wG a cA isCharted isKept hedgesRead evensDone plen number setCount standing turn cuts ssize kstanding kturn kcuts ssize seed whiteWon cutsDone lett onB abv sets kinds sbranches sbeginners swon kkinds ksbranches_2 ksbeginners_3 kswon_4 lcuts valu won chance) H locs → lv_has ls 3 [(0, .ref (a 15)), (1, .ref (a 9)), (2, .int x2_5)] → W p l e rm_X7_copyFrom_kept s m args below meth c H locs 0 0 Qz (F0 m 10 ls []) := by
    intro n_10_1
    induction n_10_1 with
    | zero =>
      intro ksbranches_2 ksbeginners_3 kswon_4 x2_5 ia ifu _ _ _ _ _ _
      exfalso; omega
    | succ n_10_1 ih_L10_1 =>
      intro ksbranches_2 ksbeginners_3 kswon_4 x2_5 ia ifu he H locs ls hX hl
      have he := he.trans f_X7_copyFrom_kept_L10_s
      refine lv_iload_n hx hb dX7_copyFrom_10 rfl (lv_at hl 2 rfl) ?_
      refine lv_bipush (v := (6 : Int32)) hx hb dX7_copyFrom_11 (by decide) ?_
      refine lv_icmp_ge (tgt := 58) hx hb dX7_copyFrom_13 (by decide) (fun c13 => ?_) (fun c13 => ?_)
      · have he := he.trans (if_pos c13)
        have d13 := i_le c13
        subst he
        exact g_vret hx hb hr hlocks hX hq dX7_copyFrom_58
      · have he := he.trans (if_neg c13)
        have d13 := i_nle c13
        refine lv_aload_n hx hb dX7_copyFrom_16 rfl (lv_at hl 0 rfl) ?_
        refine va_get (D := D) (ci := 7) (v := .ref (a 16)) (C := RX7) (T := TX7) (N := 4) hx hb hts hi_X7 hown hS.1 hX.1 15 rfl rfl 1 (by decide) l_fieldLink_15 (fun _ h9 => h9) rfl dX7_copyFrom_17 ?_
        refine lv_iload_n hx hb dX7_copyFrom_20 rfl (lv_at hl 2 rfl) ?_
        refine lv_aload_n hx hb dX7_copyFrom_21 rfl (lv_at hl 1 rfl) ?_
        refine va_get (D := D) (ci := 7) (v := .ref (a 10)) (C := RX7) (T := TX7) (N := 4) hx hb hts hi_X7 hown hS.1 hX.1 9 rfl rfl 1 (by decide) l_fieldLink_15 (fun _ h9 => h9) rfl dX7_copyFrom_22 ?_
        refine lv_iload_n hx hb dX7_copyFrom_25 rfl (lv_at hl 2 rfl) ?_
        refine va_iald hx hb hS.1 hX.1 10 5 rfl rfl (vp_in_iff.mpr (by omega)) dX7_copyFrom_26 ?_
        refine va_iast hx hb hS.1 hX.1 hX.2.1 hX.2.2 16 9 rfl rfl (vp_in_iff.mpr (by omega)) dX7_copyFrom_27 (fun H locs hP hD hs => ?_)
        have hX : gX D Z s (wG a cA isCharted isKept hedgesRead evensDone plen number setCount standing turn cuts ssize kstanding kturn kcuts ssize seed whiteWon cutsDone lett onB abv sets kinds sbranches sbeginners swon kkinds (upd ksbranches_2 (x2_5).toNatClampNeg (sbranches (x2_5).toNatClampNeg)) ksbeginners_3 kswon_4 lcuts valu won chance) H locs := ⟨hP, hD, hs⟩
        refine lv_aload_n hx hb dX7_copyFrom_28 rfl (lv_at hl 0 rfl) ?_
        refine va_get (D := D) (ci := 7) (v := .ref (a 17)) (C := RX7) (T := TX7) (N := 4) hx hb hts hi_X7 hown hS.1 hX.1 15 rfl rfl 2 (by decide) l_fieldLink_19 (fun _ h9 => h9) rfl dX7_copyFrom_29 ?_
        refine lv_iload_n hx hb dX7_copyFrom_32 rfl (lv_at hl 2 rfl) ?_
        refine lv_aload_n hx hb dX7_copyFrom_33 rfl (lv_at hl 1 rfl) ?_
        refine va_get (D := D) (ci := 7) (v := .ref (a 11)) (C := RX7) (T := TX7) (N := 4) hx hb hts hi_X7 hown hS.1 hX.1 9 rfl rfl 2 (by decide) l_fieldLink_19 (fun _ h9 => h9) rfl dX7_copyFrom_34 ?_
        refine lv_iload_n hx hb dX7_copyFrom_37 rfl (lv_at hl 2 rfl) ?_
        refine va_iald hx hb hS.1 hX.1 11 6 rfl rfl (vp_in_iff.mpr (by omega)) dX7_copyFrom_38 ?_
        refine va_iast hx hb hS.1 hX.1 hX.2.1 hX.2.2 17 10 rfl rfl (vp_in_iff.mpr (by omega)) dX7_copyFrom_39 (fun H locs hP hD hs => ?_)
        have hX : gX D Z s (wG a cA isCharted isKept hedgesRead evensDone plen number setCount standing turn cuts ssize kstanding kturn kcuts ssize seed whiteWon cutsDone lett onB abv sets kinds sbranches sbeginners swon kkinds (upd ksbranches_2 (x2_5).toNatClampNeg (sbranches (x2_5).toNatClampNeg)) (upd ksbeginners_3 (x2_5).toNatClampNeg (sbeginners (x2_5).toNatClampNeg)) kswon_4 lcuts valu won chance) H locs := ⟨hP, hD, hs⟩
        refine lv_aload_n hx hb dX7_copyFrom_40 rfl (lv_at hl 0 rfl) ?_
        refine va_get (D := D) (ci := 7) (v := .ref (a 18)) (C := RX7) (T := TX7) (N := 4) hx hb hts hi_X7 hown hS.1 hX.1 15 rfl rfl 3 (by decide) l_fieldLink_22 (fun _ h9 => h9) rfl dX7_copyFrom_41 ?_
        refine lv_iload_n hx hb dX7_copyFrom_44 rfl (lv_at hl 2 rfl) ?_
        refine lv_aload_n hx hb dX7_copyFrom_45 rfl (lv_at hl 1 rfl) ?_
        refine va_get (D := D) (ci := 7) (v := .ref (a 12)) (C := RX7) (T := TX7) (N := 4) hx hb hts hi_X7 hown hS.1 hX.1 9 rfl rfl 3 (by decide) l_fieldLink_22 (fun _ h9 => h9) rfl dX7_copyFrom_46 ?_
        refine lv_iload_n hx hb dX7_copyFrom_49 rfl (lv_at hl 2 rfl) ?_
        refine va_zald hx hb hS.1 hX.1 12 7 rfl rfl (vp_in_iff.mpr (by omega)) dX7_copyFrom_50 ?_
        refine va_zast hx hb hS.1 hX.1 hX.2.1 hX.2.2 18 11 rfl rfl (vp_in_iff.mpr (by omega)) dX7_copyFrom_51 (fun H locs hP hD hs => ?_)
        have hX : gX D Z s (wG a cA isCharted isKept hedgesRead evensDone plen number setCount standing turn cuts ssize kstanding kturn kcuts ssize seed whiteWon cutsDone lett onB abv sets kinds sbranches sbeginners swon kkinds (upd ksbranches_2 (x2_5).toNatClampNeg (sbranches (x2_5).toNatClampNeg)) (upd ksbeginners_3 (x2_5).toNatClampNeg (sbeginners (x2_5).toNatClampNeg)) (upd kswon_4 (x2_5).toNatClampNeg (vp_nar .boolean (swon (x2_5).toNatClampNeg))) lcuts valu won chance) H locs := ⟨hP, hD, hs⟩
        refine lv_iinc (v := (x2_5 + (1 : Int32))) (lv' := [(2, .int (x2_5 + (1 : Int32))), (0, .ref (a 15)), (1, .ref (a 9))]) hx hb dX7_copyFrom_52 hl (k := 2) rfl rfl (by decide) rfl (fun ls hl => ?_)
        have s52 := i_s1 (x := x2_5) (by omega)
        refine lv_goto (tgt := 10) hx hb dX7_copyFrom_55 (by decide) ?_
        exact ih_L10_1 (upd ksbranches_2 (x2_5).toNatClampNeg (sbranches (x2_5).toNatClampNeg)) (upd ksbeginners_3 (x2_5).toNatClampNeg (sbeginners (x2_5).toNatClampNeg)) (upd kswon_4 (x2_5).toNatClampNeg (vp_nar .boolean (swon (x2_5).toNatClampNeg))) (x2_5 + (1 : Int32)) (by omega) (by omega) he _ _ _ hX (lv_sub hl [1, 2, 0] rfl)
  exact L10_1 7 ksbranches ksbeginners kswon (0 : Int32) (by omega) (by omega) he _ _ _ hX (lv_sub hl [1, 2, 0] rfl)
abbrev rm_X3_copyFrom_kept : Room := { frames := 1, cells := 0, slots := 0, locals := 48 }
set_option maxHeartbeats 4000000 in
set_option maxRecDepth 100000 in
theorem k_X3_copyFrom_kept {l : Launch} {D : va_G} {E : sE} {a : Nat → Nat} {cA : Nat → ClassId} {isCharted : Int32} {isKept : Int32} {hedgesRead : Int32} {evensDone : Int32} {plen : Int32} {number : Int32} {setCount : Int32} {standing : Int32} {turn : Int32} {cuts : Int32} {ssize : Int32} {kstanding : Int32} {kturn : Int32} {kcuts : Int32} {kssize : Int32} {seed : Int32} {whiteWon : Int32} {cutsDone : Int32} {lett : Nat → Int32} {onB : Nat → Int32} {abv : Nat → Int32} {sets : Nat → Int32} {kinds : Nat → Int32} {sbranches : Nat → Int32} {sbeginners : Nat → Int32} {swon : Nat → Int32} {kkinds : Nat → Int32} {ksbranches : Nat → Int32} {ksbeginners : Nat → Int32} {kswon : Nat → Int32} {lcuts : Nat → Int32} {valu : Nat → Int32} {won : Nat → Int64} {chance : Nat → Int64}   : ∀ q : Int32 × Int32 × Int32 × Int32 × (Nat → Int32) × (Nat → Int32) × (Nat → Int32) × (Nat → Int32), q = f_X3_copyFrom_kept standing turn cuts ssize kstanding kturn kcuts kssize kinds sbranches sbeginners swon kkinds ksbranches ksbeginners kswon → gMv l yX3_copyFrom wsX3_copyFrom rm_X3_copyFrom_kept D E (tG cA) [.ref (a 13), .ref (a 7)] (wG a cA isCharted isKept hedgesRead evensDone plen number setCount standing turn cuts ssize kstanding kturn kcuts kssize seed whiteWon cutsDone lett onB abv sets kinds sbranches sbeginners swon kkinds ksbranches ksbeginners kswon lcuts valu won chance) (wG a cA isCharted isKept hedgesRead evensDone plen number setCount standing turn cuts ssize q.1 q.2.1 q.2.2.1 q.2.2.2.1 seed whiteWon cutsDone lett onB abv sets kinds sbranches sbeginners swon q.2.2.2.2.1 q.2.2.2.2.2.1 q.2.2.2.2.2.2.1 q.2.2.2.2.2.2.2 lcuts valu won chance) := by
  intro q he0
  refine gM_of (cc := cX3_copyFrom) (maxL := 2) (ret := none) (Qf := gQv D (wG a cA isCharted isKept hedgesRead evensDone plen number setCount standing turn cuts ssize q.1 q.2.1 q.2.2.1 q.2.2.2.1 seed whiteWon cutsDone lett onB abv sets kinds sbranches sbeginners swon q.2.2.2.2.1 q.2.2.2.2.2.1 q.2.2.2.2.2.2.1 q.2.2.2.2.2.2.2 lcuts valu won chance)) (by decide) rfl (Nat.le_of_ble_eq_true rfl) ?_
  intro p e s m args below meth c Z ls Qz hx hb hr hml hlocks hown hts hS hX hl hq
  have he := he0.trans f_X3_copyFrom_kept_s
  have hown : s.vm.findClass RX3 = some m.cls := hown
  have hl : lv_has ls 2 [(0, .ref (a 13)), (1, .ref (a 7))] := hl
  have hi_X3 : ∀ w ∈ u_ws RX3 TX3 5, w ∈ wsX3_copyFrom := fun _ h => List.mem_cons_of_mem _ (List.mem_append_left _ (List.mem_append_right _ h))
  have l_fieldLink_15 := hts (Cond.fieldLink RX3 15 "HedgeGame$Moment" "standing" "I") (List.mem_of_getElem? (i := 6) rfl)
  have l_fieldLink_19 := hts (Cond.fieldLink RX3 19 "HedgeGame$Moment" "turn" "I") (List.mem_of_getElem? (i := 7) rfl)
  have l_fieldLink_22 := hts (Cond.fieldLink RX3 22 "HedgeGame$Moment" "cuts" "I") (List.mem_of_getElem? (i := 8) rfl)
  have l_fieldLink_28 := hts (Cond.fieldLink RX3 28 "HedgeGame$Moment" "seen" "LHedgeGame$Seen;") (List.mem_of_getElem? (i := 9) rfl)
  have l_fieldLink_9 := hts (Cond.fieldLink RX3 9 "HedgeGame$Moment" "kinds" "[I") (List.mem_of_getElem? (i := 1) rfl)
  have l_w_2 := hts (Cond.methodLink RX3 41 arraycopyName) (List.mem_of_getElem? (i := 2) rfl)
  have l_w_3 := hts (Cond.native arraycopyName) (List.mem_of_getElem? (i := 3) rfl)
  have l_w_4 := hts (Cond.static arraycopyName) (List.mem_of_getElem? (i := 4) rfl)
  have l_w_5 := hts (Cond.initialized "java/lang/System") (List.mem_of_getElem? (i := 5) rfl)
  have t0 : ((0 : Int32)).toInt = 0 := rfl
  have t1 : ((1 : Int32)).toInt = 1 := rfl
  have t8 : ((8 : Int32)).toInt = 8 := rfl
  refine lv_aload_n hx hb dX3_copyFrom_0 rfl (lv_at hl 1 rfl) ?_
  refine va_get (D := D) (ci := 3) (v := .ref (a 8)) (C := RX3) (T := TX3) (N := 5) hx hb hts hi_X3 hown hS.1 hX.1 7 rfl rfl 0 (by decide) l_fieldLink_9 (fun _ h9 => h9) rfl dX3_copyFrom_1 ?_
  refine lv_iconst (v := (0 : Int32)) hx hb dX3_copyFrom_4 (by decide) ?_
  refine lv_aload_n hx hb dX3_copyFrom_5 rfl (lv_at hl 0 rfl) ?_
  refine va_get (D := D) (ci := 3) (v := .ref (a 14)) (C := RX3) (T := TX3) (N := 5) hx hb hts hi_X3 hown hS.1 hX.1 13 rfl rfl 0 (by decide) l_fieldLink_9 (fun _ h9 => h9) rfl dX3_copyFrom_6 ?_
  refine lv_iconst (v := (0 : Int32)) hx hb dX3_copyFrom_9 (by decide) ?_
  refine lv_bipush (v := (8 : Int32)) hx hb dX3_copyFrom_10 (by decide) ?_
  refine va_copyi (ty := .int) hx hb (hml.trans hl.1.symm) hown l_w_2 l_w_3 l_w_4 l_w_5 hS.1 hX.1 hX.2.1 hX.2.2 8 14 4 8 rfl rfl rfl rfl rfl (by decide) (by decide) (by decide) (by decide) (by decide) (fun _ _ => rfl) (Nat.le_of_ble_eq_true rfl) (Nat.le_of_ble_eq_true rfl) dX3_copyFrom_12 (fun H locs hP hD hs => ?_)
  have hX : gX D Z s (wG a cA isCharted isKept hedgesRead evensDone plen number setCount standing turn cuts ssize kstanding kturn kcuts kssize seed whiteWon cutsDone lett onB abv sets kinds sbranches sbeginners swon (va_cpy kinds kkinds ((0 : Int32)).toNatClampNeg ((0 : Int32)).toNatClampNeg ((8 : Int32)).toNatClampNeg) ksbranches ksbeginners kswon lcuts valu won chance) H locs := ⟨hP, hD, hs⟩
  refine lv_aload_n hx hb dX3_copyFrom_15 rfl (lv_at hl 0 rfl) ?_
  refine lv_aload_n hx hb dX3_copyFrom_16 rfl (lv_at hl 1 rfl) ?_
  refine va_get (D := D) (ci := 3) (v := .int standing) (C := RX3) (T := TX3) (N := 5) hx hb hts hi_X3 hown hS.1 hX.1 7 rfl rfl 1 (by decide) l_fieldLink_15 (fun _ h9 => h9) rfl dX3_copyFrom_17 ?_
  refine va_put (D := D) (ci := 3) (v := .int standing) (ty := .int) (C := RX3) (T := TX3) (N := 5) hx hb hts hi_X3 tyX3 tyX3_ok nmX3 hown hS.1 hX.1 hX.2.1 hX.2.2 13 rfl rfl 1 (by decide) l_fieldLink_15 (fun _ h9 => h9) rfl (by decide +kernel) rfl rfl (Nat.le_of_ble_eq_true rfl) dX3_copyFrom_20 (fun H locs hP hD hs => ?_)
  have hX : gX D Z s (wG a cA isCharted isKept hedgesRead evensDone plen number setCount standing turn cuts ssize standing kturn kcuts kssize seed whiteWon cutsDone lett onB abv sets kinds sbranches sbeginners swon (va_cpy kinds kkinds ((0 : Int32)).toNatClampNeg ((0 : Int32)).toNatClampNeg ((8 : Int32)).toNatClampNeg) ksbranches ksbeginners kswon lcuts valu won chance) H locs := ⟨hP, hD, hs⟩
  refine lv_aload_n hx hb dX3_copyFrom_23 rfl (lv_at hl 0 rfl) ?_
  refine lv_aload_n hx hb dX3_copyFrom_24 rfl (lv_at hl 1 rfl) ?_
  refine va_get (D := D) (ci := 3) (v := .int turn) (C := RX3) (T := TX3) (N := 5) hx hb hts hi_X3 hown hS.1 hX.1 7 rfl rfl 2 (by decide) l_fieldLink_19 (fun _ h9 => h9) rfl dX3_copyFrom_25 ?_
  refine va_put (D := D) (ci := 3) (v := .int turn) (ty := .int) (C := RX3) (T := TX3) (N := 5) hx hb hts hi_X3 tyX3 tyX3_ok nmX3 hown hS.1 hX.1 hX.2.1 hX.2.2 13 rfl rfl 2 (by decide) l_fieldLink_19 (fun _ h9 => h9) rfl (by decide +kernel) rfl rfl (Nat.le_of_ble_eq_true rfl) dX3_copyFrom_28 (fun H locs hP hD hs => ?_)
  have hX : gX D Z s (wG a cA isCharted isKept hedgesRead evensDone plen number setCount standing turn cuts ssize standing turn kcuts kssize seed whiteWon cutsDone lett onB abv sets kinds sbranches sbeginners swon (va_cpy kinds kkinds ((0 : Int32)).toNatClampNeg ((0 : Int32)).toNatClampNeg ((8 : Int32)).toNatClampNeg) ksbranches ksbeginners kswon lcuts valu won chance) H locs := ⟨hP, hD, hs⟩
  refine lv_aload_n hx hb dX3_copyFrom_31 rfl (lv_at hl 0 rfl) ?_
  refine lv_aload_n hx hb dX3_copyFrom_32 rfl (lv_at hl 1 rfl) ?_
  refine va_get (D := D) (ci := 3) (v := .int cuts) (C := RX3) (T := TX3) (N := 5) hx hb hts hi_X3 hown hS.1 hX.1 7 rfl rfl 3 (by decide) l_fieldLink_22 (fun _ h9 => h9) rfl dX3_copyFrom_33 ?_
  refine va_put (D := D) (ci := 3) (v := .int cuts) (ty := .int) (C := RX3) (T := TX3) (N := 5) hx hb hts hi_X3 tyX3 tyX3_ok nmX3 hown hS.1 hX.1 hX.2.1 hX.2.2 13 rfl rfl 3 (by decide) l_fieldLink_22 (fun _ h9 => h9) rfl (by decide +kernel) rfl rfl (Nat.le_of_ble_eq_true rfl) dX3_copyFrom_36 (fun H locs hP hD hs => ?_)
  have hX : gX D Z s (wG a cA isCharted isKept hedgesRead evensDone plen number setCount standing turn cuts ssize standing turn cuts kssize seed whiteWon cutsDone lett onB abv sets kinds sbranches sbeginners swon (va_cpy kinds kkinds ((0 : Int32)).toNatClampNeg ((0 : Int32)).toNatClampNeg ((8 : Int32)).toNatClampNeg) ksbranches ksbeginners kswon lcuts valu won chance) H locs := ⟨hP, hD, hs⟩
  refine lv_aload_n hx hb dX3_copyFrom_39 rfl (lv_at hl 0 rfl) ?_
  refine va_get (D := D) (ci := 3) (v := .ref (a 15)) (C := RX3) (T := TX3) (N := 5) hx hb hts hi_X3 hown hS.1 hX.1 13 rfl rfl 4 (by decide) l_fieldLink_28 (fun _ h9 => h9) rfl dX3_copyFrom_40 ?_
  refine lv_aload_n hx hb dX3_copyFrom_43 rfl (lv_at hl 1 rfl) ?_
  refine va_get (D := D) (ci := 3) (v := .ref (a 9)) (C := RX3) (T := TX3) (N := 5) hx hb hts hi_X3 hown hS.1 hX.1 7 rfl rfl 4 (by decide) l_fieldLink_28 (fun _ h9 => h9) rfl dX3_copyFrom_44 ?_
  obtain ⟨z_1, e47⟩ : ∃ z, z = (f_X7_copyFrom_kept ssize kssize sbranches sbeginners swon ksbranches ksbeginners kswon) := ⟨_, rfl⟩
  rw [← e47] at he
  try dsimp only at he
  refine g_Vv (w2 := (wG a cA isCharted isKept hedgesRead evensDone plen number setCount standing turn cuts ssize standing turn cuts z_1.1 seed whiteWon cutsDone lett onB abv sets kinds sbranches sbeginners swon (va_cpy kinds kkinds ((0 : Int32)).toNatClampNeg ((0 : Int32)).toNatClampNeg ((8 : Int32)).toNatClampNeg) z_1.2.1 z_1.2.2.1 z_1.2.2.2 lcuts valu won chance)) (As := [.ref (a 9)]) (rest := []) (ci := 7) (q0 := 15) ⟨hx, hb, hml, hown, hts⟩ hS hX (k_X7_copyFrom_kept  z_1 e47) (cwV 1 hts gX3_copyFrom_X7_copyFrom rfl rfl rfl (by decide +kernel) ⟨Nat.le_of_ble_eq_true rfl, Nat.le_of_ble_eq_true rfl⟩) rfl rfl rfl hl.1 rfl (Nat.le_of_ble_eq_true rfl) dX3_copyFrom_47 ⟨Nat.zero_le _, Nat.zero_le _⟩ (fun H locs hX => ?_)
  subst he
  exact g_vret hx hb hr hlocks hX hq dX3_copyFrom_50
abbrev rm_X7_add_now : Room := { frames := 0, cells := 0, slots := 0, locals := 0 }
set_option maxHeartbeats 4000000 in
set_option maxRecDepth 100000 in
theorem k_X7_add_now {l : Launch} {D : va_G} {E : sE} {a : Nat → Nat} {cA : Nat → ClassId} {isCharted : Int32} {isKept : Int32} {hedgesRead : Int32} {evensDone : Int32} {plen : Int32} {number : Int32} {setCount : Int32} {standing : Int32} {turn : Int32} {cuts : Int32} {ssize : Int32} {kstanding : Int32} {kturn : Int32} {kcuts : Int32} {kssize : Int32} {seed : Int32} {whiteWon : Int32} {cutsDone : Int32} {lett : Nat → Int32} {onB : Nat → Int32} {abv : Nat → Int32} {sets : Nat → Int32} {kinds : Nat → Int32} {sbranches : Nat → Int32} {sbeginners : Nat → Int32} {swon : Nat → Int32} {kkinds : Nat → Int32} {ksbranches : Nat → Int32} {ksbeginners : Nat → Int32} {kswon : Nat → Int32} {lcuts : Nat → Int32} {valu : Nat → Int32} {won : Nat → Int64} {chance : Nat → Int64} (p1 : Int32) (p2 : Int32) (p3 : Int32) (hsz : 0 ≤ (ssize).toInt ∧ (ssize).toInt ≤ 6) : ∀ q : Int32 × (Nat → Int32) × (Nat → Int32) × (Nat → Int32), q = f_X7_add_now ssize sbranches sbeginners swon p1 p2 p3 → gMv l yX7_add wsX7_add rm_X7_add_now D E (tG cA) [.ref (a 9), .int p1, .int p2, .int p3] (wG a cA isCharted isKept hedgesRead evensDone plen number setCount standing turn cuts ssize kstanding kturn kcuts kssize seed whiteWon cutsDone lett onB abv sets kinds sbranches sbeginners swon kkinds ksbranches ksbeginners kswon lcuts valu won chance) (wG a cA isCharted isKept hedgesRead evensDone plen number setCount standing turn cuts q.1 kstanding kturn kcuts kssize seed whiteWon cutsDone lett onB abv sets kinds q.2.1 q.2.2.1 q.2.2.2 kkinds ksbranches ksbeginners kswon lcuts valu won chance) := by
  intro q he0
  refine gM_of (cc := cX7_add) (maxL := 4) (ret := none) (Qf := gQv D (wG a cA isCharted isKept hedgesRead evensDone plen number setCount standing turn cuts q.1 kstanding kturn kcuts kssize seed whiteWon cutsDone lett onB abv sets kinds q.2.1 q.2.2.1 q.2.2.2 kkinds ksbranches ksbeginners kswon lcuts valu won chance)) (by decide) rfl (Nat.le_of_ble_eq_true rfl) ?_
  intro p e s m args below meth c Z ls Qz hx hb hr hml hlocks hown hts hS hX hl hq
  have he := he0.trans f_X7_add_now_s
  have hown : s.vm.findClass RX7 = some m.cls := hown
  have hl : lv_has ls 4 [(0, .ref (a 9)), (1, .int p1), (2, .int p2), (3, .int p3)] := hl
  have hi_X7 : ∀ w ∈ u_ws RX7 TX7 4, w ∈ wsX7_add := fun _ h => List.mem_cons_of_mem _ (List.mem_append_right _ h)
  have l_fieldLink_15 := hts (Cond.fieldLink RX7 15 "HedgeGame$Seen" "branches" "[I") (List.mem_of_getElem? (i := 2) rfl)
  have l_fieldLink_19 := hts (Cond.fieldLink RX7 19 "HedgeGame$Seen" "beginners" "[I") (List.mem_of_getElem? (i := 3) rfl)
  have l_fieldLink_22 := hts (Cond.fieldLink RX7 22 "HedgeGame$Seen" "won" "[Z") (List.mem_of_getElem? (i := 4) rfl)
  have l_fieldLink_9 := hts (Cond.fieldLink RX7 9 "HedgeGame$Seen" "size" "I") (List.mem_of_getElem? (i := 1) rfl)
  have t0 : ((0 : Int32)).toInt = 0 := rfl
  have t1 : ((1 : Int32)).toInt = 1 := rfl
  have t6 : ((6 : Int32)).toInt = 6 := rfl
  refine lv_aload_n hx hb dX7_add_0 rfl (lv_at hl 0 rfl) ?_
  refine va_get (D := D) (ci := 7) (v := .int ssize) (C := RX7) (T := TX7) (N := 4) hx hb hts hi_X7 hown hS.1 hX.1 9 rfl rfl 0 (by decide) l_fieldLink_9 (fun _ h9 => h9) rfl dX7_add_1 ?_
  refine lv_bipush (v := (6 : Int32)) hx hb dX7_add_4 (by decide) ?_
  refine lv_icmp_ge (tgt := 49) hx hb dX7_add_6 (by decide) (fun c6 => ?_) (fun c6 => ?_)
  · have he := he.trans (if_pos c6)
    have d6 := i_le c6
    subst he
    exact g_vret hx hb hr hlocks hX hq dX7_add_49
  · have he := he.trans (if_neg c6)
    have d6 := i_nle c6
    refine lv_aload_n hx hb dX7_add_9 rfl (lv_at hl 0 rfl) ?_
    refine va_get (D := D) (ci := 7) (v := .ref (a 10)) (C := RX7) (T := TX7) (N := 4) hx hb hts hi_X7 hown hS.1 hX.1 9 rfl rfl 1 (by decide) l_fieldLink_15 (fun _ h9 => h9) rfl dX7_add_10 ?_
    refine lv_aload_n hx hb dX7_add_13 rfl (lv_at hl 0 rfl) ?_
    refine va_get (D := D) (ci := 7) (v := .int ssize) (C := RX7) (T := TX7) (N := 4) hx hb hts hi_X7 hown hS.1 hX.1 9 rfl rfl 0 (by decide) l_fieldLink_9 (fun _ h9 => h9) rfl dX7_add_14 ?_
    refine lv_iload_n hx hb dX7_add_17 rfl (lv_at hl 1 rfl) ?_
    refine va_iast hx hb hS.1 hX.1 hX.2.1 hX.2.2 10 5 rfl rfl (vp_in_iff.mpr (by omega)) dX7_add_18 (fun H locs hP hD hs => ?_)
    have hX : gX D Z s (wG a cA isCharted isKept hedgesRead evensDone plen number setCount standing turn cuts ssize kstanding kturn kcuts kssize seed whiteWon cutsDone lett onB abv sets kinds (upd sbranches (ssize).toNatClampNeg p1) sbeginners swon kkinds ksbranches ksbeginners kswon lcuts valu won chance) H locs := ⟨hP, hD, hs⟩
    refine lv_aload_n hx hb dX7_add_19 rfl (lv_at hl 0 rfl) ?_
    refine va_get (D := D) (ci := 7) (v := .ref (a 11)) (C := RX7) (T := TX7) (N := 4) hx hb hts hi_X7 hown hS.1 hX.1 9 rfl rfl 2 (by decide) l_fieldLink_19 (fun _ h9 => h9) rfl dX7_add_20 ?_
    refine lv_aload_n hx hb dX7_add_23 rfl (lv_at hl 0 rfl) ?_
    refine va_get (D := D) (ci := 7) (v := .int ssize) (C := RX7) (T := TX7) (N := 4) hx hb hts hi_X7 hown hS.1 hX.1 9 rfl rfl 0 (by decide) l_fieldLink_9 (fun _ h9 => h9) rfl dX7_add_24 ?_
    refine lv_iload_n hx hb dX7_add_27 rfl (lv_at hl 2 rfl) ?_
    refine va_iast hx hb hS.1 hX.1 hX.2.1 hX.2.2 11 6 rfl rfl (vp_in_iff.mpr (by omega)) dX7_add_28 (fun H locs hP hD hs => ?_)
    have hX : gX D Z s (wG a cA isCharted isKept hedgesRead evensDone plen number setCount standing turn cuts ssize kstanding kturn kcuts kssize seed whiteWon cutsDone lett onB abv sets kinds (upd sbranches (ssize).toNatClampNeg p1) (upd sbeginners (ssize).toNatClampNeg p2) swon kkinds ksbranches ksbeginners kswon lcuts valu won chance) H locs := ⟨hP, hD, hs⟩
    refine lv_aload_n hx hb dX7_add_29 rfl (lv_at hl 0 rfl) ?_
    refine va_get (D := D) (ci := 7) (v := .ref (a 12)) (C := RX7) (T := TX7) (N := 4) hx hb hts hi_X7 hown hS.1 hX.1 9 rfl rfl 3 (by decide) l_fieldLink_22 (fun _ h9 => h9) rfl dX7_add_30 ?_
    refine lv_aload_n hx hb dX7_add_33 rfl (lv_at hl 0 rfl) ?_
    refine va_get (D := D) (ci := 7) (v := .int ssize) (C := RX7) (T := TX7) (N := 4) hx hb hts hi_X7 hown hS.1 hX.1 9 rfl rfl 0 (by decide) l_fieldLink_9 (fun _ h9 => h9) rfl dX7_add_34 ?_
    refine lv_iload_n hx hb dX7_add_37 rfl (lv_at hl 3 rfl) ?_
    refine va_zast hx hb hS.1 hX.1 hX.2.1 hX.2.2 12 7 rfl rfl (vp_in_iff.mpr (by omega)) dX7_add_38 (fun H locs hP hD hs => ?_)
    have hX : gX D Z s (wG a cA isCharted isKept hedgesRead evensDone plen number setCount standing turn cuts ssize kstanding kturn kcuts kssize seed whiteWon cutsDone lett onB abv sets kinds (upd sbranches (ssize).toNatClampNeg p1) (upd sbeginners (ssize).toNatClampNeg p2) (upd swon (ssize).toNatClampNeg (vp_nar .boolean p3)) kkinds ksbranches ksbeginners kswon lcuts valu won chance) H locs := ⟨hP, hD, hs⟩
    refine lv_aload_n hx hb dX7_add_39 rfl (lv_at hl 0 rfl) ?_
    refine lv_dup hx hb dX7_add_40 rfl ?_
    refine va_get (D := D) (ci := 7) (v := .int ssize) (C := RX7) (T := TX7) (N := 4) hx hb hts hi_X7 hown hS.1 hX.1 9 rfl rfl 0 (by decide) l_fieldLink_9 (fun _ h9 => h9) rfl dX7_add_41 ?_
    refine lv_iconst (v := (1 : Int32)) hx hb dX7_add_44 (by decide) ?_
    refine lv_iadd hx hb dX7_add_45 ?_
    refine va_put (D := D) (ci := 7) (v := .int (ssize + (1 : Int32))) (ty := .int) (C := RX7) (T := TX7) (N := 4) hx hb hts hi_X7 tyX7 tyX7_ok nmX7 hown hS.1 hX.1 hX.2.1 hX.2.2 9 rfl rfl 0 (by decide) l_fieldLink_9 (fun _ h9 => h9) rfl (by decide +kernel) rfl rfl (Nat.le_of_ble_eq_true rfl) dX7_add_46 (fun H locs hP hD hs => ?_)
    have hX : gX D Z s (wG a cA isCharted isKept hedgesRead evensDone plen number setCount standing turn cuts (ssize + (1 : Int32)) kstanding kturn kcuts kssize seed whiteWon cutsDone lett onB abv sets kinds (upd sbranches (ssize).toNatClampNeg p1) (upd sbeginners (ssize).toNatClampNeg p2) (upd swon (ssize).toNatClampNeg (vp_nar .boolean p3)) kkinds ksbranches ksbeginners kswon lcuts valu won chance) H locs := ⟨hP, hD, hs⟩
    subst he
    exact g_vret hx hb hr hlocks hX hq dX7_add_49
abbrev rm_X10_hasNoHedge : Room := { frames := 0, cells := 0, slots := 0, locals := 0 }
set_option maxHeartbeats 4000000 in
set_option maxRecDepth 100000 in
theorem k_X10_hasNoHedge {l : Launch} {D : va_G} {E : sE} {a : Nat → Nat} {cA : Nat → ClassId} {isCharted : Int32} {isKept : Int32} {hedgesRead : Int32} {evensDone : Int32} {plen : Int32} {number : Int32} {setCount : Int32} {standing : Int32} {turn : Int32} {cuts : Int32} {ssize : Int32} {kstanding : Int32} {kturn : Int32} {kcuts : Int32} {kssize : Int32} {seed : Int32} {whiteWon : Int32} {cutsDone : Int32} {lett : Nat → Int32} {onB : Nat → Int32} {abv : Nat → Int32} {sets : Nat → Int32} {kinds : Nat → Int32} {sbranches : Nat → Int32} {sbeginners : Nat → Int32} {swon : Nat → Int32} {kkinds : Nat → Int32} {ksbranches : Nat → Int32} {ksbeginners : Nat → Int32} {kswon : Nat → Int32} {lcuts : Nat → Int32} {valu : Nat → Int32} {won : Nat → Int64} {chance : Nat → Int64}   : ∀ q : Int32, q = f_X10_hasNoHedge number → gMi l yX10_hasNoHedge wsX10_hasNoHedge rm_X10_hasNoHedge D E (tG cA) [.ref (a 0)] (wG a cA isCharted isKept hedgesRead evensDone plen number setCount standing turn cuts ssize kstanding kturn kcuts kssize seed whiteWon cutsDone lett onB abv sets kinds sbranches sbeginners swon kkinds ksbranches ksbeginners kswon lcuts valu won chance) (wG a cA isCharted isKept hedgesRead evensDone plen number setCount standing turn cuts ssize kstanding kturn kcuts kssize seed whiteWon cutsDone lett onB abv sets kinds sbranches sbeginners swon kkinds ksbranches ksbeginners kswon lcuts valu won chance) q := by
  intro q he0
  refine gM_of (cc := cX10_hasNoHedge) (maxL := 1) (ret := (some .boolean)) (Qf := gQi D (wG a cA isCharted isKept hedgesRead evensDone plen number setCount standing turn cuts ssize kstanding kturn kcuts kssize seed whiteWon cutsDone lett onB abv sets kinds sbranches sbeginners swon kkinds ksbranches ksbeginners kswon lcuts valu won chance) q) (by decide) rfl (Nat.le_of_ble_eq_true rfl) ?_
  intro p e s m args below meth c Z ls Qz hx hb hr hml hlocks hown hts hS hX hl hq
  have he := he0.trans f_X10_hasNoHedge_s
  have hown : s.vm.findClass RX10 = some m.cls := hown
  have hl : lv_has ls 1 [(0, .ref (a 0))] := hl
  have hi_X10 : ∀ w ∈ u_ws RX10 TX10 14, w ∈ wsX10_hasNoHedge := fun _ h => List.mem_cons_of_mem _ (List.mem_append_left _ (List.mem_append_right _ h))
  have hi_X8 : ∀ w ∈ u_ws RX8 TX8 5, w ∈ wsX10_hasNoHedge := fun _ h => List.mem_cons_of_mem _ (List.mem_append_right _ h)
  have l_fieldLink_19 := hts (Cond.fieldLink RX10 19 "HedgeGame" "shape" "LHedgeGame$Shape;") (List.mem_of_getElem? (i := 1) rfl)
  have t0 : ((0 : Int32)).toInt = 0 := rfl
  have t1 : ((1 : Int32)).toInt = 1 := rfl
  refine lv_aload_n hx hb dX10_hasNoHedge_0 rfl (lv_at hl 0 rfl) ?_
  refine va_get (D := D) (ci := 10) (v := .ref (a 3)) (C := RX10) (T := TX10) (N := 14) hx hb hts hi_X10 hown hS.1 hX.1 0 rfl rfl 1 (by decide) l_fieldLink_19 (fun _ h9 => h9) rfl dX10_hasNoHedge_1 ?_
  refine va_getN (D := D) (ci := 8) (v := .int number) (C := RX8) (T := TX8) (N := 5) hx hb hts hi_X8 hown hS.1 hX.1 3 rfl rfl 0 (by decide) (hS.2.1.get 5 rfl) (fun _ h9 => h9) rfl dX10_hasNoHedge_4 ?_
  refine lv_if_ne (tgt := 14) hx hb dX10_hasNoHedge_7 (by decide) (fun c7 => ?_) (fun c7 => ?_)
  · have he := he.trans (if_neg c7)
    have d7 := i_ne c7
    refine lv_iconst (v := (0 : Int32)) hx hb dX10_hasNoHedge_14 (by decide) ?_
    subst he
    exact g_zret hx hb hr rfl hlocks hX hq rfl dX10_hasNoHedge_15
  · have he := he.trans (if_pos c7)
    have d7 := i_eq c7
    refine lv_iconst (v := (1 : Int32)) hx hb dX10_hasNoHedge_10 (by decide) ?_
    refine lv_goto (tgt := 15) hx hb dX10_hasNoHedge_11 (by decide) ?_
    subst he
    exact g_zret hx hb hr rfl hlocks hX hq rfl dX10_hasNoHedge_15
abbrev rm_X10_isUnknown : Room := { frames := 0, cells := 0, slots := 0, locals := 0 }
set_option maxHeartbeats 4000000 in
set_option maxRecDepth 100000 in
theorem k_X10_isUnknown {l : Launch} {D : va_G} {E : sE} {a : Nat → Nat} {cA : Nat → ClassId} {isCharted : Int32} {isKept : Int32} {hedgesRead : Int32} {evensDone : Int32} {plen : Int32} {number : Int32} {setCount : Int32} {standing : Int32} {turn : Int32} {cuts : Int32} {ssize : Int32} {kstanding : Int32} {kturn : Int32} {kcuts : Int32} {kssize : Int32} {seed : Int32} {whiteWon : Int32} {cutsDone : Int32} {lett : Nat → Int32} {onB : Nat → Int32} {abv : Nat → Int32} {sets : Nat → Int32} {kinds : Nat → Int32} {sbranches : Nat → Int32} {sbeginners : Nat → Int32} {swon : Nat → Int32} {kkinds : Nat → Int32} {ksbranches : Nat → Int32} {ksbeginners : Nat → Int32} {kswon : Nat → Int32} {lcuts : Nat → Int32} {valu : Nat → Int32} {won : Nat → Int64} {chance : Nat → Int64} (p1 : Int32) (hnm : 0 ≤ (number).toInt ∧ (number).toInt ≤ 8) : ∀ q : Int32, q = f_X10_isUnknown number p1 → gMi l yX10_isUnknown wsX10_isUnknown rm_X10_isUnknown D E (tG cA) [.ref (a 0), .int p1] (wG a cA isCharted isKept hedgesRead evensDone plen number setCount standing turn cuts ssize kstanding kturn kcuts kssize seed whiteWon cutsDone lett onB abv sets kinds sbranches sbeginners swon kkinds ksbranches ksbeginners kswon lcuts valu won chance) (wG a cA isCharted isKept hedgesRead evensDone plen number setCount standing turn cuts ssize kstanding kturn kcuts kssize seed whiteWon cutsDone lett onB abv sets kinds sbranches sbeginners swon kkinds ksbranches ksbeginners kswon lcuts valu won chance) q := by
  intro q he0
  refine gM_of (cc := cX10_isUnknown) (maxL := 2) (ret := (some .boolean)) (Qf := gQi D (wG a cA isCharted isKept hedgesRead evensDone plen number setCount standing turn cuts ssize kstanding kturn kcuts kssize seed whiteWon cutsDone lett onB abv sets kinds sbranches sbeginners swon kkinds ksbranches ksbeginners kswon lcuts valu won chance) q) (by decide) rfl (Nat.le_of_ble_eq_true rfl) ?_
  intro p e s m args below meth c Z ls Qz hx hb hr hml hlocks hown hts hS hX hl hq
  have he := he0.trans f_X10_isUnknown_s
  have hown : s.vm.findClass RX10 = some m.cls := hown
  have hl : lv_has ls 2 [(0, .ref (a 0)), (1, .int p1)] := hl
  have hi_X10 : ∀ w ∈ u_ws RX10 TX10 14, w ∈ wsX10_isUnknown := fun _ h => List.mem_cons_of_mem _ (List.mem_append_left _ (List.mem_append_right _ h))
  have hi_X8 : ∀ w ∈ u_ws RX8 TX8 5, w ∈ wsX10_isUnknown := fun _ h => List.mem_cons_of_mem _ (List.mem_append_right _ h)
  have l_fieldLink_19 := hts (Cond.fieldLink RX10 19 "HedgeGame" "shape" "LHedgeGame$Shape;") (List.mem_of_getElem? (i := 1) rfl)
  have t0 : ((0 : Int32)).toInt = 0 := rfl
  have t1 : ((1 : Int32)).toInt = 1 := rfl
  refine lv_iload_n hx hb dX10_isUnknown_0 rfl (lv_at hl 1 rfl) ?_
  refine lv_if_lt (tgt := 15) hx hb dX10_isUnknown_1 (by decide) (fun c1 => ?_) (fun c1 => ?_)
  · have he := he.trans (if_pos c1)
    have d1 := i_lt c1
    refine lv_iconst (v := (1 : Int32)) hx hb dX10_isUnknown_15 (by decide) ?_
    refine lv_goto (tgt := 20) hx hb dX10_isUnknown_16 (by decide) ?_
    subst he
    exact g_zret hx hb hr rfl hlocks hX hq rfl dX10_isUnknown_20
  · have he := he.trans (if_neg c1)
    have d1 := i_nlt c1
    refine lv_iload_n hx hb dX10_isUnknown_4 rfl (lv_at hl 1 rfl) ?_
    refine lv_aload_n hx hb dX10_isUnknown_5 rfl (lv_at hl 0 rfl) ?_
    refine va_get (D := D) (ci := 10) (v := .ref (a 3)) (C := RX10) (T := TX10) (N := 14) hx hb hts hi_X10 hown hS.1 hX.1 0 rfl rfl 1 (by decide) l_fieldLink_19 (fun _ h9 => h9) rfl dX10_isUnknown_6 ?_
    refine va_getN (D := D) (ci := 8) (v := .int number) (C := RX8) (T := TX8) (N := 5) hx hb hts hi_X8 hown hS.1 hX.1 3 rfl rfl 0 (by decide) (hS.2.1.get 5 rfl) (fun _ h9 => h9) rfl dX10_isUnknown_9 ?_
    refine lv_icmp_lt (tgt := 19) hx hb dX10_isUnknown_12 (by decide) (fun c12 => ?_) (fun c12 => ?_)
    · have he := he.trans (if_pos c12)
      have d12 := i_lt c12
      refine lv_iconst (v := (0 : Int32)) hx hb dX10_isUnknown_19 (by decide) ?_
      subst he
      exact g_zret hx hb hr rfl hlocks hX hq rfl dX10_isUnknown_20
    · have he := he.trans (if_neg c12)
      have d12 := i_nlt c12
      refine lv_iconst (v := (1 : Int32)) hx hb dX10_isUnknown_15 (by decide) ?_
      refine lv_goto (tgt := 20) hx hb dX10_isUnknown_16 (by decide) ?_
      subst he
      exact g_zret hx hb hr rfl hlocks hX hq rfl dX10_isUnknown_20
abbrev rm_X10_letter : Room := { frames := 1, cells := 0, slots := 0, locals := 21 }
set_option maxHeartbeats 4000000 in
set_option maxRecDepth 100000 in
theorem k_X10_letter {l : Launch} {D : va_G} {E : sE} {a : Nat → Nat} {cA : Nat → ClassId} {isCharted : Int32} {isKept : Int32} {hedgesRead : Int32} {evensDone : Int32} {plen : Int32} {number : Int32} {setCount : Int32} {standing : Int32} {turn : Int32} {cuts : Int32} {ssize : Int32} {kstanding : Int32} {kturn : Int32} {kcuts : Int32} {kssize : Int32} {seed : Int32} {whiteWon : Int32} {cutsDone : Int32} {lett : Nat → Int32} {onB : Nat → Int32} {abv : Nat → Int32} {sets : Nat → Int32} {kinds : Nat → Int32} {sbranches : Nat → Int32} {sbeginners : Nat → Int32} {swon : Nat → Int32} {kkinds : Nat → Int32} {ksbranches : Nat → Int32} {ksbeginners : Nat → Int32} {kswon : Nat → Int32} {lcuts : Nat → Int32} {valu : Nat → Int32} {won : Nat → Int64} {chance : Nat → Int64} (p1 : Int32) (hlp : 0 ≤ (plen).toInt ∧ (plen).toInt ≤ 26) : ∀ q : Int32 × Int32 × (Nat → Int32), q = f_X10_letter plen lett p1 → gMi l yX10_letter wsX10_letter rm_X10_letter D E (tG cA) [.ref (a 0), .int p1] (wG a cA isCharted isKept hedgesRead evensDone plen number setCount standing turn cuts ssize kstanding kturn kcuts kssize seed whiteWon cutsDone lett onB abv sets kinds sbranches sbeginners swon kkinds ksbranches ksbeginners kswon lcuts valu won chance) (wG a cA isCharted isKept hedgesRead evensDone q.2.1 number setCount standing turn cuts ssize kstanding kturn kcuts kssize seed whiteWon cutsDone q.2.2 onB abv sets kinds sbranches sbeginners swon kkinds ksbranches ksbeginners kswon lcuts valu won chance) q.1 := by
  intro q he0
  refine gM_of (cc := cX10_letter) (maxL := 2) (ret := (some .int)) (Qf := gQi D (wG a cA isCharted isKept hedgesRead evensDone q.2.1 number setCount standing turn cuts ssize kstanding kturn kcuts kssize seed whiteWon cutsDone q.2.2 onB abv sets kinds sbranches sbeginners swon kkinds ksbranches ksbeginners kswon lcuts valu won chance) q.1) (by decide) rfl (Nat.le_of_ble_eq_true rfl) ?_
  intro p e s m args below meth c Z ls Qz hx hb hr hml hlocks hown hts hS hX hl hq
  have he := he0.trans f_X10_letter_s
  have hown : s.vm.findClass RX10 = some m.cls := hown
  have hl : lv_has ls 2 [(0, .ref (a 0)), (1, .int p1)] := hl
  have hi_X10 : ∀ w ∈ u_ws RX10 TX10 14, w ∈ wsX10_letter := fun _ h => List.mem_cons_of_mem _ (List.mem_append_left _ (List.mem_append_right _ h))
  have l_fieldLink_10 := hts (Cond.fieldLink RX10 10 "HedgeGame" "page" "LHedgeGame$Page;") (List.mem_of_getElem? (i := 1) rfl)
  have tm104 : ((-104 : Int32)).toInt = -104 := rfl
  have tm102 : ((-102 : Int32)).toInt = -102 := rfl
  have t0 : ((0 : Int32)).toInt = 0 := rfl
  have t1 : ((1 : Int32)).toInt = 1 := rfl
  have t26 : ((26 : Int32)).toInt = 26 := rfl
  have t32 : ((32 : Int32)).toInt = 32 := rfl
  have t126 : ((126 : Int32)).toInt = 126 := rfl
  refine lv_iload_n hx hb dX10_letter_0 rfl (lv_at hl 1 rfl) ?_
  refine lv_bipush (v := (32 : Int32)) hx hb dX10_letter_1 (by decide) ?_
  refine lv_icmp_lt (tgt := 12) hx hb dX10_letter_3 (by decide) (fun c3 => ?_) (fun c3 => ?_)
  · have he := he.trans (if_pos c3)
    have d3 := i_lt c3
    refine lv_bipush (v := (-102 : Int32)) hx hb dX10_letter_12 (by decide) ?_
    subst he
    exact g_iret hx hb hr hlocks hX hq rfl dX10_letter_14
  · have he := he.trans (if_neg c3)
    have d3 := i_nlt c3
    refine lv_iload_n hx hb dX10_letter_6 rfl (lv_at hl 1 rfl) ?_
    refine lv_bipush (v := (126 : Int32)) hx hb dX10_letter_7 (by decide) ?_
    refine lv_icmp_le (tgt := 15) hx hb dX10_letter_9 (by decide) (fun c9 => ?_) (fun c9 => ?_)
    · have he := he.trans (if_pos c9)
      have d9 := i_le c9
      refine lv_aload_n hx hb dX10_letter_15 rfl (lv_at hl 0 rfl) ?_
      refine va_get (D := D) (ci := 10) (v := .ref (a 1)) (C := RX10) (T := TX10) (N := 14) hx hb hts hi_X10 hown hS.1 hX.1 0 rfl rfl 0 (by decide) l_fieldLink_10 (fun _ h9 => h9) rfl dX10_letter_16 ?_
      obtain ⟨r_1, e19⟩ : ∃ z, z = (f_X5_size plen) := ⟨_, rfl⟩
      rw [← e19] at he
      refine g_Vi (r := r_1) (As := []) (rest := []) (ci := 5) (q0 := 1) ⟨hx, hb, hml, hown, hts⟩ hS hX (k_X5_size  r_1 e19) (cwV 0 hts gX10_letter_X5_size rfl rfl rfl (by decide +kernel) ⟨Nat.le_of_ble_eq_true rfl, Nat.le_of_ble_eq_true rfl⟩) rfl rfl rfl hl.1 rfl (Nat.le_of_ble_eq_true rfl) dX10_letter_19 ⟨Nat.zero_le _, Nat.zero_le _⟩ (fun H locs hX => ?_)
      have k19_0 : (r_1).toInt = (plen).toInt := by rw [e19]; exact rfl
      refine lv_bipush (v := (26 : Int32)) hx hb dX10_letter_22 (by decide) ?_
      refine lv_icmp_lt (tgt := 30) hx hb dX10_letter_24 (by decide) (fun c24 => ?_) (fun c24 => ?_)
      · have he := he.trans (if_pos c24)
        have d24 := i_lt c24
        refine lv_aload_n hx hb dX10_letter_30 rfl (lv_at hl 0 rfl) ?_
        refine va_get (D := D) (ci := 10) (v := .ref (a 1)) (C := RX10) (T := TX10) (N := 14) hx hb hts hi_X10 hown hS.1 hX.1 0 rfl rfl 0 (by decide) l_fieldLink_10 (fun _ h9 => h9) rfl dX10_letter_31 ?_
        refine lv_iload_n hx hb dX10_letter_34 rfl (lv_at hl 1 rfl) ?_
        refine lv_i2c hx hb dX10_letter_35 rfl ?_
        obtain ⟨z_2, e36⟩ : ∃ z, z = (f_X5_add plen lett (((p1).toUInt32 % 65536).toInt32)) := ⟨_, rfl⟩
        rw [← e36] at he
        try dsimp only at he
        refine g_Vv (w2 := (wG a cA isCharted isKept hedgesRead evensDone z_2.1 number setCount standing turn cuts ssize kstanding kturn kcuts kssize seed whiteWon cutsDone z_2.2 onB abv sets kinds sbranches sbeginners swon kkinds ksbranches ksbeginners kswon lcuts valu won chance)) (As := [.int (((p1).toUInt32 % 65536).toInt32)]) (rest := []) (ci := 5) (q0 := 1) ⟨hx, hb, hml, hown, hts⟩ hS hX (k_X5_add (((p1).toUInt32 % 65536).toInt32) (by omega) z_2 e36) (cwV 1 hts gX10_letter_X5_add rfl rfl rfl (by decide +kernel) ⟨Nat.le_of_ble_eq_true rfl, Nat.le_of_ble_eq_true rfl⟩) rfl rfl rfl hl.1 rfl (Nat.le_of_ble_eq_true rfl) dX10_letter_36 ⟨Nat.zero_le _, Nat.zero_le _⟩ (fun H locs hX => ?_)
        refine lv_aload_n hx hb dX10_letter_39 rfl (lv_at hl 0 rfl) ?_
        refine va_get (D := D) (ci := 10) (v := .ref (a 1)) (C := RX10) (T := TX10) (N := 14) hx hb hts hi_X10 hown hS.1 hX.1 0 rfl rfl 0 (by decide) l_fieldLink_10 (fun _ h9 => h9) rfl dX10_letter_40 ?_
        obtain ⟨r_3, e43⟩ : ∃ z, z = (f_X5_size z_2.1) := ⟨_, rfl⟩
        rw [← e43] at he
        refine g_Vi (r := r_3) (As := []) (rest := []) (ci := 5) (q0 := 1) ⟨hx, hb, hml, hown, hts⟩ hS hX (k_X5_size  r_3 e43) (cwV 0 hts gX10_letter_X5_size rfl rfl rfl (by decide +kernel) ⟨Nat.le_of_ble_eq_true rfl, Nat.le_of_ble_eq_true rfl⟩) rfl rfl rfl hl.1 rfl (Nat.le_of_ble_eq_true rfl) dX10_letter_43 ⟨Nat.zero_le _, Nat.zero_le _⟩ (fun H locs hX => ?_)
        have k43_0 : (r_3).toInt = (z_2.1).toInt := by rw [e43]; exact rfl
        subst he
        exact g_iret hx hb hr hlocks hX hq rfl dX10_letter_46
      · have he := he.trans (if_neg c24)
        have d24 := i_nlt c24
        refine lv_bipush (v := (-104 : Int32)) hx hb dX10_letter_27 (by decide) ?_
        subst he
        exact g_iret hx hb hr hlocks hX hq rfl dX10_letter_29
    · have he := he.trans (if_neg c9)
      have d9 := i_nle c9
      refine lv_bipush (v := (-102 : Int32)) hx hb dX10_letter_12 (by decide) ?_
      subst he
      exact g_iret hx hb hr hlocks hX hq rfl dX10_letter_14
abbrev rm_X10_blank : Room := { frames := 1, cells := 0, slots := 0, locals := 20 }
set_option maxHeartbeats 4000000 in
set_option maxRecDepth 100000 in
theorem k_X10_blank {l : Launch} {D : va_G} {E : sE} {a : Nat → Nat} {cA : Nat → ClassId} {isCharted : Int32} {isKept : Int32} {hedgesRead : Int32} {evensDone : Int32} {plen : Int32} {number : Int32} {setCount : Int32} {standing : Int32} {turn : Int32} {cuts : Int32} {ssize : Int32} {kstanding : Int32} {kturn : Int32} {kcuts : Int32} {kssize : Int32} {seed : Int32} {whiteWon : Int32} {cutsDone : Int32} {lett : Nat → Int32} {onB : Nat → Int32} {abv : Nat → Int32} {sets : Nat → Int32} {kinds : Nat → Int32} {sbranches : Nat → Int32} {sbeginners : Nat → Int32} {swon : Nat → Int32} {kkinds : Nat → Int32} {ksbranches : Nat → Int32} {ksbeginners : Nat → Int32} {kswon : Nat → Int32} {lcuts : Nat → Int32} {valu : Nat → Int32} {won : Nat → Int64} {chance : Nat → Int64}   : ∀ q : Int32 × Int32, q = f_X10_blank plen → gMi l yX10_blank wsX10_blank rm_X10_blank D E (tG cA) [.ref (a 0)] (wG a cA isCharted isKept hedgesRead evensDone plen number setCount standing turn cuts ssize kstanding kturn kcuts kssize seed whiteWon cutsDone lett onB abv sets kinds sbranches sbeginners swon kkinds ksbranches ksbeginners kswon lcuts valu won chance) (wG a cA isCharted isKept hedgesRead evensDone q.2 number setCount standing turn cuts ssize kstanding kturn kcuts kssize seed whiteWon cutsDone lett onB abv sets kinds sbranches sbeginners swon kkinds ksbranches ksbeginners kswon lcuts valu won chance) q.1 := by
  intro q he0
  refine gM_of (cc := cX10_blank) (maxL := 2) (ret := (some .int)) (Qf := gQi D (wG a cA isCharted isKept hedgesRead evensDone q.2 number setCount standing turn cuts ssize kstanding kturn kcuts kssize seed whiteWon cutsDone lett onB abv sets kinds sbranches sbeginners swon kkinds ksbranches ksbeginners kswon lcuts valu won chance) q.1) (by decide) rfl (Nat.le_of_ble_eq_true rfl) ?_
  intro p e s m args below meth c Z ls Qz hx hb hr hml hlocks hown hts hS hX hl hq
  have he := he0.trans f_X10_blank_s
  have hown : s.vm.findClass RX10 = some m.cls := hown
  have hl : lv_has ls 2 [(0, .ref (a 0))] := hl
  have hi_X10 : ∀ w ∈ u_ws RX10 TX10 14, w ∈ wsX10_blank := fun _ h => List.mem_cons_of_mem _ (List.mem_append_left _ (List.mem_append_right _ h))
  have l_fieldLink_10 := hts (Cond.fieldLink RX10 10 "HedgeGame" "page" "LHedgeGame$Page;") (List.mem_of_getElem? (i := 1) rfl)
  have t0 : ((0 : Int32)).toInt = 0 := rfl
  have t1 : ((1 : Int32)).toInt = 1 := rfl
  refine lv_aload_n hx hb dX10_blank_0 rfl (lv_at hl 0 rfl) ?_
  refine va_get (D := D) (ci := 10) (v := .ref (a 1)) (C := RX10) (T := TX10) (N := 14) hx hb hts hi_X10 hown hS.1 hX.1 0 rfl rfl 0 (by decide) l_fieldLink_10 (fun _ h9 => h9) rfl dX10_blank_1 ?_
  obtain ⟨r_1, e4⟩ : ∃ z, z = (f_X5_size plen) := ⟨_, rfl⟩
  rw [← e4] at he
  refine g_Vi (r := r_1) (As := []) (rest := []) (ci := 5) (q0 := 1) ⟨hx, hb, hml, hown, hts⟩ hS hX (k_X5_size  r_1 e4) (cwV 0 hts gX10_blank_X5_size rfl rfl rfl (by decide +kernel) ⟨Nat.le_of_ble_eq_true rfl, Nat.le_of_ble_eq_true rfl⟩) rfl rfl rfl hl.1 rfl (Nat.le_of_ble_eq_true rfl) dX10_blank_4 ⟨Nat.zero_le _, Nat.zero_le _⟩ (fun H locs hX => ?_)
  have k4_0 : (r_1).toInt = (plen).toInt := by rw [e4]; exact rfl
  refine lv_istore_n (lv' := [(1, .int r_1), (0, .ref (a 0))]) hx hb dX10_blank_7 rfl hl (by decide) rfl (fun ls hl => ?_)
  refine lv_aload_n hx hb dX10_blank_8 rfl (lv_at hl 1 rfl) ?_
  refine va_get (D := D) (ci := 10) (v := .ref (a 1)) (C := RX10) (T := TX10) (N := 14) hx hb hts hi_X10 hown hS.1 hX.1 0 rfl rfl 0 (by decide) l_fieldLink_10 (fun _ h9 => h9) rfl dX10_blank_9 ?_
  obtain ⟨plen_2, e12⟩ : ∃ z, z = (f_X5_wipe plen) := ⟨_, rfl⟩
  rw [← e12] at he
  refine g_Vv (w2 := (wG a cA isCharted isKept hedgesRead evensDone plen_2 number setCount standing turn cuts ssize kstanding kturn kcuts kssize seed whiteWon cutsDone lett onB abv sets kinds sbranches sbeginners swon kkinds ksbranches ksbeginners kswon lcuts valu won chance)) (As := []) (rest := []) (ci := 5) (q0 := 1) ⟨hx, hb, hml, hown, hts⟩ hS hX (k_X5_wipe  plen_2 e12) (cwV 0 hts gX10_blank_X5_wipe rfl rfl rfl (by decide +kernel) ⟨Nat.le_of_ble_eq_true rfl, Nat.le_of_ble_eq_true rfl⟩) rfl rfl rfl hl.1 rfl (Nat.le_of_ble_eq_true rfl) dX10_blank_12 ⟨Nat.zero_le _, Nat.zero_le _⟩ (fun H locs hX => ?_)
  refine lv_iload_n hx hb dX10_blank_15 rfl (lv_at hl 0 rfl) ?_
  subst he
  exact g_iret hx hb hr hlocks hX hq rfl dX10_blank_16
abbrev rm_X10_fault : Room := { frames := 6, cells := 0, slots := 0, locals := 134 }
set_option maxHeartbeats 4000000 in
set_option maxRecDepth 100000 in
theorem k_X10_fault {l : Launch} {D : va_G} {E : sE} {a : Nat → Nat} {cA : Nat → ClassId} {isCharted : Int32} {isKept : Int32} {hedgesRead : Int32} {evensDone : Int32} {plen : Int32} {number : Int32} {setCount : Int32} {standing : Int32} {turn : Int32} {cuts : Int32} {ssize : Int32} {kstanding : Int32} {kturn : Int32} {kcuts : Int32} {kssize : Int32} {seed : Int32} {whiteWon : Int32} {cutsDone : Int32} {lett : Nat → Int32} {onB : Nat → Int32} {abv : Nat → Int32} {sets : Nat → Int32} {kinds : Nat → Int32} {sbranches : Nat → Int32} {sbeginners : Nat → Int32} {swon : Nat → Int32} {kkinds : Nat → Int32} {ksbranches : Nat → Int32} {ksbeginners : Nat → Int32} {kswon : Nat → Int32} {lcuts : Nat → Int32} {valu : Nat → Int32} {won : Nat → Int64} {chance : Nat → Int64}  (hlp : 0 ≤ (plen).toInt ∧ (plen).toInt ≤ 26) (hlc : ∀ k : Nat, 0 ≤ (lett k).toInt ∧ (lett k).toInt < 128) : ∀ q : Int32, q = f_X10_fault plen lett → gMi l yX10_fault wsX10_fault rm_X10_fault D E (tG cA) [.ref (a 0)] (wG a cA isCharted isKept hedgesRead evensDone plen number setCount standing turn cuts ssize kstanding kturn kcuts kssize seed whiteWon cutsDone lett onB abv sets kinds sbranches sbeginners swon kkinds ksbranches ksbeginners kswon lcuts valu won chance) (wG a cA isCharted isKept hedgesRead evensDone plen number setCount standing turn cuts ssize kstanding kturn kcuts kssize seed whiteWon cutsDone lett onB abv sets kinds sbranches sbeginners swon kkinds ksbranches ksbeginners kswon lcuts valu won chance) q := by
  intro q he0
  refine gM_of (cc := cX10_fault) (maxL := 1) (ret := (some .int)) (Qf := gQi D (wG a cA isCharted isKept hedgesRead evensDone plen number setCount standing turn cuts ssize kstanding kturn kcuts kssize seed whiteWon cutsDone lett onB abv sets kinds sbranches sbeginners swon kkinds ksbranches ksbeginners kswon lcuts valu won chance) q) (by decide) rfl (Nat.le_of_ble_eq_true rfl) ?_
  intro p e s m args below meth c Z ls Qz hx hb hr hml hlocks hown hts hS hX hl hq
  have he := he0.trans f_X10_fault_s
  have hown : s.vm.findClass RX10 = some m.cls := hown
  have hl : lv_has ls 1 [(0, .ref (a 0))] := hl
  have hi_X10 : ∀ w ∈ u_ws RX10 TX10 14, w ∈ wsX10_fault := fun _ h => List.mem_cons_of_mem _ (List.mem_append_left _ (List.mem_append_right _ h))
  have l_fieldLink_10 := hts (Cond.fieldLink RX10 10 "HedgeGame" "page" "LHedgeGame$Page;") (List.mem_of_getElem? (i := 1) rfl)
  have t0 : ((0 : Int32)).toInt = 0 := rfl
  have t1 : ((1 : Int32)).toInt = 1 := rfl
  refine lv_aload_n hx hb dX10_fault_0 rfl (lv_at hl 0 rfl) ?_
  refine va_get (D := D) (ci := 10) (v := .ref (a 1)) (C := RX10) (T := TX10) (N := 14) hx hb hts hi_X10 hown hS.1 hX.1 0 rfl rfl 0 (by decide) l_fieldLink_10 (fun _ h9 => h9) rfl dX10_fault_1 ?_
  obtain ⟨r_1, e4⟩ : ∃ z, z = (f_X5_firstWrong plen lett) := ⟨_, rfl⟩
  rw [← e4] at he
  refine g_Vi (r := r_1) (As := []) (rest := []) (ci := 5) (q0 := 1) ⟨hx, hb, hml, hown, hts⟩ hS hX (k_X5_firstWrong (by omega) (by assumption) r_1 e4) (cwV 0 hts gX10_fault_X5_firstWrong rfl rfl rfl (by decide +kernel) ⟨Nat.le_of_ble_eq_true rfl, Nat.le_of_ble_eq_true rfl⟩) rfl rfl rfl hl.1 rfl (Nat.le_of_ble_eq_true rfl) dX10_fault_4 ⟨Nat.zero_le _, Nat.zero_le _⟩ (fun H locs hX => ?_)
  subst he
  exact g_iret hx hb hr hlocks hX hq rfl dX10_fault_7
abbrev rm_X10_hedge : Room := { frames := 7, cells := 0, slots := 0, locals := 154 }
set_option maxHeartbeats 4000000 in
set_option maxRecDepth 100000 in
theorem k_X10_hedge {l : Launch} {D : va_G} {E : sE} {a : Nat → Nat} {cA : Nat → ClassId} {isCharted : Int32} {isKept : Int32} {hedgesRead : Int32} {evensDone : Int32} {plen : Int32} {number : Int32} {setCount : Int32} {standing : Int32} {turn : Int32} {cuts : Int32} {ssize : Int32} {kstanding : Int32} {kturn : Int32} {kcuts : Int32} {kssize : Int32} {seed : Int32} {whiteWon : Int32} {cutsDone : Int32} {lett : Nat → Int32} {onB : Nat → Int32} {abv : Nat → Int32} {sets : Nat → Int32} {kinds : Nat → Int32} {sbranches : Nat → Int32} {sbeginners : Nat → Int32} {swon : Nat → Int32} {kkinds : Nat → Int32} {ksbranches : Nat → Int32} {ksbeginners : Nat → Int32} {kswon : Nat → Int32} {lcuts : Nat → Int32} {valu : Nat → Int32} {won : Nat → Int64} {chance : Nat → Int64}  (hlp : 0 ≤ (plen).toInt ∧ (plen).toInt ≤ 26) (hlc : ∀ k : Nat, 0 ≤ (lett k).toInt ∧ (lett k).toInt < 128) : ∀ q : Int32 × Int32 × Int32 × Int32 × Int32 × Int32 × Int32 × Int32 × Int32 × Int32 × Int32 × (Nat → Int32) × (Nat → Int32) × (Nat → Int32) × (Nat → Int32), q = f_X10_hedge isCharted isKept hedgesRead plen number setCount standing turn cuts ssize lett onB abv sets kinds → gMi l yX10_hedge wsX10_hedge rm_X10_hedge D E (tG cA) [.ref (a 0)] (wG a cA isCharted isKept hedgesRead evensDone plen number setCount standing turn cuts ssize kstanding kturn kcuts kssize seed whiteWon cutsDone lett onB abv sets kinds sbranches sbeginners swon kkinds ksbranches ksbeginners kswon lcuts valu won chance) (wG a cA q.2.1 q.2.2.1 q.2.2.2.1 evensDone q.2.2.2.2.1 q.2.2.2.2.2.1 q.2.2.2.2.2.2.1 q.2.2.2.2.2.2.2.1 q.2.2.2.2.2.2.2.2.1 q.2.2.2.2.2.2.2.2.2.1 q.2.2.2.2.2.2.2.2.2.2.1 kstanding kturn kcuts kssize seed whiteWon cutsDone lett q.2.2.2.2.2.2.2.2.2.2.2.1 q.2.2.2.2.2.2.2.2.2.2.2.2.1 q.2.2.2.2.2.2.2.2.2.2.2.2.2.1 q.2.2.2.2.2.2.2.2.2.2.2.2.2.2 sbranches sbeginners swon kkinds ksbranches ksbeginners kswon lcuts valu won chance) q.1 := by
  intro q he0
  refine gM_of (cc := cX10_hedge) (maxL := 1) (ret := (some .int)) (Qf := gQi D (wG a cA q.2.1 q.2.2.1 q.2.2.2.1 evensDone q.2.2.2.2.1 q.2.2.2.2.2.1 q.2.2.2.2.2.2.1 q.2.2.2.2.2.2.2.1 q.2.2.2.2.2.2.2.2.1 q.2.2.2.2.2.2.2.2.2.1 q.2.2.2.2.2.2.2.2.2.2.1 kstanding kturn kcuts kssize seed whiteWon cutsDone lett q.2.2.2.2.2.2.2.2.2.2.2.1 q.2.2.2.2.2.2.2.2.2.2.2.2.1 q.2.2.2.2.2.2.2.2.2.2.2.2.2.1 q.2.2.2.2.2.2.2.2.2.2.2.2.2.2 sbranches sbeginners swon kkinds ksbranches ksbeginners kswon lcuts valu won chance) q.1) (by decide) rfl (Nat.le_of_ble_eq_true rfl) ?_
  intro p e s m args below meth c Z ls Qz hx hb hr hml hlocks hown hts hS hX hl hq
  have he := he0.trans f_X10_hedge_s
  have hown : s.vm.findClass RX10 = some m.cls := hown
  have hl : lv_has ls 1 [(0, .ref (a 0))] := hl
  have hi_X10 : ∀ w ∈ u_ws RX10 TX10 14, w ∈ wsX10_hedge := fun _ h => List.mem_cons_of_mem _ (List.mem_append_left _ (List.mem_append_left _ (List.mem_append_left _ (List.mem_append_left _ (List.mem_append_right _ h)))))
  have hi_X8 : ∀ w ∈ u_ws RX8 TX8 5, w ∈ wsX10_hedge := fun _ h => List.mem_cons_of_mem _ (List.mem_append_left _ (List.mem_append_left _ (List.mem_append_left _ (List.mem_append_right _ h))))
  have l_fieldLink_10 := hts (Cond.fieldLink RX10 10 "HedgeGame" "page" "LHedgeGame$Page;") (List.mem_of_getElem? (i := 1) rfl)
  have l_fieldLink_19 := hts (Cond.fieldLink RX10 19 "HedgeGame" "shape" "LHedgeGame$Shape;") (List.mem_of_getElem? (i := 2) rfl)
  have l_fieldLink_26 := hts (Cond.fieldLink RX10 26 "HedgeGame" "now" "LHedgeGame$Moment;") (List.mem_of_getElem? (i := 3) rfl)
  have l_fieldLink_81 := hts (Cond.fieldLink RX10 81 "HedgeGame" "isCharted" "Z") (List.mem_of_getElem? (i := 4) rfl)
  have l_fieldLink_85 := hts (Cond.fieldLink RX10 85 "HedgeGame" "isKept" "Z") (List.mem_of_getElem? (i := 5) rfl)
  have l_fieldLink_88 := hts (Cond.fieldLink RX10 88 "HedgeGame" "hedgesRead" "I") (List.mem_of_getElem? (i := 6) rfl)
  have tm103 : ((-103 : Int32)).toInt = -103 := rfl
  have t0 : ((0 : Int32)).toInt = 0 := rfl
  have t1 : ((1 : Int32)).toInt = 1 := rfl
  refine lv_aload_n hx hb dX10_hedge_0 rfl (lv_at hl 0 rfl) ?_
  refine va_get (D := D) (ci := 10) (v := .ref (a 1)) (C := RX10) (T := TX10) (N := 14) hx hb hts hi_X10 hown hS.1 hX.1 0 rfl rfl 0 (by decide) l_fieldLink_10 (fun _ h9 => h9) rfl dX10_hedge_1 ?_
  obtain ⟨r_1, e4⟩ : ∃ z, z = (f_X5_isWhole plen lett) := ⟨_, rfl⟩
  rw [← e4] at he
  refine g_Vi (r := r_1) (As := []) (rest := []) (ci := 5) (q0 := 1) ⟨hx, hb, hml, hown, hts⟩ hS hX (k_X5_isWhole (by omega) (by assumption) r_1 e4) (cwV 0 hts gX10_hedge_X5_isWhole rfl rfl rfl (by decide +kernel) ⟨Nat.le_of_ble_eq_true rfl, Nat.le_of_ble_eq_true rfl⟩) rfl rfl rfl hl.1 rfl (Nat.le_of_ble_eq_true rfl) dX10_hedge_4 ⟨Nat.zero_le _, Nat.zero_le _⟩ (fun H locs hX => ?_)
  refine lv_if_ne (tgt := 13) hx hb dX10_hedge_7 (by decide) (fun c7 => ?_) (fun c7 => ?_)
  · have he := he.trans (if_neg c7)
    have d7 := i_ne c7
    refine lv_aload_n hx hb dX10_hedge_13 rfl (lv_at hl 0 rfl) ?_
    refine va_get (D := D) (ci := 10) (v := .ref (a 3)) (C := RX10) (T := TX10) (N := 14) hx hb hts hi_X10 hown hS.1 hX.1 0 rfl rfl 1 (by decide) l_fieldLink_19 (fun _ h9 => h9) rfl dX10_hedge_14 ?_
    refine lv_aload_n hx hb dX10_hedge_17 rfl (lv_at hl 0 rfl) ?_
    refine va_get (D := D) (ci := 10) (v := .ref (a 1)) (C := RX10) (T := TX10) (N := 14) hx hb hts hi_X10 hown hS.1 hX.1 0 rfl rfl 0 (by decide) l_fieldLink_10 (fun _ h9 => h9) rfl dX10_hedge_18 ?_
    obtain ⟨z_2, e21⟩ : ∃ z, z = (f_X8_readFrom plen number setCount lett onB abv sets) := ⟨_, rfl⟩
    rw [← e21] at he
    try dsimp only at he
    refine g_Vv (w2 := (wG a cA isCharted isKept hedgesRead evensDone plen z_2.1 z_2.2.1 standing turn cuts ssize kstanding kturn kcuts kssize seed whiteWon cutsDone lett z_2.2.2.1 z_2.2.2.2.1 z_2.2.2.2.2 kinds sbranches sbeginners swon kkinds ksbranches ksbeginners kswon lcuts valu won chance)) (As := [.ref (a 1)]) (rest := []) (ci := 8) (q0 := 3) ⟨hx, hb, hml, hown, hts⟩ hS hX (k_X8_readFrom (by omega) (by assumption) z_2 e21) (cwV 1 hts gX10_hedge_X8_readFrom rfl rfl rfl (by decide +kernel) ⟨Nat.le_of_ble_eq_true rfl, Nat.le_of_ble_eq_true rfl⟩) rfl rfl rfl hl.1 rfl (Nat.le_of_ble_eq_true rfl) dX10_hedge_21 ⟨Nat.zero_le _, Nat.zero_le _⟩ (fun H locs hX => ?_)
    have k21_0 : 0 ≤ (z_2.1).toInt ∧ (z_2.1).toInt ≤ 8 := r_readFrom (by omega) e21
    refine lv_aload_n hx hb dX10_hedge_24 rfl (lv_at hl 0 rfl) ?_
    refine va_get (D := D) (ci := 10) (v := .ref (a 7)) (C := RX10) (T := TX10) (N := 14) hx hb hts hi_X10 hown hS.1 hX.1 0 rfl rfl 2 (by decide) l_fieldLink_26 (fun _ h9 => h9) rfl dX10_hedge_25 ?_
    refine lv_aload_n hx hb dX10_hedge_28 rfl (lv_at hl 0 rfl) ?_
    refine va_get (D := D) (ci := 10) (v := .ref (a 1)) (C := RX10) (T := TX10) (N := 14) hx hb hts hi_X10 hown hS.1 hX.1 0 rfl rfl 0 (by decide) l_fieldLink_10 (fun _ h9 => h9) rfl dX10_hedge_29 ?_
    refine lv_aload_n hx hb dX10_hedge_32 rfl (lv_at hl 0 rfl) ?_
    refine va_get (D := D) (ci := 10) (v := .ref (a 3)) (C := RX10) (T := TX10) (N := 14) hx hb hts hi_X10 hown hS.1 hX.1 0 rfl rfl 1 (by decide) l_fieldLink_19 (fun _ h9 => h9) rfl dX10_hedge_33 ?_
    refine va_getN (D := D) (ci := 8) (v := .int z_2.1) (C := RX8) (T := TX8) (N := 5) hx hb hts hi_X8 hown hS.1 hX.1 3 rfl rfl 0 (by decide) (hS.2.1.get 5 rfl) (fun _ h9 => h9) rfl dX10_hedge_36 ?_
    obtain ⟨z_3, e39⟩ : ∃ z, z = (f_X3_beginWith_now plen standing turn cuts ssize lett kinds z_2.1) := ⟨_, rfl⟩
    rw [← e39] at he
    try dsimp only at he
    refine g_Vv (w2 := (wG a cA isCharted isKept hedgesRead evensDone plen z_2.1 z_2.2.1 z_3.1 z_3.2.1 z_3.2.2.1 z_3.2.2.2.1 kstanding kturn kcuts kssize seed whiteWon cutsDone lett z_2.2.2.1 z_2.2.2.2.1 z_2.2.2.2.2 z_3.2.2.2.2 sbranches sbeginners swon kkinds ksbranches ksbeginners kswon lcuts valu won chance)) (As := [.ref (a 1), .int z_2.1]) (rest := []) (ci := 3) (q0 := 7) ⟨hx, hb, hml, hown, hts⟩ hS hX (k_X3_beginWith_now z_2.1 (by omega) (by assumption) (by omega) z_3 e39) (cwV 2 hts gX10_hedge_X3_beginWith rfl rfl rfl (by decide +kernel) ⟨Nat.le_of_ble_eq_true rfl, Nat.le_of_ble_eq_true rfl⟩) rfl rfl rfl hl.1 rfl (Nat.le_of_ble_eq_true rfl) dX10_hedge_39 ⟨Nat.zero_le _, Nat.zero_le _⟩ (fun H locs hX => ?_)
    refine lv_aload_n hx hb dX10_hedge_42 rfl (lv_at hl 0 rfl) ?_
    refine lv_iconst (v := (0 : Int32)) hx hb dX10_hedge_43 (by decide) ?_
    refine va_put (D := D) (ci := 10) (v := .int (0 : Int32)) (ty := .boolean) (C := RX10) (T := TX10) (N := 14) hx hb hts hi_X10 tyX10 tyX10_ok nmX10 hown hS.1 hX.1 hX.2.1 hX.2.2 0 rfl rfl 10 (by decide) l_fieldLink_81 (fun _ h9 => h9) rfl (by decide +kernel) rfl rfl (Nat.le_of_ble_eq_true rfl) dX10_hedge_44 (fun H locs hP hD hs => ?_)
    have hX : gX D Z s (wG a cA (0 : Int32) isKept hedgesRead evensDone plen z_2.1 z_2.2.1 z_3.1 z_3.2.1 z_3.2.2.1 z_3.2.2.2.1 kstanding kturn kcuts kssize seed whiteWon cutsDone lett z_2.2.2.1 z_2.2.2.2.1 z_2.2.2.2.2 z_3.2.2.2.2 sbranches sbeginners swon kkinds ksbranches ksbeginners kswon lcuts valu won chance) H locs := ⟨hP, hD, hs⟩
    refine lv_aload_n hx hb dX10_hedge_47 rfl (lv_at hl 0 rfl) ?_
    refine va_get (D := D) (ci := 10) (v := .ref (a 1)) (C := RX10) (T := TX10) (N := 14) hx hb hts hi_X10 hown hS.1 hX.1 0 rfl rfl 0 (by decide) l_fieldLink_10 (fun _ h9 => h9) rfl dX10_hedge_48 ?_
    obtain ⟨plen_4, e51⟩ : ∃ z, z = (f_X5_wipe plen) := ⟨_, rfl⟩
    rw [← e51] at he
    refine g_Vv (w2 := (wG a cA (0 : Int32) isKept hedgesRead evensDone plen_4 z_2.1 z_2.2.1 z_3.1 z_3.2.1 z_3.2.2.1 z_3.2.2.2.1 kstanding kturn kcuts kssize seed whiteWon cutsDone lett z_2.2.2.1 z_2.2.2.2.1 z_2.2.2.2.2 z_3.2.2.2.2 sbranches sbeginners swon kkinds ksbranches ksbeginners kswon lcuts valu won chance)) (As := []) (rest := []) (ci := 5) (q0 := 1) ⟨hx, hb, hml, hown, hts⟩ hS hX (k_X5_wipe  plen_4 e51) (cwV 0 hts gX10_hedge_X5_wipe rfl rfl rfl (by decide +kernel) ⟨Nat.le_of_ble_eq_true rfl, Nat.le_of_ble_eq_true rfl⟩) rfl rfl rfl hl.1 rfl (Nat.le_of_ble_eq_true rfl) dX10_hedge_51 ⟨Nat.zero_le _, Nat.zero_le _⟩ (fun H locs hX => ?_)
    refine lv_aload_n hx hb dX10_hedge_54 rfl (lv_at hl 0 rfl) ?_
    refine lv_iconst (v := (0 : Int32)) hx hb dX10_hedge_55 (by decide) ?_
    refine va_put (D := D) (ci := 10) (v := .int (0 : Int32)) (ty := .boolean) (C := RX10) (T := TX10) (N := 14) hx hb hts hi_X10 tyX10 tyX10_ok nmX10 hown hS.1 hX.1 hX.2.1 hX.2.2 0 rfl rfl 11 (by decide) l_fieldLink_85 (fun _ h9 => h9) rfl (by decide +kernel) rfl rfl (Nat.le_of_ble_eq_true rfl) dX10_hedge_56 (fun H locs hP hD hs => ?_)
    have hX : gX D Z s (wG a cA (0 : Int32) (0 : Int32) hedgesRead evensDone plen_4 z_2.1 z_2.2.1 z_3.1 z_3.2.1 z_3.2.2.1 z_3.2.2.2.1 kstanding kturn kcuts kssize seed whiteWon cutsDone lett z_2.2.2.1 z_2.2.2.2.1 z_2.2.2.2.2 z_3.2.2.2.2 sbranches sbeginners swon kkinds ksbranches ksbeginners kswon lcuts valu won chance) H locs := ⟨hP, hD, hs⟩
    refine lv_aload_n hx hb dX10_hedge_59 rfl (lv_at hl 0 rfl) ?_
    refine lv_dup hx hb dX10_hedge_60 rfl ?_
    refine va_get (D := D) (ci := 10) (v := .int hedgesRead) (C := RX10) (T := TX10) (N := 14) hx hb hts hi_X10 hown hS.1 hX.1 0 rfl rfl 12 (by decide) l_fieldLink_88 (fun _ h9 => h9) rfl dX10_hedge_61 ?_
    refine lv_iconst (v := (1 : Int32)) hx hb dX10_hedge_64 (by decide) ?_
    refine lv_iadd hx hb dX10_hedge_65 ?_
    refine va_put (D := D) (ci := 10) (v := .int (hedgesRead + (1 : Int32))) (ty := .int) (C := RX10) (T := TX10) (N := 14) hx hb hts hi_X10 tyX10 tyX10_ok nmX10 hown hS.1 hX.1 hX.2.1 hX.2.2 0 rfl rfl 12 (by decide) l_fieldLink_88 (fun _ h9 => h9) rfl (by decide +kernel) rfl rfl (Nat.le_of_ble_eq_true rfl) dX10_hedge_66 (fun H locs hP hD hs => ?_)
    have hX : gX D Z s (wG a cA (0 : Int32) (0 : Int32) (hedgesRead + (1 : Int32)) evensDone plen_4 z_2.1 z_2.2.1 z_3.1 z_3.2.1 z_3.2.2.1 z_3.2.2.2.1 kstanding kturn kcuts kssize seed whiteWon cutsDone lett z_2.2.2.1 z_2.2.2.2.1 z_2.2.2.2.2 z_3.2.2.2.2 sbranches sbeginners swon kkinds ksbranches ksbeginners kswon lcuts valu won chance) H locs := ⟨hP, hD, hs⟩
    refine lv_aload_n hx hb dX10_hedge_69 rfl (lv_at hl 0 rfl) ?_
    refine va_get (D := D) (ci := 10) (v := .ref (a 3)) (C := RX10) (T := TX10) (N := 14) hx hb hts hi_X10 hown hS.1 hX.1 0 rfl rfl 1 (by decide) l_fieldLink_19 (fun _ h9 => h9) rfl dX10_hedge_70 ?_
    refine va_getN (D := D) (ci := 8) (v := .int z_2.1) (C := RX8) (T := TX8) (N := 5) hx hb hts hi_X8 hown hS.1 hX.1 3 rfl rfl 0 (by decide) (hS.2.1.get 5 rfl) (fun _ h9 => h9) rfl dX10_hedge_73 ?_
    subst he
    exact g_iret hx hb hr hlocks hX hq rfl dX10_hedge_76
  · have he := he.trans (if_pos c7)
    have d7 := i_eq c7
    refine lv_bipush (v := (-103 : Int32)) hx hb dX10_hedge_10 (by decide) ?_
    subst he
    exact g_iret hx hb hr hlocks hX hq rfl dX10_hedge_12
abbrev rm_X10_chart : Room := { frames := 3, cells := 0, slots := 0, locals := 79 }
set_option maxHeartbeats 4000000 in
set_option maxRecDepth 100000 in
theorem k_X10_chart {l : Launch} {D : va_G} {E : sE} {a : Nat → Nat} {cA : Nat → ClassId} {isCharted : Int32} {isKept : Int32} {hedgesRead : Int32} {evensDone : Int32} {plen : Int32} {number : Int32} {setCount : Int32} {standing : Int32} {turn : Int32} {cuts : Int32} {ssize : Int32} {kstanding : Int32} {kturn : Int32} {kcuts : Int32} {kssize : Int32} {seed : Int32} {whiteWon : Int32} {cutsDone : Int32} {lett : Nat → Int32} {onB : Nat → Int32} {abv : Nat → Int32} {sets : Nat → Int32} {kinds : Nat → Int32} {sbranches : Nat → Int32} {sbeginners : Nat → Int32} {swon : Nat → Int32} {kkinds : Nat → Int32} {ksbranches : Nat → Int32} {ksbeginners : Nat → Int32} {kswon : Nat → Int32} {lcuts : Nat → Int32} {valu : Nat → Int32} {won : Nat → Int64} {chance : Nat → Int64}  (hnm : 0 ≤ (number).toInt ∧ (number).toInt ≤ 8) (hsc : 0 ≤ (setCount).toInt ∧ (setCount).toInt ≤ 256) (hss : ∀ k : Nat, 0 ≤ (sets k).toInt ∧ (sets k).toInt < 256) : ∀ q : Int32 × (Nat → Int32) × (Nat → Int32) × (Nat → Int64) × (Nat → Int64), q = f_X10_chart isCharted number setCount abv sets kinds lcuts valu won chance → gMv l yX10_chart wsX10_chart rm_X10_chart D E (tG cA) [.ref (a 0)] (wG a cA isCharted isKept hedgesRead evensDone plen number setCount standing turn cuts ssize kstanding kturn kcuts kssize seed whiteWon cutsDone lett onB abv sets kinds sbranches sbeginners swon kkinds ksbranches ksbeginners kswon lcuts valu won chance) (wG a cA q.1 isKept hedgesRead evensDone plen number setCount standing turn cuts ssize kstanding kturn kcuts kssize seed whiteWon cutsDone lett onB abv sets kinds sbranches sbeginners swon kkinds ksbranches ksbeginners kswon q.2.1 q.2.2.1 q.2.2.2.1 q.2.2.2.2) := by
  intro q he0
  refine gM_of (cc := cX10_chart) (maxL := 5) (ret := none) (Qf := gQv D (wG a cA q.1 isKept hedgesRead evensDone plen number setCount standing turn cuts ssize kstanding kturn kcuts kssize seed whiteWon cutsDone lett onB abv sets kinds sbranches sbeginners swon kkinds ksbranches ksbeginners kswon q.2.1 q.2.2.1 q.2.2.2.1 q.2.2.2.2)) (by decide) rfl (Nat.le_of_ble_eq_true rfl) ?_
  intro p e s m args below meth c Z ls Qz hx hb hr hml hlocks hown hts hS hX hl hq
  have he := he0.trans f_X10_chart_s
  have hown : s.vm.findClass RX10 = some m.cls := hown
  have hl : lv_has ls 5 [(0, .ref (a 0))] := hl
  have hi_X10 : ∀ w ∈ u_ws RX10 TX10 14, w ∈ wsX10_chart := fun _ h => List.mem_cons_of_mem _ (List.mem_append_left _ (List.mem_append_left _ (List.mem_append_left _ (List.mem_append_left _ (List.mem_append_left _ (List.mem_append_left _ (List.mem_append_left _ (List.mem_append_right _ h))))))))
  have hi_X8 : ∀ w ∈ u_ws RX8 TX8 5, w ∈ wsX10_chart := fun _ h => List.mem_cons_of_mem _ (List.mem_append_left _ (List.mem_append_left _ (List.mem_append_left _ (List.mem_append_left _ (List.mem_append_left _ (List.mem_append_left _ (List.mem_append_right _ h)))))))
  have l_fieldLink_19 := hts (Cond.fieldLink RX10 19 "HedgeGame" "shape" "LHedgeGame$Shape;") (List.mem_of_getElem? (i := 2) rfl)
  have l_fieldLink_38 := hts (Cond.fieldLink RX10 38 "HedgeGame" "rules" "LHedgeGame$Rules;") (List.mem_of_getElem? (i := 3) rfl)
  have l_fieldLink_47 := hts (Cond.fieldLink RX10 47 "HedgeGame" "outcomes" "LHedgeGame$Outcomes;") (List.mem_of_getElem? (i := 4) rfl)
  have l_fieldLink_56 := hts (Cond.fieldLink RX10 56 "HedgeGame" "lengths" "LHedgeGame$Lengths;") (List.mem_of_getElem? (i := 5) rfl)
  have l_fieldLink_63 := hts (Cond.fieldLink RX10 63 "HedgeGame" "values" "LHedgeGame$Values;") (List.mem_of_getElem? (i := 6) rfl)
  have l_fieldLink_70 := hts (Cond.fieldLink RX10 70 "HedgeGame" "chances" "LHedgeGame$Chances;") (List.mem_of_getElem? (i := 7) rfl)
  have l_fieldLink_81 := hts (Cond.fieldLink RX10 81 "HedgeGame" "isCharted" "Z") (List.mem_of_getElem? (i := 1) rfl)
  have t0 : ((0 : Int32)).toInt = 0 := rfl
  have t1 : ((1 : Int32)).toInt = 1 := rfl
  refine lv_aload_n hx hb dX10_chart_0 rfl (lv_at hl 0 rfl) ?_
  refine va_get (D := D) (ci := 10) (v := .int isCharted) (C := RX10) (T := TX10) (N := 14) hx hb hts hi_X10 hown hS.1 hX.1 0 rfl rfl 10 (by decide) l_fieldLink_81 (fun _ h9 => h9) rfl dX10_chart_1 ?_
  refine lv_if_eq (tgt := 8) hx hb dX10_chart_4 (by decide) (fun c4 => ?_) (fun c4 => ?_)
  · have he := he.trans (if_pos c4)
    have d4 := i_eq c4
    refine lv_iconst (v := (0 : Int32)) hx hb dX10_chart_8 (by decide) ?_
    refine lv_istore_n (lv' := [(1, .int (0 : Int32)), (0, .ref (a 0))]) hx hb dX10_chart_9 rfl hl (by decide) rfl (fun ls hl => ?_)
    have L10_1 : ∀ (n_10_1 : Nat) (lcuts_2 : Nat → Int32) (valu_3 : Nat → Int32) (won_4 : Nat → Int64) (chance_5 : Nat → Int64) (x1_6 : Int32), 0 ≤ (x1_6).toInt ∧ (x1_6).toInt ≤ 256 → 256 - (x1_6).toInt < (n_10_1 : Int) → q = f_X10_chart_L10 n_10_1 isCharted number setCount abv sets kinds lcuts_2 valu_3 won_4 chance_5 x1_6 → ∀ (H : Heap) (locs : List Loc) (ls : Array Slot), gX D Z s (wG a cA isCharted isKept hedgesRead evensDone plen number setCount standing turn cuts ssize kstanding kturn kcuts kssize seed whiteWon cutsDone lett onB abv sets kinds sbranches sbeginners swon kkinds ksbranches ksbeginners kswon lcuts_2 valu_3 won_4 chance_5) H locs → lv_has ls 5 [(0, .ref (a 0)), (1, .int x1_6)] → W p l e rm_X10_chart s m args below meth c H locs 0 0 Qz (F0 m 10 ls []) := by
      intro n_10_1
      induction n_10_1 with
      | zero =>
        intro lcuts_2 valu_3 won_4 chance_5 x1_6 ia ifu _ _ _ _ _ _
        exfalso; omega
      | succ n_10_1 ih_L10_1 =>
        intro lcuts_2 valu_3 won_4 chance_5 x1_6 ia ifu he H locs ls hX hl
        have he := he.trans f_X10_chart_L10_s
        refine lv_iload_n hx hb dX10_chart_10 rfl (lv_at hl 1 rfl) ?_
        refine lv_aload_n hx hb dX10_chart_11 rfl (lv_at hl 0 rfl) ?_
        refine va_get (D := D) (ci := 10) (v := .ref (a 3)) (C := RX10) (T := TX10) (N := 14) hx hb hts hi_X10 hown hS.1 hX.1 0 rfl rfl 1 (by decide) l_fieldLink_19 (fun _ h9 => h9) rfl dX10_chart_12 ?_
        refine va_getN (D := D) (ci := 8) (v := .int setCount) (C := RX8) (T := TX8) (N := 5) hx hb hts hi_X8 hown hS.1 hX.1 3 rfl rfl 4 (by decide) (hS.2.1.get 10 rfl) (fun _ h9 => h9) rfl dX10_chart_15 ?_
        refine lv_icmp_ge (tgt := 129) hx hb dX10_chart_18 (by decide) (fun c18 => ?_) (fun c18 => ?_)
        · have he := he.trans (if_pos c18)
          have d18 := i_le c18
          refine lv_aload_n hx hb dX10_chart_129 rfl (lv_at hl 0 rfl) ?_
          refine lv_iconst (v := (1 : Int32)) hx hb dX10_chart_130 (by decide) ?_
          refine va_put (D := D) (ci := 10) (v := .int (1 : Int32)) (ty := .boolean) (C := RX10) (T := TX10) (N := 14) hx hb hts hi_X10 tyX10 tyX10_ok nmX10 hown hS.1 hX.1 hX.2.1 hX.2.2 0 rfl rfl 10 (by decide) l_fieldLink_81 (fun _ h9 => h9) rfl (by decide +kernel) rfl rfl (Nat.le_of_ble_eq_true rfl) dX10_chart_131 (fun H locs hP hD hs => ?_)
          have hX : gX D Z s (wG a cA (1 : Int32) isKept hedgesRead evensDone plen number setCount standing turn cuts ssize kstanding kturn kcuts kssize seed whiteWon cutsDone lett onB abv sets kinds sbranches sbeginners swon kkinds ksbranches ksbeginners kswon lcuts_2 valu_3 won_4 chance_5) H locs := ⟨hP, hD, hs⟩
          subst he
          exact g_vret hx hb hr hlocks hX hq dX10_chart_134
        · have he := he.trans (if_neg c18)
          have d18 := i_nle c18
          refine lv_aload_n hx hb dX10_chart_21 rfl (lv_at hl 0 rfl) ?_
          refine va_get (D := D) (ci := 10) (v := .ref (a 3)) (C := RX10) (T := TX10) (N := 14) hx hb hts hi_X10 hown hS.1 hX.1 0 rfl rfl 1 (by decide) l_fieldLink_19 (fun _ h9 => h9) rfl dX10_chart_22 ?_
          refine va_getN (D := D) (ci := 8) (v := .ref (a 6)) (C := RX8) (T := TX8) (N := 5) hx hb hts hi_X8 hown hS.1 hX.1 3 rfl rfl 3 (by decide) (hS.2.1.get 9 rfl) (fun _ h9 => h9) rfl dX10_chart_25 ?_
          refine lv_iload_n hx hb dX10_chart_28 rfl (lv_at hl 1 rfl) ?_
          refine va_iald hx hb hS.1 hX.1 6 3 rfl rfl (vp_in_iff.mpr (by omega)) dX10_chart_29 ?_
          have g29 := hss (x1_6).toNatClampNeg
          refine lv_istore_n (lv' := [(2, .int (sets (x1_6).toNatClampNeg)), (0, .ref (a 0)), (1, .int x1_6)]) hx hb dX10_chart_30 rfl hl (by decide) rfl (fun ls hl => ?_)
          refine lv_aload_n hx hb dX10_chart_31 rfl (lv_at hl 1 rfl) ?_
          refine va_get (D := D) (ci := 10) (v := .ref (a 19)) (C := RX10) (T := TX10) (N := 14) hx hb hts hi_X10 hown hS.1 hX.1 0 rfl rfl 4 (by decide) l_fieldLink_38 (fun _ h9 => h9) rfl dX10_chart_32 ?_
          refine lv_iconst (v := (0 : Int32)) hx hb dX10_chart_35 (by decide) ?_
          refine lv_iload_n hx hb dX10_chart_36 rfl (lv_at hl 0 rfl) ?_
          obtain ⟨r_7, e37⟩ : ∃ z, z = (f_X6_choices number abv kinds (0 : Int32) (sets (x1_6).toNatClampNeg)) := ⟨_, rfl⟩
          rw [← e37] at he
          refine g_Vi (r := r_7) (As := [.int (0 : Int32), .int (sets (x1_6).toNatClampNeg)]) (rest := []) (ci := 6) (q0 := 19) ⟨hx, hb, hml, hown, hts⟩ hS hX (k_X6_choices (0 : Int32) (sets (x1_6).toNatClampNeg) (by omega) r_7 e37) (cwV 2 hts gX10_chart_X6_choices rfl rfl rfl (by decide +kernel) ⟨Nat.le_of_ble_eq_true rfl, Nat.le_of_ble_eq_true rfl⟩) rfl rfl rfl hl.1 rfl (Nat.le_of_ble_eq_true rfl) dX10_chart_37 ⟨Nat.zero_le _, Nat.zero_le _⟩ (fun H locs hX => ?_)
          refine lv_istore_n (lv' := [(3, .int r_7), (2, .int (sets (x1_6).toNatClampNeg)), (0, .ref (a 0)), (1, .int x1_6)]) hx hb dX10_chart_40 rfl hl (by decide) rfl (fun ls hl => ?_)
          refine lv_aload_n hx hb dX10_chart_41 rfl (lv_at hl 2 rfl) ?_
          refine va_get (D := D) (ci := 10) (v := .ref (a 19)) (C := RX10) (T := TX10) (N := 14) hx hb hts hi_X10 hown hS.1 hX.1 0 rfl rfl 4 (by decide) l_fieldLink_38 (fun _ h9 => h9) rfl dX10_chart_42 ?_
          refine lv_iconst (v := (1 : Int32)) hx hb dX10_chart_45 (by decide) ?_
          refine lv_iload_n hx hb dX10_chart_46 rfl (lv_at hl 1 rfl) ?_
          obtain ⟨r_8, e47⟩ : ∃ z, z = (f_X6_choices number abv kinds (1 : Int32) (sets (x1_6).toNatClampNeg)) := ⟨_, rfl⟩
          rw [← e47] at he
          refine g_Vi (r := r_8) (As := [.int (1 : Int32), .int (sets (x1_6).toNatClampNeg)]) (rest := []) (ci := 6) (q0 := 19) ⟨hx, hb, hml, hown, hts⟩ hS hX (k_X6_choices (1 : Int32) (sets (x1_6).toNatClampNeg) (by omega) r_8 e47) (cwV 2 hts gX10_chart_X6_choices rfl rfl rfl (by decide +kernel) ⟨Nat.le_of_ble_eq_true rfl, Nat.le_of_ble_eq_true rfl⟩) rfl rfl rfl hl.1 rfl (Nat.le_of_ble_eq_true rfl) dX10_chart_47 ⟨Nat.zero_le _, Nat.zero_le _⟩ (fun H locs hX => ?_)
          refine lv_istore (lv' := [(4, .int r_8), (3, .int r_7), (2, .int (sets (x1_6).toNatClampNeg)), (0, .ref (a 0)), (1, .int x1_6)]) hx hb dX10_chart_50 hl (by decide) rfl (fun ls hl => ?_)
          refine lv_aload_n hx hb dX10_chart_52 rfl (lv_at hl 3 rfl) ?_
          refine va_get (D := D) (ci := 10) (v := .ref (a 20)) (C := RX10) (T := TX10) (N := 14) hx hb hts hi_X10 hown hS.1 hX.1 0 rfl rfl 5 (by decide) l_fieldLink_47 (fun _ h9 => h9) rfl dX10_chart_53 ?_
          refine lv_iconst (v := (0 : Int32)) hx hb dX10_chart_56 (by decide) ?_
          refine lv_iload_n hx hb dX10_chart_57 rfl (lv_at hl 2 rfl) ?_
          obtain ⟨won_9, e58⟩ : ∃ z, z = (f_X4_enter number abv kinds won_4 (0 : Int32) (sets (x1_6).toNatClampNeg)) := ⟨_, rfl⟩
          rw [← e58] at he
          refine g_Vv (w2 := (wG a cA isCharted isKept hedgesRead evensDone plen number setCount standing turn cuts ssize kstanding kturn kcuts kssize seed whiteWon cutsDone lett onB abv sets kinds sbranches sbeginners swon kkinds ksbranches ksbeginners kswon lcuts_2 valu_3 won_9 chance_5)) (As := [.int (0 : Int32), .int (sets (x1_6).toNatClampNeg)]) (rest := []) (ci := 4) (q0 := 20) ⟨hx, hb, hml, hown, hts⟩ hS hX (k_X4_enter (0 : Int32) (sets (x1_6).toNatClampNeg) (by omega) (by omega) (by omega) won_9 e58) (cwV 2 hts gX10_chart_X4_enter rfl rfl rfl (by decide +kernel) ⟨Nat.le_of_ble_eq_true rfl, Nat.le_of_ble_eq_true rfl⟩) rfl rfl rfl hl.1 rfl (Nat.le_of_ble_eq_true rfl) dX10_chart_58 ⟨Nat.zero_le _, Nat.zero_le _⟩ (fun H locs hX => ?_)
          refine lv_aload_n hx hb dX10_chart_61 rfl (lv_at hl 3 rfl) ?_
          refine va_get (D := D) (ci := 10) (v := .ref (a 20)) (C := RX10) (T := TX10) (N := 14) hx hb hts hi_X10 hown hS.1 hX.1 0 rfl rfl 5 (by decide) l_fieldLink_47 (fun _ h9 => h9) rfl dX10_chart_62 ?_
          refine lv_iconst (v := (1 : Int32)) hx hb dX10_chart_65 (by decide) ?_
          refine lv_iload_n hx hb dX10_chart_66 rfl (lv_at hl 2 rfl) ?_
          obtain ⟨won_10, e67⟩ : ∃ z, z = (f_X4_enter number abv kinds won_9 (1 : Int32) (sets (x1_6).toNatClampNeg)) := ⟨_, rfl⟩
          rw [← e67] at he
          refine g_Vv (w2 := (wG a cA isCharted isKept hedgesRead evensDone plen number setCount standing turn cuts ssize kstanding kturn kcuts kssize seed whiteWon cutsDone lett onB abv sets kinds sbranches sbeginners swon kkinds ksbranches ksbeginners kswon lcuts_2 valu_3 won_10 chance_5)) (As := [.int (1 : Int32), .int (sets (x1_6).toNatClampNeg)]) (rest := []) (ci := 4) (q0 := 20) ⟨hx, hb, hml, hown, hts⟩ hS hX (k_X4_enter (1 : Int32) (sets (x1_6).toNatClampNeg) (by omega) (by omega) (by omega) won_10 e67) (cwV 2 hts gX10_chart_X4_enter rfl rfl rfl (by decide +kernel) ⟨Nat.le_of_ble_eq_true rfl, Nat.le_of_ble_eq_true rfl⟩) rfl rfl rfl hl.1 rfl (Nat.le_of_ble_eq_true rfl) dX10_chart_67 ⟨Nat.zero_le _, Nat.zero_le _⟩ (fun H locs hX => ?_)
          refine lv_aload_n hx hb dX10_chart_70 rfl (lv_at hl 3 rfl) ?_
          refine va_get (D := D) (ci := 10) (v := .ref (a 22)) (C := RX10) (T := TX10) (N := 14) hx hb hts hi_X10 hown hS.1 hX.1 0 rfl rfl 6 (by decide) l_fieldLink_56 (fun _ h9 => h9) rfl dX10_chart_71 ?_
          refine lv_iconst (v := (0 : Int32)) hx hb dX10_chart_74 (by decide) ?_
          refine lv_iload_n hx hb dX10_chart_75 rfl (lv_at hl 2 rfl) ?_
          refine lv_iload_n hx hb dX10_chart_76 rfl (lv_at hl 1 rfl) ?_
          obtain ⟨lcuts_11, e77⟩ : ∃ z, z = (f_X1_enter number abv lcuts_2 won_10 (0 : Int32) (sets (x1_6).toNatClampNeg) r_7) := ⟨_, rfl⟩
          rw [← e77] at he
          refine g_Vv (w2 := (wG a cA isCharted isKept hedgesRead evensDone plen number setCount standing turn cuts ssize kstanding kturn kcuts kssize seed whiteWon cutsDone lett onB abv sets kinds sbranches sbeginners swon kkinds ksbranches ksbeginners kswon lcuts_11 valu_3 won_10 chance_5)) (As := [.int (0 : Int32), .int (sets (x1_6).toNatClampNeg), .int r_7]) (rest := []) (ci := 1) (q0 := 22) ⟨hx, hb, hml, hown, hts⟩ hS hX (k_X1_enter (0 : Int32) (sets (x1_6).toNatClampNeg) r_7 (by omega) (by omega) (by omega) lcuts_11 e77) (cwV 3 hts gX10_chart_X1_enter rfl rfl rfl (by decide +kernel) ⟨Nat.le_of_ble_eq_true rfl, Nat.le_of_ble_eq_true rfl⟩) rfl rfl rfl hl.1 rfl (Nat.le_of_ble_eq_true rfl) dX10_chart_77 ⟨Nat.zero_le _, Nat.zero_le _⟩ (fun H locs hX => ?_)
          refine lv_aload_n hx hb dX10_chart_80 rfl (lv_at hl 3 rfl) ?_
          refine va_get (D := D) (ci := 10) (v := .ref (a 22)) (C := RX10) (T := TX10) (N := 14) hx hb hts hi_X10 hown hS.1 hX.1 0 rfl rfl 6 (by decide) l_fieldLink_56 (fun _ h9 => h9) rfl dX10_chart_81 ?_
          refine lv_iconst (v := (1 : Int32)) hx hb dX10_chart_84 (by decide) ?_
          refine lv_iload_n hx hb dX10_chart_85 rfl (lv_at hl 2 rfl) ?_
          refine lv_iload hx hb dX10_chart_86 (lv_at hl 0 rfl) ?_
          obtain ⟨lcuts_12, e88⟩ : ∃ z, z = (f_X1_enter number abv lcuts_11 won_10 (1 : Int32) (sets (x1_6).toNatClampNeg) r_8) := ⟨_, rfl⟩
          rw [← e88] at he
          refine g_Vv (w2 := (wG a cA isCharted isKept hedgesRead evensDone plen number setCount standing turn cuts ssize kstanding kturn kcuts kssize seed whiteWon cutsDone lett onB abv sets kinds sbranches sbeginners swon kkinds ksbranches ksbeginners kswon lcuts_12 valu_3 won_10 chance_5)) (As := [.int (1 : Int32), .int (sets (x1_6).toNatClampNeg), .int r_8]) (rest := []) (ci := 1) (q0 := 22) ⟨hx, hb, hml, hown, hts⟩ hS hX (k_X1_enter (1 : Int32) (sets (x1_6).toNatClampNeg) r_8 (by omega) (by omega) (by omega) lcuts_12 e88) (cwV 3 hts gX10_chart_X1_enter rfl rfl rfl (by decide +kernel) ⟨Nat.le_of_ble_eq_true rfl, Nat.le_of_ble_eq_true rfl⟩) rfl rfl rfl hl.1 rfl (Nat.le_of_ble_eq_true rfl) dX10_chart_88 ⟨Nat.zero_le _, Nat.zero_le _⟩ (fun H locs hX => ?_)
          refine lv_aload_n hx hb dX10_chart_91 rfl (lv_at hl 3 rfl) ?_
          refine va_get (D := D) (ci := 10) (v := .ref (a 24)) (C := RX10) (T := TX10) (N := 14) hx hb hts hi_X10 hown hS.1 hX.1 0 rfl rfl 7 (by decide) l_fieldLink_63 (fun _ h9 => h9) rfl dX10_chart_92 ?_
          refine lv_iload_n hx hb dX10_chart_95 rfl (lv_at hl 2 rfl) ?_
          refine lv_iload_n hx hb dX10_chart_96 rfl (lv_at hl 1 rfl) ?_
          refine lv_iload hx hb dX10_chart_97 (lv_at hl 0 rfl) ?_
          obtain ⟨valu_13, e99⟩ : ∃ z, z = (f_X9_enter number abv valu_3 (sets (x1_6).toNatClampNeg) r_7 r_8) := ⟨_, rfl⟩
          rw [← e99] at he
          refine g_Vv (w2 := (wG a cA isCharted isKept hedgesRead evensDone plen number setCount standing turn cuts ssize kstanding kturn kcuts kssize seed whiteWon cutsDone lett onB abv sets kinds sbranches sbeginners swon kkinds ksbranches ksbeginners kswon lcuts_12 valu_13 won_10 chance_5)) (As := [.int (sets (x1_6).toNatClampNeg), .int r_7, .int r_8]) (rest := []) (ci := 9) (q0 := 24) ⟨hx, hb, hml, hown, hts⟩ hS hX (k_X9_enter (sets (x1_6).toNatClampNeg) r_7 r_8 (by omega) (by omega) valu_13 e99) (cwV 3 hts gX10_chart_X9_enter rfl rfl rfl (by decide +kernel) ⟨Nat.le_of_ble_eq_true rfl, Nat.le_of_ble_eq_true rfl⟩) rfl rfl rfl hl.1 rfl (Nat.le_of_ble_eq_true rfl) dX10_chart_99 ⟨Nat.zero_le _, Nat.zero_le _⟩ (fun H locs hX => ?_)
          refine lv_aload_n hx hb dX10_chart_102 rfl (lv_at hl 3 rfl) ?_
          refine va_get (D := D) (ci := 10) (v := .ref (a 26)) (C := RX10) (T := TX10) (N := 14) hx hb hts hi_X10 hown hS.1 hX.1 0 rfl rfl 8 (by decide) l_fieldLink_70 (fun _ h9 => h9) rfl dX10_chart_103 ?_
          refine lv_iconst (v := (0 : Int32)) hx hb dX10_chart_106 (by decide) ?_
          refine lv_iload_n hx hb dX10_chart_107 rfl (lv_at hl 2 rfl) ?_
          refine lv_iload_n hx hb dX10_chart_108 rfl (lv_at hl 1 rfl) ?_
          obtain ⟨chance_14, e109⟩ : ∃ z, z = (f_X0_enter number abv chance_5 (0 : Int32) (sets (x1_6).toNatClampNeg) r_7) := ⟨_, rfl⟩
          rw [← e109] at he
          refine g_Vv (w2 := (wG a cA isCharted isKept hedgesRead evensDone plen number setCount standing turn cuts ssize kstanding kturn kcuts kssize seed whiteWon cutsDone lett onB abv sets kinds sbranches sbeginners swon kkinds ksbranches ksbeginners kswon lcuts_12 valu_13 won_10 chance_14)) (As := [.int (0 : Int32), .int (sets (x1_6).toNatClampNeg), .int r_7]) (rest := []) (ci := 0) (q0 := 26) ⟨hx, hb, hml, hown, hts⟩ hS hX (k_X0_enter (0 : Int32) (sets (x1_6).toNatClampNeg) r_7 (by omega) (by omega) (by omega) chance_14 e109) (cwV 3 hts gX10_chart_X0_enter rfl rfl rfl (by decide +kernel) ⟨Nat.le_of_ble_eq_true rfl, Nat.le_of_ble_eq_true rfl⟩) rfl rfl rfl hl.1 rfl (Nat.le_of_ble_eq_true rfl) dX10_chart_109 ⟨Nat.zero_le _, Nat.zero_le _⟩ (fun H locs hX => ?_)
          refine lv_aload_n hx hb dX10_chart_112 rfl (lv_at hl 3 rfl) ?_
          refine va_get (D := D) (ci := 10) (v := .ref (a 26)) (C := RX10) (T := TX10) (N := 14) hx hb hts hi_X10 hown hS.1 hX.1 0 rfl rfl 8 (by decide) l_fieldLink_70 (fun _ h9 => h9) rfl dX10_chart_113 ?_
          refine lv_iconst (v := (1 : Int32)) hx hb dX10_chart_116 (by decide) ?_
          refine lv_iload_n hx hb dX10_chart_117 rfl (lv_at hl 2 rfl) ?_
          refine lv_iload hx hb dX10_chart_118 (lv_at hl 0 rfl) ?_
          obtain ⟨chance_15, e120⟩ : ∃ z, z = (f_X0_enter number abv chance_14 (1 : Int32) (sets (x1_6).toNatClampNeg) r_8) := ⟨_, rfl⟩
          rw [← e120] at he
          refine g_Vv (w2 := (wG a cA isCharted isKept hedgesRead evensDone plen number setCount standing turn cuts ssize kstanding kturn kcuts kssize seed whiteWon cutsDone lett onB abv sets kinds sbranches sbeginners swon kkinds ksbranches ksbeginners kswon lcuts_12 valu_13 won_10 chance_15)) (As := [.int (1 : Int32), .int (sets (x1_6).toNatClampNeg), .int r_8]) (rest := []) (ci := 0) (q0 := 26) ⟨hx, hb, hml, hown, hts⟩ hS hX (k_X0_enter (1 : Int32) (sets (x1_6).toNatClampNeg) r_8 (by omega) (by omega) (by omega) chance_15 e120) (cwV 3 hts gX10_chart_X0_enter rfl rfl rfl (by decide +kernel) ⟨Nat.le_of_ble_eq_true rfl, Nat.le_of_ble_eq_true rfl⟩) rfl rfl rfl hl.1 rfl (Nat.le_of_ble_eq_true rfl) dX10_chart_120 ⟨Nat.zero_le _, Nat.zero_le _⟩ (fun H locs hX => ?_)
          refine lv_iinc (v := (x1_6 + (1 : Int32))) (lv' := [(1, .int (x1_6 + (1 : Int32))), (4, .int r_8), (3, .int r_7), (2, .int (sets (x1_6).toNatClampNeg)), (0, .ref (a 0))]) hx hb dX10_chart_123 hl (k := 4) rfl rfl (by decide) rfl (fun ls hl => ?_)
          have s123 := i_s1 (x := x1_6) (by omega)
          refine lv_goto (tgt := 10) hx hb dX10_chart_126 (by decide) ?_
          exact ih_L10_1 lcuts_12 valu_13 won_10 chance_15 (x1_6 + (1 : Int32)) (by omega) (by omega) he _ _ _ hX (lv_sub hl [4, 0] rfl)
    exact L10_1 257 lcuts valu won chance (0 : Int32) (by omega) (by omega) he _ _ _ hX (lv_sub hl [1, 0] rfl)
  · have he := he.trans (if_neg c4)
    have d4 := i_ne c4
    subst he
    exact g_vret hx hb hr hlocks hX hq dX10_chart_7
