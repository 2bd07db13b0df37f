abbrev rm_X5_size : Room := { frames := 0, cells := 0, slots := 0, locals := 0 }
set_option maxHeartbeats 4000000 in
set_option maxRecDepth 100000 in
theorem k_X5_size {l : Launch} {D : va_G} {E : sE} {a : Nat → Nat} {cA : Nat → ClassId} {isCharted : Int32} {isKept : Int32} {hedgesRead : Int32} {evensDone : Int32} {plen : Int32} {number : Int32} {setCount : Int32} {standing : Int32} {turn : Int32} {cuts : Int32} {ssize : Int32} {kstanding : Int32} {kturn : Int32} {kcuts : Int32} {kssize : Int32} {seed : Int32} {whiteWon : Int32} {cutsDone : Int32} {lett : Nat → Int32} {onB : Nat → Int32} {abv : Nat → Int32} {sets : Nat → Int32} {kinds : Nat → Int32} {sbranches : Nat → Int32} {sbeginners : Nat → Int32} {swon : Nat → Int32} {kkinds : Nat → Int32} {ksbranches : Nat → Int32} {ksbeginners : Nat → Int32} {kswon : Nat → Int32} {lcuts : Nat → Int32} {valu : Nat → Int32} {won : Nat → Int64} {chance : Nat → Int64}   : ∀ q : Int32, q = f_X5_size plen → gMi l yX5_size wsX5_size rm_X5_size D E (tG cA) [.ref (a 1)] (wG a cA isCharted isKept hedgesRead evensDone plen number setCount standing turn cuts ssize kstanding kturn kcuts kssize seed whiteWon cutsDone lett onB abv sets kinds sbranches sbeginners swon kkinds ksbranches ksbeginners kswon lcuts valu won chance) (wG a cA isCharted isKept hedgesRead evensDone plen number setCount standing turn cuts ssize kstanding kturn kcuts kssize seed whiteWon cutsDone lett onB abv sets kinds sbranches sbeginners swon kkinds ksbranches ksbeginners kswon lcuts valu won chance) q := by
  intro q he0
  refine gM_of (cc := cX5_size) (maxL := 1) (ret := (some .int)) (Qf := gQi D (wG a cA isCharted isKept hedgesRead evensDone plen number setCount standing turn cuts ssize kstanding kturn kcuts kssize seed whiteWon cutsDone lett onB abv sets kinds sbranches sbeginners swon kkinds ksbranches ksbeginners kswon lcuts valu won chance) q) (by decide) rfl (Nat.le_of_ble_eq_true rfl) ?_
  intro p e s m args below meth c Z ls Qz hx hb hr hml hlocks hown hts hS hX hl hq
  have he := he0.trans f_X5_size_s
  have hown : s.vm.findClass RX5 = some m.cls := hown
  have hl : lv_has ls 1 [(0, .ref (a 1))] := hl
  have hi_X5 : ∀ w ∈ u_ws RX5 TX5 2, w ∈ wsX5_size := fun _ h => List.mem_cons_of_mem _ (List.mem_append_right _ h)
  have l_fieldLink_15 := hts (Cond.fieldLink RX5 15 "HedgeGame$Page" "length" "I") (List.mem_of_getElem? (i := 1) rfl)
  have t0 : ((0 : Int32)).toInt = 0 := rfl
  have t1 : ((1 : Int32)).toInt = 1 := rfl
  refine lv_aload_n hx hb dX5_size_0 rfl (lv_at hl 0 rfl) ?_
  refine va_get (D := D) (ci := 5) (v := .int plen) (C := RX5) (T := TX5) (N := 2) hx hb hts hi_X5 hown hS.1 hX.1 1 rfl rfl 1 (by decide) l_fieldLink_15 (fun _ h9 => h9) rfl dX5_size_1 ?_
  subst he
  exact g_iret hx hb hr hlocks hX hq rfl dX5_size_4
abbrev rm_X5_wipe : Room := { frames := 0, cells := 0, slots := 0, locals := 0 }
set_option maxHeartbeats 4000000 in
set_option maxRecDepth 100000 in
theorem k_X5_wipe {l : Launch} {D : va_G} {E : sE} {a : Nat → Nat} {cA : Nat → ClassId} {isCharted : Int32} {isKept : Int32} {hedgesRead : Int32} {evensDone : Int32} {plen : Int32} {number : Int32} {setCount : Int32} {standing : Int32} {turn : Int32} {cuts : Int32} {ssize : Int32} {kstanding : Int32} {kturn : Int32} {kcuts : Int32} {kssize : Int32} {seed : Int32} {whiteWon : Int32} {cutsDone : Int32} {lett : Nat → Int32} {onB : Nat → Int32} {abv : Nat → Int32} {sets : Nat → Int32} {kinds : Nat → Int32} {sbranches : Nat → Int32} {sbeginners : Nat → Int32} {swon : Nat → Int32} {kkinds : Nat → Int32} {ksbranches : Nat → Int32} {ksbeginners : Nat → Int32} {kswon : Nat → Int32} {lcuts : Nat → Int32} {valu : Nat → Int32} {won : Nat → Int64} {chance : Nat → Int64}   : ∀ q : Int32, q = f_X5_wipe plen → gMv l yX5_wipe wsX5_wipe rm_X5_wipe D E (tG cA) [.ref (a 1)] (wG a cA isCharted isKept hedgesRead evensDone plen number setCount standing turn cuts ssize kstanding kturn kcuts kssize seed whiteWon cutsDone lett onB abv sets kinds sbranches sbeginners swon kkinds ksbranches ksbeginners kswon lcuts valu won chance) (wG a cA isCharted isKept hedgesRead evensDone q number setCount standing turn cuts ssize kstanding kturn kcuts kssize seed whiteWon cutsDone lett onB abv sets kinds sbranches sbeginners swon kkinds ksbranches ksbeginners kswon lcuts valu won chance) := by
  intro q he0
  refine gM_of (cc := cX5_wipe) (maxL := 1) (ret := none) (Qf := gQv D (wG a cA isCharted isKept hedgesRead evensDone q number setCount standing turn cuts ssize kstanding kturn kcuts kssize seed whiteWon cutsDone lett onB abv sets kinds sbranches sbeginners swon kkinds ksbranches ksbeginners kswon lcuts valu won chance)) (by decide) rfl (Nat.le_of_ble_eq_true rfl) ?_
  intro p e s m args below meth c Z ls Qz hx hb hr hml hlocks hown hts hS hX hl hq
  have he := he0.trans f_X5_wipe_s
  have hown : s.vm.findClass RX5 = some m.cls := hown
  have hl : lv_has ls 1 [(0, .ref (a 1))] := hl
  have hi_X5 : ∀ w ∈ u_ws RX5 TX5 2, w ∈ wsX5_wipe := fun _ h => List.mem_cons_of_mem _ (List.mem_append_right _ h)
  have l_fieldLink_15 := hts (Cond.fieldLink RX5 15 "HedgeGame$Page" "length" "I") (List.mem_of_getElem? (i := 1) rfl)
  have t0 : ((0 : Int32)).toInt = 0 := rfl
  have t1 : ((1 : Int32)).toInt = 1 := rfl
  refine lv_aload_n hx hb dX5_wipe_0 rfl (lv_at hl 0 rfl) ?_
  refine lv_iconst (v := (0 : Int32)) hx hb dX5_wipe_1 (by decide) ?_
  refine va_put (D := D) (ci := 5) (v := .int (0 : Int32)) (ty := .int) (C := RX5) (T := TX5) (N := 2) hx hb hts hi_X5 tyX5 tyX5_ok nmX5 hown hS.1 hX.1 hX.2.1 hX.2.2 1 rfl rfl 1 (by decide) l_fieldLink_15 (fun _ h9 => h9) rfl (by decide +kernel) rfl rfl (Nat.le_of_ble_eq_true rfl) dX5_wipe_2 (fun H locs hP hD hs => ?_)
  have hX : gX D Z s (wG a cA isCharted isKept hedgesRead evensDone (0 : Int32) number setCount standing turn cuts ssize kstanding kturn kcuts kssize seed whiteWon cutsDone lett onB abv sets kinds sbranches sbeginners swon kkinds ksbranches ksbeginners kswon lcuts valu won chance) H locs := ⟨hP, hD, hs⟩
  subst he
  exact g_vret hx hb hr hlocks hX hq dX5_wipe_5
abbrev rm_X5_add : Room := { frames := 0, cells := 0, slots := 0, locals := 0 }
set_option maxHeartbeats 4000000 in
set_option maxRecDepth 100000 in
theorem k_X5_add {l : Launch} {D : va_G} {E : sE} {a : Nat → Nat} {cA : Nat → ClassId} {isCharted : Int32} {isKept : Int32} {hedgesRead : Int32} {evensDone : Int32} {plen : Int32} {number : Int32} {setCount : Int32} {standing : Int32} {turn : Int32} {cuts : Int32} {ssize : Int32} {kstanding : Int32} {kturn : Int32} {kcuts : Int32} {kssize : Int32} {seed : Int32} {whiteWon : Int32} {cutsDone : Int32} {lett : Nat → Int32} {onB : Nat → Int32} {abv : Nat → Int32} {sets : Nat → Int32} {kinds : Nat → Int32} {sbranches : Nat → Int32} {sbeginners : Nat → Int32} {swon : Nat → Int32} {kkinds : Nat → Int32} {ksbranches : Nat → Int32} {ksbeginners : Nat → Int32} {kswon : Nat → Int32} {lcuts : Nat → Int32} {valu : Nat → Int32} {won : Nat → Int64} {chance : Nat → Int64} (p1 : Int32) (hlp : 0 ≤ (plen).toInt ∧ (plen).toInt ≤ 26) : ∀ q : Int32 × (Nat → Int32), q = f_X5_add plen lett p1 → gMv l yX5_add wsX5_add rm_X5_add D E (tG cA) [.ref (a 1), .int p1] (wG a cA isCharted isKept hedgesRead evensDone plen number setCount standing turn cuts ssize kstanding kturn kcuts kssize seed whiteWon cutsDone lett onB abv sets kinds sbranches sbeginners swon kkinds ksbranches ksbeginners kswon lcuts valu won chance) (wG a cA isCharted isKept hedgesRead evensDone q.1 number setCount standing turn cuts ssize kstanding kturn kcuts kssize seed whiteWon cutsDone q.2 onB abv sets kinds sbranches sbeginners swon kkinds ksbranches ksbeginners kswon lcuts valu won chance) := by
  intro q he0
  refine gM_of (cc := cX5_add) (maxL := 2) (ret := none) (Qf := gQv D (wG a cA isCharted isKept hedgesRead evensDone q.1 number setCount standing turn cuts ssize kstanding kturn kcuts kssize seed whiteWon cutsDone q.2 onB abv sets kinds sbranches sbeginners swon kkinds ksbranches ksbeginners kswon lcuts valu won chance)) (by decide) rfl (Nat.le_of_ble_eq_true rfl) ?_
  intro p e s m args below meth c Z ls Qz hx hb hr hml hlocks hown hts hS hX hl hq
  have he := he0.trans f_X5_add_s
  have hown : s.vm.findClass RX5 = some m.cls := hown
  have hl : lv_has ls 2 [(0, .ref (a 1)), (1, .int p1)] := hl
  have hi_X5 : ∀ w ∈ u_ws RX5 TX5 2, w ∈ wsX5_add := fun _ h => List.mem_cons_of_mem _ (List.mem_append_right _ h)
  have l_fieldLink_15 := hts (Cond.fieldLink RX5 15 "HedgeGame$Page" "length" "I") (List.mem_of_getElem? (i := 1) rfl)
  have l_fieldLink_9 := hts (Cond.fieldLink RX5 9 "HedgeGame$Page" "letters" "[C") (List.mem_of_getElem? (i := 2) rfl)
  have t0 : ((0 : Int32)).toInt = 0 := rfl
  have t1 : ((1 : Int32)).toInt = 1 := rfl
  have t26 : ((26 : Int32)).toInt = 26 := rfl
  refine lv_aload_n hx hb dX5_add_0 rfl (lv_at hl 0 rfl) ?_
  refine va_get (D := D) (ci := 5) (v := .int plen) (C := RX5) (T := TX5) (N := 2) hx hb hts hi_X5 hown hS.1 hX.1 1 rfl rfl 1 (by decide) l_fieldLink_15 (fun _ h9 => h9) rfl dX5_add_1 ?_
  refine lv_bipush (v := (26 : Int32)) hx hb dX5_add_4 (by decide) ?_
  refine lv_icmp_ge (tgt := 29) hx hb dX5_add_6 (by decide) (fun c6 => ?_) (fun c6 => ?_)
  · have he := he.trans (if_pos c6)
    have d6 := i_le c6
    subst he
    exact g_vret hx hb hr hlocks hX hq dX5_add_29
  · have he := he.trans (if_neg c6)
    have d6 := i_nle c6
    refine lv_aload_n hx hb dX5_add_9 rfl (lv_at hl 0 rfl) ?_
    refine va_get (D := D) (ci := 5) (v := .ref (a 2)) (C := RX5) (T := TX5) (N := 2) hx hb hts hi_X5 hown hS.1 hX.1 1 rfl rfl 0 (by decide) l_fieldLink_9 (fun _ h9 => h9) rfl dX5_add_10 ?_
    refine lv_aload_n hx hb dX5_add_13 rfl (lv_at hl 0 rfl) ?_
    refine va_get (D := D) (ci := 5) (v := .int plen) (C := RX5) (T := TX5) (N := 2) hx hb hts hi_X5 hown hS.1 hX.1 1 rfl rfl 1 (by decide) l_fieldLink_15 (fun _ h9 => h9) rfl dX5_add_14 ?_
    refine lv_iload_n hx hb dX5_add_17 rfl (lv_at hl 1 rfl) ?_
    refine va_cast hx hb hS.1 hX.1 hX.2.1 hX.2.2 2 0 rfl rfl (vp_in_iff.mpr (by omega)) dX5_add_18 (fun H locs hP hD hs => ?_)
    have hX : gX D Z s (wG a cA isCharted isKept hedgesRead evensDone plen number setCount standing turn cuts ssize kstanding kturn kcuts kssize seed whiteWon cutsDone (upd lett (plen).toNatClampNeg (vp_nar .char p1)) onB abv sets kinds sbranches sbeginners swon kkinds ksbranches ksbeginners kswon lcuts valu won chance) H locs := ⟨hP, hD, hs⟩
    refine lv_aload_n hx hb dX5_add_19 rfl (lv_at hl 0 rfl) ?_
    refine lv_dup hx hb dX5_add_20 rfl ?_
    refine va_get (D := D) (ci := 5) (v := .int plen) (C := RX5) (T := TX5) (N := 2) hx hb hts hi_X5 hown hS.1 hX.1 1 rfl rfl 1 (by decide) l_fieldLink_15 (fun _ h9 => h9) rfl dX5_add_21 ?_
    refine lv_iconst (v := (1 : Int32)) hx hb dX5_add_24 (by decide) ?_
    refine lv_iadd hx hb dX5_add_25 ?_
    refine va_put (D := D) (ci := 5) (v := .int (plen + (1 : Int32))) (ty := .int) (C := RX5) (T := TX5) (N := 2) hx hb hts hi_X5 tyX5 tyX5_ok nmX5 hown hS.1 hX.1 hX.2.1 hX.2.2 1 rfl rfl 1 (by decide) l_fieldLink_15 (fun _ h9 => h9) rfl (by decide +kernel) rfl rfl (Nat.le_of_ble_eq_true rfl) dX5_add_26 (fun H locs hP hD hs => ?_)
    have hX : gX D Z s (wG a cA isCharted isKept hedgesRead evensDone (plen + (1 : Int32)) number setCount standing turn cuts ssize kstanding kturn kcuts kssize seed whiteWon cutsDone (upd lett (plen).toNatClampNeg (vp_nar .char p1)) onB abv sets kinds sbranches sbeginners swon kkinds ksbranches ksbeginners kswon lcuts valu won chance) H locs := ⟨hP, hD, hs⟩
    subst he
    exact g_vret hx hb hr hlocks hX hq dX5_add_29
abbrev rm_X5_at : Room := { frames := 0, cells := 0, slots := 0, locals := 0 }
set_option maxHeartbeats 4000000 in
set_option maxRecDepth 100000 in
theorem k_X5_at {l : Launch} {D : va_G} {E : sE} {a : Nat → Nat} {cA : Nat → ClassId} {isCharted : Int32} {isKept : Int32} {hedgesRead : Int32} {evensDone : Int32} {plen : Int32} {number : Int32} {setCount : Int32} {standing : Int32} {turn : Int32} {cuts : Int32} {ssize : Int32} {kstanding : Int32} {kturn : Int32} {kcuts : Int32} {kssize : Int32} {seed : Int32} {whiteWon : Int32} {cutsDone : Int32} {lett : Nat → Int32} {onB : Nat → Int32} {abv : Nat → Int32} {sets : Nat → Int32} {kinds : Nat → Int32} {sbranches : Nat → Int32} {sbeginners : Nat → Int32} {swon : Nat → Int32} {kkinds : Nat → Int32} {ksbranches : Nat → Int32} {ksbeginners : Nat → Int32} {kswon : Nat → Int32} {lcuts : Nat → Int32} {valu : Nat → Int32} {won : Nat → Int64} {chance : Nat → Int64} (p1 : Int32) (hlp : 0 ≤ (plen).toInt ∧ (plen).toInt ≤ 26) (hlc : ∀ k : Nat, 0 ≤ (lett k).toInt ∧ (lett k).toInt < 128) : ∀ q : Int32, q = f_X5_at plen lett p1 → gMi l yX5_at wsX5_at rm_X5_at D E (tG cA) [.ref (a 1), .int p1] (wG a cA isCharted isKept hedgesRead evensDone plen number setCount standing turn cuts ssize kstanding kturn kcuts kssize seed whiteWon cutsDone lett onB abv sets kinds sbranches sbeginners swon kkinds ksbranches ksbeginners kswon lcuts valu won chance) (wG a cA isCharted isKept hedgesRead evensDone plen number setCount standing turn cuts ssize kstanding kturn kcuts kssize seed whiteWon cutsDone lett onB abv sets kinds sbranches sbeginners swon kkinds ksbranches ksbeginners kswon lcuts valu won chance) q := by
  intro q he0
  refine gM_of (cc := cX5_at) (maxL := 2) (ret := (some .char)) (Qf := gQi D (wG a cA isCharted isKept hedgesRead evensDone plen number setCount standing turn cuts ssize kstanding kturn kcuts kssize seed whiteWon cutsDone lett onB abv sets kinds sbranches sbeginners swon kkinds ksbranches ksbeginners kswon lcuts valu won chance) q) (by decide) rfl (Nat.le_of_ble_eq_true rfl) ?_
  intro p e s m args below meth c Z ls Qz hx hb hr hml hlocks hown hts hS hX hl hq
  have he := he0.trans f_X5_at_s
  have hown : s.vm.findClass RX5 = some m.cls := hown
  have hl : lv_has ls 2 [(0, .ref (a 1)), (1, .int p1)] := hl
  have hi_X5 : ∀ w ∈ u_ws RX5 TX5 2, w ∈ wsX5_at := fun _ h => List.mem_cons_of_mem _ (List.mem_append_right _ h)
  have l_fieldLink_15 := hts (Cond.fieldLink RX5 15 "HedgeGame$Page" "length" "I") (List.mem_of_getElem? (i := 1) rfl)
  have l_fieldLink_9 := hts (Cond.fieldLink RX5 9 "HedgeGame$Page" "letters" "[C") (List.mem_of_getElem? (i := 2) rfl)
  have t0 : ((0 : Int32)).toInt = 0 := rfl
  have t1 : ((1 : Int32)).toInt = 1 := rfl
  refine lv_iload_n hx hb dX5_at_0 rfl (lv_at hl 1 rfl) ?_
  refine lv_if_lt (tgt := 21) hx hb dX5_at_1 (by decide) (fun c1 => ?_) (fun c1 => ?_)
  · have he := he.trans (if_pos c1)
    have d1 := i_lt c1
    refine lv_iconst (v := (0 : Int32)) hx hb dX5_at_21 (by decide) ?_
    subst he
    exact g_zret hx hb hr (by first | rfl | exact c_nar (hlc _)) hlocks hX hq rfl dX5_at_22
  · have he := he.trans (if_neg c1)
    have d1 := i_nlt c1
    refine lv_iload_n hx hb dX5_at_4 rfl (lv_at hl 1 rfl) ?_
    refine lv_aload_n hx hb dX5_at_5 rfl (lv_at hl 0 rfl) ?_
    refine va_get (D := D) (ci := 5) (v := .int plen) (C := RX5) (T := TX5) (N := 2) hx hb hts hi_X5 hown hS.1 hX.1 1 rfl rfl 1 (by decide) l_fieldLink_15 (fun _ h9 => h9) rfl dX5_at_6 ?_
    refine lv_icmp_ge (tgt := 21) hx hb dX5_at_9 (by decide) (fun c9 => ?_) (fun c9 => ?_)
    · have he := he.trans (if_pos c9)
      have d9 := i_le c9
      refine lv_iconst (v := (0 : Int32)) hx hb dX5_at_21 (by decide) ?_
      subst he
      exact g_zret hx hb hr (by first | rfl | exact c_nar (hlc _)) hlocks hX hq rfl dX5_at_22
    · have he := he.trans (if_neg c9)
      have d9 := i_nle c9
      refine lv_aload_n hx hb dX5_at_12 rfl (lv_at hl 0 rfl) ?_
      refine va_get (D := D) (ci := 5) (v := .ref (a 2)) (C := RX5) (T := TX5) (N := 2) hx hb hts hi_X5 hown hS.1 hX.1 1 rfl rfl 0 (by decide) l_fieldLink_9 (fun _ h9 => h9) rfl dX5_at_13 ?_
      refine lv_iload_n hx hb dX5_at_16 rfl (lv_at hl 1 rfl) ?_
      refine va_cald hx hb hS.1 hX.1 2 0 rfl rfl (vp_in_iff.mpr (by omega)) dX5_at_17 ?_
      refine lv_goto (tgt := 22) hx hb dX5_at_18 (by decide) ?_
      subst he
      exact g_zret hx hb hr (by first | rfl | exact c_nar (hlc _)) hlocks hX hq rfl dX5_at_22
abbrev rm_X5_fits : Room := { frames := 4, cells := 0, slots := 0, locals := 91 }
set_option maxHeartbeats 4000000 in
set_option maxRecDepth 100000 in
theorem k_X5_fits {l : Launch} {D : va_G} {E : sE} {a : Nat → Nat} {cA : Nat → ClassId} {isCharted : Int32} {isKept : Int32} {hedgesRead : Int32} {evensDone : Int32} {plen : Int32} {number : Int32} {setCount : Int32} {standing : Int32} {turn : Int32} {cuts : Int32} {ssize : Int32} {kstanding : Int32} {kturn : Int32} {kcuts : Int32} {kssize : Int32} {seed : Int32} {whiteWon : Int32} {cutsDone : Int32} {lett : Nat → Int32} {onB : Nat → Int32} {abv : Nat → Int32} {sets : Nat → Int32} {kinds : Nat → Int32} {sbranches : Nat → Int32} {sbeginners : Nat → Int32} {swon : Nat → Int32} {kkinds : Nat → Int32} {ksbranches : Nat → Int32} {ksbeginners : Nat → Int32} {kswon : Nat → Int32} {lcuts : Nat → Int32} {valu : Nat → Int32} {won : Nat → Int64} {chance : Nat → Int64} (p1 : Int32) (hlp : 0 ≤ (plen).toInt ∧ (plen).toInt ≤ 26) (hlc : ∀ k : Nat, 0 ≤ (lett k).toInt ∧ (lett k).toInt < 128) : ∀ q : Int32, q = f_X5_fits plen lett p1 → gMi l yX5_fits wsX5_fits rm_X5_fits D E (tG cA) [.ref (a 1), .int p1] (wG a cA isCharted isKept hedgesRead evensDone plen number setCount standing turn cuts ssize kstanding kturn kcuts kssize seed whiteWon cutsDone lett onB abv sets kinds sbranches sbeginners swon kkinds ksbranches ksbeginners kswon lcuts valu won chance) (wG a cA isCharted isKept hedgesRead evensDone plen number setCount standing turn cuts ssize kstanding kturn kcuts kssize seed whiteWon cutsDone lett onB abv sets kinds sbranches sbeginners swon kkinds ksbranches ksbeginners kswon lcuts valu won chance) q := by
  intro q he0
  refine gM_of (cc := cX5_fits) (maxL := 3) (ret := (some .boolean)) (Qf := gQi D (wG a cA isCharted isKept hedgesRead evensDone plen number setCount standing turn cuts ssize kstanding kturn kcuts kssize seed whiteWon cutsDone lett onB abv sets kinds sbranches sbeginners swon kkinds ksbranches ksbeginners kswon lcuts valu won chance) q) (by decide) rfl (Nat.le_of_ble_eq_true rfl) ?_
  intro p e s m args below meth c Z ls Qz hx hb hr hml hlocks hown hts hS hX hl hq
  have he := he0.trans f_X5_fits_s
  have hown : s.vm.findClass RX5 = some m.cls := hown
  have hl : lv_has ls 3 [(0, .ref (a 1)), (1, .int p1)] := hl
  have t0 : ((0 : Int32)).toInt = 0 := rfl
  have t1 : ((1 : Int32)).toInt = 1 := rfl
  have t3 : ((3 : Int32)).toInt = 3 := rfl
  have t23 : ((23 : Int32)).toInt = 23 := rfl
  have t44 : ((44 : Int32)).toInt = 44 := rfl
  have t45 : ((45 : Int32)).toInt = 45 := rfl
  have t48 : ((48 : Int32)).toInt = 48 := rfl
  refine lv_iload_n hx hb dX5_fits_0 rfl (lv_at hl 1 rfl) ?_
  refine lv_bipush (v := (23 : Int32)) hx hb dX5_fits_1 (by decide) ?_
  refine lv_icmp_lt (tgt := 8) hx hb dX5_fits_3 (by decide) (fun c3 => ?_) (fun c3 => ?_)
  · have he := he.trans (if_pos c3)
    have d3 := i_lt c3
    refine lv_aload_n hx hb dX5_fits_8 rfl (lv_at hl 0 rfl) ?_
    refine lv_iload_n hx hb dX5_fits_9 rfl (lv_at hl 1 rfl) ?_
    obtain ⟨r_1, e10⟩ : ∃ z, z = (f_X5_at plen lett p1) := ⟨_, rfl⟩
    rw [← e10] at he
    refine g_Vi (r := r_1) (As := [.int p1]) (rest := []) (ci := 5) (q0 := 1) ⟨hx, hb, hml, hown, hts⟩ hS hX (k_X5_at p1 (by omega) (by assumption) r_1 e10) (cwV 1 hts gX5_fits_X5_at rfl rfl rfl (by decide +kernel) ⟨Nat.le_of_ble_eq_true rfl, Nat.le_of_ble_eq_true rfl⟩) rfl rfl rfl hl.1 rfl (Nat.le_of_ble_eq_true rfl) dX5_fits_10 ⟨Nat.zero_le _, Nat.zero_le _⟩ (fun H locs hX => ?_)
    refine lv_istore_n (lv' := [(2, .int r_1), (0, .ref (a 1)), (1, .int p1)]) hx hb dX5_fits_13 rfl hl (by decide) rfl (fun ls hl => ?_)
    refine lv_iload_n hx hb dX5_fits_14 rfl (lv_at hl 2 rfl) ?_
    refine lv_iconst (v := (3 : Int32)) hx hb dX5_fits_15 (by decide) ?_
    refine lv_irem hx hb dX5_fits_16 (by decide) ?_
    by_cases q17_0 : (p1 - p1 / (3 : Int32) * (3 : Int32)) = (0 : Int32)
    · have he := he.trans (if_pos q17_0)
      refine lv_lookup (tgt := 44) (off := 27) hx hb dX5_fits_17 (by decide) (by rw [q17_0]; decide) (by decide) ?_
      refine va_ldcS (own := "HedgeGame$Page") (tx := "bwdit") (q := E.2.1) hx hb hown hS.2.2.2.2 dX5_fits_44 ?_
      refine lv_iload_n hx hb dX5_fits_46 rfl (lv_at hl 0 rfl) ?_
      obtain ⟨r_2, e47⟩ : ∃ z, z = (f_J0_indexOf_0f7a4 r_1) := ⟨_, rfl⟩
      rw [← e47] at he
      refine g_Ji (r := r_2) (As := [.int r_1]) (rest := []) ⟨hx, hb, hml, hown, hts⟩ hS hX (k_J0_indexOf_0f7a4 r_1 r_2 e47) (cwV 1 hts gX5_fits_J0_indexOf_0f7a4 rfl rfl rfl (by decide +kernel) ⟨Nat.le_of_ble_eq_true rfl, Nat.le_of_ble_eq_true rfl⟩) rfl hl.1 rfl (Nat.le_of_ble_eq_true rfl) dX5_fits_47 ⟨Nat.zero_le _, Nat.zero_le _⟩ (fun H locs hX => ?_)
      refine lv_if_lt (tgt := 57) hx hb dX5_fits_50 (by decide) (fun c50 => ?_) (fun c50 => ?_)
      · have he := he.trans (if_pos c50)
        have d50 := i_lt c50
        refine lv_iconst (v := (0 : Int32)) hx hb dX5_fits_57 (by decide) ?_
        subst he
        exact g_zret hx hb hr rfl hlocks hX hq rfl dX5_fits_58
      · have he := he.trans (if_neg c50)
        have d50 := i_nlt c50
        refine lv_iconst (v := (1 : Int32)) hx hb dX5_fits_53 (by decide) ?_
        refine lv_goto (tgt := 58) hx hb dX5_fits_54 (by decide) ?_
        subst he
        exact g_zret hx hb hr rfl hlocks hX hq rfl dX5_fits_58
    · have he := he.trans (if_neg q17_0)
      by_cases q17_1 : (p1 - p1 / (3 : Int32) * (3 : Int32)) = (1 : Int32)
      · have he := he.trans (if_pos q17_1)
        refine lv_lookup (tgt := 59) (off := 42) hx hb dX5_fits_17 (by decide) (by rw [q17_1]; decide) (by decide) ?_
        refine lv_iload_n hx hb dX5_fits_59 rfl (lv_at hl 0 rfl) ?_
        refine lv_bipush (v := (45 : Int32)) hx hb dX5_fits_60 (by decide) ?_
        refine lv_icmp_eq (tgt := 81) hx hb dX5_fits_62 (by decide) (fun c62 => ?_) (fun c62 => ?_)
        · have he := he.trans (if_pos c62)
          have d62 := i_eq c62
          refine lv_iconst (v := (1 : Int32)) hx hb dX5_fits_81 (by decide) ?_
          refine lv_goto (tgt := 86) hx hb dX5_fits_82 (by decide) ?_
          subst he
          exact g_zret hx hb hr rfl hlocks hX hq rfl dX5_fits_86
        · have he := he.trans (if_neg c62)
          have d62 := i_ne c62
          refine lv_iload_n hx hb dX5_fits_65 rfl (lv_at hl 0 rfl) ?_
          refine lv_bipush (v := (48 : Int32)) hx hb dX5_fits_66 (by decide) ?_
          refine lv_icmp_lt (tgt := 85) hx hb dX5_fits_68 (by decide) (fun c68 => ?_) (fun c68 => ?_)
          · have he := he.trans (if_pos c68)
            have d68 := i_lt c68
            refine lv_iconst (v := (0 : Int32)) hx hb dX5_fits_85 (by decide) ?_
            subst he
            exact g_zret hx hb hr rfl hlocks hX hq rfl dX5_fits_86
          · have he := he.trans (if_neg c68)
            have d68 := i_nlt c68
            refine lv_iload_n hx hb dX5_fits_71 rfl (lv_at hl 0 rfl) ?_
            refine lv_bipush (v := (48 : Int32)) hx hb dX5_fits_72 (by decide) ?_
            refine lv_iload_n hx hb dX5_fits_74 rfl (lv_at hl 2 rfl) ?_
            refine lv_iconst (v := (3 : Int32)) hx hb dX5_fits_75 (by decide) ?_
            refine lv_idiv hx hb dX5_fits_76 (by decide) ?_
            refine lv_iadd hx hb dX5_fits_77 ?_
            refine lv_icmp_ge (tgt := 85) hx hb dX5_fits_78 (by decide) (fun c78 => ?_) (fun c78 => ?_)
            · have he := he.trans (if_pos c78)
              have d78 := i_le c78
              refine lv_iconst (v := (0 : Int32)) hx hb dX5_fits_85 (by decide) ?_
              subst he
              exact g_zret hx hb hr rfl hlocks hX hq rfl dX5_fits_86
            · have he := he.trans (if_neg c78)
              have d78 := i_nle c78
              refine lv_iconst (v := (1 : Int32)) hx hb dX5_fits_81 (by decide) ?_
              refine lv_goto (tgt := 86) hx hb dX5_fits_82 (by decide) ?_
              subst he
              exact g_zret hx hb hr rfl hlocks hX hq rfl dX5_fits_86
      · have he := he.trans (if_neg q17_1)
        refine lv_lookup (tgt := 87) (off := 70) hx hb dX5_fits_17 (by decide) ((lv_osw q17_0 rfl).trans ((lv_osw q17_1 rfl).trans rfl)) (by decide) ?_
        refine lv_iload_n hx hb dX5_fits_87 rfl (lv_at hl 0 rfl) ?_
        refine lv_bipush (v := (44 : Int32)) hx hb dX5_fits_88 (by decide) ?_
        refine lv_icmp_ne (tgt := 97) hx hb dX5_fits_90 (by decide) (fun c90 => ?_) (fun c90 => ?_)
        · have he := he.trans (if_neg c90)
          have d90 := i_ne c90
          refine lv_iconst (v := (0 : Int32)) hx hb dX5_fits_97 (by decide) ?_
          subst he
          exact g_zret hx hb hr rfl hlocks hX hq rfl dX5_fits_98
        · have he := he.trans (if_pos c90)
          have d90 := i_eq c90
          refine lv_iconst (v := (1 : Int32)) hx hb dX5_fits_93 (by decide) ?_
          refine lv_goto (tgt := 98) hx hb dX5_fits_94 (by decide) ?_
          subst he
          exact g_zret hx hb hr rfl hlocks hX hq rfl dX5_fits_98
  · have he := he.trans (if_neg c3)
    have d3 := i_nlt c3
    refine lv_iconst (v := (0 : Int32)) hx hb dX5_fits_6 (by decide) ?_
    subst he
    exact g_zret hx hb hr rfl hlocks hX hq rfl dX5_fits_7
abbrev rm_X5_firstWrong : Room := { frames := 5, cells := 0, slots := 0, locals := 113 }
set_option maxHeartbeats 4000000 in
set_option maxRecDepth 100000 in
theorem k_X5_firstWrong {l : Launch} {D : va_G} {E : sE} {a : Nat → Nat} {cA : Nat → ClassId} {isCharted : Int32} {isKept : Int32} {hedgesRead : Int32} {evensDone : Int32} {plen : Int32} {number : Int32} {setCount : Int32} {standing : Int32} {turn : Int32} {cuts : Int32} {ssize : Int32} {kstanding : Int32} {kturn : Int32} {kcuts : Int32} {kssize : Int32} {seed : Int32} {whiteWon : Int32} {cutsDone : Int32} {lett : Nat → Int32} {onB : Nat → Int32} {abv : Nat → Int32} {sets : Nat → Int32} {kinds : Nat → Int32} {sbranches : Nat → Int32} {sbeginners : Nat → Int32} {swon : Nat → Int32} {kkinds : Nat → Int32} {ksbranches : Nat → Int32} {ksbeginners : Nat → Int32} {kswon : Nat → Int32} {lcuts : Nat → Int32} {valu : Nat → Int32} {won : Nat → Int64} {chance : Nat → Int64}  (hlp : 0 ≤ (plen).toInt ∧ (plen).toInt ≤ 26) (hlc : ∀ k : Nat, 0 ≤ (lett k).toInt ∧ (lett k).toInt < 128) : ∀ q : Int32, q = f_X5_firstWrong plen lett → gMi l yX5_firstWrong wsX5_firstWrong rm_X5_firstWrong D E (tG cA) [.ref (a 1)] (wG a cA isCharted isKept hedgesRead evensDone plen number setCount standing turn cuts ssize kstanding kturn kcuts kssize seed whiteWon cutsDone lett onB abv sets kinds sbranches sbeginners swon kkinds ksbranches ksbeginners kswon lcuts valu won chance) (wG a cA isCharted isKept hedgesRead evensDone plen number setCount standing turn cuts ssize kstanding kturn kcuts kssize seed whiteWon cutsDone lett onB abv sets kinds sbranches sbeginners swon kkinds ksbranches ksbeginners kswon lcuts valu won chance) q := by
  intro q he0
  refine gM_of (cc := cX5_firstWrong) (maxL := 2) (ret := (some .int)) (Qf := gQi D (wG a cA isCharted isKept hedgesRead evensDone plen number setCount standing turn cuts ssize kstanding kturn kcuts kssize seed whiteWon cutsDone lett onB abv sets kinds sbranches sbeginners swon kkinds ksbranches ksbeginners kswon lcuts valu won chance) q) (by decide) rfl (Nat.le_of_ble_eq_true rfl) ?_
  intro p e s m args below meth c Z ls Qz hx hb hr hml hlocks hown hts hS hX hl hq
  have he := he0.trans f_X5_firstWrong_s
  have hown : s.vm.findClass RX5 = some m.cls := hown
  have hl : lv_has ls 2 [(0, .ref (a 1))] := hl
  have hi_X5 : ∀ w ∈ u_ws RX5 TX5 2, w ∈ wsX5_firstWrong := fun _ h => List.mem_cons_of_mem _ (List.mem_append_right _ h)
  have l_fieldLink_15 := hts (Cond.fieldLink RX5 15 "HedgeGame$Page" "length" "I") (List.mem_of_getElem? (i := 1) rfl)
  have t0 : ((0 : Int32)).toInt = 0 := rfl
  have t1 : ((1 : Int32)).toInt = 1 := rfl
  refine lv_iconst (v := (0 : Int32)) hx hb dX5_firstWrong_0 (by decide) ?_
  refine lv_istore_n (lv' := [(1, .int (0 : Int32)), (0, .ref (a 1))]) hx hb dX5_firstWrong_1 rfl hl (by decide) rfl (fun ls hl => ?_)
  have L2_1 : ∀ (n_2_1 : Nat) (x1_2 : Int32), 0 ≤ (x1_2).toInt ∧ (x1_2).toInt ≤ 26 → 26 - (x1_2).toInt < (n_2_1 : Int) → q = f_X5_firstWrong_L2 n_2_1 plen lett x1_2 → ∀ (H : Heap) (locs : List Loc) (ls : Array Slot), gX D Z s (wG a cA isCharted isKept hedgesRead evensDone plen number setCount standing turn cuts ssize kstanding kturn kcuts kssize seed whiteWon cutsDone lett onB abv sets kinds sbranches sbeginners swon kkinds ksbranches ksbeginners kswon lcuts valu won chance) H locs → lv_has ls 2 [(0, .ref (a 1)), (1, .int x1_2)] → W p l e rm_X5_firstWrong s m args below meth c H locs 0 0 Qz (F0 m 2 ls []) := by
    intro n_2_1
    induction n_2_1 with
    | zero =>
      intro x1_2 ia ifu _ _ _ _ _ _
      exfalso; omega
    | succ n_2_1 ih_L2_1 =>
      intro x1_2 ia ifu he H locs ls hX hl
      have he := he.trans f_X5_firstWrong_L2_s
      refine lv_iload_n hx hb dX5_firstWrong_2 rfl (lv_at hl 1 rfl) ?_
      refine lv_aload_n hx hb dX5_firstWrong_3 rfl (lv_at hl 0 rfl) ?_
      refine va_get (D := D) (ci := 5) (v := .int plen) (C := RX5) (T := TX5) (N := 2) hx hb hts hi_X5 hown hS.1 hX.1 1 rfl rfl 1 (by decide) l_fieldLink_15 (fun _ h9 => h9) rfl dX5_firstWrong_4 ?_
      refine lv_icmp_ge (tgt := 26) hx hb dX5_firstWrong_7 (by decide) (fun c7 => ?_) (fun c7 => ?_)
      · have he := he.trans (if_pos c7)
        have d7 := i_le c7
        refine lv_aload_n hx hb dX5_firstWrong_26 rfl (lv_at hl 0 rfl) ?_
        refine va_get (D := D) (ci := 5) (v := .int plen) (C := RX5) (T := TX5) (N := 2) hx hb hts hi_X5 hown hS.1 hX.1 1 rfl rfl 1 (by decide) l_fieldLink_15 (fun _ h9 => h9) rfl dX5_firstWrong_27 ?_
        subst he
        exact g_iret hx hb hr hlocks hX hq rfl dX5_firstWrong_30
      · have he := he.trans (if_neg c7)
        have d7 := i_nle c7
        refine lv_aload_n hx hb dX5_firstWrong_10 rfl (lv_at hl 0 rfl) ?_
        refine lv_iload_n hx hb dX5_firstWrong_11 rfl (lv_at hl 1 rfl) ?_
        obtain ⟨r_3, e12⟩ : ∃ z, z = (f_X5_fits plen lett x1_2) := ⟨_, rfl⟩
        rw [← e12] at he
        refine g_Vi (r := r_3) (As := [.int x1_2]) (rest := []) (ci := 5) (q0 := 1) ⟨hx, hb, hml, hown, hts⟩ hS hX (k_X5_fits x1_2 (by omega) (by assumption) r_3 e12) (cwV 1 hts gX5_firstWrong_X5_fits rfl rfl rfl (by decide +kernel) ⟨Nat.le_of_ble_eq_true rfl, Nat.le_of_ble_eq_true rfl⟩) rfl rfl rfl hl.1 rfl (Nat.le_of_ble_eq_true rfl) dX5_firstWrong_12 ⟨Nat.zero_le _, Nat.zero_le _⟩ (fun H locs hX => ?_)
        refine lv_if_ne (tgt := 20) hx hb dX5_firstWrong_15 (by decide) (fun c15 => ?_) (fun c15 => ?_)
        · have he := he.trans (if_neg c15)
          have d15 := i_ne c15
          refine lv_iinc (v := (x1_2 + (1 : Int32))) (lv' := [(1, .int (x1_2 + (1 : Int32))), (0, .ref (a 1))]) hx hb dX5_firstWrong_20 hl (k := 1) rfl rfl (by decide) rfl (fun ls hl => ?_)
          have s20 := i_s1 (x := x1_2) (by omega)
          refine lv_goto (tgt := 2) hx hb dX5_firstWrong_23 (by decide) ?_
          exact ih_L2_1 (x1_2 + (1 : Int32)) (by omega) (by omega) he _ _ _ hX (lv_sub hl [1, 0] rfl)
        · have he := he.trans (if_pos c15)
          have d15 := i_eq c15
          refine lv_iload_n hx hb dX5_firstWrong_18 rfl (lv_at hl 1 rfl) ?_
          subst he
          exact g_iret hx hb hr hlocks hX hq rfl dX5_firstWrong_19
  exact L2_1 27 (0 : Int32) (by omega) (by omega) he _ _ _ hX (lv_sub hl [1, 0] rfl)
abbrev rm_X5_isWhole : Room := { frames := 6, cells := 0, slots := 0, locals := 134 }
set_option maxHeartbeats 4000000 in
set_option maxRecDepth 100000 in
theorem k_X5_isWhole {l : Launch} {D : va_G} {E : sE} {a : Nat → Nat} {cA : Nat → ClassId} {isCharted : Int32} {isKept : Int32} {hedgesRead : Int32} {evensDone : Int32} {plen : Int32} {number : Int32} {setCount : Int32} {standing : Int32} {turn : Int32} {cuts : Int32} {ssize : Int32} {kstanding : Int32} {kturn : Int32} {kcuts : Int32} {kssize : Int32} {seed : Int32} {whiteWon : Int32} {cutsDone : Int32} {lett : Nat → Int32} {onB : Nat → Int32} {abv : Nat → Int32} {sets : Nat → Int32} {kinds : Nat → Int32} {sbranches : Nat → Int32} {sbeginners : Nat → Int32} {swon : Nat → Int32} {kkinds : Nat → Int32} {ksbranches : Nat → Int32} {ksbeginners : Nat → Int32} {kswon : Nat → Int32} {lcuts : Nat → Int32} {valu : Nat → Int32} {won : Nat → Int64} {chance : Nat → Int64}  (hlp : 0 ≤ (plen).toInt ∧ (plen).toInt ≤ 26) (hlc : ∀ k : Nat, 0 ≤ (lett k).toInt ∧ (lett k).toInt < 128) : ∀ q : Int32, q = f_X5_isWhole plen lett → gMi l yX5_isWhole wsX5_isWhole rm_X5_isWhole D E (tG cA) [.ref (a 1)] (wG a cA isCharted isKept hedgesRead evensDone plen number setCount standing turn cuts ssize kstanding kturn kcuts kssize seed whiteWon cutsDone lett onB abv sets kinds sbranches sbeginners swon kkinds ksbranches ksbeginners kswon lcuts valu won chance) (wG a cA isCharted isKept hedgesRead evensDone plen number setCount standing turn cuts ssize kstanding kturn kcuts kssize seed whiteWon cutsDone lett onB abv sets kinds sbranches sbeginners swon kkinds ksbranches ksbeginners kswon lcuts valu won chance) q := by
  intro q he0
  refine gM_of (cc := cX5_isWhole) (maxL := 1) (ret := (some .boolean)) (Qf := gQi D (wG a cA isCharted isKept hedgesRead evensDone plen number setCount standing turn cuts ssize kstanding kturn kcuts kssize seed whiteWon cutsDone lett onB abv sets kinds sbranches sbeginners swon kkinds ksbranches ksbeginners kswon lcuts valu won chance) q) (by decide) rfl (Nat.le_of_ble_eq_true rfl) ?_
  intro p e s m args below meth c Z ls Qz hx hb hr hml hlocks hown hts hS hX hl hq
  have he := he0.trans f_X5_isWhole_s
  have hown : s.vm.findClass RX5 = some m.cls := hown
  have hl : lv_has ls 1 [(0, .ref (a 1))] := hl
  have hi_X5 : ∀ w ∈ u_ws RX5 TX5 2, w ∈ wsX5_isWhole := fun _ h => List.mem_cons_of_mem _ (List.mem_append_right _ h)
  have l_fieldLink_15 := hts (Cond.fieldLink RX5 15 "HedgeGame$Page" "length" "I") (List.mem_of_getElem? (i := 1) rfl)
  have t0 : ((0 : Int32)).toInt = 0 := rfl
  have t1 : ((1 : Int32)).toInt = 1 := rfl
  have t2 : ((2 : Int32)).toInt = 2 := rfl
  have t3 : ((3 : Int32)).toInt = 3 := rfl
  refine lv_aload_n hx hb dX5_isWhole_0 rfl (lv_at hl 0 rfl) ?_
  refine va_get (D := D) (ci := 5) (v := .int plen) (C := RX5) (T := TX5) (N := 2) hx hb hts hi_X5 hown hS.1 hX.1 1 rfl rfl 1 (by decide) l_fieldLink_15 (fun _ h9 => h9) rfl dX5_isWhole_1 ?_
  refine lv_iconst (v := (3 : Int32)) hx hb dX5_isWhole_4 (by decide) ?_
  refine lv_irem hx hb dX5_isWhole_5 (by decide) ?_
  refine lv_iconst (v := (2 : Int32)) hx hb dX5_isWhole_6 (by decide) ?_
  refine lv_icmp_ne (tgt := 25) hx hb dX5_isWhole_7 (by decide) (fun c7 => ?_) (fun c7 => ?_)
  · have he := he.trans (if_neg c7)
    have d7 := i_ne c7
    refine lv_iconst (v := (0 : Int32)) hx hb dX5_isWhole_25 (by decide) ?_
    subst he
    exact g_zret hx hb hr rfl hlocks hX hq rfl dX5_isWhole_26
  · have he := he.trans (if_pos c7)
    have d7 := i_eq c7
    refine lv_aload_n hx hb dX5_isWhole_10 rfl (lv_at hl 0 rfl) ?_
    obtain ⟨r_1, e11⟩ : ∃ z, z = (f_X5_firstWrong plen lett) := ⟨_, rfl⟩
    rw [← e11] at he
    refine g_Vi (r := r_1) (As := []) (rest := []) (ci := 5) (q0 := 1) ⟨hx, hb, hml, hown, hts⟩ hS hX (k_X5_firstWrong (by omega) (by assumption) r_1 e11) (cwV 0 hts gX5_isWhole_X5_firstWrong rfl rfl rfl (by decide +kernel) ⟨Nat.le_of_ble_eq_true rfl, Nat.le_of_ble_eq_true rfl⟩) rfl rfl rfl hl.1 rfl (Nat.le_of_ble_eq_true rfl) dX5_isWhole_11 ⟨Nat.zero_le _, Nat.zero_le _⟩ (fun H locs hX => ?_)
    refine lv_aload_n hx hb dX5_isWhole_14 rfl (lv_at hl 0 rfl) ?_
    refine va_get (D := D) (ci := 5) (v := .int plen) (C := RX5) (T := TX5) (N := 2) hx hb hts hi_X5 hown hS.1 hX.1 1 rfl rfl 1 (by decide) l_fieldLink_15 (fun _ h9 => h9) rfl dX5_isWhole_15 ?_
    refine lv_icmp_ne (tgt := 25) hx hb dX5_isWhole_18 (by decide) (fun c18 => ?_) (fun c18 => ?_)
    · have he := he.trans (if_neg c18)
      have d18 := i_ne c18
      refine lv_iconst (v := (0 : Int32)) hx hb dX5_isWhole_25 (by decide) ?_
      subst he
      exact g_zret hx hb hr rfl hlocks hX hq rfl dX5_isWhole_26
    · have he := he.trans (if_pos c18)
      have d18 := i_eq c18
      refine lv_iconst (v := (1 : Int32)) hx hb dX5_isWhole_21 (by decide) ?_
      refine lv_goto (tgt := 26) hx hb dX5_isWhole_22 (by decide) ?_
      subst he
      exact g_zret hx hb hr rfl hlocks hX hq rfl dX5_isWhole_26
abbrev rm_X5_branches : Room := { frames := 0, cells := 0, slots := 0, locals := 0 }
set_option maxHeartbeats 4000000 in
set_option maxRecDepth 100000 in
theorem k_X5_branches {l : Launch} {D : va_G} {E : sE} {a : Nat → Nat} {cA : Nat → ClassId} {isCharted : Int32} {isKept : Int32} {hedgesRead : Int32} {evensDone : Int32} {plen : Int32} {number : Int32} {setCount : Int32} {standing : Int32} {turn : Int32} {cuts : Int32} {ssize : Int32} {kstanding : Int32} {kturn : Int32} {kcuts : Int32} {kssize : Int32} {seed : Int32} {whiteWon : Int32} {cutsDone : Int32} {lett : Nat → Int32} {onB : Nat → Int32} {abv : Nat → Int32} {sets : Nat → Int32} {kinds : Nat → Int32} {sbranches : Nat → Int32} {sbeginners : Nat → Int32} {swon : Nat → Int32} {kkinds : Nat → Int32} {ksbranches : Nat → Int32} {ksbeginners : Nat → Int32} {kswon : Nat → Int32} {lcuts : Nat → Int32} {valu : Nat → Int32} {won : Nat → Int64} {chance : Nat → Int64}  (hlp : 0 ≤ (plen).toInt ∧ (plen).toInt ≤ 26) : ∀ q : Int32, q = f_X5_branches plen → gMi l yX5_branches wsX5_branches rm_X5_branches D E (tG cA) [.ref (a 1)] (wG a cA isCharted isKept hedgesRead evensDone plen number setCount standing turn cuts ssize kstanding kturn kcuts kssize seed whiteWon cutsDone lett onB abv sets kinds sbranches sbeginners swon kkinds ksbranches ksbeginners kswon lcuts valu won chance) (wG a cA isCharted isKept hedgesRead evensDone plen number setCount standing turn cuts ssize kstanding kturn kcuts kssize seed whiteWon cutsDone lett onB abv sets kinds sbranches sbeginners swon kkinds ksbranches ksbeginners kswon lcuts valu won chance) q := by
  intro q he0
  refine gM_of (cc := cX5_branches) (maxL := 1) (ret := (some .int)) (Qf := gQi D (wG a cA isCharted isKept hedgesRead evensDone plen number setCount standing turn cuts ssize kstanding kturn kcuts kssize seed whiteWon cutsDone lett onB abv sets kinds sbranches sbeginners swon kkinds ksbranches ksbeginners kswon lcuts valu won chance) q) (by decide) rfl (Nat.le_of_ble_eq_true rfl) ?_
  intro p e s m args below meth c Z ls Qz hx hb hr hml hlocks hown hts hS hX hl hq
  have he := he0.trans f_X5_branches_s
  have hown : s.vm.findClass RX5 = some m.cls := hown
  have hl : lv_has ls 1 [(0, .ref (a 1))] := hl
  have hi_X5 : ∀ w ∈ u_ws RX5 TX5 2, w ∈ wsX5_branches := fun _ h => List.mem_cons_of_mem _ (List.mem_append_right _ h)
  have l_fieldLink_15 := hts (Cond.fieldLink RX5 15 "HedgeGame$Page" "length" "I") (List.mem_of_getElem? (i := 1) rfl)
  have t0 : ((0 : Int32)).toInt = 0 := rfl
  have t1 : ((1 : Int32)).toInt = 1 := rfl
  have t3 : ((3 : Int32)).toInt = 3 := rfl
  refine lv_aload_n hx hb dX5_branches_0 rfl (lv_at hl 0 rfl) ?_
  refine va_get (D := D) (ci := 5) (v := .int plen) (C := RX5) (T := TX5) (N := 2) hx hb hts hi_X5 hown hS.1 hX.1 1 rfl rfl 1 (by decide) l_fieldLink_15 (fun _ h9 => h9) rfl dX5_branches_1 ?_
  refine lv_iconst (v := (1 : Int32)) hx hb dX5_branches_4 (by decide) ?_
  refine lv_iadd hx hb dX5_branches_5 ?_
  refine lv_iconst (v := (3 : Int32)) hx hb dX5_branches_6 (by decide) ?_
  refine lv_idiv hx hb dX5_branches_7 (by decide) ?_
  subst he
  exact g_iret hx hb hr hlocks hX hq rfl dX5_branches_8
abbrev rm_X5_kindAt : Room := { frames := 4, cells := 0, slots := 0, locals := 91 }
set_option maxHeartbeats 4000000 in
set_option maxRecDepth 100000 in
theorem k_X5_kindAt {l : Launch} {D : va_G} {E : sE} {a : Nat → Nat} {cA : Nat → ClassId} {isCharted : Int32} {isKept : Int32} {hedgesRead : Int32} {evensDone : Int32} {plen : Int32} {number : Int32} {setCount : Int32} {standing : Int32} {turn : Int32} {cuts : Int32} {ssize : Int32} {kstanding : Int32} {kturn : Int32} {kcuts : Int32} {kssize : Int32} {seed : Int32} {whiteWon : Int32} {cutsDone : Int32} {lett : Nat → Int32} {onB : Nat → Int32} {abv : Nat → Int32} {sets : Nat → Int32} {kinds : Nat → Int32} {sbranches : Nat → Int32} {sbeginners : Nat → Int32} {swon : Nat → Int32} {kkinds : Nat → Int32} {ksbranches : Nat → Int32} {ksbeginners : Nat → Int32} {kswon : Nat → Int32} {lcuts : Nat → Int32} {valu : Nat → Int32} {won : Nat → Int64} {chance : Nat → Int64} (p1 : Int32) (hlp : 0 ≤ (plen).toInt ∧ (plen).toInt ≤ 26) (hlc : ∀ k : Nat, 0 ≤ (lett k).toInt ∧ (lett k).toInt < 128) : ∀ q : Int32, q = f_X5_kindAt plen lett p1 → gMi l yX5_kindAt wsX5_kindAt rm_X5_kindAt D E (tG cA) [.ref (a 1), .int p1] (wG a cA isCharted isKept hedgesRead evensDone plen number setCount standing turn cuts ssize kstanding kturn kcuts kssize seed whiteWon cutsDone lett onB abv sets kinds sbranches sbeginners swon kkinds ksbranches ksbeginners kswon lcuts valu won chance) (wG a cA isCharted isKept hedgesRead evensDone plen number setCount standing turn cuts ssize kstanding kturn kcuts kssize seed whiteWon cutsDone lett onB abv sets kinds sbranches sbeginners swon kkinds ksbranches ksbeginners kswon lcuts valu won chance) q := by
  intro q he0
  refine gM_of (cc := cX5_kindAt) (maxL := 2) (ret := (some .int)) (Qf := gQi D (wG a cA isCharted isKept hedgesRead evensDone plen number setCount standing turn cuts ssize kstanding kturn kcuts kssize seed whiteWon cutsDone lett onB abv sets kinds sbranches sbeginners swon kkinds ksbranches ksbeginners kswon lcuts valu won chance) q) (by decide) rfl (Nat.le_of_ble_eq_true rfl) ?_
  intro p e s m args below meth c Z ls Qz hx hb hr hml hlocks hown hts hS hX hl hq
  have he := he0.trans f_X5_kindAt_s
  have hown : s.vm.findClass RX5 = some m.cls := hown
  have hl : lv_has ls 2 [(0, .ref (a 1)), (1, .int p1)] := hl
  have l_w_1 := hts (Cond.methodLink RX5 39 Lib.Math.max.name) (List.mem_of_getElem? (i := 1) rfl)
  have l_w_2 := hts (Cond.static Lib.Math.max.name) (List.mem_of_getElem? (i := 2) rfl)
  have l_w_3 := hts (Cond.initialized "java/lang/Math") (List.mem_of_getElem? (i := 3) rfl)
  have l_w_4 := hts (Cond.code Lib.Math.max.name Lib.Math.max.code 2 (some .int)) (List.mem_of_getElem? (i := 4) rfl)
  have t0 : ((0 : Int32)).toInt = 0 := rfl
  have t1 : ((1 : Int32)).toInt = 1 := rfl
  have t3 : ((3 : Int32)).toInt = 3 := rfl
  refine lv_iconst (v := (0 : Int32)) hx hb dX5_kindAt_0 (by decide) ?_
  refine va_ldcS (own := "HedgeGame$Page") (tx := "bwdit") (q := E.2.1) hx hb hown hS.2.2.2.2 dX5_kindAt_1 ?_
  refine lv_aload_n hx hb dX5_kindAt_3 rfl (lv_at hl 0 rfl) ?_
  refine lv_iconst (v := (3 : Int32)) hx hb dX5_kindAt_4 (by decide) ?_
  refine lv_iload_n hx hb dX5_kindAt_5 rfl (lv_at hl 1 rfl) ?_
  refine lv_imul hx hb dX5_kindAt_6 ?_
  obtain ⟨r_1, e7⟩ : ∃ z, z = (f_X5_at plen lett ((3 : Int32) * p1)) := ⟨_, rfl⟩
  rw [← e7] at he
  refine g_Vi (r := r_1) (As := [.int ((3 : Int32) * p1)]) (rest := [.ref E.2.1, .int (0 : Int32)]) (ci := 5) (q0 := 1) ⟨hx, hb, hml, hown, hts⟩ hS hX (k_X5_at ((3 : Int32) * p1) (by omega) (by assumption) r_1 e7) (cwV 1 hts gX5_kindAt_X5_at rfl rfl rfl (by decide +kernel) ⟨Nat.le_of_ble_eq_true rfl, Nat.le_of_ble_eq_true rfl⟩) rfl rfl rfl hl.1 rfl (Nat.le_of_ble_eq_true rfl) dX5_kindAt_7 ⟨Nat.zero_le _, Nat.zero_le _⟩ (fun H locs hX => ?_)
  obtain ⟨r_2, e10⟩ : ∃ z, z = (f_J0_indexOf_0f7a4 r_1) := ⟨_, rfl⟩
  rw [← e10] at he
  refine g_Ji (r := r_2) (As := [.int r_1]) (rest := [.int (0 : Int32)]) ⟨hx, hb, hml, hown, hts⟩ hS hX (k_J0_indexOf_0f7a4 r_1 r_2 e10) (cwV 1 hts gX5_kindAt_J0_indexOf_0f7a4 rfl rfl rfl (by decide +kernel) ⟨Nat.le_of_ble_eq_true rfl, Nat.le_of_ble_eq_true rfl⟩) rfl hl.1 rfl (Nat.le_of_ble_eq_true rfl) dX5_kindAt_10 ⟨Nat.zero_le _, Nat.zero_le _⟩ (fun H locs hX => ?_)
  refine va_mmax hx hb (hml.trans hl.1.symm) hown l_w_1 l_w_2 l_w_3 l_w_4 (Nat.le_of_ble_eq_true rfl) (Nat.le_of_ble_eq_true rfl) (Nat.zero_le _) (Nat.zero_le _) dX5_kindAt_13 ?_
  subst he
  exact g_iret hx hb hr hlocks hX hq rfl dX5_kindAt_16
abbrev rm_X5_groundAt : Room := { frames := 1, cells := 0, slots := 0, locals := 21 }
set_option maxHeartbeats 4000000 in
set_option maxRecDepth 100000 in
theorem k_X5_groundAt {l : Launch} {D : va_G} {E : sE} {a : Nat → Nat} {cA : Nat → ClassId} {isCharted : Int32} {isKept : Int32} {hedgesRead : Int32} {evensDone : Int32} {plen : Int32} {number : Int32} {setCount : Int32} {standing : Int32} {turn : Int32} {cuts : Int32} {ssize : Int32} {kstanding : Int32} {kturn : Int32} {kcuts : Int32} {kssize : Int32} {seed : Int32} {whiteWon : Int32} {cutsDone : Int32} {lett : Nat → Int32} {onB : Nat → Int32} {abv : Nat → Int32} {sets : Nat → Int32} {kinds : Nat → Int32} {sbranches : Nat → Int32} {sbeginners : Nat → Int32} {swon : Nat → Int32} {kkinds : Nat → Int32} {ksbranches : Nat → Int32} {ksbeginners : Nat → Int32} {kswon : Nat → Int32} {lcuts : Nat → Int32} {valu : Nat → Int32} {won : Nat → Int64} {chance : Nat → Int64} (p1 : Int32) (hlp : 0 ≤ (plen).toInt ∧ (plen).toInt ≤ 26) (hlc : ∀ k : Nat, 0 ≤ (lett k).toInt ∧ (lett k).toInt < 128) : ∀ q : Int32, q = f_X5_groundAt plen lett p1 → gMi l yX5_groundAt wsX5_groundAt rm_X5_groundAt D E (tG cA) [.ref (a 1), .int p1] (wG a cA isCharted isKept hedgesRead evensDone plen number setCount standing turn cuts ssize kstanding kturn kcuts kssize seed whiteWon cutsDone lett onB abv sets kinds sbranches sbeginners swon kkinds ksbranches ksbeginners kswon lcuts valu won chance) (wG a cA isCharted isKept hedgesRead evensDone plen number setCount standing turn cuts ssize kstanding kturn kcuts kssize seed whiteWon cutsDone lett onB abv sets kinds sbranches sbeginners swon kkinds ksbranches ksbeginners kswon lcuts valu won chance) q := by
  intro q he0
  refine gM_of (cc := cX5_groundAt) (maxL := 3) (ret := (some .int)) (Qf := gQi D (wG a cA isCharted isKept hedgesRead evensDone plen number setCount standing turn cuts ssize kstanding kturn kcuts kssize seed whiteWon cutsDone lett onB abv sets kinds sbranches sbeginners swon kkinds ksbranches ksbeginners kswon lcuts valu won chance) q) (by decide) rfl (Nat.le_of_ble_eq_true rfl) ?_
  intro p e s m args below meth c Z ls Qz hx hb hr hml hlocks hown hts hS hX hl hq
  have he := he0.trans f_X5_groundAt_s
  have hown : s.vm.findClass RX5 = some m.cls := hown
  have hl : lv_has ls 3 [(0, .ref (a 1)), (1, .int p1)] := hl
  have tm1 : ((-1 : Int32)).toInt = -1 := rfl
  have t0 : ((0 : Int32)).toInt = 0 := rfl
  have t1 : ((1 : Int32)).toInt = 1 := rfl
  have t3 : ((3 : Int32)).toInt = 3 := rfl
  have t48 : ((48 : Int32)).toInt = 48 := rfl
  refine lv_aload_n hx hb dX5_groundAt_0 rfl (lv_at hl 0 rfl) ?_
  refine lv_iconst (v := (3 : Int32)) hx hb dX5_groundAt_1 (by decide) ?_
  refine lv_iload_n hx hb dX5_groundAt_2 rfl (lv_at hl 1 rfl) ?_
  refine lv_imul hx hb dX5_groundAt_3 ?_
  refine lv_iconst (v := (1 : Int32)) hx hb dX5_groundAt_4 (by decide) ?_
  refine lv_iadd hx hb dX5_groundAt_5 ?_
  obtain ⟨r_1, e6⟩ : ∃ z, z = (f_X5_at plen lett (((3 : Int32) * p1) + (1 : Int32))) := ⟨_, rfl⟩
  rw [← e6] at he
  refine g_Vi (r := r_1) (As := [.int (((3 : Int32) * p1) + (1 : Int32))]) (rest := []) (ci := 5) (q0 := 1) ⟨hx, hb, hml, hown, hts⟩ hS hX (k_X5_at (((3 : Int32) * p1) + (1 : Int32)) (by omega) (by assumption) r_1 e6) (cwV 1 hts gX5_groundAt_X5_at rfl rfl rfl (by decide +kernel) ⟨Nat.le_of_ble_eq_true rfl, Nat.le_of_ble_eq_true rfl⟩) rfl rfl rfl hl.1 rfl (Nat.le_of_ble_eq_true rfl) dX5_groundAt_6 ⟨Nat.zero_le _, Nat.zero_le _⟩ (fun H locs hX => ?_)
  refine lv_istore_n (lv' := [(2, .int r_1), (0, .ref (a 1)), (1, .int p1)]) hx hb dX5_groundAt_9 rfl hl (by decide) rfl (fun ls hl => ?_)
  refine lv_iload_n hx hb dX5_groundAt_10 rfl (lv_at hl 0 rfl) ?_
  refine lv_bipush (v := (48 : Int32)) hx hb dX5_groundAt_11 (by decide) ?_
  refine lv_icmp_lt (tgt := 31) hx hb dX5_groundAt_13 (by decide) (fun c13 => ?_) (fun c13 => ?_)
  · have he := he.trans (if_pos c13)
    have d13 := i_lt c13
    refine lv_iconst (v := (-1 : Int32)) hx hb dX5_groundAt_31 (by decide) ?_
    subst he
    exact g_iret hx hb hr hlocks hX hq rfl dX5_groundAt_32
  · have he := he.trans (if_neg c13)
    have d13 := i_nlt c13
    refine lv_iload_n hx hb dX5_groundAt_16 rfl (lv_at hl 0 rfl) ?_
    refine lv_bipush (v := (48 : Int32)) hx hb dX5_groundAt_17 (by decide) ?_
    refine lv_iload_n hx hb dX5_groundAt_19 rfl (lv_at hl 2 rfl) ?_
    refine lv_iadd hx hb dX5_groundAt_20 ?_
    refine lv_icmp_ge (tgt := 31) hx hb dX5_groundAt_21 (by decide) (fun c21 => ?_) (fun c21 => ?_)
    · have he := he.trans (if_pos c21)
      have d21 := i_le c21
      refine lv_iconst (v := (-1 : Int32)) hx hb dX5_groundAt_31 (by decide) ?_
      subst he
      exact g_iret hx hb hr hlocks hX hq rfl dX5_groundAt_32
    · have he := he.trans (if_neg c21)
      have d21 := i_nle c21
      refine lv_iload_n hx hb dX5_groundAt_24 rfl (lv_at hl 0 rfl) ?_
      refine lv_bipush (v := (48 : Int32)) hx hb dX5_groundAt_25 (by decide) ?_
      refine lv_isub hx hb dX5_groundAt_27 ?_
      refine lv_goto (tgt := 32) hx hb dX5_groundAt_28 (by decide) ?_
      subst he
      exact g_iret hx hb hr hlocks hX hq rfl dX5_groundAt_32
abbrev rm_X8_withAllOn : Room := { frames := 0, cells := 0, slots := 0, locals := 0 }
set_option maxHeartbeats 4000000 in
set_option maxRecDepth 100000 in
theorem k_X8_withAllOn {l : Launch} {D : va_G} {E : sE} {a : Nat → Nat} {cA : Nat → ClassId} {isCharted : Int32} {isKept : Int32} {hedgesRead : Int32} {evensDone : Int32} {plen : Int32} {number : Int32} {setCount : Int32} {standing : Int32} {turn : Int32} {cuts : Int32} {ssize : Int32} {kstanding : Int32} {kturn : Int32} {kcuts : Int32} {kssize : Int32} {seed : Int32} {whiteWon : Int32} {cutsDone : Int32} {lett : Nat → Int32} {onB : Nat → Int32} {abv : Nat → Int32} {sets : Nat → Int32} {kinds : Nat → Int32} {sbranches : Nat → Int32} {sbeginners : Nat → Int32} {swon : Nat → Int32} {kkinds : Nat → Int32} {ksbranches : Nat → Int32} {ksbeginners : Nat → Int32} {kswon : Nat → Int32} {lcuts : Nat → Int32} {valu : Nat → Int32} {won : Nat → Int64} {chance : Nat → Int64} (p1 : Int32) (hbx : 0 ≤ (p1).toInt ∧ (p1).toInt < 8) : ∀ q : Int32, q = f_X8_withAllOn abv p1 → gMi l yX8_withAllOn wsX8_withAllOn rm_X8_withAllOn D E (tG cA) [.ref (a 3), .int p1] (wG a cA isCharted isKept hedgesRead evensDone plen number setCount standing turn cuts ssize kstanding kturn kcuts kssize seed whiteWon cutsDone lett onB abv sets kinds sbranches sbeginners swon kkinds ksbranches ksbeginners kswon lcuts valu won chance) (wG a cA isCharted isKept hedgesRead evensDone plen number setCount standing turn cuts ssize kstanding kturn kcuts kssize seed whiteWon cutsDone lett onB abv sets kinds sbranches sbeginners swon kkinds ksbranches ksbeginners kswon lcuts valu won chance) q := by
  intro q he0
  refine gM_of (cc := cX8_withAllOn) (maxL := 2) (ret := (some .int)) (Qf := gQi D (wG a cA isCharted isKept hedgesRead evensDone plen number setCount standing turn cuts ssize kstanding kturn kcuts kssize seed whiteWon cutsDone lett onB abv sets kinds sbranches sbeginners swon kkinds ksbranches ksbeginners kswon lcuts valu won chance) q) (by decide) rfl (Nat.le_of_ble_eq_true rfl) ?_
  intro p e s m args below meth c Z ls Qz hx hb hr hml hlocks hown hts hS hX hl hq
  have he := he0.trans f_X8_withAllOn_s
  have hown : s.vm.findClass RX8 = some m.cls := hown
  have hl : lv_has ls 2 [(0, .ref (a 3)), (1, .int p1)] := hl
  have hi_X8 : ∀ w ∈ u_ws RX8 TX8 5, w ∈ wsX8_withAllOn := fun _ h => List.mem_cons_of_mem _ (List.mem_append_right _ h)
  have l_fieldLink_19 := hts (Cond.fieldLink RX8 19 "HedgeGame$Shape" "above" "[I") (List.mem_of_getElem? (i := 1) rfl)
  have t0 : ((0 : Int32)).toInt = 0 := rfl
  have t1 : ((1 : Int32)).toInt = 1 := rfl
  refine lv_aload_n hx hb dX8_withAllOn_0 rfl (lv_at hl 0 rfl) ?_
  refine va_get (D := D) (ci := 8) (v := .ref (a 5)) (C := RX8) (T := TX8) (N := 5) hx hb hts hi_X8 hown hS.1 hX.1 3 rfl rfl 2 (by decide) l_fieldLink_19 (fun _ h9 => h9) rfl dX8_withAllOn_1 ?_
  refine lv_iload_n hx hb dX8_withAllOn_4 rfl (lv_at hl 1 rfl) ?_
  refine va_iald hx hb hS.1 hX.1 5 2 rfl rfl (vp_in_iff.mpr (by omega)) dX8_withAllOn_5 ?_
  refine lv_iconst (v := (1 : Int32)) hx hb dX8_withAllOn_6 (by decide) ?_
  refine lv_iload_n hx hb dX8_withAllOn_7 rfl (lv_at hl 1 rfl) ?_
  refine lv_ishl hx hb dX8_withAllOn_8 ?_
  refine lv_ior hx hb dX8_withAllOn_9 ?_
  subst he
  exact g_iret hx hb hr hlocks hX hq rfl dX8_withAllOn_10
abbrev rm_X8_hasFooting : Room := { frames := 0, cells := 0, slots := 0, locals := 0 }
set_option maxHeartbeats 4000000 in
set_option maxRecDepth 100000 in
theorem k_X8_hasFooting {l : Launch} {D : va_G} {E : sE} {a : Nat → Nat} {cA : Nat → ClassId} {isCharted : Int32} {isKept : Int32} {hedgesRead : Int32} {evensDone : Int32} {plen : Int32} {number : Int32} {setCount : Int32} {standing : Int32} {turn : Int32} {cuts : Int32} {ssize : Int32} {kstanding : Int32} {kturn : Int32} {kcuts : Int32} {kssize : Int32} {seed : Int32} {whiteWon : Int32} {cutsDone : Int32} {lett : Nat → Int32} {onB : Nat → Int32} {abv : Nat → Int32} {sets : Nat → Int32} {kinds : Nat → Int32} {sbranches : Nat → Int32} {sbeginners : Nat → Int32} {swon : Nat → Int32} {kkinds : Nat → Int32} {ksbranches : Nat → Int32} {ksbeginners : Nat → Int32} {kswon : Nat → Int32} {lcuts : Nat → Int32} {valu : Nat → Int32} {won : Nat → Int64} {chance : Nat → Int64} (p1 : Int32) (p2 : Int32) (hbx : 0 ≤ (p1).toInt ∧ (p1).toInt < 8) : ∀ q : Int32, q = f_X8_hasFooting onB p1 p2 → gMi l yX8_hasFooting wsX8_hasFooting rm_X8_hasFooting D E (tG cA) [.ref (a 3), .int p1, .int p2] (wG a cA isCharted isKept hedgesRead evensDone plen number setCount standing turn cuts ssize kstanding kturn kcuts kssize seed whiteWon cutsDone lett onB abv sets kinds sbranches sbeginners swon kkinds ksbranches ksbeginners kswon lcuts valu won chance) (wG a cA isCharted isKept hedgesRead evensDone plen number setCount standing turn cuts ssize kstanding kturn kcuts kssize seed whiteWon cutsDone lett onB abv sets kinds sbranches sbeginners swon kkinds ksbranches ksbeginners kswon lcuts valu won chance) q := by
  intro q he0
  refine gM_of (cc := cX8_hasFooting) (maxL := 3) (ret := (some .boolean)) (Qf := gQi D (wG a cA isCharted isKept hedgesRead evensDone plen number setCount standing turn cuts ssize kstanding kturn kcuts kssize seed whiteWon cutsDone lett onB abv sets kinds sbranches sbeginners swon kkinds ksbranches ksbeginners kswon lcuts valu won chance) q) (by decide) rfl (Nat.le_of_ble_eq_true rfl) ?_
  intro p e s m args below meth c Z ls Qz hx hb hr hml hlocks hown hts hS hX hl hq
  have he := he0.trans f_X8_hasFooting_s
  have hown : s.vm.findClass RX8 = some m.cls := hown
  have hl : lv_has ls 3 [(0, .ref (a 3)), (1, .int p1), (2, .int p2)] := hl
  have hi_X8 : ∀ w ∈ u_ws RX8 TX8 5, w ∈ wsX8_hasFooting := fun _ h => List.mem_cons_of_mem _ (List.mem_append_right _ h)
  have l_fieldLink_15 := hts (Cond.fieldLink RX8 15 "HedgeGame$Shape" "on" "[I") (List.mem_of_getElem? (i := 1) rfl)
  have tm1 : ((-1 : Int32)).toInt = -1 := rfl
  have t0 : ((0 : Int32)).toInt = 0 := rfl
  have t1 : ((1 : Int32)).toInt = 1 := rfl
  refine lv_aload_n hx hb dX8_hasFooting_0 rfl (lv_at hl 0 rfl) ?_
  refine va_get (D := D) (ci := 8) (v := .ref (a 4)) (C := RX8) (T := TX8) (N := 5) hx hb hts hi_X8 hown hS.1 hX.1 3 rfl rfl 1 (by decide) l_fieldLink_15 (fun _ h9 => h9) rfl dX8_hasFooting_1 ?_
  refine lv_iload_n hx hb dX8_hasFooting_4 rfl (lv_at hl 1 rfl) ?_
  refine va_iald hx hb hS.1 hX.1 4 1 rfl rfl (vp_in_iff.mpr (by omega)) dX8_hasFooting_5 ?_
  refine lv_iconst (v := (-1 : Int32)) hx hb dX8_hasFooting_6 (by decide) ?_
  refine lv_icmp_eq (tgt := 23) hx hb dX8_hasFooting_7 (by decide) (fun c7 => ?_) (fun c7 => ?_)
  · have he := he.trans (if_pos c7)
    have d7 := i_eq c7
    refine lv_iconst (v := (1 : Int32)) hx hb dX8_hasFooting_23 (by decide) ?_
    refine lv_goto (tgt := 28) hx hb dX8_hasFooting_24 (by decide) ?_
    subst he
    exact g_zret hx hb hr rfl hlocks hX hq rfl dX8_hasFooting_28
  · have he := he.trans (if_neg c7)
    have d7 := i_ne c7
    refine lv_iload_n hx hb dX8_hasFooting_10 rfl (lv_at hl 2 rfl) ?_
    refine lv_aload_n hx hb dX8_hasFooting_11 rfl (lv_at hl 0 rfl) ?_
    refine va_get (D := D) (ci := 8) (v := .ref (a 4)) (C := RX8) (T := TX8) (N := 5) hx hb hts hi_X8 hown hS.1 hX.1 3 rfl rfl 1 (by decide) l_fieldLink_15 (fun _ h9 => h9) rfl dX8_hasFooting_12 ?_
    refine lv_iload_n hx hb dX8_hasFooting_15 rfl (lv_at hl 1 rfl) ?_
    refine va_iald hx hb hS.1 hX.1 4 1 rfl rfl (vp_in_iff.mpr (by omega)) dX8_hasFooting_16 ?_
    refine lv_ishr hx hb dX8_hasFooting_17 ?_
    refine lv_iconst (v := (1 : Int32)) hx hb dX8_hasFooting_18 (by decide) ?_
    refine lv_iand hx hb dX8_hasFooting_19 ?_
    refine lv_if_eq (tgt := 27) hx hb dX8_hasFooting_20 (by decide) (fun c20 => ?_) (fun c20 => ?_)
    · have he := he.trans (if_pos c20)
      have d20 := i_eq c20
      refine lv_iconst (v := (0 : Int32)) hx hb dX8_hasFooting_27 (by decide) ?_
      subst he
      exact g_zret hx hb hr rfl hlocks hX hq rfl dX8_hasFooting_28
    · have he := he.trans (if_neg c20)
      have d20 := i_ne c20
      refine lv_iconst (v := (1 : Int32)) hx hb dX8_hasFooting_23 (by decide) ?_
      refine lv_goto (tgt := 28) hx hb dX8_hasFooting_24 (by decide) ?_
      subst he
      exact g_zret hx hb hr rfl hlocks hX hq rfl dX8_hasFooting_28
abbrev rm_X8_onTheGround : Room := { frames := 0, cells := 0, slots := 0, locals := 0 }
set_option maxHeartbeats 4000000 in
set_option maxRecDepth 100000 in
theorem k_X8_onTheGround {l : Launch} {D : va_G} {E : sE} {a : Nat → Nat} {cA : Nat → ClassId} {isCharted : Int32} {isKept : Int32} {hedgesRead : Int32} {evensDone : Int32} {plen : Int32} {number : Int32} {setCount : Int32} {standing : Int32} {turn : Int32} {cuts : Int32} {ssize : Int32} {kstanding : Int32} {kturn : Int32} {kcuts : Int32} {kssize : Int32} {seed : Int32} {whiteWon : Int32} {cutsDone : Int32} {lett : Nat → Int32} {onB : Nat → Int32} {abv : Nat → Int32} {sets : Nat → Int32} {kinds : Nat → Int32} {sbranches : Nat → Int32} {sbeginners : Nat → Int32} {swon : Nat → Int32} {kkinds : Nat → Int32} {ksbranches : Nat → Int32} {ksbeginners : Nat → Int32} {kswon : Nat → Int32} {lcuts : Nat → Int32} {valu : Nat → Int32} {won : Nat → Int64} {chance : Nat → Int64}  (hnm : 0 ≤ (number).toInt ∧ (number).toInt ≤ 8) : ∀ q : Int32, q = f_X8_onTheGround number onB → gMi l yX8_onTheGround wsX8_onTheGround rm_X8_onTheGround D E (tG cA) [.ref (a 3)] (wG a cA isCharted isKept hedgesRead evensDone plen number setCount standing turn cuts ssize kstanding kturn kcuts kssize seed whiteWon cutsDone lett onB abv sets kinds sbranches sbeginners swon kkinds ksbranches ksbeginners kswon lcuts valu won chance) (wG a cA isCharted isKept hedgesRead evensDone plen number setCount standing turn cuts ssize kstanding kturn kcuts kssize seed whiteWon cutsDone lett onB abv sets kinds sbranches sbeginners swon kkinds ksbranches ksbeginners kswon lcuts valu won chance) q := by
  intro q he0
  refine gM_of (cc := cX8_onTheGround) (maxL := 3) (ret := (some .int)) (Qf := gQi D (wG a cA isCharted isKept hedgesRead evensDone plen number setCount standing turn cuts ssize kstanding kturn kcuts kssize seed whiteWon cutsDone lett onB abv sets kinds sbranches sbeginners swon kkinds ksbranches ksbeginners kswon lcuts valu won chance) q) (by decide) rfl (Nat.le_of_ble_eq_true rfl) ?_
  intro p e s m args below meth c Z ls Qz hx hb hr hml hlocks hown hts hS hX hl hq
  have he := he0.trans f_X8_onTheGround_s
  have hown : s.vm.findClass RX8 = some m.cls := hown
  have hl : lv_has ls 3 [(0, .ref (a 3))] := hl
  have hi_X8 : ∀ w ∈ u_ws RX8 TX8 5, w ∈ wsX8_onTheGround := fun _ h => List.mem_cons_of_mem _ (List.mem_append_right _ h)
  have l_fieldLink_15 := hts (Cond.fieldLink RX8 15 "HedgeGame$Shape" "on" "[I") (List.mem_of_getElem? (i := 2) rfl)
  have l_fieldLink_9 := hts (Cond.fieldLink RX8 9 "HedgeGame$Shape" "number" "I") (List.mem_of_getElem? (i := 1) rfl)
  have tm1 : ((-1 : Int32)).toInt = -1 := rfl
  have t0 : ((0 : Int32)).toInt = 0 := rfl
  have t1 : ((1 : Int32)).toInt = 1 := rfl
  refine lv_iconst (v := (0 : Int32)) hx hb dX8_onTheGround_0 (by decide) ?_
  refine lv_istore_n (lv' := [(1, .int (0 : Int32)), (0, .ref (a 3))]) hx hb dX8_onTheGround_1 rfl hl (by decide) rfl (fun ls hl => ?_)
  refine lv_iconst (v := (0 : Int32)) hx hb dX8_onTheGround_2 (by decide) ?_
  refine lv_istore_n (lv' := [(2, .int (0 : Int32)), (1, .int (0 : Int32)), (0, .ref (a 3))]) hx hb dX8_onTheGround_3 rfl hl (by decide) rfl (fun ls hl => ?_)
  have L4_1 : ∀ (n_4_1 : Nat) (x1_2 : Int32) (x2_3 : Int32), 0 ≤ (x2_3).toInt ∧ (x2_3).toInt ≤ 8 → 8 - (x2_3).toInt < (n_4_1 : Int) → q = f_X8_onTheGround_L4 n_4_1 number onB x1_2 x2_3 → ∀ (H : Heap) (locs : List Loc) (ls : Array Slot), gX D Z s (wG a cA isCharted isKept hedgesRead evensDone plen number setCount standing turn cuts ssize kstanding kturn kcuts kssize seed whiteWon cutsDone lett onB abv sets kinds sbranches sbeginners swon kkinds ksbranches ksbeginners kswon lcuts valu won chance) H locs → lv_has ls 3 [(0, .ref (a 3)), (1, .int x1_2), (2, .int x2_3)] → W p l e rm_X8_onTheGround s m args below meth c H locs 0 0 Qz (F0 m 4 ls []) := by
    intro n_4_1
    induction n_4_1 with
    | zero =>
      intro x1_2 x2_3 ia ifu _ _ _ _ _ _
      exfalso; omega
    | succ n_4_1 ih_L4_1 =>
      intro x1_2 x2_3 ia ifu he H locs ls hX hl
      have he := he.trans f_X8_onTheGround_L4_s
      refine lv_iload_n hx hb dX8_onTheGround_4 rfl (lv_at hl 2 rfl) ?_
      refine lv_aload_n hx hb dX8_onTheGround_5 rfl (lv_at hl 0 rfl) ?_
      refine va_get (D := D) (ci := 8) (v := .int number) (C := RX8) (T := TX8) (N := 5) hx hb hts hi_X8 hown hS.1 hX.1 3 rfl rfl 0 (by decide) l_fieldLink_9 (fun _ h9 => h9) rfl dX8_onTheGround_6 ?_
      refine lv_icmp_ge (tgt := 31) hx hb dX8_onTheGround_9 (by decide) (fun c9 => ?_) (fun c9 => ?_)
      · have he := he.trans (if_pos c9)
        have d9 := i_le c9
        refine lv_iload_n hx hb dX8_onTheGround_31 rfl (lv_at hl 1 rfl) ?_
        subst he
        exact g_iret hx hb hr hlocks hX hq rfl dX8_onTheGround_32
      · have he := he.trans (if_neg c9)
        have d9 := i_nle c9
        refine lv_aload_n hx hb dX8_onTheGround_12 rfl (lv_at hl 0 rfl) ?_
        refine va_get (D := D) (ci := 8) (v := .ref (a 4)) (C := RX8) (T := TX8) (N := 5) hx hb hts hi_X8 hown hS.1 hX.1 3 rfl rfl 1 (by decide) l_fieldLink_15 (fun _ h9 => h9) rfl dX8_onTheGround_13 ?_
        refine lv_iload_n hx hb dX8_onTheGround_16 rfl (lv_at hl 2 rfl) ?_
        refine va_iald hx hb hS.1 hX.1 4 1 rfl rfl (vp_in_iff.mpr (by omega)) dX8_onTheGround_17 ?_
        refine lv_iconst (v := (-1 : Int32)) hx hb dX8_onTheGround_18 (by decide) ?_
        refine lv_icmp_ne (tgt := 25) hx hb dX8_onTheGround_19 (by decide) (fun c19 => ?_) (fun c19 => ?_)
        · have he := he.trans (if_neg c19)
          have d19 := i_ne c19
          refine lv_iinc (v := (x2_3 + (1 : Int32))) (lv' := [(2, .int (x2_3 + (1 : Int32))), (0, .ref (a 3)), (1, .int x1_2)]) hx hb dX8_onTheGround_25 hl (k := 2) rfl rfl (by decide) rfl (fun ls hl => ?_)
          have s25 := i_s1 (x := x2_3) (by omega)
          refine lv_goto (tgt := 4) hx hb dX8_onTheGround_28 (by decide) ?_
          exact ih_L4_1 x1_2 (x2_3 + (1 : Int32)) (by omega) (by omega) he _ _ _ hX (lv_sub hl [1, 2, 0] rfl)
        · have he := he.trans (if_pos c19)
          have d19 := i_eq c19
          refine lv_iinc (v := (x1_2 + (1 : Int32))) (lv' := [(1, .int (x1_2 + (1 : Int32))), (0, .ref (a 3)), (2, .int x2_3)]) hx hb dX8_onTheGround_22 hl (k := 1) rfl rfl (by decide) rfl (fun ls hl => ?_)
          refine lv_iinc (v := (x2_3 + (1 : Int32))) (lv' := [(2, .int (x2_3 + (1 : Int32))), (1, .int (x1_2 + (1 : Int32))), (0, .ref (a 3))]) hx hb dX8_onTheGround_25 hl (k := 2) rfl rfl (by decide) rfl (fun ls hl => ?_)
          have s25 := i_s1 (x := x2_3) (by omega)
          refine lv_goto (tgt := 4) hx hb dX8_onTheGround_28 (by decide) ?_
          exact ih_L4_1 (x1_2 + (1 : Int32)) (x2_3 + (1 : Int32)) (by omega) (by omega) he _ _ _ hX (lv_sub hl [2, 1, 0] rfl)
  exact L4_1 9 (0 : Int32) (0 : Int32) (by omega) (by omega) he _ _ _ hX (lv_sub hl [2, 1, 0] rfl)
abbrev rm_X8_canStand : Room := { frames := 1, cells := 0, slots := 0, locals := 22 }
set_option maxHeartbeats 4000000 in
set_option maxRecDepth 100000 in
theorem k_X8_canStand {l : Launch} {D : va_G} {E : sE} {a : Nat → Nat} {cA : Nat → ClassId} {isCharted : Int32} {isKept : Int32} {hedgesRead : Int32} {evensDone : Int32} {plen : Int32} {number : Int32} {setCount : Int32} {standing : Int32} {turn : Int32} {cuts : Int32} {ssize : Int32} {kstanding : Int32} {kturn : Int32} {kcuts : Int32} {kssize : Int32} {seed : Int32} {whiteWon : Int32} {cutsDone : Int32} {lett : Nat → Int32} {onB : Nat → Int32} {abv : Nat → Int32} {sets : Nat → Int32} {kinds : Nat → Int32} {sbranches : Nat → Int32} {sbeginners : Nat → Int32} {swon : Nat → Int32} {kkinds : Nat → Int32} {ksbranches : Nat → Int32} {ksbeginners : Nat → Int32} {kswon : Nat → Int32} {lcuts : Nat → Int32} {valu : Nat → Int32} {won : Nat → Int64} {chance : Nat → Int64} (p1 : Int32) (hnm : 0 ≤ (number).toInt ∧ (number).toInt ≤ 8) : ∀ q : Int32, q = f_X8_canStand number onB p1 → gMi l yX8_canStand wsX8_canStand rm_X8_canStand D E (tG cA) [.ref (a 3), .int p1] (wG a cA isCharted isKept hedgesRead evensDone plen number setCount standing turn cuts ssize kstanding kturn kcuts kssize seed whiteWon cutsDone lett onB abv sets kinds sbranches sbeginners swon kkinds ksbranches ksbeginners kswon lcuts valu won chance) (wG a cA isCharted isKept hedgesRead evensDone plen number setCount standing turn cuts ssize kstanding kturn kcuts kssize seed whiteWon cutsDone lett onB abv sets kinds sbranches sbeginners swon kkinds ksbranches ksbeginners kswon lcuts valu won chance) q := by
  intro q he0
  refine gM_of (cc := cX8_canStand) (maxL := 3) (ret := (some .boolean)) (Qf := gQi D (wG a cA isCharted isKept hedgesRead evensDone plen number setCount standing turn cuts ssize kstanding kturn kcuts kssize seed whiteWon cutsDone lett onB abv sets kinds sbranches sbeginners swon kkinds ksbranches ksbeginners kswon lcuts valu won chance) q) (by decide) rfl (Nat.le_of_ble_eq_true rfl) ?_
  intro p e s m args below meth c Z ls Qz hx hb hr hml hlocks hown hts hS hX hl hq
  have he := he0.trans f_X8_canStand_s
  have hown : s.vm.findClass RX8 = some m.cls := hown
  have hl : lv_has ls 3 [(0, .ref (a 3)), (1, .int p1)] := hl
  have hi_X8 : ∀ w ∈ u_ws RX8 TX8 5, w ∈ wsX8_canStand := fun _ h => List.mem_cons_of_mem _ (List.mem_append_right _ h)
  have l_fieldLink_9 := hts (Cond.fieldLink RX8 9 "HedgeGame$Shape" "number" "I") (List.mem_of_getElem? (i := 1) rfl)
  have t0 : ((0 : Int32)).toInt = 0 := rfl
  have t1 : ((1 : Int32)).toInt = 1 := rfl
  refine lv_iconst (v := (0 : Int32)) hx hb dX8_canStand_0 (by decide) ?_
  refine lv_istore_n (lv' := [(2, .int (0 : Int32)), (0, .ref (a 3)), (1, .int p1)]) hx hb dX8_canStand_1 rfl hl (by decide) rfl (fun ls hl => ?_)
  have L2_1 : ∀ (n_2_1 : Nat) (x2_2 : Int32), 0 ≤ (x2_2).toInt ∧ (x2_2).toInt ≤ 8 → 8 - (x2_2).toInt < (n_2_1 : Int) → q = f_X8_canStand_L2 n_2_1 number onB p1 x2_2 → ∀ (H : Heap) (locs : List Loc) (ls : Array Slot), gX D Z s (wG a cA isCharted isKept hedgesRead evensDone plen number setCount standing turn cuts ssize kstanding kturn kcuts kssize seed whiteWon cutsDone lett onB abv sets kinds sbranches sbeginners swon kkinds ksbranches ksbeginners kswon lcuts valu won chance) H locs → lv_has ls 3 [(0, .ref (a 3)), (1, .int p1), (2, .int x2_2)] → W p l e rm_X8_canStand s m args below meth c H locs 0 0 Qz (F0 m 2 ls []) := by
    intro n_2_1
    induction n_2_1 with
    | zero =>
      intro x2_2 ia ifu _ _ _ _ _ _
      exfalso; omega
    | succ n_2_1 ih_L2_1 =>
      intro x2_2 ia ifu he H locs ls hX hl
      have he := he.trans f_X8_canStand_L2_s
      refine lv_iload_n hx hb dX8_canStand_2 rfl (lv_at hl 2 rfl) ?_
      refine lv_aload_n hx hb dX8_canStand_3 rfl (lv_at hl 0 rfl) ?_
      refine va_get (D := D) (ci := 8) (v := .int number) (C := RX8) (T := TX8) (N := 5) hx hb hts hi_X8 hown hS.1 hX.1 3 rfl rfl 0 (by decide) l_fieldLink_9 (fun _ h9 => h9) rfl dX8_canStand_4 ?_
      refine lv_icmp_ge (tgt := 35) hx hb dX8_canStand_7 (by decide) (fun c7 => ?_) (fun c7 => ?_)
      · have he := he.trans (if_pos c7)
        have d7 := i_le c7
        refine lv_iconst (v := (1 : Int32)) hx hb dX8_canStand_35 (by decide) ?_
        subst he
        exact g_zret hx hb hr rfl hlocks hX hq rfl dX8_canStand_36
      · have he := he.trans (if_neg c7)
        have d7 := i_nle c7
        refine lv_iload_n hx hb dX8_canStand_10 rfl (lv_at hl 1 rfl) ?_
        refine lv_iload_n hx hb dX8_canStand_11 rfl (lv_at hl 2 rfl) ?_
        refine lv_ishr hx hb dX8_canStand_12 ?_
        refine lv_iconst (v := (1 : Int32)) hx hb dX8_canStand_13 (by decide) ?_
        refine lv_iand hx hb dX8_canStand_14 ?_
        refine lv_if_eq (tgt := 29) hx hb dX8_canStand_15 (by decide) (fun c15 => ?_) (fun c15 => ?_)
        · have he := he.trans (if_pos c15)
          have d15 := i_eq c15
          refine lv_iinc (v := (x2_2 + (1 : Int32))) (lv' := [(2, .int (x2_2 + (1 : Int32))), (0, .ref (a 3)), (1, .int p1)]) hx hb dX8_canStand_29 hl (k := 2) rfl rfl (by decide) rfl (fun ls hl => ?_)
          have s29 := i_s1 (x := x2_2) (by omega)
          refine lv_goto (tgt := 2) hx hb dX8_canStand_32 (by decide) ?_
          exact ih_L2_1 (x2_2 + (1 : Int32)) (by omega) (by omega) he _ _ _ hX (lv_sub hl [1, 2, 0] rfl)
        · have he := he.trans (if_neg c15)
          have d15 := i_ne c15
          refine lv_aload_n hx hb dX8_canStand_18 rfl (lv_at hl 0 rfl) ?_
          refine lv_iload_n hx hb dX8_canStand_19 rfl (lv_at hl 2 rfl) ?_
          refine lv_iload_n hx hb dX8_canStand_20 rfl (lv_at hl 1 rfl) ?_
          obtain ⟨r_3, e21⟩ : ∃ z, z = (f_X8_hasFooting onB x2_2 p1) := ⟨_, rfl⟩
          rw [← e21] at he
          refine g_Vi (r := r_3) (As := [.int x2_2, .int p1]) (rest := []) (ci := 8) (q0 := 3) ⟨hx, hb, hml, hown, hts⟩ hS hX (k_X8_hasFooting x2_2 p1 (by omega) r_3 e21) (cwV 2 hts gX8_canStand_X8_hasFooting rfl rfl rfl (by decide +kernel) ⟨Nat.le_of_ble_eq_true rfl, Nat.le_of_ble_eq_true rfl⟩) rfl rfl rfl hl.1 rfl (Nat.le_of_ble_eq_true rfl) dX8_canStand_21 ⟨Nat.zero_le _, Nat.zero_le _⟩ (fun H locs hX => ?_)
          refine lv_if_ne (tgt := 29) hx hb dX8_canStand_24 (by decide) (fun c24 => ?_) (fun c24 => ?_)
          · have he := he.trans (if_neg c24)
            have d24 := i_ne c24
            refine lv_iinc (v := (x2_2 + (1 : Int32))) (lv' := [(2, .int (x2_2 + (1 : Int32))), (0, .ref (a 3)), (1, .int p1)]) hx hb dX8_canStand_29 hl (k := 2) rfl rfl (by decide) rfl (fun ls hl => ?_)
            have s29 := i_s1 (x := x2_2) (by omega)
            refine lv_goto (tgt := 2) hx hb dX8_canStand_32 (by decide) ?_
            exact ih_L2_1 (x2_2 + (1 : Int32)) (by omega) (by omega) he _ _ _ hX (lv_sub hl [1, 2, 0] rfl)
          · have he := he.trans (if_pos c24)
            have d24 := i_eq c24
            refine lv_iconst (v := (0 : Int32)) hx hb dX8_canStand_27 (by decide) ?_
            subst he
            exact g_zret hx hb hr rfl hlocks hX hq rfl dX8_canStand_28
  exact L2_1 9 (0 : Int32) (by omega) (by omega) he _ _ _ hX (lv_sub hl [1, 2, 0] rfl)
abbrev rm_X8_findSets : Room := { frames := 2, cells := 0, slots := 0, locals := 44 }
set_option maxHeartbeats 4000000 in
set_option maxRecDepth 100000 in
theorem k_X8_findSets {l : Launch} {D : va_G} {E : sE} {a : Nat → Nat} {cA : Nat → ClassId} {isCharted : Int32} {isKept : Int32} {hedgesRead : Int32} {evensDone : Int32} {plen : Int32} {number : Int32} {setCount : Int32} {standing : Int32} {turn : Int32} {cuts : Int32} {ssize : Int32} {kstanding : Int32} {kturn : Int32} {kcuts : Int32} {kssize : Int32} {seed : Int32} {whiteWon : Int32} {cutsDone : Int32} {lett : Nat → Int32} {onB : Nat → Int32} {abv : Nat → Int32} {sets : Nat → Int32} {kinds : Nat → Int32} {sbranches : Nat → Int32} {sbeginners : Nat → Int32} {swon : Nat → Int32} {kkinds : Nat → Int32} {ksbranches : Nat → Int32} {ksbeginners : Nat → Int32} {kswon : Nat → Int32} {lcuts : Nat → Int32} {valu : Nat → Int32} {won : Nat → Int64} {chance : Nat → Int64}  (hnm : 0 ≤ (number).toInt ∧ (number).toInt ≤ 8) : ∀ q : Int32 × (Nat → Int32), q = f_X8_findSets number setCount onB sets → gMv l yX8_findSets wsX8_findSets rm_X8_findSets D E (tG cA) [.ref (a 3)] (wG a cA isCharted isKept hedgesRead evensDone plen number setCount standing turn cuts ssize kstanding kturn kcuts kssize seed whiteWon cutsDone lett onB abv sets kinds sbranches sbeginners swon kkinds ksbranches ksbeginners kswon lcuts valu won chance) (wG a cA isCharted isKept hedgesRead evensDone plen number q.1 standing turn cuts ssize kstanding kturn kcuts kssize seed whiteWon cutsDone lett onB abv q.2 kinds sbranches sbeginners swon kkinds ksbranches ksbeginners kswon lcuts valu won chance) := by
  intro q he0
  refine gM_of (cc := cX8_findSets) (maxL := 2) (ret := none) (Qf := gQv D (wG a cA isCharted isKept hedgesRead evensDone plen number q.1 standing turn cuts ssize kstanding kturn kcuts kssize seed whiteWon cutsDone lett onB abv q.2 kinds sbranches sbeginners swon kkinds ksbranches ksbeginners kswon lcuts valu won chance)) (by decide) rfl (Nat.le_of_ble_eq_true rfl) ?_
  intro p e s m args below meth c Z ls Qz hx hb hr hml hlocks hown hts hS hX hl hq
  have he := he0.trans f_X8_findSets_s
  have hown : s.vm.findClass RX8 = some m.cls := hown
  have hl : lv_has ls 2 [(0, .ref (a 3))] := hl
  have hi_X8 : ∀ w ∈ u_ws RX8 TX8 5, w ∈ wsX8_findSets := fun _ h => List.mem_cons_of_mem _ (List.mem_append_right _ h)
  have l_fieldLink_22 := hts (Cond.fieldLink RX8 22 "HedgeGame$Shape" "sets" "[I") (List.mem_of_getElem? (i := 3) rfl)
  have l_fieldLink_25 := hts (Cond.fieldLink RX8 25 "HedgeGame$Shape" "setCount" "I") (List.mem_of_getElem? (i := 1) rfl)
  have l_fieldLink_9 := hts (Cond.fieldLink RX8 9 "HedgeGame$Shape" "number" "I") (List.mem_of_getElem? (i := 2) rfl)
  have t0 : ((0 : Int32)).toInt = 0 := rfl
  have t1 : ((1 : Int32)).toInt = 1 := rfl
  have g0 := i_shl8 (x := number) (by omega)
  refine lv_aload_n hx hb dX8_findSets_0 rfl (lv_at hl 0 rfl) ?_
  refine lv_iconst (v := (0 : Int32)) hx hb dX8_findSets_1 (by decide) ?_
  refine va_put (D := D) (ci := 8) (v := .int (0 : Int32)) (ty := .int) (C := RX8) (T := TX8) (N := 5) hx hb hts hi_X8 tyX8 tyX8_ok nmX8 hown hS.1 hX.1 hX.2.1 hX.2.2 3 rfl rfl 4 (by decide) l_fieldLink_25 (fun _ h9 => h9) rfl (by decide +kernel) rfl rfl (Nat.le_of_ble_eq_true rfl) dX8_findSets_2 (fun H locs hP hD hs => ?_)
  have hX : gX D Z s (wG a cA isCharted isKept hedgesRead evensDone plen number (0 : Int32) standing turn cuts ssize kstanding kturn kcuts kssize seed whiteWon cutsDone lett onB abv sets kinds sbranches sbeginners swon kkinds ksbranches ksbeginners kswon lcuts valu won chance) H locs := ⟨hP, hD, hs⟩
  refine lv_iconst (v := (0 : Int32)) hx hb dX8_findSets_5 (by decide) ?_
  refine lv_istore_n (lv' := [(1, .int (0 : Int32)), (0, .ref (a 3))]) hx hb dX8_findSets_6 rfl hl (by decide) rfl (fun ls hl => ?_)
  have L7_1 : ∀ (n_7_1 : Nat) (setCount_2 : Int32) (sets_3 : Nat → Int32) (x1_4 : Int32), 0 ≤ (x1_4).toInt ∧ (x1_4).toInt ≤ 256 → 256 - (x1_4).toInt < (n_7_1 : Int) → 0 ≤ (setCount_2).toInt ∧ (setCount_2).toInt ≤ (x1_4).toInt → q = f_X8_findSets_L7 n_7_1 number setCount_2 onB sets_3 x1_4 → ∀ (H : Heap) (locs : List Loc) (ls : Array Slot), gX D Z s (wG a cA isCharted isKept hedgesRead evensDone plen number setCount_2 standing turn cuts ssize kstanding kturn kcuts kssize seed whiteWon cutsDone lett onB abv sets_3 kinds sbranches sbeginners swon kkinds ksbranches ksbeginners kswon lcuts valu won chance) H locs → lv_has ls 2 [(0, .ref (a 3)), (1, .int x1_4)] → W p l e rm_X8_findSets s m args below meth c H locs 0 0 Qz (F0 m 7 ls []) := by
    intro n_7_1
    induction n_7_1 with
    | zero =>
      intro setCount_2 sets_3 x1_4 ia ifu ib _ _ _ _ _ _
      exfalso; omega
    | succ n_7_1 ih_L7_1 =>
      intro setCount_2 sets_3 x1_4 ia ifu ib he H locs ls hX hl
      have he := he.trans f_X8_findSets_L7_s
      refine lv_iload_n hx hb dX8_findSets_7 rfl (lv_at hl 1 rfl) ?_
      refine lv_iconst (v := (1 : Int32)) hx hb dX8_findSets_8 (by decide) ?_
      refine lv_aload_n hx hb dX8_findSets_9 rfl (lv_at hl 0 rfl) ?_
      refine va_get (D := D) (ci := 8) (v := .int number) (C := RX8) (T := TX8) (N := 5) hx hb hts hi_X8 hown hS.1 hX.1 3 rfl rfl 0 (by decide) l_fieldLink_9 (fun _ h9 => h9) rfl dX8_findSets_10 ?_
      refine lv_ishl hx hb dX8_findSets_13 ?_
      refine lv_icmp_ge (tgt := 51) hx hb dX8_findSets_14 (by decide) (fun c14 => ?_) (fun c14 => ?_)
      · have he := he.trans (if_pos c14)
        have d14 := i_le c14
        subst he
        exact g_vret hx hb hr hlocks hX hq dX8_findSets_51
      · have he := he.trans (if_neg c14)
        have d14 := i_nle c14
        refine lv_aload_n hx hb dX8_findSets_17 rfl (lv_at hl 0 rfl) ?_
        refine lv_iload_n hx hb dX8_findSets_18 rfl (lv_at hl 1 rfl) ?_
        obtain ⟨r_5, e19⟩ : ∃ z, z = (f_X8_canStand number onB x1_4) := ⟨_, rfl⟩
        rw [← e19] at he
        refine g_Vi (r := r_5) (As := [.int x1_4]) (rest := []) (ci := 8) (q0 := 3) ⟨hx, hb, hml, hown, hts⟩ hS hX (k_X8_canStand x1_4 (by omega) r_5 e19) (cwV 1 hts gX8_findSets_X8_canStand rfl rfl rfl (by decide +kernel) ⟨Nat.le_of_ble_eq_true rfl, Nat.le_of_ble_eq_true rfl⟩) rfl rfl rfl hl.1 rfl (Nat.le_of_ble_eq_true rfl) dX8_findSets_19 ⟨Nat.zero_le _, Nat.zero_le _⟩ (fun H locs hX => ?_)
        refine lv_if_eq (tgt := 45) hx hb dX8_findSets_22 (by decide) (fun c22 => ?_) (fun c22 => ?_)
        · have he := he.trans (if_pos c22)
          have d22 := i_eq c22
          refine lv_iinc (v := (x1_4 + (1 : Int32))) (lv' := [(1, .int (x1_4 + (1 : Int32))), (0, .ref (a 3))]) hx hb dX8_findSets_45 hl (k := 1) rfl rfl (by decide) rfl (fun ls hl => ?_)
          have s45 := i_s1 (x := x1_4) (by omega)
          refine lv_goto (tgt := 7) hx hb dX8_findSets_48 (by decide) ?_
          exact ih_L7_1 setCount_2 sets_3 (x1_4 + (1 : Int32)) (by omega) (by omega) (by omega) he _ _ _ hX (lv_sub hl [1, 0] rfl)
        · have he := he.trans (if_neg c22)
          have d22 := i_ne c22
          refine lv_aload_n hx hb dX8_findSets_25 rfl (lv_at hl 0 rfl) ?_
          refine va_get (D := D) (ci := 8) (v := .ref (a 6)) (C := RX8) (T := TX8) (N := 5) hx hb hts hi_X8 hown hS.1 hX.1 3 rfl rfl 3 (by decide) l_fieldLink_22 (fun _ h9 => h9) rfl dX8_findSets_26 ?_
          refine lv_aload_n hx hb dX8_findSets_29 rfl (lv_at hl 0 rfl) ?_
          refine va_get (D := D) (ci := 8) (v := .int setCount_2) (C := RX8) (T := TX8) (N := 5) hx hb hts hi_X8 hown hS.1 hX.1 3 rfl rfl 4 (by decide) l_fieldLink_25 (fun _ h9 => h9) rfl dX8_findSets_30 ?_
          refine lv_iload_n hx hb dX8_findSets_33 rfl (lv_at hl 1 rfl) ?_
          refine va_iast hx hb hS.1 hX.1 hX.2.1 hX.2.2 6 3 rfl rfl (vp_in_iff.mpr (by omega)) dX8_findSets_34 (fun H locs hP hD hs => ?_)
          have hX : gX D Z s (wG a cA isCharted isKept hedgesRead evensDone plen number setCount_2 standing turn cuts ssize kstanding kturn kcuts kssize seed whiteWon cutsDone lett onB abv (upd sets_3 (setCount_2).toNatClampNeg x1_4) kinds sbranches sbeginners swon kkinds ksbranches ksbeginners kswon lcuts valu won chance) H locs := ⟨hP, hD, hs⟩
          refine lv_aload_n hx hb dX8_findSets_35 rfl (lv_at hl 0 rfl) ?_
          refine lv_dup hx hb dX8_findSets_36 rfl ?_
          refine va_get (D := D) (ci := 8) (v := .int setCount_2) (C := RX8) (T := TX8) (N := 5) hx hb hts hi_X8 hown hS.1 hX.1 3 rfl rfl 4 (by decide) l_fieldLink_25 (fun _ h9 => h9) rfl dX8_findSets_37 ?_
          refine lv_iconst (v := (1 : Int32)) hx hb dX8_findSets_40 (by decide) ?_
          refine lv_iadd hx hb dX8_findSets_41 ?_
          have g42 := i_s1 (x := setCount_2) (by omega)
          refine va_put (D := D) (ci := 8) (v := .int (setCount_2 + (1 : Int32))) (ty := .int) (C := RX8) (T := TX8) (N := 5) hx hb hts hi_X8 tyX8 tyX8_ok nmX8 hown hS.1 hX.1 hX.2.1 hX.2.2 3 rfl rfl 4 (by decide) l_fieldLink_25 (fun _ h9 => h9) rfl (by decide +kernel) rfl rfl (Nat.le_of_ble_eq_true rfl) dX8_findSets_42 (fun H locs hP hD hs => ?_)
          have hX : gX D Z s (wG a cA isCharted isKept hedgesRead evensDone plen number (setCount_2 + (1 : Int32)) standing turn cuts ssize kstanding kturn kcuts kssize seed whiteWon cutsDone lett onB abv (upd sets_3 (setCount_2).toNatClampNeg x1_4) kinds sbranches sbeginners swon kkinds ksbranches ksbeginners kswon lcuts valu won chance) H locs := ⟨hP, hD, hs⟩
          refine lv_iinc (v := (x1_4 + (1 : Int32))) (lv' := [(1, .int (x1_4 + (1 : Int32))), (0, .ref (a 3))]) hx hb dX8_findSets_45 hl (k := 1) rfl rfl (by decide) rfl (fun ls hl => ?_)
          have s45 := i_s1 (x := x1_4) (by omega)
          refine lv_goto (tgt := 7) hx hb dX8_findSets_48 (by decide) ?_
          exact ih_L7_1 (setCount_2 + (1 : Int32)) (upd sets_3 (setCount_2).toNatClampNeg x1_4) (x1_4 + (1 : Int32)) (by omega) (by omega) (by omega) he _ _ _ hX (lv_sub hl [1, 0] rfl)
  exact L7_1 257 (0 : Int32) sets (0 : Int32) (by omega) (by omega) (by omega) he _ _ _ hX (lv_sub hl [1, 0] rfl)
