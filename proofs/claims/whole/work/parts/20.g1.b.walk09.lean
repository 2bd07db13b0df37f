abbrev rm_X10_likely : Room := { frames := 4, cells := 0, slots := 0, locals := 103 }
set_option maxHeartbeats 4000000 in
set_option maxRecDepth 100000 in
theorem k_X10_likely {l : Launch} {D : va_G} {E : sE} {a : Nat → Nat} {cA : Nat → ClassId} {isCharted : Int32} {isKept : Int32} {hedgesRead : Int32} {evensDone : Int32} {plen : Int32} {number : Int32} {setCount : Int32} {standing : Int32} {turn : Int32} {cuts : Int32} {ssize : Int32} {kstanding : Int32} {kturn : Int32} {kcuts : Int32} {kssize : Int32} {seed : Int32} {whiteWon : Int32} {cutsDone : Int32} {lett : Nat → Int32} {onB : Nat → Int32} {abv : Nat → Int32} {sets : Nat → Int32} {kinds : Nat → Int32} {sbranches : Nat → Int32} {sbeginners : Nat → Int32} {swon : Nat → Int32} {kkinds : Nat → Int32} {ksbranches : Nat → Int32} {ksbeginners : Nat → Int32} {kswon : Nat → Int32} {lcuts : Nat → Int32} {valu : Nat → Int32} {won : Nat → Int64} {chance : Nat → Int64} (p1 : Int32) (hnm : 0 ≤ (number).toInt ∧ (number).toInt ≤ 8) (hsc : 0 ≤ (setCount).toInt ∧ (setCount).toInt ≤ 256) (hss : ∀ k : Nat, 0 ≤ (sets k).toInt ∧ (sets k).toInt < 256) (hsd : 0 ≤ (standing).toInt ∧ (standing).toInt < 256) : ∀ q : Int32 × Int32 × (Nat → Int32) × (Nat → Int32) × (Nat → Int64) × (Nat → Int64), q = f_X10_likely isCharted number setCount standing abv sets kinds lcuts valu won chance p1 → gMi l yX10_likely wsX10_likely rm_X10_likely D E (tG cA) [.ref (a 0), .int p1] (wG a cA isCharted isKept hedgesRead evensDone plen number setCount standing turn cuts ssize kstanding kturn kcuts kssize seed whiteWon cutsDone lett onB abv sets kinds sbranches sbeginners swon kkinds ksbranches ksbeginners kswon lcuts valu won chance) (wG a cA q.2.1 isKept hedgesRead evensDone plen number setCount standing turn cuts ssize kstanding kturn kcuts kssize seed whiteWon cutsDone lett onB abv sets kinds sbranches sbeginners swon kkinds ksbranches ksbeginners kswon q.2.2.1 q.2.2.2.1 q.2.2.2.2.1 q.2.2.2.2.2) q.1 := by
  intro q he0
  refine gM_of (cc := cX10_likely) (maxL := 2) (ret := (some .int)) (Qf := gQi D (wG a cA q.2.1 isKept hedgesRead evensDone plen number setCount standing turn cuts ssize kstanding kturn kcuts kssize seed whiteWon cutsDone lett onB abv sets kinds sbranches sbeginners swon kkinds ksbranches ksbeginners kswon q.2.2.1 q.2.2.2.1 q.2.2.2.2.1 q.2.2.2.2.2) q.1) (by decide) rfl (Nat.le_of_ble_eq_true rfl) ?_
  intro p e s m args below meth c Z ls Qz hx hb hr hml hlocks hown hts hS hX hl hq
  have he := he0.trans f_X10_likely_s
  have hown : s.vm.findClass RX10 = some m.cls := hown
  have hl : lv_has ls 2 [(0, .ref (a 0)), (1, .int p1)] := hl
  have hi_X10 : ∀ w ∈ u_ws RX10 TX10 14, w ∈ wsX10_likely := fun _ h => List.mem_cons_of_mem _ (List.mem_append_left _ (List.mem_append_left _ (List.mem_append_left _ (List.mem_append_left _ (List.mem_append_left _ (List.mem_append_left _ (List.mem_append_left _ (List.mem_append_right _ h))))))))
  have hi_X3 : ∀ w ∈ u_ws RX3 TX3 5, w ∈ wsX10_likely := fun _ h => List.mem_cons_of_mem _ (List.mem_append_left _ (List.mem_append_left _ (List.mem_append_left _ (List.mem_append_left _ (List.mem_append_left _ (List.mem_append_left _ (List.mem_append_right _ h)))))))
  have l_fieldLink_26 := hts (Cond.fieldLink RX10 26 "HedgeGame" "now" "LHedgeGame$Moment;") (List.mem_of_getElem? (i := 2) rfl)
  have l_fieldLink_70 := hts (Cond.fieldLink RX10 70 "HedgeGame" "chances" "LHedgeGame$Chances;") (List.mem_of_getElem? (i := 1) rfl)
  have tm103 : ((-103 : Int32)).toInt = -103 := rfl
  have tm102 : ((-102 : Int32)).toInt = -102 := rfl
  have t0 : ((0 : Int32)).toInt = 0 := rfl
  have t1 : ((1 : Int32)).toInt = 1 := rfl
  refine lv_iload_n hx hb dX10_likely_0 rfl (lv_at hl 1 rfl) ?_
  obtain ⟨r_1, e1⟩ : ∃ z, z = (f_X10_isNoSide p1) := ⟨_, rfl⟩
  rw [← e1] at he
  refine g_Si (r := r_1) (As := [.int p1]) (rest := []) ⟨hx, hb, hml, hown, hts⟩ hS hX (k_X10_isNoSide p1 r_1 e1) (va_cwS 1 hts gX10_likely_X10_isNoSide rfl rfl rfl (by decide +kernel) ⟨Nat.le_of_ble_eq_true rfl, Nat.le_of_ble_eq_true rfl⟩) rfl hl.1 rfl (Nat.le_of_ble_eq_true rfl) dX10_likely_1 ⟨Nat.zero_le _, Nat.zero_le _⟩ (fun H locs hX => ?_)
  have k1_0 : (r_1).toInt = 1 ∨ ((r_1).toInt = 0 ∧ 0 ≤ (p1).toInt ∧ (p1).toInt ≤ 1) := by rw [e1]; exact r_isNoSide
  refine lv_if_eq (tgt := 10) hx hb dX10_likely_4 (by decide) (fun c4 => ?_) (fun c4 => ?_)
  · have he := he.trans (if_pos c4)
    have d4 := i_eq c4
    refine lv_aload_n hx hb dX10_likely_10 rfl (lv_at hl 0 rfl) ?_
    obtain ⟨r_2, e11⟩ : ∃ z, z = (f_X10_hasNoHedge number) := ⟨_, rfl⟩
    rw [← e11] at he
    refine g_Vi (r := r_2) (As := []) (rest := []) (ci := 10) (q0 := 0) ⟨hx, hb, hml, hown, hts⟩ hS hX (k_X10_hasNoHedge  r_2 e11) (cwV 0 hts gX10_likely_X10_hasNoHedge rfl rfl rfl (by decide +kernel) ⟨Nat.le_of_ble_eq_true rfl, Nat.le_of_ble_eq_true rfl⟩) rfl rfl rfl hl.1 rfl (Nat.le_of_ble_eq_true rfl) dX10_likely_11 ⟨Nat.zero_le _, Nat.zero_le _⟩ (fun H locs hX => ?_)
    refine lv_if_eq (tgt := 20) hx hb dX10_likely_14 (by decide) (fun c14 => ?_) (fun c14 => ?_)
    · have he := he.trans (if_pos c14)
      have d14 := i_eq c14
      refine lv_aload_n hx hb dX10_likely_20 rfl (lv_at hl 0 rfl) ?_
      obtain ⟨z_3, e21⟩ : ∃ z, z = (f_X10_chart isCharted number setCount abv sets kinds lcuts valu won chance) := ⟨_, rfl⟩
      rw [← e21] at he
      try dsimp only at he
      refine g_Vv (w2 := (wG a cA z_3.1 isKept hedgesRead evensDone plen number setCount standing turn cuts ssize kstanding kturn kcuts kssize seed whiteWon cutsDone lett onB abv sets kinds sbranches sbeginners swon kkinds ksbranches ksbeginners kswon z_3.2.1 z_3.2.2.1 z_3.2.2.2.1 z_3.2.2.2.2)) (As := []) (rest := []) (ci := 10) (q0 := 0) ⟨hx, hb, hml, hown, hts⟩ hS hX (k_X10_chart (by omega) (by omega) (by assumption) z_3 e21) (cwV 0 hts gX10_likely_X10_chart rfl rfl rfl (by decide +kernel) ⟨Nat.le_of_ble_eq_true rfl, Nat.le_of_ble_eq_true rfl⟩) rfl rfl rfl hl.1 rfl (Nat.le_of_ble_eq_true rfl) dX10_likely_21 ⟨Nat.zero_le _, Nat.zero_le _⟩ (fun H locs hX => ?_)
      refine lv_aload_n hx hb dX10_likely_24 rfl (lv_at hl 0 rfl) ?_
      refine va_get (D := D) (ci := 10) (v := .ref (a 26)) (C := RX10) (T := TX10) (N := 14) hx hb hts hi_X10 hown hS.1 hX.1 0 rfl rfl 8 (by decide) l_fieldLink_70 (fun _ h9 => h9) rfl dX10_likely_25 ?_
      refine lv_iload_n hx hb dX10_likely_28 rfl (lv_at hl 1 rfl) ?_
      refine lv_aload_n hx hb dX10_likely_29 rfl (lv_at hl 0 rfl) ?_
      refine va_get (D := D) (ci := 10) (v := .ref (a 7)) (C := RX10) (T := TX10) (N := 14) hx hb hts hi_X10 hown hS.1 hX.1 0 rfl rfl 2 (by decide) l_fieldLink_26 (fun _ h9 => h9) rfl dX10_likely_30 ?_
      refine va_getN (D := D) (ci := 3) (v := .int standing) (C := RX3) (T := TX3) (N := 5) hx hb hts hi_X3 hown hS.1 hX.1 7 rfl rfl 1 (by decide) (hS.2.1.get 19 rfl) (fun _ h9 => h9) rfl dX10_likely_33 ?_
      obtain ⟨r_4, e36⟩ : ∃ z, z = (f_X0_millionths z_3.2.2.2.2 p1 standing) := ⟨_, rfl⟩
      rw [← e36] at he
      refine g_Vi (r := r_4) (As := [.int p1, .int standing]) (rest := []) (ci := 0) (q0 := 26) ⟨hx, hb, hml, hown, hts⟩ hS hX (k_X0_millionths p1 standing (by omega) (by omega) r_4 e36) (cwV 2 hts gX10_likely_X0_millionths rfl rfl rfl (by decide +kernel) ⟨Nat.le_of_ble_eq_true rfl, Nat.le_of_ble_eq_true rfl⟩) rfl rfl rfl hl.1 rfl (Nat.le_of_ble_eq_true rfl) dX10_likely_36 ⟨Nat.zero_le _, Nat.zero_le _⟩ (fun H locs hX => ?_)
      subst he
      exact g_iret hx hb hr hlocks hX hq rfl dX10_likely_39
    · have he := he.trans (if_neg c14)
      have d14 := i_ne c14
      refine lv_bipush (v := (-103 : Int32)) hx hb dX10_likely_17 (by decide) ?_
      subst he
      exact g_iret hx hb hr hlocks hX hq rfl dX10_likely_19
  · have he := he.trans (if_neg c4)
    have d4 := i_ne c4
    refine lv_bipush (v := (-102 : Int32)) hx hb dX10_likely_7 (by decide) ?_
    subst he
    exact g_iret hx hb hr hlocks hX hq rfl dX10_likely_9
abbrev rm_X10_see : Room := { frames := 1, cells := 0, slots := 0, locals := 23 }
set_option maxHeartbeats 4000000 in
set_option maxRecDepth 100000 in
theorem k_X10_see {l : Launch} {D : va_G} {E : sE} {a : Nat → Nat} {cA : Nat → ClassId} {isCharted : Int32} {isKept : Int32} {hedgesRead : Int32} {evensDone : Int32} {plen : Int32} {number : Int32} {setCount : Int32} {standing : Int32} {turn : Int32} {cuts : Int32} {ssize : Int32} {kstanding : Int32} {kturn : Int32} {kcuts : Int32} {kssize : Int32} {seed : Int32} {whiteWon : Int32} {cutsDone : Int32} {lett : Nat → Int32} {onB : Nat → Int32} {abv : Nat → Int32} {sets : Nat → Int32} {kinds : Nat → Int32} {sbranches : Nat → Int32} {sbeginners : Nat → Int32} {swon : Nat → Int32} {kkinds : Nat → Int32} {ksbranches : Nat → Int32} {ksbeginners : Nat → Int32} {kswon : Nat → Int32} {lcuts : Nat → Int32} {valu : Nat → Int32} {won : Nat → Int64} {chance : Nat → Int64} (p1 : Int32) (p2 : Int32) (p3 : Int32) (hnm : 0 ≤ (number).toInt ∧ (number).toInt ≤ 8) (hsz : 0 ≤ (ssize).toInt ∧ (ssize).toInt ≤ 6) : ∀ q : Int32 × Int32 × (Nat → Int32) × (Nat → Int32) × (Nat → Int32), q = f_X10_see number ssize sbranches sbeginners swon p1 p2 p3 → gMi l yX10_see wsX10_see rm_X10_see D E (tG cA) [.ref (a 0), .int p1, .int p2, .int p3] (wG a cA isCharted isKept hedgesRead evensDone plen number setCount standing turn cuts ssize kstanding kturn kcuts kssize seed whiteWon cutsDone lett onB abv sets kinds sbranches sbeginners swon kkinds ksbranches ksbeginners kswon lcuts valu won chance) (wG a cA isCharted isKept hedgesRead evensDone plen number setCount standing turn cuts q.2.1 kstanding kturn kcuts kssize seed whiteWon cutsDone lett onB abv sets kinds q.2.2.1 q.2.2.2.1 q.2.2.2.2 kkinds ksbranches ksbeginners kswon lcuts valu won chance) q.1 := by
  intro q he0
  refine gM_of (cc := cX10_see) (maxL := 4) (ret := (some .int)) (Qf := gQi D (wG a cA isCharted isKept hedgesRead evensDone plen number setCount standing turn cuts q.2.1 kstanding kturn kcuts kssize seed whiteWon cutsDone lett onB abv sets kinds q.2.2.1 q.2.2.2.1 q.2.2.2.2 kkinds ksbranches ksbeginners kswon lcuts valu won chance) q.1) (by decide) rfl (Nat.le_of_ble_eq_true rfl) ?_
  intro p e s m args below meth c Z ls Qz hx hb hr hml hlocks hown hts hS hX hl hq
  have he := he0.trans f_X10_see_s
  have hown : s.vm.findClass RX10 = some m.cls := hown
  have hl : lv_has ls 4 [(0, .ref (a 0)), (1, .int p1), (2, .int p2), (3, .int p3)] := hl
  have hi_X10 : ∀ w ∈ u_ws RX10 TX10 14, w ∈ wsX10_see := fun _ h => List.mem_cons_of_mem _ (List.mem_append_left _ (List.mem_append_left _ (List.mem_append_left _ (List.mem_append_right _ h))))
  have hi_X3 : ∀ w ∈ u_ws RX3 TX3 5, w ∈ wsX10_see := fun _ h => List.mem_cons_of_mem _ (List.mem_append_left _ (List.mem_append_left _ (List.mem_append_right _ h)))
  have hi_X7 : ∀ w ∈ u_ws RX7 TX7 4, w ∈ wsX10_see := fun _ h => List.mem_cons_of_mem _ (List.mem_append_left _ (List.mem_append_right _ h))
  have l_fieldLink_26 := hts (Cond.fieldLink RX10 26 "HedgeGame" "now" "LHedgeGame$Moment;") (List.mem_of_getElem? (i := 1) rfl)
  have tm104 : ((-104 : Int32)).toInt = -104 := rfl
  have tm102 : ((-102 : Int32)).toInt = -102 := rfl
  have tm101 : ((-101 : Int32)).toInt = -101 := rfl
  have t0 : ((0 : Int32)).toInt = 0 := rfl
  have t1 : ((1 : Int32)).toInt = 1 := rfl
  have t6 : ((6 : Int32)).toInt = 6 := rfl
  refine lv_aload_n hx hb dX10_see_0 rfl (lv_at hl 0 rfl) ?_
  refine lv_iload_n hx hb dX10_see_1 rfl (lv_at hl 1 rfl) ?_
  obtain ⟨r_1, e2⟩ : ∃ z, z = (f_X10_isUnknown number p1) := ⟨_, rfl⟩
  rw [← e2] at he
  refine g_Vi (r := r_1) (As := [.int p1]) (rest := []) (ci := 10) (q0 := 0) ⟨hx, hb, hml, hown, hts⟩ hS hX (k_X10_isUnknown p1 (by omega) r_1 e2) (cwV 1 hts gX10_see_X10_isUnknown rfl rfl rfl (by decide +kernel) ⟨Nat.le_of_ble_eq_true rfl, Nat.le_of_ble_eq_true rfl⟩) rfl rfl rfl hl.1 rfl (Nat.le_of_ble_eq_true rfl) dX10_see_2 ⟨Nat.zero_le _, Nat.zero_le _⟩ (fun H locs hX => ?_)
  have k2_0 : (r_1).toInt = 1 ∨ ((r_1).toInt = 0 ∧ 0 ≤ (p1).toInt ∧ (p1).toInt < (number).toInt) := by rw [e2]; exact r_isUnknown
  refine lv_if_eq (tgt := 11) hx hb dX10_see_5 (by decide) (fun c5 => ?_) (fun c5 => ?_)
  · have he := he.trans (if_pos c5)
    have d5 := i_eq c5
    refine lv_iload_n hx hb dX10_see_11 rfl (lv_at hl 2 rfl) ?_
    obtain ⟨r_2, e12⟩ : ∃ z, z = (f_X10_isNoSide p2) := ⟨_, rfl⟩
    rw [← e12] at he
    refine g_Si (r := r_2) (As := [.int p2]) (rest := []) ⟨hx, hb, hml, hown, hts⟩ hS hX (k_X10_isNoSide p2 r_2 e12) (va_cwS 1 hts gX10_see_X10_isNoSide rfl rfl rfl (by decide +kernel) ⟨Nat.le_of_ble_eq_true rfl, Nat.le_of_ble_eq_true rfl⟩) rfl hl.1 rfl (Nat.le_of_ble_eq_true rfl) dX10_see_12 ⟨Nat.zero_le _, Nat.zero_le _⟩ (fun H locs hX => ?_)
    have k12_0 : (r_2).toInt = 1 ∨ ((r_2).toInt = 0 ∧ 0 ≤ (p2).toInt ∧ (p2).toInt ≤ 1) := by rw [e12]; exact r_isNoSide
    refine lv_if_eq (tgt := 21) hx hb dX10_see_15 (by decide) (fun c15 => ?_) (fun c15 => ?_)
    · have he := he.trans (if_pos c15)
      have d15 := i_eq c15
      refine lv_aload_n hx hb dX10_see_21 rfl (lv_at hl 0 rfl) ?_
      refine va_get (D := D) (ci := 10) (v := .ref (a 7)) (C := RX10) (T := TX10) (N := 14) hx hb hts hi_X10 hown hS.1 hX.1 0 rfl rfl 2 (by decide) l_fieldLink_26 (fun _ h9 => h9) rfl dX10_see_22 ?_
      refine va_getN (D := D) (ci := 3) (v := .ref (a 9)) (C := RX3) (T := TX3) (N := 5) hx hb hts hi_X3 hown hS.1 hX.1 7 rfl rfl 4 (by decide) (hS.2.1.get 22 rfl) (fun _ h9 => h9) rfl dX10_see_25 ?_
      refine va_getN (D := D) (ci := 7) (v := .int ssize) (C := RX7) (T := TX7) (N := 4) hx hb hts hi_X7 hown hS.1 hX.1 9 rfl rfl 0 (by decide) (hS.2.1.get 12 rfl) (fun _ h9 => h9) rfl dX10_see_28 ?_
      refine lv_bipush (v := (6 : Int32)) hx hb dX10_see_31 (by decide) ?_
      refine lv_icmp_lt (tgt := 39) hx hb dX10_see_33 (by decide) (fun c33 => ?_) (fun c33 => ?_)
      · have he := he.trans (if_pos c33)
        have d33 := i_lt c33
        refine lv_aload_n hx hb dX10_see_39 rfl (lv_at hl 0 rfl) ?_
        refine va_get (D := D) (ci := 10) (v := .ref (a 7)) (C := RX10) (T := TX10) (N := 14) hx hb hts hi_X10 hown hS.1 hX.1 0 rfl rfl 2 (by decide) l_fieldLink_26 (fun _ h9 => h9) rfl dX10_see_40 ?_
        refine va_getN (D := D) (ci := 3) (v := .ref (a 9)) (C := RX3) (T := TX3) (N := 5) hx hb hts hi_X3 hown hS.1 hX.1 7 rfl rfl 4 (by decide) (hS.2.1.get 22 rfl) (fun _ h9 => h9) rfl dX10_see_43 ?_
        refine lv_iload_n hx hb dX10_see_46 rfl (lv_at hl 1 rfl) ?_
        refine lv_iload_n hx hb dX10_see_47 rfl (lv_at hl 2 rfl) ?_
        refine lv_iload_n hx hb dX10_see_48 rfl (lv_at hl 3 rfl) ?_
        obtain ⟨z_3, e49⟩ : ∃ z, z = (f_X7_add_now ssize sbranches sbeginners swon p1 p2 p3) := ⟨_, rfl⟩
        rw [← e49] at he
        try dsimp only at he
        refine g_Vv (w2 := (wG a cA isCharted isKept hedgesRead evensDone plen number setCount standing turn cuts z_3.1 kstanding kturn kcuts kssize seed whiteWon cutsDone lett onB abv sets kinds z_3.2.1 z_3.2.2.1 z_3.2.2.2 kkinds ksbranches ksbeginners kswon lcuts valu won chance)) (As := [.int p1, .int p2, .int p3]) (rest := []) (ci := 7) (q0 := 9) ⟨hx, hb, hml, hown, hts⟩ hS hX (k_X7_add_now p1 p2 p3 (by omega) z_3 e49) (cwV 3 hts gX10_see_X7_add rfl rfl rfl (by decide +kernel) ⟨Nat.le_of_ble_eq_true rfl, Nat.le_of_ble_eq_true rfl⟩) rfl rfl rfl hl.1 rfl (Nat.le_of_ble_eq_true rfl) dX10_see_49 ⟨Nat.zero_le _, Nat.zero_le _⟩ (fun H locs hX => ?_)
        refine lv_aload_n hx hb dX10_see_52 rfl (lv_at hl 0 rfl) ?_
        refine va_get (D := D) (ci := 10) (v := .ref (a 7)) (C := RX10) (T := TX10) (N := 14) hx hb hts hi_X10 hown hS.1 hX.1 0 rfl rfl 2 (by decide) l_fieldLink_26 (fun _ h9 => h9) rfl dX10_see_53 ?_
        refine va_getN (D := D) (ci := 3) (v := .ref (a 9)) (C := RX3) (T := TX3) (N := 5) hx hb hts hi_X3 hown hS.1 hX.1 7 rfl rfl 4 (by decide) (hS.2.1.get 22 rfl) (fun _ h9 => h9) rfl dX10_see_56 ?_
        refine va_getN (D := D) (ci := 7) (v := .int z_3.1) (C := RX7) (T := TX7) (N := 4) hx hb hts hi_X7 hown hS.1 hX.1 9 rfl rfl 0 (by decide) (hS.2.1.get 12 rfl) (fun _ h9 => h9) rfl dX10_see_59 ?_
        subst he
        exact g_iret hx hb hr hlocks hX hq rfl dX10_see_62
      · have he := he.trans (if_neg c33)
        have d33 := i_nlt c33
        refine lv_bipush (v := (-104 : Int32)) hx hb dX10_see_36 (by decide) ?_
        subst he
        exact g_iret hx hb hr hlocks hX hq rfl dX10_see_38
    · have he := he.trans (if_neg c15)
      have d15 := i_ne c15
      refine lv_bipush (v := (-102 : Int32)) hx hb dX10_see_18 (by decide) ?_
      subst he
      exact g_iret hx hb hr hlocks hX hq rfl dX10_see_20
  · have he := he.trans (if_neg c5)
    have d5 := i_ne c5
    refine lv_bipush (v := (-101 : Int32)) hx hb dX10_see_8 (by decide) ?_
    subst he
    exact g_iret hx hb hr hlocks hX hq rfl dX10_see_10
abbrev rm_X10_forget : Room := { frames := 0, cells := 0, slots := 0, locals := 0 }
set_option maxHeartbeats 4000000 in
set_option maxRecDepth 100000 in
theorem k_X10_forget {l : Launch} {D : va_G} {E : sE} {a : Nat → Nat} {cA : Nat → ClassId} {isCharted : Int32} {isKept : Int32} {hedgesRead : Int32} {evensDone : Int32} {plen : Int32} {number : Int32} {setCount : Int32} {standing : Int32} {turn : Int32} {cuts : Int32} {ssize : Int32} {kstanding : Int32} {kturn : Int32} {kcuts : Int32} {kssize : Int32} {seed : Int32} {whiteWon : Int32} {cutsDone : Int32} {lett : Nat → Int32} {onB : Nat → Int32} {abv : Nat → Int32} {sets : Nat → Int32} {kinds : Nat → Int32} {sbranches : Nat → Int32} {sbeginners : Nat → Int32} {swon : Nat → Int32} {kkinds : Nat → Int32} {ksbranches : Nat → Int32} {ksbeginners : Nat → Int32} {kswon : Nat → Int32} {lcuts : Nat → Int32} {valu : Nat → Int32} {won : Nat → Int64} {chance : Nat → Int64}   : ∀ q : Int32 × Int32, q = f_X10_forget ssize → gMi l yX10_forget wsX10_forget rm_X10_forget D E (tG cA) [.ref (a 0)] (wG a cA isCharted isKept hedgesRead evensDone plen number setCount standing turn cuts ssize kstanding kturn kcuts kssize seed whiteWon cutsDone lett onB abv sets kinds sbranches sbeginners swon kkinds ksbranches ksbeginners kswon lcuts valu won chance) (wG a cA isCharted isKept hedgesRead evensDone plen number setCount standing turn cuts q.2 kstanding kturn kcuts kssize seed whiteWon cutsDone lett onB abv sets kinds sbranches sbeginners swon kkinds ksbranches ksbeginners kswon lcuts valu won chance) q.1 := by
  intro q he0
  refine gM_of (cc := cX10_forget) (maxL := 2) (ret := (some .int)) (Qf := gQi D (wG a cA isCharted isKept hedgesRead evensDone plen number setCount standing turn cuts q.2 kstanding kturn kcuts kssize seed whiteWon cutsDone lett onB abv sets kinds sbranches sbeginners swon kkinds ksbranches ksbeginners kswon lcuts valu won chance) q.1) (by decide) rfl (Nat.le_of_ble_eq_true rfl) ?_
  intro p e s m args below meth c Z ls Qz hx hb hr hml hlocks hown hts hS hX hl hq
  have he := he0.trans f_X10_forget_s
  have hown : s.vm.findClass RX10 = some m.cls := hown
  have hl : lv_has ls 2 [(0, .ref (a 0))] := hl
  have hi_X10 : ∀ w ∈ u_ws RX10 TX10 14, w ∈ wsX10_forget := fun _ h => List.mem_cons_of_mem _ (List.mem_append_left _ (List.mem_append_left _ (List.mem_append_right _ h)))
  have hi_X3 : ∀ w ∈ u_ws RX3 TX3 5, w ∈ wsX10_forget := fun _ h => List.mem_cons_of_mem _ (List.mem_append_left _ (List.mem_append_right _ h))
  have hi_X7 : ∀ w ∈ u_ws RX7 TX7 4, w ∈ wsX10_forget := fun _ h => List.mem_cons_of_mem _ (List.mem_append_right _ h)
  have l_fieldLink_26 := hts (Cond.fieldLink RX10 26 "HedgeGame" "now" "LHedgeGame$Moment;") (List.mem_of_getElem? (i := 1) rfl)
  have t0 : ((0 : Int32)).toInt = 0 := rfl
  have t1 : ((1 : Int32)).toInt = 1 := rfl
  refine lv_aload_n hx hb dX10_forget_0 rfl (lv_at hl 0 rfl) ?_
  refine va_get (D := D) (ci := 10) (v := .ref (a 7)) (C := RX10) (T := TX10) (N := 14) hx hb hts hi_X10 hown hS.1 hX.1 0 rfl rfl 2 (by decide) l_fieldLink_26 (fun _ h9 => h9) rfl dX10_forget_1 ?_
  refine va_getN (D := D) (ci := 3) (v := .ref (a 9)) (C := RX3) (T := TX3) (N := 5) hx hb hts hi_X3 hown hS.1 hX.1 7 rfl rfl 4 (by decide) (hS.2.1.get 22 rfl) (fun _ h9 => h9) rfl dX10_forget_4 ?_
  refine va_getN (D := D) (ci := 7) (v := .int ssize) (C := RX7) (T := TX7) (N := 4) hx hb hts hi_X7 hown hS.1 hX.1 9 rfl rfl 0 (by decide) (hS.2.1.get 12 rfl) (fun _ h9 => h9) rfl dX10_forget_7 ?_
  refine lv_istore_n (lv' := [(1, .int ssize), (0, .ref (a 0))]) hx hb dX10_forget_10 rfl hl (by decide) rfl (fun ls hl => ?_)
  refine lv_aload_n hx hb dX10_forget_11 rfl (lv_at hl 1 rfl) ?_
  refine va_get (D := D) (ci := 10) (v := .ref (a 7)) (C := RX10) (T := TX10) (N := 14) hx hb hts hi_X10 hown hS.1 hX.1 0 rfl rfl 2 (by decide) l_fieldLink_26 (fun _ h9 => h9) rfl dX10_forget_12 ?_
  refine va_getN (D := D) (ci := 3) (v := .ref (a 9)) (C := RX3) (T := TX3) (N := 5) hx hb hts hi_X3 hown hS.1 hX.1 7 rfl rfl 4 (by decide) (hS.2.1.get 22 rfl) (fun _ h9 => h9) rfl dX10_forget_15 ?_
  refine lv_iconst (v := (0 : Int32)) hx hb dX10_forget_18 (by decide) ?_
  refine va_putN (D := D) (ci := 7) (v := .int (0 : Int32)) (ty := .int) (C := RX7) (T := TX7) (N := 4) hx hb hts hi_X7 tyX7 tyX7_ok nmX7 hown hS.1 hX.1 hX.2.1 hX.2.2 9 rfl rfl 0 (by decide) (hS.2.1.get 12 rfl) (fun _ h9 => h9) rfl (by decide +kernel) rfl rfl (Nat.le_of_ble_eq_true rfl) dX10_forget_19 (fun H locs hP hD hs => ?_)
  have hX : gX D Z s (wG a cA isCharted isKept hedgesRead evensDone plen number setCount standing turn cuts (0 : Int32) kstanding kturn kcuts kssize seed whiteWon cutsDone lett onB abv sets kinds sbranches sbeginners swon kkinds ksbranches ksbeginners kswon lcuts valu won chance) H locs := ⟨hP, hD, hs⟩
  refine lv_iload_n hx hb dX10_forget_22 rfl (lv_at hl 0 rfl) ?_
  subst he
  exact g_iret hx hb hr hlocks hX hq rfl dX10_forget_23
abbrev rm_X10_games : Room := { frames := 4, cells := 0, slots := 0, locals := 98 }
set_option maxHeartbeats 4000000 in
set_option maxRecDepth 100000 in
theorem k_X10_games {l : Launch} {D : va_G} {E : sE} {a : Nat → Nat} {cA : Nat → ClassId} {isCharted : Int32} {isKept : Int32} {hedgesRead : Int32} {evensDone : Int32} {plen : Int32} {number : Int32} {setCount : Int32} {standing : Int32} {turn : Int32} {cuts : Int32} {ssize : Int32} {kstanding : Int32} {kturn : Int32} {kcuts : Int32} {kssize : Int32} {seed : Int32} {whiteWon : Int32} {cutsDone : Int32} {lett : Nat → Int32} {onB : Nat → Int32} {abv : Nat → Int32} {sets : Nat → Int32} {kinds : Nat → Int32} {sbranches : Nat → Int32} {sbeginners : Nat → Int32} {swon : Nat → Int32} {kkinds : Nat → Int32} {ksbranches : Nat → Int32} {ksbeginners : Nat → Int32} {kswon : Nat → Int32} {lcuts : Nat → Int32} {valu : Nat → Int32} {won : Nat → Int64} {chance : Nat → Int64} (p1 : Int32) (p2 : Int32) (p3 : Int32) (hnm : 0 ≤ (number).toInt ∧ (number).toInt ≤ 8) : ∀ q : Int32 × Int32 × Int32 × Int32, q = f_X10_games number standing seed whiteWon cutsDone abv kinds p1 p2 p3 → gMi l yX10_games wsX10_games rm_X10_games D E (tG cA) [.ref (a 0), .int p1, .int p2, .int p3] (wG a cA isCharted isKept hedgesRead evensDone plen number setCount standing turn cuts ssize kstanding kturn kcuts kssize seed whiteWon cutsDone lett onB abv sets kinds sbranches sbeginners swon kkinds ksbranches ksbeginners kswon lcuts valu won chance) (wG a cA isCharted isKept hedgesRead evensDone plen number setCount standing turn cuts ssize kstanding kturn kcuts kssize q.2.1 q.2.2.1 q.2.2.2 lett onB abv sets kinds sbranches sbeginners swon kkinds ksbranches ksbeginners kswon lcuts valu won chance) q.1 := by
  intro q he0
  refine gM_of (cc := cX10_games) (maxL := 4) (ret := (some .int)) (Qf := gQi D (wG a cA isCharted isKept hedgesRead evensDone plen number setCount standing turn cuts ssize kstanding kturn kcuts kssize q.2.1 q.2.2.1 q.2.2.2 lett onB abv sets kinds sbranches sbeginners swon kkinds ksbranches ksbeginners kswon lcuts valu won chance) q.1) (by decide) rfl (Nat.le_of_ble_eq_true rfl) ?_
  intro p e s m args below meth c Z ls Qz hx hb hr hml hlocks hown hts hS hX hl hq
  have he := he0.trans f_X10_games_s
  have hown : s.vm.findClass RX10 = some m.cls := hown
  have hl : lv_has ls 4 [(0, .ref (a 0)), (1, .int p1), (2, .int p2), (3, .int p3)] := hl
  have hi_X10 : ∀ w ∈ u_ws RX10 TX10 14, w ∈ wsX10_games := fun _ h => List.mem_cons_of_mem _ (List.mem_append_left _ (List.mem_append_left _ (List.mem_append_left _ (List.mem_append_left _ (List.mem_append_right _ h)))))
  have hi_X2 : ∀ w ∈ u_ws RX2 TX2 4, w ∈ wsX10_games := fun _ h => List.mem_cons_of_mem _ (List.mem_append_left _ (List.mem_append_left _ (List.mem_append_right _ h)))
  have hi_X3 : ∀ w ∈ u_ws RX3 TX3 5, w ∈ wsX10_games := fun _ h => List.mem_cons_of_mem _ (List.mem_append_left _ (List.mem_append_left _ (List.mem_append_left _ (List.mem_append_right _ h))))
  have l_fieldLink_26 := hts (Cond.fieldLink RX10 26 "HedgeGame" "now" "LHedgeGame$Moment;") (List.mem_of_getElem? (i := 2) rfl)
  have l_fieldLink_77 := hts (Cond.fieldLink RX10 77 "HedgeGame" "lottery" "LHedgeGame$Lottery;") (List.mem_of_getElem? (i := 1) rfl)
  have tm103 : ((-103 : Int32)).toInt = -103 := rfl
  have tm102 : ((-102 : Int32)).toInt = -102 := rfl
  have t0 : ((0 : Int32)).toInt = 0 := rfl
  have t1 : ((1 : Int32)).toInt = 1 := rfl
  have t3 : ((3 : Int32)).toInt = 3 := rfl
  have t40 : ((40 : Int32)).toInt = 40 := rfl
  refine lv_iload_n hx hb dX10_games_0 rfl (lv_at hl 1 rfl) ?_
  refine lv_iconst (v := (1 : Int32)) hx hb dX10_games_1 (by decide) ?_
  refine lv_icmp_lt (tgt := 24) hx hb dX10_games_2 (by decide) (fun c2 => ?_) (fun c2 => ?_)
  · have he := he.trans (if_pos c2)
    have d2 := i_lt c2
    refine lv_bipush (v := (-102 : Int32)) hx hb dX10_games_24 (by decide) ?_
    subst he
    exact g_iret hx hb hr hlocks hX hq rfl dX10_games_26
  · have he := he.trans (if_neg c2)
    have d2 := i_nlt c2
    refine lv_iload_n hx hb dX10_games_5 rfl (lv_at hl 1 rfl) ?_
    refine lv_bipush (v := (40 : Int32)) hx hb dX10_games_6 (by decide) ?_
    refine lv_icmp_gt (tgt := 24) hx hb dX10_games_8 (by decide) (fun c8 => ?_) (fun c8 => ?_)
    · have he := he.trans (if_pos c8)
      have d8 := i_lt c8
      refine lv_bipush (v := (-102 : Int32)) hx hb dX10_games_24 (by decide) ?_
      subst he
      exact g_iret hx hb hr hlocks hX hq rfl dX10_games_26
    · have he := he.trans (if_neg c8)
      have d8 := i_nlt c8
      refine lv_iload_n hx hb dX10_games_11 rfl (lv_at hl 2 rfl) ?_
      refine lv_if_lt (tgt := 24) hx hb dX10_games_12 (by decide) (fun c12 => ?_) (fun c12 => ?_)
      · have he := he.trans (if_pos c12)
        have d12 := i_lt c12
        refine lv_bipush (v := (-102 : Int32)) hx hb dX10_games_24 (by decide) ?_
        subst he
        exact g_iret hx hb hr hlocks hX hq rfl dX10_games_26
      · have he := he.trans (if_neg c12)
        have d12 := i_nlt c12
        refine lv_iload_n hx hb dX10_games_15 rfl (lv_at hl 3 rfl) ?_
        refine lv_if_lt (tgt := 24) hx hb dX10_games_16 (by decide) (fun c16 => ?_) (fun c16 => ?_)
        · have he := he.trans (if_pos c16)
          have d16 := i_lt c16
          refine lv_bipush (v := (-102 : Int32)) hx hb dX10_games_24 (by decide) ?_
          subst he
          exact g_iret hx hb hr hlocks hX hq rfl dX10_games_26
        · have he := he.trans (if_neg c16)
          have d16 := i_nlt c16
          refine lv_iload_n hx hb dX10_games_19 rfl (lv_at hl 3 rfl) ?_
          refine lv_iconst (v := (3 : Int32)) hx hb dX10_games_20 (by decide) ?_
          refine lv_icmp_lt (tgt := 27) hx hb dX10_games_21 (by decide) (fun c21 => ?_) (fun c21 => ?_)
          · have he := he.trans (if_pos c21)
            have d21 := i_lt c21
            refine lv_aload_n hx hb dX10_games_27 rfl (lv_at hl 0 rfl) ?_
            obtain ⟨r_1, e28⟩ : ∃ z, z = (f_X10_hasNoHedge number) := ⟨_, rfl⟩
            rw [← e28] at he
            refine g_Vi (r := r_1) (As := []) (rest := []) (ci := 10) (q0 := 0) ⟨hx, hb, hml, hown, hts⟩ hS hX (k_X10_hasNoHedge  r_1 e28) (cwV 0 hts gX10_games_X10_hasNoHedge rfl rfl rfl (by decide +kernel) ⟨Nat.le_of_ble_eq_true rfl, Nat.le_of_ble_eq_true rfl⟩) rfl rfl rfl hl.1 rfl (Nat.le_of_ble_eq_true rfl) dX10_games_28 ⟨Nat.zero_le _, Nat.zero_le _⟩ (fun H locs hX => ?_)
            refine lv_if_eq (tgt := 37) hx hb dX10_games_31 (by decide) (fun c31 => ?_) (fun c31 => ?_)
            · have he := he.trans (if_pos c31)
              have d31 := i_eq c31
              refine lv_aload_n hx hb dX10_games_37 rfl (lv_at hl 0 rfl) ?_
              refine va_get (D := D) (ci := 10) (v := .ref (a 28)) (C := RX10) (T := TX10) (N := 14) hx hb hts hi_X10 hown hS.1 hX.1 0 rfl rfl 9 (by decide) l_fieldLink_77 (fun _ h9 => h9) rfl dX10_games_38 ?_
              refine lv_iload_n hx hb dX10_games_41 rfl (lv_at hl 1 rfl) ?_
              refine lv_iload_n hx hb dX10_games_42 rfl (lv_at hl 2 rfl) ?_
              refine lv_aload_n hx hb dX10_games_43 rfl (lv_at hl 0 rfl) ?_
              refine va_get (D := D) (ci := 10) (v := .ref (a 7)) (C := RX10) (T := TX10) (N := 14) hx hb hts hi_X10 hown hS.1 hX.1 0 rfl rfl 2 (by decide) l_fieldLink_26 (fun _ h9 => h9) rfl dX10_games_44 ?_
              refine va_getN (D := D) (ci := 3) (v := .int standing) (C := RX3) (T := TX3) (N := 5) hx hb hts hi_X3 hown hS.1 hX.1 7 rfl rfl 1 (by decide) (hS.2.1.get 19 rfl) (fun _ h9 => h9) rfl dX10_games_47 ?_
              obtain ⟨z_2, e50⟩ : ∃ z, z = (f_X2_playAll number seed whiteWon cutsDone abv kinds p1 p2 standing) := ⟨_, rfl⟩
              rw [← e50] at he
              try dsimp only at he
              refine g_Vv (w2 := (wG a cA isCharted isKept hedgesRead evensDone plen number setCount standing turn cuts ssize kstanding kturn kcuts kssize z_2.1 z_2.2.1 z_2.2.2 lett onB abv sets kinds sbranches sbeginners swon kkinds ksbranches ksbeginners kswon lcuts valu won chance)) (As := [.int p1, .int p2, .int standing]) (rest := []) (ci := 2) (q0 := 28) ⟨hx, hb, hml, hown, hts⟩ hS hX (k_X2_playAll p1 p2 standing (by omega) (by omega) z_2 e50) (cwV 3 hts gX10_games_X2_playAll rfl rfl rfl (by decide +kernel) ⟨Nat.le_of_ble_eq_true rfl, Nat.le_of_ble_eq_true rfl⟩) rfl rfl rfl hl.1 rfl (Nat.le_of_ble_eq_true rfl) dX10_games_50 ⟨Nat.zero_le _, Nat.zero_le _⟩ (fun H locs hX => ?_)
              refine lv_iload_n hx hb dX10_games_53 rfl (lv_at hl 3 rfl) ?_
              by_cases q54_0 : p3 = (0 : Int32)
              · have he := he.trans (if_pos q54_0)
                refine lv_lookup (tgt := 80) (off := 26) hx hb dX10_games_54 (by decide) (by rw [q54_0]; decide) (by decide) ?_
                refine lv_aload_n hx hb dX10_games_80 rfl (lv_at hl 0 rfl) ?_
                refine va_get (D := D) (ci := 10) (v := .ref (a 28)) (C := RX10) (T := TX10) (N := 14) hx hb hts hi_X10 hown hS.1 hX.1 0 rfl rfl 9 (by decide) l_fieldLink_77 (fun _ h9 => h9) rfl dX10_games_81 ?_
                refine va_getN (D := D) (ci := 2) (v := .int z_2.2.1) (C := RX2) (T := TX2) (N := 4) hx hb hts hi_X2 hown hS.1 hX.1 28 rfl rfl 2 (by decide) (hS.2.1.get 29 rfl) (fun _ h9 => h9) rfl dX10_games_84 ?_
                subst he
                exact g_iret hx hb hr hlocks hX hq rfl dX10_games_87
              · have he := he.trans (if_neg q54_0)
                by_cases q54_1 : p3 = (1 : Int32)
                · have he := he.trans (if_pos q54_1)
                  refine lv_lookup (tgt := 88) (off := 34) hx hb dX10_games_54 (by decide) (by rw [q54_1]; decide) (by decide) ?_
                  refine lv_aload_n hx hb dX10_games_88 rfl (lv_at hl 0 rfl) ?_
                  refine va_get (D := D) (ci := 10) (v := .ref (a 28)) (C := RX10) (T := TX10) (N := 14) hx hb hts hi_X10 hown hS.1 hX.1 0 rfl rfl 9 (by decide) l_fieldLink_77 (fun _ h9 => h9) rfl dX10_games_89 ?_
                  refine va_getN (D := D) (ci := 2) (v := .int z_2.2.2) (C := RX2) (T := TX2) (N := 4) hx hb hts hi_X2 hown hS.1 hX.1 28 rfl rfl 3 (by decide) (hS.2.1.get 30 rfl) (fun _ h9 => h9) rfl dX10_games_92 ?_
                  subst he
                  exact g_iret hx hb hr hlocks hX hq rfl dX10_games_95
                · have he := he.trans (if_neg q54_1)
                  refine lv_lookup (tgt := 96) (off := 42) hx hb dX10_games_54 (by decide) ((lv_osw q54_0 rfl).trans ((lv_osw q54_1 rfl).trans rfl)) (by decide) ?_
                  refine lv_aload_n hx hb dX10_games_96 rfl (lv_at hl 0 rfl) ?_
                  refine va_get (D := D) (ci := 10) (v := .ref (a 28)) (C := RX10) (T := TX10) (N := 14) hx hb hts hi_X10 hown hS.1 hX.1 0 rfl rfl 9 (by decide) l_fieldLink_77 (fun _ h9 => h9) rfl dX10_games_97 ?_
                  refine va_getN (D := D) (ci := 2) (v := .int z_2.1) (C := RX2) (T := TX2) (N := 4) hx hb hts hi_X2 hown hS.1 hX.1 28 rfl rfl 1 (by decide) (hS.2.1.get 28 rfl) (fun _ h9 => h9) rfl dX10_games_100 ?_
                  subst he
                  exact g_iret hx hb hr hlocks hX hq rfl dX10_games_103
            · have he := he.trans (if_neg c31)
              have d31 := i_ne c31
              refine lv_bipush (v := (-103 : Int32)) hx hb dX10_games_34 (by decide) ?_
              subst he
              exact g_iret hx hb hr hlocks hX hq rfl dX10_games_36
          · have he := he.trans (if_neg c21)
            have d21 := i_nlt c21
            refine lv_bipush (v := (-102 : Int32)) hx hb dX10_games_24 (by decide) ?_
            subst he
            exact g_iret hx hb hr hlocks hX hq rfl dX10_games_26
abbrev rm_X10_image : Room := { frames := 2, cells := 0, slots := 0, locals := 69 }
set_option maxHeartbeats 4000000 in
set_option maxRecDepth 100000 in
theorem k_X10_image {l : Launch} {D : va_G} {E : sE} {a : Nat → Nat} {cA : Nat → ClassId} {isCharted : Int32} {isKept : Int32} {hedgesRead : Int32} {evensDone : Int32} {plen : Int32} {number : Int32} {setCount : Int32} {standing : Int32} {turn : Int32} {cuts : Int32} {ssize : Int32} {kstanding : Int32} {kturn : Int32} {kcuts : Int32} {kssize : Int32} {seed : Int32} {whiteWon : Int32} {cutsDone : Int32} {lett : Nat → Int32} {onB : Nat → Int32} {abv : Nat → Int32} {sets : Nat → Int32} {kinds : Nat → Int32} {sbranches : Nat → Int32} {sbeginners : Nat → Int32} {swon : Nat → Int32} {kkinds : Nat → Int32} {ksbranches : Nat → Int32} {ksbeginners : Nat → Int32} {kswon : Nat → Int32} {lcuts : Nat → Int32} {valu : Nat → Int32} {won : Nat → Int64} {chance : Nat → Int64}   : ∀ q : Int32 × Int32 × Int32 × Int32 × Int32 × Int32 × (Nat → Int32) × (Nat → Int32) × (Nat → Int32) × (Nat → Int32), q = f_X10_image isKept number standing turn cuts ssize kstanding kturn kcuts kssize kinds sbranches sbeginners swon kkinds ksbranches ksbeginners kswon → gMi l yX10_image wsX10_image rm_X10_image D E (tG cA) [.ref (a 0)] (wG a cA isCharted isKept hedgesRead evensDone plen number setCount standing turn cuts ssize kstanding kturn kcuts kssize seed whiteWon cutsDone lett onB abv sets kinds sbranches sbeginners swon kkinds ksbranches ksbeginners kswon lcuts valu won chance) (wG a cA isCharted q.2.1 hedgesRead evensDone plen number setCount standing turn cuts ssize q.2.2.1 q.2.2.2.1 q.2.2.2.2.1 q.2.2.2.2.2.1 seed whiteWon cutsDone lett onB abv sets kinds sbranches sbeginners swon q.2.2.2.2.2.2.1 q.2.2.2.2.2.2.2.1 q.2.2.2.2.2.2.2.2.1 q.2.2.2.2.2.2.2.2.2 lcuts valu won chance) q.1 := by
  intro q he0
  refine gM_of (cc := cX10_image) (maxL := 1) (ret := (some .int)) (Qf := gQi D (wG a cA isCharted q.2.1 hedgesRead evensDone plen number setCount standing turn cuts ssize q.2.2.1 q.2.2.2.1 q.2.2.2.2.1 q.2.2.2.2.2.1 seed whiteWon cutsDone lett onB abv sets kinds sbranches sbeginners swon q.2.2.2.2.2.2.1 q.2.2.2.2.2.2.2.1 q.2.2.2.2.2.2.2.2.1 q.2.2.2.2.2.2.2.2.2 lcuts valu won chance) q.1) (by decide) rfl (Nat.le_of_ble_eq_true rfl) ?_
  intro p e s m args below meth c Z ls Qz hx hb hr hml hlocks hown hts hS hX hl hq
  have he := he0.trans f_X10_image_s
  have hown : s.vm.findClass RX10 = some m.cls := hown
  have hl : lv_has ls 1 [(0, .ref (a 0))] := hl
  have hi_X10 : ∀ w ∈ u_ws RX10 TX10 14, w ∈ wsX10_image := fun _ h => List.mem_cons_of_mem _ (List.mem_append_left _ (List.mem_append_left _ (List.mem_append_left _ (List.mem_append_right _ h))))
  have hi_X3 : ∀ w ∈ u_ws RX3 TX3 5, w ∈ wsX10_image := fun _ h => List.mem_cons_of_mem _ (List.mem_append_left _ (List.mem_append_left _ (List.mem_append_right _ h)))
  have l_fieldLink_26 := hts (Cond.fieldLink RX10 26 "HedgeGame" "now" "LHedgeGame$Moment;") (List.mem_of_getElem? (i := 2) rfl)
  have l_fieldLink_30 := hts (Cond.fieldLink RX10 30 "HedgeGame" "kept" "LHedgeGame$Moment;") (List.mem_of_getElem? (i := 1) rfl)
  have l_fieldLink_85 := hts (Cond.fieldLink RX10 85 "HedgeGame" "isKept" "Z") (List.mem_of_getElem? (i := 3) rfl)
  have tm103 : ((-103 : Int32)).toInt = -103 := rfl
  have t0 : ((0 : Int32)).toInt = 0 := rfl
  have t1 : ((1 : Int32)).toInt = 1 := rfl
  refine lv_aload_n hx hb dX10_image_0 rfl (lv_at hl 0 rfl) ?_
  obtain ⟨r_1, e1⟩ : ∃ z, z = (f_X10_hasNoHedge number) := ⟨_, rfl⟩
  rw [← e1] at he
  refine g_Vi (r := r_1) (As := []) (rest := []) (ci := 10) (q0 := 0) ⟨hx, hb, hml, hown, hts⟩ hS hX (k_X10_hasNoHedge  r_1 e1) (cwV 0 hts gX10_image_X10_hasNoHedge rfl rfl rfl (by decide +kernel) ⟨Nat.le_of_ble_eq_true rfl, Nat.le_of_ble_eq_true rfl⟩) rfl rfl rfl hl.1 rfl (Nat.le_of_ble_eq_true rfl) dX10_image_1 ⟨Nat.zero_le _, Nat.zero_le _⟩ (fun H locs hX => ?_)
  refine lv_if_eq (tgt := 10) hx hb dX10_image_4 (by decide) (fun c4 => ?_) (fun c4 => ?_)
  · have he := he.trans (if_pos c4)
    have d4 := i_eq c4
    refine lv_aload_n hx hb dX10_image_10 rfl (lv_at hl 0 rfl) ?_
    refine va_get (D := D) (ci := 10) (v := .ref (a 13)) (C := RX10) (T := TX10) (N := 14) hx hb hts hi_X10 hown hS.1 hX.1 0 rfl rfl 3 (by decide) l_fieldLink_30 (fun _ h9 => h9) rfl dX10_image_11 ?_
    refine lv_aload_n hx hb dX10_image_14 rfl (lv_at hl 0 rfl) ?_
    refine va_get (D := D) (ci := 10) (v := .ref (a 7)) (C := RX10) (T := TX10) (N := 14) hx hb hts hi_X10 hown hS.1 hX.1 0 rfl rfl 2 (by decide) l_fieldLink_26 (fun _ h9 => h9) rfl dX10_image_15 ?_
    obtain ⟨z_2, e18⟩ : ∃ z, z = (f_X3_copyFrom_kept standing turn cuts ssize kstanding kturn kcuts kssize kinds sbranches sbeginners swon kkinds ksbranches ksbeginners kswon) := ⟨_, rfl⟩
    rw [← e18] at he
    try dsimp only at he
    refine g_Vv (w2 := (wG a cA isCharted isKept hedgesRead evensDone plen number setCount standing turn cuts ssize z_2.1 z_2.2.1 z_2.2.2.1 z_2.2.2.2.1 seed whiteWon cutsDone lett onB abv sets kinds sbranches sbeginners swon z_2.2.2.2.2.1 z_2.2.2.2.2.2.1 z_2.2.2.2.2.2.2.1 z_2.2.2.2.2.2.2.2 lcuts valu won chance)) (As := [.ref (a 7)]) (rest := []) (ci := 3) (q0 := 13) ⟨hx, hb, hml, hown, hts⟩ hS hX (k_X3_copyFrom_kept  z_2 e18) (cwV 1 hts gX10_image_X3_copyFrom rfl rfl rfl (by decide +kernel) ⟨Nat.le_of_ble_eq_true rfl, Nat.le_of_ble_eq_true rfl⟩) rfl rfl rfl hl.1 rfl (Nat.le_of_ble_eq_true rfl) dX10_image_18 ⟨Nat.zero_le _, Nat.zero_le _⟩ (fun H locs hX => ?_)
    refine lv_aload_n hx hb dX10_image_21 rfl (lv_at hl 0 rfl) ?_
    refine lv_iconst (v := (1 : Int32)) hx hb dX10_image_22 (by decide) ?_
    refine va_put (D := D) (ci := 10) (v := .int (1 : Int32)) (ty := .boolean) (C := RX10) (T := TX10) (N := 14) hx hb hts hi_X10 tyX10 tyX10_ok nmX10 hown hS.1 hX.1 hX.2.1 hX.2.2 0 rfl rfl 11 (by decide) l_fieldLink_85 (fun _ h9 => h9) rfl (by decide +kernel) rfl rfl (Nat.le_of_ble_eq_true rfl) dX10_image_23 (fun H locs hP hD hs => ?_)
    have hX : gX D Z s (wG a cA isCharted (1 : Int32) hedgesRead evensDone plen number setCount standing turn cuts ssize z_2.1 z_2.2.1 z_2.2.2.1 z_2.2.2.2.1 seed whiteWon cutsDone lett onB abv sets kinds sbranches sbeginners swon z_2.2.2.2.2.1 z_2.2.2.2.2.2.1 z_2.2.2.2.2.2.2.1 z_2.2.2.2.2.2.2.2 lcuts valu won chance) H locs := ⟨hP, hD, hs⟩
    refine lv_aload_n hx hb dX10_image_26 rfl (lv_at hl 0 rfl) ?_
    refine va_get (D := D) (ci := 10) (v := .ref (a 7)) (C := RX10) (T := TX10) (N := 14) hx hb hts hi_X10 hown hS.1 hX.1 0 rfl rfl 2 (by decide) l_fieldLink_26 (fun _ h9 => h9) rfl dX10_image_27 ?_
    refine va_getN (D := D) (ci := 3) (v := .int cuts) (C := RX3) (T := TX3) (N := 5) hx hb hts hi_X3 hown hS.1 hX.1 7 rfl rfl 3 (by decide) (hS.2.1.get 21 rfl) (fun _ h9 => h9) rfl dX10_image_30 ?_
    subst he
    exact g_iret hx hb hr hlocks hX hq rfl dX10_image_33
  · have he := he.trans (if_neg c4)
    have d4 := i_ne c4
    refine lv_bipush (v := (-103 : Int32)) hx hb dX10_image_7 (by decide) ?_
    subst he
    exact g_iret hx hb hr hlocks hX hq rfl dX10_image_9
abbrev rm_X10_restore : Room := { frames := 2, cells := 0, slots := 0, locals := 69 }
set_option maxHeartbeats 4000000 in
set_option maxRecDepth 100000 in
theorem k_X10_restore {l : Launch} {D : va_G} {E : sE} {a : Nat → Nat} {cA : Nat → ClassId} {isCharted : Int32} {isKept : Int32} {hedgesRead : Int32} {evensDone : Int32} {plen : Int32} {number : Int32} {setCount : Int32} {standing : Int32} {turn : Int32} {cuts : Int32} {ssize : Int32} {kstanding : Int32} {kturn : Int32} {kcuts : Int32} {kssize : Int32} {seed : Int32} {whiteWon : Int32} {cutsDone : Int32} {lett : Nat → Int32} {onB : Nat → Int32} {abv : Nat → Int32} {sets : Nat → Int32} {kinds : Nat → Int32} {sbranches : Nat → Int32} {sbeginners : Nat → Int32} {swon : Nat → Int32} {kkinds : Nat → Int32} {ksbranches : Nat → Int32} {ksbeginners : Nat → Int32} {kswon : Nat → Int32} {lcuts : Nat → Int32} {valu : Nat → Int32} {won : Nat → Int64} {chance : Nat → Int64}   : ∀ q : Int32 × Int32 × Int32 × Int32 × Int32 × Int32 × (Nat → Int32) × (Nat → Int32) × (Nat → Int32) × (Nat → Int32), q = f_X10_restore isCharted isKept standing turn cuts ssize kstanding kturn kcuts kssize kinds sbranches sbeginners swon kkinds ksbranches ksbeginners kswon → gMi l yX10_restore wsX10_restore rm_X10_restore D E (tG cA) [.ref (a 0)] (wG a cA isCharted isKept hedgesRead evensDone plen number setCount standing turn cuts ssize kstanding kturn kcuts kssize seed whiteWon cutsDone lett onB abv sets kinds sbranches sbeginners swon kkinds ksbranches ksbeginners kswon lcuts valu won chance) (wG a cA q.2.1 isKept hedgesRead evensDone plen number setCount q.2.2.1 q.2.2.2.1 q.2.2.2.2.1 q.2.2.2.2.2.1 kstanding kturn kcuts kssize seed whiteWon cutsDone lett onB abv sets q.2.2.2.2.2.2.1 q.2.2.2.2.2.2.2.1 q.2.2.2.2.2.2.2.2.1 q.2.2.2.2.2.2.2.2.2 kkinds ksbranches ksbeginners kswon lcuts valu won chance) q.1 := by
  intro q he0
  refine gM_of (cc := cX10_restore) (maxL := 1) (ret := (some .int)) (Qf := gQi D (wG a cA q.2.1 isKept hedgesRead evensDone plen number setCount q.2.2.1 q.2.2.2.1 q.2.2.2.2.1 q.2.2.2.2.2.1 kstanding kturn kcuts kssize seed whiteWon cutsDone lett onB abv sets q.2.2.2.2.2.2.1 q.2.2.2.2.2.2.2.1 q.2.2.2.2.2.2.2.2.1 q.2.2.2.2.2.2.2.2.2 kkinds ksbranches ksbeginners kswon lcuts valu won chance) q.1) (by decide) rfl (Nat.le_of_ble_eq_true rfl) ?_
  intro p e s m args below meth c Z ls Qz hx hb hr hml hlocks hown hts hS hX hl hq
  have he := he0.trans f_X10_restore_s
  have hown : s.vm.findClass RX10 = some m.cls := hown
  have hl : lv_has ls 1 [(0, .ref (a 0))] := hl
  have hi_X10 : ∀ w ∈ u_ws RX10 TX10 14, w ∈ wsX10_restore := fun _ h => List.mem_cons_of_mem _ (List.mem_append_left _ (List.mem_append_left _ (List.mem_append_right _ h)))
  have hi_X3 : ∀ w ∈ u_ws RX3 TX3 5, w ∈ wsX10_restore := fun _ h => List.mem_cons_of_mem _ (List.mem_append_left _ (List.mem_append_right _ h))
  have l_fieldLink_26 := hts (Cond.fieldLink RX10 26 "HedgeGame" "now" "LHedgeGame$Moment;") (List.mem_of_getElem? (i := 2) rfl)
  have l_fieldLink_30 := hts (Cond.fieldLink RX10 30 "HedgeGame" "kept" "LHedgeGame$Moment;") (List.mem_of_getElem? (i := 3) rfl)
  have l_fieldLink_81 := hts (Cond.fieldLink RX10 81 "HedgeGame" "isCharted" "Z") (List.mem_of_getElem? (i := 4) rfl)
  have l_fieldLink_85 := hts (Cond.fieldLink RX10 85 "HedgeGame" "isKept" "Z") (List.mem_of_getElem? (i := 1) rfl)
  have tm103 : ((-103 : Int32)).toInt = -103 := rfl
  have t0 : ((0 : Int32)).toInt = 0 := rfl
  have t1 : ((1 : Int32)).toInt = 1 := rfl
  refine lv_aload_n hx hb dX10_restore_0 rfl (lv_at hl 0 rfl) ?_
  refine va_get (D := D) (ci := 10) (v := .int isKept) (C := RX10) (T := TX10) (N := 14) hx hb hts hi_X10 hown hS.1 hX.1 0 rfl rfl 11 (by decide) l_fieldLink_85 (fun _ h9 => h9) rfl dX10_restore_1 ?_
  refine lv_if_ne (tgt := 10) hx hb dX10_restore_4 (by decide) (fun c4 => ?_) (fun c4 => ?_)
  · have he := he.trans (if_neg c4)
    have d4 := i_ne c4
    refine lv_aload_n hx hb dX10_restore_10 rfl (lv_at hl 0 rfl) ?_
    refine va_get (D := D) (ci := 10) (v := .ref (a 7)) (C := RX10) (T := TX10) (N := 14) hx hb hts hi_X10 hown hS.1 hX.1 0 rfl rfl 2 (by decide) l_fieldLink_26 (fun _ h9 => h9) rfl dX10_restore_11 ?_
    refine lv_aload_n hx hb dX10_restore_14 rfl (lv_at hl 0 rfl) ?_
    refine va_get (D := D) (ci := 10) (v := .ref (a 13)) (C := RX10) (T := TX10) (N := 14) hx hb hts hi_X10 hown hS.1 hX.1 0 rfl rfl 3 (by decide) l_fieldLink_30 (fun _ h9 => h9) rfl dX10_restore_15 ?_
    obtain ⟨z_1, e18⟩ : ∃ z, z = (f_X3_copyFrom_now standing turn cuts ssize kstanding kturn kcuts kssize kinds sbranches sbeginners swon kkinds ksbranches ksbeginners kswon) := ⟨_, rfl⟩
    rw [← e18] at he
    try dsimp only at he
    refine g_Vv (w2 := (wG a cA isCharted isKept hedgesRead evensDone plen number setCount z_1.1 z_1.2.1 z_1.2.2.1 z_1.2.2.2.1 kstanding kturn kcuts kssize seed whiteWon cutsDone lett onB abv sets z_1.2.2.2.2.1 z_1.2.2.2.2.2.1 z_1.2.2.2.2.2.2.1 z_1.2.2.2.2.2.2.2 kkinds ksbranches ksbeginners kswon lcuts valu won chance)) (As := [.ref (a 13)]) (rest := []) (ci := 3) (q0 := 7) ⟨hx, hb, hml, hown, hts⟩ hS hX (k_X3_copyFrom_now  z_1 e18) (cwV 1 hts gX10_restore_X3_copyFrom rfl rfl rfl (by decide +kernel) ⟨Nat.le_of_ble_eq_true rfl, Nat.le_of_ble_eq_true rfl⟩) rfl rfl rfl hl.1 rfl (Nat.le_of_ble_eq_true rfl) dX10_restore_18 ⟨Nat.zero_le _, Nat.zero_le _⟩ (fun H locs hX => ?_)
    refine lv_aload_n hx hb dX10_restore_21 rfl (lv_at hl 0 rfl) ?_
    refine lv_iconst (v := (0 : Int32)) hx hb dX10_restore_22 (by decide) ?_
    refine va_put (D := D) (ci := 10) (v := .int (0 : Int32)) (ty := .boolean) (C := RX10) (T := TX10) (N := 14) hx hb hts hi_X10 tyX10 tyX10_ok nmX10 hown hS.1 hX.1 hX.2.1 hX.2.2 0 rfl rfl 10 (by decide) l_fieldLink_81 (fun _ h9 => h9) rfl (by decide +kernel) rfl rfl (Nat.le_of_ble_eq_true rfl) dX10_restore_23 (fun H locs hP hD hs => ?_)
    have hX : gX D Z s (wG a cA (0 : Int32) isKept hedgesRead evensDone plen number setCount z_1.1 z_1.2.1 z_1.2.2.1 z_1.2.2.2.1 kstanding kturn kcuts kssize seed whiteWon cutsDone lett onB abv sets z_1.2.2.2.2.1 z_1.2.2.2.2.2.1 z_1.2.2.2.2.2.2.1 z_1.2.2.2.2.2.2.2 kkinds ksbranches ksbeginners kswon lcuts valu won chance) H locs := ⟨hP, hD, hs⟩
    refine lv_aload_n hx hb dX10_restore_26 rfl (lv_at hl 0 rfl) ?_
    refine va_get (D := D) (ci := 10) (v := .ref (a 7)) (C := RX10) (T := TX10) (N := 14) hx hb hts hi_X10 hown hS.1 hX.1 0 rfl rfl 2 (by decide) l_fieldLink_26 (fun _ h9 => h9) rfl dX10_restore_27 ?_
    refine va_getN (D := D) (ci := 3) (v := .int z_1.2.2.1) (C := RX3) (T := TX3) (N := 5) hx hb hts hi_X3 hown hS.1 hX.1 7 rfl rfl 3 (by decide) (hS.2.1.get 21 rfl) (fun _ h9 => h9) rfl dX10_restore_30 ?_
    subst he
    exact g_iret hx hb hr hlocks hX hq rfl dX10_restore_33
  · have he := he.trans (if_pos c4)
    have d4 := i_eq c4
    refine lv_bipush (v := (-103 : Int32)) hx hb dX10_restore_7 (by decide) ?_
    subst he
    exact g_iret hx hb hr hlocks hX hq rfl dX10_restore_9
abbrev rm_X10_count : Room := { frames := 2, cells := 0, slots := 0, locals := 48 }
set_option maxHeartbeats 4000000 in
set_option maxRecDepth 100000 in
theorem k_X10_count {l : Launch} {D : va_G} {E : sE} {a : Nat → Nat} {cA : Nat → ClassId} {isCharted : Int32} {isKept : Int32} {hedgesRead : Int32} {evensDone : Int32} {plen : Int32} {number : Int32} {setCount : Int32} {standing : Int32} {turn : Int32} {cuts : Int32} {ssize : Int32} {kstanding : Int32} {kturn : Int32} {kcuts : Int32} {kssize : Int32} {seed : Int32} {whiteWon : Int32} {cutsDone : Int32} {lett : Nat → Int32} {onB : Nat → Int32} {abv : Nat → Int32} {sets : Nat → Int32} {kinds : Nat → Int32} {sbranches : Nat → Int32} {sbeginners : Nat → Int32} {swon : Nat → Int32} {kkinds : Nat → Int32} {ksbranches : Nat → Int32} {ksbeginners : Nat → Int32} {kswon : Nat → Int32} {lcuts : Nat → Int32} {valu : Nat → Int32} {won : Nat → Int64} {chance : Nat → Int64} (p1 : Int32) (hnm : 0 ≤ (number).toInt ∧ (number).toInt ≤ 8) : ∀ q : Int32, q = f_X10_count hedgesRead evensDone plen number standing turn cuts ssize onB abv kinds p1 → gMi l yX10_count wsX10_count rm_X10_count D E (tG cA) [.ref (a 0), .int p1] (wG a cA isCharted isKept hedgesRead evensDone plen number setCount standing turn cuts ssize kstanding kturn kcuts kssize seed whiteWon cutsDone lett onB abv sets kinds sbranches sbeginners swon kkinds ksbranches ksbeginners kswon lcuts valu won chance) (wG a cA isCharted isKept hedgesRead evensDone plen number setCount standing turn cuts ssize kstanding kturn kcuts kssize seed whiteWon cutsDone lett onB abv sets kinds sbranches sbeginners swon kkinds ksbranches ksbeginners kswon lcuts valu won chance) q := by
  intro q he0
  refine gM_of (cc := cX10_count) (maxL := 2) (ret := (some .int)) (Qf := gQi D (wG a cA isCharted isKept hedgesRead evensDone plen number setCount standing turn cuts ssize kstanding kturn kcuts kssize seed whiteWon cutsDone lett onB abv sets kinds sbranches sbeginners swon kkinds ksbranches ksbeginners kswon lcuts valu won chance) q) (by decide) rfl (Nat.le_of_ble_eq_true rfl) ?_
  intro p e s m args below meth c Z ls Qz hx hb hr hml hlocks hown hts hS hX hl hq
  have he := he0.trans f_X10_count_s
  have hown : s.vm.findClass RX10 = some m.cls := hown
  have hl : lv_has ls 2 [(0, .ref (a 0)), (1, .int p1)] := hl
  have hi_X10 : ∀ w ∈ u_ws RX10 TX10 14, w ∈ wsX10_count := fun _ h => List.mem_cons_of_mem _ (List.mem_append_left _ (List.mem_append_left _ (List.mem_append_left _ (List.mem_append_left _ (List.mem_append_left _ (List.mem_append_right _ h))))))
  have hi_X3 : ∀ w ∈ u_ws RX3 TX3 5, w ∈ wsX10_count := fun _ h => List.mem_cons_of_mem _ (List.mem_append_left _ (List.mem_append_left _ (List.mem_append_left _ (List.mem_append_right _ h))))
  have hi_X7 : ∀ w ∈ u_ws RX7 TX7 4, w ∈ wsX10_count := fun _ h => List.mem_cons_of_mem _ (List.mem_append_left _ (List.mem_append_left _ (List.mem_append_right _ h)))
  have hi_X8 : ∀ w ∈ u_ws RX8 TX8 5, w ∈ wsX10_count := fun _ h => List.mem_cons_of_mem _ (List.mem_append_left _ (List.mem_append_left _ (List.mem_append_left _ (List.mem_append_left _ (List.mem_append_right _ h)))))
  have l_fieldLink_10 := hts (Cond.fieldLink RX10 10 "HedgeGame" "page" "LHedgeGame$Page;") (List.mem_of_getElem? (i := 4) rfl)
  have l_fieldLink_19 := hts (Cond.fieldLink RX10 19 "HedgeGame" "shape" "LHedgeGame$Shape;") (List.mem_of_getElem? (i := 1) rfl)
  have l_fieldLink_26 := hts (Cond.fieldLink RX10 26 "HedgeGame" "now" "LHedgeGame$Moment;") (List.mem_of_getElem? (i := 2) rfl)
  have l_fieldLink_38 := hts (Cond.fieldLink RX10 38 "HedgeGame" "rules" "LHedgeGame$Rules;") (List.mem_of_getElem? (i := 3) rfl)
  have l_fieldLink_88 := hts (Cond.fieldLink RX10 88 "HedgeGame" "hedgesRead" "I") (List.mem_of_getElem? (i := 5) rfl)
  have l_fieldLink_92 := hts (Cond.fieldLink RX10 92 "HedgeGame" "evensDone" "I") (List.mem_of_getElem? (i := 6) rfl)
  have tm102 : ((-102 : Int32)).toInt = -102 := rfl
  have t0 : ((0 : Int32)).toInt = 0 := rfl
  have t1 : ((1 : Int32)).toInt = 1 := rfl
  refine lv_iload_n hx hb dX10_count_0 rfl (lv_at hl 1 rfl) ?_
  by_cases q1_0 : p1 = (0 : Int32)
  · have he := he.trans (if_pos q1_0)
    refine lv_tableIn (tgt := 60) (off := 59) hx hb dX10_count_1 (by rw [q1_0]; decide) (by rw [q1_0]; decide) (by rw [q1_0]; rfl) (by decide) ?_
    refine lv_aload_n hx hb dX10_count_60 rfl (lv_at hl 0 rfl) ?_
    refine va_get (D := D) (ci := 10) (v := .ref (a 3)) (C := RX10) (T := TX10) (N := 14) hx hb hts hi_X10 hown hS.1 hX.1 0 rfl rfl 1 (by decide) l_fieldLink_19 (fun _ h9 => h9) rfl dX10_count_61 ?_
    refine va_getN (D := D) (ci := 8) (v := .int number) (C := RX8) (T := TX8) (N := 5) hx hb hts hi_X8 hown hS.1 hX.1 3 rfl rfl 0 (by decide) (hS.2.1.get 5 rfl) (fun _ h9 => h9) rfl dX10_count_64 ?_
    subst he
    exact g_iret hx hb hr hlocks hX hq rfl dX10_count_67
  · have he := he.trans (if_neg q1_0)
    by_cases q1_1 : p1 = (1 : Int32)
    · have he := he.trans (if_pos q1_1)
      refine lv_tableIn (tgt := 68) (off := 67) hx hb dX10_count_1 (by rw [q1_1]; decide) (by rw [q1_1]; decide) (by rw [q1_1]; rfl) (by decide) ?_
      refine lv_aload_n hx hb dX10_count_68 rfl (lv_at hl 0 rfl) ?_
      refine va_get (D := D) (ci := 10) (v := .ref (a 7)) (C := RX10) (T := TX10) (N := 14) hx hb hts hi_X10 hown hS.1 hX.1 0 rfl rfl 2 (by decide) l_fieldLink_26 (fun _ h9 => h9) rfl dX10_count_69 ?_
      refine va_getN (D := D) (ci := 3) (v := .int standing) (C := RX3) (T := TX3) (N := 5) hx hb hts hi_X3 hown hS.1 hX.1 7 rfl rfl 1 (by decide) (hS.2.1.get 19 rfl) (fun _ h9 => h9) rfl dX10_count_72 ?_
      obtain ⟨r_1, e75⟩ : ∃ z, z = (f_J6_bitCount_0f7a4 standing) := ⟨_, rfl⟩
      rw [← e75] at he
      refine g_Si (r := r_1) (As := [.int standing]) (rest := []) ⟨hx, hb, hml, hown, hts⟩ hS hX (k_J6_bitCount_0f7a4 standing r_1 e75) (va_cwS 1 hts gX10_count_J6_bitCount_0f7a4 rfl rfl rfl (by decide +kernel) ⟨Nat.le_of_ble_eq_true rfl, Nat.le_of_ble_eq_true rfl⟩) rfl hl.1 rfl (Nat.le_of_ble_eq_true rfl) dX10_count_75 ⟨Nat.zero_le _, Nat.zero_le _⟩ (fun H locs hX => ?_)
      subst he
      exact g_iret hx hb hr hlocks hX hq rfl dX10_count_78
    · have he := he.trans (if_neg q1_1)
      by_cases q1_2 : p1 = (2 : Int32)
      · have he := he.trans (if_pos q1_2)
        refine lv_tableIn (tgt := 79) (off := 78) hx hb dX10_count_1 (by rw [q1_2]; decide) (by rw [q1_2]; decide) (by rw [q1_2]; rfl) (by decide) ?_
        refine lv_aload_n hx hb dX10_count_79 rfl (lv_at hl 0 rfl) ?_
        refine va_get (D := D) (ci := 10) (v := .ref (a 7)) (C := RX10) (T := TX10) (N := 14) hx hb hts hi_X10 hown hS.1 hX.1 0 rfl rfl 2 (by decide) l_fieldLink_26 (fun _ h9 => h9) rfl dX10_count_80 ?_
        refine va_getN (D := D) (ci := 3) (v := .int turn) (C := RX3) (T := TX3) (N := 5) hx hb hts hi_X3 hown hS.1 hX.1 7 rfl rfl 2 (by decide) (hS.2.1.get 20 rfl) (fun _ h9 => h9) rfl dX10_count_83 ?_
        subst he
        exact g_iret hx hb hr hlocks hX hq rfl dX10_count_86
      · have he := he.trans (if_neg q1_2)
        by_cases q1_3 : p1 = (3 : Int32)
        · have he := he.trans (if_pos q1_3)
          refine lv_tableIn (tgt := 87) (off := 86) hx hb dX10_count_1 (by rw [q1_3]; decide) (by rw [q1_3]; decide) (by rw [q1_3]; rfl) (by decide) ?_
          refine lv_aload_n hx hb dX10_count_87 rfl (lv_at hl 0 rfl) ?_
          refine va_get (D := D) (ci := 10) (v := .ref (a 7)) (C := RX10) (T := TX10) (N := 14) hx hb hts hi_X10 hown hS.1 hX.1 0 rfl rfl 2 (by decide) l_fieldLink_26 (fun _ h9 => h9) rfl dX10_count_88 ?_
          refine va_getN (D := D) (ci := 3) (v := .int cuts) (C := RX3) (T := TX3) (N := 5) hx hb hts hi_X3 hown hS.1 hX.1 7 rfl rfl 3 (by decide) (hS.2.1.get 21 rfl) (fun _ h9 => h9) rfl dX10_count_91 ?_
          subst he
          exact g_iret hx hb hr hlocks hX hq rfl dX10_count_94
        · have he := he.trans (if_neg q1_3)
          by_cases q1_4 : p1 = (4 : Int32)
          · have he := he.trans (if_pos q1_4)
            refine lv_tableIn (tgt := 95) (off := 94) hx hb dX10_count_1 (by rw [q1_4]; decide) (by rw [q1_4]; decide) (by rw [q1_4]; rfl) (by decide) ?_
            refine lv_aload_n hx hb dX10_count_95 rfl (lv_at hl 0 rfl) ?_
            refine va_get (D := D) (ci := 10) (v := .ref (a 19)) (C := RX10) (T := TX10) (N := 14) hx hb hts hi_X10 hown hS.1 hX.1 0 rfl rfl 4 (by decide) l_fieldLink_38 (fun _ h9 => h9) rfl dX10_count_96 ?_
            refine lv_iconst (v := (0 : Int32)) hx hb dX10_count_99 (by decide) ?_
            refine lv_aload_n hx hb dX10_count_100 rfl (lv_at hl 0 rfl) ?_
            refine va_get (D := D) (ci := 10) (v := .ref (a 7)) (C := RX10) (T := TX10) (N := 14) hx hb hts hi_X10 hown hS.1 hX.1 0 rfl rfl 2 (by decide) l_fieldLink_26 (fun _ h9 => h9) rfl dX10_count_101 ?_
            refine va_getN (D := D) (ci := 3) (v := .int standing) (C := RX3) (T := TX3) (N := 5) hx hb hts hi_X3 hown hS.1 hX.1 7 rfl rfl 1 (by decide) (hS.2.1.get 19 rfl) (fun _ h9 => h9) rfl dX10_count_104 ?_
            obtain ⟨r_2, e107⟩ : ∃ z, z = (f_X6_choices number abv kinds (0 : Int32) standing) := ⟨_, rfl⟩
            rw [← e107] at he
            refine g_Vi (r := r_2) (As := [.int (0 : Int32), .int standing]) (rest := []) (ci := 6) (q0 := 19) ⟨hx, hb, hml, hown, hts⟩ hS hX (k_X6_choices (0 : Int32) standing (by omega) r_2 e107) (cwV 2 hts gX10_count_X6_choices rfl rfl rfl (by decide +kernel) ⟨Nat.le_of_ble_eq_true rfl, Nat.le_of_ble_eq_true rfl⟩) rfl rfl rfl hl.1 rfl (Nat.le_of_ble_eq_true rfl) dX10_count_107 ⟨Nat.zero_le _, Nat.zero_le _⟩ (fun H locs hX => ?_)
            obtain ⟨r_3, e110⟩ : ∃ z, z = (f_J6_bitCount_0f7a4 r_2) := ⟨_, rfl⟩
            rw [← e110] at he
            refine g_Si (r := r_3) (As := [.int r_2]) (rest := []) ⟨hx, hb, hml, hown, hts⟩ hS hX (k_J6_bitCount_0f7a4 r_2 r_3 e110) (va_cwS 1 hts gX10_count_J6_bitCount_0f7a4 rfl rfl rfl (by decide +kernel) ⟨Nat.le_of_ble_eq_true rfl, Nat.le_of_ble_eq_true rfl⟩) rfl hl.1 rfl (Nat.le_of_ble_eq_true rfl) dX10_count_110 ⟨Nat.zero_le _, Nat.zero_le _⟩ (fun H locs hX => ?_)
            subst he
            exact g_iret hx hb hr hlocks hX hq rfl dX10_count_113
          · have he := he.trans (if_neg q1_4)
            by_cases q1_5 : p1 = (5 : Int32)
            · have he := he.trans (if_pos q1_5)
              refine lv_tableIn (tgt := 114) (off := 113) hx hb dX10_count_1 (by rw [q1_5]; decide) (by rw [q1_5]; decide) (by rw [q1_5]; rfl) (by decide) ?_
              refine lv_aload_n hx hb dX10_count_114 rfl (lv_at hl 0 rfl) ?_
              refine va_get (D := D) (ci := 10) (v := .ref (a 19)) (C := RX10) (T := TX10) (N := 14) hx hb hts hi_X10 hown hS.1 hX.1 0 rfl rfl 4 (by decide) l_fieldLink_38 (fun _ h9 => h9) rfl dX10_count_115 ?_
              refine lv_iconst (v := (1 : Int32)) hx hb dX10_count_118 (by decide) ?_
              refine lv_aload_n hx hb dX10_count_119 rfl (lv_at hl 0 rfl) ?_
              refine va_get (D := D) (ci := 10) (v := .ref (a 7)) (C := RX10) (T := TX10) (N := 14) hx hb hts hi_X10 hown hS.1 hX.1 0 rfl rfl 2 (by decide) l_fieldLink_26 (fun _ h9 => h9) rfl dX10_count_120 ?_
              refine va_getN (D := D) (ci := 3) (v := .int standing) (C := RX3) (T := TX3) (N := 5) hx hb hts hi_X3 hown hS.1 hX.1 7 rfl rfl 1 (by decide) (hS.2.1.get 19 rfl) (fun _ h9 => h9) rfl dX10_count_123 ?_
              obtain ⟨r_4, e126⟩ : ∃ z, z = (f_X6_choices number abv kinds (1 : Int32) standing) := ⟨_, rfl⟩
              rw [← e126] at he
              refine g_Vi (r := r_4) (As := [.int (1 : Int32), .int standing]) (rest := []) (ci := 6) (q0 := 19) ⟨hx, hb, hml, hown, hts⟩ hS hX (k_X6_choices (1 : Int32) standing (by omega) r_4 e126) (cwV 2 hts gX10_count_X6_choices rfl rfl rfl (by decide +kernel) ⟨Nat.le_of_ble_eq_true rfl, Nat.le_of_ble_eq_true rfl⟩) rfl rfl rfl hl.1 rfl (Nat.le_of_ble_eq_true rfl) dX10_count_126 ⟨Nat.zero_le _, Nat.zero_le _⟩ (fun H locs hX => ?_)
              obtain ⟨r_5, e129⟩ : ∃ z, z = (f_J6_bitCount_0f7a4 r_4) := ⟨_, rfl⟩
              rw [← e129] at he
              refine g_Si (r := r_5) (As := [.int r_4]) (rest := []) ⟨hx, hb, hml, hown, hts⟩ hS hX (k_J6_bitCount_0f7a4 r_4 r_5 e129) (va_cwS 1 hts gX10_count_J6_bitCount_0f7a4 rfl rfl rfl (by decide +kernel) ⟨Nat.le_of_ble_eq_true rfl, Nat.le_of_ble_eq_true rfl⟩) rfl hl.1 rfl (Nat.le_of_ble_eq_true rfl) dX10_count_129 ⟨Nat.zero_le _, Nat.zero_le _⟩ (fun H locs hX => ?_)
              subst he
              exact g_iret hx hb hr hlocks hX hq rfl dX10_count_132
            · have he := he.trans (if_neg q1_5)
              by_cases q1_6 : p1 = (6 : Int32)
              · have he := he.trans (if_pos q1_6)
                refine lv_tableIn (tgt := 133) (off := 132) hx hb dX10_count_1 (by rw [q1_6]; decide) (by rw [q1_6]; decide) (by rw [q1_6]; rfl) (by decide) ?_
                refine lv_aload_n hx hb dX10_count_133 rfl (lv_at hl 0 rfl) ?_
                refine va_get (D := D) (ci := 10) (v := .ref (a 3)) (C := RX10) (T := TX10) (N := 14) hx hb hts hi_X10 hown hS.1 hX.1 0 rfl rfl 1 (by decide) l_fieldLink_19 (fun _ h9 => h9) rfl dX10_count_134 ?_
                obtain ⟨r_6, e137⟩ : ∃ z, z = (f_X8_onTheGround number onB) := ⟨_, rfl⟩
                rw [← e137] at he
                refine g_Vi (r := r_6) (As := []) (rest := []) (ci := 8) (q0 := 3) ⟨hx, hb, hml, hown, hts⟩ hS hX (k_X8_onTheGround (by omega) r_6 e137) (cwV 0 hts gX10_count_X8_onTheGround rfl rfl rfl (by decide +kernel) ⟨Nat.le_of_ble_eq_true rfl, Nat.le_of_ble_eq_true rfl⟩) rfl rfl rfl hl.1 rfl (Nat.le_of_ble_eq_true rfl) dX10_count_137 ⟨Nat.zero_le _, Nat.zero_le _⟩ (fun H locs hX => ?_)
                subst he
                exact g_iret hx hb hr hlocks hX hq rfl dX10_count_140
              · have he := he.trans (if_neg q1_6)
                by_cases q1_7 : p1 = (7 : Int32)
                · have he := he.trans (if_pos q1_7)
                  refine lv_tableIn (tgt := 141) (off := 140) hx hb dX10_count_1 (by rw [q1_7]; decide) (by rw [q1_7]; decide) (by rw [q1_7]; rfl) (by decide) ?_
                  refine lv_aload_n hx hb dX10_count_141 rfl (lv_at hl 0 rfl) ?_
                  refine va_get (D := D) (ci := 10) (v := .ref (a 7)) (C := RX10) (T := TX10) (N := 14) hx hb hts hi_X10 hown hS.1 hX.1 0 rfl rfl 2 (by decide) l_fieldLink_26 (fun _ h9 => h9) rfl dX10_count_142 ?_
                  refine va_getN (D := D) (ci := 3) (v := .ref (a 9)) (C := RX3) (T := TX3) (N := 5) hx hb hts hi_X3 hown hS.1 hX.1 7 rfl rfl 4 (by decide) (hS.2.1.get 22 rfl) (fun _ h9 => h9) rfl dX10_count_145 ?_
                  refine va_getN (D := D) (ci := 7) (v := .int ssize) (C := RX7) (T := TX7) (N := 4) hx hb hts hi_X7 hown hS.1 hX.1 9 rfl rfl 0 (by decide) (hS.2.1.get 12 rfl) (fun _ h9 => h9) rfl dX10_count_148 ?_
                  subst he
                  exact g_iret hx hb hr hlocks hX hq rfl dX10_count_151
                · have he := he.trans (if_neg q1_7)
                  by_cases q1_8 : p1 = (8 : Int32)
                  · have he := he.trans (if_pos q1_8)
                    refine lv_tableIn (tgt := 152) (off := 151) hx hb dX10_count_1 (by rw [q1_8]; decide) (by rw [q1_8]; decide) (by rw [q1_8]; rfl) (by decide) ?_
                    refine lv_aload_n hx hb dX10_count_152 rfl (lv_at hl 0 rfl) ?_
                    refine va_get (D := D) (ci := 10) (v := .ref (a 1)) (C := RX10) (T := TX10) (N := 14) hx hb hts hi_X10 hown hS.1 hX.1 0 rfl rfl 0 (by decide) l_fieldLink_10 (fun _ h9 => h9) rfl dX10_count_153 ?_
                    obtain ⟨r_7, e156⟩ : ∃ z, z = (f_X5_size plen) := ⟨_, rfl⟩
                    rw [← e156] at he
                    refine g_Vi (r := r_7) (As := []) (rest := []) (ci := 5) (q0 := 1) ⟨hx, hb, hml, hown, hts⟩ hS hX (k_X5_size  r_7 e156) (cwV 0 hts gX10_count_X5_size rfl rfl rfl (by decide +kernel) ⟨Nat.le_of_ble_eq_true rfl, Nat.le_of_ble_eq_true rfl⟩) rfl rfl rfl hl.1 rfl (Nat.le_of_ble_eq_true rfl) dX10_count_156 ⟨Nat.zero_le _, Nat.zero_le _⟩ (fun H locs hX => ?_)
                    have k156_0 : (r_7).toInt = (plen).toInt := by rw [e156]; exact rfl
                    subst he
                    exact g_iret hx hb hr hlocks hX hq rfl dX10_count_159
                  · have he := he.trans (if_neg q1_8)
                    by_cases q1_9 : p1 = (9 : Int32)
                    · have he := he.trans (if_pos q1_9)
                      refine lv_tableIn (tgt := 160) (off := 159) hx hb dX10_count_1 (by rw [q1_9]; decide) (by rw [q1_9]; decide) (by rw [q1_9]; rfl) (by decide) ?_
                      refine lv_aload_n hx hb dX10_count_160 rfl (lv_at hl 0 rfl) ?_
                      refine va_get (D := D) (ci := 10) (v := .int hedgesRead) (C := RX10) (T := TX10) (N := 14) hx hb hts hi_X10 hown hS.1 hX.1 0 rfl rfl 12 (by decide) l_fieldLink_88 (fun _ h9 => h9) rfl dX10_count_161 ?_
                      subst he
                      exact g_iret hx hb hr hlocks hX hq rfl dX10_count_164
                    · have he := he.trans (if_neg q1_9)
                      by_cases q1_10 : p1 = (10 : Int32)
                      · have he := he.trans (if_pos q1_10)
                        refine lv_tableIn (tgt := 165) (off := 164) hx hb dX10_count_1 (by rw [q1_10]; decide) (by rw [q1_10]; decide) (by rw [q1_10]; rfl) (by decide) ?_
                        refine lv_aload_n hx hb dX10_count_165 rfl (lv_at hl 0 rfl) ?_
                        refine va_get (D := D) (ci := 10) (v := .int evensDone) (C := RX10) (T := TX10) (N := 14) hx hb hts hi_X10 hown hS.1 hX.1 0 rfl rfl 13 (by decide) l_fieldLink_92 (fun _ h9 => h9) rfl dX10_count_166 ?_
                        subst he
                        exact g_iret hx hb hr hlocks hX hq rfl dX10_count_169
                      · have he := he.trans (if_neg q1_10)
                        have hne : p1.toInt < 0 ∨ 10 < p1.toInt := by
                          have z0 := i_ne q1_0
                          have y0 : ((0 : Int32)).toInt = 0 := rfl
                          have z1 := i_ne q1_1
                          have y1 : ((1 : Int32)).toInt = 1 := rfl
                          have z2 := i_ne q1_2
                          have y2 : ((2 : Int32)).toInt = 2 := rfl
                          have z3 := i_ne q1_3
                          have y3 : ((3 : Int32)).toInt = 3 := rfl
                          have z4 := i_ne q1_4
                          have y4 : ((4 : Int32)).toInt = 4 := rfl
                          have z5 := i_ne q1_5
                          have y5 : ((5 : Int32)).toInt = 5 := rfl
                          have z6 := i_ne q1_6
                          have y6 : ((6 : Int32)).toInt = 6 := rfl
                          have z7 := i_ne q1_7
                          have y7 : ((7 : Int32)).toInt = 7 := rfl
                          have z8 := i_ne q1_8
                          have y8 : ((8 : Int32)).toInt = 8 := rfl
                          have z9 := i_ne q1_9
                          have y9 : ((9 : Int32)).toInt = 9 := rfl
                          have z10 := i_ne q1_10
                          have y10 : ((10 : Int32)).toInt = 10 := rfl
                          omega
                        refine lv_tableOut (tgt := 170) hx hb dX10_count_1 hne (by decide) ?_
                        refine lv_bipush (v := (-102 : Int32)) hx hb dX10_count_170 (by decide) ?_
                        subst he
                        exact g_iret hx hb hr hlocks hX hq rfl dX10_count_172
abbrev rm_X10_digestOutlook : Room := { frames := 5, cells := 0, slots := 0, locals := 124 }
set_option maxHeartbeats 4000000 in
set_option maxRecDepth 100000 in
theorem k_X10_digestOutlook {l : Launch} {D : va_G} {E : sE} {a : Nat → Nat} {cA : Nat → ClassId} {isCharted : Int32} {isKept : Int32} {hedgesRead : Int32} {evensDone : Int32} {plen : Int32} {number : Int32} {setCount : Int32} {standing : Int32} {turn : Int32} {cuts : Int32} {ssize : Int32} {kstanding : Int32} {kturn : Int32} {kcuts : Int32} {kssize : Int32} {seed : Int32} {whiteWon : Int32} {cutsDone : Int32} {lett : Nat → Int32} {onB : Nat → Int32} {abv : Nat → Int32} {sets : Nat → Int32} {kinds : Nat → Int32} {sbranches : Nat → Int32} {sbeginners : Nat → Int32} {swon : Nat → Int32} {kkinds : Nat → Int32} {ksbranches : Nat → Int32} {ksbeginners : Nat → Int32} {kswon : Nat → Int32} {lcuts : Nat → Int32} {valu : Nat → Int32} {won : Nat → Int64} {chance : Nat → Int64} (p1 : Int64) (hnm : 0 ≤ (number).toInt ∧ (number).toInt ≤ 8) (hsc : 0 ≤ (setCount).toInt ∧ (setCount).toInt ≤ 256) (hss : ∀ k : Nat, 0 ≤ (sets k).toInt ∧ (sets k).toInt < 256) (hsd : 0 ≤ (standing).toInt ∧ (standing).toInt < 256) : ∀ q : Int64 × Int32 × (Nat → Int32) × (Nat → Int32) × (Nat → Int64) × (Nat → Int64), q = f_X10_digestOutlook isCharted number setCount standing onB abv sets kinds lcuts valu won chance p1 → gMl l yX10_digestOutlook wsX10_digestOutlook rm_X10_digestOutlook D E (tG cA) [.ref (a 0), .long p1] (wG a cA isCharted isKept hedgesRead evensDone plen number setCount standing turn cuts ssize kstanding kturn kcuts kssize seed whiteWon cutsDone lett onB abv sets kinds sbranches sbeginners swon kkinds ksbranches ksbeginners kswon lcuts valu won chance) (wG a cA q.2.1 isKept hedgesRead evensDone plen number setCount standing turn cuts ssize kstanding kturn kcuts kssize seed whiteWon cutsDone lett onB abv sets kinds sbranches sbeginners swon kkinds ksbranches ksbeginners kswon q.2.2.1 q.2.2.2.1 q.2.2.2.2.1 q.2.2.2.2.2) q.1 := by
  intro q he0
  refine gM_of (cc := cX10_digestOutlook) (maxL := 6) (ret := (some .long)) (Qf := gQl D (wG a cA q.2.1 isKept hedgesRead evensDone plen number setCount standing turn cuts ssize kstanding kturn kcuts kssize seed whiteWon cutsDone lett onB abv sets kinds sbranches sbeginners swon kkinds ksbranches ksbeginners kswon q.2.2.1 q.2.2.2.1 q.2.2.2.2.1 q.2.2.2.2.2) q.1) (by decide) rfl (Nat.le_of_ble_eq_true rfl) ?_
  intro p e s m args below meth c Z ls Qz hx hb hr hml hlocks hown hts hS hX hl hq
  have he := he0.trans f_X10_digestOutlook_s
  have hown : s.vm.findClass RX10 = some m.cls := hown
  have hl : lv_has ls 6 [(0, .ref (a 0)), (1, .long p1)] := hl
  have hi_X10 : ∀ w ∈ u_ws RX10 TX10 14, w ∈ wsX10_digestOutlook := fun _ h => List.mem_cons_of_mem _ (List.mem_append_left _ (List.mem_append_left _ (List.mem_append_left _ (List.mem_append_left _ (List.mem_append_left _ (List.mem_append_left _ (List.mem_append_left _ (List.mem_append_right _ h))))))))
  have hi_X8 : ∀ w ∈ u_ws RX8 TX8 5, w ∈ wsX10_digestOutlook := fun _ h => List.mem_cons_of_mem _ (List.mem_append_left _ (List.mem_append_left _ (List.mem_append_left _ (List.mem_append_left _ (List.mem_append_left _ (List.mem_append_left _ (List.mem_append_right _ h)))))))
  have l_constantLong_236 := hts (Cond.constantLong RX10 236 (31)) (List.mem_of_getElem? (i := 1) rfl)
  have l_fieldLink_19 := hts (Cond.fieldLink RX10 19 "HedgeGame" "shape" "LHedgeGame$Shape;") (List.mem_of_getElem? (i := 2) rfl)
  have tm1 : ((-1 : Int32)).toInt = -1 := rfl
  have t0 : ((0 : Int32)).toInt = 0 := rfl
  have t1 : ((1 : Int32)).toInt = 1 := rfl
  have t2 : ((2 : Int32)).toInt = 2 := rfl
  refine lv_lload_n hx hb dX10_digestOutlook_0 rfl (lv_at hl 1 rfl) ?_
  refine lv_lstore_n (lv' := [(3, .long p1), (0, .ref (a 0)), (1, .long p1)]) hx hb dX10_digestOutlook_1 rfl hl (by decide) rfl (fun ls hl => ?_)
  refine lv_iconst (v := (0 : Int32)) hx hb dX10_digestOutlook_2 (by decide) ?_
  refine lv_istore (lv' := [(5, .int (0 : Int32)), (3, .long p1), (0, .ref (a 0)), (1, .long p1)]) hx hb dX10_digestOutlook_3 hl (by decide) rfl (fun ls hl => ?_)
  have L5_1 : ∀ (n_5_1 : Nat) (isCharted_2 : Int32) (lcuts_3 : Nat → Int32) (valu_4 : Nat → Int32) (won_5 : Nat → Int64) (chance_6 : Nat → Int64) (x3_7 : Int64) (x5_8 : Int32), 0 ≤ (x5_8).toInt ∧ (x5_8).toInt ≤ 2 → 2 - (x5_8).toInt < (n_5_1 : Int) → q = f_X10_digestOutlook_L5 n_5_1 isCharted_2 number setCount standing onB abv sets kinds lcuts_3 valu_4 won_5 chance_6 p1 x3_7 x5_8 → ∀ (H : Heap) (locs : List Loc) (ls : Array Slot), gX D Z s (wG a cA isCharted_2 isKept hedgesRead evensDone plen number setCount standing turn cuts ssize kstanding kturn kcuts kssize seed whiteWon cutsDone lett onB abv sets kinds sbranches sbeginners swon kkinds ksbranches ksbeginners kswon lcuts_3 valu_4 won_5 chance_6) H locs → lv_has ls 6 [(0, .ref (a 0)), (1, .long p1), (3, .long x3_7), (5, .int x5_8)] → W p l e rm_X10_digestOutlook s m args below meth c H locs 0 0 Qz (F0 m 5 ls []) := by
    intro n_5_1
    induction n_5_1 with
    | zero =>
      intro isCharted_2 lcuts_3 valu_4 won_5 chance_6 x3_7 x5_8 ia ifu _ _ _ _ _ _
      exfalso; omega
    | succ n_5_1 ih_L5_1 =>
      intro isCharted_2 lcuts_3 valu_4 won_5 chance_6 x3_7 x5_8 ia ifu he H locs ls hX hl
      have he := he.trans f_X10_digestOutlook_L5_s
      refine lv_iload hx hb dX10_digestOutlook_5 (lv_at hl 3 rfl) ?_
      refine lv_iconst (v := (2 : Int32)) hx hb dX10_digestOutlook_7 (by decide) ?_
      refine lv_icmp_ge (tgt := 73) hx hb dX10_digestOutlook_8 (by decide) (fun c8 => ?_) (fun c8 => ?_)
      · have he := he.trans (if_pos c8)
        have d8 := i_le c8
        refine lv_ldc2 (v := (31 : Int64)) hx hb hown l_constantLong_236 dX10_digestOutlook_73 ?_
        refine lv_lload_n hx hb dX10_digestOutlook_76 rfl (lv_at hl 2 rfl) ?_
        refine lv_lmul hx hb dX10_digestOutlook_77 ?_
        refine lv_aload_n hx hb dX10_digestOutlook_78 rfl (lv_at hl 0 rfl) ?_
        obtain ⟨z_9, e79⟩ : ∃ z, z = (f_X10_worth isCharted_2 number setCount standing abv sets kinds lcuts_3 valu_4 won_5 chance_6) := ⟨_, rfl⟩
        rw [← e79] at he
        try dsimp only at he
        refine g_Vi (r := z_9.1) (w2 := (wG a cA z_9.2.1 isKept hedgesRead evensDone plen number setCount standing turn cuts ssize kstanding kturn kcuts kssize seed whiteWon cutsDone lett onB abv sets kinds sbranches sbeginners swon kkinds ksbranches ksbeginners kswon z_9.2.2.1 z_9.2.2.2.1 z_9.2.2.2.2.1 z_9.2.2.2.2.2)) (As := []) (rest := [.long ((31 : Int64) * x3_7)]) (ci := 10) (q0 := 0) ⟨hx, hb, hml, hown, hts⟩ hS hX (k_X10_worth (by omega) (by omega) (by assumption) (by omega) z_9 e79) (cwV 0 hts gX10_digestOutlook_X10_worth rfl rfl rfl (by decide +kernel) ⟨Nat.le_of_ble_eq_true rfl, Nat.le_of_ble_eq_true rfl⟩) rfl rfl rfl hl.1 rfl (Nat.le_of_ble_eq_true rfl) dX10_digestOutlook_79 ⟨Nat.zero_le _, Nat.zero_le _⟩ (fun H locs hX => ?_)
        refine lv_i2l hx hb dX10_digestOutlook_82 rfl ?_
        refine lv_ladd hx hb dX10_digestOutlook_83 ?_
        refine lv_lstore_n (lv' := [(3, .long (((31 : Int64) * x3_7) + ((z_9.1).toInt64))), (0, .ref (a 0)), (1, .long p1), (5, .int x5_8)]) hx hb dX10_digestOutlook_84 rfl hl (by decide) rfl (fun ls hl => ?_)
        refine lv_iconst (v := (0 : Int32)) hx hb dX10_digestOutlook_85 (by decide) ?_
        refine lv_istore (lv' := [(5, .int (0 : Int32)), (3, .long (((31 : Int64) * x3_7) + ((z_9.1).toInt64))), (0, .ref (a 0)), (1, .long p1)]) hx hb dX10_digestOutlook_86 hl (by decide) rfl (fun ls hl => ?_)
        have L88_10 : ∀ (n_88_10 : Nat) (isCharted_11 : Int32) (lcuts_12 : Nat → Int32) (valu_13 : Nat → Int32) (won_14 : Nat → Int64) (chance_15 : Nat → Int64) (x3_16 : Int64) (x5_17 : Int32), 0 ≤ (x5_17).toInt ∧ (x5_17).toInt ≤ 8 → 8 - (x5_17).toInt < (n_88_10 : Int) → q = f_X10_digestOutlook_L88 n_88_10 isCharted_11 number setCount standing onB abv sets kinds lcuts_12 valu_13 won_14 chance_15 p1 x3_16 x5_17 → ∀ (H : Heap) (locs : List Loc) (ls : Array Slot), gX D Z s (wG a cA isCharted_11 isKept hedgesRead evensDone plen number setCount standing turn cuts ssize kstanding kturn kcuts kssize seed whiteWon cutsDone lett onB abv sets kinds sbranches sbeginners swon kkinds ksbranches ksbeginners kswon lcuts_12 valu_13 won_14 chance_15) H locs → lv_has ls 6 [(0, .ref (a 0)), (1, .long p1), (3, .long x3_16), (5, .int x5_17)] → W p l e rm_X10_digestOutlook s m args below meth c H locs 0 0 Qz (F0 m 88 ls []) := by
          intro n_88_10
          induction n_88_10 with
          | zero =>
            intro isCharted_11 lcuts_12 valu_13 won_14 chance_15 x3_16 x5_17 ia ifu _ _ _ _ _ _
            exfalso; omega
          | succ n_88_10 ih_L88_10 =>
            intro isCharted_11 lcuts_12 valu_13 won_14 chance_15 x3_16 x5_17 ia ifu he H locs ls hX hl
            have he := he.trans f_X10_digestOutlook_L88_s
            refine lv_iload hx hb dX10_digestOutlook_88 (lv_at hl 3 rfl) ?_
            refine lv_aload_n hx hb dX10_digestOutlook_90 rfl (lv_at hl 0 rfl) ?_
            refine va_get (D := D) (ci := 10) (v := .ref (a 3)) (C := RX10) (T := TX10) (N := 14) hx hb hts hi_X10 hown hS.1 hX.1 0 rfl rfl 1 (by decide) l_fieldLink_19 (fun _ h9 => h9) rfl dX10_digestOutlook_91 ?_
            refine va_getN (D := D) (ci := 8) (v := .int number) (C := RX8) (T := TX8) (N := 5) hx hb hts hi_X8 hown hS.1 hX.1 3 rfl rfl 0 (by decide) (hS.2.1.get 5 rfl) (fun _ h9 => h9) rfl dX10_digestOutlook_94 ?_
            refine lv_icmp_ge (tgt := 134) hx hb dX10_digestOutlook_97 (by decide) (fun c97 => ?_) (fun c97 => ?_)
            · have he := he.trans (if_pos c97)
              have d97 := i_le c97
              refine lv_lload_n hx hb dX10_digestOutlook_134 rfl (lv_at hl 2 rfl) ?_
              subst he
              exact g_lret hx hb hr hlocks hX hq rfl dX10_digestOutlook_135
            · have he := he.trans (if_neg c97)
              have d97 := i_nle c97
              refine lv_aload_n hx hb dX10_digestOutlook_100 rfl (lv_at hl 0 rfl) ?_
              refine va_get (D := D) (ci := 10) (v := .ref (a 3)) (C := RX10) (T := TX10) (N := 14) hx hb hts hi_X10 hown hS.1 hX.1 0 rfl rfl 1 (by decide) l_fieldLink_19 (fun _ h9 => h9) rfl dX10_digestOutlook_101 ?_
              refine va_getN (D := D) (ci := 8) (v := .ref (a 4)) (C := RX8) (T := TX8) (N := 5) hx hb hts hi_X8 hown hS.1 hX.1 3 rfl rfl 1 (by decide) (hS.2.1.get 6 rfl) (fun _ h9 => h9) rfl dX10_digestOutlook_104 ?_
              refine lv_iload hx hb dX10_digestOutlook_107 (lv_at hl 3 rfl) ?_
              refine va_iald hx hb hS.1 hX.1 4 1 rfl rfl (vp_in_iff.mpr (by omega)) dX10_digestOutlook_109 ?_
              refine lv_iconst (v := (-1 : Int32)) hx hb dX10_digestOutlook_110 (by decide) ?_
              refine lv_icmp_ne (tgt := 128) hx hb dX10_digestOutlook_111 (by decide) (fun c111 => ?_) (fun c111 => ?_)
              · have he := he.trans (if_neg c111)
                have d111 := i_ne c111
                refine lv_iinc (v := (x5_17 + (1 : Int32))) (lv' := [(5, .int (x5_17 + (1 : Int32))), (0, .ref (a 0)), (1, .long p1), (3, .long x3_16)]) hx hb dX10_digestOutlook_128 hl (k := 3) rfl rfl (by decide) rfl (fun ls hl => ?_)
                have s128 := i_s1 (x := x5_17) (by omega)
                refine lv_goto (tgt := 88) hx hb dX10_digestOutlook_131 (by decide) ?_
                exact ih_L88_10 isCharted_11 lcuts_12 valu_13 won_14 chance_15 x3_16 (x5_17 + (1 : Int32)) (by omega) (by omega) he _ _ _ hX (lv_sub hl [1, 2, 3, 0] rfl)
              · have he := he.trans (if_pos c111)
                have d111 := i_eq c111
                refine lv_ldc2 (v := (31 : Int64)) hx hb hown l_constantLong_236 dX10_digestOutlook_114 ?_
                refine lv_lload_n hx hb dX10_digestOutlook_117 rfl (lv_at hl 2 rfl) ?_
                refine lv_lmul hx hb dX10_digestOutlook_118 ?_
                refine lv_aload_n hx hb dX10_digestOutlook_119 rfl (lv_at hl 0 rfl) ?_
                refine lv_iload hx hb dX10_digestOutlook_120 (lv_at hl 3 rfl) ?_
                obtain ⟨z_18, e122⟩ : ∃ z, z = (f_X10_tree isCharted_11 number setCount standing onB abv sets kinds lcuts_12 valu_13 won_14 chance_15 x5_17) := ⟨_, rfl⟩
                rw [← e122] at he
                try dsimp only at he
                refine g_Vi (r := z_18.1) (w2 := (wG a cA z_18.2.1 isKept hedgesRead evensDone plen number setCount standing turn cuts ssize kstanding kturn kcuts kssize seed whiteWon cutsDone lett onB abv sets kinds sbranches sbeginners swon kkinds ksbranches ksbeginners kswon z_18.2.2.1 z_18.2.2.2.1 z_18.2.2.2.2.1 z_18.2.2.2.2.2)) (As := [.int x5_17]) (rest := [.long ((31 : Int64) * x3_16)]) (ci := 10) (q0 := 0) ⟨hx, hb, hml, hown, hts⟩ hS hX (k_X10_tree x5_17 (by omega) (by omega) (by assumption) (by omega) z_18 e122) (cwV 1 hts gX10_digestOutlook_X10_tree rfl rfl rfl (by decide +kernel) ⟨Nat.le_of_ble_eq_true rfl, Nat.le_of_ble_eq_true rfl⟩) rfl rfl rfl hl.1 rfl (Nat.le_of_ble_eq_true rfl) dX10_digestOutlook_122 ⟨Nat.zero_le _, Nat.zero_le _⟩ (fun H locs hX => ?_)
                refine lv_i2l hx hb dX10_digestOutlook_125 rfl ?_
                refine lv_ladd hx hb dX10_digestOutlook_126 ?_
                refine lv_lstore_n (lv' := [(3, .long (((31 : Int64) * x3_16) + ((z_18.1).toInt64))), (0, .ref (a 0)), (1, .long p1), (5, .int x5_17)]) hx hb dX10_digestOutlook_127 rfl hl (by decide) rfl (fun ls hl => ?_)
                refine lv_iinc (v := (x5_17 + (1 : Int32))) (lv' := [(5, .int (x5_17 + (1 : Int32))), (3, .long (((31 : Int64) * x3_16) + ((z_18.1).toInt64))), (0, .ref (a 0)), (1, .long p1)]) hx hb dX10_digestOutlook_128 hl (k := 3) rfl rfl (by decide) rfl (fun ls hl => ?_)
                have s128 := i_s1 (x := x5_17) (by omega)
                refine lv_goto (tgt := 88) hx hb dX10_digestOutlook_131 (by decide) ?_
                exact ih_L88_10 z_18.2.1 z_18.2.2.1 z_18.2.2.2.1 z_18.2.2.2.2.1 z_18.2.2.2.2.2 (((31 : Int64) * x3_16) + ((z_18.1).toInt64)) (x5_17 + (1 : Int32)) (by omega) (by omega) he _ _ _ hX (lv_sub hl [2, 3, 1, 0] rfl)
        exact L88_10 9 z_9.2.1 z_9.2.2.1 z_9.2.2.2.1 z_9.2.2.2.2.1 z_9.2.2.2.2.2 (((31 : Int64) * x3_7) + ((z_9.1).toInt64)) (0 : Int32) (by omega) (by omega) he _ _ _ hX (lv_sub hl [2, 3, 1, 0] rfl)
      · have he := he.trans (if_neg c8)
        have d8 := i_nle c8
        refine lv_ldc2 (v := (31 : Int64)) hx hb hown l_constantLong_236 dX10_digestOutlook_11 ?_
        refine lv_lload_n hx hb dX10_digestOutlook_14 rfl (lv_at hl 2 rfl) ?_
        refine lv_lmul hx hb dX10_digestOutlook_15 ?_
        refine lv_aload_n hx hb dX10_digestOutlook_16 rfl (lv_at hl 0 rfl) ?_
        refine lv_iload hx hb dX10_digestOutlook_17 (lv_at hl 3 rfl) ?_
        obtain ⟨z_19, e19⟩ : ∃ z, z = (f_X10_wins isCharted_2 number setCount standing abv sets kinds lcuts_3 valu_4 won_5 chance_6 x5_8) := ⟨_, rfl⟩
        rw [← e19] at he
        try dsimp only at he
        refine g_Vi (r := z_19.1) (w2 := (wG a cA z_19.2.1 isKept hedgesRead evensDone plen number setCount standing turn cuts ssize kstanding kturn kcuts kssize seed whiteWon cutsDone lett onB abv sets kinds sbranches sbeginners swon kkinds ksbranches ksbeginners kswon z_19.2.2.1 z_19.2.2.2.1 z_19.2.2.2.2.1 z_19.2.2.2.2.2)) (As := [.int x5_8]) (rest := [.long ((31 : Int64) * x3_7)]) (ci := 10) (q0 := 0) ⟨hx, hb, hml, hown, hts⟩ hS hX (k_X10_wins x5_8 (by omega) (by omega) (by assumption) (by omega) z_19 e19) (cwV 1 hts gX10_digestOutlook_X10_wins rfl rfl rfl (by decide +kernel) ⟨Nat.le_of_ble_eq_true rfl, Nat.le_of_ble_eq_true rfl⟩) rfl rfl rfl hl.1 rfl (Nat.le_of_ble_eq_true rfl) dX10_digestOutlook_19 ⟨Nat.zero_le _, Nat.zero_le _⟩ (fun H locs hX => ?_)
        refine lv_i2l hx hb dX10_digestOutlook_22 rfl ?_
        refine lv_ladd hx hb dX10_digestOutlook_23 ?_
        refine lv_lstore_n (lv' := [(3, .long (((31 : Int64) * x3_7) + ((z_19.1).toInt64))), (0, .ref (a 0)), (1, .long p1), (5, .int x5_8)]) hx hb dX10_digestOutlook_24 rfl hl (by decide) rfl (fun ls hl => ?_)
        refine lv_ldc2 (v := (31 : Int64)) hx hb hown l_constantLong_236 dX10_digestOutlook_25 ?_
        refine lv_lload_n hx hb dX10_digestOutlook_28 rfl (lv_at hl 0 rfl) ?_
        refine lv_lmul hx hb dX10_digestOutlook_29 ?_
        refine lv_aload_n hx hb dX10_digestOutlook_30 rfl (lv_at hl 1 rfl) ?_
        refine lv_iload hx hb dX10_digestOutlook_31 (lv_at hl 3 rfl) ?_
        obtain ⟨z_20, e33⟩ : ∃ z, z = (f_X10_best z_19.2.1 number setCount standing abv sets kinds z_19.2.2.1 z_19.2.2.2.1 z_19.2.2.2.2.1 z_19.2.2.2.2.2 x5_8) := ⟨_, rfl⟩
        rw [← e33] at he
        try dsimp only at he
        refine g_Vi (r := z_20.1) (w2 := (wG a cA z_20.2.1 isKept hedgesRead evensDone plen number setCount standing turn cuts ssize kstanding kturn kcuts kssize seed whiteWon cutsDone lett onB abv sets kinds sbranches sbeginners swon kkinds ksbranches ksbeginners kswon z_20.2.2.1 z_20.2.2.2.1 z_20.2.2.2.2.1 z_20.2.2.2.2.2)) (As := [.int x5_8]) (rest := [.long ((31 : Int64) * (((31 : Int64) * x3_7) + ((z_19.1).toInt64)))]) (ci := 10) (q0 := 0) ⟨hx, hb, hml, hown, hts⟩ hS hX (k_X10_best x5_8 (by omega) (by omega) (by assumption) (by omega) z_20 e33) (cwV 1 hts gX10_digestOutlook_X10_best rfl rfl rfl (by decide +kernel) ⟨Nat.le_of_ble_eq_true rfl, Nat.le_of_ble_eq_true rfl⟩) rfl rfl rfl hl.1 rfl (Nat.le_of_ble_eq_true rfl) dX10_digestOutlook_33 ⟨Nat.zero_le _, Nat.zero_le _⟩ (fun H locs hX => ?_)
        refine lv_i2l hx hb dX10_digestOutlook_36 rfl ?_
        refine lv_ladd hx hb dX10_digestOutlook_37 ?_
        refine lv_lstore_n (lv' := [(3, .long (((31 : Int64) * (((31 : Int64) * x3_7) + ((z_19.1).toInt64))) + ((z_20.1).toInt64))), (0, .ref (a 0)), (1, .long p1), (5, .int x5_8)]) hx hb dX10_digestOutlook_38 rfl hl (by decide) rfl (fun ls hl => ?_)
        refine lv_ldc2 (v := (31 : Int64)) hx hb hown l_constantLong_236 dX10_digestOutlook_39 ?_
        refine lv_lload_n hx hb dX10_digestOutlook_42 rfl (lv_at hl 0 rfl) ?_
        refine lv_lmul hx hb dX10_digestOutlook_43 ?_
        refine lv_aload_n hx hb dX10_digestOutlook_44 rfl (lv_at hl 1 rfl) ?_
        refine lv_iload hx hb dX10_digestOutlook_45 (lv_at hl 3 rfl) ?_
        obtain ⟨z_21, e47⟩ : ∃ z, z = (f_X10_lasts z_20.2.1 number setCount standing abv sets kinds z_20.2.2.1 z_20.2.2.2.1 z_20.2.2.2.2.1 z_20.2.2.2.2.2 x5_8) := ⟨_, rfl⟩
        rw [← e47] at he
        try dsimp only at he
        refine g_Vi (r := z_21.1) (w2 := (wG a cA z_21.2.1 isKept hedgesRead evensDone plen number setCount standing turn cuts ssize kstanding kturn kcuts kssize seed whiteWon cutsDone lett onB abv sets kinds sbranches sbeginners swon kkinds ksbranches ksbeginners kswon z_21.2.2.1 z_21.2.2.2.1 z_21.2.2.2.2.1 z_21.2.2.2.2.2)) (As := [.int x5_8]) (rest := [.long ((31 : Int64) * (((31 : Int64) * (((31 : Int64) * x3_7) + ((z_19.1).toInt64))) + ((z_20.1).toInt64)))]) (ci := 10) (q0 := 0) ⟨hx, hb, hml, hown, hts⟩ hS hX (k_X10_lasts x5_8 (by omega) (by omega) (by assumption) (by omega) z_21 e47) (cwV 1 hts gX10_digestOutlook_X10_lasts rfl rfl rfl (by decide +kernel) ⟨Nat.le_of_ble_eq_true rfl, Nat.le_of_ble_eq_true rfl⟩) rfl rfl rfl hl.1 rfl (Nat.le_of_ble_eq_true rfl) dX10_digestOutlook_47 ⟨Nat.zero_le _, Nat.zero_le _⟩ (fun H locs hX => ?_)
        refine lv_i2l hx hb dX10_digestOutlook_50 rfl ?_
        refine lv_ladd hx hb dX10_digestOutlook_51 ?_
        refine lv_lstore_n (lv' := [(3, .long (((31 : Int64) * (((31 : Int64) * (((31 : Int64) * x3_7) + ((z_19.1).toInt64))) + ((z_20.1).toInt64))) + ((z_21.1).toInt64))), (0, .ref (a 0)), (1, .long p1), (5, .int x5_8)]) hx hb dX10_digestOutlook_52 rfl hl (by decide) rfl (fun ls hl => ?_)
        refine lv_ldc2 (v := (31 : Int64)) hx hb hown l_constantLong_236 dX10_digestOutlook_53 ?_
        refine lv_lload_n hx hb dX10_digestOutlook_56 rfl (lv_at hl 0 rfl) ?_
        refine lv_lmul hx hb dX10_digestOutlook_57 ?_
        refine lv_aload_n hx hb dX10_digestOutlook_58 rfl (lv_at hl 1 rfl) ?_
        refine lv_iload hx hb dX10_digestOutlook_59 (lv_at hl 3 rfl) ?_
        obtain ⟨z_22, e61⟩ : ∃ z, z = (f_X10_likely z_21.2.1 number setCount standing abv sets kinds z_21.2.2.1 z_21.2.2.2.1 z_21.2.2.2.2.1 z_21.2.2.2.2.2 x5_8) := ⟨_, rfl⟩
        rw [← e61] at he
        try dsimp only at he
        refine g_Vi (r := z_22.1) (w2 := (wG a cA z_22.2.1 isKept hedgesRead evensDone plen number setCount standing turn cuts ssize kstanding kturn kcuts kssize seed whiteWon cutsDone lett onB abv sets kinds sbranches sbeginners swon kkinds ksbranches ksbeginners kswon z_22.2.2.1 z_22.2.2.2.1 z_22.2.2.2.2.1 z_22.2.2.2.2.2)) (As := [.int x5_8]) (rest := [.long ((31 : Int64) * (((31 : Int64) * (((31 : Int64) * (((31 : Int64) * x3_7) + ((z_19.1).toInt64))) + ((z_20.1).toInt64))) + ((z_21.1).toInt64)))]) (ci := 10) (q0 := 0) ⟨hx, hb, hml, hown, hts⟩ hS hX (k_X10_likely x5_8 (by omega) (by omega) (by assumption) (by omega) z_22 e61) (cwV 1 hts gX10_digestOutlook_X10_likely rfl rfl rfl (by decide +kernel) ⟨Nat.le_of_ble_eq_true rfl, Nat.le_of_ble_eq_true rfl⟩) rfl rfl rfl hl.1 rfl (Nat.le_of_ble_eq_true rfl) dX10_digestOutlook_61 ⟨Nat.zero_le _, Nat.zero_le _⟩ (fun H locs hX => ?_)
        refine lv_i2l hx hb dX10_digestOutlook_64 rfl ?_
        refine lv_ladd hx hb dX10_digestOutlook_65 ?_
        refine lv_lstore_n (lv' := [(3, .long (((31 : Int64) * (((31 : Int64) * (((31 : Int64) * (((31 : Int64) * x3_7) + ((z_19.1).toInt64))) + ((z_20.1).toInt64))) + ((z_21.1).toInt64))) + ((z_22.1).toInt64))), (0, .ref (a 0)), (1, .long p1), (5, .int x5_8)]) hx hb dX10_digestOutlook_66 rfl hl (by decide) rfl (fun ls hl => ?_)
        refine lv_iinc (v := (x5_8 + (1 : Int32))) (lv' := [(5, .int (x5_8 + (1 : Int32))), (3, .long (((31 : Int64) * (((31 : Int64) * (((31 : Int64) * (((31 : Int64) * x3_7) + ((z_19.1).toInt64))) + ((z_20.1).toInt64))) + ((z_21.1).toInt64))) + ((z_22.1).toInt64))), (0, .ref (a 0)), (1, .long p1)]) hx hb dX10_digestOutlook_67 hl (k := 3) rfl rfl (by decide) rfl (fun ls hl => ?_)
        have s67 := i_s1 (x := x5_8) (by omega)
        refine lv_goto (tgt := 5) hx hb dX10_digestOutlook_70 (by decide) ?_
        exact ih_L5_1 z_22.2.1 z_22.2.2.1 z_22.2.2.2.1 z_22.2.2.2.2.1 z_22.2.2.2.2.2 (((31 : Int64) * (((31 : Int64) * (((31 : Int64) * (((31 : Int64) * x3_7) + ((z_19.1).toInt64))) + ((z_20.1).toInt64))) + ((z_21.1).toInt64))) + ((z_22.1).toInt64)) (x5_8 + (1 : Int32)) (by omega) (by omega) he _ _ _ hX (lv_sub hl [2, 3, 1, 0] rfl)
  exact L5_1 3 isCharted lcuts valu won chance p1 (0 : Int32) (by omega) (by omega) he _ _ _ hX (lv_sub hl [2, 3, 1, 0] rfl)
