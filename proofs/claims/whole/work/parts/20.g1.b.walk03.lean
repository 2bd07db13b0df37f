abbrev rm_X8_readFrom : Room := { frames := 3, cells := 0, slots := 0, locals := 65 }
set_option maxHeartbeats 4000000 in
set_option maxRecDepth 100000 in
theorem k_X8_readFrom {l : Launch} {D : va_G} {E : sE} {a : Nat → Nat} {cA : Nat → ClassId} {isCharted : Int32} {isKept : Int32} {hedgesRead : Int32} {evensDone : Int32} {plen : Int32} {number : Int32} {setCount : Int32} {standing : Int32} {turn : Int32} {cuts : Int32} {ssize : Int32} {kstanding : Int32} {kturn : Int32} {kcuts : Int32} {kssize : Int32} {seed : Int32} {whiteWon : Int32} {cutsDone : Int32} {lett : Nat → Int32} {onB : Nat → Int32} {abv : Nat → Int32} {sets : Nat → Int32} {kinds : Nat → Int32} {sbranches : Nat → Int32} {sbeginners : Nat → Int32} {swon : Nat → Int32} {kkinds : Nat → Int32} {ksbranches : Nat → Int32} {ksbeginners : Nat → Int32} {kswon : Nat → Int32} {lcuts : Nat → Int32} {valu : Nat → Int32} {won : Nat → Int64} {chance : Nat → Int64}  (hlp : 0 ≤ (plen).toInt ∧ (plen).toInt ≤ 26) (hlc : ∀ k : Nat, 0 ≤ (lett k).toInt ∧ (lett k).toInt < 128) : ∀ q : Int32 × Int32 × (Nat → Int32) × (Nat → Int32) × (Nat → Int32), q = f_X8_readFrom plen number setCount lett onB abv sets → gMv l yX8_readFrom wsX8_readFrom rm_X8_readFrom D E (tG cA) [.ref (a 3), .ref (a 1)] (wG a cA isCharted isKept hedgesRead evensDone plen number setCount standing turn cuts ssize kstanding kturn kcuts kssize seed whiteWon cutsDone lett onB abv sets kinds sbranches sbeginners swon kkinds ksbranches ksbeginners kswon lcuts valu won chance) (wG a cA isCharted isKept hedgesRead evensDone plen q.1 q.2.1 standing turn cuts ssize kstanding kturn kcuts kssize seed whiteWon cutsDone lett q.2.2.1 q.2.2.2.1 q.2.2.2.2 kinds sbranches sbeginners swon kkinds ksbranches ksbeginners kswon lcuts valu won chance) := by
  intro q he0
  refine gM_of (cc := cX8_readFrom) (maxL := 4) (ret := none) (Qf := gQv D (wG a cA isCharted isKept hedgesRead evensDone plen q.1 q.2.1 standing turn cuts ssize kstanding kturn kcuts kssize seed whiteWon cutsDone lett q.2.2.1 q.2.2.2.1 q.2.2.2.2 kinds sbranches sbeginners swon kkinds ksbranches ksbeginners kswon lcuts valu won chance)) (by decide) rfl (Nat.le_of_ble_eq_true rfl) ?_
  intro p e s m args below meth c Z ls Qz hx hb hr hml hlocks hown hts hS hX hl hq
  have he := he0.trans f_X8_readFrom_s
  have hown : s.vm.findClass RX8 = some m.cls := hown
  have hl : lv_has ls 4 [(0, .ref (a 3)), (1, .ref (a 1))] := hl
  have hi_X8 : ∀ w ∈ u_ws RX8 TX8 5, w ∈ wsX8_readFrom := fun _ h => List.mem_cons_of_mem _ (List.mem_append_left _ (List.mem_append_right _ h))
  have l_fieldLink_15 := hts (Cond.fieldLink RX8 15 "HedgeGame$Shape" "on" "[I") (List.mem_of_getElem? (i := 6) rfl)
  have l_fieldLink_19 := hts (Cond.fieldLink RX8 19 "HedgeGame$Shape" "above" "[I") (List.mem_of_getElem? (i := 7) rfl)
  have l_fieldLink_9 := hts (Cond.fieldLink RX8 9 "HedgeGame$Shape" "number" "I") (List.mem_of_getElem? (i := 5) rfl)
  have l_w_1 := hts (Cond.methodLink RX8 34 Lib.Math.min.name) (List.mem_of_getElem? (i := 1) rfl)
  have l_w_2 := hts (Cond.static Lib.Math.min.name) (List.mem_of_getElem? (i := 2) rfl)
  have l_w_3 := hts (Cond.initialized "java/lang/Math") (List.mem_of_getElem? (i := 3) rfl)
  have l_w_4 := hts (Cond.code Lib.Math.min.name Lib.Math.min.code 2 (some .int)) (List.mem_of_getElem? (i := 4) rfl)
  have tm1 : ((-1 : Int32)).toInt = -1 := rfl
  have t0 : ((0 : Int32)).toInt = 0 := rfl
  have t1 : ((1 : Int32)).toInt = 1 := rfl
  have t8 : ((8 : Int32)).toInt = 8 := rfl
  refine lv_aload_n hx hb dX8_readFrom_0 rfl (lv_at hl 0 rfl) ?_
  refine lv_aload_n hx hb dX8_readFrom_1 rfl (lv_at hl 1 rfl) ?_
  obtain ⟨r_1, e2⟩ : ∃ z, z = (f_X5_branches plen) := ⟨_, rfl⟩
  rw [← e2] at he
  refine g_Vi (r := r_1) (As := []) (rest := [.ref (a 3)]) (ci := 5) (q0 := 1) ⟨hx, hb, hml, hown, hts⟩ hS hX (k_X5_branches (by omega) r_1 e2) (cwV 0 hts gX8_readFrom_X5_branches rfl rfl rfl (by decide +kernel) ⟨Nat.le_of_ble_eq_true rfl, Nat.le_of_ble_eq_true rfl⟩) rfl rfl rfl hl.1 rfl (Nat.le_of_ble_eq_true rfl) dX8_readFrom_2 ⟨Nat.zero_le _, Nat.zero_le _⟩ (fun H locs hX => ?_)
  have k2_0 : 0 ≤ (plen).toInt ∧ (plen).toInt ≤ 26 → 0 ≤ (r_1).toInt ∧ (r_1).toInt ≤ 9 := by rw [e2]; exact r_pbranches
  refine lv_bipush (v := (8 : Int32)) hx hb dX8_readFrom_5 (by decide) ?_
  refine va_mmin hx hb (hml.trans hl.1.symm) hown l_w_1 l_w_2 l_w_3 l_w_4 (Nat.le_of_ble_eq_true rfl) (Nat.le_of_ble_eq_true rfl) (Nat.zero_le _) (Nat.zero_le _) dX8_readFrom_7 ?_
  have g10 : 0 ≤ ((if (8 : Int32) < r_1 then (8 : Int32) else r_1)).toInt ∧ ((if (8 : Int32) < r_1 then (8 : Int32) else r_1)).toInt ≤ 8 := i_min8 (by omega)
  refine va_put (D := D) (ci := 8) (v := .int (if (8 : Int32) < r_1 then (8 : Int32) else r_1)) (ty := .int) (C := RX8) (T := TX8) (N := 5) hx hb hts hi_X8 tyX8 tyX8_ok nmX8 hown hS.1 hX.1 hX.2.1 hX.2.2 3 rfl rfl 0 (by decide) l_fieldLink_9 (fun _ h9 => h9) rfl (by decide +kernel) rfl rfl (Nat.le_of_ble_eq_true rfl) dX8_readFrom_10 (fun H locs hP hD hs => ?_)
  have hX : gX D Z s (wG a cA isCharted isKept hedgesRead evensDone plen (if (8 : Int32) < r_1 then (8 : Int32) else r_1) setCount standing turn cuts ssize kstanding kturn kcuts kssize seed whiteWon cutsDone lett onB abv sets kinds sbranches sbeginners swon kkinds ksbranches ksbeginners kswon lcuts valu won chance) H locs := ⟨hP, hD, hs⟩
  refine lv_iconst (v := (0 : Int32)) hx hb dX8_readFrom_13 (by decide) ?_
  refine lv_istore_n (lv' := [(2, .int (0 : Int32)), (0, .ref (a 3)), (1, .ref (a 1))]) hx hb dX8_readFrom_14 rfl hl (by decide) rfl (fun ls hl => ?_)
  have L15_2 : ∀ (n_15_2 : Nat) (onB_3 : Nat → Int32) (abv_4 : Nat → Int32) (x2_5 : Int32), 0 ≤ (x2_5).toInt ∧ (x2_5).toInt ≤ 8 → 8 - (x2_5).toInt < (n_15_2 : Int) → q = f_X8_readFrom_L15 n_15_2 plen (if (8 : Int32) < r_1 then (8 : Int32) else r_1) setCount lett onB_3 abv_4 sets x2_5 → ∀ (H : Heap) (locs : List Loc) (ls : Array Slot), gX D Z s (wG a cA isCharted isKept hedgesRead evensDone plen (if (8 : Int32) < r_1 then (8 : Int32) else r_1) setCount standing turn cuts ssize kstanding kturn kcuts kssize seed whiteWon cutsDone lett onB_3 abv_4 sets kinds sbranches sbeginners swon kkinds ksbranches ksbeginners kswon lcuts valu won chance) H locs → lv_has ls 4 [(0, .ref (a 3)), (1, .ref (a 1)), (2, .int x2_5)] → W p l e rm_X8_readFrom s m args below meth c H locs 0 0 Qz (F0 m 15 ls []) := by
    intro n_15_2
    induction n_15_2 with
    | zero =>
      intro onB_3 abv_4 x2_5 ia ifu _ _ _ _ _ _
      exfalso; omega
    | succ n_15_2 ih_L15_2 =>
      intro onB_3 abv_4 x2_5 ia ifu he H locs ls hX hl
      have he := he.trans f_X8_readFrom_L15_s
      refine lv_iload_n hx hb dX8_readFrom_15 rfl (lv_at hl 2 rfl) ?_
      refine lv_aload_n hx hb dX8_readFrom_16 rfl (lv_at hl 0 rfl) ?_
      refine va_get (D := D) (ci := 8) (v := .int (if (8 : Int32) < r_1 then (8 : Int32) else r_1)) (C := RX8) (T := TX8) (N := 5) hx hb hts hi_X8 hown hS.1 hX.1 3 rfl rfl 0 (by decide) l_fieldLink_9 (fun _ h9 => h9) rfl dX8_readFrom_17 ?_
      refine lv_icmp_ge (tgt := 47) hx hb dX8_readFrom_20 (by decide) (fun c20 => ?_) (fun c20 => ?_)
      · have he := he.trans (if_pos c20)
        have d20 := i_le c20
        refine lv_aload_n hx hb dX8_readFrom_47 rfl (lv_at hl 0 rfl) ?_
        refine va_get (D := D) (ci := 8) (v := .int (if (8 : Int32) < r_1 then (8 : Int32) else r_1)) (C := RX8) (T := TX8) (N := 5) hx hb hts hi_X8 hown hS.1 hX.1 3 rfl rfl 0 (by decide) l_fieldLink_9 (fun _ h9 => h9) rfl dX8_readFrom_48 ?_
        refine lv_iconst (v := (1 : Int32)) hx hb dX8_readFrom_51 (by decide) ?_
        refine lv_isub hx hb dX8_readFrom_52 ?_
        have g53 := i_sub (x := (if (8 : Int32) < r_1 then (8 : Int32) else r_1)) (y := (1 : Int32)) (by omega) (by omega)
        refine lv_istore_n (lv' := [(2, .int ((if (8 : Int32) < r_1 then (8 : Int32) else r_1) - (1 : Int32))), (0, .ref (a 3)), (1, .ref (a 1))]) hx hb dX8_readFrom_53 rfl hl (by decide) rfl (fun ls hl => ?_)
        have L54_6 : ∀ (n_54_6 : Nat) (abv_7 : Nat → Int32) (x2_8 : Int32), -1 ≤ (x2_8).toInt ∧ (x2_8).toInt < 8 → (x2_8).toInt < (n_54_6 : Int) ∧ 1 ≤ n_54_6 → q = f_X8_readFrom_L54 n_54_6 plen (if (8 : Int32) < r_1 then (8 : Int32) else r_1) setCount lett onB_3 abv_7 sets x2_8 → ∀ (H : Heap) (locs : List Loc) (ls : Array Slot), gX D Z s (wG a cA isCharted isKept hedgesRead evensDone plen (if (8 : Int32) < r_1 then (8 : Int32) else r_1) setCount standing turn cuts ssize kstanding kturn kcuts kssize seed whiteWon cutsDone lett onB_3 abv_7 sets kinds sbranches sbeginners swon kkinds ksbranches ksbeginners kswon lcuts valu won chance) H locs → lv_has ls 4 [(0, .ref (a 3)), (1, .ref (a 1)), (2, .int x2_8)] → W p l e rm_X8_readFrom s m args below meth c H locs 0 0 Qz (F0 m 54 ls []) := by
          intro n_54_6
          induction n_54_6 with
          | zero =>
            intro abv_7 x2_8 ja jfu _ _ _ _ _ _
            exfalso; omega
          | succ n_54_6 ih_L54_6 =>
            intro abv_7 x2_8 ja jfu he H locs ls hX hl
            have he := he.trans f_X8_readFrom_L54_s
            refine lv_iload_n hx hb dX8_readFrom_54 rfl (lv_at hl 2 rfl) ?_
            refine lv_if_le (tgt := 94) hx hb dX8_readFrom_55 (by decide) (fun c55 => ?_) (fun c55 => ?_)
            · have he := he.trans (if_pos c55)
              have d55 := i_le c55
              refine lv_aload_n hx hb dX8_readFrom_94 rfl (lv_at hl 0 rfl) ?_
              obtain ⟨z_9, e95⟩ : ∃ z, z = (f_X8_findSets (if (8 : Int32) < r_1 then (8 : Int32) else r_1) setCount onB_3 sets) := ⟨_, rfl⟩
              rw [← e95] at he
              try dsimp only at he
              refine g_Vv (w2 := (wG a cA isCharted isKept hedgesRead evensDone plen (if (8 : Int32) < r_1 then (8 : Int32) else r_1) z_9.1 standing turn cuts ssize kstanding kturn kcuts kssize seed whiteWon cutsDone lett onB_3 abv_7 z_9.2 kinds sbranches sbeginners swon kkinds ksbranches ksbeginners kswon lcuts valu won chance)) (As := []) (rest := []) (ci := 8) (q0 := 3) ⟨hx, hb, hml, hown, hts⟩ hS hX (k_X8_findSets (by omega) z_9 e95) (cwV 0 hts gX8_readFrom_X8_findSets rfl rfl rfl (by decide +kernel) ⟨Nat.le_of_ble_eq_true rfl, Nat.le_of_ble_eq_true rfl⟩) rfl rfl rfl hl.1 rfl (Nat.le_of_ble_eq_true rfl) dX8_readFrom_95 ⟨Nat.zero_le _, Nat.zero_le _⟩ (fun H locs hX => ?_)
              subst he
              exact g_vret hx hb hr hlocks hX hq dX8_readFrom_98
            · have he := he.trans (if_neg c55)
              have d55 := i_nle c55
              refine lv_aload_n hx hb dX8_readFrom_58 rfl (lv_at hl 0 rfl) ?_
              refine va_get (D := D) (ci := 8) (v := .ref (a 4)) (C := RX8) (T := TX8) (N := 5) hx hb hts hi_X8 hown hS.1 hX.1 3 rfl rfl 1 (by decide) l_fieldLink_15 (fun _ h9 => h9) rfl dX8_readFrom_59 ?_
              refine lv_iload_n hx hb dX8_readFrom_62 rfl (lv_at hl 2 rfl) ?_
              refine va_iald hx hb hS.1 hX.1 4 1 rfl rfl (vp_in_iff.mpr (by omega)) dX8_readFrom_63 ?_
              refine lv_istore_n (lv' := [(3, .int (onB_3 (x2_8).toNatClampNeg)), (0, .ref (a 3)), (1, .ref (a 1)), (2, .int x2_8)]) hx hb dX8_readFrom_64 rfl hl (by decide) rfl (fun ls hl => ?_)
              refine lv_iload_n hx hb dX8_readFrom_65 rfl (lv_at hl 0 rfl) ?_
              refine lv_if_lt (tgt := 88) hx hb dX8_readFrom_66 (by decide) (fun c66 => ?_) (fun c66 => ?_)
              · have he := he.trans (if_pos c66)
                have d66 := i_lt c66
                refine lv_iinc (v := (x2_8 + (-1 : Int32))) (lv' := [(2, .int (x2_8 + (-1 : Int32))), (3, .int (onB_3 (x2_8).toNatClampNeg)), (0, .ref (a 3)), (1, .ref (a 1))]) hx hb dX8_readFrom_88 hl (k := 3) rfl rfl (by decide) rfl (fun ls hl => ?_)
                refine lv_goto (tgt := 54) hx hb dX8_readFrom_91 (by decide) ?_
                exact ih_L54_6 abv_7 (x2_8 + (-1 : Int32)) (i_decA ja d55) (i_decB ja d55 jfu) he _ _ _ hX (lv_sub hl [2, 3, 0] rfl)
              · have he := he.trans (if_neg c66)
                have d66 := i_nlt c66
                refine lv_iload_n hx hb dX8_readFrom_69 rfl (lv_at hl 0 rfl) ?_
                refine lv_iload_n hx hb dX8_readFrom_70 rfl (lv_at hl 3 rfl) ?_
                refine lv_icmp_ge (tgt := 88) hx hb dX8_readFrom_71 (by decide) (fun c71 => ?_) (fun c71 => ?_)
                · have he := he.trans (if_pos c71)
                  have d71 := i_le c71
                  refine lv_iinc (v := (x2_8 + (-1 : Int32))) (lv' := [(2, .int (x2_8 + (-1 : Int32))), (3, .int (onB_3 (x2_8).toNatClampNeg)), (0, .ref (a 3)), (1, .ref (a 1))]) hx hb dX8_readFrom_88 hl (k := 3) rfl rfl (by decide) rfl (fun ls hl => ?_)
                  refine lv_goto (tgt := 54) hx hb dX8_readFrom_91 (by decide) ?_
                  exact ih_L54_6 abv_7 (x2_8 + (-1 : Int32)) (i_decA ja d55) (i_decB ja d55 jfu) he _ _ _ hX (lv_sub hl [2, 3, 0] rfl)
                · have he := he.trans (if_neg c71)
                  have d71 := i_nle c71
                  refine lv_aload_n hx hb dX8_readFrom_74 rfl (lv_at hl 1 rfl) ?_
                  refine va_get (D := D) (ci := 8) (v := .ref (a 5)) (C := RX8) (T := TX8) (N := 5) hx hb hts hi_X8 hown hS.1 hX.1 3 rfl rfl 2 (by decide) l_fieldLink_19 (fun _ h9 => h9) rfl dX8_readFrom_75 ?_
                  refine lv_iload_n hx hb dX8_readFrom_78 rfl (lv_at hl 0 rfl) ?_
                  refine lv_dup2_11 hx hb dX8_readFrom_79 rfl rfl ?_
                  refine va_iald hx hb hS.1 hX.1 5 2 rfl rfl (vp_in_iff.mpr (by omega)) dX8_readFrom_80 ?_
                  refine lv_aload_n hx hb dX8_readFrom_81 rfl (lv_at hl 1 rfl) ?_
                  refine lv_iload_n hx hb dX8_readFrom_82 rfl (lv_at hl 3 rfl) ?_
                  obtain ⟨r_10, e83⟩ : ∃ z, z = (f_X8_withAllOn abv_7 x2_8) := ⟨_, rfl⟩
                  rw [← e83] at he
                  refine g_Vi (r := r_10) (As := [.int x2_8]) (rest := [.int (abv_7 ((onB_3 (x2_8).toNatClampNeg)).toNatClampNeg), .int (onB_3 (x2_8).toNatClampNeg), .ref (a 5)]) (ci := 8) (q0 := 3) ⟨hx, hb, hml, hown, hts⟩ hS hX (k_X8_withAllOn x2_8 (by omega) r_10 e83) (cwV 1 hts gX8_readFrom_X8_withAllOn rfl rfl rfl (by decide +kernel) ⟨Nat.le_of_ble_eq_true rfl, Nat.le_of_ble_eq_true rfl⟩) rfl rfl rfl hl.1 rfl (Nat.le_of_ble_eq_true rfl) dX8_readFrom_83 ⟨Nat.zero_le _, Nat.zero_le _⟩ (fun H locs hX => ?_)
                  refine lv_ior hx hb dX8_readFrom_86 ?_
                  refine va_iast hx hb hS.1 hX.1 hX.2.1 hX.2.2 5 2 rfl rfl (vp_in_iff.mpr (by omega)) dX8_readFrom_87 (fun H locs hP hD hs => ?_)
                  have hX : gX D Z s (wG a cA isCharted isKept hedgesRead evensDone plen (if (8 : Int32) < r_1 then (8 : Int32) else r_1) setCount standing turn cuts ssize kstanding kturn kcuts kssize seed whiteWon cutsDone lett onB_3 (upd abv_7 ((onB_3 (x2_8).toNatClampNeg)).toNatClampNeg ((abv_7 ((onB_3 (x2_8).toNatClampNeg)).toNatClampNeg) ||| r_10)) sets kinds sbranches sbeginners swon kkinds ksbranches ksbeginners kswon lcuts valu won chance) H locs := ⟨hP, hD, hs⟩
                  refine lv_iinc (v := (x2_8 + (-1 : Int32))) (lv' := [(2, .int (x2_8 + (-1 : Int32))), (3, .int (onB_3 (x2_8).toNatClampNeg)), (0, .ref (a 3)), (1, .ref (a 1))]) hx hb dX8_readFrom_88 hl (k := 3) rfl rfl (by decide) rfl (fun ls hl => ?_)
                  refine lv_goto (tgt := 54) hx hb dX8_readFrom_91 (by decide) ?_
                  exact ih_L54_6 (upd abv_7 ((onB_3 (x2_8).toNatClampNeg)).toNatClampNeg ((abv_7 ((onB_3 (x2_8).toNatClampNeg)).toNatClampNeg) ||| r_10)) (x2_8 + (-1 : Int32)) (i_decA ja d55) (i_decB ja d55 jfu) he _ _ _ hX (lv_sub hl [2, 3, 0] rfl)
        exact L54_6 9 abv_4 ((if (8 : Int32) < r_1 then (8 : Int32) else r_1) - (1 : Int32)) (by omega) (by omega) he _ _ _ hX (lv_sub hl [1, 2, 0] rfl)
      · have he := he.trans (if_neg c20)
        have d20 := i_nle c20
        refine lv_aload_n hx hb dX8_readFrom_23 rfl (lv_at hl 0 rfl) ?_
        refine va_get (D := D) (ci := 8) (v := .ref (a 4)) (C := RX8) (T := TX8) (N := 5) hx hb hts hi_X8 hown hS.1 hX.1 3 rfl rfl 1 (by decide) l_fieldLink_15 (fun _ h9 => h9) rfl dX8_readFrom_24 ?_
        refine lv_iload_n hx hb dX8_readFrom_27 rfl (lv_at hl 2 rfl) ?_
        refine lv_aload_n hx hb dX8_readFrom_28 rfl (lv_at hl 1 rfl) ?_
        refine lv_iload_n hx hb dX8_readFrom_29 rfl (lv_at hl 2 rfl) ?_
        obtain ⟨r_11, e30⟩ : ∃ z, z = (f_X5_groundAt plen lett x2_5) := ⟨_, rfl⟩
        rw [← e30] at he
        refine g_Vi (r := r_11) (As := [.int x2_5]) (rest := [.int x2_5, .ref (a 4)]) (ci := 5) (q0 := 1) ⟨hx, hb, hml, hown, hts⟩ hS hX (k_X5_groundAt x2_5 (by omega) (by assumption) r_11 e30) (cwV 1 hts gX8_readFrom_X5_groundAt rfl rfl rfl (by decide +kernel) ⟨Nat.le_of_ble_eq_true rfl, Nat.le_of_ble_eq_true rfl⟩) rfl rfl rfl hl.1 rfl (Nat.le_of_ble_eq_true rfl) dX8_readFrom_30 ⟨Nat.zero_le _, Nat.zero_le _⟩ (fun H locs hX => ?_)
        refine va_iast hx hb hS.1 hX.1 hX.2.1 hX.2.2 4 1 rfl rfl (vp_in_iff.mpr (by omega)) dX8_readFrom_33 (fun H locs hP hD hs => ?_)
        have hX : gX D Z s (wG a cA isCharted isKept hedgesRead evensDone plen (if (8 : Int32) < r_1 then (8 : Int32) else r_1) setCount standing turn cuts ssize kstanding kturn kcuts kssize seed whiteWon cutsDone lett (upd onB_3 (x2_5).toNatClampNeg r_11) abv_4 sets kinds sbranches sbeginners swon kkinds ksbranches ksbeginners kswon lcuts valu won chance) H locs := ⟨hP, hD, hs⟩
        refine lv_aload_n hx hb dX8_readFrom_34 rfl (lv_at hl 0 rfl) ?_
        refine va_get (D := D) (ci := 8) (v := .ref (a 5)) (C := RX8) (T := TX8) (N := 5) hx hb hts hi_X8 hown hS.1 hX.1 3 rfl rfl 2 (by decide) l_fieldLink_19 (fun _ h9 => h9) rfl dX8_readFrom_35 ?_
        refine lv_iload_n hx hb dX8_readFrom_38 rfl (lv_at hl 2 rfl) ?_
        refine lv_iconst (v := (0 : Int32)) hx hb dX8_readFrom_39 (by decide) ?_
        refine va_iast hx hb hS.1 hX.1 hX.2.1 hX.2.2 5 2 rfl rfl (vp_in_iff.mpr (by omega)) dX8_readFrom_40 (fun H locs hP hD hs => ?_)
        have hX : gX D Z s (wG a cA isCharted isKept hedgesRead evensDone plen (if (8 : Int32) < r_1 then (8 : Int32) else r_1) setCount standing turn cuts ssize kstanding kturn kcuts kssize seed whiteWon cutsDone lett (upd onB_3 (x2_5).toNatClampNeg r_11) (upd abv_4 (x2_5).toNatClampNeg (0 : Int32)) sets kinds sbranches sbeginners swon kkinds ksbranches ksbeginners kswon lcuts valu won chance) H locs := ⟨hP, hD, hs⟩
        refine lv_iinc (v := (x2_5 + (1 : Int32))) (lv' := [(2, .int (x2_5 + (1 : Int32))), (0, .ref (a 3)), (1, .ref (a 1))]) hx hb dX8_readFrom_41 hl (k := 2) rfl rfl (by decide) rfl (fun ls hl => ?_)
        have s41 := i_s1 (x := x2_5) (by omega)
        refine lv_goto (tgt := 15) hx hb dX8_readFrom_44 (by decide) ?_
        exact ih_L15_2 (upd onB_3 (x2_5).toNatClampNeg r_11) (upd abv_4 (x2_5).toNatClampNeg (0 : Int32)) (x2_5 + (1 : Int32)) (by omega) (by omega) he _ _ _ hX (lv_sub hl [1, 2, 0] rfl)
  exact L15_2 9 onB abv (0 : Int32) (by omega) (by omega) he _ _ _ hX (lv_sub hl [1, 2, 0] rfl)
abbrev rm_X6_kindsCutBy : Room := { frames := 0, cells := 0, slots := 0, locals := 0 }
set_option maxHeartbeats 4000000 in
set_option maxRecDepth 100000 in
theorem k_X6_kindsCutBy {l : Launch} {D : va_G} {E : sE} {a : Nat → Nat} {cA : Nat → ClassId} {isCharted : Int32} {isKept : Int32} {hedgesRead : Int32} {evensDone : Int32} {plen : Int32} {number : Int32} {setCount : Int32} {standing : Int32} {turn : Int32} {cuts : Int32} {ssize : Int32} {kstanding : Int32} {kturn : Int32} {kcuts : Int32} {kssize : Int32} {seed : Int32} {whiteWon : Int32} {cutsDone : Int32} {lett : Nat → Int32} {onB : Nat → Int32} {abv : Nat → Int32} {sets : Nat → Int32} {kinds : Nat → Int32} {sbranches : Nat → Int32} {sbeginners : Nat → Int32} {swon : Nat → Int32} {kkinds : Nat → Int32} {ksbranches : Nat → Int32} {ksbeginners : Nat → Int32} {kswon : Nat → Int32} {lcuts : Nat → Int32} {valu : Nat → Int32} {won : Nat → Int64} {chance : Nat → Int64} (p1 : Int32) (p2 : Int32) (p3 : Int32) (hbx : 0 ≤ (p2).toInt ∧ (p2).toInt < 8) : ∀ q : Int32, q = f_X6_kindsCutBy abv p1 p2 p3 → gMi l yX6_kindsCutBy wsX6_kindsCutBy rm_X6_kindsCutBy D E (tG cA) [.ref (a 19), .int p1, .int p2, .int p3] (wG a cA isCharted isKept hedgesRead evensDone plen number setCount standing turn cuts ssize kstanding kturn kcuts kssize seed whiteWon cutsDone lett onB abv sets kinds sbranches sbeginners swon kkinds ksbranches ksbeginners kswon lcuts valu won chance) (wG a cA isCharted isKept hedgesRead evensDone plen number setCount standing turn cuts ssize kstanding kturn kcuts kssize seed whiteWon cutsDone lett onB abv sets kinds sbranches sbeginners swon kkinds ksbranches ksbeginners kswon lcuts valu won chance) q := by
  intro q he0
  refine gM_of (cc := cX6_kindsCutBy) (maxL := 5) (ret := (some .int)) (Qf := gQi D (wG a cA isCharted isKept hedgesRead evensDone plen number setCount standing turn cuts ssize kstanding kturn kcuts kssize seed whiteWon cutsDone lett onB abv sets kinds sbranches sbeginners swon kkinds ksbranches ksbeginners kswon lcuts valu won chance) q) (by decide) rfl (Nat.le_of_ble_eq_true rfl) ?_
  intro p e s m args below meth c Z ls Qz hx hb hr hml hlocks hown hts hS hX hl hq
  have he := he0.trans f_X6_kindsCutBy_s
  have hown : s.vm.findClass RX6 = some m.cls := hown
  have hl : lv_has ls 5 [(0, .ref (a 19)), (1, .int p1), (2, .int p2), (3, .int p3)] := hl
  have hi_X6 : ∀ w ∈ u_ws RX6 TX6 2, w ∈ wsX6_kindsCutBy := fun _ h => List.mem_cons_of_mem _ (List.mem_append_left _ (List.mem_append_right _ h))
  have hi_X8 : ∀ w ∈ u_ws RX8 TX8 5, w ∈ wsX6_kindsCutBy := fun _ h => List.mem_cons_of_mem _ (List.mem_append_right _ h)
  have l_fieldLink_9 := hts (Cond.fieldLink RX6 9 "HedgeGame$Rules" "shape" "LHedgeGame$Shape;") (List.mem_of_getElem? (i := 1) rfl)
  have t0 : ((0 : Int32)).toInt = 0 := rfl
  have t1 : ((1 : Int32)).toInt = 1 := rfl
  have t3 : ((3 : Int32)).toInt = 3 := rfl
  have t5 : ((5 : Int32)).toInt = 5 := rfl
  have t19 : ((19 : Int32)).toInt = 19 := rfl
  refine lv_iload_n hx hb dX6_kindsCutBy_0 rfl (lv_at hl 1 rfl) ?_
  refine lv_iconst (v := (1 : Int32)) hx hb dX6_kindsCutBy_1 (by decide) ?_
  refine lv_icmp_ne (tgt := 7) hx hb dX6_kindsCutBy_2 (by decide) (fun c2 => ?_) (fun c2 => ?_)
  · have he := he.trans (if_neg c2)
    have d2 := i_ne c2
    refine lv_iload_n hx hb dX6_kindsCutBy_7 rfl (lv_at hl 3 rfl) ?_
    refine lv_aload_n hx hb dX6_kindsCutBy_8 rfl (lv_at hl 0 rfl) ?_
    refine va_get (D := D) (ci := 6) (v := .ref (a 3)) (C := RX6) (T := TX6) (N := 2) hx hb hts hi_X6 hown hS.1 hX.1 19 rfl rfl 0 (by decide) l_fieldLink_9 (fun _ h9 => h9) rfl dX6_kindsCutBy_9 ?_
    refine va_getN (D := D) (ci := 8) (v := .ref (a 5)) (C := RX8) (T := TX8) (N := 5) hx hb hts hi_X8 hown hS.1 hX.1 3 rfl rfl 2 (by decide) (hS.2.1.get 7 rfl) (fun _ h9 => h9) rfl dX6_kindsCutBy_12 ?_
    refine lv_iload_n hx hb dX6_kindsCutBy_15 rfl (lv_at hl 2 rfl) ?_
    refine va_iald hx hb hS.1 hX.1 5 2 rfl rfl (vp_in_iff.mpr (by omega)) dX6_kindsCutBy_16 ?_
    refine lv_iand hx hb dX6_kindsCutBy_17 ?_
    refine lv_if_ne (tgt := 25) hx hb dX6_kindsCutBy_18 (by decide) (fun c18 => ?_) (fun c18 => ?_)
    · have he := he.trans (if_neg c18)
      have d18 := i_ne c18
      refine lv_iconst (v := (0 : Int32)) hx hb dX6_kindsCutBy_25 (by decide) ?_
      refine lv_istore (lv' := [(4, .int (0 : Int32)), (0, .ref (a 19)), (1, .int p1), (2, .int p2), (3, .int p3)]) hx hb dX6_kindsCutBy_26 hl (by decide) rfl (fun ls hl => ?_)
      refine lv_iload hx hb dX6_kindsCutBy_28 (lv_at hl 0 rfl) ?_
      refine lv_if_eq (tgt := 38) hx hb dX6_kindsCutBy_30 (by decide) (fun c30 => ?_) (fun c30 => ?_)
      · have he := he.trans (if_pos c30)
        have d30 := i_eq c30
        refine lv_iconst (v := (3 : Int32)) hx hb dX6_kindsCutBy_38 (by decide) ?_
        subst he
        exact g_iret hx hb hr hlocks hX hq rfl dX6_kindsCutBy_39
      · have he := he.trans (if_neg c30)
        have d30 := i_ne c30
        refine lv_bipush (v := (19 : Int32)) hx hb dX6_kindsCutBy_33 (by decide) ?_
        refine lv_goto (tgt := 39) hx hb dX6_kindsCutBy_35 (by decide) ?_
        subst he
        exact g_iret hx hb hr hlocks hX hq rfl dX6_kindsCutBy_39
    · have he := he.trans (if_pos c18)
      have d18 := i_eq c18
      refine lv_iconst (v := (1 : Int32)) hx hb dX6_kindsCutBy_21 (by decide) ?_
      refine lv_goto (tgt := 26) hx hb dX6_kindsCutBy_22 (by decide) ?_
      refine lv_istore (lv' := [(4, .int (1 : Int32)), (0, .ref (a 19)), (1, .int p1), (2, .int p2), (3, .int p3)]) hx hb dX6_kindsCutBy_26 hl (by decide) rfl (fun ls hl => ?_)
      refine lv_iload hx hb dX6_kindsCutBy_28 (lv_at hl 0 rfl) ?_
      refine lv_if_eq (tgt := 38) hx hb dX6_kindsCutBy_30 (by decide) (fun c30 => ?_) (fun c30 => ?_)
      · have he := he.trans (if_pos c30)
        have d30 := i_eq c30
        refine lv_iconst (v := (3 : Int32)) hx hb dX6_kindsCutBy_38 (by decide) ?_
        subst he
        exact g_iret hx hb hr hlocks hX hq rfl dX6_kindsCutBy_39
      · have he := he.trans (if_neg c30)
        have d30 := i_ne c30
        refine lv_bipush (v := (19 : Int32)) hx hb dX6_kindsCutBy_33 (by decide) ?_
        refine lv_goto (tgt := 39) hx hb dX6_kindsCutBy_35 (by decide) ?_
        subst he
        exact g_iret hx hb hr hlocks hX hq rfl dX6_kindsCutBy_39
  · have he := he.trans (if_pos c2)
    have d2 := i_eq c2
    refine lv_iconst (v := (5 : Int32)) hx hb dX6_kindsCutBy_5 (by decide) ?_
    subst he
    exact g_iret hx hb hr hlocks hX hq rfl dX6_kindsCutBy_6
abbrev rm_X6_choices : Room := { frames := 1, cells := 0, slots := 0, locals := 24 }
set_option maxHeartbeats 4000000 in
set_option maxRecDepth 100000 in
theorem k_X6_choices {l : Launch} {D : va_G} {E : sE} {a : Nat → Nat} {cA : Nat → ClassId} {isCharted : Int32} {isKept : Int32} {hedgesRead : Int32} {evensDone : Int32} {plen : Int32} {number : Int32} {setCount : Int32} {standing : Int32} {turn : Int32} {cuts : Int32} {ssize : Int32} {kstanding : Int32} {kturn : Int32} {kcuts : Int32} {kssize : Int32} {seed : Int32} {whiteWon : Int32} {cutsDone : Int32} {lett : Nat → Int32} {onB : Nat → Int32} {abv : Nat → Int32} {sets : Nat → Int32} {kinds : Nat → Int32} {sbranches : Nat → Int32} {sbeginners : Nat → Int32} {swon : Nat → Int32} {kkinds : Nat → Int32} {ksbranches : Nat → Int32} {ksbeginners : Nat → Int32} {kswon : Nat → Int32} {lcuts : Nat → Int32} {valu : Nat → Int32} {won : Nat → Int64} {chance : Nat → Int64} (p1 : Int32) (p2 : Int32) (hnm : 0 ≤ (number).toInt ∧ (number).toInt ≤ 8) : ∀ q : Int32, q = f_X6_choices number abv kinds p1 p2 → gMi l yX6_choices wsX6_choices rm_X6_choices D E (tG cA) [.ref (a 19), .int p1, .int p2] (wG a cA isCharted isKept hedgesRead evensDone plen number setCount standing turn cuts ssize kstanding kturn kcuts kssize seed whiteWon cutsDone lett onB abv sets kinds sbranches sbeginners swon kkinds ksbranches ksbeginners kswon lcuts valu won chance) (wG a cA isCharted isKept hedgesRead evensDone plen number setCount standing turn cuts ssize kstanding kturn kcuts kssize seed whiteWon cutsDone lett onB abv sets kinds sbranches sbeginners swon kkinds ksbranches ksbeginners kswon lcuts valu won chance) q := by
  intro q he0
  refine gM_of (cc := cX6_choices) (maxL := 5) (ret := (some .int)) (Qf := gQi D (wG a cA isCharted isKept hedgesRead evensDone plen number setCount standing turn cuts ssize kstanding kturn kcuts kssize seed whiteWon cutsDone lett onB abv sets kinds sbranches sbeginners swon kkinds ksbranches ksbeginners kswon lcuts valu won chance) q) (by decide) rfl (Nat.le_of_ble_eq_true rfl) ?_
  intro p e s m args below meth c Z ls Qz hx hb hr hml hlocks hown hts hS hX hl hq
  have he := he0.trans f_X6_choices_s
  have hown : s.vm.findClass RX6 = some m.cls := hown
  have hl : lv_has ls 5 [(0, .ref (a 19)), (1, .int p1), (2, .int p2)] := hl
  have hi_X3 : ∀ w ∈ u_ws RX3 TX3 5, w ∈ wsX6_choices := fun _ h => List.mem_cons_of_mem _ (List.mem_append_right _ h)
  have hi_X6 : ∀ w ∈ u_ws RX6 TX6 2, w ∈ wsX6_choices := fun _ h => List.mem_cons_of_mem _ (List.mem_append_left _ (List.mem_append_left _ (List.mem_append_right _ h)))
  have hi_X8 : ∀ w ∈ u_ws RX8 TX8 5, w ∈ wsX6_choices := fun _ h => List.mem_cons_of_mem _ (List.mem_append_left _ (List.mem_append_right _ h))
  have l_fieldLink_15 := hts (Cond.fieldLink RX6 15 "HedgeGame$Rules" "now" "LHedgeGame$Moment;") (List.mem_of_getElem? (i := 2) rfl)
  have l_fieldLink_9 := hts (Cond.fieldLink RX6 9 "HedgeGame$Rules" "shape" "LHedgeGame$Shape;") (List.mem_of_getElem? (i := 1) rfl)
  have t0 : ((0 : Int32)).toInt = 0 := rfl
  have t1 : ((1 : Int32)).toInt = 1 := rfl
  refine lv_iconst (v := (0 : Int32)) hx hb dX6_choices_0 (by decide) ?_
  refine lv_istore_n (lv' := [(3, .int (0 : Int32)), (0, .ref (a 19)), (1, .int p1), (2, .int p2)]) hx hb dX6_choices_1 rfl hl (by decide) rfl (fun ls hl => ?_)
  refine lv_iconst (v := (0 : Int32)) hx hb dX6_choices_2 (by decide) ?_
  refine lv_istore (lv' := [(4, .int (0 : Int32)), (3, .int (0 : Int32)), (0, .ref (a 19)), (1, .int p1), (2, .int p2)]) hx hb dX6_choices_3 hl (by decide) rfl (fun ls hl => ?_)
  have L5_1 : ∀ (n_5_1 : Nat) (x3_2 : Int32) (x4_3 : Int32), 0 ≤ (x4_3).toInt ∧ (x4_3).toInt ≤ 8 → 8 - (x4_3).toInt < (n_5_1 : Int) → q = f_X6_choices_L5 n_5_1 number abv kinds p1 p2 x3_2 x4_3 → ∀ (H : Heap) (locs : List Loc) (ls : Array Slot), gX D Z s (wG a cA isCharted isKept hedgesRead evensDone plen number setCount standing turn cuts ssize kstanding kturn kcuts kssize seed whiteWon cutsDone lett onB abv sets kinds sbranches sbeginners swon kkinds ksbranches ksbeginners kswon lcuts valu won chance) H locs → lv_has ls 5 [(0, .ref (a 19)), (1, .int p1), (2, .int p2), (3, .int x3_2), (4, .int x4_3)] → W p l e rm_X6_choices s m args below meth c H locs 0 0 Qz (F0 m 5 ls []) := by
    intro n_5_1
    induction n_5_1 with
    | zero =>
      intro x3_2 x4_3 ia ifu _ _ _ _ _ _
      exfalso; omega
    | succ n_5_1 ih_L5_1 =>
      intro x3_2 x4_3 ia ifu he H locs ls hX hl
      have he := he.trans f_X6_choices_L5_s
      refine lv_iload hx hb dX6_choices_5 (lv_at hl 4 rfl) ?_
      refine lv_aload_n hx hb dX6_choices_7 rfl (lv_at hl 0 rfl) ?_
      refine va_get (D := D) (ci := 6) (v := .ref (a 3)) (C := RX6) (T := TX6) (N := 2) hx hb hts hi_X6 hown hS.1 hX.1 19 rfl rfl 0 (by decide) l_fieldLink_9 (fun _ h9 => h9) rfl dX6_choices_8 ?_
      refine va_getN (D := D) (ci := 8) (v := .int number) (C := RX8) (T := TX8) (N := 5) hx hb hts hi_X8 hown hS.1 hX.1 3 rfl rfl 0 (by decide) (hS.2.1.get 0 rfl) (fun _ h9 => h9) rfl dX6_choices_11 ?_
      refine lv_icmp_ge (tgt := 63) hx hb dX6_choices_14 (by decide) (fun c14 => ?_) (fun c14 => ?_)
      · have he := he.trans (if_pos c14)
        have d14 := i_le c14
        refine lv_iload_n hx hb dX6_choices_63 rfl (lv_at hl 3 rfl) ?_
        subst he
        exact g_iret hx hb hr hlocks hX hq rfl dX6_choices_64
      · have he := he.trans (if_neg c14)
        have d14 := i_nle c14
        refine lv_iload_n hx hb dX6_choices_17 rfl (lv_at hl 2 rfl) ?_
        refine lv_iload hx hb dX6_choices_18 (lv_at hl 4 rfl) ?_
        refine lv_ishr hx hb dX6_choices_20 ?_
        refine lv_iconst (v := (1 : Int32)) hx hb dX6_choices_21 (by decide) ?_
        refine lv_iand hx hb dX6_choices_22 ?_
        refine lv_if_eq (tgt := 57) hx hb dX6_choices_23 (by decide) (fun c23 => ?_) (fun c23 => ?_)
        · have he := he.trans (if_pos c23)
          have d23 := i_eq c23
          refine lv_iinc (v := (x4_3 + (1 : Int32))) (lv' := [(4, .int (x4_3 + (1 : Int32))), (0, .ref (a 19)), (1, .int p1), (2, .int p2), (3, .int x3_2)]) hx hb dX6_choices_57 hl (k := 4) rfl rfl (by decide) rfl (fun ls hl => ?_)
          have s57 := i_s1 (x := x4_3) (by omega)
          refine lv_goto (tgt := 5) hx hb dX6_choices_60 (by decide) ?_
          exact ih_L5_1 x3_2 (x4_3 + (1 : Int32)) (by omega) (by omega) he _ _ _ hX (lv_sub hl [1, 2, 3, 4, 0] rfl)
        · have he := he.trans (if_neg c23)
          have d23 := i_ne c23
          refine lv_aload_n hx hb dX6_choices_26 rfl (lv_at hl 0 rfl) ?_
          refine lv_iload_n hx hb dX6_choices_27 rfl (lv_at hl 1 rfl) ?_
          refine lv_iload hx hb dX6_choices_28 (lv_at hl 4 rfl) ?_
          refine lv_iload_n hx hb dX6_choices_30 rfl (lv_at hl 2 rfl) ?_
          obtain ⟨r_4, e31⟩ : ∃ z, z = (f_X6_kindsCutBy abv p1 x4_3 p2) := ⟨_, rfl⟩
          rw [← e31] at he
          refine g_Vi (r := r_4) (As := [.int p1, .int x4_3, .int p2]) (rest := []) (ci := 6) (q0 := 19) ⟨hx, hb, hml, hown, hts⟩ hS hX (k_X6_kindsCutBy p1 x4_3 p2 (by omega) r_4 e31) (cwV 3 hts gX6_choices_X6_kindsCutBy rfl rfl rfl (by decide +kernel) ⟨Nat.le_of_ble_eq_true rfl, Nat.le_of_ble_eq_true rfl⟩) rfl rfl rfl hl.1 rfl (Nat.le_of_ble_eq_true rfl) dX6_choices_31 ⟨Nat.zero_le _, Nat.zero_le _⟩ (fun H locs hX => ?_)
          refine lv_aload_n hx hb dX6_choices_34 rfl (lv_at hl 0 rfl) ?_
          refine va_get (D := D) (ci := 6) (v := .ref (a 7)) (C := RX6) (T := TX6) (N := 2) hx hb hts hi_X6 hown hS.1 hX.1 19 rfl rfl 1 (by decide) l_fieldLink_15 (fun _ h9 => h9) rfl dX6_choices_35 ?_
          refine va_getN (D := D) (ci := 3) (v := .ref (a 8)) (C := RX3) (T := TX3) (N := 5) hx hb hts hi_X3 hown hS.1 hX.1 7 rfl rfl 0 (by decide) (hS.2.1.get 16 rfl) (fun _ h9 => h9) rfl dX6_choices_38 ?_
          refine lv_iload hx hb dX6_choices_41 (lv_at hl 4 rfl) ?_
          refine va_iald hx hb hS.1 hX.1 8 4 rfl rfl (vp_in_iff.mpr (by omega)) dX6_choices_43 ?_
          refine lv_ishr hx hb dX6_choices_44 ?_
          refine lv_iconst (v := (1 : Int32)) hx hb dX6_choices_45 (by decide) ?_
          refine lv_iand hx hb dX6_choices_46 ?_
          refine lv_if_eq (tgt := 57) hx hb dX6_choices_47 (by decide) (fun c47 => ?_) (fun c47 => ?_)
          · have he := he.trans (if_pos c47)
            have d47 := i_eq c47
            refine lv_iinc (v := (x4_3 + (1 : Int32))) (lv' := [(4, .int (x4_3 + (1 : Int32))), (0, .ref (a 19)), (1, .int p1), (2, .int p2), (3, .int x3_2)]) hx hb dX6_choices_57 hl (k := 4) rfl rfl (by decide) rfl (fun ls hl => ?_)
            have s57 := i_s1 (x := x4_3) (by omega)
            refine lv_goto (tgt := 5) hx hb dX6_choices_60 (by decide) ?_
            exact ih_L5_1 x3_2 (x4_3 + (1 : Int32)) (by omega) (by omega) he _ _ _ hX (lv_sub hl [1, 2, 3, 4, 0] rfl)
          · have he := he.trans (if_neg c47)
            have d47 := i_ne c47
            refine lv_iload_n hx hb dX6_choices_50 rfl (lv_at hl 3 rfl) ?_
            refine lv_iconst (v := (1 : Int32)) hx hb dX6_choices_51 (by decide) ?_
            refine lv_iload hx hb dX6_choices_52 (lv_at hl 4 rfl) ?_
            refine lv_ishl hx hb dX6_choices_54 ?_
            refine lv_ior hx hb dX6_choices_55 ?_
            refine lv_istore_n (lv' := [(3, .int (x3_2 ||| ((1 : Int32) <<< (x4_3 &&& 31)))), (0, .ref (a 19)), (1, .int p1), (2, .int p2), (4, .int x4_3)]) hx hb dX6_choices_56 rfl hl (by decide) rfl (fun ls hl => ?_)
            refine lv_iinc (v := (x4_3 + (1 : Int32))) (lv' := [(4, .int (x4_3 + (1 : Int32))), (3, .int (x3_2 ||| ((1 : Int32) <<< (x4_3 &&& 31)))), (0, .ref (a 19)), (1, .int p1), (2, .int p2)]) hx hb dX6_choices_57 hl (k := 4) rfl rfl (by decide) rfl (fun ls hl => ?_)
            have s57 := i_s1 (x := x4_3) (by omega)
            refine lv_goto (tgt := 5) hx hb dX6_choices_60 (by decide) ?_
            exact ih_L5_1 (x3_2 ||| ((1 : Int32) <<< (x4_3 &&& 31))) (x4_3 + (1 : Int32)) (by omega) (by omega) he _ _ _ hX (lv_sub hl [2, 3, 4, 1, 0] rfl)
  exact L5_1 9 (0 : Int32) (0 : Int32) (by omega) (by omega) he _ _ _ hX (lv_sub hl [2, 3, 4, 1, 0] rfl)
abbrev rm_X6_leftBy : Room := { frames := 0, cells := 0, slots := 0, locals := 0 }
set_option maxHeartbeats 4000000 in
set_option maxRecDepth 100000 in
theorem k_X6_leftBy {l : Launch} {D : va_G} {E : sE} {a : Nat → Nat} {cA : Nat → ClassId} {isCharted : Int32} {isKept : Int32} {hedgesRead : Int32} {evensDone : Int32} {plen : Int32} {number : Int32} {setCount : Int32} {standing : Int32} {turn : Int32} {cuts : Int32} {ssize : Int32} {kstanding : Int32} {kturn : Int32} {kcuts : Int32} {kssize : Int32} {seed : Int32} {whiteWon : Int32} {cutsDone : Int32} {lett : Nat → Int32} {onB : Nat → Int32} {abv : Nat → Int32} {sets : Nat → Int32} {kinds : Nat → Int32} {sbranches : Nat → Int32} {sbeginners : Nat → Int32} {swon : Nat → Int32} {kkinds : Nat → Int32} {ksbranches : Nat → Int32} {ksbeginners : Nat → Int32} {kswon : Nat → Int32} {lcuts : Nat → Int32} {valu : Nat → Int32} {won : Nat → Int64} {chance : Nat → Int64} (p1 : Int32) (p2 : Int32) (hbx : 0 ≤ (p1).toInt ∧ (p1).toInt < 8) : ∀ q : Int32, q = f_X6_leftBy abv p1 p2 → gMi l yX6_leftBy wsX6_leftBy rm_X6_leftBy D E (tG cA) [.ref (a 19), .int p1, .int p2] (wG a cA isCharted isKept hedgesRead evensDone plen number setCount standing turn cuts ssize kstanding kturn kcuts kssize seed whiteWon cutsDone lett onB abv sets kinds sbranches sbeginners swon kkinds ksbranches ksbeginners kswon lcuts valu won chance) (wG a cA isCharted isKept hedgesRead evensDone plen number setCount standing turn cuts ssize kstanding kturn kcuts kssize seed whiteWon cutsDone lett onB abv sets kinds sbranches sbeginners swon kkinds ksbranches ksbeginners kswon lcuts valu won chance) q := by
  intro q he0
  refine gM_of (cc := cX6_leftBy) (maxL := 3) (ret := (some .int)) (Qf := gQi D (wG a cA isCharted isKept hedgesRead evensDone plen number setCount standing turn cuts ssize kstanding kturn kcuts kssize seed whiteWon cutsDone lett onB abv sets kinds sbranches sbeginners swon kkinds ksbranches ksbeginners kswon lcuts valu won chance) q) (by decide) rfl (Nat.le_of_ble_eq_true rfl) ?_
  intro p e s m args below meth c Z ls Qz hx hb hr hml hlocks hown hts hS hX hl hq
  have he := he0.trans f_X6_leftBy_s
  have hown : s.vm.findClass RX6 = some m.cls := hown
  have hl : lv_has ls 3 [(0, .ref (a 19)), (1, .int p1), (2, .int p2)] := hl
  have hi_X6 : ∀ w ∈ u_ws RX6 TX6 2, w ∈ wsX6_leftBy := fun _ h => List.mem_cons_of_mem _ (List.mem_append_left _ (List.mem_append_right _ h))
  have hi_X8 : ∀ w ∈ u_ws RX8 TX8 5, w ∈ wsX6_leftBy := fun _ h => List.mem_cons_of_mem _ (List.mem_append_right _ h)
  have l_fieldLink_9 := hts (Cond.fieldLink RX6 9 "HedgeGame$Rules" "shape" "LHedgeGame$Shape;") (List.mem_of_getElem? (i := 1) rfl)
  have tm1 : ((-1 : Int32)).toInt = -1 := rfl
  have t0 : ((0 : Int32)).toInt = 0 := rfl
  have t1 : ((1 : Int32)).toInt = 1 := rfl
  refine lv_iload_n hx hb dX6_leftBy_0 rfl (lv_at hl 2 rfl) ?_
  refine lv_aload_n hx hb dX6_leftBy_1 rfl (lv_at hl 0 rfl) ?_
  refine va_get (D := D) (ci := 6) (v := .ref (a 3)) (C := RX6) (T := TX6) (N := 2) hx hb hts hi_X6 hown hS.1 hX.1 19 rfl rfl 0 (by decide) l_fieldLink_9 (fun _ h9 => h9) rfl dX6_leftBy_2 ?_
  refine va_getN (D := D) (ci := 8) (v := .ref (a 5)) (C := RX8) (T := TX8) (N := 5) hx hb hts hi_X8 hown hS.1 hX.1 3 rfl rfl 2 (by decide) (hS.2.1.get 7 rfl) (fun _ h9 => h9) rfl dX6_leftBy_5 ?_
  refine lv_iload_n hx hb dX6_leftBy_8 rfl (lv_at hl 1 rfl) ?_
  refine va_iald hx hb hS.1 hX.1 5 2 rfl rfl (vp_in_iff.mpr (by omega)) dX6_leftBy_9 ?_
  refine lv_iconst (v := (1 : Int32)) hx hb dX6_leftBy_10 (by decide) ?_
  refine lv_iload_n hx hb dX6_leftBy_11 rfl (lv_at hl 1 rfl) ?_
  refine lv_ishl hx hb dX6_leftBy_12 ?_
  refine lv_ior hx hb dX6_leftBy_13 ?_
  refine lv_iconst (v := (-1 : Int32)) hx hb dX6_leftBy_14 (by decide) ?_
  refine lv_ixor hx hb dX6_leftBy_15 ?_
  refine lv_iand hx hb dX6_leftBy_16 ?_
  subst he
  exact g_iret hx hb hr hlocks hX hq rfl dX6_leftBy_17
abbrev rm_X4_isWonBy : Room := { frames := 1, cells := 0, slots := 0, locals := 21 }
set_option maxHeartbeats 4000000 in
set_option maxRecDepth 100000 in
theorem k_X4_isWonBy {l : Launch} {D : va_G} {E : sE} {a : Nat → Nat} {cA : Nat → ClassId} {isCharted : Int32} {isKept : Int32} {hedgesRead : Int32} {evensDone : Int32} {plen : Int32} {number : Int32} {setCount : Int32} {standing : Int32} {turn : Int32} {cuts : Int32} {ssize : Int32} {kstanding : Int32} {kturn : Int32} {kcuts : Int32} {kssize : Int32} {seed : Int32} {whiteWon : Int32} {cutsDone : Int32} {lett : Nat → Int32} {onB : Nat → Int32} {abv : Nat → Int32} {sets : Nat → Int32} {kinds : Nat → Int32} {sbranches : Nat → Int32} {sbeginners : Nat → Int32} {swon : Nat → Int32} {kkinds : Nat → Int32} {ksbranches : Nat → Int32} {ksbeginners : Nat → Int32} {kswon : Nat → Int32} {lcuts : Nat → Int32} {valu : Nat → Int32} {won : Nat → Int64} {chance : Nat → Int64} (p1 : Int32) (p2 : Int32) (hwx : 0 ≤ (p1).toInt ∧ (p1).toInt ≤ 1) (hsx : 0 ≤ (p2).toInt ∧ (p2).toInt < 256) : ∀ q : Int32, q = f_X4_isWonBy won p1 p2 → gMi l yX4_isWonBy wsX4_isWonBy rm_X4_isWonBy D E (tG cA) [.ref (a 20), .int p1, .int p2] (wG a cA isCharted isKept hedgesRead evensDone plen number setCount standing turn cuts ssize kstanding kturn kcuts kssize seed whiteWon cutsDone lett onB abv sets kinds sbranches sbeginners swon kkinds ksbranches ksbeginners kswon lcuts valu won chance) (wG a cA isCharted isKept hedgesRead evensDone plen number setCount standing turn cuts ssize kstanding kturn kcuts kssize seed whiteWon cutsDone lett onB abv sets kinds sbranches sbeginners swon kkinds ksbranches ksbeginners kswon lcuts valu won chance) q := by
  intro q he0
  refine gM_of (cc := cX4_isWonBy) (maxL := 3) (ret := (some .boolean)) (Qf := gQi D (wG a cA isCharted isKept hedgesRead evensDone plen number setCount standing turn cuts ssize kstanding kturn kcuts kssize seed whiteWon cutsDone lett onB abv sets kinds sbranches sbeginners swon kkinds ksbranches ksbeginners kswon lcuts valu won chance) q) (by decide) rfl (Nat.le_of_ble_eq_true rfl) ?_
  intro p e s m args below meth c Z ls Qz hx hb hr hml hlocks hown hts hS hX hl hq
  have he := he0.trans f_X4_isWonBy_s
  have hown : s.vm.findClass RX4 = some m.cls := hown
  have hl : lv_has ls 3 [(0, .ref (a 20)), (1, .int p1), (2, .int p2)] := hl
  have hi_X4 : ∀ w ∈ u_ws RX4 TX4 2, w ∈ wsX4_isWonBy := fun _ h => List.mem_cons_of_mem _ (List.mem_append_right _ h)
  have l_constantLong_23 := hts (Cond.constantLong RX4 23 (1099511627776)) (List.mem_of_getElem? (i := 2) rfl)
  have l_fieldLink_11 := hts (Cond.fieldLink RX4 11 "HedgeGame$Outcomes" "won" "[J") (List.mem_of_getElem? (i := 1) rfl)
  have l_w_3 := hts (Cond.static yX10_place) (List.mem_of_getElem? (i := 3) rfl)
  have l_w_4 := hts (Cond.initialized RX10) (List.mem_of_getElem? (i := 4) rfl)
  have t0 : ((0 : Int32)).toInt = 0 := rfl
  have t1 : ((1 : Int32)).toInt = 1 := rfl
  refine lv_aload_n hx hb dX4_isWonBy_0 rfl (lv_at hl 0 rfl) ?_
  refine va_get (D := D) (ci := 4) (v := .ref (a 21)) (C := RX4) (T := TX4) (N := 2) hx hb hts hi_X4 hown hS.1 hX.1 20 rfl rfl 1 (by decide) l_fieldLink_11 (fun _ h9 => h9) rfl dX4_isWonBy_1 ?_
  refine lv_iload_n hx hb dX4_isWonBy_4 rfl (lv_at hl 1 rfl) ?_
  refine lv_iload_n hx hb dX4_isWonBy_5 rfl (lv_at hl 2 rfl) ?_
  obtain ⟨r_1, e6⟩ : ∃ z, z = (f_X10_place p1 p2) := ⟨_, rfl⟩
  rw [← e6] at he
  refine g_SNi (r := r_1) (As := [.int p1, .int p2]) (rest := [.ref (a 21)]) ⟨hx, hb, hml, hown, hts⟩ hS hX (k_X10_place p1 p2 r_1 e6) ⟨va_cnB 2 hts ggX4_isWonBy_X10_place rfl rfl rfl (hS.2.1.at 31 rfl) l_w_4 (by decide +kernel) ⟨Nat.le_of_ble_eq_true rfl, Nat.le_of_ble_eq_true rfl⟩, l_w_3, trivial⟩ rfl hl.1 rfl (Nat.le_of_ble_eq_true rfl) dX4_isWonBy_6 ⟨Nat.zero_le _, Nat.zero_le _⟩ (fun H locs hX => ?_)
  have k6_0 : (0 ≤ (p1).toInt ∧ (p1).toInt ≤ 1 ∧ 0 ≤ (p2).toInt ∧ (p2).toInt < 256) → (0 ≤ (r_1).toInt ∧ (r_1).toInt < 512) := by rw [e6]; exact r_place
  refine va_lald hx hb hS.1 hX.1 21 12 rfl rfl (vp_in_iff.mpr (by omega)) dX4_isWonBy_9 ?_
  refine lv_ldc2 (v := (1099511627776 : Int64)) hx hb hown l_constantLong_23 dX4_isWonBy_10 ?_
  refine lv_land hx hb dX4_isWonBy_13 ?_
  refine lv_lconst (v := (0 : Int64)) hx hb dX4_isWonBy_14 (by decide) ?_
  refine W.lcmp hx hb dX4_isWonBy_15 ?_
  refine lv_if_eq (tgt := 23) hx hb dX4_isWonBy_16 (by decide) (fun c16 => ?_) (fun c16 => ?_)
  · have he := he.trans (if_pos c16)
    have d16 := i_eq c16
    refine lv_iconst (v := (0 : Int32)) hx hb dX4_isWonBy_23 (by decide) ?_
    subst he
    exact g_zret hx hb hr rfl hlocks hX hq rfl dX4_isWonBy_24
  · have he := he.trans (if_neg c16)
    have d16 := i_ne c16
    refine lv_iconst (v := (1 : Int32)) hx hb dX4_isWonBy_19 (by decide) ?_
    refine lv_goto (tgt := 24) hx hb dX4_isWonBy_20 (by decide) ?_
    subst he
    exact g_zret hx hb hr rfl hlocks hX hq rfl dX4_isWonBy_24
abbrev rm_X4_winningKinds : Room := { frames := 1, cells := 0, slots := 0, locals := 21 }
set_option maxHeartbeats 4000000 in
set_option maxRecDepth 100000 in
theorem k_X4_winningKinds {l : Launch} {D : va_G} {E : sE} {a : Nat → Nat} {cA : Nat → ClassId} {isCharted : Int32} {isKept : Int32} {hedgesRead : Int32} {evensDone : Int32} {plen : Int32} {number : Int32} {setCount : Int32} {standing : Int32} {turn : Int32} {cuts : Int32} {ssize : Int32} {kstanding : Int32} {kturn : Int32} {kcuts : Int32} {kssize : Int32} {seed : Int32} {whiteWon : Int32} {cutsDone : Int32} {lett : Nat → Int32} {onB : Nat → Int32} {abv : Nat → Int32} {sets : Nat → Int32} {kinds : Nat → Int32} {sbranches : Nat → Int32} {sbeginners : Nat → Int32} {swon : Nat → Int32} {kkinds : Nat → Int32} {ksbranches : Nat → Int32} {ksbeginners : Nat → Int32} {kswon : Nat → Int32} {lcuts : Nat → Int32} {valu : Nat → Int32} {won : Nat → Int64} {chance : Nat → Int64} (p1 : Int32) (p2 : Int32) (p3 : Int32) (hwx : 0 ≤ (p1).toInt ∧ (p1).toInt ≤ 1) (hsx : 0 ≤ (p3).toInt ∧ (p3).toInt < 256) : ∀ q : Int32, q = f_X4_winningKinds won p1 p2 p3 → gMi l yX4_winningKinds wsX4_winningKinds rm_X4_winningKinds D E (tG cA) [.ref (a 20), .int p1, .int p2, .int p3] (wG a cA isCharted isKept hedgesRead evensDone plen number setCount standing turn cuts ssize kstanding kturn kcuts kssize seed whiteWon cutsDone lett onB abv sets kinds sbranches sbeginners swon kkinds ksbranches ksbeginners kswon lcuts valu won chance) (wG a cA isCharted isKept hedgesRead evensDone plen number setCount standing turn cuts ssize kstanding kturn kcuts kssize seed whiteWon cutsDone lett onB abv sets kinds sbranches sbeginners swon kkinds ksbranches ksbeginners kswon lcuts valu won chance) q := by
  intro q he0
  refine gM_of (cc := cX4_winningKinds) (maxL := 4) (ret := (some .int)) (Qf := gQi D (wG a cA isCharted isKept hedgesRead evensDone plen number setCount standing turn cuts ssize kstanding kturn kcuts kssize seed whiteWon cutsDone lett onB abv sets kinds sbranches sbeginners swon kkinds ksbranches ksbeginners kswon lcuts valu won chance) q) (by decide) rfl (Nat.le_of_ble_eq_true rfl) ?_
  intro p e s m args below meth c Z ls Qz hx hb hr hml hlocks hown hts hS hX hl hq
  have he := he0.trans f_X4_winningKinds_s
  have hown : s.vm.findClass RX4 = some m.cls := hown
  have hl : lv_has ls 4 [(0, .ref (a 20)), (1, .int p1), (2, .int p2), (3, .int p3)] := hl
  have hi_X4 : ∀ w ∈ u_ws RX4 TX4 2, w ∈ wsX4_winningKinds := fun _ h => List.mem_cons_of_mem _ (List.mem_append_right _ h)
  have l_fieldLink_11 := hts (Cond.fieldLink RX4 11 "HedgeGame$Outcomes" "won" "[J") (List.mem_of_getElem? (i := 1) rfl)
  have l_w_2 := hts (Cond.static yX10_place) (List.mem_of_getElem? (i := 2) rfl)
  have l_w_3 := hts (Cond.initialized RX10) (List.mem_of_getElem? (i := 3) rfl)
  have t0 : ((0 : Int32)).toInt = 0 := rfl
  have t1 : ((1 : Int32)).toInt = 1 := rfl
  have t5 : ((5 : Int32)).toInt = 5 := rfl
  have t31 : ((31 : Int32)).toInt = 31 := rfl
  refine lv_aload_n hx hb dX4_winningKinds_0 rfl (lv_at hl 0 rfl) ?_
  refine va_get (D := D) (ci := 4) (v := .ref (a 21)) (C := RX4) (T := TX4) (N := 2) hx hb hts hi_X4 hown hS.1 hX.1 20 rfl rfl 1 (by decide) l_fieldLink_11 (fun _ h9 => h9) rfl dX4_winningKinds_1 ?_
  refine lv_iload_n hx hb dX4_winningKinds_4 rfl (lv_at hl 1 rfl) ?_
  refine lv_iload_n hx hb dX4_winningKinds_5 rfl (lv_at hl 3 rfl) ?_
  obtain ⟨r_1, e6⟩ : ∃ z, z = (f_X10_place p1 p3) := ⟨_, rfl⟩
  rw [← e6] at he
  refine g_SNi (r := r_1) (As := [.int p1, .int p3]) (rest := [.ref (a 21)]) ⟨hx, hb, hml, hown, hts⟩ hS hX (k_X10_place p1 p3 r_1 e6) ⟨va_cnB 2 hts ggX4_winningKinds_X10_place rfl rfl rfl (hS.2.1.at 31 rfl) l_w_3 (by decide +kernel) ⟨Nat.le_of_ble_eq_true rfl, Nat.le_of_ble_eq_true rfl⟩, l_w_2, trivial⟩ rfl hl.1 rfl (Nat.le_of_ble_eq_true rfl) dX4_winningKinds_6 ⟨Nat.zero_le _, Nat.zero_le _⟩ (fun H locs hX => ?_)
  have k6_0 : (0 ≤ (p1).toInt ∧ (p1).toInt ≤ 1 ∧ 0 ≤ (p3).toInt ∧ (p3).toInt < 256) → (0 ≤ (r_1).toInt ∧ (r_1).toInt < 512) := by rw [e6]; exact r_place
  refine va_lald hx hb hS.1 hX.1 21 12 rfl rfl (vp_in_iff.mpr (by omega)) dX4_winningKinds_9 ?_
  refine lv_iconst (v := (5 : Int32)) hx hb dX4_winningKinds_10 (by decide) ?_
  refine lv_iload_n hx hb dX4_winningKinds_11 rfl (lv_at hl 2 rfl) ?_
  refine lv_imul hx hb dX4_winningKinds_12 ?_
  refine lv_lshr hx hb dX4_winningKinds_13 rfl ?_
  refine lv_l2i hx hb dX4_winningKinds_14 rfl ?_
  refine lv_bipush (v := (31 : Int32)) hx hb dX4_winningKinds_15 (by decide) ?_
  refine lv_iand hx hb dX4_winningKinds_17 ?_
  subst he
  exact g_iret hx hb hr hlocks hX hq rfl dX4_winningKinds_18
abbrev rm_X4_hedgesWithCut : Room := { frames := 1, cells := 0, slots := 0, locals := 24 }
set_option maxHeartbeats 4000000 in
set_option maxRecDepth 100000 in
theorem k_X4_hedgesWithCut {l : Launch} {D : va_G} {E : sE} {a : Nat → Nat} {cA : Nat → ClassId} {isCharted : Int32} {isKept : Int32} {hedgesRead : Int32} {evensDone : Int32} {plen : Int32} {number : Int32} {setCount : Int32} {standing : Int32} {turn : Int32} {cuts : Int32} {ssize : Int32} {kstanding : Int32} {kturn : Int32} {kcuts : Int32} {kssize : Int32} {seed : Int32} {whiteWon : Int32} {cutsDone : Int32} {lett : Nat → Int32} {onB : Nat → Int32} {abv : Nat → Int32} {sets : Nat → Int32} {kinds : Nat → Int32} {sbranches : Nat → Int32} {sbeginners : Nat → Int32} {swon : Nat → Int32} {kkinds : Nat → Int32} {ksbranches : Nat → Int32} {ksbeginners : Nat → Int32} {kswon : Nat → Int32} {lcuts : Nat → Int32} {valu : Nat → Int32} {won : Nat → Int64} {chance : Nat → Int64} (p1 : Int32) (p2 : Int32) (p3 : Int32) (hbx : 0 ≤ (p2).toInt ∧ (p2).toInt < 8) : ∀ q : Int64, q = f_X4_hedgesWithCut abv kinds p1 p2 p3 → gMl l yX4_hedgesWithCut wsX4_hedgesWithCut rm_X4_hedgesWithCut D E (tG cA) [.ref (a 20), .int p1, .int p2, .int p3] (wG a cA isCharted isKept hedgesRead evensDone plen number setCount standing turn cuts ssize kstanding kturn kcuts kssize seed whiteWon cutsDone lett onB abv sets kinds sbranches sbeginners swon kkinds ksbranches ksbeginners kswon lcuts valu won chance) (wG a cA isCharted isKept hedgesRead evensDone plen number setCount standing turn cuts ssize kstanding kturn kcuts kssize seed whiteWon cutsDone lett onB abv sets kinds sbranches sbeginners swon kkinds ksbranches ksbeginners kswon lcuts valu won chance) q := by
  intro q he0
  refine gM_of (cc := cX4_hedgesWithCut) (maxL := 9) (ret := (some .long)) (Qf := gQl D (wG a cA isCharted isKept hedgesRead evensDone plen number setCount standing turn cuts ssize kstanding kturn kcuts kssize seed whiteWon cutsDone lett onB abv sets kinds sbranches sbeginners swon kkinds ksbranches ksbeginners kswon lcuts valu won chance) q) (by decide) rfl (Nat.le_of_ble_eq_true rfl) ?_
  intro p e s m args below meth c Z ls Qz hx hb hr hml hlocks hown hts hS hX hl hq
  have he := he0.trans f_X4_hedgesWithCut_s
  have hown : s.vm.findClass RX4 = some m.cls := hown
  have hl : lv_has ls 9 [(0, .ref (a 20)), (1, .int p1), (2, .int p2), (3, .int p3)] := hl
  have hi_X3 : ∀ w ∈ u_ws RX3 TX3 5, w ∈ wsX4_hedgesWithCut := fun _ h => List.mem_cons_of_mem _ (List.mem_append_left _ (List.mem_append_right _ h))
  have hi_X4 : ∀ w ∈ u_ws RX4 TX4 2, w ∈ wsX4_hedgesWithCut := fun _ h => List.mem_cons_of_mem _ (List.mem_append_left _ (List.mem_append_left _ (List.mem_append_left _ (List.mem_append_right _ h))))
  have hi_X6 : ∀ w ∈ u_ws RX6 TX6 2, w ∈ wsX4_hedgesWithCut := fun _ h => List.mem_cons_of_mem _ (List.mem_append_left _ (List.mem_append_left _ (List.mem_append_right _ h)))
  have l_constantLong_40 := hts (Cond.constantLong RX4 40 (-1)) (List.mem_of_getElem? (i := 4) rfl)
  have l_constantLong_50 := hts (Cond.constantLong RX4 50 (31)) (List.mem_of_getElem? (i := 2) rfl)
  have l_constantLong_62 := hts (Cond.constantLong RX4 62 (2199023255551)) (List.mem_of_getElem? (i := 3) rfl)
  have l_fieldLink_15 := hts (Cond.fieldLink RX4 15 "HedgeGame$Outcomes" "rules" "LHedgeGame$Rules;") (List.mem_of_getElem? (i := 1) rfl)
  have t0 : ((0 : Int32)).toInt = 0 := rfl
  have t1 : ((1 : Int32)).toInt = 1 := rfl
  have t5 : ((5 : Int32)).toInt = 5 := rfl
  refine lv_aload_n hx hb dX4_hedgesWithCut_0 rfl (lv_at hl 0 rfl) ?_
  refine va_get (D := D) (ci := 4) (v := .ref (a 19)) (C := RX4) (T := TX4) (N := 2) hx hb hts hi_X4 hown hS.1 hX.1 20 rfl rfl 0 (by decide) l_fieldLink_15 (fun _ h9 => h9) rfl dX4_hedgesWithCut_1 ?_
  refine lv_iload_n hx hb dX4_hedgesWithCut_4 rfl (lv_at hl 1 rfl) ?_
  refine lv_iload_n hx hb dX4_hedgesWithCut_5 rfl (lv_at hl 2 rfl) ?_
  refine lv_iload_n hx hb dX4_hedgesWithCut_6 rfl (lv_at hl 3 rfl) ?_
  obtain ⟨r_1, e7⟩ : ∃ z, z = (f_X6_kindsCutBy abv p1 p2 p3) := ⟨_, rfl⟩
  rw [← e7] at he
  refine g_Vi (r := r_1) (As := [.int p1, .int p2, .int p3]) (rest := []) (ci := 6) (q0 := 19) ⟨hx, hb, hml, hown, hts⟩ hS hX (k_X6_kindsCutBy p1 p2 p3 (by omega) r_1 e7) (cwV 3 hts gX4_hedgesWithCut_X6_kindsCutBy rfl rfl rfl (by decide +kernel) ⟨Nat.le_of_ble_eq_true rfl, Nat.le_of_ble_eq_true rfl⟩) rfl rfl rfl hl.1 rfl (Nat.le_of_ble_eq_true rfl) dX4_hedgesWithCut_7 ⟨Nat.zero_le _, Nat.zero_le _⟩ (fun H locs hX => ?_)
  refine lv_istore (lv' := [(4, .int r_1), (0, .ref (a 20)), (1, .int p1), (2, .int p2), (3, .int p3)]) hx hb dX4_hedgesWithCut_10 hl (by decide) rfl (fun ls hl => ?_)
  refine lv_ldc2 (v := (31 : Int64)) hx hb hown l_constantLong_50 dX4_hedgesWithCut_12 ?_
  refine lv_iconst (v := (5 : Int32)) hx hb dX4_hedgesWithCut_15 (by decide) ?_
  refine lv_iload_n hx hb dX4_hedgesWithCut_16 rfl (lv_at hl 3 rfl) ?_
  refine lv_imul hx hb dX4_hedgesWithCut_17 ?_
  refine lv_lshl hx hb dX4_hedgesWithCut_18 rfl ?_
  refine lv_lstore (lv' := [(5, .long ((31 : Int64) <<< (((5 : Int32) * p2).toInt64 &&& 63))), (4, .int r_1), (0, .ref (a 20)), (1, .int p1), (2, .int p2), (3, .int p3)]) hx hb dX4_hedgesWithCut_19 hl (by decide) rfl (fun ls hl => ?_)
  refine lv_iload hx hb dX4_hedgesWithCut_21 (lv_at hl 1 rfl) ?_
  refine lv_i2l hx hb dX4_hedgesWithCut_23 rfl ?_
  refine lv_iconst (v := (5 : Int32)) hx hb dX4_hedgesWithCut_24 (by decide) ?_
  refine lv_iload_n hx hb dX4_hedgesWithCut_25 rfl (lv_at hl 4 rfl) ?_
  refine lv_imul hx hb dX4_hedgesWithCut_26 ?_
  refine lv_lshl hx hb dX4_hedgesWithCut_27 rfl ?_
  refine lv_lstore (lv' := [(7, .long (((r_1).toInt64) <<< (((5 : Int32) * p2).toInt64 &&& 63))), (5, .long ((31 : Int64) <<< (((5 : Int32) * p2).toInt64 &&& 63))), (4, .int r_1), (0, .ref (a 20)), (1, .int p1), (2, .int p2), (3, .int p3)]) hx hb dX4_hedgesWithCut_28 hl (by decide) rfl (fun ls hl => ?_)
  refine lv_iload hx hb dX4_hedgesWithCut_30 (lv_at hl 2 rfl) ?_
  refine lv_aload_n hx hb dX4_hedgesWithCut_32 rfl (lv_at hl 3 rfl) ?_
  refine va_get (D := D) (ci := 4) (v := .ref (a 19)) (C := RX4) (T := TX4) (N := 2) hx hb hts hi_X4 hown hS.1 hX.1 20 rfl rfl 0 (by decide) l_fieldLink_15 (fun _ h9 => h9) rfl dX4_hedgesWithCut_33 ?_
  refine va_getN (D := D) (ci := 6) (v := .ref (a 7)) (C := RX6) (T := TX6) (N := 2) hx hb hts hi_X6 hown hS.1 hX.1 19 rfl rfl 1 (by decide) (hS.2.1.get 27 rfl) (fun _ h9 => h9) rfl dX4_hedgesWithCut_36 ?_
  refine va_getN (D := D) (ci := 3) (v := .ref (a 8)) (C := RX3) (T := TX3) (N := 5) hx hb hts hi_X3 hown hS.1 hX.1 7 rfl rfl 0 (by decide) (hS.2.1.get 17 rfl) (fun _ h9 => h9) rfl dX4_hedgesWithCut_39 ?_
  refine lv_iload_n hx hb dX4_hedgesWithCut_42 rfl (lv_at hl 5 rfl) ?_
  refine va_iald hx hb hS.1 hX.1 8 4 rfl rfl (vp_in_iff.mpr (by omega)) dX4_hedgesWithCut_43 ?_
  refine lv_ishr hx hb dX4_hedgesWithCut_44 ?_
  refine lv_iconst (v := (1 : Int32)) hx hb dX4_hedgesWithCut_45 (by decide) ?_
  refine lv_iand hx hb dX4_hedgesWithCut_46 ?_
  refine lv_if_eq (tgt := 65) hx hb dX4_hedgesWithCut_47 (by decide) (fun c47 => ?_) (fun c47 => ?_)
  · have he := he.trans (if_pos c47)
    have d47 := i_eq c47
    refine lv_lload hx hb dX4_hedgesWithCut_65 (lv_at hl 0 rfl) ?_
    subst he
    exact g_lret hx hb hr hlocks hX hq rfl dX4_hedgesWithCut_67
  · have he := he.trans (if_neg c47)
    have d47 := i_ne c47
    refine lv_lload hx hb dX4_hedgesWithCut_50 (lv_at hl 0 rfl) ?_
    refine lv_ldc2 (v := (2199023255551 : Int64)) hx hb hown l_constantLong_62 dX4_hedgesWithCut_52 ?_
    refine lv_lload hx hb dX4_hedgesWithCut_55 (lv_at hl 1 rfl) ?_
    refine lv_ldc2 (v := (-1 : Int64)) hx hb hown l_constantLong_40 dX4_hedgesWithCut_57 ?_
    refine lv_lxor hx hb dX4_hedgesWithCut_60 ?_
    refine lv_land hx hb dX4_hedgesWithCut_61 ?_
    refine lv_lor hx hb dX4_hedgesWithCut_62 ?_
    refine lv_lstore (lv' := [(7, .long ((((r_1).toInt64) <<< (((5 : Int32) * p2).toInt64 &&& 63)) ||| ((2199023255551 : Int64) &&& (((31 : Int64) <<< (((5 : Int32) * p2).toInt64 &&& 63)) ^^^ (-1 : Int64))))), (5, .long ((31 : Int64) <<< (((5 : Int32) * p2).toInt64 &&& 63))), (4, .int r_1), (0, .ref (a 20)), (1, .int p1), (2, .int p2), (3, .int p3)]) hx hb dX4_hedgesWithCut_63 hl (by decide) rfl (fun ls hl => ?_)
    refine lv_lload hx hb dX4_hedgesWithCut_65 (lv_at hl 0 rfl) ?_
    subst he
    exact g_lret hx hb hr hlocks hX hq rfl dX4_hedgesWithCut_67
abbrev rm_X4_enter : Room := { frames := 2, cells := 0, slots := 0, locals := 52 }
set_option maxHeartbeats 4000000 in
set_option maxRecDepth 100000 in
theorem k_X4_enter {l : Launch} {D : va_G} {E : sE} {a : Nat → Nat} {cA : Nat → ClassId} {isCharted : Int32} {isKept : Int32} {hedgesRead : Int32} {evensDone : Int32} {plen : Int32} {number : Int32} {setCount : Int32} {standing : Int32} {turn : Int32} {cuts : Int32} {ssize : Int32} {kstanding : Int32} {kturn : Int32} {kcuts : Int32} {kssize : Int32} {seed : Int32} {whiteWon : Int32} {cutsDone : Int32} {lett : Nat → Int32} {onB : Nat → Int32} {abv : Nat → Int32} {sets : Nat → Int32} {kinds : Nat → Int32} {sbranches : Nat → Int32} {sbeginners : Nat → Int32} {swon : Nat → Int32} {kkinds : Nat → Int32} {ksbranches : Nat → Int32} {ksbeginners : Nat → Int32} {kswon : Nat → Int32} {lcuts : Nat → Int32} {valu : Nat → Int32} {won : Nat → Int64} {chance : Nat → Int64} (p1 : Int32) (p2 : Int32) (hnm : 0 ≤ (number).toInt ∧ (number).toInt ≤ 8) (hwx : 0 ≤ (p1).toInt ∧ (p1).toInt ≤ 1) (hsx : 0 ≤ (p2).toInt ∧ (p2).toInt < 256) : ∀ q : (Nat → Int64), q = f_X4_enter number abv kinds won p1 p2 → gMv l yX4_enter wsX4_enter rm_X4_enter D E (tG cA) [.ref (a 20), .int p1, .int p2] (wG a cA isCharted isKept hedgesRead evensDone plen number setCount standing turn cuts ssize kstanding kturn kcuts kssize seed whiteWon cutsDone lett onB abv sets kinds sbranches sbeginners swon kkinds ksbranches ksbeginners kswon lcuts valu won chance) (wG a cA isCharted isKept hedgesRead evensDone plen number setCount standing turn cuts ssize kstanding kturn kcuts kssize seed whiteWon cutsDone lett onB abv sets kinds sbranches sbeginners swon kkinds ksbranches ksbeginners kswon lcuts valu q chance) := by
  intro q he0
  refine gM_of (cc := cX4_enter) (maxL := 8) (ret := none) (Qf := gQv D (wG a cA isCharted isKept hedgesRead evensDone plen number setCount standing turn cuts ssize kstanding kturn kcuts kssize seed whiteWon cutsDone lett onB abv sets kinds sbranches sbeginners swon kkinds ksbranches ksbeginners kswon lcuts valu q chance)) (by decide) rfl (Nat.le_of_ble_eq_true rfl) ?_
  intro p e s m args below meth c Z ls Qz hx hb hr hml hlocks hown hts hS hX hl hq
  have he := he0.trans f_X4_enter_s
  have hown : s.vm.findClass RX4 = some m.cls := hown
  have hl : lv_has ls 8 [(0, .ref (a 20)), (1, .int p1), (2, .int p2)] := hl
  have hi_X4 : ∀ w ∈ u_ws RX4 TX4 2, w ∈ wsX4_enter := fun _ h => List.mem_cons_of_mem _ (List.mem_append_left _ (List.mem_append_left _ (List.mem_append_left _ (List.mem_append_right _ h))))
  have hi_X6 : ∀ w ∈ u_ws RX6 TX6 2, w ∈ wsX4_enter := fun _ h => List.mem_cons_of_mem _ (List.mem_append_left _ (List.mem_append_left _ (List.mem_append_right _ h)))
  have hi_X8 : ∀ w ∈ u_ws RX8 TX8 5, w ∈ wsX4_enter := fun _ h => List.mem_cons_of_mem _ (List.mem_append_left _ (List.mem_append_right _ h))
  have l_constantLong_40 := hts (Cond.constantLong RX4 40 (-1)) (List.mem_of_getElem? (i := 3) rfl)
  have l_fieldLink_11 := hts (Cond.fieldLink RX4 11 "HedgeGame$Outcomes" "won" "[J") (List.mem_of_getElem? (i := 2) rfl)
  have l_fieldLink_15 := hts (Cond.fieldLink RX4 15 "HedgeGame$Outcomes" "rules" "LHedgeGame$Rules;") (List.mem_of_getElem? (i := 1) rfl)
  have l_w_10 := hts (Cond.static yX10_place) (List.mem_of_getElem? (i := 10) rfl)
  have l_w_11 := hts (Cond.initialized RX10) (List.mem_of_getElem? (i := 11) rfl)
  have t0 : ((0 : Int32)).toInt = 0 := rfl
  have t1 : ((1 : Int32)).toInt = 1 := rfl
  have g1 := i_sub (x := (1 : Int32)) (y := p1) (by omega) (by omega)
  refine lv_lconst (v := (0 : Int64)) hx hb dX4_enter_0 (by decide) ?_
  refine lv_lstore_n (lv' := [(3, .long (0 : Int64)), (0, .ref (a 20)), (1, .int p1), (2, .int p2)]) hx hb dX4_enter_1 rfl hl (by decide) rfl (fun ls hl => ?_)
  refine lv_iconst (v := (0 : Int32)) hx hb dX4_enter_2 (by decide) ?_
  refine lv_istore (lv' := [(5, .int (0 : Int32)), (3, .long (0 : Int64)), (0, .ref (a 20)), (1, .int p1), (2, .int p2)]) hx hb dX4_enter_3 hl (by decide) rfl (fun ls hl => ?_)
  have L5_1 : ∀ (n_5_1 : Nat) (x3_2 : Int64) (x5_3 : Int32), 0 ≤ (x5_3).toInt ∧ (x5_3).toInt ≤ 8 → 8 - (x5_3).toInt < (n_5_1 : Int) → q = f_X4_enter_L5 n_5_1 number abv kinds won p1 p2 x3_2 x5_3 → ∀ (H : Heap) (locs : List Loc) (ls : Array Slot), gX D Z s (wG a cA isCharted isKept hedgesRead evensDone plen number setCount standing turn cuts ssize kstanding kturn kcuts kssize seed whiteWon cutsDone lett onB abv sets kinds sbranches sbeginners swon kkinds ksbranches ksbeginners kswon lcuts valu won chance) H locs → lv_has ls 8 [(0, .ref (a 20)), (1, .int p1), (2, .int p2), (3, .long x3_2), (5, .int x5_3)] → W p l e rm_X4_enter s m args below meth c H locs 0 0 Qz (F0 m 5 ls []) := by
    intro n_5_1
    induction n_5_1 with
    | zero =>
      intro x3_2 x5_3 ia ifu _ _ _ _ _ _
      exfalso; omega
    | succ n_5_1 ih_L5_1 =>
      intro x3_2 x5_3 ia ifu he H locs ls hX hl
      have he := he.trans f_X4_enter_L5_s
      refine lv_iload hx hb dX4_enter_5 (lv_at hl 4 rfl) ?_
      refine lv_aload_n hx hb dX4_enter_7 rfl (lv_at hl 0 rfl) ?_
      refine va_get (D := D) (ci := 4) (v := .ref (a 19)) (C := RX4) (T := TX4) (N := 2) hx hb hts hi_X4 hown hS.1 hX.1 20 rfl rfl 0 (by decide) l_fieldLink_15 (fun _ h9 => h9) rfl dX4_enter_8 ?_
      refine va_getN (D := D) (ci := 6) (v := .ref (a 3)) (C := RX6) (T := TX6) (N := 2) hx hb hts hi_X6 hown hS.1 hX.1 19 rfl rfl 0 (by decide) (hS.2.1.get 25 rfl) (fun _ h9 => h9) rfl dX4_enter_11 ?_
      refine va_getN (D := D) (ci := 8) (v := .int number) (C := RX8) (T := TX8) (N := 5) hx hb hts hi_X8 hown hS.1 hX.1 3 rfl rfl 0 (by decide) (hS.2.1.get 3 rfl) (fun _ h9 => h9) rfl dX4_enter_14 ?_
      refine lv_icmp_ge (tgt := 76) hx hb dX4_enter_17 (by decide) (fun c17 => ?_) (fun c17 => ?_)
      · have he := he.trans (if_pos c17)
        have d17 := i_le c17
        refine lv_aload_n hx hb dX4_enter_76 rfl (lv_at hl 0 rfl) ?_
        refine va_get (D := D) (ci := 4) (v := .ref (a 21)) (C := RX4) (T := TX4) (N := 2) hx hb hts hi_X4 hown hS.1 hX.1 20 rfl rfl 1 (by decide) l_fieldLink_11 (fun _ h9 => h9) rfl dX4_enter_77 ?_
        refine lv_iload_n hx hb dX4_enter_80 rfl (lv_at hl 1 rfl) ?_
        refine lv_iload_n hx hb dX4_enter_81 rfl (lv_at hl 2 rfl) ?_
        obtain ⟨r_4, e82⟩ : ∃ z, z = (f_X10_place p1 p2) := ⟨_, rfl⟩
        rw [← e82] at he
        refine g_SNi (r := r_4) (As := [.int p1, .int p2]) (rest := [.ref (a 21)]) ⟨hx, hb, hml, hown, hts⟩ hS hX (k_X10_place p1 p2 r_4 e82) ⟨va_cnB 2 hts ggX4_enter_X10_place rfl rfl rfl (hS.2.1.at 31 rfl) l_w_11 (by decide +kernel) ⟨Nat.le_of_ble_eq_true rfl, Nat.le_of_ble_eq_true rfl⟩, l_w_10, trivial⟩ rfl hl.1 rfl (Nat.le_of_ble_eq_true rfl) dX4_enter_82 ⟨Nat.zero_le _, Nat.zero_le _⟩ (fun H locs hX => ?_)
        have k82_0 : (0 ≤ (p1).toInt ∧ (p1).toInt ≤ 1 ∧ 0 ≤ (p2).toInt ∧ (p2).toInt < 256) → (0 ≤ (r_4).toInt ∧ (r_4).toInt < 512) := by rw [e82]; exact r_place
        refine lv_lload_n hx hb dX4_enter_85 rfl (lv_at hl 3 rfl) ?_
        refine va_last hx hb hS.1 hX.1 hX.2.1 hX.2.2 21 12 rfl rfl (vp_in_iff.mpr (by omega)) dX4_enter_86 (fun H locs hP hD hs => ?_)
        have hX : gX D Z s (wG a cA isCharted isKept hedgesRead evensDone plen number setCount standing turn cuts ssize kstanding kturn kcuts kssize seed whiteWon cutsDone lett onB abv sets kinds sbranches sbeginners swon kkinds ksbranches ksbeginners kswon lcuts valu (vp_updL won (r_4).toNatClampNeg x3_2) chance) H locs := ⟨hP, hD, hs⟩
        subst he
        exact g_vret hx hb hr hlocks hX hq dX4_enter_87
      · have he := he.trans (if_neg c17)
        have d17 := i_nle c17
        refine lv_iload_n hx hb dX4_enter_20 rfl (lv_at hl 2 rfl) ?_
        refine lv_iload hx hb dX4_enter_21 (lv_at hl 4 rfl) ?_
        refine lv_ishr hx hb dX4_enter_23 ?_
        refine lv_iconst (v := (1 : Int32)) hx hb dX4_enter_24 (by decide) ?_
        refine lv_iand hx hb dX4_enter_25 ?_
        refine lv_if_eq (tgt := 70) hx hb dX4_enter_26 (by decide) (fun c26 => ?_) (fun c26 => ?_)
        · have he := he.trans (if_pos c26)
          have d26 := i_eq c26
          refine lv_iinc (v := (x5_3 + (1 : Int32))) (lv' := [(5, .int (x5_3 + (1 : Int32))), (0, .ref (a 20)), (1, .int p1), (2, .int p2), (3, .long x3_2)]) hx hb dX4_enter_70 hl (k := 4) rfl rfl (by decide) rfl (fun ls hl => ?_)
          have s70 := i_s1 (x := x5_3) (by omega)
          refine lv_goto (tgt := 5) hx hb dX4_enter_73 (by decide) ?_
          exact ih_L5_1 x3_2 (x5_3 + (1 : Int32)) (by omega) (by omega) he _ _ _ hX (lv_sub hl [1, 2, 3, 4, 0] rfl)
        · have he := he.trans (if_neg c26)
          have d26 := i_ne c26
          refine lv_aload_n hx hb dX4_enter_29 rfl (lv_at hl 0 rfl) ?_
          refine va_get (D := D) (ci := 4) (v := .ref (a 21)) (C := RX4) (T := TX4) (N := 2) hx hb hts hi_X4 hown hS.1 hX.1 20 rfl rfl 1 (by decide) l_fieldLink_11 (fun _ h9 => h9) rfl dX4_enter_30 ?_
          refine lv_iconst (v := (1 : Int32)) hx hb dX4_enter_33 (by decide) ?_
          refine lv_iload_n hx hb dX4_enter_34 rfl (lv_at hl 1 rfl) ?_
          refine lv_isub hx hb dX4_enter_35 ?_
          refine lv_aload_n hx hb dX4_enter_36 rfl (lv_at hl 0 rfl) ?_
          refine va_get (D := D) (ci := 4) (v := .ref (a 19)) (C := RX4) (T := TX4) (N := 2) hx hb hts hi_X4 hown hS.1 hX.1 20 rfl rfl 0 (by decide) l_fieldLink_15 (fun _ h9 => h9) rfl dX4_enter_37 ?_
          refine lv_iload hx hb dX4_enter_40 (lv_at hl 4 rfl) ?_
          refine lv_iload_n hx hb dX4_enter_42 rfl (lv_at hl 2 rfl) ?_
          obtain ⟨r_5, e43⟩ : ∃ z, z = (f_X6_leftBy abv x5_3 p2) := ⟨_, rfl⟩
          rw [← e43] at he
          refine g_Vi (r := r_5) (As := [.int x5_3, .int p2]) (rest := [.int ((1 : Int32) - p1), .ref (a 21)]) (ci := 6) (q0 := 19) ⟨hx, hb, hml, hown, hts⟩ hS hX (k_X6_leftBy x5_3 p2 (by omega) r_5 e43) (cwV 2 hts gX4_enter_X6_leftBy rfl rfl rfl (by decide +kernel) ⟨Nat.le_of_ble_eq_true rfl, Nat.le_of_ble_eq_true rfl⟩) rfl rfl rfl hl.1 rfl (Nat.le_of_ble_eq_true rfl) dX4_enter_43 ⟨Nat.zero_le _, Nat.zero_le _⟩ (fun H locs hX => ?_)
          have k43_0 : 0 ≤ (p2).toInt → (0 ≤ (r_5).toInt ∧ (r_5).toInt ≤ (p2).toInt) := by rw [e43]; exact r_leftBy
          obtain ⟨r_6, e46⟩ : ∃ z, z = (f_X10_place ((1 : Int32) - p1) r_5) := ⟨_, rfl⟩
          rw [← e46] at he
          refine g_SNi (r := r_6) (As := [.int ((1 : Int32) - p1), .int r_5]) (rest := [.ref (a 21)]) ⟨hx, hb, hml, hown, hts⟩ hS hX (k_X10_place ((1 : Int32) - p1) r_5 r_6 e46) ⟨va_cnB 2 hts ggX4_enter_X10_place rfl rfl rfl (hS.2.1.at 31 rfl) l_w_11 (by decide +kernel) ⟨Nat.le_of_ble_eq_true rfl, Nat.le_of_ble_eq_true rfl⟩, l_w_10, trivial⟩ rfl hl.1 rfl (Nat.le_of_ble_eq_true rfl) dX4_enter_46 ⟨Nat.zero_le _, Nat.zero_le _⟩ (fun H locs hX => ?_)
          have k46_0 : (0 ≤ (((1 : Int32) - p1)).toInt ∧ (((1 : Int32) - p1)).toInt ≤ 1 ∧ 0 ≤ (r_5).toInt ∧ (r_5).toInt < 256) → (0 ≤ (r_6).toInt ∧ (r_6).toInt < 512) := by rw [e46]; exact r_place
          refine va_lald hx hb hS.1 hX.1 21 12 rfl rfl (vp_in_iff.mpr (by omega)) dX4_enter_49 ?_
          refine lv_ldc2 (v := (-1 : Int64)) hx hb hown l_constantLong_40 dX4_enter_50 ?_
          refine lv_lxor hx hb dX4_enter_53 ?_
          refine lv_lstore (lv' := [(6, .long ((won (r_6).toNatClampNeg) ^^^ (-1 : Int64))), (0, .ref (a 20)), (1, .int p1), (2, .int p2), (3, .long x3_2), (5, .int x5_3)]) hx hb dX4_enter_54 hl (by decide) rfl (fun ls hl => ?_)
          refine lv_lload_n hx hb dX4_enter_56 rfl (lv_at hl 4 rfl) ?_
          refine lv_aload_n hx hb dX4_enter_57 rfl (lv_at hl 1 rfl) ?_
          refine lv_iload_n hx hb dX4_enter_58 rfl (lv_at hl 2 rfl) ?_
          refine lv_iload hx hb dX4_enter_59 (lv_at hl 5 rfl) ?_
          refine lv_iload_n hx hb dX4_enter_61 rfl (lv_at hl 3 rfl) ?_
          obtain ⟨r_7, e62⟩ : ∃ z, z = (f_X4_hedgesWithCut abv kinds p1 x5_3 p2) := ⟨_, rfl⟩
          rw [← e62] at he
          refine g_Vl (r := r_7) (As := [.int p1, .int x5_3, .int p2]) (rest := [.long x3_2]) (ci := 4) (q0 := 20) ⟨hx, hb, hml, hown, hts⟩ hS hX (k_X4_hedgesWithCut p1 x5_3 p2 (by omega) r_7 e62) (cwV 3 hts gX4_enter_X4_hedgesWithCut rfl rfl rfl (by decide +kernel) ⟨Nat.le_of_ble_eq_true rfl, Nat.le_of_ble_eq_true rfl⟩) rfl rfl rfl hl.1 rfl (Nat.le_of_ble_eq_true rfl) dX4_enter_62 ⟨Nat.zero_le _, Nat.zero_le _⟩ (fun H locs hX => ?_)
          refine lv_lload hx hb dX4_enter_65 (lv_at hl 0 rfl) ?_
          refine lv_land hx hb dX4_enter_67 ?_
          refine lv_lor hx hb dX4_enter_68 ?_
          refine lv_lstore_n (lv' := [(3, .long (x3_2 ||| (r_7 &&& ((won (r_6).toNatClampNeg) ^^^ (-1 : Int64))))), (6, .long ((won (r_6).toNatClampNeg) ^^^ (-1 : Int64))), (0, .ref (a 20)), (1, .int p1), (2, .int p2), (5, .int x5_3)]) hx hb dX4_enter_69 rfl hl (by decide) rfl (fun ls hl => ?_)
          refine lv_iinc (v := (x5_3 + (1 : Int32))) (lv' := [(5, .int (x5_3 + (1 : Int32))), (3, .long (x3_2 ||| (r_7 &&& ((won (r_6).toNatClampNeg) ^^^ (-1 : Int64))))), (6, .long ((won (r_6).toNatClampNeg) ^^^ (-1 : Int64))), (0, .ref (a 20)), (1, .int p1), (2, .int p2)]) hx hb dX4_enter_70 hl (k := 5) rfl rfl (by decide) rfl (fun ls hl => ?_)
          have s70 := i_s1 (x := x5_3) (by omega)
          refine lv_goto (tgt := 5) hx hb dX4_enter_73 (by decide) ?_
          exact ih_L5_1 (x3_2 ||| (r_7 &&& ((won (r_6).toNatClampNeg) ^^^ (-1 : Int64)))) (x5_3 + (1 : Int32)) (by omega) (by omega) he _ _ _ hX (lv_sub hl [3, 4, 5, 1, 0] rfl)
  exact L5_1 9 (0 : Int64) (0 : Int32) (by omega) (by omega) he _ _ _ hX (lv_sub hl [2, 3, 4, 1, 0] rfl)
abbrev rm_X1_cutsFrom : Room := { frames := 1, cells := 0, slots := 0, locals := 21 }
set_option maxHeartbeats 4000000 in
set_option maxRecDepth 100000 in
theorem k_X1_cutsFrom {l : Launch} {D : va_G} {E : sE} {a : Nat → Nat} {cA : Nat → ClassId} {isCharted : Int32} {isKept : Int32} {hedgesRead : Int32} {evensDone : Int32} {plen : Int32} {number : Int32} {setCount : Int32} {standing : Int32} {turn : Int32} {cuts : Int32} {ssize : Int32} {kstanding : Int32} {kturn : Int32} {kcuts : Int32} {kssize : Int32} {seed : Int32} {whiteWon : Int32} {cutsDone : Int32} {lett : Nat → Int32} {onB : Nat → Int32} {abv : Nat → Int32} {sets : Nat → Int32} {kinds : Nat → Int32} {sbranches : Nat → Int32} {sbeginners : Nat → Int32} {swon : Nat → Int32} {kkinds : Nat → Int32} {ksbranches : Nat → Int32} {ksbeginners : Nat → Int32} {kswon : Nat → Int32} {lcuts : Nat → Int32} {valu : Nat → Int32} {won : Nat → Int64} {chance : Nat → Int64} (p1 : Int32) (p2 : Int32) (hwx : 0 ≤ (p1).toInt ∧ (p1).toInt ≤ 1) (hsx : 0 ≤ (p2).toInt ∧ (p2).toInt < 256) : ∀ q : Int32, q = f_X1_cutsFrom lcuts p1 p2 → gMi l yX1_cutsFrom wsX1_cutsFrom rm_X1_cutsFrom D E (tG cA) [.ref (a 22), .int p1, .int p2] (wG a cA isCharted isKept hedgesRead evensDone plen number setCount standing turn cuts ssize kstanding kturn kcuts kssize seed whiteWon cutsDone lett onB abv sets kinds sbranches sbeginners swon kkinds ksbranches ksbeginners kswon lcuts valu won chance) (wG a cA isCharted isKept hedgesRead evensDone plen number setCount standing turn cuts ssize kstanding kturn kcuts kssize seed whiteWon cutsDone lett onB abv sets kinds sbranches sbeginners swon kkinds ksbranches ksbeginners kswon lcuts valu won chance) q := by
  intro q he0
  refine gM_of (cc := cX1_cutsFrom) (maxL := 3) (ret := (some .int)) (Qf := gQi D (wG a cA isCharted isKept hedgesRead evensDone plen number setCount standing turn cuts ssize kstanding kturn kcuts kssize seed whiteWon cutsDone lett onB abv sets kinds sbranches sbeginners swon kkinds ksbranches ksbeginners kswon lcuts valu won chance) q) (by decide) rfl (Nat.le_of_ble_eq_true rfl) ?_
  intro p e s m args below meth c Z ls Qz hx hb hr hml hlocks hown hts hS hX hl hq
  have he := he0.trans f_X1_cutsFrom_s
  have hown : s.vm.findClass RX1 = some m.cls := hown
  have hl : lv_has ls 3 [(0, .ref (a 22)), (1, .int p1), (2, .int p2)] := hl
  have hi_X1 : ∀ w ∈ u_ws RX1 TX1 3, w ∈ wsX1_cutsFrom := fun _ h => List.mem_cons_of_mem _ (List.mem_append_right _ h)
  have l_fieldLink_9 := hts (Cond.fieldLink RX1 9 "HedgeGame$Lengths" "cuts" "[I") (List.mem_of_getElem? (i := 1) rfl)
  have l_w_2 := hts (Cond.static yX10_place) (List.mem_of_getElem? (i := 2) rfl)
  have l_w_3 := hts (Cond.initialized RX10) (List.mem_of_getElem? (i := 3) rfl)
  have t0 : ((0 : Int32)).toInt = 0 := rfl
  have t1 : ((1 : Int32)).toInt = 1 := rfl
  refine lv_aload_n hx hb dX1_cutsFrom_0 rfl (lv_at hl 0 rfl) ?_
  refine va_get (D := D) (ci := 1) (v := .ref (a 23)) (C := RX1) (T := TX1) (N := 3) hx hb hts hi_X1 hown hS.1 hX.1 22 rfl rfl 2 (by decide) l_fieldLink_9 (fun _ h9 => h9) rfl dX1_cutsFrom_1 ?_
  refine lv_iload_n hx hb dX1_cutsFrom_4 rfl (lv_at hl 1 rfl) ?_
  refine lv_iload_n hx hb dX1_cutsFrom_5 rfl (lv_at hl 2 rfl) ?_
  obtain ⟨r_1, e6⟩ : ∃ z, z = (f_X10_place p1 p2) := ⟨_, rfl⟩
  rw [← e6] at he
  refine g_SNi (r := r_1) (As := [.int p1, .int p2]) (rest := [.ref (a 23)]) ⟨hx, hb, hml, hown, hts⟩ hS hX (k_X10_place p1 p2 r_1 e6) ⟨va_cnB 2 hts ggX1_cutsFrom_X10_place rfl rfl rfl (hS.2.1.at 32 rfl) l_w_3 (by decide +kernel) ⟨Nat.le_of_ble_eq_true rfl, Nat.le_of_ble_eq_true rfl⟩, l_w_2, trivial⟩ rfl hl.1 rfl (Nat.le_of_ble_eq_true rfl) dX1_cutsFrom_6 ⟨Nat.zero_le _, Nat.zero_le _⟩ (fun H locs hX => ?_)
  have k6_0 : (0 ≤ (p1).toInt ∧ (p1).toInt ≤ 1 ∧ 0 ≤ (p2).toInt ∧ (p2).toInt < 256) → (0 ≤ (r_1).toInt ∧ (r_1).toInt < 512) := by rw [e6]; exact r_place
  refine va_iald hx hb hS.1 hX.1 23 13 rfl rfl (vp_in_iff.mpr (by omega)) dX1_cutsFrom_9 ?_
  subst he
  exact g_iret hx hb hr hlocks hX hq rfl dX1_cutsFrom_10
