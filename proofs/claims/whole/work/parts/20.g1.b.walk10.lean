abbrev rm_X10_digest : Room := { frames := 6, cells := 0, slots := 0, locals := 149 }
set_option maxHeartbeats 4000000 in
set_option maxRecDepth 100000 in
theorem k_X10_digest {l : Launch} {D : va_G} {E : sE} {a : Nat → Nat} {cA : Nat → ClassId} {isCharted : Int32} {isKept : Int32} {hedgesRead : Int32} {evensDone : Int32} {plen : Int32} {number : Int32} {setCount : Int32} {standing : Int32} {turn : Int32} {cuts : Int32} {ssize : Int32} {kstanding : Int32} {kturn : Int32} {kcuts : Int32} {kssize : Int32} {seed : Int32} {whiteWon : Int32} {cutsDone : Int32} {lett : Nat → Int32} {onB : Nat → Int32} {abv : Nat → Int32} {sets : Nat → Int32} {kinds : Nat → Int32} {sbranches : Nat → Int32} {sbeginners : Nat → Int32} {swon : Nat → Int32} {kkinds : Nat → Int32} {ksbranches : Nat → Int32} {ksbeginners : Nat → Int32} {kswon : Nat → Int32} {lcuts : Nat → Int32} {valu : Nat → Int32} {won : Nat → Int64} {chance : Nat → Int64}  (hnm : 0 ≤ (number).toInt ∧ (number).toInt ≤ 8) (hsc : 0 ≤ (setCount).toInt ∧ (setCount).toInt ≤ 256) (hss : ∀ k : Nat, 0 ≤ (sets k).toInt ∧ (sets k).toInt < 256) (hsd : 0 ≤ (standing).toInt ∧ (standing).toInt < 256) (hsz : 0 ≤ (ssize).toInt ∧ (ssize).toInt ≤ 6) (hsb : ∀ k : Nat, (k : Int) < (ssize).toInt → 0 ≤ (sbeginners k).toInt ∧ (sbeginners k).toInt ≤ 1) (hlp : 0 ≤ (plen).toInt ∧ (plen).toInt ≤ 26) (hlc : ∀ k : Nat, 0 ≤ (lett k).toInt ∧ (lett k).toInt < 128) : ∀ q : Int64 × Int32 × (Nat → Int32) × (Nat → Int32) × (Nat → Int64) × (Nat → Int64), q = f_X10_digest isCharted hedgesRead evensDone plen number setCount standing turn cuts ssize lett onB abv sets kinds sbranches sbeginners swon lcuts valu won chance → gMl l yX10_digest wsX10_digest rm_X10_digest D E (tG cA) [.ref (a 0)] (wG a cA isCharted isKept hedgesRead evensDone plen number setCount standing turn cuts ssize kstanding kturn kcuts kssize seed whiteWon cutsDone lett onB abv sets kinds sbranches sbeginners swon kkinds ksbranches ksbeginners kswon lcuts valu won chance) (wG a cA q.2.1 isKept hedgesRead evensDone plen number setCount standing turn cuts ssize kstanding kturn kcuts kssize seed whiteWon cutsDone lett onB abv sets kinds sbranches sbeginners swon kkinds ksbranches ksbeginners kswon q.2.2.1 q.2.2.2.1 q.2.2.2.2.1 q.2.2.2.2.2) q.1 := by
  intro q he0
  refine gM_of (cc := cX10_digest) (maxL := 5) (ret := (some .long)) (Qf := gQl D (wG a cA q.2.1 isKept hedgesRead evensDone plen number setCount standing turn cuts ssize kstanding kturn kcuts kssize seed whiteWon cutsDone lett onB abv sets kinds sbranches sbeginners swon kkinds ksbranches ksbeginners kswon q.2.2.1 q.2.2.2.1 q.2.2.2.2.1 q.2.2.2.2.2) q.1) (by decide) rfl (Nat.le_of_ble_eq_true rfl) ?_
  intro p e s m args below meth c Z ls Qz hx hb hr hml hlocks hown hts hS hX hl hq
  have he := he0.trans f_X10_digest_s
  have hown : s.vm.findClass RX10 = some m.cls := hown
  have hl : lv_has ls 5 [(0, .ref (a 0))] := hl
  have hi_X10 : ∀ w ∈ u_ws RX10 TX10 14, w ∈ wsX10_digest := fun _ h => List.mem_cons_of_mem _ (List.mem_append_left _ (List.mem_append_left _ (List.mem_append_left _ (List.mem_append_left _ (List.mem_append_left _ (List.mem_append_left _ (List.mem_append_left _ (List.mem_append_left _ (List.mem_append_left _ (List.mem_append_right _ h))))))))))
  have hi_X8 : ∀ w ∈ u_ws RX8 TX8 5, w ∈ wsX10_digest := fun _ h => List.mem_cons_of_mem _ (List.mem_append_left _ (List.mem_append_left _ (List.mem_append_left _ (List.mem_append_left _ (List.mem_append_left _ (List.mem_append_left _ (List.mem_append_left _ (List.mem_append_left _ (List.mem_append_right _ h)))))))))
  have l_constantLong_234 := hts (Cond.constantLong RX10 234 (1283)) (List.mem_of_getElem? (i := 1) rfl)
  have l_constantLong_236 := hts (Cond.constantLong RX10 236 (31)) (List.mem_of_getElem? (i := 3) rfl)
  have l_fieldLink_10 := hts (Cond.fieldLink RX10 10 "HedgeGame" "page" "LHedgeGame$Page;") (List.mem_of_getElem? (i := 4) rfl)
  have l_fieldLink_19 := hts (Cond.fieldLink RX10 19 "HedgeGame" "shape" "LHedgeGame$Shape;") (List.mem_of_getElem? (i := 2) rfl)
  have t0 : ((0 : Int32)).toInt = 0 := rfl
  have t1 : ((1 : Int32)).toInt = 1 := rfl
  have t8 : ((8 : Int32)).toInt = 8 := rfl
  have t11 : ((11 : Int32)).toInt = 11 := rfl
  refine lv_ldc2 (v := (1283 : Int64)) hx hb hown l_constantLong_234 dX10_digest_0 ?_
  refine lv_lstore_n (lv' := [(1, .long (1283 : Int64)), (0, .ref (a 0))]) hx hb dX10_digest_3 rfl hl (by decide) rfl (fun ls hl => ?_)
  refine lv_iconst (v := (0 : Int32)) hx hb dX10_digest_4 (by decide) ?_
  refine lv_istore_n (lv' := [(3, .int (0 : Int32)), (1, .long (1283 : Int64)), (0, .ref (a 0))]) hx hb dX10_digest_5 rfl hl (by decide) rfl (fun ls hl => ?_)
  have L6_1 : ∀ (n_6_1 : Nat) (isCharted_2 : Int32) (lcuts_3 : Nat → Int32) (valu_4 : Nat → Int32) (won_5 : Nat → Int64) (chance_6 : Nat → Int64) (x1_7 : Int64) (x3_8 : Int32), 0 ≤ (x3_8).toInt ∧ (x3_8).toInt ≤ 8 → 8 - (x3_8).toInt < (n_6_1 : Int) → q = f_X10_digest_L6 n_6_1 isCharted_2 hedgesRead evensDone plen number setCount standing turn cuts ssize lett onB abv sets kinds sbranches sbeginners swon lcuts_3 valu_4 won_5 chance_6 x1_7 x3_8 → ∀ (H : Heap) (locs : List Loc) (ls : Array Slot), gX D Z s (wG a cA isCharted_2 isKept hedgesRead evensDone plen number setCount standing turn cuts ssize kstanding kturn kcuts kssize seed whiteWon cutsDone lett onB abv sets kinds sbranches sbeginners swon kkinds ksbranches ksbeginners kswon lcuts_3 valu_4 won_5 chance_6) H locs → lv_has ls 5 [(0, .ref (a 0)), (1, .long x1_7), (3, .int x3_8)] → W p l e rm_X10_digest s m args below meth c H locs 0 0 Qz (F0 m 6 ls []) := by
    intro n_6_1
    induction n_6_1 with
    | zero =>
      intro isCharted_2 lcuts_3 valu_4 won_5 chance_6 x1_7 x3_8 ia ifu _ _ _ _ _ _
      exfalso; omega
    | succ n_6_1 ih_L6_1 =>
      intro isCharted_2 lcuts_3 valu_4 won_5 chance_6 x1_7 x3_8 ia ifu he H locs ls hX hl
      have he := he.trans f_X10_digest_L6_s
      refine lv_iload_n hx hb dX10_digest_6 rfl (lv_at hl 2 rfl) ?_
      refine lv_aload_n hx hb dX10_digest_7 rfl (lv_at hl 0 rfl) ?_
      refine va_get (D := D) (ci := 10) (v := .ref (a 3)) (C := RX10) (T := TX10) (N := 14) hx hb hts hi_X10 hown hS.1 hX.1 0 rfl rfl 1 (by decide) l_fieldLink_19 (fun _ h9 => h9) rfl dX10_digest_8 ?_
      refine va_getN (D := D) (ci := 8) (v := .int number) (C := RX8) (T := TX8) (N := 5) hx hb hts hi_X8 hown hS.1 hX.1 3 rfl rfl 0 (by decide) (hS.2.1.get 5 rfl) (fun _ h9 => h9) rfl dX10_digest_11 ?_
      refine lv_icmp_ge (tgt := 54) hx hb dX10_digest_14 (by decide) (fun c14 => ?_) (fun c14 => ?_)
      · have he := he.trans (if_pos c14)
        have d14 := i_le c14
        refine lv_aload_n hx hb dX10_digest_54 rfl (lv_at hl 0 rfl) ?_
        obtain ⟨r_9, e55⟩ : ∃ z, z = (f_X10_hasNoHedge number) := ⟨_, rfl⟩
        rw [← e55] at he
        refine g_Vi (r := r_9) (As := []) (rest := []) (ci := 10) (q0 := 0) ⟨hx, hb, hml, hown, hts⟩ hS hX (k_X10_hasNoHedge  r_9 e55) (cwV 0 hts gX10_digest_X10_hasNoHedge rfl rfl rfl (by decide +kernel) ⟨Nat.le_of_ble_eq_true rfl, Nat.le_of_ble_eq_true rfl⟩) rfl rfl rfl hl.1 rfl (Nat.le_of_ble_eq_true rfl) dX10_digest_55 ⟨Nat.zero_le _, Nat.zero_le _⟩ (fun H locs hX => ?_)
        refine lv_if_ne (tgt := 67) hx hb dX10_digest_58 (by decide) (fun c58 => ?_) (fun c58 => ?_)
        · have he := he.trans (if_neg c58)
          have d58 := i_ne c58
          refine lv_iconst (v := (0 : Int32)) hx hb dX10_digest_67 (by decide) ?_
          refine lv_istore_n (lv' := [(3, .int (0 : Int32)), (0, .ref (a 0)), (1, .long x1_7)]) hx hb dX10_digest_68 rfl hl (by decide) rfl (fun ls hl => ?_)
          have L69_10 : ∀ (n_69_10 : Nat) (x1_11 : Int64) (x3_12 : Int32), 0 ≤ (x3_12).toInt ∧ (x3_12).toInt ≤ 26 → 26 - (x3_12).toInt < (n_69_10 : Int) → q = f_X10_digest_L69 n_69_10 isCharted_2 hedgesRead evensDone plen number setCount standing turn cuts ssize lett onB abv sets kinds sbranches sbeginners swon lcuts_3 valu_4 won_5 chance_6 x1_11 x3_12 → ∀ (H : Heap) (locs : List Loc) (ls : Array Slot), gX D Z s (wG a cA isCharted_2 isKept hedgesRead evensDone plen number setCount standing turn cuts ssize kstanding kturn kcuts kssize seed whiteWon cutsDone lett onB abv sets kinds sbranches sbeginners swon kkinds ksbranches ksbeginners kswon lcuts_3 valu_4 won_5 chance_6) H locs → lv_has ls 5 [(0, .ref (a 0)), (1, .long x1_11), (3, .int x3_12)] → W p l e rm_X10_digest s m args below meth c H locs 0 0 Qz (F0 m 69 ls []) := by
            intro n_69_10
            induction n_69_10 with
            | zero =>
              intro x1_11 x3_12 ia ifu _ _ _ _ _ _
              exfalso; omega
            | succ n_69_10 ih_L69_10 =>
              intro x1_11 x3_12 ia ifu he H locs ls hX hl
              have he := he.trans f_X10_digest_L69_s
              refine lv_iload_n hx hb dX10_digest_69 rfl (lv_at hl 2 rfl) ?_
              refine lv_aload_n hx hb dX10_digest_70 rfl (lv_at hl 0 rfl) ?_
              refine va_get (D := D) (ci := 10) (v := .ref (a 1)) (C := RX10) (T := TX10) (N := 14) hx hb hts hi_X10 hown hS.1 hX.1 0 rfl rfl 0 (by decide) l_fieldLink_10 (fun _ h9 => h9) rfl dX10_digest_71 ?_
              obtain ⟨r_13, e74⟩ : ∃ z, z = (f_X5_size plen) := ⟨_, rfl⟩
              rw [← e74] at he
              refine g_Vi (r := r_13) (As := []) (rest := [.int x3_12]) (ci := 5) (q0 := 1) ⟨hx, hb, hml, hown, hts⟩ hS hX (k_X5_size  r_13 e74) (cwV 0 hts gX10_digest_X5_size rfl rfl rfl (by decide +kernel) ⟨Nat.le_of_ble_eq_true rfl, Nat.le_of_ble_eq_true rfl⟩) rfl rfl rfl hl.1 rfl (Nat.le_of_ble_eq_true rfl) dX10_digest_74 ⟨Nat.zero_le _, Nat.zero_le _⟩ (fun H locs hX => ?_)
              have k74_0 : (r_13).toInt = (plen).toInt := by rw [e74]; exact rfl
              refine lv_icmp_ge (tgt := 102) hx hb dX10_digest_77 (by decide) (fun c77 => ?_) (fun c77 => ?_)
              · have he := he.trans (if_pos c77)
                have d77 := i_le c77
                refine lv_iconst (v := (0 : Int32)) hx hb dX10_digest_102 (by decide) ?_
                refine lv_istore_n (lv' := [(3, .int (0 : Int32)), (0, .ref (a 0)), (1, .long x1_11)]) hx hb dX10_digest_103 rfl hl (by decide) rfl (fun ls hl => ?_)
                have L104_14 : ∀ (n_104_14 : Nat) (x1_15 : Int64) (x3_16 : Int32), 0 ≤ (x3_16).toInt ∧ (x3_16).toInt ≤ 11 → 11 - (x3_16).toInt < (n_104_14 : Int) → q = f_X10_digest_L104 n_104_14 isCharted_2 hedgesRead evensDone plen number setCount standing turn cuts ssize lett onB abv sets kinds sbranches sbeginners swon lcuts_3 valu_4 won_5 chance_6 x1_15 x3_16 → ∀ (H : Heap) (locs : List Loc) (ls : Array Slot), gX D Z s (wG a cA isCharted_2 isKept hedgesRead evensDone plen number setCount standing turn cuts ssize kstanding kturn kcuts kssize seed whiteWon cutsDone lett onB abv sets kinds sbranches sbeginners swon kkinds ksbranches ksbeginners kswon lcuts_3 valu_4 won_5 chance_6) H locs → lv_has ls 5 [(0, .ref (a 0)), (1, .long x1_15), (3, .int x3_16)] → W p l e rm_X10_digest s m args below meth c H locs 0 0 Qz (F0 m 104 ls []) := by
                  intro n_104_14
                  induction n_104_14 with
                  | zero =>
                    intro x1_15 x3_16 ia ifu _ _ _ _ _ _
                    exfalso; omega
                  | succ n_104_14 ih_L104_14 =>
                    intro x1_15 x3_16 ia ifu he H locs ls hX hl
                    have he := he.trans f_X10_digest_L104_s
                    refine lv_iload_n hx hb dX10_digest_104 rfl (lv_at hl 2 rfl) ?_
                    refine lv_bipush (v := (11 : Int32)) hx hb dX10_digest_105 (by decide) ?_
                    refine lv_icmp_ge (tgt := 129) hx hb dX10_digest_107 (by decide) (fun c107 => ?_) (fun c107 => ?_)
                    · have he := he.trans (if_pos c107)
                      have d107 := i_le c107
                      refine lv_lload_n hx hb dX10_digest_129 rfl (lv_at hl 1 rfl) ?_
                      subst he
                      exact g_lret hx hb hr hlocks hX hq rfl dX10_digest_130
                    · have he := he.trans (if_neg c107)
                      have d107 := i_nle c107
                      refine lv_ldc2 (v := (31 : Int64)) hx hb hown l_constantLong_236 dX10_digest_110 ?_
                      refine lv_lload_n hx hb dX10_digest_113 rfl (lv_at hl 1 rfl) ?_
                      refine lv_lmul hx hb dX10_digest_114 ?_
                      refine lv_aload_n hx hb dX10_digest_115 rfl (lv_at hl 0 rfl) ?_
                      refine lv_iload_n hx hb dX10_digest_116 rfl (lv_at hl 2 rfl) ?_
                      obtain ⟨r_17, e117⟩ : ∃ z, z = (f_X10_count hedgesRead evensDone plen number standing turn cuts ssize onB abv kinds x3_16) := ⟨_, rfl⟩
                      rw [← e117] at he
                      refine g_Vi (r := r_17) (As := [.int x3_16]) (rest := [.long ((31 : Int64) * x1_15)]) (ci := 10) (q0 := 0) ⟨hx, hb, hml, hown, hts⟩ hS hX (k_X10_count x3_16 (by omega) r_17 e117) (cwV 1 hts gX10_digest_X10_count rfl rfl rfl (by decide +kernel) ⟨Nat.le_of_ble_eq_true rfl, Nat.le_of_ble_eq_true rfl⟩) rfl rfl rfl hl.1 rfl (Nat.le_of_ble_eq_true rfl) dX10_digest_117 ⟨Nat.zero_le _, Nat.zero_le _⟩ (fun H locs hX => ?_)
                      refine lv_i2l hx hb dX10_digest_120 rfl ?_
                      refine lv_ladd hx hb dX10_digest_121 ?_
                      refine lv_lstore_n (lv' := [(1, .long (((31 : Int64) * x1_15) + ((r_17).toInt64))), (0, .ref (a 0)), (3, .int x3_16)]) hx hb dX10_digest_122 rfl hl (by decide) rfl (fun ls hl => ?_)
                      refine lv_iinc (v := (x3_16 + (1 : Int32))) (lv' := [(3, .int (x3_16 + (1 : Int32))), (1, .long (((31 : Int64) * x1_15) + ((r_17).toInt64))), (0, .ref (a 0))]) hx hb dX10_digest_123 hl (k := 2) rfl rfl (by decide) rfl (fun ls hl => ?_)
                      have s123 := i_s1 (x := x3_16) (by omega)
                      refine lv_goto (tgt := 104) hx hb dX10_digest_126 (by decide) ?_
                      exact ih_L104_14 (((31 : Int64) * x1_15) + ((r_17).toInt64)) (x3_16 + (1 : Int32)) (by omega) (by omega) he _ _ _ hX (lv_sub hl [2, 1, 0] rfl)
                exact L104_14 12 x1_11 (0 : Int32) (by omega) (by omega) he _ _ _ hX (lv_sub hl [1, 2, 0] rfl)
              · have he := he.trans (if_neg c77)
                have d77 := i_nle c77
                refine lv_ldc2 (v := (31 : Int64)) hx hb hown l_constantLong_236 dX10_digest_80 ?_
                refine lv_lload_n hx hb dX10_digest_83 rfl (lv_at hl 1 rfl) ?_
                refine lv_lmul hx hb dX10_digest_84 ?_
                refine lv_aload_n hx hb dX10_digest_85 rfl (lv_at hl 0 rfl) ?_
                refine va_get (D := D) (ci := 10) (v := .ref (a 1)) (C := RX10) (T := TX10) (N := 14) hx hb hts hi_X10 hown hS.1 hX.1 0 rfl rfl 0 (by decide) l_fieldLink_10 (fun _ h9 => h9) rfl dX10_digest_86 ?_
                refine lv_iload_n hx hb dX10_digest_89 rfl (lv_at hl 2 rfl) ?_
                obtain ⟨r_18, e90⟩ : ∃ z, z = (f_X5_at plen lett x3_12) := ⟨_, rfl⟩
                rw [← e90] at he
                refine g_Vi (r := r_18) (As := [.int x3_12]) (rest := [.long ((31 : Int64) * x1_11)]) (ci := 5) (q0 := 1) ⟨hx, hb, hml, hown, hts⟩ hS hX (k_X5_at x3_12 (by omega) (by assumption) r_18 e90) (cwV 1 hts gX10_digest_X5_at rfl rfl rfl (by decide +kernel) ⟨Nat.le_of_ble_eq_true rfl, Nat.le_of_ble_eq_true rfl⟩) rfl rfl rfl hl.1 rfl (Nat.le_of_ble_eq_true rfl) dX10_digest_90 ⟨Nat.zero_le _, Nat.zero_le _⟩ (fun H locs hX => ?_)
                refine lv_i2l hx hb dX10_digest_93 rfl ?_
                refine lv_ladd hx hb dX10_digest_94 ?_
                refine lv_lstore_n (lv' := [(1, .long (((31 : Int64) * x1_11) + ((r_18).toInt64))), (0, .ref (a 0)), (3, .int x3_12)]) hx hb dX10_digest_95 rfl hl (by decide) rfl (fun ls hl => ?_)
                refine lv_iinc (v := (x3_12 + (1 : Int32))) (lv' := [(3, .int (x3_12 + (1 : Int32))), (1, .long (((31 : Int64) * x1_11) + ((r_18).toInt64))), (0, .ref (a 0))]) hx hb dX10_digest_96 hl (k := 2) rfl rfl (by decide) rfl (fun ls hl => ?_)
                have s96 := i_s1 (x := x3_12) (by omega)
                refine lv_goto (tgt := 69) hx hb dX10_digest_99 (by decide) ?_
                exact ih_L69_10 (((31 : Int64) * x1_11) + ((r_18).toInt64)) (x3_12 + (1 : Int32)) (by omega) (by omega) he _ _ _ hX (lv_sub hl [2, 1, 0] rfl)
          exact L69_10 27 x1_7 (0 : Int32) (by omega) (by omega) he _ _ _ hX (lv_sub hl [1, 2, 0] rfl)
        · have he := he.trans (if_pos c58)
          have d58 := i_eq c58
          refine lv_aload_n hx hb dX10_digest_61 rfl (lv_at hl 0 rfl) ?_
          refine lv_lload_n hx hb dX10_digest_62 rfl (lv_at hl 1 rfl) ?_
          obtain ⟨z_19, e63⟩ : ∃ z, z = (f_X10_digestOutlook isCharted_2 number setCount standing onB abv sets kinds lcuts_3 valu_4 won_5 chance_6 x1_7) := ⟨_, rfl⟩
          rw [← e63] at he
          try dsimp only at he
          refine g_Vl (r := z_19.1) (w2 := (wG a cA z_19.2.1 isKept hedgesRead evensDone plen number setCount standing turn cuts ssize kstanding kturn kcuts kssize seed whiteWon cutsDone lett onB abv sets kinds sbranches sbeginners swon kkinds ksbranches ksbeginners kswon z_19.2.2.1 z_19.2.2.2.1 z_19.2.2.2.2.1 z_19.2.2.2.2.2)) (As := [.long x1_7]) (rest := []) (ci := 10) (q0 := 0) ⟨hx, hb, hml, hown, hts⟩ hS hX (k_X10_digestOutlook x1_7 (by omega) (by omega) (by assumption) (by omega) z_19 e63) (cwV 1 hts gX10_digest_X10_digestOutlook rfl rfl rfl (by decide +kernel) ⟨Nat.le_of_ble_eq_true rfl, Nat.le_of_ble_eq_true rfl⟩) rfl rfl rfl hl.1 rfl (Nat.le_of_ble_eq_true rfl) dX10_digest_63 ⟨Nat.zero_le _, Nat.zero_le _⟩ (fun H locs hX => ?_)
          refine lv_lstore_n (lv' := [(1, .long z_19.1), (0, .ref (a 0)), (3, .int x3_8)]) hx hb dX10_digest_66 rfl hl (by decide) rfl (fun ls hl => ?_)
          refine lv_iconst (v := (0 : Int32)) hx hb dX10_digest_67 (by decide) ?_
          refine lv_istore_n (lv' := [(3, .int (0 : Int32)), (1, .long z_19.1), (0, .ref (a 0))]) hx hb dX10_digest_68 rfl hl (by decide) rfl (fun ls hl => ?_)
          have L69_20 : ∀ (n_69_20 : Nat) (x1_21 : Int64) (x3_22 : Int32), 0 ≤ (x3_22).toInt ∧ (x3_22).toInt ≤ 26 → 26 - (x3_22).toInt < (n_69_20 : Int) → q = f_X10_digest_L69 n_69_20 z_19.2.1 hedgesRead evensDone plen number setCount standing turn cuts ssize lett onB abv sets kinds sbranches sbeginners swon z_19.2.2.1 z_19.2.2.2.1 z_19.2.2.2.2.1 z_19.2.2.2.2.2 x1_21 x3_22 → ∀ (H : Heap) (locs : List Loc) (ls : Array Slot), gX D Z s (wG a cA z_19.2.1 isKept hedgesRead evensDone plen number setCount standing turn cuts ssize kstanding kturn kcuts kssize seed whiteWon cutsDone lett onB abv sets kinds sbranches sbeginners swon kkinds ksbranches ksbeginners kswon z_19.2.2.1 z_19.2.2.2.1 z_19.2.2.2.2.1 z_19.2.2.2.2.2) H locs → lv_has ls 5 [(0, .ref (a 0)), (1, .long x1_21), (3, .int x3_22)] → W p l e rm_X10_digest s m args below meth c H locs 0 0 Qz (F0 m 69 ls []) := by
            intro n_69_20
            induction n_69_20 with
            | zero =>
              intro x1_21 x3_22 ia ifu _ _ _ _ _ _
              exfalso; omega
            | succ n_69_20 ih_L69_20 =>
              intro x1_21 x3_22 ia ifu he H locs ls hX hl
              have he := he.trans f_X10_digest_L69_s
              refine lv_iload_n hx hb dX10_digest_69 rfl (lv_at hl 2 rfl) ?_
              refine lv_aload_n hx hb dX10_digest_70 rfl (lv_at hl 0 rfl) ?_
              refine va_get (D := D) (ci := 10) (v := .ref (a 1)) (C := RX10) (T := TX10) (N := 14) hx hb hts hi_X10 hown hS.1 hX.1 0 rfl rfl 0 (by decide) l_fieldLink_10 (fun _ h9 => h9) rfl dX10_digest_71 ?_
              obtain ⟨r_23, e74⟩ : ∃ z, z = (f_X5_size plen) := ⟨_, rfl⟩
              rw [← e74] at he
              refine g_Vi (r := r_23) (As := []) (rest := [.int x3_22]) (ci := 5) (q0 := 1) ⟨hx, hb, hml, hown, hts⟩ hS hX (k_X5_size  r_23 e74) (cwV 0 hts gX10_digest_X5_size rfl rfl rfl (by decide +kernel) ⟨Nat.le_of_ble_eq_true rfl, Nat.le_of_ble_eq_true rfl⟩) rfl rfl rfl hl.1 rfl (Nat.le_of_ble_eq_true rfl) dX10_digest_74 ⟨Nat.zero_le _, Nat.zero_le _⟩ (fun H locs hX => ?_)
              have k74_0 : (r_23).toInt = (plen).toInt := by rw [e74]; exact rfl
              refine lv_icmp_ge (tgt := 102) hx hb dX10_digest_77 (by decide) (fun c77 => ?_) (fun c77 => ?_)
              · have he := he.trans (if_pos c77)
                have d77 := i_le c77
                refine lv_iconst (v := (0 : Int32)) hx hb dX10_digest_102 (by decide) ?_
                refine lv_istore_n (lv' := [(3, .int (0 : Int32)), (0, .ref (a 0)), (1, .long x1_21)]) hx hb dX10_digest_103 rfl hl (by decide) rfl (fun ls hl => ?_)
                have L104_24 : ∀ (n_104_24 : Nat) (x1_25 : Int64) (x3_26 : Int32), 0 ≤ (x3_26).toInt ∧ (x3_26).toInt ≤ 11 → 11 - (x3_26).toInt < (n_104_24 : Int) → q = f_X10_digest_L104 n_104_24 z_19.2.1 hedgesRead evensDone plen number setCount standing turn cuts ssize lett onB abv sets kinds sbranches sbeginners swon z_19.2.2.1 z_19.2.2.2.1 z_19.2.2.2.2.1 z_19.2.2.2.2.2 x1_25 x3_26 → ∀ (H : Heap) (locs : List Loc) (ls : Array Slot), gX D Z s (wG a cA z_19.2.1 isKept hedgesRead evensDone plen number setCount standing turn cuts ssize kstanding kturn kcuts kssize seed whiteWon cutsDone lett onB abv sets kinds sbranches sbeginners swon kkinds ksbranches ksbeginners kswon z_19.2.2.1 z_19.2.2.2.1 z_19.2.2.2.2.1 z_19.2.2.2.2.2) H locs → lv_has ls 5 [(0, .ref (a 0)), (1, .long x1_25), (3, .int x3_26)] → W p l e rm_X10_digest s m args below meth c H locs 0 0 Qz (F0 m 104 ls []) := by
                  intro n_104_24
                  induction n_104_24 with
                  | zero =>
                    intro x1_25 x3_26 ia ifu _ _ _ _ _ _
                    exfalso; omega
                  | succ n_104_24 ih_L104_24 =>
                    intro x1_25 x3_26 ia ifu he H locs ls hX hl
                    have he := he.trans f_X10_digest_L104_s
                    refine lv_iload_n hx hb dX10_digest_104 rfl (lv_at hl 2 rfl) ?_
                    refine lv_bipush (v := (11 : Int32)) hx hb dX10_digest_105 (by decide) ?_
                    refine lv_icmp_ge (tgt := 129) hx hb dX10_digest_107 (by decide) (fun c107 => ?_) (fun c107 => ?_)
                    · have he := he.trans (if_pos c107)
                      have d107 := i_le c107
                      refine lv_lload_n hx hb dX10_digest_129 rfl (lv_at hl 1 rfl) ?_
                      subst he
                      exact g_lret hx hb hr hlocks hX hq rfl dX10_digest_130
                    · have he := he.trans (if_neg c107)
                      have d107 := i_nle c107
                      refine lv_ldc2 (v := (31 : Int64)) hx hb hown l_constantLong_236 dX10_digest_110 ?_
                      refine lv_lload_n hx hb dX10_digest_113 rfl (lv_at hl 1 rfl) ?_
                      refine lv_lmul hx hb dX10_digest_114 ?_
                      refine lv_aload_n hx hb dX10_digest_115 rfl (lv_at hl 0 rfl) ?_
                      refine lv_iload_n hx hb dX10_digest_116 rfl (lv_at hl 2 rfl) ?_
                      obtain ⟨r_27, e117⟩ : ∃ z, z = (f_X10_count hedgesRead evensDone plen number standing turn cuts ssize onB abv kinds x3_26) := ⟨_, rfl⟩
                      rw [← e117] at he
                      refine g_Vi (r := r_27) (As := [.int x3_26]) (rest := [.long ((31 : Int64) * x1_25)]) (ci := 10) (q0 := 0) ⟨hx, hb, hml, hown, hts⟩ hS hX (k_X10_count x3_26 (by omega) r_27 e117) (cwV 1 hts gX10_digest_X10_count rfl rfl rfl (by decide +kernel) ⟨Nat.le_of_ble_eq_true rfl, Nat.le_of_ble_eq_true rfl⟩) rfl rfl rfl hl.1 rfl (Nat.le_of_ble_eq_true rfl) dX10_digest_117 ⟨Nat.zero_le _, Nat.zero_le _⟩ (fun H locs hX => ?_)
                      refine lv_i2l hx hb dX10_digest_120 rfl ?_
                      refine lv_ladd hx hb dX10_digest_121 ?_
                      refine lv_lstore_n (lv' := [(1, .long (((31 : Int64) * x1_25) + ((r_27).toInt64))), (0, .ref (a 0)), (3, .int x3_26)]) hx hb dX10_digest_122 rfl hl (by decide) rfl (fun ls hl => ?_)
                      refine lv_iinc (v := (x3_26 + (1 : Int32))) (lv' := [(3, .int (x3_26 + (1 : Int32))), (1, .long (((31 : Int64) * x1_25) + ((r_27).toInt64))), (0, .ref (a 0))]) hx hb dX10_digest_123 hl (k := 2) rfl rfl (by decide) rfl (fun ls hl => ?_)
                      have s123 := i_s1 (x := x3_26) (by omega)
                      refine lv_goto (tgt := 104) hx hb dX10_digest_126 (by decide) ?_
                      exact ih_L104_24 (((31 : Int64) * x1_25) + ((r_27).toInt64)) (x3_26 + (1 : Int32)) (by omega) (by omega) he _ _ _ hX (lv_sub hl [2, 1, 0] rfl)
                exact L104_24 12 x1_21 (0 : Int32) (by omega) (by omega) he _ _ _ hX (lv_sub hl [1, 2, 0] rfl)
              · have he := he.trans (if_neg c77)
                have d77 := i_nle c77
                refine lv_ldc2 (v := (31 : Int64)) hx hb hown l_constantLong_236 dX10_digest_80 ?_
                refine lv_lload_n hx hb dX10_digest_83 rfl (lv_at hl 1 rfl) ?_
                refine lv_lmul hx hb dX10_digest_84 ?_
                refine lv_aload_n hx hb dX10_digest_85 rfl (lv_at hl 0 rfl) ?_
                refine va_get (D := D) (ci := 10) (v := .ref (a 1)) (C := RX10) (T := TX10) (N := 14) hx hb hts hi_X10 hown hS.1 hX.1 0 rfl rfl 0 (by decide) l_fieldLink_10 (fun _ h9 => h9) rfl dX10_digest_86 ?_
                refine lv_iload_n hx hb dX10_digest_89 rfl (lv_at hl 2 rfl) ?_
                obtain ⟨r_28, e90⟩ : ∃ z, z = (f_X5_at plen lett x3_22) := ⟨_, rfl⟩
                rw [← e90] at he
                refine g_Vi (r := r_28) (As := [.int x3_22]) (rest := [.long ((31 : Int64) * x1_21)]) (ci := 5) (q0 := 1) ⟨hx, hb, hml, hown, hts⟩ hS hX (k_X5_at x3_22 (by omega) (by assumption) r_28 e90) (cwV 1 hts gX10_digest_X5_at rfl rfl rfl (by decide +kernel) ⟨Nat.le_of_ble_eq_true rfl, Nat.le_of_ble_eq_true rfl⟩) rfl rfl rfl hl.1 rfl (Nat.le_of_ble_eq_true rfl) dX10_digest_90 ⟨Nat.zero_le _, Nat.zero_le _⟩ (fun H locs hX => ?_)
                refine lv_i2l hx hb dX10_digest_93 rfl ?_
                refine lv_ladd hx hb dX10_digest_94 ?_
                refine lv_lstore_n (lv' := [(1, .long (((31 : Int64) * x1_21) + ((r_28).toInt64))), (0, .ref (a 0)), (3, .int x3_22)]) hx hb dX10_digest_95 rfl hl (by decide) rfl (fun ls hl => ?_)
                refine lv_iinc (v := (x3_22 + (1 : Int32))) (lv' := [(3, .int (x3_22 + (1 : Int32))), (1, .long (((31 : Int64) * x1_21) + ((r_28).toInt64))), (0, .ref (a 0))]) hx hb dX10_digest_96 hl (k := 2) rfl rfl (by decide) rfl (fun ls hl => ?_)
                have s96 := i_s1 (x := x3_22) (by omega)
                refine lv_goto (tgt := 69) hx hb dX10_digest_99 (by decide) ?_
                exact ih_L69_20 (((31 : Int64) * x1_21) + ((r_28).toInt64)) (x3_22 + (1 : Int32)) (by omega) (by omega) he _ _ _ hX (lv_sub hl [2, 1, 0] rfl)
          exact L69_20 27 z_19.1 (0 : Int32) (by omega) (by omega) he _ _ _ hX (lv_sub hl [2, 1, 0] rfl)
      · have he := he.trans (if_neg c14)
        have d14 := i_nle c14
        refine lv_iconst (v := (0 : Int32)) hx hb dX10_digest_17 (by decide) ?_
        refine lv_istore (lv' := [(4, .int (0 : Int32)), (0, .ref (a 0)), (1, .long x1_7), (3, .int x3_8)]) hx hb dX10_digest_18 hl (by decide) rfl (fun ls hl => ?_)
        have L20_29 : ∀ (kk_L20_29 : (Int32) → (Nat → Int32) → (Nat → Int32) → (Nat → Int64) → (Nat → Int64) → (Int64) → (Int32) → Int64 × Int32 × (Nat → Int32) × (Nat → Int32) × (Nat → Int64) × (Nat → Int64)), (∀ (isCharted_37 : Int32) (lcuts_38 : Nat → Int32) (valu_39 : Nat → Int32) (won_40 : Nat → Int64) (chance_41 : Nat → Int64) (x1_42 : Int64) (x4_43 : Int32), q = kk_L20_29 isCharted_37 lcuts_38 valu_39 won_40 chance_41 x1_42 x4_43 → ∀ (H : Heap) (locs : List Loc) (ls : Array Slot), gX D Z s (wG a cA isCharted_37 isKept hedgesRead evensDone plen number setCount standing turn cuts ssize kstanding kturn kcuts kssize seed whiteWon cutsDone lett onB abv sets kinds sbranches sbeginners swon kkinds ksbranches ksbeginners kswon lcuts_38 valu_39 won_40 chance_41) H locs → lv_has ls 5 [(0, .ref (a 0)), (1, .long x1_42), (3, .int x3_8), (4, .int x4_43)] → W p l e rm_X10_digest s m args below meth c H locs 0 0 Qz (F0 m 48 ls [])) → ∀ (n_20_29 : Nat) (isCharted_30 : Int32) (lcuts_31 : Nat → Int32) (valu_32 : Nat → Int32) (won_33 : Nat → Int64) (chance_34 : Nat → Int64) (x1_35 : Int64) (x4_36 : Int32), 0 ≤ (x4_36).toInt ∧ (x4_36).toInt ≤ 8 → 8 - (x4_36).toInt < (n_20_29 : Int) → q = f_X10_digest_L20 kk_L20_29 n_20_29 isCharted_30 hedgesRead evensDone plen number setCount standing turn cuts ssize lett onB abv sets kinds sbranches sbeginners swon lcuts_31 valu_32 won_33 chance_34 x1_35 x3_8 x4_36 → ∀ (H : Heap) (locs : List Loc) (ls : Array Slot), gX D Z s (wG a cA isCharted_30 isKept hedgesRead evensDone plen number setCount standing turn cuts ssize kstanding kturn kcuts kssize seed whiteWon cutsDone lett onB abv sets kinds sbranches sbeginners swon kkinds ksbranches ksbeginners kswon lcuts_31 valu_32 won_33 chance_34) H locs → lv_has ls 5 [(0, .ref (a 0)), (1, .long x1_35), (3, .int x3_8), (4, .int x4_36)] → W p l e rm_X10_digest s m args below meth c H locs 0 0 Qz (F0 m 20 ls []) := by
          intro kk_L20_29 hk_L20_29
          intro n_20_29
          induction n_20_29 with
          | zero =>
            intro isCharted_30 lcuts_31 valu_32 won_33 chance_34 x1_35 x4_36 iai ifui _ _ _ _ _ _
            exfalso; omega
          | succ n_20_29 ih_L20_29 =>
            intro isCharted_30 lcuts_31 valu_32 won_33 chance_34 x1_35 x4_36 iai ifui he H locs ls hX hl
            have he := he.trans f_X10_digest_L20_s
            refine lv_iload hx hb dX10_digest_20 (lv_at hl 3 rfl) ?_
            refine lv_bipush (v := (8 : Int32)) hx hb dX10_digest_22 (by decide) ?_
            refine lv_icmp_ge (tgt := 48) hx hb dX10_digest_24 (by decide) (fun c24 => ?_) (fun c24 => ?_)
            · have he := he.trans (if_pos c24)
              have d24 := i_le c24
              exact hk_L20_29 isCharted_30 lcuts_31 valu_32 won_33 chance_34 x1_35 x4_36 he _ _ _ hX (lv_sub hl [0, 1, 2, 3] rfl)
            · have he := he.trans (if_neg c24)
              have d24 := i_nle c24
              refine lv_ldc2 (v := (31 : Int64)) hx hb hown l_constantLong_236 dX10_digest_27 ?_
              refine lv_lload_n hx hb dX10_digest_30 rfl (lv_at hl 1 rfl) ?_
              refine lv_lmul hx hb dX10_digest_31 ?_
              refine lv_aload_n hx hb dX10_digest_32 rfl (lv_at hl 0 rfl) ?_
              refine lv_iload_n hx hb dX10_digest_33 rfl (lv_at hl 2 rfl) ?_
              refine lv_iload hx hb dX10_digest_34 (lv_at hl 3 rfl) ?_
              obtain ⟨z_44, e36⟩ : ∃ z, z = (f_X10_branch isCharted_30 number setCount standing ssize onB abv sets kinds sbranches sbeginners swon lcuts_31 valu_32 won_33 chance_34 x3_8 x4_36) := ⟨_, rfl⟩
              rw [← e36] at he
              try dsimp only at he
              refine g_Vi (r := z_44.1) (w2 := (wG a cA z_44.2.1 isKept hedgesRead evensDone plen number setCount standing turn cuts ssize kstanding kturn kcuts kssize seed whiteWon cutsDone lett onB abv sets kinds sbranches sbeginners swon kkinds ksbranches ksbeginners kswon z_44.2.2.1 z_44.2.2.2.1 z_44.2.2.2.2.1 z_44.2.2.2.2.2)) (As := [.int x3_8, .int x4_36]) (rest := [.long ((31 : Int64) * x1_35)]) (ci := 10) (q0 := 0) ⟨hx, hb, hml, hown, hts⟩ hS hX (k_X10_branch x3_8 x4_36 (by omega) (by omega) (by assumption) (by omega) (by omega) (by assumption) z_44 e36) (cwV 2 hts gX10_digest_X10_branch rfl rfl rfl (by decide +kernel) ⟨Nat.le_of_ble_eq_true rfl, Nat.le_of_ble_eq_true rfl⟩) rfl rfl rfl hl.1 rfl (Nat.le_of_ble_eq_true rfl) dX10_digest_36 ⟨Nat.zero_le _, Nat.zero_le _⟩ (fun H locs hX => ?_)
              refine lv_i2l hx hb dX10_digest_39 rfl ?_
              refine lv_ladd hx hb dX10_digest_40 ?_
              refine lv_lstore_n (lv' := [(1, .long (((31 : Int64) * x1_35) + ((z_44.1).toInt64))), (0, .ref (a 0)), (3, .int x3_8), (4, .int x4_36)]) hx hb dX10_digest_41 rfl hl (by decide) rfl (fun ls hl => ?_)
              refine lv_iinc (v := (x4_36 + (1 : Int32))) (lv' := [(4, .int (x4_36 + (1 : Int32))), (1, .long (((31 : Int64) * x1_35) + ((z_44.1).toInt64))), (0, .ref (a 0)), (3, .int x3_8)]) hx hb dX10_digest_42 hl (k := 3) rfl rfl (by decide) rfl (fun ls hl => ?_)
              have s42 := i_s1 (x := x4_36) (by omega)
              refine lv_goto (tgt := 20) hx hb dX10_digest_45 (by decide) ?_
              exact ih_L20_29 z_44.2.1 z_44.2.2.1 z_44.2.2.2.1 z_44.2.2.2.2.1 z_44.2.2.2.2.2 (((31 : Int64) * x1_35) + ((z_44.1).toInt64)) (x4_36 + (1 : Int32)) (by omega) (by omega) he _ _ _ hX (lv_sub hl [2, 1, 3, 0] rfl)
        refine L20_29 _ (fun isCharted_37 lcuts_38 valu_39 won_40 chance_41 x1_42 x4_43 he H locs ls hX hl => ?_) 9 isCharted_2 lcuts_3 valu_4 won_5 chance_6 x1_7 (0 : Int32) (by omega) (by omega) he _ _ _ hX (lv_sub hl [1, 2, 3, 0] rfl)
        refine lv_iinc (v := (x3_8 + (1 : Int32))) (lv' := [(3, .int (x3_8 + (1 : Int32))), (0, .ref (a 0)), (1, .long x1_42), (4, .int x4_43)]) hx hb dX10_digest_48 hl (k := 2) rfl rfl (by decide) rfl (fun ls hl => ?_)
        have s48 := i_s1 (x := x3_8) (by omega)
        refine lv_goto (tgt := 6) hx hb dX10_digest_51 (by decide) ?_
        exact ih_L6_1 isCharted_37 lcuts_38 valu_39 won_40 chance_41 x1_42 (x3_8 + (1 : Int32)) (by omega) (by omega) he _ _ _ hX (lv_sub hl [1, 2, 0] rfl)
  exact L6_1 9 isCharted lcuts valu won chance (1283 : Int64) (0 : Int32) (by omega) (by omega) he _ _ _ hX (lv_sub hl [2, 1, 0] rfl)
