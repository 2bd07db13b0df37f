abbrev rm_J6_bitCount_0f7a4 : Room := { frames := 0, cells := 0, slots := 0, locals := 0 }
set_option maxHeartbeats 4000000 in
set_option maxRecDepth 100000 in
theorem k_J6_bitCount_0f7a4 {l : Launch} {D : va_G} {E : sE} {w : va_W} {tys : List (ClassId × FieldType)} (p1 : Int32)  : ∀ q : Int32, q = f_J6_bitCount_0f7a4 p1 → gMi l yJ6_bitCount_0f7a4 wsJ6_bitCount_0f7a4 rm_J6_bitCount_0f7a4 D E tys [.int p1] w w q := by
  intro q he0
  refine gM_of (cc := cJ6_bitCount_0f7a4) (maxL := 1) (ret := (some .int)) (Qf := gQi D w q) (by decide) rfl (Nat.le_of_ble_eq_true rfl) ?_
  intro p e s m args below meth c Z ls Qz hx hb hr hml hlocks hown hts hS hX hl hq
  have he := he0.trans f_J6_bitCount_0f7a4_s
  have hown : s.vm.findClass RJ6 = some m.cls := hown
  have hl : lv_has ls 1 [(0, .int p1)] := hl
  have l_constant_265 := hts (Cond.constant RJ6 265 (1431655765)) (List.mem_of_getElem? (i := 1) rfl)
  have l_constant_266 := hts (Cond.constant RJ6 266 (858993459)) (List.mem_of_getElem? (i := 2) rfl)
  have l_constant_267 := hts (Cond.constant RJ6 267 (252645135)) (List.mem_of_getElem? (i := 3) rfl)
  have t0 : ((0 : Int32)).toInt = 0 := rfl
  have t1 : ((1 : Int32)).toInt = 1 := rfl
  have t2 : ((2 : Int32)).toInt = 2 := rfl
  have t4 : ((4 : Int32)).toInt = 4 := rfl
  have t8 : ((8 : Int32)).toInt = 8 := rfl
  have t16 : ((16 : Int32)).toInt = 16 := rfl
  have t63 : ((63 : Int32)).toInt = 63 := rfl
  have t252645135 : ((252645135 : Int32)).toInt = 252645135 := rfl
  have t858993459 : ((858993459 : Int32)).toInt = 858993459 := rfl
  have t1431655765 : ((1431655765 : Int32)).toInt = 1431655765 := rfl
  refine lv_iload_n hx hb dJ6_bitCount_0f7a4_0 rfl (lv_at hl 0 rfl) ?_
  refine lv_iload_n hx hb dJ6_bitCount_0f7a4_1 rfl (lv_at hl 0 rfl) ?_
  refine lv_iconst (v := (1 : Int32)) hx hb dJ6_bitCount_0f7a4_2 (by decide) ?_
  refine lv_iushr hx hb dJ6_bitCount_0f7a4_3 rfl ?_
  refine lv_ldcw (v := (1431655765 : Int32)) hx hb hown l_constant_265 dJ6_bitCount_0f7a4_4 ?_
  refine lv_iand hx hb dJ6_bitCount_0f7a4_7 ?_
  refine lv_isub hx hb dJ6_bitCount_0f7a4_8 ?_
  refine lv_istore_n (lv' := [(0, .int (p1 - (((p1.toUInt32 >>> ((1 : Int32).toUInt32 &&& Int32.toUInt32 31)).toInt32) &&& (1431655765 : Int32))))]) hx hb dJ6_bitCount_0f7a4_9 rfl hl (by decide) rfl (fun ls hl => ?_)
  refine lv_iload_n hx hb dJ6_bitCount_0f7a4_10 rfl (lv_at hl 0 rfl) ?_
  refine lv_ldcw (v := (858993459 : Int32)) hx hb hown l_constant_266 dJ6_bitCount_0f7a4_11 ?_
  refine lv_iand hx hb dJ6_bitCount_0f7a4_14 ?_
  refine lv_iload_n hx hb dJ6_bitCount_0f7a4_15 rfl (lv_at hl 0 rfl) ?_
  refine lv_iconst (v := (2 : Int32)) hx hb dJ6_bitCount_0f7a4_16 (by decide) ?_
  refine lv_iushr hx hb dJ6_bitCount_0f7a4_17 rfl ?_
  refine lv_ldcw (v := (858993459 : Int32)) hx hb hown l_constant_266 dJ6_bitCount_0f7a4_18 ?_
  refine lv_iand hx hb dJ6_bitCount_0f7a4_21 ?_
  refine lv_iadd hx hb dJ6_bitCount_0f7a4_22 ?_
  refine lv_istore_n (lv' := [(0, .int (((p1 - (((p1.toUInt32 >>> ((1 : Int32).toUInt32 &&& Int32.toUInt32 31)).toInt32) &&& (1431655765 : Int32))) &&& (858993459 : Int32)) + ((((p1 - (((p1.toUInt32 >>> ((1 : Int32).toUInt32 &&& Int32.toUInt32 31)).toInt32) &&& (1431655765 : Int32))).toUInt32 >>> ((2 : Int32).toUInt32 &&& Int32.toUInt32 31)).toInt32) &&& (858993459 : Int32))))]) hx hb dJ6_bitCount_0f7a4_23 rfl hl (by decide) rfl (fun ls hl => ?_)
  refine lv_iload_n hx hb dJ6_bitCount_0f7a4_24 rfl (lv_at hl 0 rfl) ?_
  refine lv_iload_n hx hb dJ6_bitCount_0f7a4_25 rfl (lv_at hl 0 rfl) ?_
  refine lv_iconst (v := (4 : Int32)) hx hb dJ6_bitCount_0f7a4_26 (by decide) ?_
  refine lv_iushr hx hb dJ6_bitCount_0f7a4_27 rfl ?_
  refine lv_iadd hx hb dJ6_bitCount_0f7a4_28 ?_
  refine lv_ldcw (v := (252645135 : Int32)) hx hb hown l_constant_267 dJ6_bitCount_0f7a4_29 ?_
  refine lv_iand hx hb dJ6_bitCount_0f7a4_32 ?_
  refine lv_istore_n (lv' := [(0, .int (((((p1 - (((p1.toUInt32 >>> ((1 : Int32).toUInt32 &&& Int32.toUInt32 31)).toInt32) &&& (1431655765 : Int32))) &&& (858993459 : Int32)) + ((((p1 - (((p1.toUInt32 >>> ((1 : Int32).toUInt32 &&& Int32.toUInt32 31)).toInt32) &&& (1431655765 : Int32))).toUInt32 >>> ((2 : Int32).toUInt32 &&& Int32.toUInt32 31)).toInt32) &&& (858993459 : Int32))) + (((((p1 - (((p1.toUInt32 >>> ((1 : Int32).toUInt32 &&& Int32.toUInt32 31)).toInt32) &&& (1431655765 : Int32))) &&& (858993459 : Int32)) + ((((p1 - (((p1.toUInt32 >>> ((1 : Int32).toUInt32 &&& Int32.toUInt32 31)).toInt32) &&& (1431655765 : Int32))).toUInt32 >>> ((2 : Int32).toUInt32 &&& Int32.toUInt32 31)).toInt32) &&& (858993459 : Int32))).toUInt32 >>> ((4 : Int32).toUInt32 &&& Int32.toUInt32 31)).toInt32)) &&& (252645135 : Int32)))]) hx hb dJ6_bitCount_0f7a4_33 rfl hl (by decide) rfl (fun ls hl => ?_)
  refine lv_iload_n hx hb dJ6_bitCount_0f7a4_34 rfl (lv_at hl 0 rfl) ?_
  refine lv_iload_n hx hb dJ6_bitCount_0f7a4_35 rfl (lv_at hl 0 rfl) ?_
  refine lv_bipush (v := (8 : Int32)) hx hb dJ6_bitCount_0f7a4_36 (by decide) ?_
  refine lv_iushr hx hb dJ6_bitCount_0f7a4_38 rfl ?_
  refine lv_iadd hx hb dJ6_bitCount_0f7a4_39 ?_
  refine lv_istore_n (lv' := [(0, .int ((((((p1 - (((p1.toUInt32 >>> ((1 : Int32).toUInt32 &&& Int32.toUInt32 31)).toInt32) &&& (1431655765 : Int32))) &&& (858993459 : Int32)) + ((((p1 - (((p1.toUInt32 >>> ((1 : Int32).toUInt32 &&& Int32.toUInt32 31)).toInt32) &&& (1431655765 : Int32))).toUInt32 >>> ((2 : Int32).toUInt32 &&& Int32.toUInt32 31)).toInt32) &&& (858993459 : Int32))) + (((((p1 - (((p1.toUInt32 >>> ((1 : Int32).toUInt32 &&& Int32.toUInt32 31)).toInt32) &&& (1431655765 : Int32))) &&& (858993459 : Int32)) + ((((p1 - (((p1.toUInt32 >>> ((1 : Int32).toUInt32 &&& Int32.toUInt32 31)).toInt32) &&& (1431655765 : Int32))).toUInt32 >>> ((2 : Int32).toUInt32 &&& Int32.toUInt32 31)).toInt32) &&& (858993459 : Int32))).toUInt32 >>> ((4 : Int32).toUInt32 &&& Int32.toUInt32 31)).toInt32)) &&& (252645135 : Int32)) + (((((((p1 - (((p1.toUInt32 >>> ((1 : Int32).toUInt32 &&& Int32.toUInt32 31)).toInt32) &&& (1431655765 : Int32))) &&& (858993459 : Int32)) + ((((p1 - (((p1.toUInt32 >>> ((1 : Int32).toUInt32 &&& Int32.toUInt32 31)).toInt32) &&& (1431655765 : Int32))).toUInt32 >>> ((2 : Int32).toUInt32 &&& Int32.toUInt32 31)).toInt32) &&& (858993459 : Int32))) + (((((p1 - (((p1.toUInt32 >>> ((1 : Int32).toUInt32 &&& Int32.toUInt32 31)).toInt32) &&& (1431655765 : Int32))) &&& (858993459 : Int32)) + ((((p1 - (((p1.toUInt32 >>> ((1 : Int32).toUInt32 &&& Int32.toUInt32 31)).toInt32) &&& (1431655765 : Int32))).toUInt32 >>> ((2 : Int32).toUInt32 &&& Int32.toUInt32 31)).toInt32) &&& (858993459 : Int32))).toUInt32 >>> ((4 : Int32).toUInt32 &&& Int32.toUInt32 31)).toInt32)) &&& (252645135 : Int32)).toUInt32 >>> ((8 : Int32).toUInt32 &&& Int32.toUInt32 31)).toInt32)))]) hx hb dJ6_bitCount_0f7a4_40 rfl hl (by decide) rfl (fun ls hl => ?_)
  refine lv_iload_n hx hb dJ6_bitCount_0f7a4_41 rfl (lv_at hl 0 rfl) ?_
  refine lv_iload_n hx hb dJ6_bitCount_0f7a4_42 rfl (lv_at hl 0 rfl) ?_
  refine lv_bipush (v := (16 : Int32)) hx hb dJ6_bitCount_0f7a4_43 (by decide) ?_
  refine lv_iushr hx hb dJ6_bitCount_0f7a4_45 rfl ?_
  refine lv_iadd hx hb dJ6_bitCount_0f7a4_46 ?_
  refine lv_istore_n (lv' := [(0, .int (((((((p1 - (((p1.toUInt32 >>> ((1 : Int32).toUInt32 &&& Int32.toUInt32 31)).toInt32) &&& (1431655765 : Int32))) &&& (858993459 : Int32)) + ((((p1 - (((p1.toUInt32 >>> ((1 : Int32).toUInt32 &&& Int32.toUInt32 31)).toInt32) &&& (1431655765 : Int32))).toUInt32 >>> ((2 : Int32).toUInt32 &&& Int32.toUInt32 31)).toInt32) &&& (858993459 : Int32))) + (((((p1 - (((p1.toUInt32 >>> ((1 : Int32).toUInt32 &&& Int32.toUInt32 31)).toInt32) &&& (1431655765 : Int32))) &&& (858993459 : Int32)) + ((((p1 - (((p1.toUInt32 >>> ((1 : Int32).toUInt32 &&& Int32.toUInt32 31)).toInt32) &&& (1431655765 : Int32))).toUInt32 >>> ((2 : Int32).toUInt32 &&& Int32.toUInt32 31)).toInt32) &&& (858993459 : Int32))).toUInt32 >>> ((4 : Int32).toUInt32 &&& Int32.toUInt32 31)).toInt32)) &&& (252645135 : Int32)) + (((((((p1 - (((p1.toUInt32 >>> ((1 : Int32).toUInt32 &&& Int32.toUInt32 31)).toInt32) &&& (1431655765 : Int32))) &&& (858993459 : Int32)) + ((((p1 - (((p1.toUInt32 >>> ((1 : Int32).toUInt32 &&& Int32.toUInt32 31)).toInt32) &&& (1431655765 : Int32))).toUInt32 >>> ((2 : Int32).toUInt32 &&& Int32.toUInt32 31)).toInt32) &&& (858993459 : Int32))) + (((((p1 - (((p1.toUInt32 >>> ((1 : Int32).toUInt32 &&& Int32.toUInt32 31)).toInt32) &&& (1431655765 : Int32))) &&& (858993459 : Int32)) + ((((p1 - (((p1.toUInt32 >>> ((1 : Int32).toUInt32 &&& Int32.toUInt32 31)).toInt32) &&& (1431655765 : Int32))).toUInt32 >>> ((2 : Int32).toUInt32 &&& Int32.toUInt32 31)).toInt32) &&& (858993459 : Int32))).toUInt32 >>> ((4 : Int32).toUInt32 &&& Int32.toUInt32 31)).toInt32)) &&& (252645135 : Int32)).toUInt32 >>> ((8 : Int32).toUInt32 &&& Int32.toUInt32 31)).toInt32)) + ((((((((p1 - (((p1.toUInt32 >>> ((1 : Int32).toUInt32 &&& Int32.toUInt32 31)).toInt32) &&& (1431655765 : Int32))) &&& (858993459 : Int32)) + ((((p1 - (((p1.toUInt32 >>> ((1 : Int32).toUInt32 &&& Int32.toUInt32 31)).toInt32) &&& (1431655765 : Int32))).toUInt32 >>> ((2 : Int32).toUInt32 &&& Int32.toUInt32 31)).toInt32) &&& (858993459 : Int32))) + (((((p1 - (((p1.toUInt32 >>> ((1 : Int32).toUInt32 &&& Int32.toUInt32 31)).toInt32) &&& (1431655765 : Int32))) &&& (858993459 : Int32)) + ((((p1 - (((p1.toUInt32 >>> ((1 : Int32).toUInt32 &&& Int32.toUInt32 31)).toInt32) &&& (1431655765 : Int32))).toUInt32 >>> ((2 : Int32).toUInt32 &&& Int32.toUInt32 31)).toInt32) &&& (858993459 : Int32))).toUInt32 >>> ((4 : Int32).toUInt32 &&& Int32.toUInt32 31)).toInt32)) &&& (252645135 : Int32)) + (((((((p1 - (((p1.toUInt32 >>> ((1 : Int32).toUInt32 &&& Int32.toUInt32 31)).toInt32) &&& (1431655765 : Int32))) &&& (858993459 : Int32)) + ((((p1 - (((p1.toUInt32 >>> ((1 : Int32).toUInt32 &&& Int32.toUInt32 31)).toInt32) &&& (1431655765 : Int32))).toUInt32 >>> ((2 : Int32).toUInt32 &&& Int32.toUInt32 31)).toInt32) &&& (858993459 : Int32))) + (((((p1 - (((p1.toUInt32 >>> ((1 : Int32).toUInt32 &&& Int32.toUInt32 31)).toInt32) &&& (1431655765 : Int32))) &&& (858993459 : Int32)) + ((((p1 - (((p1.toUInt32 >>> ((1 : Int32).toUInt32 &&& Int32.toUInt32 31)).toInt32) &&& (1431655765 : Int32))).toUInt32 >>> ((2 : Int32).toUInt32 &&& Int32.toUInt32 31)).toInt32) &&& (858993459 : Int32))).toUInt32 >>> ((4 : Int32).toUInt32 &&& Int32.toUInt32 31)).toInt32)) &&& (252645135 : Int32)).toUInt32 >>> ((8 : Int32).toUInt32 &&& Int32.toUInt32 31)).toInt32)).toUInt32 >>> ((16 : Int32).toUInt32 &&& Int32.toUInt32 31)).toInt32)))]) hx hb dJ6_bitCount_0f7a4_47 rfl hl (by decide) rfl (fun ls hl => ?_)
  refine lv_iload_n hx hb dJ6_bitCount_0f7a4_48 rfl (lv_at hl 0 rfl) ?_
  refine lv_bipush (v := (63 : Int32)) hx hb dJ6_bitCount_0f7a4_49 (by decide) ?_
  refine lv_iand hx hb dJ6_bitCount_0f7a4_51 ?_
  subst he
  exact g_iret hx hb hr hlocks hX hq rfl dJ6_bitCount_0f7a4_52
abbrev rm_J1_canEncode_9a6ad : Room := { frames := 0, cells := 0, slots := 0, locals := 0 }
set_option maxHeartbeats 4000000 in
set_option maxRecDepth 100000 in
theorem k_J1_canEncode_9a6ad {l : Launch} {D : va_G} {E : sE} {w : va_W} {tys : List (ClassId × FieldType)} (p1 : Int32)  : ∀ q : Int32, q = f_J1_canEncode_9a6ad p1 → gMi l yJ1_canEncode_9a6ad wsJ1_canEncode_9a6ad rm_J1_canEncode_9a6ad D E tys [.int p1] w w q := by
  intro q he0
  refine gM_of (cc := cJ1_canEncode_9a6ad) (maxL := 1) (ret := (some .boolean)) (Qf := gQi D w q) (by decide) rfl (Nat.le_of_ble_eq_true rfl) ?_
  intro p e s m args below meth c Z ls Qz hx hb hr hml hlocks hown hts hS hX hl hq
  have he := he0.trans f_J1_canEncode_9a6ad_s
  have hown : s.vm.findClass RJ1 = some m.cls := hown
  have hl : lv_has ls 1 [(0, .int p1)] := hl
  have t0 : ((0 : Int32)).toInt = 0 := rfl
  have t1 : ((1 : Int32)).toInt = 1 := rfl
  have t255 : ((255 : Int32)).toInt = 255 := rfl
  refine lv_iload_n hx hb dJ1_canEncode_9a6ad_0 rfl (lv_at hl 0 rfl) ?_
  refine lv_if_lt (tgt := 15) hx hb dJ1_canEncode_9a6ad_1 (by decide) (fun c1 => ?_) (fun c1 => ?_)
  · have he := he.trans (if_pos c1)
    have d1 := i_lt c1
    refine lv_iconst (v := (0 : Int32)) hx hb dJ1_canEncode_9a6ad_15 (by decide) ?_
    subst he
    exact g_zret hx hb hr rfl hlocks hX hq rfl dJ1_canEncode_9a6ad_16
  · have he := he.trans (if_neg c1)
    have d1 := i_nlt c1
    refine lv_iload_n hx hb dJ1_canEncode_9a6ad_4 rfl (lv_at hl 0 rfl) ?_
    refine lv_sipush (v := (255 : Int32)) hx hb dJ1_canEncode_9a6ad_5 (by decide) ?_
    refine lv_icmp_gt (tgt := 15) hx hb dJ1_canEncode_9a6ad_8 (by decide) (fun c8 => ?_) (fun c8 => ?_)
    · have he := he.trans (if_pos c8)
      have d8 := i_lt c8
      refine lv_iconst (v := (0 : Int32)) hx hb dJ1_canEncode_9a6ad_15 (by decide) ?_
      subst he
      exact g_zret hx hb hr rfl hlocks hX hq rfl dJ1_canEncode_9a6ad_16
    · have he := he.trans (if_neg c8)
      have d8 := i_nlt c8
      refine lv_iconst (v := (1 : Int32)) hx hb dJ1_canEncode_9a6ad_11 (by decide) ?_
      refine lv_goto (tgt := 16) hx hb dJ1_canEncode_9a6ad_12 (by decide) ?_
      subst he
      exact g_zret hx hb hr rfl hlocks hX hq rfl dJ1_canEncode_9a6ad_16
abbrev rm_J1_indexOfChar_4cfef : Room := { frames := 0, cells := 0, slots := 0, locals := 0 }
set_option maxHeartbeats 4000000 in
set_option maxRecDepth 100000 in
theorem k_J1_indexOfChar_4cfef {l : Launch} {D : va_G} {E : sE} {w : va_W} {tys : List (ClassId × FieldType)} (p2 : Int32) (p3 : Int32) (p4 : Int32) (h3 : 0 ≤ (p3).toInt) (h4 : (p4).toInt ≤ 5) : ∀ q : Int32, q = f_J1_indexOfChar_4cfef p2 p3 p4 → gMi l yJ1_indexOfChar_4cfef wsJ1_indexOfChar_4cfef rm_J1_indexOfChar_4cfef D E tys [.ref E.2.2, .int p2, .int p3, .int p4] w w q := by
  intro q he0
  refine gM_of (cc := cJ1_indexOfChar_4cfef) (maxL := 6) (ret := (some .int)) (Qf := gQi D w q) (by decide) rfl (Nat.le_of_ble_eq_true rfl) ?_
  intro p e s m args below meth c Z ls Qz hx hb hr hml hlocks hown hts hS hX hl hq
  have he := he0.trans f_J1_indexOfChar_4cfef_s
  have hown : s.vm.findClass RJ1 = some m.cls := hown
  have hl : lv_has ls 6 [(0, .ref E.2.2), (1, .int p2), (2, .int p3), (3, .int p4)] := hl
  have tm1 : ((-1 : Int32)).toInt = -1 := rfl
  have t0 : ((0 : Int32)).toInt = 0 := rfl
  have t1 : ((1 : Int32)).toInt = 1 := rfl
  refine lv_iload_n hx hb dJ1_indexOfChar_4cfef_0 rfl (lv_at hl 1 rfl) ?_
  refine lv_i2b hx hb dJ1_indexOfChar_4cfef_1 rfl ?_
  refine lv_istore (lv' := [(4, .int ((p2).toInt8.toInt32)), (0, .ref E.2.2), (1, .int p2), (2, .int p3), (3, .int p4)]) hx hb dJ1_indexOfChar_4cfef_2 hl (by decide) rfl (fun ls hl => ?_)
  refine lv_iload_n hx hb dJ1_indexOfChar_4cfef_4 rfl (lv_at hl 3 rfl) ?_
  refine lv_istore (lv' := [(5, .int p3), (4, .int ((p2).toInt8.toInt32)), (0, .ref E.2.2), (1, .int p2), (2, .int p3), (3, .int p4)]) hx hb dJ1_indexOfChar_4cfef_5 hl (by decide) rfl (fun ls hl => ?_)
  have L7_1 : ∀ (n_7_1 : Nat) (x5_2 : Int32), 0 ≤ (x5_2).toInt → 5 - (x5_2).toInt < (n_7_1 : Int) ∧ 1 ≤ n_7_1 → q = f_J1_indexOfChar_4cfef_L7 n_7_1 p2 p3 p4 ((p2).toInt8.toInt32) x5_2 → ∀ (H : Heap) (locs : List Loc) (ls : Array Slot), gX D Z s w H locs → lv_has ls 6 [(0, .ref E.2.2), (1, .int p2), (2, .int p3), (3, .int p4), (4, .int ((p2).toInt8.toInt32)), (5, .int x5_2)] → W p l e rm_J1_indexOfChar_4cfef s m args below meth c H locs 0 0 Qz (F0 m 7 ls []) := by
    intro n_7_1
    induction n_7_1 with
    | zero =>
      intro x5_2 ia ifu _ _ _ _ _ _
      exfalso; omega
    | succ n_7_1 ih_L7_1 =>
      intro x5_2 ia ifu he H locs ls hX hl
      have he := he.trans f_J1_indexOfChar_4cfef_L7_s
      refine lv_iload hx hb dJ1_indexOfChar_4cfef_7 (lv_at hl 5 rfl) ?_
      refine lv_iload_n hx hb dJ1_indexOfChar_4cfef_9 rfl (lv_at hl 3 rfl) ?_
      refine lv_icmp_ge (tgt := 31) hx hb dJ1_indexOfChar_4cfef_10 (by decide) (fun c10 => ?_) (fun c10 => ?_)
      · have he := he.trans (if_pos c10)
        have d10 := i_le c10
        refine lv_iconst (v := (-1 : Int32)) hx hb dJ1_indexOfChar_4cfef_31 (by decide) ?_
        subst he
        exact g_iret hx hb hr hlocks hX hq rfl dJ1_indexOfChar_4cfef_32
      · have he := he.trans (if_neg c10)
        have d10 := i_nle c10
        refine lv_aload_n hx hb dJ1_indexOfChar_4cfef_13 rfl (lv_at hl 0 rfl) ?_
        refine lv_iload hx hb dJ1_indexOfChar_4cfef_14 (lv_at hl 5 rfl) ?_
        refine va_tb (N := 5) (v := .int (([98, 119, 100, 105, 116] : List Int32).getD (x5_2).toNatClampNeg 0)) hx hb (hS.2.2.2.1.2.2.1.1 0 (by decide)).2.2.2 hX.2.2 (vp_in_iff.mpr (by omega)) rfl dJ1_indexOfChar_4cfef_16 ?_
        refine lv_iload hx hb dJ1_indexOfChar_4cfef_17 (lv_at hl 4 rfl) ?_
        refine lv_icmp_ne (tgt := 25) hx hb dJ1_indexOfChar_4cfef_19 (by decide) (fun c19 => ?_) (fun c19 => ?_)
        · have he := he.trans (if_neg c19)
          have d19 := i_ne c19
          refine lv_iinc (v := (x5_2 + (1 : Int32))) (lv' := [(5, .int (x5_2 + (1 : Int32))), (0, .ref E.2.2), (1, .int p2), (2, .int p3), (3, .int p4), (4, .int ((p2).toInt8.toInt32))]) hx hb dJ1_indexOfChar_4cfef_25 hl (k := 5) rfl rfl (by decide) rfl (fun ls hl => ?_)
          have s25 := i_s1 (x := x5_2) (by omega)
          refine lv_goto (tgt := 7) hx hb dJ1_indexOfChar_4cfef_28 (by decide) ?_
          exact ih_L7_1 (x5_2 + (1 : Int32)) (by omega) (by omega) he _ _ _ hX (lv_sub hl [1, 2, 3, 4, 5, 0] rfl)
        · have he := he.trans (if_pos c19)
          have d19 := i_eq c19
          refine lv_iload hx hb dJ1_indexOfChar_4cfef_22 (lv_at hl 5 rfl) ?_
          subst he
          exact g_iret hx hb hr hlocks hX hq rfl dJ1_indexOfChar_4cfef_24
  exact L7_1 6 p3 (by omega) (by omega) he _ _ _ hX (lv_sub hl [2, 3, 4, 5, 1, 0] rfl)
abbrev rm_J1_indexOf_4cfef : Room := { frames := 1, cells := 0, slots := 0, locals := 25 }
set_option maxHeartbeats 4000000 in
set_option maxRecDepth 100000 in
theorem k_J1_indexOf_4cfef {l : Launch} {D : va_G} {E : sE} {w : va_W} {tys : List (ClassId × FieldType)} (p2 : Int32) (p3 : Int32) (p4 : Int32) (h3 : (p3).toInt = 0) (h4 : (p4).toInt = 5) : ∀ q : Int32, q = f_J1_indexOf_4cfef p2 p3 p4 → gMi l yJ1_indexOf_4cfef wsJ1_indexOf_4cfef rm_J1_indexOf_4cfef D E tys [.ref E.2.2, .int p2, .int p3, .int p4] w w q := by
  intro q he0
  refine gM_of (cc := cJ1_indexOf_4cfef) (maxL := 4) (ret := (some .int)) (Qf := gQi D w q) (by decide) rfl (Nat.le_of_ble_eq_true rfl) ?_
  intro p e s m args below meth c Z ls Qz hx hb hr hml hlocks hown hts hS hX hl hq
  have he := he0.trans f_J1_indexOf_4cfef_s
  have hown : s.vm.findClass RJ1 = some m.cls := hown
  have hl : lv_has ls 4 [(0, .ref E.2.2), (1, .int p2), (2, .int p3), (3, .int p4)] := hl
  have l_w_1 := hts (Cond.methodLink RJ1 92 Lib.Math.max.name) (List.mem_of_getElem? (i := 1) rfl)
  have l_w_2 := hts (Cond.static Lib.Math.max.name) (List.mem_of_getElem? (i := 2) rfl)
  have l_w_3 := hts (Cond.initialized "java/lang/Math") (List.mem_of_getElem? (i := 3) rfl)
  have l_w_4 := hts (Cond.code Lib.Math.max.name Lib.Math.max.code 2 (some .int)) (List.mem_of_getElem? (i := 4) rfl)
  have l_w_5 := hts (Cond.methodLink RJ1 38 Lib.Math.min.name) (List.mem_of_getElem? (i := 5) rfl)
  have l_w_6 := hts (Cond.static Lib.Math.min.name) (List.mem_of_getElem? (i := 6) rfl)
  have l_w_7 := hts (Cond.code Lib.Math.min.name Lib.Math.min.code 2 (some .int)) (List.mem_of_getElem? (i := 7) rfl)
  have tm1 : ((-1 : Int32)).toInt = -1 := rfl
  have t0 : ((0 : Int32)).toInt = 0 := rfl
  have t1 : ((1 : Int32)).toInt = 1 := rfl
  have t5 : ((5 : Int32)).toInt = 5 := rfl
  refine lv_iload_n hx hb dJ1_indexOf_4cfef_0 rfl (lv_at hl 1 rfl) ?_
  obtain ⟨r_1, e1⟩ : ∃ z, z = (f_J1_canEncode_9a6ad p2) := ⟨_, rfl⟩
  rw [← e1] at he
  refine g_Si (r := r_1) (As := [.int p2]) (rest := []) ⟨hx, hb, hml, hown, hts⟩ hS hX (k_J1_canEncode_9a6ad p2 r_1 e1) (va_cwS 1 hts gJ1_indexOf_4cfef_J1_canEncode_9a6ad rfl rfl rfl (by decide +kernel) ⟨Nat.le_of_ble_eq_true rfl, Nat.le_of_ble_eq_true rfl⟩) rfl hl.1 rfl (Nat.le_of_ble_eq_true rfl) dJ1_indexOf_4cfef_1 ⟨Nat.zero_le _, Nat.zero_le _⟩ (fun H locs hX => ?_)
  refine lv_if_ne (tgt := 9) hx hb dJ1_indexOf_4cfef_4 (by decide) (fun c4 => ?_) (fun c4 => ?_)
  · have he := he.trans (if_neg c4)
    have d4 := i_ne c4
    refine lv_iload_n hx hb dJ1_indexOf_4cfef_9 rfl (lv_at hl 2 rfl) ?_
    refine lv_iconst (v := (0 : Int32)) hx hb dJ1_indexOf_4cfef_10 (by decide) ?_
    refine va_mmax hx hb (hml.trans hl.1.symm) hown l_w_1 l_w_2 l_w_3 l_w_4 (Nat.le_of_ble_eq_true rfl) (Nat.le_of_ble_eq_true rfl) (Nat.zero_le _) (Nat.zero_le _) dJ1_indexOf_4cfef_11 ?_
    refine lv_istore_n (lv' := [(2, .int (if p3 < (0 : Int32) then (0 : Int32) else p3)), (0, .ref E.2.2), (1, .int p2), (3, .int p4)]) hx hb dJ1_indexOf_4cfef_14 rfl hl (by decide) rfl (fun ls hl => ?_)
    refine lv_iload_n hx hb dJ1_indexOf_4cfef_15 rfl (lv_at hl 3 rfl) ?_
    refine lv_aload_n hx hb dJ1_indexOf_4cfef_16 rfl (lv_at hl 1 rfl) ?_
    refine va_tlen (N := 5) (v := (5 : Int32)) hx hb (hS.2.2.2.1.2.2.1.1 0 (by decide)).2.2.2 hX.2.2 rfl dJ1_indexOf_4cfef_17 ?_
    refine va_mmin hx hb (hml.trans hl.1.symm) hown l_w_5 l_w_6 l_w_3 l_w_7 (Nat.le_of_ble_eq_true rfl) (Nat.le_of_ble_eq_true rfl) (Nat.zero_le _) (Nat.zero_le _) dJ1_indexOf_4cfef_18 ?_
    refine lv_istore_n (lv' := [(3, .int (if (5 : Int32) < p4 then (5 : Int32) else p4)), (2, .int (if p3 < (0 : Int32) then (0 : Int32) else p3)), (0, .ref E.2.2), (1, .int p2)]) hx hb dJ1_indexOf_4cfef_21 rfl hl (by decide) rfl (fun ls hl => ?_)
    have g14 : 0 ≤ ((if p3 < (0 : Int32) then (0 : Int32) else p3)).toInt := i_max0
    have g21 : ((if (5 : Int32) < p4 then (5 : Int32) else p4)).toInt ≤ 5 := i_min5
    refine lv_iload_n hx hb dJ1_indexOf_4cfef_22 rfl (lv_at hl 1 rfl) ?_
    refine lv_iload_n hx hb dJ1_indexOf_4cfef_23 rfl (lv_at hl 0 rfl) ?_
    refine lv_icmp_lt (tgt := 29) hx hb dJ1_indexOf_4cfef_24 (by decide) (fun c24 => ?_) (fun c24 => ?_)
    · have he := he.trans (if_pos c24)
      have d24 := i_lt c24
      refine lv_aload_n hx hb dJ1_indexOf_4cfef_29 rfl (lv_at hl 2 rfl) ?_
      refine lv_iload_n hx hb dJ1_indexOf_4cfef_30 rfl (lv_at hl 3 rfl) ?_
      refine lv_iload_n hx hb dJ1_indexOf_4cfef_31 rfl (lv_at hl 1 rfl) ?_
      refine lv_iload_n hx hb dJ1_indexOf_4cfef_32 rfl (lv_at hl 0 rfl) ?_
      obtain ⟨r_2, e33⟩ : ∃ z, z = (f_J1_indexOfChar_4cfef p2 (if p3 < (0 : Int32) then (0 : Int32) else p3) (if (5 : Int32) < p4 then (5 : Int32) else p4)) := ⟨_, rfl⟩
      rw [← e33] at he
      refine g_Si (r := r_2) (As := [.ref E.2.2, .int p2, .int (if p3 < (0 : Int32) then (0 : Int32) else p3), .int (if (5 : Int32) < p4 then (5 : Int32) else p4)]) (rest := []) ⟨hx, hb, hml, hown, hts⟩ hS hX (k_J1_indexOfChar_4cfef p2 (if p3 < (0 : Int32) then (0 : Int32) else p3) (if (5 : Int32) < p4 then (5 : Int32) else p4) (by omega) (by omega) r_2 e33) (va_cwS 4 hts gJ1_indexOf_4cfef_J1_indexOfChar_4cfef rfl rfl rfl (by decide +kernel) ⟨Nat.le_of_ble_eq_true rfl, Nat.le_of_ble_eq_true rfl⟩) rfl hl.1 rfl (Nat.le_of_ble_eq_true rfl) dJ1_indexOf_4cfef_33 ⟨Nat.zero_le _, Nat.zero_le _⟩ (fun H locs hX => ?_)
      subst he
      exact g_iret hx hb hr hlocks hX hq rfl dJ1_indexOf_4cfef_36
    · have he := he.trans (if_neg c24)
      have d24 := i_nlt c24
      refine lv_iconst (v := (-1 : Int32)) hx hb dJ1_indexOf_4cfef_27 (by decide) ?_
      subst he
      exact g_iret hx hb hr hlocks hX hq rfl dJ1_indexOf_4cfef_28
  · have he := he.trans (if_pos c4)
    have d4 := i_eq c4
    refine lv_iconst (v := (-1 : Int32)) hx hb dJ1_indexOf_4cfef_7 (by decide) ?_
    subst he
    exact g_iret hx hb hr hlocks hX hq rfl dJ1_indexOf_4cfef_8
abbrev rm_J0_coder_7d493 : Room := { frames := 0, cells := 0, slots := 0, locals := 0 }
set_option maxHeartbeats 4000000 in
set_option maxRecDepth 100000 in
theorem k_J0_coder_7d493 {l : Launch} {D : va_G} {E : sE} {w : va_W} {tys : List (ClassId × FieldType)}   : ∀ q : Int32, q = f_J0_coder_7d493  → gMi l yJ0_coder_7d493 wsJ0_coder_7d493 rm_J0_coder_7d493 D E tys [.ref E.2.1] w w q := by
  intro q he0
  refine gM_of (cc := cJ0_coder_7d493) (maxL := 1) (ret := (some .byte)) (Qf := gQi D w q) (by decide) rfl (Nat.le_of_ble_eq_true rfl) ?_
  intro p e s m args below meth c Z ls Qz hx hb hr hml hlocks hown hts hS hX hl hq
  have he := he0.trans f_J0_coder_7d493_s
  have hown : s.vm.findClass RJ0 = some m.cls := hown
  have hl : lv_has ls 1 [(0, .ref E.2.1)] := hl
  have l_fieldLink_15 := hts (Cond.fieldLink RJ0 15 "java/lang/String" "coder" "B") (List.mem_of_getElem? (i := 2) rfl)
  have l_fieldLink_38 := hts (Cond.fieldLink RJ0 38 "java/lang/String" "COMPACT_STRINGS" "Z") (List.mem_of_getElem? (i := 1) rfl)
  have t0 : ((0 : Int32)).toInt = 0 := rfl
  have t1 : ((1 : Int32)).toInt = 1 := rfl
  refine va_gets (v := .int (1 : Int32)) hx hb hS.2.2.2.1.2.2.2 hX.2.2 hown l_fieldLink_38 (fun _ h9 => h9) dJ0_coder_7d493_0 ?_
  refine lv_if_eq (tgt := 13) hx hb dJ0_coder_7d493_3 (by decide) (fun c3 => ?_) (fun c3 => ?_)
  · have he := he.trans (if_pos c3)
    have d3 := i_eq c3
    refine lv_iconst (v := (1 : Int32)) hx hb dJ0_coder_7d493_13 (by decide) ?_
    subst he
    exact g_zret hx hb hr (by decide) hlocks hX hq rfl dJ0_coder_7d493_14
  · have he := he.trans (if_neg c3)
    have d3 := i_ne c3
    refine lv_aload_n hx hb dJ0_coder_7d493_6 rfl (lv_at hl 0 rfl) ?_
    refine vk_getf (v := .int (0 : Int32)) hx hb (hS.2.2.2.1.2.2.1.1 0 (by decide)).2.1 hX.2.2 hown l_fieldLink_15 (fun _ h9 => h9) dJ0_coder_7d493_7 ?_
    refine lv_goto (tgt := 14) hx hb dJ0_coder_7d493_10 (by decide) ?_
    subst he
    exact g_zret hx hb hr (by decide) hlocks hX hq rfl dJ0_coder_7d493_14
abbrev rm_J0_isLatin1_aae02 : Room := { frames := 0, cells := 0, slots := 0, locals := 0 }
set_option maxHeartbeats 4000000 in
set_option maxRecDepth 100000 in
theorem k_J0_isLatin1_aae02 {l : Launch} {D : va_G} {E : sE} {w : va_W} {tys : List (ClassId × FieldType)}   : ∀ q : Int32, q = f_J0_isLatin1_aae02  → gMi l yJ0_isLatin1_aae02 wsJ0_isLatin1_aae02 rm_J0_isLatin1_aae02 D E tys [.ref E.2.1] w w q := by
  intro q he0
  refine gM_of (cc := cJ0_isLatin1_aae02) (maxL := 1) (ret := (some .boolean)) (Qf := gQi D w q) (by decide) rfl (Nat.le_of_ble_eq_true rfl) ?_
  intro p e s m args below meth c Z ls Qz hx hb hr hml hlocks hown hts hS hX hl hq
  have he := he0.trans f_J0_isLatin1_aae02_s
  have hown : s.vm.findClass RJ0 = some m.cls := hown
  have hl : lv_has ls 1 [(0, .ref E.2.1)] := hl
  have l_fieldLink_15 := hts (Cond.fieldLink RJ0 15 "java/lang/String" "coder" "B") (List.mem_of_getElem? (i := 2) rfl)
  have l_fieldLink_38 := hts (Cond.fieldLink RJ0 38 "java/lang/String" "COMPACT_STRINGS" "Z") (List.mem_of_getElem? (i := 1) rfl)
  have t0 : ((0 : Int32)).toInt = 0 := rfl
  have t1 : ((1 : Int32)).toInt = 1 := rfl
  refine va_gets (v := .int (1 : Int32)) hx hb hS.2.2.2.1.2.2.2 hX.2.2 hown l_fieldLink_38 (fun _ h9 => h9) dJ0_isLatin1_aae02_0 ?_
  refine lv_if_eq (tgt := 17) hx hb dJ0_isLatin1_aae02_3 (by decide) (fun c3 => ?_) (fun c3 => ?_)
  · have he := he.trans (if_pos c3)
    have d3 := i_eq c3
    refine lv_iconst (v := (0 : Int32)) hx hb dJ0_isLatin1_aae02_17 (by decide) ?_
    subst he
    exact g_zret hx hb hr rfl hlocks hX hq rfl dJ0_isLatin1_aae02_18
  · have he := he.trans (if_neg c3)
    have d3 := i_ne c3
    refine lv_aload_n hx hb dJ0_isLatin1_aae02_6 rfl (lv_at hl 0 rfl) ?_
    refine vk_getf (v := .int (0 : Int32)) hx hb (hS.2.2.2.1.2.2.1.1 0 (by decide)).2.1 hX.2.2 hown l_fieldLink_15 (fun _ h9 => h9) dJ0_isLatin1_aae02_7 ?_
    refine lv_if_ne (tgt := 17) hx hb dJ0_isLatin1_aae02_10 (by decide) (fun c10 => ?_) (fun c10 => ?_)
    · have he := he.trans (if_neg c10)
      have d10 := i_ne c10
      refine lv_iconst (v := (0 : Int32)) hx hb dJ0_isLatin1_aae02_17 (by decide) ?_
      subst he
      exact g_zret hx hb hr rfl hlocks hX hq rfl dJ0_isLatin1_aae02_18
    · have he := he.trans (if_pos c10)
      have d10 := i_eq c10
      refine lv_iconst (v := (1 : Int32)) hx hb dJ0_isLatin1_aae02_13 (by decide) ?_
      refine lv_goto (tgt := 18) hx hb dJ0_isLatin1_aae02_14 (by decide) ?_
      subst he
      exact g_zret hx hb hr rfl hlocks hX hq rfl dJ0_isLatin1_aae02_18
abbrev rm_J0_length_8abf5 : Room := { frames := 1, cells := 0, slots := 0, locals := 20 }
set_option maxHeartbeats 4000000 in
set_option maxRecDepth 100000 in
theorem k_J0_length_8abf5 {l : Launch} {D : va_G} {E : sE} {w : va_W} {tys : List (ClassId × FieldType)}   : ∀ q : Int32, q = f_J0_length_8abf5  → gMi l yJ0_length_8abf5 wsJ0_length_8abf5 rm_J0_length_8abf5 D E tys [.ref E.2.1] w w q := by
  intro q he0
  refine gM_of (cc := cJ0_length_8abf5) (maxL := 1) (ret := (some .int)) (Qf := gQi D w q) (by decide) rfl (Nat.le_of_ble_eq_true rfl) ?_
  intro p e s m args below meth c Z ls Qz hx hb hr hml hlocks hown hts hS hX hl hq
  have he := he0.trans f_J0_length_8abf5_s
  have hown : s.vm.findClass RJ0 = some m.cls := hown
  have hl : lv_has ls 1 [(0, .ref E.2.1)] := hl
  have l_fieldLink_9 := hts (Cond.fieldLink RJ0 9 "java/lang/String" "value" "[B") (List.mem_of_getElem? (i := 1) rfl)
  have t0 : ((0 : Int32)).toInt = 0 := rfl
  have t1 : ((1 : Int32)).toInt = 1 := rfl
  have t5 : ((5 : Int32)).toInt = 5 := rfl
  refine lv_aload_n hx hb dJ0_length_8abf5_0 rfl (lv_at hl 0 rfl) ?_
  refine vk_getf (v := .ref E.2.2) hx hb (hS.2.2.2.1.2.2.1.1 0 (by decide)).2.2.1 hX.2.2 hown l_fieldLink_9 (fun _ h9 => h9) dJ0_length_8abf5_1 ?_
  refine va_tlen (N := 5) (v := (5 : Int32)) hx hb (hS.2.2.2.1.2.2.1.1 0 (by decide)).2.2.2 hX.2.2 rfl dJ0_length_8abf5_4 ?_
  refine lv_aload_n hx hb dJ0_length_8abf5_5 rfl (lv_at hl 0 rfl) ?_
  obtain ⟨r_1, e6⟩ : ∃ z, z = f_J0_coder_7d493 := ⟨_, rfl⟩
  rw [← e6] at he
  refine g_Ji (r := r_1) (As := []) (rest := [.int (5 : Int32)]) ⟨hx, hb, hml, hown, hts⟩ hS hX (k_J0_coder_7d493  r_1 e6) (cwV 0 hts gJ0_length_8abf5_J0_coder_7d493 rfl rfl rfl (by decide +kernel) ⟨Nat.le_of_ble_eq_true rfl, Nat.le_of_ble_eq_true rfl⟩) rfl hl.1 rfl (Nat.le_of_ble_eq_true rfl) dJ0_length_8abf5_6 ⟨Nat.zero_le _, Nat.zero_le _⟩ (fun H locs hX => ?_)
  refine lv_ishr hx hb dJ0_length_8abf5_9 ?_
  subst he
  exact g_iret hx hb hr hlocks hX hq rfl dJ0_length_8abf5_10
abbrev rm_J0_indexOf_7cf53 : Room := { frames := 2, cells := 0, slots := 0, locals := 48 }
set_option maxHeartbeats 4000000 in
set_option maxRecDepth 100000 in
theorem k_J0_indexOf_7cf53 {l : Launch} {D : va_G} {E : sE} {w : va_W} {tys : List (ClassId × FieldType)} (p1 : Int32) (p2 : Int32) (h2 : (p2).toInt = 0) : ∀ q : Int32, q = f_J0_indexOf_7cf53 p1 p2 → gMi l yJ0_indexOf_7cf53 wsJ0_indexOf_7cf53 rm_J0_indexOf_7cf53 D E tys [.ref E.2.1, .int p1, .int p2] w w q := by
  intro q he0
  refine gM_of (cc := cJ0_indexOf_7cf53) (maxL := 3) (ret := (some .int)) (Qf := gQi D w q) (by decide) rfl (Nat.le_of_ble_eq_true rfl) ?_
  intro p e s m args below meth c Z ls Qz hx hb hr hml hlocks hown hts hS hX hl hq
  have he := he0.trans f_J0_indexOf_7cf53_s
  have hown : s.vm.findClass RJ0 = some m.cls := hown
  have hl : lv_has ls 3 [(0, .ref E.2.1), (1, .int p1), (2, .int p2)] := hl
  have l_fieldLink_9 := hts (Cond.fieldLink RJ0 9 "java/lang/String" "value" "[B") (List.mem_of_getElem? (i := 1) rfl)
  have t0 : ((0 : Int32)).toInt = 0 := rfl
  have t1 : ((1 : Int32)).toInt = 1 := rfl
  refine lv_aload_n hx hb dJ0_indexOf_7cf53_0 rfl (lv_at hl 0 rfl) ?_
  obtain ⟨r_1, e1⟩ : ∃ z, z = f_J0_isLatin1_aae02 := ⟨_, rfl⟩
  rw [← e1] at he
  refine g_Ji (r := r_1) (As := []) (rest := []) ⟨hx, hb, hml, hown, hts⟩ hS hX (k_J0_isLatin1_aae02  r_1 e1) (cwV 0 hts gJ0_indexOf_7cf53_J0_isLatin1_aae02 rfl rfl rfl (by decide +kernel) ⟨Nat.le_of_ble_eq_true rfl, Nat.le_of_ble_eq_true rfl⟩) rfl hl.1 rfl (Nat.le_of_ble_eq_true rfl) dJ0_indexOf_7cf53_1 ⟨Nat.zero_le _, Nat.zero_le _⟩ (fun H locs hX => ?_)
  refine lv_if_eq (tgt := 23) hx hb dJ0_indexOf_7cf53_4 (by decide) (fun c4 => ?_) (fun c4 => ?_)
  · exact absurd (e1.symm.trans c4) (by decide)
  · have he := he.trans (if_neg c4)
    have d4 := i_ne c4
    refine lv_aload_n hx hb dJ0_indexOf_7cf53_7 rfl (lv_at hl 0 rfl) ?_
    refine vk_getf (v := .ref E.2.2) hx hb (hS.2.2.2.1.2.2.1.1 0 (by decide)).2.2.1 hX.2.2 hown l_fieldLink_9 (fun _ h9 => h9) dJ0_indexOf_7cf53_8 ?_
    refine lv_iload_n hx hb dJ0_indexOf_7cf53_11 rfl (lv_at hl 1 rfl) ?_
    refine lv_iload_n hx hb dJ0_indexOf_7cf53_12 rfl (lv_at hl 2 rfl) ?_
    refine lv_aload_n hx hb dJ0_indexOf_7cf53_13 rfl (lv_at hl 0 rfl) ?_
    obtain ⟨r_2, e14⟩ : ∃ z, z = f_J0_length_8abf5 := ⟨_, rfl⟩
    rw [← e14] at he
    refine g_Ji (r := r_2) (As := []) (rest := [.int p2, .int p1, .ref E.2.2]) ⟨hx, hb, hml, hown, hts⟩ hS hX (k_J0_length_8abf5  r_2 e14) (cwV 0 hts gJ0_indexOf_7cf53_J0_length_8abf5 rfl rfl rfl (by decide +kernel) ⟨Nat.le_of_ble_eq_true rfl, Nat.le_of_ble_eq_true rfl⟩) rfl hl.1 rfl (Nat.le_of_ble_eq_true rfl) dJ0_indexOf_7cf53_14 ⟨Nat.zero_le _, Nat.zero_le _⟩ (fun H locs hX => ?_)
    have k14_0 : (r_2).toInt = 5 := by rw [e14]; exact (by decide)
    obtain ⟨r_3, e17⟩ : ∃ z, z = (f_J1_indexOf_4cfef p1 p2 r_2) := ⟨_, rfl⟩
    rw [← e17] at he
    refine g_Si (r := r_3) (As := [.ref E.2.2, .int p1, .int p2, .int r_2]) (rest := []) ⟨hx, hb, hml, hown, hts⟩ hS hX (k_J1_indexOf_4cfef p1 p2 r_2 (by omega) (by omega) r_3 e17) (va_cwS 4 hts gJ0_indexOf_7cf53_J1_indexOf_4cfef rfl rfl rfl (by decide +kernel) ⟨Nat.le_of_ble_eq_true rfl, Nat.le_of_ble_eq_true rfl⟩) rfl hl.1 rfl (Nat.le_of_ble_eq_true rfl) dJ0_indexOf_7cf53_17 ⟨Nat.zero_le _, Nat.zero_le _⟩ (fun H locs hX => ?_)
    refine lv_goto (tgt := 36) hx hb dJ0_indexOf_7cf53_20 (by decide) ?_
    subst he
    exact g_iret hx hb hr hlocks hX hq rfl dJ0_indexOf_7cf53_36
abbrev rm_J0_indexOf_0f7a4 : Room := { frames := 3, cells := 0, slots := 0, locals := 70 }
set_option maxHeartbeats 4000000 in
set_option maxRecDepth 100000 in
theorem k_J0_indexOf_0f7a4 {l : Launch} {D : va_G} {E : sE} {w : va_W} {tys : List (ClassId × FieldType)} (p1 : Int32)  : ∀ q : Int32, q = f_J0_indexOf_0f7a4 p1 → gMi l yJ0_indexOf_0f7a4 wsJ0_indexOf_0f7a4 rm_J0_indexOf_0f7a4 D E tys [.ref E.2.1, .int p1] w w q := by
  intro q he0
  refine gM_of (cc := cJ0_indexOf_0f7a4) (maxL := 2) (ret := (some .int)) (Qf := gQi D w q) (by decide) rfl (Nat.le_of_ble_eq_true rfl) ?_
  intro p e s m args below meth c Z ls Qz hx hb hr hml hlocks hown hts hS hX hl hq
  have he := he0.trans f_J0_indexOf_0f7a4_s
  have hown : s.vm.findClass RJ0 = some m.cls := hown
  have hl : lv_has ls 2 [(0, .ref E.2.1), (1, .int p1)] := hl
  have t0 : ((0 : Int32)).toInt = 0 := rfl
  have t1 : ((1 : Int32)).toInt = 1 := rfl
  refine lv_aload_n hx hb dJ0_indexOf_0f7a4_0 rfl (lv_at hl 0 rfl) ?_
  refine lv_iload_n hx hb dJ0_indexOf_0f7a4_1 rfl (lv_at hl 1 rfl) ?_
  refine lv_iconst (v := (0 : Int32)) hx hb dJ0_indexOf_0f7a4_2 (by decide) ?_
  obtain ⟨r_1, e3⟩ : ∃ z, z = (f_J0_indexOf_7cf53 p1 (0 : Int32)) := ⟨_, rfl⟩
  rw [← e3] at he
  refine g_Ji (r := r_1) (As := [.int p1, .int (0 : Int32)]) (rest := []) ⟨hx, hb, hml, hown, hts⟩ hS hX (k_J0_indexOf_7cf53 p1 (0 : Int32) (by omega) r_1 e3) (cwV 2 hts gJ0_indexOf_0f7a4_J0_indexOf_7cf53 rfl rfl rfl (by decide +kernel) ⟨Nat.le_of_ble_eq_true rfl, Nat.le_of_ble_eq_true rfl⟩) rfl hl.1 rfl (Nat.le_of_ble_eq_true rfl) dJ0_indexOf_0f7a4_3 ⟨Nat.zero_le _, Nat.zero_le _⟩ (fun H locs hX => ?_)
  subst he
  exact g_iret hx hb hr hlocks hX hq rfl dJ0_indexOf_0f7a4_6
abbrev rm_X10_isNoSide : Room := { frames := 0, cells := 0, slots := 0, locals := 0 }
set_option maxHeartbeats 4000000 in
set_option maxRecDepth 100000 in
theorem k_X10_isNoSide {l : Launch} {D : va_G} {E : sE} {w : va_W} {tys : List (ClassId × FieldType)} (p1 : Int32)  : ∀ q : Int32, q = f_X10_isNoSide p1 → gMi l yX10_isNoSide wsX10_isNoSide rm_X10_isNoSide D E tys [.int p1] w w q := by
  intro q he0
  refine gM_of (cc := cX10_isNoSide) (maxL := 1) (ret := (some .boolean)) (Qf := gQi D w q) (by decide) rfl (Nat.le_of_ble_eq_true rfl) ?_
  intro p e s m args below meth c Z ls Qz hx hb hr hml hlocks hown hts hS hX hl hq
  have he := he0.trans f_X10_isNoSide_s
  have hown : s.vm.findClass RX10 = some m.cls := hown
  have hl : lv_has ls 1 [(0, .int p1)] := hl
  have t0 : ((0 : Int32)).toInt = 0 := rfl
  have t1 : ((1 : Int32)).toInt = 1 := rfl
  refine lv_iload_n hx hb dX10_isNoSide_0 rfl (lv_at hl 0 rfl) ?_
  refine lv_if_eq (tgt := 13) hx hb dX10_isNoSide_1 (by decide) (fun c1 => ?_) (fun c1 => ?_)
  · have he := he.trans (if_pos c1)
    have d1 := i_eq c1
    refine lv_iconst (v := (0 : Int32)) hx hb dX10_isNoSide_13 (by decide) ?_
    subst he
    exact g_zret hx hb hr rfl hlocks hX hq rfl dX10_isNoSide_14
  · have he := he.trans (if_neg c1)
    have d1 := i_ne c1
    refine lv_iload_n hx hb dX10_isNoSide_4 rfl (lv_at hl 0 rfl) ?_
    refine lv_iconst (v := (1 : Int32)) hx hb dX10_isNoSide_5 (by decide) ?_
    refine lv_icmp_eq (tgt := 13) hx hb dX10_isNoSide_6 (by decide) (fun c6 => ?_) (fun c6 => ?_)
    · have he := he.trans (if_pos c6)
      have d6 := i_eq c6
      refine lv_iconst (v := (0 : Int32)) hx hb dX10_isNoSide_13 (by decide) ?_
      subst he
      exact g_zret hx hb hr rfl hlocks hX hq rfl dX10_isNoSide_14
    · have he := he.trans (if_neg c6)
      have d6 := i_ne c6
      refine lv_iconst (v := (1 : Int32)) hx hb dX10_isNoSide_9 (by decide) ?_
      refine lv_goto (tgt := 14) hx hb dX10_isNoSide_10 (by decide) ?_
      subst he
      exact g_zret hx hb hr rfl hlocks hX hq rfl dX10_isNoSide_14
abbrev rm_X10_place : Room := { frames := 0, cells := 0, slots := 0, locals := 0 }
set_option maxHeartbeats 4000000 in
set_option maxRecDepth 100000 in
theorem k_X10_place {l : Launch} {D : va_G} {E : sE} {w : va_W} {tys : List (ClassId × FieldType)} (p1 : Int32) (p2 : Int32)  : ∀ q : Int32, q = f_X10_place p1 p2 → gMi l yX10_place wsX10_place rm_X10_place D E tys [.int p1, .int p2] w w q := by
  intro q he0
  refine gM_of (cc := cX10_place) (maxL := 2) (ret := (some .int)) (Qf := gQi D w q) (by decide) rfl (Nat.le_of_ble_eq_true rfl) ?_
  intro p e s m args below meth c Z ls Qz hx hb hr hml hlocks hown hts hS hX hl hq
  have he := he0.trans f_X10_place_s
  have hown : s.vm.findClass RX10 = some m.cls := hown
  have hl : lv_has ls 2 [(0, .int p1), (1, .int p2)] := hl
  have t0 : ((0 : Int32)).toInt = 0 := rfl
  have t1 : ((1 : Int32)).toInt = 1 := rfl
  have t256 : ((256 : Int32)).toInt = 256 := rfl
  refine lv_iload_n hx hb dX10_place_0 rfl (lv_at hl 0 rfl) ?_
  refine lv_sipush (v := (256 : Int32)) hx hb dX10_place_1 (by decide) ?_
  refine lv_imul hx hb dX10_place_4 ?_
  refine lv_iload_n hx hb dX10_place_5 rfl (lv_at hl 1 rfl) ?_
  refine lv_iadd hx hb dX10_place_6 ?_
  subst he
  exact g_iret hx hb hr hlocks hX hq rfl dX10_place_7
abbrev rm_X10_mostLeft : Room := { frames := 1, cells := 0, slots := 0, locals := 21 }
set_option maxHeartbeats 4000000 in
set_option maxRecDepth 100000 in
theorem k_X10_mostLeft {l : Launch} {D : va_G} {E : sE} {w : va_W} {tys : List (ClassId × FieldType)} (p1 : Int32) (p2 : Int32)  : ∀ q : Int32, q = f_X10_mostLeft p1 p2 → gMi l yX10_mostLeft wsX10_mostLeft rm_X10_mostLeft D E tys [.int p1, .int p2] w w q := by
  intro q he0
  refine gM_of (cc := cX10_mostLeft) (maxL := 2) (ret := (some .int)) (Qf := gQi D w q) (by decide) rfl (Nat.le_of_ble_eq_true rfl) ?_
  intro p e s m args below meth c Z ls Qz hx hb hr hml hlocks hown hts hS hX hl hq
  have he := he0.trans f_X10_mostLeft_s
  have hown : s.vm.findClass RX10 = some m.cls := hown
  have hl : lv_has ls 2 [(0, .int p1), (1, .int p2)] := hl
  have l_w_1 := hts (Cond.methodLink RX10 301 Lib.Math.max.name) (List.mem_of_getElem? (i := 1) rfl)
  have l_w_2 := hts (Cond.static Lib.Math.max.name) (List.mem_of_getElem? (i := 2) rfl)
  have l_w_3 := hts (Cond.initialized "java/lang/Math") (List.mem_of_getElem? (i := 3) rfl)
  have l_w_4 := hts (Cond.code Lib.Math.max.name Lib.Math.max.code 2 (some .int)) (List.mem_of_getElem? (i := 4) rfl)
  have tm1 : ((-1 : Int32)).toInt = -1 := rfl
  have t0 : ((0 : Int32)).toInt = 0 := rfl
  have t1 : ((1 : Int32)).toInt = 1 := rfl
  refine lv_iload_n hx hb dX10_mostLeft_0 rfl (lv_at hl 0 rfl) ?_
  refine lv_iload_n hx hb dX10_mostLeft_1 rfl (lv_at hl 1 rfl) ?_
  refine lv_iand hx hb dX10_mostLeft_2 ?_
  obtain ⟨r_1, e3⟩ : ∃ z, z = (f_J6_bitCount_0f7a4 (p1 &&& p2)) := ⟨_, rfl⟩
  rw [← e3] at he
  refine g_Si (r := r_1) (As := [.int (p1 &&& p2)]) (rest := []) ⟨hx, hb, hml, hown, hts⟩ hS hX (k_J6_bitCount_0f7a4 (p1 &&& p2) r_1 e3) (va_cwS 1 hts gX10_mostLeft_J6_bitCount_0f7a4 rfl rfl rfl (by decide +kernel) ⟨Nat.le_of_ble_eq_true rfl, Nat.le_of_ble_eq_true rfl⟩) rfl hl.1 rfl (Nat.le_of_ble_eq_true rfl) dX10_mostLeft_3 ⟨Nat.zero_le _, Nat.zero_le _⟩ (fun H locs hX => ?_)
  refine lv_iload_n hx hb dX10_mostLeft_6 rfl (lv_at hl 0 rfl) ?_
  refine lv_iload_n hx hb dX10_mostLeft_7 rfl (lv_at hl 1 rfl) ?_
  refine lv_iconst (v := (-1 : Int32)) hx hb dX10_mostLeft_8 (by decide) ?_
  refine lv_ixor hx hb dX10_mostLeft_9 ?_
  refine lv_iand hx hb dX10_mostLeft_10 ?_
  obtain ⟨r_2, e11⟩ : ∃ z, z = (f_J6_bitCount_0f7a4 (p1 &&& (p2 ^^^ (-1 : Int32)))) := ⟨_, rfl⟩
  rw [← e11] at he
  refine g_Si (r := r_2) (As := [.int (p1 &&& (p2 ^^^ (-1 : Int32)))]) (rest := [.int r_1]) ⟨hx, hb, hml, hown, hts⟩ hS hX (k_J6_bitCount_0f7a4 (p1 &&& (p2 ^^^ (-1 : Int32))) r_2 e11) (va_cwS 1 hts gX10_mostLeft_J6_bitCount_0f7a4 rfl rfl rfl (by decide +kernel) ⟨Nat.le_of_ble_eq_true rfl, Nat.le_of_ble_eq_true rfl⟩) rfl hl.1 rfl (Nat.le_of_ble_eq_true rfl) dX10_mostLeft_11 ⟨Nat.zero_le _, Nat.zero_le _⟩ (fun H locs hX => ?_)
  refine va_mmax hx hb (hml.trans hl.1.symm) hown l_w_1 l_w_2 l_w_3 l_w_4 (Nat.le_of_ble_eq_true rfl) (Nat.le_of_ble_eq_true rfl) (Nat.zero_le _) (Nat.zero_le _) dX10_mostLeft_14 ?_
  subst he
  exact g_iret hx hb hr hlocks hX hq rfl dX10_mostLeft_17
