abbrev rm_X9_simplestBetween : Room := { frames := 0, cells := 0, slots := 0, locals := 0 }
set_option maxHeartbeats 4000000 in
set_option maxRecDepth 100000 in
theorem k_X9_simplestBetween {l : Launch} {D : va_G} {E : sE} {w : va_W} {tys : List (ClassId × FieldType)} (p1 : Int32) (p2 : Int32)  : ∀ q : Int32, q = f_X9_simplestBetween p1 p2 → gMi l yX9_simplestBetween wsX9_simplestBetween rm_X9_simplestBetween D E tys [.int p1, .int p2] w w q := by
  intro q he0
  refine gM_of (cc := cX9_simplestBetween) (maxL := 7) (ret := (some .int)) (Qf := gQi D w q) (by decide) rfl (Nat.le_of_ble_eq_true rfl) ?_
  intro p e s m args below meth c Z ls Qz hx hb hr hml hlocks hown hts hS hX hl hq
  have he := he0.trans f_X9_simplestBetween_s
  have hown : s.vm.findClass RX9 = some m.cls := hown
  have hl : lv_has ls 7 [(0, .int p1), (1, .int p2)] := hl
  have tm1 : ((-1 : Int32)).toInt = -1 := rfl
  have t0 : ((0 : Int32)).toInt = 0 := rfl
  have t1 : ((1 : Int32)).toInt = 1 := rfl
  have t2 : ((2 : Int32)).toInt = 2 := rfl
  have t256 : ((256 : Int32)).toInt = 256 := rfl
  refine lv_iload_n hx hb dX9_simplestBetween_0 rfl (lv_at hl 0 rfl) ?_
  refine lv_if_ge (tgt := 10) hx hb dX9_simplestBetween_1 (by decide) (fun c1 => ?_) (fun c1 => ?_)
  · have he := he.trans (if_pos c1)
    have d1 := i_le c1
    refine lv_iload_n hx hb dX9_simplestBetween_10 rfl (lv_at hl 0 rfl) ?_
    refine lv_if_lt (tgt := 18) hx hb dX9_simplestBetween_11 (by decide) (fun c11 => ?_) (fun c11 => ?_)
    · have he := he.trans (if_pos c11)
      have d11 := i_lt c11
      refine lv_iconst (v := (-1 : Int32)) hx hb dX9_simplestBetween_18 (by decide) ?_
      refine lv_istore_n (lv' := [(2, .int (-1 : Int32)), (0, .int p1), (1, .int p2)]) hx hb dX9_simplestBetween_19 rfl hl (by decide) rfl (fun ls hl => ?_)
      refine lv_iload_n hx hb dX9_simplestBetween_20 rfl (lv_at hl 1 rfl) ?_
      refine lv_if_lt (tgt := 28) hx hb dX9_simplestBetween_21 (by decide) (fun c21 => ?_) (fun c21 => ?_)
      · have he := he.trans (if_pos c21)
        have d21 := i_lt c21
        refine lv_iload_n hx hb dX9_simplestBetween_28 rfl (lv_at hl 2 rfl) ?_
        refine lv_ineg hx hb dX9_simplestBetween_29 ?_
        refine lv_istore_n (lv' := [(3, .int (-p2)), (2, .int (-1 : Int32)), (0, .int p1), (1, .int p2)]) hx hb dX9_simplestBetween_30 rfl hl (by decide) rfl (fun ls hl => ?_)
        refine lv_iload_n hx hb dX9_simplestBetween_31 rfl (lv_at hl 2 rfl) ?_
        refine lv_if_lt (tgt := 39) hx hb dX9_simplestBetween_32 (by decide) (fun c32 => ?_) (fun c32 => ?_)
        · have he := he.trans (if_pos c32)
          have d32 := i_lt c32
          refine lv_iload_n hx hb dX9_simplestBetween_39 rfl (lv_at hl 2 rfl) ?_
          refine lv_ineg hx hb dX9_simplestBetween_40 ?_
          refine lv_istore (lv' := [(4, .int (-p1)), (3, .int (-p2)), (2, .int (-1 : Int32)), (0, .int p1), (1, .int p2)]) hx hb dX9_simplestBetween_41 hl (by decide) rfl (fun ls hl => ?_)
          refine lv_sipush (v := (256 : Int32)) hx hb dX9_simplestBetween_43 (by decide) ?_
          refine lv_istore (lv' := [(5, .int (256 : Int32)), (4, .int (-p1)), (3, .int (-p2)), (2, .int (-1 : Int32)), (0, .int p1), (1, .int p2)]) hx hb dX9_simplestBetween_46 hl (by decide) rfl (fun ls hl => ?_)
          have L48_1 : ∀ (n_48_1 : Nat) (x5_2 : Int32), 0 ≤ (x5_2).toInt ∧ (x5_2).toInt ≤ 256 → 1 ≤ n_48_1 ∧ 2 * (x5_2).toInt < 2 ^ n_48_1 → q = f_X9_simplestBetween_L48 n_48_1 p1 p2 (-1 : Int32) (-p2) (-p1) x5_2 → ∀ (H : Heap) (locs : List Loc) (ls : Array Slot), gX D Z s w H locs → lv_has ls 7 [(0, .int p1), (1, .int p2), (2, .int (-1 : Int32)), (3, .int (-p2)), (4, .int (-p1)), (5, .int x5_2)] → W p l e rm_X9_simplestBetween s m args below meth c H locs 0 0 Qz (F0 m 48 ls []) := by
            intro n_48_1
            induction n_48_1 with
            | zero =>
              intro x5_2 ia ifu _ _ _ _ _ _
              exfalso; omega
            | succ n_48_1 ih_L48_1 =>
              intro x5_2 ia ifu he H locs ls hX hl
              have he := he.trans f_X9_simplestBetween_L48_s
              refine lv_iload hx hb dX9_simplestBetween_48 (lv_at hl 5 rfl) ?_
              refine lv_iconst (v := (1 : Int32)) hx hb dX9_simplestBetween_50 (by decide) ?_
              refine lv_icmp_le (tgt := 86) hx hb dX9_simplestBetween_51 (by decide) (fun c51 => ?_) (fun c51 => ?_)
              · have he := he.trans (if_pos c51)
                have d51 := i_le c51
                refine lv_iload_n hx hb dX9_simplestBetween_86 rfl (lv_at hl 2 rfl) ?_
                refine lv_iload_n hx hb dX9_simplestBetween_87 rfl (lv_at hl 3 rfl) ?_
                refine lv_iconst (v := (1 : Int32)) hx hb dX9_simplestBetween_88 (by decide) ?_
                refine lv_iadd hx hb dX9_simplestBetween_89 ?_
                refine lv_imul hx hb dX9_simplestBetween_90 ?_
                subst he
                exact g_iret hx hb hr hlocks hX hq rfl dX9_simplestBetween_91
              · have he := he.trans (if_neg c51)
                have d51 := i_nle c51
                refine lv_iload_n hx hb dX9_simplestBetween_54 rfl (lv_at hl 3 rfl) ?_
                refine lv_iload hx hb dX9_simplestBetween_55 (lv_at hl 5 rfl) ?_
                refine lv_idiv hx hb dX9_simplestBetween_57 (fun h => by have := i_eq h; omega) ?_
                refine lv_iconst (v := (1 : Int32)) hx hb dX9_simplestBetween_58 (by decide) ?_
                refine lv_iadd hx hb dX9_simplestBetween_59 ?_
                refine lv_iload hx hb dX9_simplestBetween_60 (lv_at hl 5 rfl) ?_
                refine lv_imul hx hb dX9_simplestBetween_62 ?_
                refine lv_istore (lv' := [(6, .int ((((-p2) / x5_2) + (1 : Int32)) * x5_2)), (0, .int p1), (1, .int p2), (2, .int (-1 : Int32)), (3, .int (-p2)), (4, .int (-p1)), (5, .int x5_2)]) hx hb dX9_simplestBetween_63 hl (by decide) rfl (fun ls hl => ?_)
                refine lv_iload hx hb dX9_simplestBetween_65 (lv_at hl 0 rfl) ?_
                refine lv_iload hx hb dX9_simplestBetween_67 (lv_at hl 5 rfl) ?_
                refine lv_icmp_ge (tgt := 77) hx hb dX9_simplestBetween_69 (by decide) (fun c69 => ?_) (fun c69 => ?_)
                · have he := he.trans (if_pos c69)
                  have d69 := i_le c69
                  refine lv_iload hx hb dX9_simplestBetween_77 (lv_at hl 6 rfl) ?_
                  refine lv_iconst (v := (2 : Int32)) hx hb dX9_simplestBetween_79 (by decide) ?_
                  refine lv_idiv hx hb dX9_simplestBetween_80 (by decide) ?_
                  refine lv_istore (lv' := [(5, .int (x5_2 / (2 : Int32))), (6, .int ((((-p2) / x5_2) + (1 : Int32)) * x5_2)), (0, .int p1), (1, .int p2), (2, .int (-1 : Int32)), (3, .int (-p2)), (4, .int (-p1))]) hx hb dX9_simplestBetween_81 hl (by decide) rfl (fun ls hl => ?_)
                  refine lv_goto (tgt := 48) hx hb dX9_simplestBetween_83 (by decide) ?_
                  exact ih_L48_1 (x5_2 / (2 : Int32)) (i_half (by omega)).1 (i_halfn (by omega) ifu) he _ _ _ hX (lv_sub hl [2, 3, 4, 5, 6, 0] rfl)
                · have he := he.trans (if_neg c69)
                  have d69 := i_nle c69
                  refine lv_iload_n hx hb dX9_simplestBetween_72 rfl (lv_at hl 3 rfl) ?_
                  refine lv_iload hx hb dX9_simplestBetween_73 (lv_at hl 0 rfl) ?_
                  refine lv_imul hx hb dX9_simplestBetween_75 ?_
                  subst he
                  exact g_iret hx hb hr hlocks hX hq rfl dX9_simplestBetween_76
          exact L48_1 10 (256 : Int32) (by omega) ⟨by decide, by decide⟩ he _ _ _ hX (lv_sub hl [4, 5, 3, 2, 1, 0] rfl)
        · have he := he.trans (if_neg c32)
          have d32 := i_nlt c32
          refine lv_iload_n hx hb dX9_simplestBetween_35 rfl (lv_at hl 3 rfl) ?_
          refine lv_goto (tgt := 41) hx hb dX9_simplestBetween_36 (by decide) ?_
          refine lv_istore (lv' := [(4, .int p2), (3, .int (-p2)), (2, .int (-1 : Int32)), (0, .int p1), (1, .int p2)]) hx hb dX9_simplestBetween_41 hl (by decide) rfl (fun ls hl => ?_)
          refine lv_sipush (v := (256 : Int32)) hx hb dX9_simplestBetween_43 (by decide) ?_
          refine lv_istore (lv' := [(5, .int (256 : Int32)), (4, .int p2), (3, .int (-p2)), (2, .int (-1 : Int32)), (0, .int p1), (1, .int p2)]) hx hb dX9_simplestBetween_46 hl (by decide) rfl (fun ls hl => ?_)
          have L48_3 : ∀ (n_48_3 : Nat) (x5_4 : Int32), 0 ≤ (x5_4).toInt ∧ (x5_4).toInt ≤ 256 → 1 ≤ n_48_3 ∧ 2 * (x5_4).toInt < 2 ^ n_48_3 → q = f_X9_simplestBetween_L48 n_48_3 p1 p2 (-1 : Int32) (-p2) p2 x5_4 → ∀ (H : Heap) (locs : List Loc) (ls : Array Slot), gX D Z s w H locs → lv_has ls 7 [(0, .int p1), (1, .int p2), (2, .int (-1 : Int32)), (3, .int (-p2)), (4, .int p2), (5, .int x5_4)] → W p l e rm_X9_simplestBetween s m args below meth c H locs 0 0 Qz (F0 m 48 ls []) := by
            intro n_48_3
            induction n_48_3 with
            | zero =>
              intro x5_4 ia ifu _ _ _ _ _ _
              exfalso; omega
            | succ n_48_3 ih_L48_3 =>
              intro x5_4 ia ifu he H locs ls hX hl
              have he := he.trans f_X9_simplestBetween_L48_s
              refine lv_iload hx hb dX9_simplestBetween_48 (lv_at hl 5 rfl) ?_
              refine lv_iconst (v := (1 : Int32)) hx hb dX9_simplestBetween_50 (by decide) ?_
              refine lv_icmp_le (tgt := 86) hx hb dX9_simplestBetween_51 (by decide) (fun c51 => ?_) (fun c51 => ?_)
              · have he := he.trans (if_pos c51)
                have d51 := i_le c51
                refine lv_iload_n hx hb dX9_simplestBetween_86 rfl (lv_at hl 2 rfl) ?_
                refine lv_iload_n hx hb dX9_simplestBetween_87 rfl (lv_at hl 3 rfl) ?_
                refine lv_iconst (v := (1 : Int32)) hx hb dX9_simplestBetween_88 (by decide) ?_
                refine lv_iadd hx hb dX9_simplestBetween_89 ?_
                refine lv_imul hx hb dX9_simplestBetween_90 ?_
                subst he
                exact g_iret hx hb hr hlocks hX hq rfl dX9_simplestBetween_91
              · have he := he.trans (if_neg c51)
                have d51 := i_nle c51
                refine lv_iload_n hx hb dX9_simplestBetween_54 rfl (lv_at hl 3 rfl) ?_
                refine lv_iload hx hb dX9_simplestBetween_55 (lv_at hl 5 rfl) ?_
                refine lv_idiv hx hb dX9_simplestBetween_57 (fun h => by have := i_eq h; omega) ?_
                refine lv_iconst (v := (1 : Int32)) hx hb dX9_simplestBetween_58 (by decide) ?_
                refine lv_iadd hx hb dX9_simplestBetween_59 ?_
                refine lv_iload hx hb dX9_simplestBetween_60 (lv_at hl 5 rfl) ?_
                refine lv_imul hx hb dX9_simplestBetween_62 ?_
                refine lv_istore (lv' := [(6, .int ((((-p2) / x5_4) + (1 : Int32)) * x5_4)), (0, .int p1), (1, .int p2), (2, .int (-1 : Int32)), (3, .int (-p2)), (4, .int p2), (5, .int x5_4)]) hx hb dX9_simplestBetween_63 hl (by decide) rfl (fun ls hl => ?_)
                refine lv_iload hx hb dX9_simplestBetween_65 (lv_at hl 0 rfl) ?_
                refine lv_iload hx hb dX9_simplestBetween_67 (lv_at hl 5 rfl) ?_
                refine lv_icmp_ge (tgt := 77) hx hb dX9_simplestBetween_69 (by decide) (fun c69 => ?_) (fun c69 => ?_)
                · have he := he.trans (if_pos c69)
                  have d69 := i_le c69
                  refine lv_iload hx hb dX9_simplestBetween_77 (lv_at hl 6 rfl) ?_
                  refine lv_iconst (v := (2 : Int32)) hx hb dX9_simplestBetween_79 (by decide) ?_
                  refine lv_idiv hx hb dX9_simplestBetween_80 (by decide) ?_
                  refine lv_istore (lv' := [(5, .int (x5_4 / (2 : Int32))), (6, .int ((((-p2) / x5_4) + (1 : Int32)) * x5_4)), (0, .int p1), (1, .int p2), (2, .int (-1 : Int32)), (3, .int (-p2)), (4, .int p2)]) hx hb dX9_simplestBetween_81 hl (by decide) rfl (fun ls hl => ?_)
                  refine lv_goto (tgt := 48) hx hb dX9_simplestBetween_83 (by decide) ?_
                  exact ih_L48_3 (x5_4 / (2 : Int32)) (i_half (by omega)).1 (i_halfn (by omega) ifu) he _ _ _ hX (lv_sub hl [2, 3, 4, 5, 6, 0] rfl)
                · have he := he.trans (if_neg c69)
                  have d69 := i_nle c69
                  refine lv_iload_n hx hb dX9_simplestBetween_72 rfl (lv_at hl 3 rfl) ?_
                  refine lv_iload hx hb dX9_simplestBetween_73 (lv_at hl 0 rfl) ?_
                  refine lv_imul hx hb dX9_simplestBetween_75 ?_
                  subst he
                  exact g_iret hx hb hr hlocks hX hq rfl dX9_simplestBetween_76
          exact L48_3 10 (256 : Int32) (by omega) ⟨by decide, by decide⟩ he _ _ _ hX (lv_sub hl [4, 5, 3, 2, 1, 0] rfl)
      · have he := he.trans (if_neg c21)
        have d21 := i_nlt c21
        refine lv_iload_n hx hb dX9_simplestBetween_24 rfl (lv_at hl 1 rfl) ?_
        refine lv_goto (tgt := 30) hx hb dX9_simplestBetween_25 (by decide) ?_
        refine lv_istore_n (lv' := [(3, .int p1), (2, .int (-1 : Int32)), (0, .int p1), (1, .int p2)]) hx hb dX9_simplestBetween_30 rfl hl (by decide) rfl (fun ls hl => ?_)
        refine lv_iload_n hx hb dX9_simplestBetween_31 rfl (lv_at hl 2 rfl) ?_
        refine lv_if_lt (tgt := 39) hx hb dX9_simplestBetween_32 (by decide) (fun c32 => ?_) (fun c32 => ?_)
        · have he := he.trans (if_pos c32)
          have d32 := i_lt c32
          refine lv_iload_n hx hb dX9_simplestBetween_39 rfl (lv_at hl 2 rfl) ?_
          refine lv_ineg hx hb dX9_simplestBetween_40 ?_
          refine lv_istore (lv' := [(4, .int (-p1)), (3, .int p1), (2, .int (-1 : Int32)), (0, .int p1), (1, .int p2)]) hx hb dX9_simplestBetween_41 hl (by decide) rfl (fun ls hl => ?_)
          refine lv_sipush (v := (256 : Int32)) hx hb dX9_simplestBetween_43 (by decide) ?_
          refine lv_istore (lv' := [(5, .int (256 : Int32)), (4, .int (-p1)), (3, .int p1), (2, .int (-1 : Int32)), (0, .int p1), (1, .int p2)]) hx hb dX9_simplestBetween_46 hl (by decide) rfl (fun ls hl => ?_)
          have L48_5 : ∀ (n_48_5 : Nat) (x5_6 : Int32), 0 ≤ (x5_6).toInt ∧ (x5_6).toInt ≤ 256 → 1 ≤ n_48_5 ∧ 2 * (x5_6).toInt < 2 ^ n_48_5 → q = f_X9_simplestBetween_L48 n_48_5 p1 p2 (-1 : Int32) p1 (-p1) x5_6 → ∀ (H : Heap) (locs : List Loc) (ls : Array Slot), gX D Z s w H locs → lv_has ls 7 [(0, .int p1), (1, .int p2), (2, .int (-1 : Int32)), (3, .int p1), (4, .int (-p1)), (5, .int x5_6)] → W p l e rm_X9_simplestBetween s m args below meth c H locs 0 0 Qz (F0 m 48 ls []) := by
            intro n_48_5
            induction n_48_5 with
            | zero =>
              intro x5_6 ia ifu _ _ _ _ _ _
              exfalso; omega
            | succ n_48_5 ih_L48_5 =>
              intro x5_6 ia ifu he H locs ls hX hl
              have he := he.trans f_X9_simplestBetween_L48_s
              refine lv_iload hx hb dX9_simplestBetween_48 (lv_at hl 5 rfl) ?_
              refine lv_iconst (v := (1 : Int32)) hx hb dX9_simplestBetween_50 (by decide) ?_
              refine lv_icmp_le (tgt := 86) hx hb dX9_simplestBetween_51 (by decide) (fun c51 => ?_) (fun c51 => ?_)
              · have he := he.trans (if_pos c51)
                have d51 := i_le c51
                refine lv_iload_n hx hb dX9_simplestBetween_86 rfl (lv_at hl 2 rfl) ?_
                refine lv_iload_n hx hb dX9_simplestBetween_87 rfl (lv_at hl 3 rfl) ?_
                refine lv_iconst (v := (1 : Int32)) hx hb dX9_simplestBetween_88 (by decide) ?_
                refine lv_iadd hx hb dX9_simplestBetween_89 ?_
                refine lv_imul hx hb dX9_simplestBetween_90 ?_
                subst he
                exact g_iret hx hb hr hlocks hX hq rfl dX9_simplestBetween_91
              · have he := he.trans (if_neg c51)
                have d51 := i_nle c51
                refine lv_iload_n hx hb dX9_simplestBetween_54 rfl (lv_at hl 3 rfl) ?_
                refine lv_iload hx hb dX9_simplestBetween_55 (lv_at hl 5 rfl) ?_
                refine lv_idiv hx hb dX9_simplestBetween_57 (fun h => by have := i_eq h; omega) ?_
                refine lv_iconst (v := (1 : Int32)) hx hb dX9_simplestBetween_58 (by decide) ?_
                refine lv_iadd hx hb dX9_simplestBetween_59 ?_
                refine lv_iload hx hb dX9_simplestBetween_60 (lv_at hl 5 rfl) ?_
                refine lv_imul hx hb dX9_simplestBetween_62 ?_
                refine lv_istore (lv' := [(6, .int (((p1 / x5_6) + (1 : Int32)) * x5_6)), (0, .int p1), (1, .int p2), (2, .int (-1 : Int32)), (3, .int p1), (4, .int (-p1)), (5, .int x5_6)]) hx hb dX9_simplestBetween_63 hl (by decide) rfl (fun ls hl => ?_)
                refine lv_iload hx hb dX9_simplestBetween_65 (lv_at hl 0 rfl) ?_
                refine lv_iload hx hb dX9_simplestBetween_67 (lv_at hl 5 rfl) ?_
                refine lv_icmp_ge (tgt := 77) hx hb dX9_simplestBetween_69 (by decide) (fun c69 => ?_) (fun c69 => ?_)
                · have he := he.trans (if_pos c69)
                  have d69 := i_le c69
                  refine lv_iload hx hb dX9_simplestBetween_77 (lv_at hl 6 rfl) ?_
                  refine lv_iconst (v := (2 : Int32)) hx hb dX9_simplestBetween_79 (by decide) ?_
                  refine lv_idiv hx hb dX9_simplestBetween_80 (by decide) ?_
                  refine lv_istore (lv' := [(5, .int (x5_6 / (2 : Int32))), (6, .int (((p1 / x5_6) + (1 : Int32)) * x5_6)), (0, .int p1), (1, .int p2), (2, .int (-1 : Int32)), (3, .int p1), (4, .int (-p1))]) hx hb dX9_simplestBetween_81 hl (by decide) rfl (fun ls hl => ?_)
                  refine lv_goto (tgt := 48) hx hb dX9_simplestBetween_83 (by decide) ?_
                  exact ih_L48_5 (x5_6 / (2 : Int32)) (i_half (by omega)).1 (i_halfn (by omega) ifu) he _ _ _ hX (lv_sub hl [2, 3, 4, 5, 6, 0] rfl)
                · have he := he.trans (if_neg c69)
                  have d69 := i_nle c69
                  refine lv_iload_n hx hb dX9_simplestBetween_72 rfl (lv_at hl 3 rfl) ?_
                  refine lv_iload hx hb dX9_simplestBetween_73 (lv_at hl 0 rfl) ?_
                  refine lv_imul hx hb dX9_simplestBetween_75 ?_
                  subst he
                  exact g_iret hx hb hr hlocks hX hq rfl dX9_simplestBetween_76
          exact L48_5 10 (256 : Int32) (by omega) ⟨by decide, by decide⟩ he _ _ _ hX (lv_sub hl [4, 5, 3, 2, 1, 0] rfl)
        · have he := he.trans (if_neg c32)
          have d32 := i_nlt c32
          refine lv_iload_n hx hb dX9_simplestBetween_35 rfl (lv_at hl 3 rfl) ?_
          refine lv_goto (tgt := 41) hx hb dX9_simplestBetween_36 (by decide) ?_
          refine lv_istore (lv' := [(4, .int p2), (3, .int p1), (2, .int (-1 : Int32)), (0, .int p1), (1, .int p2)]) hx hb dX9_simplestBetween_41 hl (by decide) rfl (fun ls hl => ?_)
          refine lv_sipush (v := (256 : Int32)) hx hb dX9_simplestBetween_43 (by decide) ?_
          refine lv_istore (lv' := [(5, .int (256 : Int32)), (4, .int p2), (3, .int p1), (2, .int (-1 : Int32)), (0, .int p1), (1, .int p2)]) hx hb dX9_simplestBetween_46 hl (by decide) rfl (fun ls hl => ?_)
          have L48_7 : ∀ (n_48_7 : Nat) (x5_8 : Int32), 0 ≤ (x5_8).toInt ∧ (x5_8).toInt ≤ 256 → 1 ≤ n_48_7 ∧ 2 * (x5_8).toInt < 2 ^ n_48_7 → q = f_X9_simplestBetween_L48 n_48_7 p1 p2 (-1 : Int32) p1 p2 x5_8 → ∀ (H : Heap) (locs : List Loc) (ls : Array Slot), gX D Z s w H locs → lv_has ls 7 [(0, .int p1), (1, .int p2), (2, .int (-1 : Int32)), (3, .int p1), (4, .int p2), (5, .int x5_8)] → W p l e rm_X9_simplestBetween s m args below meth c H locs 0 0 Qz (F0 m 48 ls []) := by
            intro n_48_7
            induction n_48_7 with
            | zero =>
              intro x5_8 ia ifu _ _ _ _ _ _
              exfalso; omega
            | succ n_48_7 ih_L48_7 =>
              intro x5_8 ia ifu he H locs ls hX hl
              have he := he.trans f_X9_simplestBetween_L48_s
              refine lv_iload hx hb dX9_simplestBetween_48 (lv_at hl 5 rfl) ?_
              refine lv_iconst (v := (1 : Int32)) hx hb dX9_simplestBetween_50 (by decide) ?_
              refine lv_icmp_le (tgt := 86) hx hb dX9_simplestBetween_51 (by decide) (fun c51 => ?_) (fun c51 => ?_)
              · have he := he.trans (if_pos c51)
                have d51 := i_le c51
                refine lv_iload_n hx hb dX9_simplestBetween_86 rfl (lv_at hl 2 rfl) ?_
                refine lv_iload_n hx hb dX9_simplestBetween_87 rfl (lv_at hl 3 rfl) ?_
                refine lv_iconst (v := (1 : Int32)) hx hb dX9_simplestBetween_88 (by decide) ?_
                refine lv_iadd hx hb dX9_simplestBetween_89 ?_
                refine lv_imul hx hb dX9_simplestBetween_90 ?_
                subst he
                exact g_iret hx hb hr hlocks hX hq rfl dX9_simplestBetween_91
              · have he := he.trans (if_neg c51)
                have d51 := i_nle c51
                refine lv_iload_n hx hb dX9_simplestBetween_54 rfl (lv_at hl 3 rfl) ?_
                refine lv_iload hx hb dX9_simplestBetween_55 (lv_at hl 5 rfl) ?_
                refine lv_idiv hx hb dX9_simplestBetween_57 (fun h => by have := i_eq h; omega) ?_
                refine lv_iconst (v := (1 : Int32)) hx hb dX9_simplestBetween_58 (by decide) ?_
                refine lv_iadd hx hb dX9_simplestBetween_59 ?_
                refine lv_iload hx hb dX9_simplestBetween_60 (lv_at hl 5 rfl) ?_
                refine lv_imul hx hb dX9_simplestBetween_62 ?_
                refine lv_istore (lv' := [(6, .int (((p1 / x5_8) + (1 : Int32)) * x5_8)), (0, .int p1), (1, .int p2), (2, .int (-1 : Int32)), (3, .int p1), (4, .int p2), (5, .int x5_8)]) hx hb dX9_simplestBetween_63 hl (by decide) rfl (fun ls hl => ?_)
                refine lv_iload hx hb dX9_simplestBetween_65 (lv_at hl 0 rfl) ?_
                refine lv_iload hx hb dX9_simplestBetween_67 (lv_at hl 5 rfl) ?_
                refine lv_icmp_ge (tgt := 77) hx hb dX9_simplestBetween_69 (by decide) (fun c69 => ?_) (fun c69 => ?_)
                · have he := he.trans (if_pos c69)
                  have d69 := i_le c69
                  refine lv_iload hx hb dX9_simplestBetween_77 (lv_at hl 6 rfl) ?_
                  refine lv_iconst (v := (2 : Int32)) hx hb dX9_simplestBetween_79 (by decide) ?_
                  refine lv_idiv hx hb dX9_simplestBetween_80 (by decide) ?_
                  refine lv_istore (lv' := [(5, .int (x5_8 / (2 : Int32))), (6, .int (((p1 / x5_8) + (1 : Int32)) * x5_8)), (0, .int p1), (1, .int p2), (2, .int (-1 : Int32)), (3, .int p1), (4, .int p2)]) hx hb dX9_simplestBetween_81 hl (by decide) rfl (fun ls hl => ?_)
                  refine lv_goto (tgt := 48) hx hb dX9_simplestBetween_83 (by decide) ?_
                  exact ih_L48_7 (x5_8 / (2 : Int32)) (i_half (by omega)).1 (i_halfn (by omega) ifu) he _ _ _ hX (lv_sub hl [2, 3, 4, 5, 6, 0] rfl)
                · have he := he.trans (if_neg c69)
                  have d69 := i_nle c69
                  refine lv_iload_n hx hb dX9_simplestBetween_72 rfl (lv_at hl 3 rfl) ?_
                  refine lv_iload hx hb dX9_simplestBetween_73 (lv_at hl 0 rfl) ?_
                  refine lv_imul hx hb dX9_simplestBetween_75 ?_
                  subst he
                  exact g_iret hx hb hr hlocks hX hq rfl dX9_simplestBetween_76
          exact L48_7 10 (256 : Int32) (by omega) ⟨by decide, by decide⟩ he _ _ _ hX (lv_sub hl [4, 5, 3, 2, 1, 0] rfl)
    · have he := he.trans (if_neg c11)
      have d11 := i_nlt c11
      refine lv_iconst (v := (1 : Int32)) hx hb dX9_simplestBetween_14 (by decide) ?_
      refine lv_goto (tgt := 19) hx hb dX9_simplestBetween_15 (by decide) ?_
      refine lv_istore_n (lv' := [(2, .int (1 : Int32)), (0, .int p1), (1, .int p2)]) hx hb dX9_simplestBetween_19 rfl hl (by decide) rfl (fun ls hl => ?_)
      refine lv_iload_n hx hb dX9_simplestBetween_20 rfl (lv_at hl 1 rfl) ?_
      refine lv_if_lt (tgt := 28) hx hb dX9_simplestBetween_21 (by decide) (fun c21 => ?_) (fun c21 => ?_)
      · have he := he.trans (if_pos c21)
        have d21 := i_lt c21
        refine lv_iload_n hx hb dX9_simplestBetween_28 rfl (lv_at hl 2 rfl) ?_
        refine lv_ineg hx hb dX9_simplestBetween_29 ?_
        refine lv_istore_n (lv' := [(3, .int (-p2)), (2, .int (1 : Int32)), (0, .int p1), (1, .int p2)]) hx hb dX9_simplestBetween_30 rfl hl (by decide) rfl (fun ls hl => ?_)
        refine lv_iload_n hx hb dX9_simplestBetween_31 rfl (lv_at hl 2 rfl) ?_
        refine lv_if_lt (tgt := 39) hx hb dX9_simplestBetween_32 (by decide) (fun c32 => ?_) (fun c32 => ?_)
        · have he := he.trans (if_pos c32)
          have d32 := i_lt c32
          refine lv_iload_n hx hb dX9_simplestBetween_39 rfl (lv_at hl 2 rfl) ?_
          refine lv_ineg hx hb dX9_simplestBetween_40 ?_
          refine lv_istore (lv' := [(4, .int (-p1)), (3, .int (-p2)), (2, .int (1 : Int32)), (0, .int p1), (1, .int p2)]) hx hb dX9_simplestBetween_41 hl (by decide) rfl (fun ls hl => ?_)
          refine lv_sipush (v := (256 : Int32)) hx hb dX9_simplestBetween_43 (by decide) ?_
          refine lv_istore (lv' := [(5, .int (256 : Int32)), (4, .int (-p1)), (3, .int (-p2)), (2, .int (1 : Int32)), (0, .int p1), (1, .int p2)]) hx hb dX9_simplestBetween_46 hl (by decide) rfl (fun ls hl => ?_)
          have L48_9 : ∀ (n_48_9 : Nat) (x5_10 : Int32), 0 ≤ (x5_10).toInt ∧ (x5_10).toInt ≤ 256 → 1 ≤ n_48_9 ∧ 2 * (x5_10).toInt < 2 ^ n_48_9 → q = f_X9_simplestBetween_L48 n_48_9 p1 p2 (1 : Int32) (-p2) (-p1) x5_10 → ∀ (H : Heap) (locs : List Loc) (ls : Array Slot), gX D Z s w H locs → lv_has ls 7 [(0, .int p1), (1, .int p2), (2, .int (1 : Int32)), (3, .int (-p2)), (4, .int (-p1)), (5, .int x5_10)] → W p l e rm_X9_simplestBetween s m args below meth c H locs 0 0 Qz (F0 m 48 ls []) := by
            intro n_48_9
            induction n_48_9 with
            | zero =>
              intro x5_10 ia ifu _ _ _ _ _ _
              exfalso; omega
            | succ n_48_9 ih_L48_9 =>
              intro x5_10 ia ifu he H locs ls hX hl
              have he := he.trans f_X9_simplestBetween_L48_s
              refine lv_iload hx hb dX9_simplestBetween_48 (lv_at hl 5 rfl) ?_
              refine lv_iconst (v := (1 : Int32)) hx hb dX9_simplestBetween_50 (by decide) ?_
              refine lv_icmp_le (tgt := 86) hx hb dX9_simplestBetween_51 (by decide) (fun c51 => ?_) (fun c51 => ?_)
              · have he := he.trans (if_pos c51)
                have d51 := i_le c51
                refine lv_iload_n hx hb dX9_simplestBetween_86 rfl (lv_at hl 2 rfl) ?_
                refine lv_iload_n hx hb dX9_simplestBetween_87 rfl (lv_at hl 3 rfl) ?_
                refine lv_iconst (v := (1 : Int32)) hx hb dX9_simplestBetween_88 (by decide) ?_
                refine lv_iadd hx hb dX9_simplestBetween_89 ?_
                refine lv_imul hx hb dX9_simplestBetween_90 ?_
                subst he
                exact g_iret hx hb hr hlocks hX hq rfl dX9_simplestBetween_91
              · have he := he.trans (if_neg c51)
                have d51 := i_nle c51
                refine lv_iload_n hx hb dX9_simplestBetween_54 rfl (lv_at hl 3 rfl) ?_
                refine lv_iload hx hb dX9_simplestBetween_55 (lv_at hl 5 rfl) ?_
                refine lv_idiv hx hb dX9_simplestBetween_57 (fun h => by have := i_eq h; omega) ?_
                refine lv_iconst (v := (1 : Int32)) hx hb dX9_simplestBetween_58 (by decide) ?_
                refine lv_iadd hx hb dX9_simplestBetween_59 ?_
                refine lv_iload hx hb dX9_simplestBetween_60 (lv_at hl 5 rfl) ?_
                refine lv_imul hx hb dX9_simplestBetween_62 ?_
                refine lv_istore (lv' := [(6, .int ((((-p2) / x5_10) + (1 : Int32)) * x5_10)), (0, .int p1), (1, .int p2), (2, .int (1 : Int32)), (3, .int (-p2)), (4, .int (-p1)), (5, .int x5_10)]) hx hb dX9_simplestBetween_63 hl (by decide) rfl (fun ls hl => ?_)
                refine lv_iload hx hb dX9_simplestBetween_65 (lv_at hl 0 rfl) ?_
                refine lv_iload hx hb dX9_simplestBetween_67 (lv_at hl 5 rfl) ?_
                refine lv_icmp_ge (tgt := 77) hx hb dX9_simplestBetween_69 (by decide) (fun c69 => ?_) (fun c69 => ?_)
                · have he := he.trans (if_pos c69)
                  have d69 := i_le c69
                  refine lv_iload hx hb dX9_simplestBetween_77 (lv_at hl 6 rfl) ?_
                  refine lv_iconst (v := (2 : Int32)) hx hb dX9_simplestBetween_79 (by decide) ?_
                  refine lv_idiv hx hb dX9_simplestBetween_80 (by decide) ?_
                  refine lv_istore (lv' := [(5, .int (x5_10 / (2 : Int32))), (6, .int ((((-p2) / x5_10) + (1 : Int32)) * x5_10)), (0, .int p1), (1, .int p2), (2, .int (1 : Int32)), (3, .int (-p2)), (4, .int (-p1))]) hx hb dX9_simplestBetween_81 hl (by decide) rfl (fun ls hl => ?_)
                  refine lv_goto (tgt := 48) hx hb dX9_simplestBetween_83 (by decide) ?_
                  exact ih_L48_9 (x5_10 / (2 : Int32)) (i_half (by omega)).1 (i_halfn (by omega) ifu) he _ _ _ hX (lv_sub hl [2, 3, 4, 5, 6, 0] rfl)
                · have he := he.trans (if_neg c69)
                  have d69 := i_nle c69
                  refine lv_iload_n hx hb dX9_simplestBetween_72 rfl (lv_at hl 3 rfl) ?_
                  refine lv_iload hx hb dX9_simplestBetween_73 (lv_at hl 0 rfl) ?_
                  refine lv_imul hx hb dX9_simplestBetween_75 ?_
                  subst he
                  exact g_iret hx hb hr hlocks hX hq rfl dX9_simplestBetween_76
          exact L48_9 10 (256 : Int32) (by omega) ⟨by decide, by decide⟩ he _ _ _ hX (lv_sub hl [4, 5, 3, 2, 1, 0] rfl)
        · have he := he.trans (if_neg c32)
          have d32 := i_nlt c32
          refine lv_iload_n hx hb dX9_simplestBetween_35 rfl (lv_at hl 3 rfl) ?_
          refine lv_goto (tgt := 41) hx hb dX9_simplestBetween_36 (by decide) ?_
          refine lv_istore (lv' := [(4, .int p2), (3, .int (-p2)), (2, .int (1 : Int32)), (0, .int p1), (1, .int p2)]) hx hb dX9_simplestBetween_41 hl (by decide) rfl (fun ls hl => ?_)
          refine lv_sipush (v := (256 : Int32)) hx hb dX9_simplestBetween_43 (by decide) ?_
          refine lv_istore (lv' := [(5, .int (256 : Int32)), (4, .int p2), (3, .int (-p2)), (2, .int (1 : Int32)), (0, .int p1), (1, .int p2)]) hx hb dX9_simplestBetween_46 hl (by decide) rfl (fun ls hl => ?_)
          have L48_11 : ∀ (n_48_11 : Nat) (x5_12 : Int32), 0 ≤ (x5_12).toInt ∧ (x5_12).toInt ≤ 256 → 1 ≤ n_48_11 ∧ 2 * (x5_12).toInt < 2 ^ n_48_11 → q = f_X9_simplestBetween_L48 n_48_11 p1 p2 (1 : Int32) (-p2) p2 x5_12 → ∀ (H : Heap) (locs : List Loc) (ls : Array Slot), gX D Z s w H locs → lv_has ls 7 [(0, .int p1), (1, .int p2), (2, .int (1 : Int32)), (3, .int (-p2)), (4, .int p2), (5, .int x5_12)] → W p l e rm_X9_simplestBetween s m args below meth c H locs 0 0 Qz (F0 m 48 ls []) := by
            intro n_48_11
            induction n_48_11 with
            | zero =>
              intro x5_12 ia ifu _ _ _ _ _ _
              exfalso; omega
            | succ n_48_11 ih_L48_11 =>
              intro x5_12 ia ifu he H locs ls hX hl
              have he := he.trans f_X9_simplestBetween_L48_s
              refine lv_iload hx hb dX9_simplestBetween_48 (lv_at hl 5 rfl) ?_
              refine lv_iconst (v := (1 : Int32)) hx hb dX9_simplestBetween_50 (by decide) ?_
              refine lv_icmp_le (tgt := 86) hx hb dX9_simplestBetween_51 (by decide) (fun c51 => ?_) (fun c51 => ?_)
              · have he := he.trans (if_pos c51)
                have d51 := i_le c51
                refine lv_iload_n hx hb dX9_simplestBetween_86 rfl (lv_at hl 2 rfl) ?_
                refine lv_iload_n hx hb dX9_simplestBetween_87 rfl (lv_at hl 3 rfl) ?_
                refine lv_iconst (v := (1 : Int32)) hx hb dX9_simplestBetween_88 (by decide) ?_
                refine lv_iadd hx hb dX9_simplestBetween_89 ?_
                refine lv_imul hx hb dX9_simplestBetween_90 ?_
                subst he
                exact g_iret hx hb hr hlocks hX hq rfl dX9_simplestBetween_91
              · have he := he.trans (if_neg c51)
                have d51 := i_nle c51
                refine lv_iload_n hx hb dX9_simplestBetween_54 rfl (lv_at hl 3 rfl) ?_
                refine lv_iload hx hb dX9_simplestBetween_55 (lv_at hl 5 rfl) ?_
                refine lv_idiv hx hb dX9_simplestBetween_57 (fun h => by have := i_eq h; omega) ?_
                refine lv_iconst (v := (1 : Int32)) hx hb dX9_simplestBetween_58 (by decide) ?_
                refine lv_iadd hx hb dX9_simplestBetween_59 ?_
                refine lv_iload hx hb dX9_simplestBetween_60 (lv_at hl 5 rfl) ?_
                refine lv_imul hx hb dX9_simplestBetween_62 ?_
                refine lv_istore (lv' := [(6, .int ((((-p2) / x5_12) + (1 : Int32)) * x5_12)), (0, .int p1), (1, .int p2), (2, .int (1 : Int32)), (3, .int (-p2)), (4, .int p2), (5, .int x5_12)]) hx hb dX9_simplestBetween_63 hl (by decide) rfl (fun ls hl => ?_)
                refine lv_iload hx hb dX9_simplestBetween_65 (lv_at hl 0 rfl) ?_
                refine lv_iload hx hb dX9_simplestBetween_67 (lv_at hl 5 rfl) ?_
                refine lv_icmp_ge (tgt := 77) hx hb dX9_simplestBetween_69 (by decide) (fun c69 => ?_) (fun c69 => ?_)
                · have he := he.trans (if_pos c69)
                  have d69 := i_le c69
                  refine lv_iload hx hb dX9_simplestBetween_77 (lv_at hl 6 rfl) ?_
                  refine lv_iconst (v := (2 : Int32)) hx hb dX9_simplestBetween_79 (by decide) ?_
                  refine lv_idiv hx hb dX9_simplestBetween_80 (by decide) ?_
                  refine lv_istore (lv' := [(5, .int (x5_12 / (2 : Int32))), (6, .int ((((-p2) / x5_12) + (1 : Int32)) * x5_12)), (0, .int p1), (1, .int p2), (2, .int (1 : Int32)), (3, .int (-p2)), (4, .int p2)]) hx hb dX9_simplestBetween_81 hl (by decide) rfl (fun ls hl => ?_)
                  refine lv_goto (tgt := 48) hx hb dX9_simplestBetween_83 (by decide) ?_
                  exact ih_L48_11 (x5_12 / (2 : Int32)) (i_half (by omega)).1 (i_halfn (by omega) ifu) he _ _ _ hX (lv_sub hl [2, 3, 4, 5, 6, 0] rfl)
                · have he := he.trans (if_neg c69)
                  have d69 := i_nle c69
                  refine lv_iload_n hx hb dX9_simplestBetween_72 rfl (lv_at hl 3 rfl) ?_
                  refine lv_iload hx hb dX9_simplestBetween_73 (lv_at hl 0 rfl) ?_
                  refine lv_imul hx hb dX9_simplestBetween_75 ?_
                  subst he
                  exact g_iret hx hb hr hlocks hX hq rfl dX9_simplestBetween_76
          exact L48_11 10 (256 : Int32) (by omega) ⟨by decide, by decide⟩ he _ _ _ hX (lv_sub hl [4, 5, 3, 2, 1, 0] rfl)
      · have he := he.trans (if_neg c21)
        have d21 := i_nlt c21
        refine lv_iload_n hx hb dX9_simplestBetween_24 rfl (lv_at hl 1 rfl) ?_
        refine lv_goto (tgt := 30) hx hb dX9_simplestBetween_25 (by decide) ?_
        refine lv_istore_n (lv' := [(3, .int p1), (2, .int (1 : Int32)), (0, .int p1), (1, .int p2)]) hx hb dX9_simplestBetween_30 rfl hl (by decide) rfl (fun ls hl => ?_)
        refine lv_iload_n hx hb dX9_simplestBetween_31 rfl (lv_at hl 2 rfl) ?_
        refine lv_if_lt (tgt := 39) hx hb dX9_simplestBetween_32 (by decide) (fun c32 => ?_) (fun c32 => ?_)
        · have he := he.trans (if_pos c32)
          have d32 := i_lt c32
          refine lv_iload_n hx hb dX9_simplestBetween_39 rfl (lv_at hl 2 rfl) ?_
          refine lv_ineg hx hb dX9_simplestBetween_40 ?_
          refine lv_istore (lv' := [(4, .int (-p1)), (3, .int p1), (2, .int (1 : Int32)), (0, .int p1), (1, .int p2)]) hx hb dX9_simplestBetween_41 hl (by decide) rfl (fun ls hl => ?_)
          refine lv_sipush (v := (256 : Int32)) hx hb dX9_simplestBetween_43 (by decide) ?_
          refine lv_istore (lv' := [(5, .int (256 : Int32)), (4, .int (-p1)), (3, .int p1), (2, .int (1 : Int32)), (0, .int p1), (1, .int p2)]) hx hb dX9_simplestBetween_46 hl (by decide) rfl (fun ls hl => ?_)
          have L48_13 : ∀ (n_48_13 : Nat) (x5_14 : Int32), 0 ≤ (x5_14).toInt ∧ (x5_14).toInt ≤ 256 → 1 ≤ n_48_13 ∧ 2 * (x5_14).toInt < 2 ^ n_48_13 → q = f_X9_simplestBetween_L48 n_48_13 p1 p2 (1 : Int32) p1 (-p1) x5_14 → ∀ (H : Heap) (locs : List Loc) (ls : Array Slot), gX D Z s w H locs → lv_has ls 7 [(0, .int p1), (1, .int p2), (2, .int (1 : Int32)), (3, .int p1), (4, .int (-p1)), (5, .int x5_14)] → W p l e rm_X9_simplestBetween s m args below meth c H locs 0 0 Qz (F0 m 48 ls []) := by
            intro n_48_13
            induction n_48_13 with
            | zero =>
              intro x5_14 ia ifu _ _ _ _ _ _
              exfalso; omega
            | succ n_48_13 ih_L48_13 =>
              intro x5_14 ia ifu he H locs ls hX hl
              have he := he.trans f_X9_simplestBetween_L48_s
              refine lv_iload hx hb dX9_simplestBetween_48 (lv_at hl 5 rfl) ?_
              refine lv_iconst (v := (1 : Int32)) hx hb dX9_simplestBetween_50 (by decide) ?_
              refine lv_icmp_le (tgt := 86) hx hb dX9_simplestBetween_51 (by decide) (fun c51 => ?_) (fun c51 => ?_)
              · have he := he.trans (if_pos c51)
                have d51 := i_le c51
                refine lv_iload_n hx hb dX9_simplestBetween_86 rfl (lv_at hl 2 rfl) ?_
                refine lv_iload_n hx hb dX9_simplestBetween_87 rfl (lv_at hl 3 rfl) ?_
                refine lv_iconst (v := (1 : Int32)) hx hb dX9_simplestBetween_88 (by decide) ?_
                refine lv_iadd hx hb dX9_simplestBetween_89 ?_
                refine lv_imul hx hb dX9_simplestBetween_90 ?_
                subst he
                exact g_iret hx hb hr hlocks hX hq rfl dX9_simplestBetween_91
              · have he := he.trans (if_neg c51)
                have d51 := i_nle c51
                refine lv_iload_n hx hb dX9_simplestBetween_54 rfl (lv_at hl 3 rfl) ?_
                refine lv_iload hx hb dX9_simplestBetween_55 (lv_at hl 5 rfl) ?_
                refine lv_idiv hx hb dX9_simplestBetween_57 (fun h => by have := i_eq h; omega) ?_
                refine lv_iconst (v := (1 : Int32)) hx hb dX9_simplestBetween_58 (by decide) ?_
                refine lv_iadd hx hb dX9_simplestBetween_59 ?_
                refine lv_iload hx hb dX9_simplestBetween_60 (lv_at hl 5 rfl) ?_
                refine lv_imul hx hb dX9_simplestBetween_62 ?_
                refine lv_istore (lv' := [(6, .int (((p1 / x5_14) + (1 : Int32)) * x5_14)), (0, .int p1), (1, .int p2), (2, .int (1 : Int32)), (3, .int p1), (4, .int (-p1)), (5, .int x5_14)]) hx hb dX9_simplestBetween_63 hl (by decide) rfl (fun ls hl => ?_)
                refine lv_iload hx hb dX9_simplestBetween_65 (lv_at hl 0 rfl) ?_
                refine lv_iload hx hb dX9_simplestBetween_67 (lv_at hl 5 rfl) ?_
                refine lv_icmp_ge (tgt := 77) hx hb dX9_simplestBetween_69 (by decide) (fun c69 => ?_) (fun c69 => ?_)
                · have he := he.trans (if_pos c69)
                  have d69 := i_le c69
                  refine lv_iload hx hb dX9_simplestBetween_77 (lv_at hl 6 rfl) ?_
                  refine lv_iconst (v := (2 : Int32)) hx hb dX9_simplestBetween_79 (by decide) ?_
                  refine lv_idiv hx hb dX9_simplestBetween_80 (by decide) ?_
                  refine lv_istore (lv' := [(5, .int (x5_14 / (2 : Int32))), (6, .int (((p1 / x5_14) + (1 : Int32)) * x5_14)), (0, .int p1), (1, .int p2), (2, .int (1 : Int32)), (3, .int p1), (4, .int (-p1))]) hx hb dX9_simplestBetween_81 hl (by decide) rfl (fun ls hl => ?_)
                  refine lv_goto (tgt := 48) hx hb dX9_simplestBetween_83 (by decide) ?_
                  exact ih_L48_13 (x5_14 / (2 : Int32)) (i_half (by omega)).1 (i_halfn (by omega) ifu) he _ _ _ hX (lv_sub hl [2, 3, 4, 5, 6, 0] rfl)
                · have he := he.trans (if_neg c69)
                  have d69 := i_nle c69
                  refine lv_iload_n hx hb dX9_simplestBetween_72 rfl (lv_at hl 3 rfl) ?_
                  refine lv_iload hx hb dX9_simplestBetween_73 (lv_at hl 0 rfl) ?_
                  refine lv_imul hx hb dX9_simplestBetween_75 ?_
                  subst he
                  exact g_iret hx hb hr hlocks hX hq rfl dX9_simplestBetween_76
          exact L48_13 10 (256 : Int32) (by omega) ⟨by decide, by decide⟩ he _ _ _ hX (lv_sub hl [4, 5, 3, 2, 1, 0] rfl)
        · have he := he.trans (if_neg c32)
          have d32 := i_nlt c32
          refine lv_iload_n hx hb dX9_simplestBetween_35 rfl (lv_at hl 3 rfl) ?_
          refine lv_goto (tgt := 41) hx hb dX9_simplestBetween_36 (by decide) ?_
          refine lv_istore (lv' := [(4, .int p2), (3, .int p1), (2, .int (1 : Int32)), (0, .int p1), (1, .int p2)]) hx hb dX9_simplestBetween_41 hl (by decide) rfl (fun ls hl => ?_)
          refine lv_sipush (v := (256 : Int32)) hx hb dX9_simplestBetween_43 (by decide) ?_
          refine lv_istore (lv' := [(5, .int (256 : Int32)), (4, .int p2), (3, .int p1), (2, .int (1 : Int32)), (0, .int p1), (1, .int p2)]) hx hb dX9_simplestBetween_46 hl (by decide) rfl (fun ls hl => ?_)
          have L48_15 : ∀ (n_48_15 : Nat) (x5_16 : Int32), 0 ≤ (x5_16).toInt ∧ (x5_16).toInt ≤ 256 → 1 ≤ n_48_15 ∧ 2 * (x5_16).toInt < 2 ^ n_48_15 → q = f_X9_simplestBetween_L48 n_48_15 p1 p2 (1 : Int32) p1 p2 x5_16 → ∀ (H : Heap) (locs : List Loc) (ls : Array Slot), gX D Z s w H locs → lv_has ls 7 [(0, .int p1), (1, .int p2), (2, .int (1 : Int32)), (3, .int p1), (4, .int p2), (5, .int x5_16)] → W p l e rm_X9_simplestBetween s m args below meth c H locs 0 0 Qz (F0 m 48 ls []) := by
            intro n_48_15
            induction n_48_15 with
            | zero =>
              intro x5_16 ia ifu _ _ _ _ _ _
              exfalso; omega
            | succ n_48_15 ih_L48_15 =>
              intro x5_16 ia ifu he H locs ls hX hl
              have he := he.trans f_X9_simplestBetween_L48_s
              refine lv_iload hx hb dX9_simplestBetween_48 (lv_at hl 5 rfl) ?_
              refine lv_iconst (v := (1 : Int32)) hx hb dX9_simplestBetween_50 (by decide) ?_
              refine lv_icmp_le (tgt := 86) hx hb dX9_simplestBetween_51 (by decide) (fun c51 => ?_) (fun c51 => ?_)
              · have he := he.trans (if_pos c51)
                have d51 := i_le c51
                refine lv_iload_n hx hb dX9_simplestBetween_86 rfl (lv_at hl 2 rfl) ?_
                refine lv_iload_n hx hb dX9_simplestBetween_87 rfl (lv_at hl 3 rfl) ?_
                refine lv_iconst (v := (1 : Int32)) hx hb dX9_simplestBetween_88 (by decide) ?_
                refine lv_iadd hx hb dX9_simplestBetween_89 ?_
                refine lv_imul hx hb dX9_simplestBetween_90 ?_
                subst he
                exact g_iret hx hb hr hlocks hX hq rfl dX9_simplestBetween_91
              · have he := he.trans (if_neg c51)
                have d51 := i_nle c51
                refine lv_iload_n hx hb dX9_simplestBetween_54 rfl (lv_at hl 3 rfl) ?_
                refine lv_iload hx hb dX9_simplestBetween_55 (lv_at hl 5 rfl) ?_
                refine lv_idiv hx hb dX9_simplestBetween_57 (fun h => by have := i_eq h; omega) ?_
                refine lv_iconst (v := (1 : Int32)) hx hb dX9_simplestBetween_58 (by decide) ?_
                refine lv_iadd hx hb dX9_simplestBetween_59 ?_
                refine lv_iload hx hb dX9_simplestBetween_60 (lv_at hl 5 rfl) ?_
                refine lv_imul hx hb dX9_simplestBetween_62 ?_
                refine lv_istore (lv' := [(6, .int (((p1 / x5_16) + (1 : Int32)) * x5_16)), (0, .int p1), (1, .int p2), (2, .int (1 : Int32)), (3, .int p1), (4, .int p2), (5, .int x5_16)]) hx hb dX9_simplestBetween_63 hl (by decide) rfl (fun ls hl => ?_)
                refine lv_iload hx hb dX9_simplestBetween_65 (lv_at hl 0 rfl) ?_
                refine lv_iload hx hb dX9_simplestBetween_67 (lv_at hl 5 rfl) ?_
                refine lv_icmp_ge (tgt := 77) hx hb dX9_simplestBetween_69 (by decide) (fun c69 => ?_) (fun c69 => ?_)
                · have he := he.trans (if_pos c69)
                  have d69 := i_le c69
                  refine lv_iload hx hb dX9_simplestBetween_77 (lv_at hl 6 rfl) ?_
                  refine lv_iconst (v := (2 : Int32)) hx hb dX9_simplestBetween_79 (by decide) ?_
                  refine lv_idiv hx hb dX9_simplestBetween_80 (by decide) ?_
                  refine lv_istore (lv' := [(5, .int (x5_16 / (2 : Int32))), (6, .int (((p1 / x5_16) + (1 : Int32)) * x5_16)), (0, .int p1), (1, .int p2), (2, .int (1 : Int32)), (3, .int p1), (4, .int p2)]) hx hb dX9_simplestBetween_81 hl (by decide) rfl (fun ls hl => ?_)
                  refine lv_goto (tgt := 48) hx hb dX9_simplestBetween_83 (by decide) ?_
                  exact ih_L48_15 (x5_16 / (2 : Int32)) (i_half (by omega)).1 (i_halfn (by omega) ifu) he _ _ _ hX (lv_sub hl [2, 3, 4, 5, 6, 0] rfl)
                · have he := he.trans (if_neg c69)
                  have d69 := i_nle c69
                  refine lv_iload_n hx hb dX9_simplestBetween_72 rfl (lv_at hl 3 rfl) ?_
                  refine lv_iload hx hb dX9_simplestBetween_73 (lv_at hl 0 rfl) ?_
                  refine lv_imul hx hb dX9_simplestBetween_75 ?_
                  subst he
                  exact g_iret hx hb hr hlocks hX hq rfl dX9_simplestBetween_76
          exact L48_15 10 (256 : Int32) (by omega) ⟨by decide, by decide⟩ he _ _ _ hX (lv_sub hl [4, 5, 3, 2, 1, 0] rfl)
  · have he := he.trans (if_neg c1)
    have d1 := i_nle c1
    refine lv_iload_n hx hb dX9_simplestBetween_4 rfl (lv_at hl 1 rfl) ?_
    refine lv_if_le (tgt := 10) hx hb dX9_simplestBetween_5 (by decide) (fun c5 => ?_) (fun c5 => ?_)
    · have he := he.trans (if_pos c5)
      have d5 := i_le c5
      refine lv_iload_n hx hb dX9_simplestBetween_10 rfl (lv_at hl 0 rfl) ?_
      refine lv_if_lt (tgt := 18) hx hb dX9_simplestBetween_11 (by decide) (fun c11 => ?_) (fun c11 => ?_)
      · have he := he.trans (if_pos c11)
        have d11 := i_lt c11
        refine lv_iconst (v := (-1 : Int32)) hx hb dX9_simplestBetween_18 (by decide) ?_
        refine lv_istore_n (lv' := [(2, .int (-1 : Int32)), (0, .int p1), (1, .int p2)]) hx hb dX9_simplestBetween_19 rfl hl (by decide) rfl (fun ls hl => ?_)
        refine lv_iload_n hx hb dX9_simplestBetween_20 rfl (lv_at hl 1 rfl) ?_
        refine lv_if_lt (tgt := 28) hx hb dX9_simplestBetween_21 (by decide) (fun c21 => ?_) (fun c21 => ?_)
        · have he := he.trans (if_pos c21)
          have d21 := i_lt c21
          refine lv_iload_n hx hb dX9_simplestBetween_28 rfl (lv_at hl 2 rfl) ?_
          refine lv_ineg hx hb dX9_simplestBetween_29 ?_
          refine lv_istore_n (lv' := [(3, .int (-p2)), (2, .int (-1 : Int32)), (0, .int p1), (1, .int p2)]) hx hb dX9_simplestBetween_30 rfl hl (by decide) rfl (fun ls hl => ?_)
          refine lv_iload_n hx hb dX9_simplestBetween_31 rfl (lv_at hl 2 rfl) ?_
          refine lv_if_lt (tgt := 39) hx hb dX9_simplestBetween_32 (by decide) (fun c32 => ?_) (fun c32 => ?_)
          · have he := he.trans (if_pos c32)
            have d32 := i_lt c32
            refine lv_iload_n hx hb dX9_simplestBetween_39 rfl (lv_at hl 2 rfl) ?_
            refine lv_ineg hx hb dX9_simplestBetween_40 ?_
            refine lv_istore (lv' := [(4, .int (-p1)), (3, .int (-p2)), (2, .int (-1 : Int32)), (0, .int p1), (1, .int p2)]) hx hb dX9_simplestBetween_41 hl (by decide) rfl (fun ls hl => ?_)
            refine lv_sipush (v := (256 : Int32)) hx hb dX9_simplestBetween_43 (by decide) ?_
            refine lv_istore (lv' := [(5, .int (256 : Int32)), (4, .int (-p1)), (3, .int (-p2)), (2, .int (-1 : Int32)), (0, .int p1), (1, .int p2)]) hx hb dX9_simplestBetween_46 hl (by decide) rfl (fun ls hl => ?_)
            have L48_17 : ∀ (n_48_17 : Nat) (x5_18 : Int32), 0 ≤ (x5_18).toInt ∧ (x5_18).toInt ≤ 256 → 1 ≤ n_48_17 ∧ 2 * (x5_18).toInt < 2 ^ n_48_17 → q = f_X9_simplestBetween_L48 n_48_17 p1 p2 (-1 : Int32) (-p2) (-p1) x5_18 → ∀ (H : Heap) (locs : List Loc) (ls : Array Slot), gX D Z s w H locs → lv_has ls 7 [(0, .int p1), (1, .int p2), (2, .int (-1 : Int32)), (3, .int (-p2)), (4, .int (-p1)), (5, .int x5_18)] → W p l e rm_X9_simplestBetween s m args below meth c H locs 0 0 Qz (F0 m 48 ls []) := by
              intro n_48_17
              induction n_48_17 with
              | zero =>
                intro x5_18 ia ifu _ _ _ _ _ _
                exfalso; omega
              | succ n_48_17 ih_L48_17 =>
                intro x5_18 ia ifu he H locs ls hX hl
                have he := he.trans f_X9_simplestBetween_L48_s
                refine lv_iload hx hb dX9_simplestBetween_48 (lv_at hl 5 rfl) ?_
                refine lv_iconst (v := (1 : Int32)) hx hb dX9_simplestBetween_50 (by decide) ?_
                refine lv_icmp_le (tgt := 86) hx hb dX9_simplestBetween_51 (by decide) (fun c51 => ?_) (fun c51 => ?_)
                · have he := he.trans (if_pos c51)
                  have d51 := i_le c51
                  refine lv_iload_n hx hb dX9_simplestBetween_86 rfl (lv_at hl 2 rfl) ?_
                  refine lv_iload_n hx hb dX9_simplestBetween_87 rfl (lv_at hl 3 rfl) ?_
                  refine lv_iconst (v := (1 : Int32)) hx hb dX9_simplestBetween_88 (by decide) ?_
                  refine lv_iadd hx hb dX9_simplestBetween_89 ?_
                  refine lv_imul hx hb dX9_simplestBetween_90 ?_
                  subst he
                  exact g_iret hx hb hr hlocks hX hq rfl dX9_simplestBetween_91
                · have he := he.trans (if_neg c51)
                  have d51 := i_nle c51
                  refine lv_iload_n hx hb dX9_simplestBetween_54 rfl (lv_at hl 3 rfl) ?_
                  refine lv_iload hx hb dX9_simplestBetween_55 (lv_at hl 5 rfl) ?_
                  refine lv_idiv hx hb dX9_simplestBetween_57 (fun h => by have := i_eq h; omega) ?_
                  refine lv_iconst (v := (1 : Int32)) hx hb dX9_simplestBetween_58 (by decide) ?_
                  refine lv_iadd hx hb dX9_simplestBetween_59 ?_
                  refine lv_iload hx hb dX9_simplestBetween_60 (lv_at hl 5 rfl) ?_
                  refine lv_imul hx hb dX9_simplestBetween_62 ?_
                  refine lv_istore (lv' := [(6, .int ((((-p2) / x5_18) + (1 : Int32)) * x5_18)), (0, .int p1), (1, .int p2), (2, .int (-1 : Int32)), (3, .int (-p2)), (4, .int (-p1)), (5, .int x5_18)]) hx hb dX9_simplestBetween_63 hl (by decide) rfl (fun ls hl => ?_)
                  refine lv_iload hx hb dX9_simplestBetween_65 (lv_at hl 0 rfl) ?_
                  refine lv_iload hx hb dX9_simplestBetween_67 (lv_at hl 5 rfl) ?_
                  refine lv_icmp_ge (tgt := 77) hx hb dX9_simplestBetween_69 (by decide) (fun c69 => ?_) (fun c69 => ?_)
                  · have he := he.trans (if_pos c69)
                    have d69 := i_le c69
                    refine lv_iload hx hb dX9_simplestBetween_77 (lv_at hl 6 rfl) ?_
                    refine lv_iconst (v := (2 : Int32)) hx hb dX9_simplestBetween_79 (by decide) ?_
                    refine lv_idiv hx hb dX9_simplestBetween_80 (by decide) ?_
                    refine lv_istore (lv' := [(5, .int (x5_18 / (2 : Int32))), (6, .int ((((-p2) / x5_18) + (1 : Int32)) * x5_18)), (0, .int p1), (1, .int p2), (2, .int (-1 : Int32)), (3, .int (-p2)), (4, .int (-p1))]) hx hb dX9_simplestBetween_81 hl (by decide) rfl (fun ls hl => ?_)
                    refine lv_goto (tgt := 48) hx hb dX9_simplestBetween_83 (by decide) ?_
                    exact ih_L48_17 (x5_18 / (2 : Int32)) (i_half (by omega)).1 (i_halfn (by omega) ifu) he _ _ _ hX (lv_sub hl [2, 3, 4, 5, 6, 0] rfl)
                  · have he := he.trans (if_neg c69)
                    have d69 := i_nle c69
                    refine lv_iload_n hx hb dX9_simplestBetween_72 rfl (lv_at hl 3 rfl) ?_
                    refine lv_iload hx hb dX9_simplestBetween_73 (lv_at hl 0 rfl) ?_
                    refine lv_imul hx hb dX9_simplestBetween_75 ?_
                    subst he
                    exact g_iret hx hb hr hlocks hX hq rfl dX9_simplestBetween_76
            exact L48_17 10 (256 : Int32) (by omega) ⟨by decide, by decide⟩ he _ _ _ hX (lv_sub hl [4, 5, 3, 2, 1, 0] rfl)
          · have he := he.trans (if_neg c32)
            have d32 := i_nlt c32
            refine lv_iload_n hx hb dX9_simplestBetween_35 rfl (lv_at hl 3 rfl) ?_
            refine lv_goto (tgt := 41) hx hb dX9_simplestBetween_36 (by decide) ?_
            refine lv_istore (lv' := [(4, .int p2), (3, .int (-p2)), (2, .int (-1 : Int32)), (0, .int p1), (1, .int p2)]) hx hb dX9_simplestBetween_41 hl (by decide) rfl (fun ls hl => ?_)
            refine lv_sipush (v := (256 : Int32)) hx hb dX9_simplestBetween_43 (by decide) ?_
            refine lv_istore (lv' := [(5, .int (256 : Int32)), (4, .int p2), (3, .int (-p2)), (2, .int (-1 : Int32)), (0, .int p1), (1, .int p2)]) hx hb dX9_simplestBetween_46 hl (by decide) rfl (fun ls hl => ?_)
            have L48_19 : ∀ (n_48_19 : Nat) (x5_20 : Int32), 0 ≤ (x5_20).toInt ∧ (x5_20).toInt ≤ 256 → 1 ≤ n_48_19 ∧ 2 * (x5_20).toInt < 2 ^ n_48_19 → q = f_X9_simplestBetween_L48 n_48_19 p1 p2 (-1 : Int32) (-p2) p2 x5_20 → ∀ (H : Heap) (locs : List Loc) (ls : Array Slot), gX D Z s w H locs → lv_has ls 7 [(0, .int p1), (1, .int p2), (2, .int (-1 : Int32)), (3, .int (-p2)), (4, .int p2), (5, .int x5_20)] → W p l e rm_X9_simplestBetween s m args below meth c H locs 0 0 Qz (F0 m 48 ls []) := by
              intro n_48_19
              induction n_48_19 with
              | zero =>
                intro x5_20 ia ifu _ _ _ _ _ _
                exfalso; omega
              | succ n_48_19 ih_L48_19 =>
                intro x5_20 ia ifu he H locs ls hX hl
                have he := he.trans f_X9_simplestBetween_L48_s
                refine lv_iload hx hb dX9_simplestBetween_48 (lv_at hl 5 rfl) ?_
                refine lv_iconst (v := (1 : Int32)) hx hb dX9_simplestBetween_50 (by decide) ?_
                refine lv_icmp_le (tgt := 86) hx hb dX9_simplestBetween_51 (by decide) (fun c51 => ?_) (fun c51 => ?_)
                · have he := he.trans (if_pos c51)
                  have d51 := i_le c51
                  refine lv_iload_n hx hb dX9_simplestBetween_86 rfl (lv_at hl 2 rfl) ?_
                  refine lv_iload_n hx hb dX9_simplestBetween_87 rfl (lv_at hl 3 rfl) ?_
                  refine lv_iconst (v := (1 : Int32)) hx hb dX9_simplestBetween_88 (by decide) ?_
                  refine lv_iadd hx hb dX9_simplestBetween_89 ?_
                  refine lv_imul hx hb dX9_simplestBetween_90 ?_
                  subst he
                  exact g_iret hx hb hr hlocks hX hq rfl dX9_simplestBetween_91
                · have he := he.trans (if_neg c51)
                  have d51 := i_nle c51
                  refine lv_iload_n hx hb dX9_simplestBetween_54 rfl (lv_at hl 3 rfl) ?_
                  refine lv_iload hx hb dX9_simplestBetween_55 (lv_at hl 5 rfl) ?_
                  refine lv_idiv hx hb dX9_simplestBetween_57 (fun h => by have := i_eq h; omega) ?_
                  refine lv_iconst (v := (1 : Int32)) hx hb dX9_simplestBetween_58 (by decide) ?_
                  refine lv_iadd hx hb dX9_simplestBetween_59 ?_
                  refine lv_iload hx hb dX9_simplestBetween_60 (lv_at hl 5 rfl) ?_
                  refine lv_imul hx hb dX9_simplestBetween_62 ?_
                  refine lv_istore (lv' := [(6, .int ((((-p2) / x5_20) + (1 : Int32)) * x5_20)), (0, .int p1), (1, .int p2), (2, .int (-1 : Int32)), (3, .int (-p2)), (4, .int p2), (5, .int x5_20)]) hx hb dX9_simplestBetween_63 hl (by decide) rfl (fun ls hl => ?_)
                  refine lv_iload hx hb dX9_simplestBetween_65 (lv_at hl 0 rfl) ?_
                  refine lv_iload hx hb dX9_simplestBetween_67 (lv_at hl 5 rfl) ?_
                  refine lv_icmp_ge (tgt := 77) hx hb dX9_simplestBetween_69 (by decide) (fun c69 => ?_) (fun c69 => ?_)
                  · have he := he.trans (if_pos c69)
                    have d69 := i_le c69
                    refine lv_iload hx hb dX9_simplestBetween_77 (lv_at hl 6 rfl) ?_
                    refine lv_iconst (v := (2 : Int32)) hx hb dX9_simplestBetween_79 (by decide) ?_
                    refine lv_idiv hx hb dX9_simplestBetween_80 (by decide) ?_
                    refine lv_istore (lv' := [(5, .int (x5_20 / (2 : Int32))), (6, .int ((((-p2) / x5_20) + (1 : Int32)) * x5_20)), (0, .int p1), (1, .int p2), (2, .int (-1 : Int32)), (3, .int (-p2)), (4, .int p2)]) hx hb dX9_simplestBetween_81 hl (by decide) rfl (fun ls hl => ?_)
                    refine lv_goto (tgt := 48) hx hb dX9_simplestBetween_83 (by decide) ?_
                    exact ih_L48_19 (x5_20 / (2 : Int32)) (i_half (by omega)).1 (i_halfn (by omega) ifu) he _ _ _ hX (lv_sub hl [2, 3, 4, 5, 6, 0] rfl)
                  · have he := he.trans (if_neg c69)
                    have d69 := i_nle c69
                    refine lv_iload_n hx hb dX9_simplestBetween_72 rfl (lv_at hl 3 rfl) ?_
                    refine lv_iload hx hb dX9_simplestBetween_73 (lv_at hl 0 rfl) ?_
                    refine lv_imul hx hb dX9_simplestBetween_75 ?_
                    subst he
                    exact g_iret hx hb hr hlocks hX hq rfl dX9_simplestBetween_76
            exact L48_19 10 (256 : Int32) (by omega) ⟨by decide, by decide⟩ he _ _ _ hX (lv_sub hl [4, 5, 3, 2, 1, 0] rfl)
        · have he := he.trans (if_neg c21)
          have d21 := i_nlt c21
          refine lv_iload_n hx hb dX9_simplestBetween_24 rfl (lv_at hl 1 rfl) ?_
          refine lv_goto (tgt := 30) hx hb dX9_simplestBetween_25 (by decide) ?_
          refine lv_istore_n (lv' := [(3, .int p1), (2, .int (-1 : Int32)), (0, .int p1), (1, .int p2)]) hx hb dX9_simplestBetween_30 rfl hl (by decide) rfl (fun ls hl => ?_)
          refine lv_iload_n hx hb dX9_simplestBetween_31 rfl (lv_at hl 2 rfl) ?_
          refine lv_if_lt (tgt := 39) hx hb dX9_simplestBetween_32 (by decide) (fun c32 => ?_) (fun c32 => ?_)
          · have he := he.trans (if_pos c32)
            have d32 := i_lt c32
            refine lv_iload_n hx hb dX9_simplestBetween_39 rfl (lv_at hl 2 rfl) ?_
            refine lv_ineg hx hb dX9_simplestBetween_40 ?_
            refine lv_istore (lv' := [(4, .int (-p1)), (3, .int p1), (2, .int (-1 : Int32)), (0, .int p1), (1, .int p2)]) hx hb dX9_simplestBetween_41 hl (by decide) rfl (fun ls hl => ?_)
            refine lv_sipush (v := (256 : Int32)) hx hb dX9_simplestBetween_43 (by decide) ?_
            refine lv_istore (lv' := [(5, .int (256 : Int32)), (4, .int (-p1)), (3, .int p1), (2, .int (-1 : Int32)), (0, .int p1), (1, .int p2)]) hx hb dX9_simplestBetween_46 hl (by decide) rfl (fun ls hl => ?_)
            have L48_21 : ∀ (n_48_21 : Nat) (x5_22 : Int32), 0 ≤ (x5_22).toInt ∧ (x5_22).toInt ≤ 256 → 1 ≤ n_48_21 ∧ 2 * (x5_22).toInt < 2 ^ n_48_21 → q = f_X9_simplestBetween_L48 n_48_21 p1 p2 (-1 : Int32) p1 (-p1) x5_22 → ∀ (H : Heap) (locs : List Loc) (ls : Array Slot), gX D Z s w H locs → lv_has ls 7 [(0, .int p1), (1, .int p2), (2, .int (-1 : Int32)), (3, .int p1), (4, .int (-p1)), (5, .int x5_22)] → W p l e rm_X9_simplestBetween s m args below meth c H locs 0 0 Qz (F0 m 48 ls []) := by
              intro n_48_21
              induction n_48_21 with
              | zero =>
                intro x5_22 ia ifu _ _ _ _ _ _
                exfalso; omega
              | succ n_48_21 ih_L48_21 =>
                intro x5_22 ia ifu he H locs ls hX hl
                have he := he.trans f_X9_simplestBetween_L48_s
                refine lv_iload hx hb dX9_simplestBetween_48 (lv_at hl 5 rfl) ?_
                refine lv_iconst (v := (1 : Int32)) hx hb dX9_simplestBetween_50 (by decide) ?_
                refine lv_icmp_le (tgt := 86) hx hb dX9_simplestBetween_51 (by decide) (fun c51 => ?_) (fun c51 => ?_)
                · have he := he.trans (if_pos c51)
                  have d51 := i_le c51
                  refine lv_iload_n hx hb dX9_simplestBetween_86 rfl (lv_at hl 2 rfl) ?_
                  refine lv_iload_n hx hb dX9_simplestBetween_87 rfl (lv_at hl 3 rfl) ?_
                  refine lv_iconst (v := (1 : Int32)) hx hb dX9_simplestBetween_88 (by decide) ?_
                  refine lv_iadd hx hb dX9_simplestBetween_89 ?_
                  refine lv_imul hx hb dX9_simplestBetween_90 ?_
                  subst he
                  exact g_iret hx hb hr hlocks hX hq rfl dX9_simplestBetween_91
                · have he := he.trans (if_neg c51)
                  have d51 := i_nle c51
                  refine lv_iload_n hx hb dX9_simplestBetween_54 rfl (lv_at hl 3 rfl) ?_
                  refine lv_iload hx hb dX9_simplestBetween_55 (lv_at hl 5 rfl) ?_
                  refine lv_idiv hx hb dX9_simplestBetween_57 (fun h => by have := i_eq h; omega) ?_
                  refine lv_iconst (v := (1 : Int32)) hx hb dX9_simplestBetween_58 (by decide) ?_
                  refine lv_iadd hx hb dX9_simplestBetween_59 ?_
                  refine lv_iload hx hb dX9_simplestBetween_60 (lv_at hl 5 rfl) ?_
                  refine lv_imul hx hb dX9_simplestBetween_62 ?_
                  refine lv_istore (lv' := [(6, .int (((p1 / x5_22) + (1 : Int32)) * x5_22)), (0, .int p1), (1, .int p2), (2, .int (-1 : Int32)), (3, .int p1), (4, .int (-p1)), (5, .int x5_22)]) hx hb dX9_simplestBetween_63 hl (by decide) rfl (fun ls hl => ?_)
                  refine lv_iload hx hb dX9_simplestBetween_65 (lv_at hl 0 rfl) ?_
                  refine lv_iload hx hb dX9_simplestBetween_67 (lv_at hl 5 rfl) ?_
                  refine lv_icmp_ge (tgt := 77) hx hb dX9_simplestBetween_69 (by decide) (fun c69 => ?_) (fun c69 => ?_)
                  · have he := he.trans (if_pos c69)
                    have d69 := i_le c69
                    refine lv_iload hx hb dX9_simplestBetween_77 (lv_at hl 6 rfl) ?_
                    refine lv_iconst (v := (2 : Int32)) hx hb dX9_simplestBetween_79 (by decide) ?_
                    refine lv_idiv hx hb dX9_simplestBetween_80 (by decide) ?_
                    refine lv_istore (lv' := [(5, .int (x5_22 / (2 : Int32))), (6, .int (((p1 / x5_22) + (1 : Int32)) * x5_22)), (0, .int p1), (1, .int p2), (2, .int (-1 : Int32)), (3, .int p1), (4, .int (-p1))]) hx hb dX9_simplestBetween_81 hl (by decide) rfl (fun ls hl => ?_)
                    refine lv_goto (tgt := 48) hx hb dX9_simplestBetween_83 (by decide) ?_
                    exact ih_L48_21 (x5_22 / (2 : Int32)) (i_half (by omega)).1 (i_halfn (by omega) ifu) he _ _ _ hX (lv_sub hl [2, 3, 4, 5, 6, 0] rfl)
                  · have he := he.trans (if_neg c69)
                    have d69 := i_nle c69
                    refine lv_iload_n hx hb dX9_simplestBetween_72 rfl (lv_at hl 3 rfl) ?_
                    refine lv_iload hx hb dX9_simplestBetween_73 (lv_at hl 0 rfl) ?_
                    refine lv_imul hx hb dX9_simplestBetween_75 ?_
                    subst he
                    exact g_iret hx hb hr hlocks hX hq rfl dX9_simplestBetween_76
            exact L48_21 10 (256 : Int32) (by omega) ⟨by decide, by decide⟩ he _ _ _ hX (lv_sub hl [4, 5, 3, 2, 1, 0] rfl)
          · have he := he.trans (if_neg c32)
            have d32 := i_nlt c32
            refine lv_iload_n hx hb dX9_simplestBetween_35 rfl (lv_at hl 3 rfl) ?_
            refine lv_goto (tgt := 41) hx hb dX9_simplestBetween_36 (by decide) ?_
            refine lv_istore (lv' := [(4, .int p2), (3, .int p1), (2, .int (-1 : Int32)), (0, .int p1), (1, .int p2)]) hx hb dX9_simplestBetween_41 hl (by decide) rfl (fun ls hl => ?_)
            refine lv_sipush (v := (256 : Int32)) hx hb dX9_simplestBetween_43 (by decide) ?_
            refine lv_istore (lv' := [(5, .int (256 : Int32)), (4, .int p2), (3, .int p1), (2, .int (-1 : Int32)), (0, .int p1), (1, .int p2)]) hx hb dX9_simplestBetween_46 hl (by decide) rfl (fun ls hl => ?_)
            have L48_23 : ∀ (n_48_23 : Nat) (x5_24 : Int32), 0 ≤ (x5_24).toInt ∧ (x5_24).toInt ≤ 256 → 1 ≤ n_48_23 ∧ 2 * (x5_24).toInt < 2 ^ n_48_23 → q = f_X9_simplestBetween_L48 n_48_23 p1 p2 (-1 : Int32) p1 p2 x5_24 → ∀ (H : Heap) (locs : List Loc) (ls : Array Slot), gX D Z s w H locs → lv_has ls 7 [(0, .int p1), (1, .int p2), (2, .int (-1 : Int32)), (3, .int p1), (4, .int p2), (5, .int x5_24)] → W p l e rm_X9_simplestBetween s m args below meth c H locs 0 0 Qz (F0 m 48 ls []) := by
              intro n_48_23
              induction n_48_23 with
              | zero =>
                intro x5_24 ia ifu _ _ _ _ _ _
                exfalso; omega
              | succ n_48_23 ih_L48_23 =>
                intro x5_24 ia ifu he H locs ls hX hl
                have he := he.trans f_X9_simplestBetween_L48_s
                refine lv_iload hx hb dX9_simplestBetween_48 (lv_at hl 5 rfl) ?_
                refine lv_iconst (v := (1 : Int32)) hx hb dX9_simplestBetween_50 (by decide) ?_
                refine lv_icmp_le (tgt := 86) hx hb dX9_simplestBetween_51 (by decide) (fun c51 => ?_) (fun c51 => ?_)
                · have he := he.trans (if_pos c51)
                  have d51 := i_le c51
                  refine lv_iload_n hx hb dX9_simplestBetween_86 rfl (lv_at hl 2 rfl) ?_
                  refine lv_iload_n hx hb dX9_simplestBetween_87 rfl (lv_at hl 3 rfl) ?_
                  refine lv_iconst (v := (1 : Int32)) hx hb dX9_simplestBetween_88 (by decide) ?_
                  refine lv_iadd hx hb dX9_simplestBetween_89 ?_
                  refine lv_imul hx hb dX9_simplestBetween_90 ?_
                  subst he
                  exact g_iret hx hb hr hlocks hX hq rfl dX9_simplestBetween_91
                · have he := he.trans (if_neg c51)
                  have d51 := i_nle c51
                  refine lv_iload_n hx hb dX9_simplestBetween_54 rfl (lv_at hl 3 rfl) ?_
                  refine lv_iload hx hb dX9_simplestBetween_55 (lv_at hl 5 rfl) ?_
                  refine lv_idiv hx hb dX9_simplestBetween_57 (fun h => by have := i_eq h; omega) ?_
                  refine lv_iconst (v := (1 : Int32)) hx hb dX9_simplestBetween_58 (by decide) ?_
                  refine lv_iadd hx hb dX9_simplestBetween_59 ?_
                  refine lv_iload hx hb dX9_simplestBetween_60 (lv_at hl 5 rfl) ?_
                  refine lv_imul hx hb dX9_simplestBetween_62 ?_
                  refine lv_istore (lv' := [(6, .int (((p1 / x5_24) + (1 : Int32)) * x5_24)), (0, .int p1), (1, .int p2), (2, .int (-1 : Int32)), (3, .int p1), (4, .int p2), (5, .int x5_24)]) hx hb dX9_simplestBetween_63 hl (by decide) rfl (fun ls hl => ?_)
                  refine lv_iload hx hb dX9_simplestBetween_65 (lv_at hl 0 rfl) ?_
                  refine lv_iload hx hb dX9_simplestBetween_67 (lv_at hl 5 rfl) ?_
                  refine lv_icmp_ge (tgt := 77) hx hb dX9_simplestBetween_69 (by decide) (fun c69 => ?_) (fun c69 => ?_)
                  · have he := he.trans (if_pos c69)
                    have d69 := i_le c69
                    refine lv_iload hx hb dX9_simplestBetween_77 (lv_at hl 6 rfl) ?_
                    refine lv_iconst (v := (2 : Int32)) hx hb dX9_simplestBetween_79 (by decide) ?_
                    refine lv_idiv hx hb dX9_simplestBetween_80 (by decide) ?_
                    refine lv_istore (lv' := [(5, .int (x5_24 / (2 : Int32))), (6, .int (((p1 / x5_24) + (1 : Int32)) * x5_24)), (0, .int p1), (1, .int p2), (2, .int (-1 : Int32)), (3, .int p1), (4, .int p2)]) hx hb dX9_simplestBetween_81 hl (by decide) rfl (fun ls hl => ?_)
                    refine lv_goto (tgt := 48) hx hb dX9_simplestBetween_83 (by decide) ?_
                    exact ih_L48_23 (x5_24 / (2 : Int32)) (i_half (by omega)).1 (i_halfn (by omega) ifu) he _ _ _ hX (lv_sub hl [2, 3, 4, 5, 6, 0] rfl)
                  · have he := he.trans (if_neg c69)
                    have d69 := i_nle c69
                    refine lv_iload_n hx hb dX9_simplestBetween_72 rfl (lv_at hl 3 rfl) ?_
                    refine lv_iload hx hb dX9_simplestBetween_73 (lv_at hl 0 rfl) ?_
                    refine lv_imul hx hb dX9_simplestBetween_75 ?_
                    subst he
                    exact g_iret hx hb hr hlocks hX hq rfl dX9_simplestBetween_76
            exact L48_23 10 (256 : Int32) (by omega) ⟨by decide, by decide⟩ he _ _ _ hX (lv_sub hl [4, 5, 3, 2, 1, 0] rfl)
      · have he := he.trans (if_neg c11)
        have d11 := i_nlt c11
        refine lv_iconst (v := (1 : Int32)) hx hb dX9_simplestBetween_14 (by decide) ?_
        refine lv_goto (tgt := 19) hx hb dX9_simplestBetween_15 (by decide) ?_
        refine lv_istore_n (lv' := [(2, .int (1 : Int32)), (0, .int p1), (1, .int p2)]) hx hb dX9_simplestBetween_19 rfl hl (by decide) rfl (fun ls hl => ?_)
        refine lv_iload_n hx hb dX9_simplestBetween_20 rfl (lv_at hl 1 rfl) ?_
        refine lv_if_lt (tgt := 28) hx hb dX9_simplestBetween_21 (by decide) (fun c21 => ?_) (fun c21 => ?_)
        · have he := he.trans (if_pos c21)
          have d21 := i_lt c21
          refine lv_iload_n hx hb dX9_simplestBetween_28 rfl (lv_at hl 2 rfl) ?_
          refine lv_ineg hx hb dX9_simplestBetween_29 ?_
          refine lv_istore_n (lv' := [(3, .int (-p2)), (2, .int (1 : Int32)), (0, .int p1), (1, .int p2)]) hx hb dX9_simplestBetween_30 rfl hl (by decide) rfl (fun ls hl => ?_)
          refine lv_iload_n hx hb dX9_simplestBetween_31 rfl (lv_at hl 2 rfl) ?_
          refine lv_if_lt (tgt := 39) hx hb dX9_simplestBetween_32 (by decide) (fun c32 => ?_) (fun c32 => ?_)
          · have he := he.trans (if_pos c32)
            have d32 := i_lt c32
            refine lv_iload_n hx hb dX9_simplestBetween_39 rfl (lv_at hl 2 rfl) ?_
            refine lv_ineg hx hb dX9_simplestBetween_40 ?_
            refine lv_istore (lv' := [(4, .int (-p1)), (3, .int (-p2)), (2, .int (1 : Int32)), (0, .int p1), (1, .int p2)]) hx hb dX9_simplestBetween_41 hl (by decide) rfl (fun ls hl => ?_)
            refine lv_sipush (v := (256 : Int32)) hx hb dX9_simplestBetween_43 (by decide) ?_
            refine lv_istore (lv' := [(5, .int (256 : Int32)), (4, .int (-p1)), (3, .int (-p2)), (2, .int (1 : Int32)), (0, .int p1), (1, .int p2)]) hx hb dX9_simplestBetween_46 hl (by decide) rfl (fun ls hl => ?_)
            have L48_25 : ∀ (n_48_25 : Nat) (x5_26 : Int32), 0 ≤ (x5_26).toInt ∧ (x5_26).toInt ≤ 256 → 1 ≤ n_48_25 ∧ 2 * (x5_26).toInt < 2 ^ n_48_25 → q = f_X9_simplestBetween_L48 n_48_25 p1 p2 (1 : Int32) (-p2) (-p1) x5_26 → ∀ (H : Heap) (locs : List Loc) (ls : Array Slot), gX D Z s w H locs → lv_has ls 7 [(0, .int p1), (1, .int p2), (2, .int (1 : Int32)), (3, .int (-p2)), (4, .int (-p1)), (5, .int x5_26)] → W p l e rm_X9_simplestBetween s m args below meth c H locs 0 0 Qz (F0 m 48 ls []) := by
              intro n_48_25
              induction n_48_25 with
              | zero =>
                intro x5_26 ia ifu _ _ _ _ _ _
                exfalso; omega
              | succ n_48_25 ih_L48_25 =>
                intro x5_26 ia ifu he H locs ls hX hl
                have he := he.trans f_X9_simplestBetween_L48_s
                refine lv_iload hx hb dX9_simplestBetween_48 (lv_at hl 5 rfl) ?_
                refine lv_iconst (v := (1 : Int32)) hx hb dX9_simplestBetween_50 (by decide) ?_
                refine lv_icmp_le (tgt := 86) hx hb dX9_simplestBetween_51 (by decide) (fun c51 => ?_) (fun c51 => ?_)
                · have he := he.trans (if_pos c51)
                  have d51 := i_le c51
                  refine lv_iload_n hx hb dX9_simplestBetween_86 rfl (lv_at hl 2 rfl) ?_
                  refine lv_iload_n hx hb dX9_simplestBetween_87 rfl (lv_at hl 3 rfl) ?_
                  refine lv_iconst (v := (1 : Int32)) hx hb dX9_simplestBetween_88 (by decide) ?_
                  refine lv_iadd hx hb dX9_simplestBetween_89 ?_
                  refine lv_imul hx hb dX9_simplestBetween_90 ?_
                  subst he
                  exact g_iret hx hb hr hlocks hX hq rfl dX9_simplestBetween_91
                · have he := he.trans (if_neg c51)
                  have d51 := i_nle c51
                  refine lv_iload_n hx hb dX9_simplestBetween_54 rfl (lv_at hl 3 rfl) ?_
                  refine lv_iload hx hb dX9_simplestBetween_55 (lv_at hl 5 rfl) ?_
                  refine lv_idiv hx hb dX9_simplestBetween_57 (fun h => by have := i_eq h; omega) ?_
                  refine lv_iconst (v := (1 : Int32)) hx hb dX9_simplestBetween_58 (by decide) ?_
                  refine lv_iadd hx hb dX9_simplestBetween_59 ?_
                  refine lv_iload hx hb dX9_simplestBetween_60 (lv_at hl 5 rfl) ?_
                  refine lv_imul hx hb dX9_simplestBetween_62 ?_
                  refine lv_istore (lv' := [(6, .int ((((-p2) / x5_26) + (1 : Int32)) * x5_26)), (0, .int p1), (1, .int p2), (2, .int (1 : Int32)), (3, .int (-p2)), (4, .int (-p1)), (5, .int x5_26)]) hx hb dX9_simplestBetween_63 hl (by decide) rfl (fun ls hl => ?_)
                  refine lv_iload hx hb dX9_simplestBetween_65 (lv_at hl 0 rfl) ?_
                  refine lv_iload hx hb dX9_simplestBetween_67 (lv_at hl 5 rfl) ?_
                  refine lv_icmp_ge (tgt := 77) hx hb dX9_simplestBetween_69 (by decide) (fun c69 => ?_) (fun c69 => ?_)
                  · have he := he.trans (if_pos c69)
                    have d69 := i_le c69
                    refine lv_iload hx hb dX9_simplestBetween_77 (lv_at hl 6 rfl) ?_
                    refine lv_iconst (v := (2 : Int32)) hx hb dX9_simplestBetween_79 (by decide) ?_
                    refine lv_idiv hx hb dX9_simplestBetween_80 (by decide) ?_
                    refine lv_istore (lv' := [(5, .int (x5_26 / (2 : Int32))), (6, .int ((((-p2) / x5_26) + (1 : Int32)) * x5_26)), (0, .int p1), (1, .int p2), (2, .int (1 : Int32)), (3, .int (-p2)), (4, .int (-p1))]) hx hb dX9_simplestBetween_81 hl (by decide) rfl (fun ls hl => ?_)
                    refine lv_goto (tgt := 48) hx hb dX9_simplestBetween_83 (by decide) ?_
                    exact ih_L48_25 (x5_26 / (2 : Int32)) (i_half (by omega)).1 (i_halfn (by omega) ifu) he _ _ _ hX (lv_sub hl [2, 3, 4, 5, 6, 0] rfl)
                  · have he := he.trans (if_neg c69)
                    have d69 := i_nle c69
                    refine lv_iload_n hx hb dX9_simplestBetween_72 rfl (lv_at hl 3 rfl) ?_
                    refine lv_iload hx hb dX9_simplestBetween_73 (lv_at hl 0 rfl) ?_
                    refine lv_imul hx hb dX9_simplestBetween_75 ?_
                    subst he
                    exact g_iret hx hb hr hlocks hX hq rfl dX9_simplestBetween_76
            exact L48_25 10 (256 : Int32) (by omega) ⟨by decide, by decide⟩ he _ _ _ hX (lv_sub hl [4, 5, 3, 2, 1, 0] rfl)
          · have he := he.trans (if_neg c32)
            have d32 := i_nlt c32
            refine lv_iload_n hx hb dX9_simplestBetween_35 rfl (lv_at hl 3 rfl) ?_
            refine lv_goto (tgt := 41) hx hb dX9_simplestBetween_36 (by decide) ?_
            refine lv_istore (lv' := [(4, .int p2), (3, .int (-p2)), (2, .int (1 : Int32)), (0, .int p1), (1, .int p2)]) hx hb dX9_simplestBetween_41 hl (by decide) rfl (fun ls hl => ?_)
            refine lv_sipush (v := (256 : Int32)) hx hb dX9_simplestBetween_43 (by decide) ?_
            refine lv_istore (lv' := [(5, .int (256 : Int32)), (4, .int p2), (3, .int (-p2)), (2, .int (1 : Int32)), (0, .int p1), (1, .int p2)]) hx hb dX9_simplestBetween_46 hl (by decide) rfl (fun ls hl => ?_)
            have L48_27 : ∀ (n_48_27 : Nat) (x5_28 : Int32), 0 ≤ (x5_28).toInt ∧ (x5_28).toInt ≤ 256 → 1 ≤ n_48_27 ∧ 2 * (x5_28).toInt < 2 ^ n_48_27 → q = f_X9_simplestBetween_L48 n_48_27 p1 p2 (1 : Int32) (-p2) p2 x5_28 → ∀ (H : Heap) (locs : List Loc) (ls : Array Slot), gX D Z s w H locs → lv_has ls 7 [(0, .int p1), (1, .int p2), (2, .int (1 : Int32)), (3, .int (-p2)), (4, .int p2), (5, .int x5_28)] → W p l e rm_X9_simplestBetween s m args below meth c H locs 0 0 Qz (F0 m 48 ls []) := by
              intro n_48_27
              induction n_48_27 with
              | zero =>
                intro x5_28 ia ifu _ _ _ _ _ _
                exfalso; omega
              | succ n_48_27 ih_L48_27 =>
                intro x5_28 ia ifu he H locs ls hX hl
                have he := he.trans f_X9_simplestBetween_L48_s
                refine lv_iload hx hb dX9_simplestBetween_48 (lv_at hl 5 rfl) ?_
                refine lv_iconst (v := (1 : Int32)) hx hb dX9_simplestBetween_50 (by decide) ?_
                refine lv_icmp_le (tgt := 86) hx hb dX9_simplestBetween_51 (by decide) (fun c51 => ?_) (fun c51 => ?_)
                · have he := he.trans (if_pos c51)
                  have d51 := i_le c51
                  refine lv_iload_n hx hb dX9_simplestBetween_86 rfl (lv_at hl 2 rfl) ?_
                  refine lv_iload_n hx hb dX9_simplestBetween_87 rfl (lv_at hl 3 rfl) ?_
                  refine lv_iconst (v := (1 : Int32)) hx hb dX9_simplestBetween_88 (by decide) ?_
                  refine lv_iadd hx hb dX9_simplestBetween_89 ?_
                  refine lv_imul hx hb dX9_simplestBetween_90 ?_
                  subst he
                  exact g_iret hx hb hr hlocks hX hq rfl dX9_simplestBetween_91
                · have he := he.trans (if_neg c51)
                  have d51 := i_nle c51
                  refine lv_iload_n hx hb dX9_simplestBetween_54 rfl (lv_at hl 3 rfl) ?_
                  refine lv_iload hx hb dX9_simplestBetween_55 (lv_at hl 5 rfl) ?_
                  refine lv_idiv hx hb dX9_simplestBetween_57 (fun h => by have := i_eq h; omega) ?_
                  refine lv_iconst (v := (1 : Int32)) hx hb dX9_simplestBetween_58 (by decide) ?_
                  refine lv_iadd hx hb dX9_simplestBetween_59 ?_
                  refine lv_iload hx hb dX9_simplestBetween_60 (lv_at hl 5 rfl) ?_
                  refine lv_imul hx hb dX9_simplestBetween_62 ?_
                  refine lv_istore (lv' := [(6, .int ((((-p2) / x5_28) + (1 : Int32)) * x5_28)), (0, .int p1), (1, .int p2), (2, .int (1 : Int32)), (3, .int (-p2)), (4, .int p2), (5, .int x5_28)]) hx hb dX9_simplestBetween_63 hl (by decide) rfl (fun ls hl => ?_)
                  refine lv_iload hx hb dX9_simplestBetween_65 (lv_at hl 0 rfl) ?_
                  refine lv_iload hx hb dX9_simplestBetween_67 (lv_at hl 5 rfl) ?_
                  refine lv_icmp_ge (tgt := 77) hx hb dX9_simplestBetween_69 (by decide) (fun c69 => ?_) (fun c69 => ?_)
                  · have he := he.trans (if_pos c69)
                    have d69 := i_le c69
                    refine lv_iload hx hb dX9_simplestBetween_77 (lv_at hl 6 rfl) ?_
                    refine lv_iconst (v := (2 : Int32)) hx hb dX9_simplestBetween_79 (by decide) ?_
                    refine lv_idiv hx hb dX9_simplestBetween_80 (by decide) ?_
                    refine lv_istore (lv' := [(5, .int (x5_28 / (2 : Int32))), (6, .int ((((-p2) / x5_28) + (1 : Int32)) * x5_28)), (0, .int p1), (1, .int p2), (2, .int (1 : Int32)), (3, .int (-p2)), (4, .int p2)]) hx hb dX9_simplestBetween_81 hl (by decide) rfl (fun ls hl => ?_)
                    refine lv_goto (tgt := 48) hx hb dX9_simplestBetween_83 (by decide) ?_
                    exact ih_L48_27 (x5_28 / (2 : Int32)) (i_half (by omega)).1 (i_halfn (by omega) ifu) he _ _ _ hX (lv_sub hl [2, 3, 4, 5, 6, 0] rfl)
                  · have he := he.trans (if_neg c69)
                    have d69 := i_nle c69
                    refine lv_iload_n hx hb dX9_simplestBetween_72 rfl (lv_at hl 3 rfl) ?_
                    refine lv_iload hx hb dX9_simplestBetween_73 (lv_at hl 0 rfl) ?_
                    refine lv_imul hx hb dX9_simplestBetween_75 ?_
                    subst he
                    exact g_iret hx hb hr hlocks hX hq rfl dX9_simplestBetween_76
            exact L48_27 10 (256 : Int32) (by omega) ⟨by decide, by decide⟩ he _ _ _ hX (lv_sub hl [4, 5, 3, 2, 1, 0] rfl)
        · have he := he.trans (if_neg c21)
          have d21 := i_nlt c21
          refine lv_iload_n hx hb dX9_simplestBetween_24 rfl (lv_at hl 1 rfl) ?_
          refine lv_goto (tgt := 30) hx hb dX9_simplestBetween_25 (by decide) ?_
          refine lv_istore_n (lv' := [(3, .int p1), (2, .int (1 : Int32)), (0, .int p1), (1, .int p2)]) hx hb dX9_simplestBetween_30 rfl hl (by decide) rfl (fun ls hl => ?_)
          refine lv_iload_n hx hb dX9_simplestBetween_31 rfl (lv_at hl 2 rfl) ?_
          refine lv_if_lt (tgt := 39) hx hb dX9_simplestBetween_32 (by decide) (fun c32 => ?_) (fun c32 => ?_)
          · have he := he.trans (if_pos c32)
            have d32 := i_lt c32
            refine lv_iload_n hx hb dX9_simplestBetween_39 rfl (lv_at hl 2 rfl) ?_
            refine lv_ineg hx hb dX9_simplestBetween_40 ?_
            refine lv_istore (lv' := [(4, .int (-p1)), (3, .int p1), (2, .int (1 : Int32)), (0, .int p1), (1, .int p2)]) hx hb dX9_simplestBetween_41 hl (by decide) rfl (fun ls hl => ?_)
            refine lv_sipush (v := (256 : Int32)) hx hb dX9_simplestBetween_43 (by decide) ?_
            refine lv_istore (lv' := [(5, .int (256 : Int32)), (4, .int (-p1)), (3, .int p1), (2, .int (1 : Int32)), (0, .int p1), (1, .int p2)]) hx hb dX9_simplestBetween_46 hl (by decide) rfl (fun ls hl => ?_)
            have L48_29 : ∀ (n_48_29 : Nat) (x5_30 : Int32), 0 ≤ (x5_30).toInt ∧ (x5_30).toInt ≤ 256 → 1 ≤ n_48_29 ∧ 2 * (x5_30).toInt < 2 ^ n_48_29 → q = f_X9_simplestBetween_L48 n_48_29 p1 p2 (1 : Int32) p1 (-p1) x5_30 → ∀ (H : Heap) (locs : List Loc) (ls : Array Slot), gX D Z s w H locs → lv_has ls 7 [(0, .int p1), (1, .int p2), (2, .int (1 : Int32)), (3, .int p1), (4, .int (-p1)), (5, .int x5_30)] → W p l e rm_X9_simplestBetween s m args below meth c H locs 0 0 Qz (F0 m 48 ls []) := by
              intro n_48_29
              induction n_48_29 with
              | zero =>
                intro x5_30 ia ifu _ _ _ _ _ _
                exfalso; omega
              | succ n_48_29 ih_L48_29 =>
                intro x5_30 ia ifu he H locs ls hX hl
                have he := he.trans f_X9_simplestBetween_L48_s
                refine lv_iload hx hb dX9_simplestBetween_48 (lv_at hl 5 rfl) ?_
                refine lv_iconst (v := (1 : Int32)) hx hb dX9_simplestBetween_50 (by decide) ?_
                refine lv_icmp_le (tgt := 86) hx hb dX9_simplestBetween_51 (by decide) (fun c51 => ?_) (fun c51 => ?_)
                · have he := he.trans (if_pos c51)
                  have d51 := i_le c51
                  refine lv_iload_n hx hb dX9_simplestBetween_86 rfl (lv_at hl 2 rfl) ?_
                  refine lv_iload_n hx hb dX9_simplestBetween_87 rfl (lv_at hl 3 rfl) ?_
                  refine lv_iconst (v := (1 : Int32)) hx hb dX9_simplestBetween_88 (by decide) ?_
                  refine lv_iadd hx hb dX9_simplestBetween_89 ?_
                  refine lv_imul hx hb dX9_simplestBetween_90 ?_
                  subst he
                  exact g_iret hx hb hr hlocks hX hq rfl dX9_simplestBetween_91
                · have he := he.trans (if_neg c51)
                  have d51 := i_nle c51
                  refine lv_iload_n hx hb dX9_simplestBetween_54 rfl (lv_at hl 3 rfl) ?_
                  refine lv_iload hx hb dX9_simplestBetween_55 (lv_at hl 5 rfl) ?_
                  refine lv_idiv hx hb dX9_simplestBetween_57 (fun h => by have := i_eq h; omega) ?_
                  refine lv_iconst (v := (1 : Int32)) hx hb dX9_simplestBetween_58 (by decide) ?_
                  refine lv_iadd hx hb dX9_simplestBetween_59 ?_
                  refine lv_iload hx hb dX9_simplestBetween_60 (lv_at hl 5 rfl) ?_
                  refine lv_imul hx hb dX9_simplestBetween_62 ?_
                  refine lv_istore (lv' := [(6, .int (((p1 / x5_30) + (1 : Int32)) * x5_30)), (0, .int p1), (1, .int p2), (2, .int (1 : Int32)), (3, .int p1), (4, .int (-p1)), (5, .int x5_30)]) hx hb dX9_simplestBetween_63 hl (by decide) rfl (fun ls hl => ?_)
                  refine lv_iload hx hb dX9_simplestBetween_65 (lv_at hl 0 rfl) ?_
                  refine lv_iload hx hb dX9_simplestBetween_67 (lv_at hl 5 rfl) ?_
                  refine lv_icmp_ge (tgt := 77) hx hb dX9_simplestBetween_69 (by decide) (fun c69 => ?_) (fun c69 => ?_)
                  · have he := he.trans (if_pos c69)
                    have d69 := i_le c69
                    refine lv_iload hx hb dX9_simplestBetween_77 (lv_at hl 6 rfl) ?_
                    refine lv_iconst (v := (2 : Int32)) hx hb dX9_simplestBetween_79 (by decide) ?_
                    refine lv_idiv hx hb dX9_simplestBetween_80 (by decide) ?_
                    refine lv_istore (lv' := [(5, .int (x5_30 / (2 : Int32))), (6, .int (((p1 / x5_30) + (1 : Int32)) * x5_30)), (0, .int p1), (1, .int p2), (2, .int (1 : Int32)), (3, .int p1), (4, .int (-p1))]) hx hb dX9_simplestBetween_81 hl (by decide) rfl (fun ls hl => ?_)
                    refine lv_goto (tgt := 48) hx hb dX9_simplestBetween_83 (by decide) ?_
                    exact ih_L48_29 (x5_30 / (2 : Int32)) (i_half (by omega)).1 (i_halfn (by omega) ifu) he _ _ _ hX (lv_sub hl [2, 3, 4, 5, 6, 0] rfl)
                  · have he := he.trans (if_neg c69)
                    have d69 := i_nle c69
                    refine lv_iload_n hx hb dX9_simplestBetween_72 rfl (lv_at hl 3 rfl) ?_
                    refine lv_iload hx hb dX9_simplestBetween_73 (lv_at hl 0 rfl) ?_
                    refine lv_imul hx hb dX9_simplestBetween_75 ?_
                    subst he
                    exact g_iret hx hb hr hlocks hX hq rfl dX9_simplestBetween_76
            exact L48_29 10 (256 : Int32) (by omega) ⟨by decide, by decide⟩ he _ _ _ hX (lv_sub hl [4, 5, 3, 2, 1, 0] rfl)
          · have he := he.trans (if_neg c32)
            have d32 := i_nlt c32
            refine lv_iload_n hx hb dX9_simplestBetween_35 rfl (lv_at hl 3 rfl) ?_
            refine lv_goto (tgt := 41) hx hb dX9_simplestBetween_36 (by decide) ?_
            refine lv_istore (lv' := [(4, .int p2), (3, .int p1), (2, .int (1 : Int32)), (0, .int p1), (1, .int p2)]) hx hb dX9_simplestBetween_41 hl (by decide) rfl (fun ls hl => ?_)
            refine lv_sipush (v := (256 : Int32)) hx hb dX9_simplestBetween_43 (by decide) ?_
            refine lv_istore (lv' := [(5, .int (256 : Int32)), (4, .int p2), (3, .int p1), (2, .int (1 : Int32)), (0, .int p1), (1, .int p2)]) hx hb dX9_simplestBetween_46 hl (by decide) rfl (fun ls hl => ?_)
            have L48_31 : ∀ (n_48_31 : Nat) (x5_32 : Int32), 0 ≤ (x5_32).toInt ∧ (x5_32).toInt ≤ 256 → 1 ≤ n_48_31 ∧ 2 * (x5_32).toInt < 2 ^ n_48_31 → q = f_X9_simplestBetween_L48 n_48_31 p1 p2 (1 : Int32) p1 p2 x5_32 → ∀ (H : Heap) (locs : List Loc) (ls : Array Slot), gX D Z s w H locs → lv_has ls 7 [(0, .int p1), (1, .int p2), (2, .int (1 : Int32)), (3, .int p1), (4, .int p2), (5, .int x5_32)] → W p l e rm_X9_simplestBetween s m args below meth c H locs 0 0 Qz (F0 m 48 ls []) := by
              intro n_48_31
              induction n_48_31 with
              | zero =>
                intro x5_32 ia ifu _ _ _ _ _ _
                exfalso; omega
              | succ n_48_31 ih_L48_31 =>
                intro x5_32 ia ifu he H locs ls hX hl
                have he := he.trans f_X9_simplestBetween_L48_s
                refine lv_iload hx hb dX9_simplestBetween_48 (lv_at hl 5 rfl) ?_
                refine lv_iconst (v := (1 : Int32)) hx hb dX9_simplestBetween_50 (by decide) ?_
                refine lv_icmp_le (tgt := 86) hx hb dX9_simplestBetween_51 (by decide) (fun c51 => ?_) (fun c51 => ?_)
                · have he := he.trans (if_pos c51)
                  have d51 := i_le c51
                  refine lv_iload_n hx hb dX9_simplestBetween_86 rfl (lv_at hl 2 rfl) ?_
                  refine lv_iload_n hx hb dX9_simplestBetween_87 rfl (lv_at hl 3 rfl) ?_
                  refine lv_iconst (v := (1 : Int32)) hx hb dX9_simplestBetween_88 (by decide) ?_
                  refine lv_iadd hx hb dX9_simplestBetween_89 ?_
                  refine lv_imul hx hb dX9_simplestBetween_90 ?_
                  subst he
                  exact g_iret hx hb hr hlocks hX hq rfl dX9_simplestBetween_91
                · have he := he.trans (if_neg c51)
                  have d51 := i_nle c51
                  refine lv_iload_n hx hb dX9_simplestBetween_54 rfl (lv_at hl 3 rfl) ?_
                  refine lv_iload hx hb dX9_simplestBetween_55 (lv_at hl 5 rfl) ?_
                  refine lv_idiv hx hb dX9_simplestBetween_57 (fun h => by have := i_eq h; omega) ?_
                  refine lv_iconst (v := (1 : Int32)) hx hb dX9_simplestBetween_58 (by decide) ?_
                  refine lv_iadd hx hb dX9_simplestBetween_59 ?_
                  refine lv_iload hx hb dX9_simplestBetween_60 (lv_at hl 5 rfl) ?_
                  refine lv_imul hx hb dX9_simplestBetween_62 ?_
                  refine lv_istore (lv' := [(6, .int (((p1 / x5_32) + (1 : Int32)) * x5_32)), (0, .int p1), (1, .int p2), (2, .int (1 : Int32)), (3, .int p1), (4, .int p2), (5, .int x5_32)]) hx hb dX9_simplestBetween_63 hl (by decide) rfl (fun ls hl => ?_)
                  refine lv_iload hx hb dX9_simplestBetween_65 (lv_at hl 0 rfl) ?_
                  refine lv_iload hx hb dX9_simplestBetween_67 (lv_at hl 5 rfl) ?_
                  refine lv_icmp_ge (tgt := 77) hx hb dX9_simplestBetween_69 (by decide) (fun c69 => ?_) (fun c69 => ?_)
                  · have he := he.trans (if_pos c69)
                    have d69 := i_le c69
                    refine lv_iload hx hb dX9_simplestBetween_77 (lv_at hl 6 rfl) ?_
                    refine lv_iconst (v := (2 : Int32)) hx hb dX9_simplestBetween_79 (by decide) ?_
                    refine lv_idiv hx hb dX9_simplestBetween_80 (by decide) ?_
                    refine lv_istore (lv' := [(5, .int (x5_32 / (2 : Int32))), (6, .int (((p1 / x5_32) + (1 : Int32)) * x5_32)), (0, .int p1), (1, .int p2), (2, .int (1 : Int32)), (3, .int p1), (4, .int p2)]) hx hb dX9_simplestBetween_81 hl (by decide) rfl (fun ls hl => ?_)
                    refine lv_goto (tgt := 48) hx hb dX9_simplestBetween_83 (by decide) ?_
                    exact ih_L48_31 (x5_32 / (2 : Int32)) (i_half (by omega)).1 (i_halfn (by omega) ifu) he _ _ _ hX (lv_sub hl [2, 3, 4, 5, 6, 0] rfl)
                  · have he := he.trans (if_neg c69)
                    have d69 := i_nle c69
                    refine lv_iload_n hx hb dX9_simplestBetween_72 rfl (lv_at hl 3 rfl) ?_
                    refine lv_iload hx hb dX9_simplestBetween_73 (lv_at hl 0 rfl) ?_
                    refine lv_imul hx hb dX9_simplestBetween_75 ?_
                    subst he
                    exact g_iret hx hb hr hlocks hX hq rfl dX9_simplestBetween_76
            exact L48_31 10 (256 : Int32) (by omega) ⟨by decide, by decide⟩ he _ _ _ hX (lv_sub hl [4, 5, 3, 2, 1, 0] rfl)
    · have he := he.trans (if_neg c5)
      have d5 := i_nle c5
      refine lv_iconst (v := (0 : Int32)) hx hb dX9_simplestBetween_8 (by decide) ?_
      subst he
      exact g_iret hx hb hr hlocks hX hq rfl dX9_simplestBetween_9
