abbrev rm_X11_simplest : Room := { frames := 0, cells := 0, slots := 0, locals := 0 }
set_option maxHeartbeats 4000000 in
set_option maxRecDepth 100000 in
theorem k_X11_simplest {l : Launch} {D : va_G} {E : sE} {w : va_W} {tys : List (ClassId × FieldType)} (p1 : Int32) (p2 : Int32)  : ∀ q : Int32, q = f_X11_simplest p1 p2 → gMi l yX11_simplest wsX11_simplest rm_X11_simplest D E tys [.int p1, .int p2] w w q := by
  intro q he0
  refine gM_of (cc := cX11_simplest) (maxL := 5) (ret := (some .int)) (Qf := gQi D w q) (by decide) rfl (Nat.le_of_ble_eq_true rfl) ?_
  intro p e s m args below meth c Z ls Qz hx hb hr hml hlocks hown hts hS hX hl hq
  have he := he0.trans f_X11_simplest_s
  have hown : s.vm.findClass RX11 = some m.cls := hown
  have hl : lv_has ls 5 [(0, .int p1), (1, .int p2)] := hl
  have tm9999 : ((-9999 : Int32)).toInt = -9999 := rfl
  have t0 : ((0 : Int32)).toInt = 0 := rfl
  have t1 : ((1 : Int32)).toInt = 1 := rfl
  have t2 : ((2 : Int32)).toInt = 2 := rfl
  have t256 : ((256 : Int32)).toInt = 256 := rfl
  refine lv_iload_n hx hb dX11_simplest_0 rfl (lv_at hl 0 rfl) ?_
  refine lv_if_ge (tgt := 10) hx hb dX11_simplest_1 (by decide) (fun c1 => ?_) (fun c1 => ?_)
  · have he := he.trans (if_pos c1)
    have d1 := i_le c1
    refine lv_sipush (v := (256 : Int32)) hx hb dX11_simplest_10 (by decide) ?_
    refine lv_istore_n (lv' := [(2, .int (256 : Int32)), (0, .int p1), (1, .int p2)]) hx hb dX11_simplest_13 rfl hl (by decide) rfl (fun ls hl => ?_)
    have L14_1 : ∀ (n_14_1 : Nat) (x2_2 : Int32), 0 ≤ (x2_2).toInt ∧ (x2_2).toInt ≤ 256 → 1 ≤ n_14_1 ∧ 2 * (x2_2).toInt < 2 ^ n_14_1 → q = f_X11_simplest_L14 n_14_1 p1 p2 x2_2 → ∀ (H : Heap) (locs : List Loc) (ls : Array Slot), gX D Z s w H locs → lv_has ls 5 [(0, .int p1), (1, .int p2), (2, .int x2_2)] → W p l e rm_X11_simplest s m args below meth c H locs 0 0 Qz (F0 m 14 ls []) := by
      intro n_14_1
      induction n_14_1 with
      | zero =>
        intro x2_2 ia ifu _ _ _ _ _ _
        exfalso; omega
      | succ n_14_1 ih_L14_1 =>
        intro x2_2 ia ifu he H locs ls hX hl
        have he := he.trans f_X11_simplest_L14_s
        refine lv_iload_n hx hb dX11_simplest_14 rfl (lv_at hl 2 rfl) ?_
        refine lv_if_le (tgt := 82) hx hb dX11_simplest_15 (by decide) (fun c15 => ?_) (fun c15 => ?_)
        · have he := he.trans (if_pos c15)
          have d15 := i_le c15
          refine lv_sipush (v := (-9999 : Int32)) hx hb dX11_simplest_82 (by decide) ?_
          subst he
          exact g_iret hx hb hr hlocks hX hq rfl dX11_simplest_85
        · have he := he.trans (if_neg c15)
          have d15 := i_nle c15
          refine lv_iload_n hx hb dX11_simplest_18 rfl (lv_at hl 0 rfl) ?_
          refine lv_if_lt (tgt := 32) hx hb dX11_simplest_19 (by decide) (fun c19 => ?_) (fun c19 => ?_)
          · have he := he.trans (if_pos c19)
            have d19 := i_lt c19
            refine lv_iconst (v := (0 : Int32)) hx hb dX11_simplest_32 (by decide) ?_
            refine lv_istore_n (lv' := [(3, .int (0 : Int32)), (0, .int p1), (1, .int p2), (2, .int x2_2)]) hx hb dX11_simplest_33 rfl hl (by decide) rfl (fun ls hl => ?_)
            refine lv_iload_n hx hb dX11_simplest_34 rfl (lv_at hl 2 rfl) ?_
            refine lv_if_gt (tgt := 48) hx hb dX11_simplest_35 (by decide) (fun c35 => ?_) (fun c35 => ?_)
            · have he := he.trans (if_pos c35)
              have d35 := i_lt c35
              refine lv_iconst (v := (0 : Int32)) hx hb dX11_simplest_48 (by decide) ?_
              refine lv_istore (lv' := [(4, .int (0 : Int32)), (3, .int (0 : Int32)), (0, .int p1), (1, .int p2), (2, .int x2_2)]) hx hb dX11_simplest_49 hl (by decide) rfl (fun ls hl => ?_)
              refine lv_iload_n hx hb dX11_simplest_51 rfl (lv_at hl 2 rfl) ?_
              refine lv_if_lt (tgt := 62) hx hb dX11_simplest_52 (by decide) (fun c52 => ?_) (fun c52 => ?_)
              · have he := he.trans (if_pos c52)
                have d52 := i_lt c52
                refine lv_iload_n hx hb dX11_simplest_62 rfl (lv_at hl 2 rfl) ?_
                refine lv_if_ge (tgt := 75) hx hb dX11_simplest_63 (by decide) (fun c63 => ?_) (fun c63 => ?_)
                · have he := he.trans (if_pos c63)
                  have d63 := i_le c63
                  refine lv_iload_n hx hb dX11_simplest_75 rfl (lv_at hl 4 rfl) ?_
                  refine lv_iconst (v := (2 : Int32)) hx hb dX11_simplest_76 (by decide) ?_
                  refine lv_idiv hx hb dX11_simplest_77 (by decide) ?_
                  refine lv_istore_n (lv' := [(2, .int (x2_2 / (2 : Int32))), (4, .int (0 : Int32)), (3, .int (0 : Int32)), (0, .int p1), (1, .int p2)]) hx hb dX11_simplest_78 rfl hl (by decide) rfl (fun ls hl => ?_)
                  refine lv_goto (tgt := 14) hx hb dX11_simplest_79 (by decide) ?_
                  exact ih_L14_1 (x2_2 / (2 : Int32)) (i_half (by omega)).1 (i_halfn (by omega) ifu) he _ _ _ hX (lv_sub hl [3, 4, 0] rfl)
                · have he := he.trans (if_neg c63)
                  have d63 := i_nle c63
                  refine lv_iload hx hb dX11_simplest_66 (lv_at hl 0 rfl) ?_
                  refine lv_iload_n hx hb dX11_simplest_68 rfl (lv_at hl 2 rfl) ?_
                  refine lv_icmp_le (tgt := 75) hx hb dX11_simplest_69 (by decide) (fun c69 => ?_) (fun c69 => ?_)
                  · have he := he.trans (if_pos c69)
                    have d69 := i_le c69
                    refine lv_iload_n hx hb dX11_simplest_75 rfl (lv_at hl 4 rfl) ?_
                    refine lv_iconst (v := (2 : Int32)) hx hb dX11_simplest_76 (by decide) ?_
                    refine lv_idiv hx hb dX11_simplest_77 (by decide) ?_
                    refine lv_istore_n (lv' := [(2, .int (x2_2 / (2 : Int32))), (4, .int (0 : Int32)), (3, .int (0 : Int32)), (0, .int p1), (1, .int p2)]) hx hb dX11_simplest_78 rfl hl (by decide) rfl (fun ls hl => ?_)
                    refine lv_goto (tgt := 14) hx hb dX11_simplest_79 (by decide) ?_
                    exact ih_L14_1 (x2_2 / (2 : Int32)) (i_half (by omega)).1 (i_halfn (by omega) ifu) he _ _ _ hX (lv_sub hl [3, 4, 0] rfl)
                  · have he := he.trans (if_neg c69)
                    have d69 := i_nle c69
                    refine lv_iload hx hb dX11_simplest_72 (lv_at hl 0 rfl) ?_
                    subst he
                    exact g_iret hx hb hr hlocks hX hq rfl dX11_simplest_74
              · have he := he.trans (if_neg c52)
                have d52 := i_nlt c52
                refine lv_iload_n hx hb dX11_simplest_55 rfl (lv_at hl 1 rfl) ?_
                refine lv_iload_n hx hb dX11_simplest_56 rfl (lv_at hl 3 rfl) ?_
                refine lv_icmp_ge (tgt := 62) hx hb dX11_simplest_57 (by decide) (fun c57 => ?_) (fun c57 => ?_)
                · have he := he.trans (if_pos c57)
                  have d57 := i_le c57
                  refine lv_iload_n hx hb dX11_simplest_62 rfl (lv_at hl 2 rfl) ?_
                  refine lv_if_ge (tgt := 75) hx hb dX11_simplest_63 (by decide) (fun c63 => ?_) (fun c63 => ?_)
                  · have he := he.trans (if_pos c63)
                    have d63 := i_le c63
                    refine lv_iload_n hx hb dX11_simplest_75 rfl (lv_at hl 4 rfl) ?_
                    refine lv_iconst (v := (2 : Int32)) hx hb dX11_simplest_76 (by decide) ?_
                    refine lv_idiv hx hb dX11_simplest_77 (by decide) ?_
                    refine lv_istore_n (lv' := [(2, .int (x2_2 / (2 : Int32))), (4, .int (0 : Int32)), (3, .int (0 : Int32)), (0, .int p1), (1, .int p2)]) hx hb dX11_simplest_78 rfl hl (by decide) rfl (fun ls hl => ?_)
                    refine lv_goto (tgt := 14) hx hb dX11_simplest_79 (by decide) ?_
                    exact ih_L14_1 (x2_2 / (2 : Int32)) (i_half (by omega)).1 (i_halfn (by omega) ifu) he _ _ _ hX (lv_sub hl [3, 4, 0] rfl)
                  · have he := he.trans (if_neg c63)
                    have d63 := i_nle c63
                    refine lv_iload hx hb dX11_simplest_66 (lv_at hl 0 rfl) ?_
                    refine lv_iload_n hx hb dX11_simplest_68 rfl (lv_at hl 2 rfl) ?_
                    refine lv_icmp_le (tgt := 75) hx hb dX11_simplest_69 (by decide) (fun c69 => ?_) (fun c69 => ?_)
                    · have he := he.trans (if_pos c69)
                      have d69 := i_le c69
                      refine lv_iload_n hx hb dX11_simplest_75 rfl (lv_at hl 4 rfl) ?_
                      refine lv_iconst (v := (2 : Int32)) hx hb dX11_simplest_76 (by decide) ?_
                      refine lv_idiv hx hb dX11_simplest_77 (by decide) ?_
                      refine lv_istore_n (lv' := [(2, .int (x2_2 / (2 : Int32))), (4, .int (0 : Int32)), (3, .int (0 : Int32)), (0, .int p1), (1, .int p2)]) hx hb dX11_simplest_78 rfl hl (by decide) rfl (fun ls hl => ?_)
                      refine lv_goto (tgt := 14) hx hb dX11_simplest_79 (by decide) ?_
                      exact ih_L14_1 (x2_2 / (2 : Int32)) (i_half (by omega)).1 (i_halfn (by omega) ifu) he _ _ _ hX (lv_sub hl [3, 4, 0] rfl)
                    · have he := he.trans (if_neg c69)
                      have d69 := i_nle c69
                      refine lv_iload hx hb dX11_simplest_72 (lv_at hl 0 rfl) ?_
                      subst he
                      exact g_iret hx hb hr hlocks hX hq rfl dX11_simplest_74
                · have he := he.trans (if_neg c57)
                  have d57 := i_nle c57
                  refine lv_iload_n hx hb dX11_simplest_60 rfl (lv_at hl 1 rfl) ?_
                  subst he
                  exact g_iret hx hb hr hlocks hX hq rfl dX11_simplest_61
            · have he := he.trans (if_neg c35)
              have d35 := i_nlt c35
              refine lv_iload_n hx hb dX11_simplest_38 rfl (lv_at hl 2 rfl) ?_
              refine lv_iload_n hx hb dX11_simplest_39 rfl (lv_at hl 3 rfl) ?_
              refine lv_idiv hx hb dX11_simplest_40 (fun h => by have := i_eq h; omega) ?_
              refine lv_iconst (v := (1 : Int32)) hx hb dX11_simplest_41 (by decide) ?_
              refine lv_isub hx hb dX11_simplest_42 ?_
              refine lv_iload_n hx hb dX11_simplest_43 rfl (lv_at hl 3 rfl) ?_
              refine lv_imul hx hb dX11_simplest_44 ?_
              refine lv_goto (tgt := 49) hx hb dX11_simplest_45 (by decide) ?_
              refine lv_istore (lv' := [(4, .int (((p2 / x2_2) - (1 : Int32)) * x2_2)), (3, .int (0 : Int32)), (0, .int p1), (1, .int p2), (2, .int x2_2)]) hx hb dX11_simplest_49 hl (by decide) rfl (fun ls hl => ?_)
              refine lv_iload_n hx hb dX11_simplest_51 rfl (lv_at hl 2 rfl) ?_
              refine lv_if_lt (tgt := 62) hx hb dX11_simplest_52 (by decide) (fun c52 => ?_) (fun c52 => ?_)
              · have he := he.trans (if_pos c52)
                have d52 := i_lt c52
                refine lv_iload_n hx hb dX11_simplest_62 rfl (lv_at hl 2 rfl) ?_
                refine lv_if_ge (tgt := 75) hx hb dX11_simplest_63 (by decide) (fun c63 => ?_) (fun c63 => ?_)
                · have he := he.trans (if_pos c63)
                  have d63 := i_le c63
                  refine lv_iload_n hx hb dX11_simplest_75 rfl (lv_at hl 4 rfl) ?_
                  refine lv_iconst (v := (2 : Int32)) hx hb dX11_simplest_76 (by decide) ?_
                  refine lv_idiv hx hb dX11_simplest_77 (by decide) ?_
                  refine lv_istore_n (lv' := [(2, .int (x2_2 / (2 : Int32))), (4, .int (((p2 / x2_2) - (1 : Int32)) * x2_2)), (3, .int (0 : Int32)), (0, .int p1), (1, .int p2)]) hx hb dX11_simplest_78 rfl hl (by decide) rfl (fun ls hl => ?_)
                  refine lv_goto (tgt := 14) hx hb dX11_simplest_79 (by decide) ?_
                  exact ih_L14_1 (x2_2 / (2 : Int32)) (i_half (by omega)).1 (i_halfn (by omega) ifu) he _ _ _ hX (lv_sub hl [3, 4, 0] rfl)
                · have he := he.trans (if_neg c63)
                  have d63 := i_nle c63
                  refine lv_iload hx hb dX11_simplest_66 (lv_at hl 0 rfl) ?_
                  refine lv_iload_n hx hb dX11_simplest_68 rfl (lv_at hl 2 rfl) ?_
                  refine lv_icmp_le (tgt := 75) hx hb dX11_simplest_69 (by decide) (fun c69 => ?_) (fun c69 => ?_)
                  · have he := he.trans (if_pos c69)
                    have d69 := i_le c69
                    refine lv_iload_n hx hb dX11_simplest_75 rfl (lv_at hl 4 rfl) ?_
                    refine lv_iconst (v := (2 : Int32)) hx hb dX11_simplest_76 (by decide) ?_
                    refine lv_idiv hx hb dX11_simplest_77 (by decide) ?_
                    refine lv_istore_n (lv' := [(2, .int (x2_2 / (2 : Int32))), (4, .int (((p2 / x2_2) - (1 : Int32)) * x2_2)), (3, .int (0 : Int32)), (0, .int p1), (1, .int p2)]) hx hb dX11_simplest_78 rfl hl (by decide) rfl (fun ls hl => ?_)
                    refine lv_goto (tgt := 14) hx hb dX11_simplest_79 (by decide) ?_
                    exact ih_L14_1 (x2_2 / (2 : Int32)) (i_half (by omega)).1 (i_halfn (by omega) ifu) he _ _ _ hX (lv_sub hl [3, 4, 0] rfl)
                  · have he := he.trans (if_neg c69)
                    have d69 := i_nle c69
                    refine lv_iload hx hb dX11_simplest_72 (lv_at hl 0 rfl) ?_
                    subst he
                    exact g_iret hx hb hr hlocks hX hq rfl dX11_simplest_74
              · have he := he.trans (if_neg c52)
                have d52 := i_nlt c52
                refine lv_iload_n hx hb dX11_simplest_55 rfl (lv_at hl 1 rfl) ?_
                refine lv_iload_n hx hb dX11_simplest_56 rfl (lv_at hl 3 rfl) ?_
                refine lv_icmp_ge (tgt := 62) hx hb dX11_simplest_57 (by decide) (fun c57 => ?_) (fun c57 => ?_)
                · have he := he.trans (if_pos c57)
                  have d57 := i_le c57
                  refine lv_iload_n hx hb dX11_simplest_62 rfl (lv_at hl 2 rfl) ?_
                  refine lv_if_ge (tgt := 75) hx hb dX11_simplest_63 (by decide) (fun c63 => ?_) (fun c63 => ?_)
                  · have he := he.trans (if_pos c63)
                    have d63 := i_le c63
                    refine lv_iload_n hx hb dX11_simplest_75 rfl (lv_at hl 4 rfl) ?_
                    refine lv_iconst (v := (2 : Int32)) hx hb dX11_simplest_76 (by decide) ?_
                    refine lv_idiv hx hb dX11_simplest_77 (by decide) ?_
                    refine lv_istore_n (lv' := [(2, .int (x2_2 / (2 : Int32))), (4, .int (((p2 / x2_2) - (1 : Int32)) * x2_2)), (3, .int (0 : Int32)), (0, .int p1), (1, .int p2)]) hx hb dX11_simplest_78 rfl hl (by decide) rfl (fun ls hl => ?_)
                    refine lv_goto (tgt := 14) hx hb dX11_simplest_79 (by decide) ?_
                    exact ih_L14_1 (x2_2 / (2 : Int32)) (i_half (by omega)).1 (i_halfn (by omega) ifu) he _ _ _ hX (lv_sub hl [3, 4, 0] rfl)
                  · have he := he.trans (if_neg c63)
                    have d63 := i_nle c63
                    refine lv_iload hx hb dX11_simplest_66 (lv_at hl 0 rfl) ?_
                    refine lv_iload_n hx hb dX11_simplest_68 rfl (lv_at hl 2 rfl) ?_
                    refine lv_icmp_le (tgt := 75) hx hb dX11_simplest_69 (by decide) (fun c69 => ?_) (fun c69 => ?_)
                    · have he := he.trans (if_pos c69)
                      have d69 := i_le c69
                      refine lv_iload_n hx hb dX11_simplest_75 rfl (lv_at hl 4 rfl) ?_
                      refine lv_iconst (v := (2 : Int32)) hx hb dX11_simplest_76 (by decide) ?_
                      refine lv_idiv hx hb dX11_simplest_77 (by decide) ?_
                      refine lv_istore_n (lv' := [(2, .int (x2_2 / (2 : Int32))), (4, .int (((p2 / x2_2) - (1 : Int32)) * x2_2)), (3, .int (0 : Int32)), (0, .int p1), (1, .int p2)]) hx hb dX11_simplest_78 rfl hl (by decide) rfl (fun ls hl => ?_)
                      refine lv_goto (tgt := 14) hx hb dX11_simplest_79 (by decide) ?_
                      exact ih_L14_1 (x2_2 / (2 : Int32)) (i_half (by omega)).1 (i_halfn (by omega) ifu) he _ _ _ hX (lv_sub hl [3, 4, 0] rfl)
                    · have he := he.trans (if_neg c69)
                      have d69 := i_nle c69
                      refine lv_iload hx hb dX11_simplest_72 (lv_at hl 0 rfl) ?_
                      subst he
                      exact g_iret hx hb hr hlocks hX hq rfl dX11_simplest_74
                · have he := he.trans (if_neg c57)
                  have d57 := i_nle c57
                  refine lv_iload_n hx hb dX11_simplest_60 rfl (lv_at hl 1 rfl) ?_
                  subst he
                  exact g_iret hx hb hr hlocks hX hq rfl dX11_simplest_61
          · have he := he.trans (if_neg c19)
            have d19 := i_nlt c19
            refine lv_iload_n hx hb dX11_simplest_22 rfl (lv_at hl 0 rfl) ?_
            refine lv_iload_n hx hb dX11_simplest_23 rfl (lv_at hl 2 rfl) ?_
            refine lv_idiv hx hb dX11_simplest_24 (fun h => by have := i_eq h; omega) ?_
            refine lv_iconst (v := (1 : Int32)) hx hb dX11_simplest_25 (by decide) ?_
            refine lv_iadd hx hb dX11_simplest_26 ?_
            refine lv_iload_n hx hb dX11_simplest_27 rfl (lv_at hl 2 rfl) ?_
            refine lv_imul hx hb dX11_simplest_28 ?_
            refine lv_goto (tgt := 33) hx hb dX11_simplest_29 (by decide) ?_
            refine lv_istore_n (lv' := [(3, .int (((p1 / x2_2) + (1 : Int32)) * x2_2)), (0, .int p1), (1, .int p2), (2, .int x2_2)]) hx hb dX11_simplest_33 rfl hl (by decide) rfl (fun ls hl => ?_)
            refine lv_iload_n hx hb dX11_simplest_34 rfl (lv_at hl 2 rfl) ?_
            refine lv_if_gt (tgt := 48) hx hb dX11_simplest_35 (by decide) (fun c35 => ?_) (fun c35 => ?_)
            · have he := he.trans (if_pos c35)
              have d35 := i_lt c35
              refine lv_iconst (v := (0 : Int32)) hx hb dX11_simplest_48 (by decide) ?_
              refine lv_istore (lv' := [(4, .int (0 : Int32)), (3, .int (((p1 / x2_2) + (1 : Int32)) * x2_2)), (0, .int p1), (1, .int p2), (2, .int x2_2)]) hx hb dX11_simplest_49 hl (by decide) rfl (fun ls hl => ?_)
              refine lv_iload_n hx hb dX11_simplest_51 rfl (lv_at hl 2 rfl) ?_
              refine lv_if_lt (tgt := 62) hx hb dX11_simplest_52 (by decide) (fun c52 => ?_) (fun c52 => ?_)
              · have he := he.trans (if_pos c52)
                have d52 := i_lt c52
                refine lv_iload_n hx hb dX11_simplest_62 rfl (lv_at hl 2 rfl) ?_
                refine lv_if_ge (tgt := 75) hx hb dX11_simplest_63 (by decide) (fun c63 => ?_) (fun c63 => ?_)
                · have he := he.trans (if_pos c63)
                  have d63 := i_le c63
                  refine lv_iload_n hx hb dX11_simplest_75 rfl (lv_at hl 4 rfl) ?_
                  refine lv_iconst (v := (2 : Int32)) hx hb dX11_simplest_76 (by decide) ?_
                  refine lv_idiv hx hb dX11_simplest_77 (by decide) ?_
                  refine lv_istore_n (lv' := [(2, .int (x2_2 / (2 : Int32))), (4, .int (0 : Int32)), (3, .int (((p1 / x2_2) + (1 : Int32)) * x2_2)), (0, .int p1), (1, .int p2)]) hx hb dX11_simplest_78 rfl hl (by decide) rfl (fun ls hl => ?_)
                  refine lv_goto (tgt := 14) hx hb dX11_simplest_79 (by decide) ?_
                  exact ih_L14_1 (x2_2 / (2 : Int32)) (i_half (by omega)).1 (i_halfn (by omega) ifu) he _ _ _ hX (lv_sub hl [3, 4, 0] rfl)
                · have he := he.trans (if_neg c63)
                  have d63 := i_nle c63
                  refine lv_iload hx hb dX11_simplest_66 (lv_at hl 0 rfl) ?_
                  refine lv_iload_n hx hb dX11_simplest_68 rfl (lv_at hl 2 rfl) ?_
                  refine lv_icmp_le (tgt := 75) hx hb dX11_simplest_69 (by decide) (fun c69 => ?_) (fun c69 => ?_)
                  · have he := he.trans (if_pos c69)
                    have d69 := i_le c69
                    refine lv_iload_n hx hb dX11_simplest_75 rfl (lv_at hl 4 rfl) ?_
                    refine lv_iconst (v := (2 : Int32)) hx hb dX11_simplest_76 (by decide) ?_
                    refine lv_idiv hx hb dX11_simplest_77 (by decide) ?_
                    refine lv_istore_n (lv' := [(2, .int (x2_2 / (2 : Int32))), (4, .int (0 : Int32)), (3, .int (((p1 / x2_2) + (1 : Int32)) * x2_2)), (0, .int p1), (1, .int p2)]) hx hb dX11_simplest_78 rfl hl (by decide) rfl (fun ls hl => ?_)
                    refine lv_goto (tgt := 14) hx hb dX11_simplest_79 (by decide) ?_
                    exact ih_L14_1 (x2_2 / (2 : Int32)) (i_half (by omega)).1 (i_halfn (by omega) ifu) he _ _ _ hX (lv_sub hl [3, 4, 0] rfl)
                  · have he := he.trans (if_neg c69)
                    have d69 := i_nle c69
                    refine lv_iload hx hb dX11_simplest_72 (lv_at hl 0 rfl) ?_
                    subst he
                    exact g_iret hx hb hr hlocks hX hq rfl dX11_simplest_74
              · have he := he.trans (if_neg c52)
                have d52 := i_nlt c52
                refine lv_iload_n hx hb dX11_simplest_55 rfl (lv_at hl 1 rfl) ?_
                refine lv_iload_n hx hb dX11_simplest_56 rfl (lv_at hl 3 rfl) ?_
                refine lv_icmp_ge (tgt := 62) hx hb dX11_simplest_57 (by decide) (fun c57 => ?_) (fun c57 => ?_)
                · have he := he.trans (if_pos c57)
                  have d57 := i_le c57
                  refine lv_iload_n hx hb dX11_simplest_62 rfl (lv_at hl 2 rfl) ?_
                  refine lv_if_ge (tgt := 75) hx hb dX11_simplest_63 (by decide) (fun c63 => ?_) (fun c63 => ?_)
                  · have he := he.trans (if_pos c63)
                    have d63 := i_le c63
                    refine lv_iload_n hx hb dX11_simplest_75 rfl (lv_at hl 4 rfl) ?_
                    refine lv_iconst (v := (2 : Int32)) hx hb dX11_simplest_76 (by decide) ?_
                    refine lv_idiv hx hb dX11_simplest_77 (by decide) ?_
                    refine lv_istore_n (lv' := [(2, .int (x2_2 / (2 : Int32))), (4, .int (0 : Int32)), (3, .int (((p1 / x2_2) + (1 : Int32)) * x2_2)), (0, .int p1), (1, .int p2)]) hx hb dX11_simplest_78 rfl hl (by decide) rfl (fun ls hl => ?_)
                    refine lv_goto (tgt := 14) hx hb dX11_simplest_79 (by decide) ?_
                    exact ih_L14_1 (x2_2 / (2 : Int32)) (i_half (by omega)).1 (i_halfn (by omega) ifu) he _ _ _ hX (lv_sub hl [3, 4, 0] rfl)
                  · have he := he.trans (if_neg c63)
                    have d63 := i_nle c63
                    refine lv_iload hx hb dX11_simplest_66 (lv_at hl 0 rfl) ?_
                    refine lv_iload_n hx hb dX11_simplest_68 rfl (lv_at hl 2 rfl) ?_
                    refine lv_icmp_le (tgt := 75) hx hb dX11_simplest_69 (by decide) (fun c69 => ?_) (fun c69 => ?_)
                    · have he := he.trans (if_pos c69)
                      have d69 := i_le c69
                      refine lv_iload_n hx hb dX11_simplest_75 rfl (lv_at hl 4 rfl) ?_
                      refine lv_iconst (v := (2 : Int32)) hx hb dX11_simplest_76 (by decide) ?_
                      refine lv_idiv hx hb dX11_simplest_77 (by decide) ?_
                      refine lv_istore_n (lv' := [(2, .int (x2_2 / (2 : Int32))), (4, .int (0 : Int32)), (3, .int (((p1 / x2_2) + (1 : Int32)) * x2_2)), (0, .int p1), (1, .int p2)]) hx hb dX11_simplest_78 rfl hl (by decide) rfl (fun ls hl => ?_)
                      refine lv_goto (tgt := 14) hx hb dX11_simplest_79 (by decide) ?_
                      exact ih_L14_1 (x2_2 / (2 : Int32)) (i_half (by omega)).1 (i_halfn (by omega) ifu) he _ _ _ hX (lv_sub hl [3, 4, 0] rfl)
                    · have he := he.trans (if_neg c69)
                      have d69 := i_nle c69
                      refine lv_iload hx hb dX11_simplest_72 (lv_at hl 0 rfl) ?_
                      subst he
                      exact g_iret hx hb hr hlocks hX hq rfl dX11_simplest_74
                · have he := he.trans (if_neg c57)
                  have d57 := i_nle c57
                  refine lv_iload_n hx hb dX11_simplest_60 rfl (lv_at hl 1 rfl) ?_
                  subst he
                  exact g_iret hx hb hr hlocks hX hq rfl dX11_simplest_61
            · have he := he.trans (if_neg c35)
              have d35 := i_nlt c35
              refine lv_iload_n hx hb dX11_simplest_38 rfl (lv_at hl 2 rfl) ?_
              refine lv_iload_n hx hb dX11_simplest_39 rfl (lv_at hl 3 rfl) ?_
              refine lv_idiv hx hb dX11_simplest_40 (fun h => by have := i_eq h; omega) ?_
              refine lv_iconst (v := (1 : Int32)) hx hb dX11_simplest_41 (by decide) ?_
              refine lv_isub hx hb dX11_simplest_42 ?_
              refine lv_iload_n hx hb dX11_simplest_43 rfl (lv_at hl 3 rfl) ?_
              refine lv_imul hx hb dX11_simplest_44 ?_
              refine lv_goto (tgt := 49) hx hb dX11_simplest_45 (by decide) ?_
              refine lv_istore (lv' := [(4, .int (((p2 / x2_2) - (1 : Int32)) * x2_2)), (3, .int (((p1 / x2_2) + (1 : Int32)) * x2_2)), (0, .int p1), (1, .int p2), (2, .int x2_2)]) hx hb dX11_simplest_49 hl (by decide) rfl (fun ls hl => ?_)
              refine lv_iload_n hx hb dX11_simplest_51 rfl (lv_at hl 2 rfl) ?_
              refine lv_if_lt (tgt := 62) hx hb dX11_simplest_52 (by decide) (fun c52 => ?_) (fun c52 => ?_)
              · have he := he.trans (if_pos c52)
                have d52 := i_lt c52
                refine lv_iload_n hx hb dX11_simplest_62 rfl (lv_at hl 2 rfl) ?_
                refine lv_if_ge (tgt := 75) hx hb dX11_simplest_63 (by decide) (fun c63 => ?_) (fun c63 => ?_)
                · have he := he.trans (if_pos c63)
                  have d63 := i_le c63
                  refine lv_iload_n hx hb dX11_simplest_75 rfl (lv_at hl 4 rfl) ?_
                  refine lv_iconst (v := (2 : Int32)) hx hb dX11_simplest_76 (by decide) ?_
                  refine lv_idiv hx hb dX11_simplest_77 (by decide) ?_
                  refine lv_istore_n (lv' := [(2, .int (x2_2 / (2 : Int32))), (4, .int (((p2 / x2_2) - (1 : Int32)) * x2_2)), (3, .int (((p1 / x2_2) + (1 : Int32)) * x2_2)), (0, .int p1), (1, .int p2)]) hx hb dX11_simplest_78 rfl hl (by decide) rfl (fun ls hl => ?_)
                  refine lv_goto (tgt := 14) hx hb dX11_simplest_79 (by decide) ?_
                  exact ih_L14_1 (x2_2 / (2 : Int32)) (i_half (by omega)).1 (i_halfn (by omega) ifu) he _ _ _ hX (lv_sub hl [3, 4, 0] rfl)
                · have he := he.trans (if_neg c63)
                  have d63 := i_nle c63
                  refine lv_iload hx hb dX11_simplest_66 (lv_at hl 0 rfl) ?_
                  refine lv_iload_n hx hb dX11_simplest_68 rfl (lv_at hl 2 rfl) ?_
                  refine lv_icmp_le (tgt := 75) hx hb dX11_simplest_69 (by decide) (fun c69 => ?_) (fun c69 => ?_)
                  · have he := he.trans (if_pos c69)
                    have d69 := i_le c69
                    refine lv_iload_n hx hb dX11_simplest_75 rfl (lv_at hl 4 rfl) ?_
                    refine lv_iconst (v := (2 : Int32)) hx hb dX11_simplest_76 (by decide) ?_
                    refine lv_idiv hx hb dX11_simplest_77 (by decide) ?_
                    refine lv_istore_n (lv' := [(2, .int (x2_2 / (2 : Int32))), (4, .int (((p2 / x2_2) - (1 : Int32)) * x2_2)), (3, .int (((p1 / x2_2) + (1 : Int32)) * x2_2)), (0, .int p1), (1, .int p2)]) hx hb dX11_simplest_78 rfl hl (by decide) rfl (fun ls hl => ?_)
                    refine lv_goto (tgt := 14) hx hb dX11_simplest_79 (by decide) ?_
                    exact ih_L14_1 (x2_2 / (2 : Int32)) (i_half (by omega)).1 (i_halfn (by omega) ifu) he _ _ _ hX (lv_sub hl [3, 4, 0] rfl)
                  · have he := he.trans (if_neg c69)
                    have d69 := i_nle c69
                    refine lv_iload hx hb dX11_simplest_72 (lv_at hl 0 rfl) ?_
                    subst he
                    exact g_iret hx hb hr hlocks hX hq rfl dX11_simplest_74
              · have he := he.trans (if_neg c52)
                have d52 := i_nlt c52
                refine lv_iload_n hx hb dX11_simplest_55 rfl (lv_at hl 1 rfl) ?_
                refine lv_iload_n hx hb dX11_simplest_56 rfl (lv_at hl 3 rfl) ?_
                refine lv_icmp_ge (tgt := 62) hx hb dX11_simplest_57 (by decide) (fun c57 => ?_) (fun c57 => ?_)
                · have he := he.trans (if_pos c57)
                  have d57 := i_le c57
                  refine lv_iload_n hx hb dX11_simplest_62 rfl (lv_at hl 2 rfl) ?_
                  refine lv_if_ge (tgt := 75) hx hb dX11_simplest_63 (by decide) (fun c63 => ?_) (fun c63 => ?_)
                  · have he := he.trans (if_pos c63)
                    have d63 := i_le c63
                    refine lv_iload_n hx hb dX11_simplest_75 rfl (lv_at hl 4 rfl) ?_
                    refine lv_iconst (v := (2 : Int32)) hx hb dX11_simplest_76 (by decide) ?_
                    refine lv_idiv hx hb dX11_simplest_77 (by decide) ?_
                    refine lv_istore_n (lv' := [(2, .int (x2_2 / (2 : Int32))), (4, .int (((p2 / x2_2) - (1 : Int32)) * x2_2)), (3, .int (((p1 / x2_2) + (1 : Int32)) * x2_2)), (0, .int p1), (1, .int p2)]) hx hb dX11_simplest_78 rfl hl (by decide) rfl (fun ls hl => ?_)
                    refine lv_goto (tgt := 14) hx hb dX11_simplest_79 (by decide) ?_
                    exact ih_L14_1 (x2_2 / (2 : Int32)) (i_half (by omega)).1 (i_halfn (by omega) ifu) he _ _ _ hX (lv_sub hl [3, 4, 0] rfl)
                  · have he := he.trans (if_neg c63)
                    have d63 := i_nle c63
                    refine lv_iload hx hb dX11_simplest_66 (lv_at hl 0 rfl) ?_
                    refine lv_iload_n hx hb dX11_simplest_68 rfl (lv_at hl 2 rfl) ?_
                    refine lv_icmp_le (tgt := 75) hx hb dX11_simplest_69 (by decide) (fun c69 => ?_) (fun c69 => ?_)
                    · have he := he.trans (if_pos c69)
                      have d69 := i_le c69
                      refine lv_iload_n hx hb dX11_simplest_75 rfl (lv_at hl 4 rfl) ?_
                      refine lv_iconst (v := (2 : Int32)) hx hb dX11_simplest_76 (by decide) ?_
                      refine lv_idiv hx hb dX11_simplest_77 (by decide) ?_
                      refine lv_istore_n (lv' := [(2, .int (x2_2 / (2 : Int32))), (4, .int (((p2 / x2_2) - (1 : Int32)) * x2_2)), (3, .int (((p1 / x2_2) + (1 : Int32)) * x2_2)), (0, .int p1), (1, .int p2)]) hx hb dX11_simplest_78 rfl hl (by decide) rfl (fun ls hl => ?_)
                      refine lv_goto (tgt := 14) hx hb dX11_simplest_79 (by decide) ?_
                      exact ih_L14_1 (x2_2 / (2 : Int32)) (i_half (by omega)).1 (i_halfn (by omega) ifu) he _ _ _ hX (lv_sub hl [3, 4, 0] rfl)
                    · have he := he.trans (if_neg c69)
                      have d69 := i_nle c69
                      refine lv_iload hx hb dX11_simplest_72 (lv_at hl 0 rfl) ?_
                      subst he
                      exact g_iret hx hb hr hlocks hX hq rfl dX11_simplest_74
                · have he := he.trans (if_neg c57)
                  have d57 := i_nle c57
                  refine lv_iload_n hx hb dX11_simplest_60 rfl (lv_at hl 1 rfl) ?_
                  subst he
                  exact g_iret hx hb hr hlocks hX hq rfl dX11_simplest_61
    exact L14_1 10 (256 : Int32) (by omega) ⟨by decide, by decide⟩ he _ _ _ hX (lv_sub hl [1, 2, 0] rfl)
  · have he := he.trans (if_neg c1)
    have d1 := i_nle c1
    refine lv_iload_n hx hb dX11_simplest_4 rfl (lv_at hl 1 rfl) ?_
    refine lv_if_le (tgt := 10) hx hb dX11_simplest_5 (by decide) (fun c5 => ?_) (fun c5 => ?_)
    · have he := he.trans (if_pos c5)
      have d5 := i_le c5
      refine lv_sipush (v := (256 : Int32)) hx hb dX11_simplest_10 (by decide) ?_
      refine lv_istore_n (lv' := [(2, .int (256 : Int32)), (0, .int p1), (1, .int p2)]) hx hb dX11_simplest_13 rfl hl (by decide) rfl (fun ls hl => ?_)
      have L14_3 : ∀ (n_14_3 : Nat) (x2_4 : Int32), 0 ≤ (x2_4).toInt ∧ (x2_4).toInt ≤ 256 → 1 ≤ n_14_3 ∧ 2 * (x2_4).toInt < 2 ^ n_14_3 → q = f_X11_simplest_L14 n_14_3 p1 p2 x2_4 → ∀ (H : Heap) (locs : List Loc) (ls : Array Slot), gX D Z s w H locs → lv_has ls 5 [(0, .int p1), (1, .int p2), (2, .int x2_4)] → W p l e rm_X11_simplest s m args below meth c H locs 0 0 Qz (F0 m 14 ls []) := by
        intro n_14_3
        induction n_14_3 with
        | zero =>
          intro x2_4 ia ifu _ _ _ _ _ _
          exfalso; omega
        | succ n_14_3 ih_L14_3 =>
          intro x2_4 ia ifu he H locs ls hX hl
          have he := he.trans f_X11_simplest_L14_s
          refine lv_iload_n hx hb dX11_simplest_14 rfl (lv_at hl 2 rfl) ?_
          refine lv_if_le (tgt := 82) hx hb dX11_simplest_15 (by decide) (fun c15 => ?_) (fun c15 => ?_)
          · have he := he.trans (if_pos c15)
            have d15 := i_le c15
            refine lv_sipush (v := (-9999 : Int32)) hx hb dX11_simplest_82 (by decide) ?_
            subst he
            exact g_iret hx hb hr hlocks hX hq rfl dX11_simplest_85
          · have he := he.trans (if_neg c15)
            have d15 := i_nle c15
            refine lv_iload_n hx hb dX11_simplest_18 rfl (lv_at hl 0 rfl) ?_
            refine lv_if_lt (tgt := 32) hx hb dX11_simplest_19 (by decide) (fun c19 => ?_) (fun c19 => ?_)
            · have he := he.trans (if_pos c19)
              have d19 := i_lt c19
              refine lv_iconst (v := (0 : Int32)) hx hb dX11_simplest_32 (by decide) ?_
              refine lv_istore_n (lv' := [(3, .int (0 : Int32)), (0, .int p1), (1, .int p2), (2, .int x2_4)]) hx hb dX11_simplest_33 rfl hl (by decide) rfl (fun ls hl => ?_)
              refine lv_iload_n hx hb dX11_simplest_34 rfl (lv_at hl 2 rfl) ?_
              refine lv_if_gt (tgt := 48) hx hb dX11_simplest_35 (by decide) (fun c35 => ?_) (fun c35 => ?_)
              · have he := he.trans (if_pos c35)
                have d35 := i_lt c35
                refine lv_iconst (v := (0 : Int32)) hx hb dX11_simplest_48 (by decide) ?_
                refine lv_istore (lv' := [(4, .int (0 : Int32)), (3, .int (0 : Int32)), (0, .int p1), (1, .int p2), (2, .int x2_4)]) hx hb dX11_simplest_49 hl (by decide) rfl (fun ls hl => ?_)
                refine lv_iload_n hx hb dX11_simplest_51 rfl (lv_at hl 2 rfl) ?_
                refine lv_if_lt (tgt := 62) hx hb dX11_simplest_52 (by decide) (fun c52 => ?_) (fun c52 => ?_)
                · have he := he.trans (if_pos c52)
                  have d52 := i_lt c52
                  refine lv_iload_n hx hb dX11_simplest_62 rfl (lv_at hl 2 rfl) ?_
                  refine lv_if_ge (tgt := 75) hx hb dX11_simplest_63 (by decide) (fun c63 => ?_) (fun c63 => ?_)
                  · have he := he.trans (if_pos c63)
                    have d63 := i_le c63
                    refine lv_iload_n hx hb dX11_simplest_75 rfl (lv_at hl 4 rfl) ?_
                    refine lv_iconst (v := (2 : Int32)) hx hb dX11_simplest_76 (by decide) ?_
                    refine lv_idiv hx hb dX11_simplest_77 (by decide) ?_
                    refine lv_istore_n (lv' := [(2, .int (x2_4 / (2 : Int32))), (4, .int (0 : Int32)), (3, .int (0 : Int32)), (0, .int p1), (1, .int p2)]) hx hb dX11_simplest_78 rfl hl (by decide) rfl (fun ls hl => ?_)
                    refine lv_goto (tgt := 14) hx hb dX11_simplest_79 (by decide) ?_
                    exact ih_L14_3 (x2_4 / (2 : Int32)) (i_half (by omega)).1 (i_halfn (by omega) ifu) he _ _ _ hX (lv_sub hl [3, 4, 0] rfl)
                  · have he := he.trans (if_neg c63)
                    have d63 := i_nle c63
                    refine lv_iload hx hb dX11_simplest_66 (lv_at hl 0 rfl) ?_
                    refine lv_iload_n hx hb dX11_simplest_68 rfl (lv_at hl 2 rfl) ?_
                    refine lv_icmp_le (tgt := 75) hx hb dX11_simplest_69 (by decide) (fun c69 => ?_) (fun c69 => ?_)
                    · have he := he.trans (if_pos c69)
                      have d69 := i_le c69
                      refine lv_iload_n hx hb dX11_simplest_75 rfl (lv_at hl 4 rfl) ?_
                      refine lv_iconst (v := (2 : Int32)) hx hb dX11_simplest_76 (by decide) ?_
                      refine lv_idiv hx hb dX11_simplest_77 (by decide) ?_
                      refine lv_istore_n (lv' := [(2, .int (x2_4 / (2 : Int32))), (4, .int (0 : Int32)), (3, .int (0 : Int32)), (0, .int p1), (1, .int p2)]) hx hb dX11_simplest_78 rfl hl (by decide) rfl (fun ls hl => ?_)
                      refine lv_goto (tgt := 14) hx hb dX11_simplest_79 (by decide) ?_
                      exact ih_L14_3 (x2_4 / (2 : Int32)) (i_half (by omega)).1 (i_halfn (by omega) ifu) he _ _ _ hX (lv_sub hl [3, 4, 0] rfl)
                    · have he := he.trans (if_neg c69)
                      have d69 := i_nle c69
                      refine lv_iload hx hb dX11_simplest_72 (lv_at hl 0 rfl) ?_
                      subst he
                      exact g_iret hx hb hr hlocks hX hq rfl dX11_simplest_74
                · have he := he.trans (if_neg c52)
                  have d52 := i_nlt c52
                  refine lv_iload_n hx hb dX11_simplest_55 rfl (lv_at hl 1 rfl) ?_
                  refine lv_iload_n hx hb dX11_simplest_56 rfl (lv_at hl 3 rfl) ?_
                  refine lv_icmp_ge (tgt := 62) hx hb dX11_simplest_57 (by decide) (fun c57 => ?_) (fun c57 => ?_)
                  · have he := he.trans (if_pos c57)
                    have d57 := i_le c57
                    refine lv_iload_n hx hb dX11_simplest_62 rfl (lv_at hl 2 rfl) ?_
                    refine lv_if_ge (tgt := 75) hx hb dX11_simplest_63 (by decide) (fun c63 => ?_) (fun c63 => ?_)
                    · have he := he.trans (if_pos c63)
                      have d63 := i_le c63
                      refine lv_iload_n hx hb dX11_simplest_75 rfl (lv_at hl 4 rfl) ?_
                      refine lv_iconst (v := (2 : Int32)) hx hb dX11_simplest_76 (by decide) ?_
                      refine lv_idiv hx hb dX11_simplest_77 (by decide) ?_
                      refine lv_istore_n (lv' := [(2, .int (x2_4 / (2 : Int32))), (4, .int (0 : Int32)), (3, .int (0 : Int32)), (0, .int p1), (1, .int p2)]) hx hb dX11_simplest_78 rfl hl (by decide) rfl (fun ls hl => ?_)
                      refine lv_goto (tgt := 14) hx hb dX11_simplest_79 (by decide) ?_
                      exact ih_L14_3 (x2_4 / (2 : Int32)) (i_half (by omega)).1 (i_halfn (by omega) ifu) he _ _ _ hX (lv_sub hl [3, 4, 0] rfl)
                    · have he := he.trans (if_neg c63)
                      have d63 := i_nle c63
                      refine lv_iload hx hb dX11_simplest_66 (lv_at hl 0 rfl) ?_
                      refine lv_iload_n hx hb dX11_simplest_68 rfl (lv_at hl 2 rfl) ?_
                      refine lv_icmp_le (tgt := 75) hx hb dX11_simplest_69 (by decide) (fun c69 => ?_) (fun c69 => ?_)
                      · have he := he.trans (if_pos c69)
                        have d69 := i_le c69
                        refine lv_iload_n hx hb dX11_simplest_75 rfl (lv_at hl 4 rfl) ?_
                        refine lv_iconst (v := (2 : Int32)) hx hb dX11_simplest_76 (by decide) ?_
                        refine lv_idiv hx hb dX11_simplest_77 (by decide) ?_
                        refine lv_istore_n (lv' := [(2, .int (x2_4 / (2 : Int32))), (4, .int (0 : Int32)), (3, .int (0 : Int32)), (0, .int p1), (1, .int p2)]) hx hb dX11_simplest_78 rfl hl (by decide) rfl (fun ls hl => ?_)
                        refine lv_goto (tgt := 14) hx hb dX11_simplest_79 (by decide) ?_
                        exact ih_L14_3 (x2_4 / (2 : Int32)) (i_half (by omega)).1 (i_halfn (by omega) ifu) he _ _ _ hX (lv_sub hl [3, 4, 0] rfl)
                      · have he := he.trans (if_neg c69)
                        have d69 := i_nle c69
                        refine lv_iload hx hb dX11_simplest_72 (lv_at hl 0 rfl) ?_
                        subst he
                        exact g_iret hx hb hr hlocks hX hq rfl dX11_simplest_74
                  · have he := he.trans (if_neg c57)
                    have d57 := i_nle c57
                    refine lv_iload_n hx hb dX11_simplest_60 rfl (lv_at hl 1 rfl) ?_
                    subst he
                    exact g_iret hx hb hr hlocks hX hq rfl dX11_simplest_61
              · have he := he.trans (if_neg c35)
                have d35 := i_nlt c35
                refine lv_iload_n hx hb dX11_simplest_38 rfl (lv_at hl 2 rfl) ?_
                refine lv_iload_n hx hb dX11_simplest_39 rfl (lv_at hl 3 rfl) ?_
                refine lv_idiv hx hb dX11_simplest_40 (fun h => by have := i_eq h; omega) ?_
                refine lv_iconst (v := (1 : Int32)) hx hb dX11_simplest_41 (by decide) ?_
                refine lv_isub hx hb dX11_simplest_42 ?_
                refine lv_iload_n hx hb dX11_simplest_43 rfl (lv_at hl 3 rfl) ?_
                refine lv_imul hx hb dX11_simplest_44 ?_
                refine lv_goto (tgt := 49) hx hb dX11_simplest_45 (by decide) ?_
                refine lv_istore (lv' := [(4, .int (((p2 / x2_4) - (1 : Int32)) * x2_4)), (3, .int (0 : Int32)), (0, .int p1), (1, .int p2), (2, .int x2_4)]) hx hb dX11_simplest_49 hl (by decide) rfl (fun ls hl => ?_)
                refine lv_iload_n hx hb dX11_simplest_51 rfl (lv_at hl 2 rfl) ?_
                refine lv_if_lt (tgt := 62) hx hb dX11_simplest_52 (by decide) (fun c52 => ?_) (fun c52 => ?_)
                · have he := he.trans (if_pos c52)
                  have d52 := i_lt c52
                  refine lv_iload_n hx hb dX11_simplest_62 rfl (lv_at hl 2 rfl) ?_
                  refine lv_if_ge (tgt := 75) hx hb dX11_simplest_63 (by decide) (fun c63 => ?_) (fun c63 => ?_)
                  · have he := he.trans (if_pos c63)
                    have d63 := i_le c63
                    refine lv_iload_n hx hb dX11_simplest_75 rfl (lv_at hl 4 rfl) ?_
                    refine lv_iconst (v := (2 : Int32)) hx hb dX11_simplest_76 (by decide) ?_
                    refine lv_idiv hx hb dX11_simplest_77 (by decide) ?_
                    refine lv_istore_n (lv' := [(2, .int (x2_4 / (2 : Int32))), (4, .int (((p2 / x2_4) - (1 : Int32)) * x2_4)), (3, .int (0 : Int32)), (0, .int p1), (1, .int p2)]) hx hb dX11_simplest_78 rfl hl (by decide) rfl (fun ls hl => ?_)
                    refine lv_goto (tgt := 14) hx hb dX11_simplest_79 (by decide) ?_
                    exact ih_L14_3 (x2_4 / (2 : Int32)) (i_half (by omega)).1 (i_halfn (by omega) ifu) he _ _ _ hX (lv_sub hl [3, 4, 0] rfl)
                  · have he := he.trans (if_neg c63)
                    have d63 := i_nle c63
                    refine lv_iload hx hb dX11_simplest_66 (lv_at hl 0 rfl) ?_
                    refine lv_iload_n hx hb dX11_simplest_68 rfl (lv_at hl 2 rfl) ?_
                    refine lv_icmp_le (tgt := 75) hx hb dX11_simplest_69 (by decide) (fun c69 => ?_) (fun c69 => ?_)
                    · have he := he.trans (if_pos c69)
                      have d69 := i_le c69
                      refine lv_iload_n hx hb dX11_simplest_75 rfl (lv_at hl 4 rfl) ?_
                      refine lv_iconst (v := (2 : Int32)) hx hb dX11_simplest_76 (by decide) ?_
                      refine lv_idiv hx hb dX11_simplest_77 (by decide) ?_
                      refine lv_istore_n (lv' := [(2, .int (x2_4 / (2 : Int32))), (4, .int (((p2 / x2_4) - (1 : Int32)) * x2_4)), (3, .int (0 : Int32)), (0, .int p1), (1, .int p2)]) hx hb dX11_simplest_78 rfl hl (by decide) rfl (fun ls hl => ?_)
                      refine lv_goto (tgt := 14) hx hb dX11_simplest_79 (by decide) ?_
                      exact ih_L14_3 (x2_4 / (2 : Int32)) (i_half (by omega)).1 (i_halfn (by omega) ifu) he _ _ _ hX (lv_sub hl [3, 4, 0] rfl)
                    · have he := he.trans (if_neg c69)
                      have d69 := i_nle c69
                      refine lv_iload hx hb dX11_simplest_72 (lv_at hl 0 rfl) ?_
                      subst he
                      exact g_iret hx hb hr hlocks hX hq rfl dX11_simplest_74
                · have he := he.trans (if_neg c52)
                  have d52 := i_nlt c52
                  refine lv_iload_n hx hb dX11_simplest_55 rfl (lv_at hl 1 rfl) ?_
                  refine lv_iload_n hx hb dX11_simplest_56 rfl (lv_at hl 3 rfl) ?_
                  refine lv_icmp_ge (tgt := 62) hx hb dX11_simplest_57 (by decide) (fun c57 => ?_) (fun c57 => ?_)
                  · have he := he.trans (if_pos c57)
                    have d57 := i_le c57
                    refine lv_iload_n hx hb dX11_simplest_62 rfl (lv_at hl 2 rfl) ?_
                    refine lv_if_ge (tgt := 75) hx hb dX11_simplest_63 (by decide) (fun c63 => ?_) (fun c63 => ?_)
                    · have he := he.trans (if_pos c63)
                      have d63 := i_le c63
                      refine lv_iload_n hx hb dX11_simplest_75 rfl (lv_at hl 4 rfl) ?_
                      refine lv_iconst (v := (2 : Int32)) hx hb dX11_simplest_76 (by decide) ?_
                      refine lv_idiv hx hb dX11_simplest_77 (by decide) ?_
                      refine lv_istore_n (lv' := [(2, .int (x2_4 / (2 : Int32))), (4, .int (((p2 / x2_4) - (1 : Int32)) * x2_4)), (3, .int (0 : Int32)), (0, .int p1), (1, .int p2)]) hx hb dX11_simplest_78 rfl hl (by decide) rfl (fun ls hl => ?_)
                      refine lv_goto (tgt := 14) hx hb dX11_simplest_79 (by decide) ?_
                      exact ih_L14_3 (x2_4 / (2 : Int32)) (i_half (by omega)).1 (i_halfn (by omega) ifu) he _ _ _ hX (lv_sub hl [3, 4, 0] rfl)
                    · have he := he.trans (if_neg c63)
                      have d63 := i_nle c63
                      refine lv_iload hx hb dX11_simplest_66 (lv_at hl 0 rfl) ?_
                      refine lv_iload_n hx hb dX11_simplest_68 rfl (lv_at hl 2 rfl) ?_
                      refine lv_icmp_le (tgt := 75) hx hb dX11_simplest_69 (by decide) (fun c69 => ?_) (fun c69 => ?_)
                      · have he := he.trans (if_pos c69)
                        have d69 := i_le c69
                        refine lv_iload_n hx hb dX11_simplest_75 rfl (lv_at hl 4 rfl) ?_
                        refine lv_iconst (v := (2 : Int32)) hx hb dX11_simplest_76 (by decide) ?_
                        refine lv_idiv hx hb dX11_simplest_77 (by decide) ?_
                        refine lv_istore_n (lv' := [(2, .int (x2_4 / (2 : Int32))), (4, .int (((p2 / x2_4) - (1 : Int32)) * x2_4)), (3, .int (0 : Int32)), (0, .int p1), (1, .int p2)]) hx hb dX11_simplest_78 rfl hl (by decide) rfl (fun ls hl => ?_)
                        refine lv_goto (tgt := 14) hx hb dX11_simplest_79 (by decide) ?_
                        exact ih_L14_3 (x2_4 / (2 : Int32)) (i_half (by omega)).1 (i_halfn (by omega) ifu) he _ _ _ hX (lv_sub hl [3, 4, 0] rfl)
                      · have he := he.trans (if_neg c69)
                        have d69 := i_nle c69
                        refine lv_iload hx hb dX11_simplest_72 (lv_at hl 0 rfl) ?_
                        subst he
                        exact g_iret hx hb hr hlocks hX hq rfl dX11_simplest_74
                  · have he := he.trans (if_neg c57)
                    have d57 := i_nle c57
                    refine lv_iload_n hx hb dX11_simplest_60 rfl (lv_at hl 1 rfl) ?_
                    subst he
                    exact g_iret hx hb hr hlocks hX hq rfl dX11_simplest_61
            · have he := he.trans (if_neg c19)
              have d19 := i_nlt c19
              refine lv_iload_n hx hb dX11_simplest_22 rfl (lv_at hl 0 rfl) ?_
              refine lv_iload_n hx hb dX11_simplest_23 rfl (lv_at hl 2 rfl) ?_
              refine lv_idiv hx hb dX11_simplest_24 (fun h => by have := i_eq h; omega) ?_
              refine lv_iconst (v := (1 : Int32)) hx hb dX11_simplest_25 (by decide) ?_
              refine lv_iadd hx hb dX11_simplest_26 ?_
              refine lv_iload_n hx hb dX11_simplest_27 rfl (lv_at hl 2 rfl) ?_
              refine lv_imul hx hb dX11_simplest_28 ?_
              refine lv_goto (tgt := 33) hx hb dX11_simplest_29 (by decide) ?_
              refine lv_istore_n (lv' := [(3, .int (((p1 / x2_4) + (1 : Int32)) * x2_4)), (0, .int p1), (1, .int p2), (2, .int x2_4)]) hx hb dX11_simplest_33 rfl hl (by decide) rfl (fun ls hl => ?_)
              refine lv_iload_n hx hb dX11_simplest_34 rfl (lv_at hl 2 rfl) ?_
              refine lv_if_gt (tgt := 48) hx hb dX11_simplest_35 (by decide) (fun c35 => ?_) (fun c35 => ?_)
              · have he := he.trans (if_pos c35)
                have d35 := i_lt c35
                refine lv_iconst (v := (0 : Int32)) hx hb dX11_simplest_48 (by decide) ?_
                refine lv_istore (lv' := [(4, .int (0 : Int32)), (3, .int (((p1 / x2_4) + (1 : Int32)) * x2_4)), (0, .int p1), (1, .int p2), (2, .int x2_4)]) hx hb dX11_simplest_49 hl (by decide) rfl (fun ls hl => ?_)
                refine lv_iload_n hx hb dX11_simplest_51 rfl (lv_at hl 2 rfl) ?_
                refine lv_if_lt (tgt := 62) hx hb dX11_simplest_52 (by decide) (fun c52 => ?_) (fun c52 => ?_)
                · have he := he.trans (if_pos c52)
                  have d52 := i_lt c52
                  refine lv_iload_n hx hb dX11_simplest_62 rfl (lv_at hl 2 rfl) ?_
                  refine lv_if_ge (tgt := 75) hx hb dX11_simplest_63 (by decide) (fun c63 => ?_) (fun c63 => ?_)
                  · have he := he.trans (if_pos c63)
                    have d63 := i_le c63
                    refine lv_iload_n hx hb dX11_simplest_75 rfl (lv_at hl 4 rfl) ?_
                    refine lv_iconst (v := (2 : Int32)) hx hb dX11_simplest_76 (by decide) ?_
                    refine lv_idiv hx hb dX11_simplest_77 (by decide) ?_
                    refine lv_istore_n (lv' := [(2, .int (x2_4 / (2 : Int32))), (4, .int (0 : Int32)), (3, .int (((p1 / x2_4) + (1 : Int32)) * x2_4)), (0, .int p1), (1, .int p2)]) hx hb dX11_simplest_78 rfl hl (by decide) rfl (fun ls hl => ?_)
                    refine lv_goto (tgt := 14) hx hb dX11_simplest_79 (by decide) ?_
                    exact ih_L14_3 (x2_4 / (2 : Int32)) (i_half (by omega)).1 (i_halfn (by omega) ifu) he _ _ _ hX (lv_sub hl [3, 4, 0] rfl)
                  · have he := he.trans (if_neg c63)
                    have d63 := i_nle c63
                    refine lv_iload hx hb dX11_simplest_66 (lv_at hl 0 rfl) ?_
                    refine lv_iload_n hx hb dX11_simplest_68 rfl (lv_at hl 2 rfl) ?_
                    refine lv_icmp_le (tgt := 75) hx hb dX11_simplest_69 (by decide) (fun c69 => ?_) (fun c69 => ?_)
                    · have he := he.trans (if_pos c69)
                      have d69 := i_le c69
                      refine lv_iload_n hx hb dX11_simplest_75 rfl (lv_at hl 4 rfl) ?_
                      refine lv_iconst (v := (2 : Int32)) hx hb dX11_simplest_76 (by decide) ?_
                      refine lv_idiv hx hb dX11_simplest_77 (by decide) ?_
                      refine lv_istore_n (lv' := [(2, .int (x2_4 / (2 : Int32))), (4, .int (0 : Int32)), (3, .int (((p1 / x2_4) + (1 : Int32)) * x2_4)), (0, .int p1), (1, .int p2)]) hx hb dX11_simplest_78 rfl hl (by decide) rfl (fun ls hl => ?_)
                      refine lv_goto (tgt := 14) hx hb dX11_simplest_79 (by decide) ?_
                      exact ih_L14_3 (x2_4 / (2 : Int32)) (i_half (by omega)).1 (i_halfn (by omega) ifu) he _ _ _ hX (lv_sub hl [3, 4, 0] rfl)
                    · have he := he.trans (if_neg c69)
                      have d69 := i_nle c69
                      refine lv_iload hx hb dX11_simplest_72 (lv_at hl 0 rfl) ?_
                      subst he
                      exact g_iret hx hb hr hlocks hX hq rfl dX11_simplest_74
                · have he := he.trans (if_neg c52)
                  have d52 := i_nlt c52
                  refine lv_iload_n hx hb dX11_simplest_55 rfl (lv_at hl 1 rfl) ?_
                  refine lv_iload_n hx hb dX11_simplest_56 rfl (lv_at hl 3 rfl) ?_
                  refine lv_icmp_ge (tgt := 62) hx hb dX11_simplest_57 (by decide) (fun c57 => ?_) (fun c57 => ?_)
                  · have he := he.trans (if_pos c57)
                    have d57 := i_le c57
                    refine lv_iload_n hx hb dX11_simplest_62 rfl (lv_at hl 2 rfl) ?_
                    refine lv_if_ge (tgt := 75) hx hb dX11_simplest_63 (by decide) (fun c63 => ?_) (fun c63 => ?_)
                    · have he := he.trans (if_pos c63)
                      have d63 := i_le c63
                      refine lv_iload_n hx hb dX11_simplest_75 rfl (lv_at hl 4 rfl) ?_
                      refine lv_iconst (v := (2 : Int32)) hx hb dX11_simplest_76 (by decide) ?_
                      refine lv_idiv hx hb dX11_simplest_77 (by decide) ?_
                      refine lv_istore_n (lv' := [(2, .int (x2_4 / (2 : Int32))), (4, .int (0 : Int32)), (3, .int (((p1 / x2_4) + (1 : Int32)) * x2_4)), (0, .int p1), (1, .int p2)]) hx hb dX11_simplest_78 rfl hl (by decide) rfl (fun ls hl => ?_)
                      refine lv_goto (tgt := 14) hx hb dX11_simplest_79 (by decide) ?_
                      exact ih_L14_3 (x2_4 / (2 : Int32)) (i_half (by omega)).1 (i_halfn (by omega) ifu) he _ _ _ hX (lv_sub hl [3, 4, 0] rfl)
                    · have he := he.trans (if_neg c63)
                      have d63 := i_nle c63
                      refine lv_iload hx hb dX11_simplest_66 (lv_at hl 0 rfl) ?_
                      refine lv_iload_n hx hb dX11_simplest_68 rfl (lv_at hl 2 rfl) ?_
                      refine lv_icmp_le (tgt := 75) hx hb dX11_simplest_69 (by decide) (fun c69 => ?_) (fun c69 => ?_)
                      · have he := he.trans (if_pos c69)
                        have d69 := i_le c69
                        refine lv_iload_n hx hb dX11_simplest_75 rfl (lv_at hl 4 rfl) ?_
                        refine lv_iconst (v := (2 : Int32)) hx hb dX11_simplest_76 (by decide) ?_
                        refine lv_idiv hx hb dX11_simplest_77 (by decide) ?_
                        refine lv_istore_n (lv' := [(2, .int (x2_4 / (2 : Int32))), (4, .int (0 : Int32)), (3, .int (((p1 / x2_4) + (1 : Int32)) * x2_4)), (0, .int p1), (1, .int p2)]) hx hb dX11_simplest_78 rfl hl (by decide) rfl (fun ls hl => ?_)
                        refine lv_goto (tgt := 14) hx hb dX11_simplest_79 (by decide) ?_
                        exact ih_L14_3 (x2_4 / (2 : Int32)) (i_half (by omega)).1 (i_halfn (by omega) ifu) he _ _ _ hX (lv_sub hl [3, 4, 0] rfl)
                      · have he := he.trans (if_neg c69)
                        have d69 := i_nle c69
                        refine lv_iload hx hb dX11_simplest_72 (lv_at hl 0 rfl) ?_
                        subst he
                        exact g_iret hx hb hr hlocks hX hq rfl dX11_simplest_74
                  · have he := he.trans (if_neg c57)
                    have d57 := i_nle c57
                    refine lv_iload_n hx hb dX11_simplest_60 rfl (lv_at hl 1 rfl) ?_
                    subst he
                    exact g_iret hx hb hr hlocks hX hq rfl dX11_simplest_61
              · have he := he.trans (if_neg c35)
                have d35 := i_nlt c35
                refine lv_iload_n hx hb dX11_simplest_38 rfl (lv_at hl 2 rfl) ?_
                refine lv_iload_n hx hb dX11_simplest_39 rfl (lv_at hl 3 rfl) ?_
                refine lv_idiv hx hb dX11_simplest_40 (fun h => by have := i_eq h; omega) ?_
                refine lv_iconst (v := (1 : Int32)) hx hb dX11_simplest_41 (by decide) ?_
                refine lv_isub hx hb dX11_simplest_42 ?_
                refine lv_iload_n hx hb dX11_simplest_43 rfl (lv_at hl 3 rfl) ?_
                refine lv_imul hx hb dX11_simplest_44 ?_
                refine lv_goto (tgt := 49) hx hb dX11_simplest_45 (by decide) ?_
                refine lv_istore (lv' := [(4, .int (((p2 / x2_4) - (1 : Int32)) * x2_4)), (3, .int (((p1 / x2_4) + (1 : Int32)) * x2_4)), (0, .int p1), (1, .int p2), (2, .int x2_4)]) hx hb dX11_simplest_49 hl (by decide) rfl (fun ls hl => ?_)
                refine lv_iload_n hx hb dX11_simplest_51 rfl (lv_at hl 2 rfl) ?_
                refine lv_if_lt (tgt := 62) hx hb dX11_simplest_52 (by decide) (fun c52 => ?_) (fun c52 => ?_)
                · have he := he.trans (if_pos c52)
                  have d52 := i_lt c52
                  refine lv_iload_n hx hb dX11_simplest_62 rfl (lv_at hl 2 rfl) ?_
                  refine lv_if_ge (tgt := 75) hx hb dX11_simplest_63 (by decide) (fun c63 => ?_) (fun c63 => ?_)
                  · have he := he.trans (if_pos c63)
                    have d63 := i_le c63
                    refine lv_iload_n hx hb dX11_simplest_75 rfl (lv_at hl 4 rfl) ?_
                    refine lv_iconst (v := (2 : Int32)) hx hb dX11_simplest_76 (by decide) ?_
                    refine lv_idiv hx hb dX11_simplest_77 (by decide) ?_
                    refine lv_istore_n (lv' := [(2, .int (x2_4 / (2 : Int32))), (4, .int (((p2 / x2_4) - (1 : Int32)) * x2_4)), (3, .int (((p1 / x2_4) + (1 : Int32)) * x2_4)), (0, .int p1), (1, .int p2)]) hx hb dX11_simplest_78 rfl hl (by decide) rfl (fun ls hl => ?_)
                    refine lv_goto (tgt := 14) hx hb dX11_simplest_79 (by decide) ?_
                    exact ih_L14_3 (x2_4 / (2 : Int32)) (i_half (by omega)).1 (i_halfn (by omega) ifu) he _ _ _ hX (lv_sub hl [3, 4, 0] rfl)
                  · have he := he.trans (if_neg c63)
                    have d63 := i_nle c63
                    refine lv_iload hx hb dX11_simplest_66 (lv_at hl 0 rfl) ?_
                    refine lv_iload_n hx hb dX11_simplest_68 rfl (lv_at hl 2 rfl) ?_
                    refine lv_icmp_le (tgt := 75) hx hb dX11_simplest_69 (by decide) (fun c69 => ?_) (fun c69 => ?_)
                    · have he := he.trans (if_pos c69)
                      have d69 := i_le c69
                      refine lv_iload_n hx hb dX11_simplest_75 rfl (lv_at hl 4 rfl) ?_
                      refine lv_iconst (v := (2 : Int32)) hx hb dX11_simplest_76 (by decide) ?_
                      refine lv_idiv hx hb dX11_simplest_77 (by decide) ?_
                      refine lv_istore_n (lv' := [(2, .int (x2_4 / (2 : Int32))), (4, .int (((p2 / x2_4) - (1 : Int32)) * x2_4)), (3, .int (((p1 / x2_4) + (1 : Int32)) * x2_4)), (0, .int p1), (1, .int p2)]) hx hb dX11_simplest_78 rfl hl (by decide) rfl (fun ls hl => ?_)
                      refine lv_goto (tgt := 14) hx hb dX11_simplest_79 (by decide) ?_
                      exact ih_L14_3 (x2_4 / (2 : Int32)) (i_half (by omega)).1 (i_halfn (by omega) ifu) he _ _ _ hX (lv_sub hl [3, 4, 0] rfl)
                    · have he := he.trans (if_neg c69)
                      have d69 := i_nle c69
                      refine lv_iload hx hb dX11_simplest_72 (lv_at hl 0 rfl) ?_
                      subst he
                      exact g_iret hx hb hr hlocks hX hq rfl dX11_simplest_74
                · have he := he.trans (if_neg c52)
                  have d52 := i_nlt c52
                  refine lv_iload_n hx hb dX11_simplest_55 rfl (lv_at hl 1 rfl) ?_
                  refine lv_iload_n hx hb dX11_simplest_56 rfl (lv_at hl 3 rfl) ?_
                  refine lv_icmp_ge (tgt := 62) hx hb dX11_simplest_57 (by decide) (fun c57 => ?_) (fun c57 => ?_)
                  · have he := he.trans (if_pos c57)
                    have d57 := i_le c57
                    refine lv_iload_n hx hb dX11_simplest_62 rfl (lv_at hl 2 rfl) ?_
                    refine lv_if_ge (tgt := 75) hx hb dX11_simplest_63 (by decide) (fun c63 => ?_) (fun c63 => ?_)
                    · have he := he.trans (if_pos c63)
                      have d63 := i_le c63
                      refine lv_iload_n hx hb dX11_simplest_75 rfl (lv_at hl 4 rfl) ?_
                      refine lv_iconst (v := (2 : Int32)) hx hb dX11_simplest_76 (by decide) ?_
                      refine lv_idiv hx hb dX11_simplest_77 (by decide) ?_
                      refine lv_istore_n (lv' := [(2, .int (x2_4 / (2 : Int32))), (4, .int (((p2 / x2_4) - (1 : Int32)) * x2_4)), (3, .int (((p1 / x2_4) + (1 : Int32)) * x2_4)), (0, .int p1), (1, .int p2)]) hx hb dX11_simplest_78 rfl hl (by decide) rfl (fun ls hl => ?_)
                      refine lv_goto (tgt := 14) hx hb dX11_simplest_79 (by decide) ?_
                      exact ih_L14_3 (x2_4 / (2 : Int32)) (i_half (by omega)).1 (i_halfn (by omega) ifu) he _ _ _ hX (lv_sub hl [3, 4, 0] rfl)
                    · have he := he.trans (if_neg c63)
                      have d63 := i_nle c63
                      refine lv_iload hx hb dX11_simplest_66 (lv_at hl 0 rfl) ?_
                      refine lv_iload_n hx hb dX11_simplest_68 rfl (lv_at hl 2 rfl) ?_
                      refine lv_icmp_le (tgt := 75) hx hb dX11_simplest_69 (by decide) (fun c69 => ?_) (fun c69 => ?_)
                      · have he := he.trans (if_pos c69)
                        have d69 := i_le c69
                        refine lv_iload_n hx hb dX11_simplest_75 rfl (lv_at hl 4 rfl) ?_
                        refine lv_iconst (v := (2 : Int32)) hx hb dX11_simplest_76 (by decide) ?_
                        refine lv_idiv hx hb dX11_simplest_77 (by decide) ?_
                        refine lv_istore_n (lv' := [(2, .int (x2_4 / (2 : Int32))), (4, .int (((p2 / x2_4) - (1 : Int32)) * x2_4)), (3, .int (((p1 / x2_4) + (1 : Int32)) * x2_4)), (0, .int p1), (1, .int p2)]) hx hb dX11_simplest_78 rfl hl (by decide) rfl (fun ls hl => ?_)
                        refine lv_goto (tgt := 14) hx hb dX11_simplest_79 (by decide) ?_
                        exact ih_L14_3 (x2_4 / (2 : Int32)) (i_half (by omega)).1 (i_halfn (by omega) ifu) he _ _ _ hX (lv_sub hl [3, 4, 0] rfl)
                      · have he := he.trans (if_neg c69)
                        have d69 := i_nle c69
                        refine lv_iload hx hb dX11_simplest_72 (lv_at hl 0 rfl) ?_
                        subst he
                        exact g_iret hx hb hr hlocks hX hq rfl dX11_simplest_74
                  · have he := he.trans (if_neg c57)
                    have d57 := i_nle c57
                    refine lv_iload_n hx hb dX11_simplest_60 rfl (lv_at hl 1 rfl) ?_
                    subst he
                    exact g_iret hx hb hr hlocks hX hq rfl dX11_simplest_61
      exact L14_3 10 (256 : Int32) (by omega) ⟨by decide, by decide⟩ he _ _ _ hX (lv_sub hl [1, 2, 0] rfl)
    · have he := he.trans (if_neg c5)
      have d5 := i_nle c5
      refine lv_iconst (v := (0 : Int32)) hx hb dX11_simplest_8 (by decide) ?_
      subst he
      exact g_iret hx hb hr hlocks hX hq rfl dX11_simplest_9
