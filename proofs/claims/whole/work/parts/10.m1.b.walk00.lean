abbrev rm_X11_within : Room := { frames := 0, cells := 0, slots := 0, locals := 0 }
set_option maxHeartbeats 4000000 in
set_option maxRecDepth 100000 in
theorem k_X11_within {l : Launch} {D : va_G} {E : sE} {w : va_W} {tys : List (ClassId × FieldType)} (p1 : Int32) (p2 : Int32) (p3 : Int32)  : ∀ q : Int32, q = f_X11_within p1 p2 p3 → gMi l yX11_within wsX11_within rm_X11_within D E tys [.int p1, .int p2, .int p3] w w q := by
  intro q he0
  refine gM_of (cc := cX11_within) (maxL := 3) (ret := (some .boolean)) (Qf := gQi D w q) (by decide) rfl (Nat.le_of_ble_eq_true rfl) ?_
  intro p e s m args below meth c Z ls Qz hx hb hr hml hlocks hown hts hS hX hl hq
  have he := he0.trans f_X11_within_s
  have hown : s.vm.findClass RX11 = some m.cls := hown
  have hl : lv_has ls 3 [(0, .int p1), (1, .int p2), (2, .int p3)] := hl
  have t0 : ((0 : Int32)).toInt = 0 := rfl
  have t1 : ((1 : Int32)).toInt = 1 := rfl
  refine lv_iload_n hx hb dX11_within_0 rfl (lv_at hl 0 rfl) ?_
  refine lv_iload_n hx hb dX11_within_1 rfl (lv_at hl 1 rfl) ?_
  refine lv_icmp_lt (tgt := 14) hx hb dX11_within_2 (by decide) (fun c2 => ?_) (fun c2 => ?_)
  · have he := he.trans (if_pos c2)
    have d2 := i_lt c2
    refine lv_iconst (v := (0 : Int32)) hx hb dX11_within_14 (by decide) ?_
    subst he
    exact g_zret hx hb hr rfl hlocks hX hq rfl dX11_within_15
  · have he := he.trans (if_neg c2)
    have d2 := i_nlt c2
    refine lv_iload_n hx hb dX11_within_5 rfl (lv_at hl 0 rfl) ?_
    refine lv_iload_n hx hb dX11_within_6 rfl (lv_at hl 2 rfl) ?_
    refine lv_icmp_gt (tgt := 14) hx hb dX11_within_7 (by decide) (fun c7 => ?_) (fun c7 => ?_)
    · have he := he.trans (if_pos c7)
      have d7 := i_lt c7
      refine lv_iconst (v := (0 : Int32)) hx hb dX11_within_14 (by decide) ?_
      subst he
      exact g_zret hx hb hr rfl hlocks hX hq rfl dX11_within_15
    · have he := he.trans (if_neg c7)
      have d7 := i_nlt c7
      refine lv_iconst (v := (1 : Int32)) hx hb dX11_within_10 (by decide) ?_
      refine lv_goto (tgt := 15) hx hb dX11_within_11 (by decide) ?_
      subst he
      exact g_zret hx hb hr rfl hlocks hX hq rfl dX11_within_15
abbrev rm_X11_isIn : Room := { frames := 0, cells := 0, slots := 0, locals := 0 }
set_option maxHeartbeats 4000000 in
set_option maxRecDepth 100000 in
theorem k_X11_isIn {l : Launch} {D : va_G} {E : sE} {w : va_W} {tys : List (ClassId × FieldType)} (p1 : Int32) (p2 : Int32)  : ∀ q : Int32, q = f_X11_isIn p1 p2 → gMi l yX11_isIn wsX11_isIn rm_X11_isIn D E tys [.int p1, .int p2] w w q := by
  intro q he0
  refine gM_of (cc := cX11_isIn) (maxL := 2) (ret := (some .boolean)) (Qf := gQi D w q) (by decide) rfl (Nat.le_of_ble_eq_true rfl) ?_
  intro p e s m args below meth c Z ls Qz hx hb hr hml hlocks hown hts hS hX hl hq
  have he := he0.trans f_X11_isIn_s
  have hown : s.vm.findClass RX11 = some m.cls := hown
  have hl : lv_has ls 2 [(0, .int p1), (1, .int p2)] := hl
  have t0 : ((0 : Int32)).toInt = 0 := rfl
  have t1 : ((1 : Int32)).toInt = 1 := rfl
  refine lv_iload_n hx hb dX11_isIn_0 rfl (lv_at hl 0 rfl) ?_
  refine lv_iload_n hx hb dX11_isIn_1 rfl (lv_at hl 1 rfl) ?_
  refine lv_ishr hx hb dX11_isIn_2 ?_
  refine lv_iconst (v := (1 : Int32)) hx hb dX11_isIn_3 (by decide) ?_
  refine lv_iand hx hb dX11_isIn_4 ?_
  refine lv_iconst (v := (1 : Int32)) hx hb dX11_isIn_5 (by decide) ?_
  refine lv_icmp_ne (tgt := 13) hx hb dX11_isIn_6 (by decide) (fun c6 => ?_) (fun c6 => ?_)
  · have he := he.trans (if_neg c6)
    have d6 := i_ne c6
    refine lv_iconst (v := (0 : Int32)) hx hb dX11_isIn_13 (by decide) ?_
    subst he
    exact g_zret hx hb hr rfl hlocks hX hq rfl dX11_isIn_14
  · have he := he.trans (if_pos c6)
    have d6 := i_eq c6
    refine lv_iconst (v := (1 : Int32)) hx hb dX11_isIn_9 (by decide) ?_
    refine lv_goto (tgt := 14) hx hb dX11_isIn_10 (by decide) ?_
    subst he
    exact g_zret hx hb hr rfl hlocks hX hq rfl dX11_isIn_14
abbrev rm_X11_size : Room := { frames := 0, cells := 0, slots := 0, locals := 0 }
set_option maxHeartbeats 4000000 in
set_option maxRecDepth 100000 in
theorem k_X11_size {l : Launch} {D : va_G} {E : sE} {w : va_W} {tys : List (ClassId × FieldType)} (p1 : Int32)  : ∀ q : Int32, q = f_X11_size p1 → gMi l yX11_size wsX11_size rm_X11_size D E tys [.int p1] w w q := by
  intro q he0
  refine gM_of (cc := cX11_size) (maxL := 3) (ret := (some .int)) (Qf := gQi D w q) (by decide) rfl (Nat.le_of_ble_eq_true rfl) ?_
  intro p e s m args below meth c Z ls Qz hx hb hr hml hlocks hown hts hS hX hl hq
  have he := he0.trans f_X11_size_s
  have hown : s.vm.findClass RX11 = some m.cls := hown
  have hl : lv_has ls 3 [(0, .int p1)] := hl
  have t0 : ((0 : Int32)).toInt = 0 := rfl
  have t1 : ((1 : Int32)).toInt = 1 := rfl
  have t8 : ((8 : Int32)).toInt = 8 := rfl
  refine lv_iconst (v := (0 : Int32)) hx hb dX11_size_0 (by decide) ?_
  refine lv_istore_n (lv' := [(1, .int (0 : Int32)), (0, .int p1)]) hx hb dX11_size_1 rfl hl (by decide) rfl (fun ls hl => ?_)
  refine lv_iconst (v := (0 : Int32)) hx hb dX11_size_2 (by decide) ?_
  refine lv_istore_n (lv' := [(2, .int (0 : Int32)), (1, .int (0 : Int32)), (0, .int p1)]) hx hb dX11_size_3 rfl hl (by decide) rfl (fun ls hl => ?_)
  have L4_1 : ∀ (n_4_1 : Nat) (x1_2 : Int32) (x2_3 : Int32), 0 ≤ (x2_3).toInt ∧ (x2_3).toInt ≤ 8 → 8 - (x2_3).toInt < (n_4_1 : Int) → q = f_X11_size_L4 n_4_1 p1 x1_2 x2_3 → ∀ (H : Heap) (locs : List Loc) (ls : Array Slot), gX D Z s w H locs → lv_has ls 3 [(0, .int p1), (1, .int x1_2), (2, .int x2_3)] → W p l e rm_X11_size s m args below meth c H locs 0 0 Qz (F0 m 4 ls []) := by
    intro n_4_1
    induction n_4_1 with
    | zero =>
      intro x1_2 x2_3 ia ifu _ _ _ _ _ _
      exfalso; omega
    | succ n_4_1 ih_L4_1 =>
      intro x1_2 x2_3 ia ifu he H locs ls hX hl
      have he := he.trans f_X11_size_L4_s
      refine lv_iload_n hx hb dX11_size_4 rfl (lv_at hl 2 rfl) ?_
      refine lv_bipush (v := (8 : Int32)) hx hb dX11_size_5 (by decide) ?_
      refine lv_icmp_ge (tgt := 24) hx hb dX11_size_7 (by decide) (fun c7 => ?_) (fun c7 => ?_)
      · have he := he.trans (if_pos c7)
        have d7 := i_le c7
        refine lv_iload_n hx hb dX11_size_24 rfl (lv_at hl 1 rfl) ?_
        subst he
        exact g_iret hx hb hr hlocks hX hq rfl dX11_size_25
      · have he := he.trans (if_neg c7)
        have d7 := i_nle c7
        refine lv_iload_n hx hb dX11_size_10 rfl (lv_at hl 1 rfl) ?_
        refine lv_iload_n hx hb dX11_size_11 rfl (lv_at hl 0 rfl) ?_
        refine lv_iload_n hx hb dX11_size_12 rfl (lv_at hl 2 rfl) ?_
        refine lv_ishr hx hb dX11_size_13 ?_
        refine lv_iconst (v := (1 : Int32)) hx hb dX11_size_14 (by decide) ?_
        refine lv_iand hx hb dX11_size_15 ?_
        refine lv_iadd hx hb dX11_size_16 ?_
        refine lv_istore_n (lv' := [(1, .int (x1_2 + ((p1 >>> (x2_3 &&& 31)) &&& (1 : Int32)))), (0, .int p1), (2, .int x2_3)]) hx hb dX11_size_17 rfl hl (by decide) rfl (fun ls hl => ?_)
        refine lv_iinc (v := (x2_3 + (1 : Int32))) (lv' := [(2, .int (x2_3 + (1 : Int32))), (1, .int (x1_2 + ((p1 >>> (x2_3 &&& 31)) &&& (1 : Int32)))), (0, .int p1)]) hx hb dX11_size_18 hl (k := 2) rfl rfl (by decide) rfl (fun ls hl => ?_)
        have s18 := i_s1 (x := x2_3) (by omega)
        refine lv_goto (tgt := 4) hx hb dX11_size_21 (by decide) ?_
        exact ih_L4_1 (x1_2 + ((p1 >>> (x2_3 &&& 31)) &&& (1 : Int32))) (x2_3 + (1 : Int32)) (by omega) (by omega) he _ _ _ hX (lv_sub hl [2, 1, 0] rfl)
  exact L4_1 9 (0 : Int32) (0 : Int32) (by omega) (by omega) he _ _ _ hX (lv_sub hl [2, 1, 0] rfl)
abbrev rm_X11_kindBy : Room := { frames := 0, cells := 0, slots := 0, locals := 0 }
set_option maxHeartbeats 4000000 in
set_option maxRecDepth 100000 in
theorem k_X11_kindBy {l : Launch} {D : va_G} {E : sE} {w : va_W} {tys : List (ClassId × FieldType)} (p1 : Int32)  : ∀ q : Int32, q = f_X11_kindBy p1 → gMi l yX11_kindBy wsX11_kindBy rm_X11_kindBy D E tys [.int p1] w w q := by
  intro q he0
  refine gM_of (cc := cX11_kindBy) (maxL := 1) (ret := (some .int)) (Qf := gQi D w q) (by decide) rfl (Nat.le_of_ble_eq_true rfl) ?_
  intro p e s m args below meth c Z ls Qz hx hb hr hml hlocks hown hts hS hX hl hq
  have he := he0.trans f_X11_kindBy_s
  have hown : s.vm.findClass RX11 = some m.cls := hown
  have hl : lv_has ls 1 [(0, .int p1)] := hl
  have tm1 : ((-1 : Int32)).toInt = -1 := rfl
  have t0 : ((0 : Int32)).toInt = 0 := rfl
  have t1 : ((1 : Int32)).toInt = 1 := rfl
  have t2 : ((2 : Int32)).toInt = 2 := rfl
  have t3 : ((3 : Int32)).toInt = 3 := rfl
  have t4 : ((4 : Int32)).toInt = 4 := rfl
  refine lv_iload_n hx hb dX11_kindBy_0 rfl (lv_at hl 0 rfl) ?_
  by_cases q1_98 : p1 = (98 : Int32)
  · have he := he.trans (if_pos q1_98)
    refine lv_lookup (tgt := 52) (off := 51) hx hb dX11_kindBy_1 (by decide) (by rw [q1_98]; decide) (by decide) ?_
    refine lv_iconst (v := (0 : Int32)) hx hb dX11_kindBy_52 (by decide) ?_
    subst he
    exact g_iret hx hb hr hlocks hX hq rfl dX11_kindBy_53
  · have he := he.trans (if_neg q1_98)
    by_cases q1_100 : p1 = (100 : Int32)
    · have he := he.trans (if_pos q1_100)
      refine lv_lookup (tgt := 56) (off := 55) hx hb dX11_kindBy_1 (by decide) (by rw [q1_100]; decide) (by decide) ?_
      refine lv_iconst (v := (2 : Int32)) hx hb dX11_kindBy_56 (by decide) ?_
      subst he
      exact g_iret hx hb hr hlocks hX hq rfl dX11_kindBy_57
    · have he := he.trans (if_neg q1_100)
      by_cases q1_105 : p1 = (105 : Int32)
      · have he := he.trans (if_pos q1_105)
        refine lv_lookup (tgt := 58) (off := 57) hx hb dX11_kindBy_1 (by decide) (by rw [q1_105]; decide) (by decide) ?_
        refine lv_iconst (v := (3 : Int32)) hx hb dX11_kindBy_58 (by decide) ?_
        subst he
        exact g_iret hx hb hr hlocks hX hq rfl dX11_kindBy_59
      · have he := he.trans (if_neg q1_105)
        by_cases q1_116 : p1 = (116 : Int32)
        · have he := he.trans (if_pos q1_116)
          refine lv_lookup (tgt := 60) (off := 59) hx hb dX11_kindBy_1 (by decide) (by rw [q1_116]; decide) (by decide) ?_
          refine lv_iconst (v := (4 : Int32)) hx hb dX11_kindBy_60 (by decide) ?_
          subst he
          exact g_iret hx hb hr hlocks hX hq rfl dX11_kindBy_61
        · have he := he.trans (if_neg q1_116)
          by_cases q1_119 : p1 = (119 : Int32)
          · have he := he.trans (if_pos q1_119)
            refine lv_lookup (tgt := 54) (off := 53) hx hb dX11_kindBy_1 (by decide) (by rw [q1_119]; decide) (by decide) ?_
            refine lv_iconst (v := (1 : Int32)) hx hb dX11_kindBy_54 (by decide) ?_
            subst he
            exact g_iret hx hb hr hlocks hX hq rfl dX11_kindBy_55
          · have he := he.trans (if_neg q1_119)
            refine lv_lookup (tgt := 62) (off := 61) hx hb dX11_kindBy_1 (by decide) ((lv_osw q1_98 rfl).trans ((lv_osw q1_100 rfl).trans ((lv_osw q1_105 rfl).trans ((lv_osw q1_116 rfl).trans ((lv_osw q1_119 rfl).trans rfl))))) (by decide) ?_
            refine lv_iconst (v := (-1 : Int32)) hx hb dX11_kindBy_62 (by decide) ?_
            subst he
            exact g_iret hx hb hr hlocks hX hq rfl dX11_kindBy_63
abbrev rm_X11_letter : Room := { frames := 1, cells := 0, slots := 0, locals := 22 }
set_option maxHeartbeats 4000000 in
set_option maxRecDepth 100000 in
theorem k_X11_letter {l : Launch} {D : va_G} {E : sE} {a : Nat → Nat} {cA : Nat → ClassId} {hedges : Int32} {branches : Int32} {stand : Int32} {turn : Int32} {cuts : Int32} {asks : Int32} {seen : Int32} {pageLength : Int32} {isWhole : Int32} {newBranches : Int32} {gameCuts : Int32} {isKept : Int32} {keptHedge : Int32} {keptStand : Int32} {keptTurn : Int32} {keptCuts : Int32} {keptSeen : Int32} {seedNow : Int64} {hsh : Int64} {kindOf : Nat → Int32} {onOf : Nat → Int32} {seenBranch : Nat → Int32} {seenBegins : Nat → Int32} {seenWins : Nat → Int32} {page : Nat → Int32} {winner : Nat → Int32} {lasting : Nat → Int32} {worthBy : Nat → Int32} {wonBy : Nat → Int32} {keptKind : Nat → Int32} {keptBranch : Nat → Int32} {keptBegins : Nat → Int32} {keptWins : Nat → Int32} {partsBy : Nat → Int64} (p1 : Int32) (hpl : 0 ≤ (pageLength).toInt ∧ (pageLength).toInt ≤ 26) : ∀ q : Int32 × Int32 × (Nat → Int32), q = f_X11_letter pageLength page p1 → gMi l yX11_letter wsX11_letter rm_X11_letter D E (tM cA) [.ref (a 0), .int p1] (wM a cA hedges branches stand turn cuts asks seen pageLength isWhole newBranches gameCuts isKept keptHedge keptStand keptTurn keptCuts keptSeen seedNow hsh kindOf onOf seenBranch seenBegins seenWins page winner lasting worthBy wonBy keptKind keptBranch keptBegins keptWins partsBy) (wM a cA hedges branches stand turn cuts asks seen q.2.1 isWhole newBranches gameCuts isKept keptHedge keptStand keptTurn keptCuts keptSeen seedNow hsh kindOf onOf seenBranch seenBegins seenWins q.2.2 winner lasting worthBy wonBy keptKind keptBranch keptBegins keptWins partsBy) q.1 := by
  intro q he0
  refine gM_of (cc := cX11_letter) (maxL := 2) (ret := (some .int)) (Qf := gQi D (wM a cA hedges branches stand turn cuts asks seen q.2.1 isWhole newBranches gameCuts isKept keptHedge keptStand keptTurn keptCuts keptSeen seedNow hsh kindOf onOf seenBranch seenBegins seenWins q.2.2 winner lasting worthBy wonBy keptKind keptBranch keptBegins keptWins partsBy) q.1) (by decide) rfl (Nat.le_of_ble_eq_true rfl) ?_
  intro p e s m args below meth c Z ls Qz hx hb hr hml hlocks hown hts hS hX hl hq
  have he := he0.trans f_X11_letter_s
  have hown : s.vm.findClass RX11 = some m.cls := hown
  have hl : lv_has ls 2 [(0, .ref (a 0)), (1, .int p1)] := hl
  have hi_X11 : ∀ w ∈ u_ws RX11 TX11 34, w ∈ wsX11_letter := fun _ h => List.mem_cons_of_mem _ (List.mem_append_right _ h)
  have l_fieldLink_25 := hts (Cond.fieldLink RX11 25 "HedgeGameModel" "page" "[B") (List.mem_of_getElem? (i := 2) rfl)
  have l_fieldLink_61 := hts (Cond.fieldLink RX11 61 "HedgeGameModel" "pageLength" "I") (List.mem_of_getElem? (i := 1) rfl)
  have tm104 : ((-104 : Int32)).toInt = -104 := rfl
  have tm102 : ((-102 : Int32)).toInt = -102 := rfl
  have t0 : ((0 : Int32)).toInt = 0 := rfl
  have t1 : ((1 : Int32)).toInt = 1 := rfl
  have t26 : ((26 : Int32)).toInt = 26 := rfl
  have t32 : ((32 : Int32)).toInt = 32 := rfl
  have t126 : ((126 : Int32)).toInt = 126 := rfl
  refine lv_iload_n hx hb dX11_letter_0 rfl (lv_at hl 1 rfl) ?_
  refine lv_bipush (v := (32 : Int32)) hx hb dX11_letter_1 (by decide) ?_
  refine lv_bipush (v := (126 : Int32)) hx hb dX11_letter_3 (by decide) ?_
  obtain ⟨r_1, e5⟩ : ∃ z, z = (f_X11_within p1 (32 : Int32) (126 : Int32)) := ⟨_, rfl⟩
  rw [← e5] at he
  refine g_Si (r := r_1) (As := [.int p1, .int (32 : Int32), .int (126 : Int32)]) (rest := []) ⟨hx, hb, hml, hown, hts⟩ hS hX (k_X11_within p1 (32 : Int32) (126 : Int32) r_1 e5) (va_cwS 3 hts gX11_letter_X11_within rfl rfl rfl (by decide +kernel) ⟨Nat.le_of_ble_eq_true rfl, Nat.le_of_ble_eq_true rfl⟩) rfl hl.1 rfl (Nat.le_of_ble_eq_true rfl) dX11_letter_5 ⟨Nat.zero_le _, Nat.zero_le _⟩ (fun H locs hX => ?_)
  have k5_0 : (r_1).toInt = 0 ∨ ((r_1).toInt = 1 ∧ ((32 : Int32)).toInt ≤ (p1).toInt ∧ (p1).toInt ≤ ((126 : Int32)).toInt) := by rw [e5]; exact r_within
  refine lv_if_ne (tgt := 14) hx hb dX11_letter_8 (by decide) (fun c8 => ?_) (fun c8 => ?_)
  · have he := he.trans (if_neg c8)
    have d8 := i_ne c8
    refine lv_aload_n hx hb dX11_letter_14 rfl (lv_at hl 0 rfl) ?_
    refine va_get (D := D) (ci := 11) (v := .int pageLength) (C := RX11) (T := TX11) (N := 34) hx hb hts hi_X11 hown hS.1 hX.1 0 rfl rfl 12 (by decide) l_fieldLink_61 (fun _ h9 => h9) rfl dX11_letter_15 ?_
    refine lv_bipush (v := (26 : Int32)) hx hb dX11_letter_18 (by decide) ?_
    refine lv_icmp_ne (tgt := 26) hx hb dX11_letter_20 (by decide) (fun c20 => ?_) (fun c20 => ?_)
    · have he := he.trans (if_neg c20)
      have d20 := i_ne c20
      refine lv_aload_n hx hb dX11_letter_26 rfl (lv_at hl 0 rfl) ?_
      refine va_get (D := D) (ci := 11) (v := .ref (a 6)) (C := RX11) (T := TX11) (N := 34) hx hb hts hi_X11 hown hS.1 hX.1 0 rfl rfl 13 (by decide) l_fieldLink_25 (fun _ h9 => h9) rfl dX11_letter_27 ?_
      refine lv_aload_n hx hb dX11_letter_30 rfl (lv_at hl 0 rfl) ?_
      refine va_get (D := D) (ci := 11) (v := .int pageLength) (C := RX11) (T := TX11) (N := 34) hx hb hts hi_X11 hown hS.1 hX.1 0 rfl rfl 12 (by decide) l_fieldLink_61 (fun _ h9 => h9) rfl dX11_letter_31 ?_
      refine lv_iload_n hx hb dX11_letter_34 rfl (lv_at hl 1 rfl) ?_
      refine lv_i2b hx hb dX11_letter_35 rfl ?_
      refine va_bast hx hb hS.1 hX.1 hX.2.1 hX.2.2 6 5 rfl rfl (vp_in_iff.mpr (by omega)) dX11_letter_36 (fun H locs hP hD hs => ?_)
      have hX : gX D Z s (wM a cA hedges branches stand turn cuts asks seen pageLength isWhole newBranches gameCuts isKept keptHedge keptStand keptTurn keptCuts keptSeen seedNow hsh kindOf onOf seenBranch seenBegins seenWins (upd page (pageLength).toNatClampNeg (vp_nar .byte ((p1).toInt8.toInt32))) winner lasting worthBy wonBy keptKind keptBranch keptBegins keptWins partsBy) H locs := ⟨hP, hD, hs⟩
      refine lv_aload_n hx hb dX11_letter_37 rfl (lv_at hl 0 rfl) ?_
      refine lv_dup hx hb dX11_letter_38 rfl ?_
      refine va_get (D := D) (ci := 11) (v := .int pageLength) (C := RX11) (T := TX11) (N := 34) hx hb hts hi_X11 hown hS.1 hX.1 0 rfl rfl 12 (by decide) l_fieldLink_61 (fun _ h9 => h9) rfl dX11_letter_39 ?_
      refine lv_iconst (v := (1 : Int32)) hx hb dX11_letter_42 (by decide) ?_
      refine lv_iadd hx hb dX11_letter_43 ?_
      refine va_put (D := D) (ci := 11) (v := .int (pageLength + (1 : Int32))) (ty := .int) (C := RX11) (T := TX11) (N := 34) hx hb hts hi_X11 tyX11 tyX11_ok nmX11 hown hS.1 hX.1 hX.2.1 hX.2.2 0 rfl rfl 12 (by decide) l_fieldLink_61 (fun _ h9 => h9) rfl (by decide +kernel) rfl rfl (Nat.le_of_ble_eq_true rfl) dX11_letter_44 (fun H locs hP hD hs => ?_)
      have hX : gX D Z s (wM a cA hedges branches stand turn cuts asks seen (pageLength + (1 : Int32)) isWhole newBranches gameCuts isKept keptHedge keptStand keptTurn keptCuts keptSeen seedNow hsh kindOf onOf seenBranch seenBegins seenWins (upd page (pageLength).toNatClampNeg (vp_nar .byte ((p1).toInt8.toInt32))) winner lasting worthBy wonBy keptKind keptBranch keptBegins keptWins partsBy) H locs := ⟨hP, hD, hs⟩
      refine lv_aload_n hx hb dX11_letter_47 rfl (lv_at hl 0 rfl) ?_
      refine va_get (D := D) (ci := 11) (v := .int (pageLength + (1 : Int32))) (C := RX11) (T := TX11) (N := 34) hx hb hts hi_X11 hown hS.1 hX.1 0 rfl rfl 12 (by decide) l_fieldLink_61 (fun _ h9 => h9) rfl dX11_letter_48 ?_
      subst he
      exact g_iret hx hb hr hlocks hX hq rfl dX11_letter_51
    · have he := he.trans (if_pos c20)
      have d20 := i_eq c20
      refine lv_bipush (v := (-104 : Int32)) hx hb dX11_letter_23 (by decide) ?_
      subst he
      exact g_iret hx hb hr hlocks hX hq rfl dX11_letter_25
  · have he := he.trans (if_pos c8)
    have d8 := i_eq c8
    refine lv_bipush (v := (-102 : Int32)) hx hb dX11_letter_11 (by decide) ?_
    subst he
    exact g_iret hx hb hr hlocks hX hq rfl dX11_letter_13
abbrev rm_X11_blank : Room := { frames := 0, cells := 0, slots := 0, locals := 0 }
set_option maxHeartbeats 4000000 in
set_option maxRecDepth 100000 in
theorem k_X11_blank {l : Launch} {D : va_G} {E : sE} {a : Nat → Nat} {cA : Nat → ClassId} {hedges : Int32} {branches : Int32} {stand : Int32} {turn : Int32} {cuts : Int32} {asks : Int32} {seen : Int32} {pageLength : Int32} {isWhole : Int32} {newBranches : Int32} {gameCuts : Int32} {isKept : Int32} {keptHedge : Int32} {keptStand : Int32} {keptTurn : Int32} {keptCuts : Int32} {keptSeen : Int32} {seedNow : Int64} {hsh : Int64} {kindOf : Nat → Int32} {onOf : Nat → Int32} {seenBranch : Nat → Int32} {seenBegins : Nat → Int32} {seenWins : Nat → Int32} {page : Nat → Int32} {winner : Nat → Int32} {lasting : Nat → Int32} {worthBy : Nat → Int32} {wonBy : Nat → Int32} {keptKind : Nat → Int32} {keptBranch : Nat → Int32} {keptBegins : Nat → Int32} {keptWins : Nat → Int32} {partsBy : Nat → Int64}   : ∀ q : Int32 × Int32, q = f_X11_blank pageLength → gMi l yX11_blank wsX11_blank rm_X11_blank D E (tM cA) [.ref (a 0)] (wM a cA hedges branches stand turn cuts asks seen pageLength isWhole newBranches gameCuts isKept keptHedge keptStand keptTurn keptCuts keptSeen seedNow hsh kindOf onOf seenBranch seenBegins seenWins page winner lasting worthBy wonBy keptKind keptBranch keptBegins keptWins partsBy) (wM a cA hedges branches stand turn cuts asks seen q.2 isWhole newBranches gameCuts isKept keptHedge keptStand keptTurn keptCuts keptSeen seedNow hsh kindOf onOf seenBranch seenBegins seenWins page winner lasting worthBy wonBy keptKind keptBranch keptBegins keptWins partsBy) q.1 := by
  intro q he0
  refine gM_of (cc := cX11_blank) (maxL := 2) (ret := (some .int)) (Qf := gQi D (wM a cA hedges branches stand turn cuts asks seen q.2 isWhole newBranches gameCuts isKept keptHedge keptStand keptTurn keptCuts keptSeen seedNow hsh kindOf onOf seenBranch seenBegins seenWins page winner lasting worthBy wonBy keptKind keptBranch keptBegins keptWins partsBy) q.1) (by decide) rfl (Nat.le_of_ble_eq_true rfl) ?_
  intro p e s m args below meth c Z ls Qz hx hb hr hml hlocks hown hts hS hX hl hq
  have he := he0.trans f_X11_blank_s
  have hown : s.vm.findClass RX11 = some m.cls := hown
  have hl : lv_has ls 2 [(0, .ref (a 0))] := hl
  have hi_X11 : ∀ w ∈ u_ws RX11 TX11 34, w ∈ wsX11_blank := fun _ h => List.mem_cons_of_mem _ (List.mem_append_right _ h)
  have l_fieldLink_61 := hts (Cond.fieldLink RX11 61 "HedgeGameModel" "pageLength" "I") (List.mem_of_getElem? (i := 1) rfl)
  have t0 : ((0 : Int32)).toInt = 0 := rfl
  have t1 : ((1 : Int32)).toInt = 1 := rfl
  refine lv_aload_n hx hb dX11_blank_0 rfl (lv_at hl 0 rfl) ?_
  refine va_get (D := D) (ci := 11) (v := .int pageLength) (C := RX11) (T := TX11) (N := 34) hx hb hts hi_X11 hown hS.1 hX.1 0 rfl rfl 12 (by decide) l_fieldLink_61 (fun _ h9 => h9) rfl dX11_blank_1 ?_
  refine lv_istore_n (lv' := [(1, .int pageLength), (0, .ref (a 0))]) hx hb dX11_blank_4 rfl hl (by decide) rfl (fun ls hl => ?_)
  refine lv_aload_n hx hb dX11_blank_5 rfl (lv_at hl 1 rfl) ?_
  refine lv_iconst (v := (0 : Int32)) hx hb dX11_blank_6 (by decide) ?_
  refine va_put (D := D) (ci := 11) (v := .int (0 : Int32)) (ty := .int) (C := RX11) (T := TX11) (N := 34) hx hb hts hi_X11 tyX11 tyX11_ok nmX11 hown hS.1 hX.1 hX.2.1 hX.2.2 0 rfl rfl 12 (by decide) l_fieldLink_61 (fun _ h9 => h9) rfl (by decide +kernel) rfl rfl (Nat.le_of_ble_eq_true rfl) dX11_blank_7 (fun H locs hP hD hs => ?_)
  have hX : gX D Z s (wM a cA hedges branches stand turn cuts asks seen (0 : Int32) isWhole newBranches gameCuts isKept keptHedge keptStand keptTurn keptCuts keptSeen seedNow hsh kindOf onOf seenBranch seenBegins seenWins page winner lasting worthBy wonBy keptKind keptBranch keptBegins keptWins partsBy) H locs := ⟨hP, hD, hs⟩
  refine lv_iload_n hx hb dX11_blank_10 rfl (lv_at hl 0 rfl) ?_
  subst he
  exact g_iret hx hb hr hlocks hX hq rfl dX11_blank_11
abbrev rm_X11_at : Room := { frames := 0, cells := 0, slots := 0, locals := 0 }
set_option maxHeartbeats 4000000 in
set_option maxRecDepth 100000 in
theorem k_X11_at {l : Launch} {D : va_G} {E : sE} {a : Nat → Nat} {cA : Nat → ClassId} {hedges : Int32} {branches : Int32} {stand : Int32} {turn : Int32} {cuts : Int32} {asks : Int32} {seen : Int32} {pageLength : Int32} {isWhole : Int32} {newBranches : Int32} {gameCuts : Int32} {isKept : Int32} {keptHedge : Int32} {keptStand : Int32} {keptTurn : Int32} {keptCuts : Int32} {keptSeen : Int32} {seedNow : Int64} {hsh : Int64} {kindOf : Nat → Int32} {onOf : Nat → Int32} {seenBranch : Nat → Int32} {seenBegins : Nat → Int32} {seenWins : Nat → Int32} {page : Nat → Int32} {winner : Nat → Int32} {lasting : Nat → Int32} {worthBy : Nat → Int32} {wonBy : Nat → Int32} {keptKind : Nat → Int32} {keptBranch : Nat → Int32} {keptBegins : Nat → Int32} {keptWins : Nat → Int32} {partsBy : Nat → Int64} (p1 : Int32) (hpl : 0 ≤ (pageLength).toInt ∧ (pageLength).toInt ≤ 26) (hk : 0 ≤ (p1).toInt) : ∀ q : Int32, q = f_X11_at pageLength page p1 → gMi l yX11_at wsX11_at rm_X11_at D E (tM cA) [.ref (a 0), .int p1] (wM a cA hedges branches stand turn cuts asks seen pageLength isWhole newBranches gameCuts isKept keptHedge keptStand keptTurn keptCuts keptSeen seedNow hsh kindOf onOf seenBranch seenBegins seenWins page winner lasting worthBy wonBy keptKind keptBranch keptBegins keptWins partsBy) (wM a cA hedges branches stand turn cuts asks seen pageLength isWhole newBranches gameCuts isKept keptHedge keptStand keptTurn keptCuts keptSeen seedNow hsh kindOf onOf seenBranch seenBegins seenWins page winner lasting worthBy wonBy keptKind keptBranch keptBegins keptWins partsBy) q := by
  intro q he0
  refine gM_of (cc := cX11_at) (maxL := 2) (ret := (some .int)) (Qf := gQi D (wM a cA hedges branches stand turn cuts asks seen pageLength isWhole newBranches gameCuts isKept keptHedge keptStand keptTurn keptCuts keptSeen seedNow hsh kindOf onOf seenBranch seenBegins seenWins page winner lasting worthBy wonBy keptKind keptBranch keptBegins keptWins partsBy) q) (by decide) rfl (Nat.le_of_ble_eq_true rfl) ?_
  intro p e s m args below meth c Z ls Qz hx hb hr hml hlocks hown hts hS hX hl hq
  have he := he0.trans f_X11_at_s
  have hown : s.vm.findClass RX11 = some m.cls := hown
  have hl : lv_has ls 2 [(0, .ref (a 0)), (1, .int p1)] := hl
  have hi_X11 : ∀ w ∈ u_ws RX11 TX11 34, w ∈ wsX11_at := fun _ h => List.mem_cons_of_mem _ (List.mem_append_right _ h)
  have l_fieldLink_25 := hts (Cond.fieldLink RX11 25 "HedgeGameModel" "page" "[B") (List.mem_of_getElem? (i := 2) rfl)
  have l_fieldLink_61 := hts (Cond.fieldLink RX11 61 "HedgeGameModel" "pageLength" "I") (List.mem_of_getElem? (i := 1) rfl)
  have t0 : ((0 : Int32)).toInt = 0 := rfl
  have t1 : ((1 : Int32)).toInt = 1 := rfl
  refine lv_iload_n hx hb dX11_at_0 rfl (lv_at hl 1 rfl) ?_
  refine lv_aload_n hx hb dX11_at_1 rfl (lv_at hl 0 rfl) ?_
  refine va_get (D := D) (ci := 11) (v := .int pageLength) (C := RX11) (T := TX11) (N := 34) hx hb hts hi_X11 hown hS.1 hX.1 0 rfl rfl 12 (by decide) l_fieldLink_61 (fun _ h9 => h9) rfl dX11_at_2 ?_
  refine lv_icmp_ge (tgt := 17) hx hb dX11_at_5 (by decide) (fun c5 => ?_) (fun c5 => ?_)
  · have he := he.trans (if_pos c5)
    have d5 := i_le c5
    refine lv_iconst (v := (0 : Int32)) hx hb dX11_at_17 (by decide) ?_
    subst he
    exact g_iret hx hb hr hlocks hX hq rfl dX11_at_18
  · have he := he.trans (if_neg c5)
    have d5 := i_nle c5
    refine lv_aload_n hx hb dX11_at_8 rfl (lv_at hl 0 rfl) ?_
    refine va_get (D := D) (ci := 11) (v := .ref (a 6)) (C := RX11) (T := TX11) (N := 34) hx hb hts hi_X11 hown hS.1 hX.1 0 rfl rfl 13 (by decide) l_fieldLink_25 (fun _ h9 => h9) rfl dX11_at_9 ?_
    refine lv_iload_n hx hb dX11_at_12 rfl (lv_at hl 1 rfl) ?_
    refine va_bald hx hb hS.1 hX.1 6 5 rfl rfl (vp_in_iff.mpr (by omega)) dX11_at_13 ?_
    refine lv_goto (tgt := 18) hx hb dX11_at_14 (by decide) ?_
    subst he
    exact g_iret hx hb hr hlocks hX hq rfl dX11_at_18
abbrev rm_X11_read : Room := { frames := 1, cells := 0, slots := 0, locals := 22 }
set_option maxHeartbeats 4000000 in
set_option maxRecDepth 100000 in
theorem k_X11_read {l : Launch} {D : va_G} {E : sE} {a : Nat → Nat} {cA : Nat → ClassId} {hedges : Int32} {branches : Int32} {stand : Int32} {turn : Int32} {cuts : Int32} {asks : Int32} {seen : Int32} {pageLength : Int32} {isWhole : Int32} {newBranches : Int32} {gameCuts : Int32} {isKept : Int32} {keptHedge : Int32} {keptStand : Int32} {keptTurn : Int32} {keptCuts : Int32} {keptSeen : Int32} {seedNow : Int64} {hsh : Int64} {kindOf : Nat → Int32} {onOf : Nat → Int32} {seenBranch : Nat → Int32} {seenBegins : Nat → Int32} {seenWins : Nat → Int32} {page : Nat → Int32} {winner : Nat → Int32} {lasting : Nat → Int32} {worthBy : Nat → Int32} {wonBy : Nat → Int32} {keptKind : Nat → Int32} {keptBranch : Nat → Int32} {keptBegins : Nat → Int32} {keptWins : Nat → Int32} {partsBy : Nat → Int64}  (hpl : 0 ≤ (pageLength).toInt ∧ (pageLength).toInt ≤ 26) : ∀ q : Int32 × Int32 × Int32, q = f_X11_read pageLength isWhole newBranches page → gMi l yX11_read wsX11_read rm_X11_read D E (tM cA) [.ref (a 0)] (wM a cA hedges branches stand turn cuts asks seen pageLength isWhole newBranches gameCuts isKept keptHedge keptStand keptTurn keptCuts keptSeen seedNow hsh kindOf onOf seenBranch seenBegins seenWins page winner lasting worthBy wonBy keptKind keptBranch keptBegins keptWins partsBy) (wM a cA hedges branches stand turn cuts asks seen pageLength q.2.1 q.2.2 gameCuts isKept keptHedge keptStand keptTurn keptCuts keptSeen seedNow hsh kindOf onOf seenBranch seenBegins seenWins page winner lasting worthBy wonBy keptKind keptBranch keptBegins keptWins partsBy) q.1 := by
  intro q he0
  refine gM_of (cc := cX11_read) (maxL := 2) (ret := (some .int)) (Qf := gQi D (wM a cA hedges branches stand turn cuts asks seen pageLength q.2.1 q.2.2 gameCuts isKept keptHedge keptStand keptTurn keptCuts keptSeen seedNow hsh kindOf onOf seenBranch seenBegins seenWins page winner lasting worthBy wonBy keptKind keptBranch keptBegins keptWins partsBy) q.1) (by decide) rfl (Nat.le_of_ble_eq_true rfl) ?_
  intro p e s m args below meth c Z ls Qz hx hb hr hml hlocks hown hts hS hX hl hq
  have he := he0.trans f_X11_read_s
  have hown : s.vm.findClass RX11 = some m.cls := hown
  have hl : lv_has ls 2 [(0, .ref (a 0))] := hl
  have hi_X11 : ∀ w ∈ u_ws RX11 TX11 34, w ∈ wsX11_read := fun _ h => List.mem_cons_of_mem _ (List.mem_append_right _ h)
  have l_fieldLink_61 := hts (Cond.fieldLink RX11 61 "HedgeGameModel" "pageLength" "I") (List.mem_of_getElem? (i := 3) rfl)
  have l_fieldLink_65 := hts (Cond.fieldLink RX11 65 "HedgeGameModel" "isWhole" "Z") (List.mem_of_getElem? (i := 1) rfl)
  have l_fieldLink_69 := hts (Cond.fieldLink RX11 69 "HedgeGameModel" "newBranches" "I") (List.mem_of_getElem? (i := 2) rfl)
  have tm1 : ((-1 : Int32)).toInt = -1 := rfl
  have t0 : ((0 : Int32)).toInt = 0 := rfl
  have t1 : ((1 : Int32)).toInt = 1 := rfl
  have t2 : ((2 : Int32)).toInt = 2 := rfl
  have t8 : ((8 : Int32)).toInt = 8 := rfl
  have t44 : ((44 : Int32)).toInt = 44 := rfl
  have t45 : ((45 : Int32)).toInt = 45 := rfl
  have t48 : ((48 : Int32)).toInt = 48 := rfl
  refine lv_aload_n hx hb dX11_read_0 rfl (lv_at hl 0 rfl) ?_
  refine lv_iconst (v := (0 : Int32)) hx hb dX11_read_1 (by decide) ?_
  refine va_put (D := D) (ci := 11) (v := .int (0 : Int32)) (ty := .boolean) (C := RX11) (T := TX11) (N := 34) hx hb hts hi_X11 tyX11 tyX11_ok nmX11 hown hS.1 hX.1 hX.2.1 hX.2.2 0 rfl rfl 14 (by decide) l_fieldLink_65 (fun _ h9 => h9) rfl (by decide +kernel) rfl rfl (Nat.le_of_ble_eq_true rfl) dX11_read_2 (fun H locs hP hD hs => ?_)
  have hX : gX D Z s (wM a cA hedges branches stand turn cuts asks seen pageLength (0 : Int32) newBranches gameCuts isKept keptHedge keptStand keptTurn keptCuts keptSeen seedNow hsh kindOf onOf seenBranch seenBegins seenWins page winner lasting worthBy wonBy keptKind keptBranch keptBegins keptWins partsBy) H locs := ⟨hP, hD, hs⟩
  refine lv_aload_n hx hb dX11_read_5 rfl (lv_at hl 0 rfl) ?_
  refine lv_iconst (v := (0 : Int32)) hx hb dX11_read_6 (by decide) ?_
  refine va_put (D := D) (ci := 11) (v := .int (0 : Int32)) (ty := .int) (C := RX11) (T := TX11) (N := 34) hx hb hts hi_X11 tyX11 tyX11_ok nmX11 hown hS.1 hX.1 hX.2.1 hX.2.2 0 rfl rfl 15 (by decide) l_fieldLink_69 (fun _ h9 => h9) rfl (by decide +kernel) rfl rfl (Nat.le_of_ble_eq_true rfl) dX11_read_7 (fun H locs hP hD hs => ?_)
  have hX : gX D Z s (wM a cA hedges branches stand turn cuts asks seen pageLength (0 : Int32) (0 : Int32) gameCuts isKept keptHedge keptStand keptTurn keptCuts keptSeen seedNow hsh kindOf onOf seenBranch seenBegins seenWins page winner lasting worthBy wonBy keptKind keptBranch keptBegins keptWins partsBy) H locs := ⟨hP, hD, hs⟩
  refine lv_iconst (v := (0 : Int32)) hx hb dX11_read_10 (by decide) ?_
  refine lv_istore_n (lv' := [(1, .int (0 : Int32)), (0, .ref (a 0))]) hx hb dX11_read_11 rfl hl (by decide) rfl (fun ls hl => ?_)
  have L12_1 : ∀ (n_12_1 : Nat) (isWhole_2 : Int32) (newBranches_3 : Int32) (x1_4 : Int32), 0 ≤ (newBranches_3).toInt ∧ (newBranches_3).toInt ≤ 8 → (x1_4).toInt = 3 * (newBranches_3).toInt → 9 - (newBranches_3).toInt < (n_12_1 : Int) → q = f_X11_read_L12 n_12_1 pageLength isWhole_2 newBranches_3 page x1_4 → ∀ (H : Heap) (locs : List Loc) (ls : Array Slot), gX D Z s (wM a cA hedges branches stand turn cuts asks seen pageLength isWhole_2 newBranches_3 gameCuts isKept keptHedge keptStand keptTurn keptCuts keptSeen seedNow hsh kindOf onOf seenBranch seenBegins seenWins page winner lasting worthBy wonBy keptKind keptBranch keptBegins keptWins partsBy) H locs → lv_has ls 2 [(0, .ref (a 0)), (1, .int x1_4)] → W p l e rm_X11_read s m args below meth c H locs 0 0 Qz (F0 m 12 ls []) := by
    intro n_12_1
    induction n_12_1 with
    | zero =>
      intro isWhole_2 newBranches_3 x1_4 ia ib ifu _ _ _ _ _ _
      exfalso; omega
    | succ n_12_1 ih_L12_1 =>
      intro isWhole_2 newBranches_3 x1_4 ia ib ifu he H locs ls hX hl
      have he := he.trans f_X11_read_L12_s
      have g12 := i_s1 (x := x1_4) (by omega)
      refine lv_aload_n hx hb dX11_read_12 rfl (lv_at hl 0 rfl) ?_
      refine va_get (D := D) (ci := 11) (v := .int newBranches_3) (C := RX11) (T := TX11) (N := 34) hx hb hts hi_X11 hown hS.1 hX.1 0 rfl rfl 15 (by decide) l_fieldLink_69 (fun _ h9 => h9) rfl dX11_read_13 ?_
      refine lv_bipush (v := (8 : Int32)) hx hb dX11_read_16 (by decide) ?_
      refine lv_icmp_ge (tgt := 131) hx hb dX11_read_18 (by decide) (fun c18 => ?_) (fun c18 => ?_)
      · have he := he.trans (if_pos c18)
        have d18 := i_le c18
        refine lv_iload_n hx hb dX11_read_131 rfl (lv_at hl 1 rfl) ?_
        subst he
        exact g_iret hx hb hr hlocks hX hq rfl dX11_read_132
      · have he := he.trans (if_neg c18)
        have d18 := i_nle c18
        refine lv_aload_n hx hb dX11_read_21 rfl (lv_at hl 0 rfl) ?_
        refine lv_iload_n hx hb dX11_read_22 rfl (lv_at hl 1 rfl) ?_
        obtain ⟨r_5, e23⟩ : ∃ z, z = (f_X11_at pageLength page x1_4) := ⟨_, rfl⟩
        rw [← e23] at he
        refine g_Vi (r := r_5) (As := [.int x1_4]) (rest := []) (ci := 11) (q0 := 0) ⟨hx, hb, hml, hown, hts⟩ hS hX (k_X11_at x1_4 (by omega) (by omega) r_5 e23) (cwV 1 hts gX11_read_X11_at rfl rfl rfl (by decide +kernel) ⟨Nat.le_of_ble_eq_true rfl, Nat.le_of_ble_eq_true rfl⟩) rfl rfl rfl hl.1 rfl (Nat.le_of_ble_eq_true rfl) dX11_read_23 ⟨Nat.zero_le _, Nat.zero_le _⟩ (fun H locs hX => ?_)
        obtain ⟨r_6, e26⟩ : ∃ z, z = (f_X11_kindBy r_5) := ⟨_, rfl⟩
        rw [← e26] at he
        refine g_Si (r := r_6) (As := [.int r_5]) (rest := []) ⟨hx, hb, hml, hown, hts⟩ hS hX (k_X11_kindBy r_5 r_6 e26) (va_cwS 1 hts gX11_read_X11_kindBy rfl rfl rfl (by decide +kernel) ⟨Nat.le_of_ble_eq_true rfl, Nat.le_of_ble_eq_true rfl⟩) rfl hl.1 rfl (Nat.le_of_ble_eq_true rfl) dX11_read_26 ⟨Nat.zero_le _, Nat.zero_le _⟩ (fun H locs hX => ?_)
        refine lv_iconst (v := (-1 : Int32)) hx hb dX11_read_29 (by decide) ?_
        refine lv_icmp_ne (tgt := 35) hx hb dX11_read_30 (by decide) (fun c30 => ?_) (fun c30 => ?_)
        · have he := he.trans (if_neg c30)
          have d30 := i_ne c30
          refine lv_aload_n hx hb dX11_read_35 rfl (lv_at hl 0 rfl) ?_
          refine lv_iload_n hx hb dX11_read_36 rfl (lv_at hl 1 rfl) ?_
          refine lv_iconst (v := (1 : Int32)) hx hb dX11_read_37 (by decide) ?_
          refine lv_iadd hx hb dX11_read_38 ?_
          obtain ⟨r_7, e39⟩ : ∃ z, z = (f_X11_at pageLength page (x1_4 + (1 : Int32))) := ⟨_, rfl⟩
          rw [← e39] at he
          refine g_Vi (r := r_7) (As := [.int (x1_4 + (1 : Int32))]) (rest := []) (ci := 11) (q0 := 0) ⟨hx, hb, hml, hown, hts⟩ hS hX (k_X11_at (x1_4 + (1 : Int32)) (by omega) (by omega) r_7 e39) (cwV 1 hts gX11_read_X11_at rfl rfl rfl (by decide +kernel) ⟨Nat.le_of_ble_eq_true rfl, Nat.le_of_ble_eq_true rfl⟩) rfl rfl rfl hl.1 rfl (Nat.le_of_ble_eq_true rfl) dX11_read_39 ⟨Nat.zero_le _, Nat.zero_le _⟩ (fun H locs hX => ?_)
          refine lv_bipush (v := (45 : Int32)) hx hb dX11_read_42 (by decide) ?_
          refine lv_icmp_eq (tgt := 74) hx hb dX11_read_44 (by decide) (fun c44 => ?_) (fun c44 => ?_)
          · have he := he.trans (if_pos c44)
            have d44 := i_eq c44
            refine lv_aload_n hx hb dX11_read_74 rfl (lv_at hl 0 rfl) ?_
            refine lv_dup hx hb dX11_read_75 rfl ?_
            refine va_get (D := D) (ci := 11) (v := .int newBranches_3) (C := RX11) (T := TX11) (N := 34) hx hb hts hi_X11 hown hS.1 hX.1 0 rfl rfl 15 (by decide) l_fieldLink_69 (fun _ h9 => h9) rfl dX11_read_76 ?_
            refine lv_iconst (v := (1 : Int32)) hx hb dX11_read_79 (by decide) ?_
            refine lv_iadd hx hb dX11_read_80 ?_
            have g81 := i_s1 (x := newBranches_3) (by omega)
            refine va_put (D := D) (ci := 11) (v := .int (newBranches_3 + (1 : Int32))) (ty := .int) (C := RX11) (T := TX11) (N := 34) hx hb hts hi_X11 tyX11 tyX11_ok nmX11 hown hS.1 hX.1 hX.2.1 hX.2.2 0 rfl rfl 15 (by decide) l_fieldLink_69 (fun _ h9 => h9) rfl (by decide +kernel) rfl rfl (Nat.le_of_ble_eq_true rfl) dX11_read_81 (fun H locs hP hD hs => ?_)
            have hX : gX D Z s (wM a cA hedges branches stand turn cuts asks seen pageLength isWhole_2 (newBranches_3 + (1 : Int32)) gameCuts isKept keptHedge keptStand keptTurn keptCuts keptSeen seedNow hsh kindOf onOf seenBranch seenBegins seenWins page winner lasting worthBy wonBy keptKind keptBranch keptBegins keptWins partsBy) H locs := ⟨hP, hD, hs⟩
            have g84 := i_add (x := x1_4) (y := (2 : Int32)) (by omega) (by omega)
            refine lv_iinc (v := (x1_4 + (2 : Int32))) (lv' := [(1, .int (x1_4 + (2 : Int32))), (0, .ref (a 0))]) hx hb dX11_read_84 hl (k := 1) rfl rfl (by decide) rfl (fun ls hl => ?_)
            refine lv_aload_n hx hb dX11_read_87 rfl (lv_at hl 1 rfl) ?_
            refine lv_iload_n hx hb dX11_read_88 rfl (lv_at hl 0 rfl) ?_
            refine lv_aload_n hx hb dX11_read_89 rfl (lv_at hl 1 rfl) ?_
            refine va_get (D := D) (ci := 11) (v := .int pageLength) (C := RX11) (T := TX11) (N := 34) hx hb hts hi_X11 hown hS.1 hX.1 0 rfl rfl 12 (by decide) l_fieldLink_61 (fun _ h9 => h9) rfl dX11_read_90 ?_
            refine lv_icmp_ne (tgt := 100) hx hb dX11_read_93 (by decide) (fun c93 => ?_) (fun c93 => ?_)
            · have he := he.trans (if_neg c93)
              have d93 := i_ne c93
              refine lv_iconst (v := (0 : Int32)) hx hb dX11_read_100 (by decide) ?_
              refine va_put (D := D) (ci := 11) (v := .int (0 : Int32)) (ty := .boolean) (C := RX11) (T := TX11) (N := 34) hx hb hts hi_X11 tyX11 tyX11_ok nmX11 hown hS.1 hX.1 hX.2.1 hX.2.2 0 rfl rfl 14 (by decide) l_fieldLink_65 (fun _ h9 => h9) rfl (by decide +kernel) rfl rfl (Nat.le_of_ble_eq_true rfl) dX11_read_101 (fun H locs hP hD hs => ?_)
              have hX : gX D Z s (wM a cA hedges branches stand turn cuts asks seen pageLength (0 : Int32) (newBranches_3 + (1 : Int32)) gameCuts isKept keptHedge keptStand keptTurn keptCuts keptSeen seedNow hsh kindOf onOf seenBranch seenBegins seenWins page winner lasting worthBy wonBy keptKind keptBranch keptBegins keptWins partsBy) H locs := ⟨hP, hD, hs⟩
              refine lv_aload_n hx hb dX11_read_104 rfl (lv_at hl 1 rfl) ?_
              refine va_get (D := D) (ci := 11) (v := .int (newBranches_3 + (1 : Int32))) (C := RX11) (T := TX11) (N := 34) hx hb hts hi_X11 hown hS.1 hX.1 0 rfl rfl 15 (by decide) l_fieldLink_69 (fun _ h9 => h9) rfl dX11_read_105 ?_
              refine lv_bipush (v := (8 : Int32)) hx hb dX11_read_108 (by decide) ?_
              refine lv_icmp_eq (tgt := 123) hx hb dX11_read_110 (by decide) (fun c110 => ?_) (fun c110 => ?_)
              · have he := he.trans (if_pos c110)
                have d110 := i_eq c110
                refine lv_iload_n hx hb dX11_read_123 rfl (lv_at hl 0 rfl) ?_
                subst he
                exact g_iret hx hb hr hlocks hX hq rfl dX11_read_124
              · have he := he.trans (if_neg c110)
                have d110 := i_ne c110
                refine lv_aload_n hx hb dX11_read_113 rfl (lv_at hl 1 rfl) ?_
                refine lv_iload_n hx hb dX11_read_114 rfl (lv_at hl 0 rfl) ?_
                obtain ⟨r_8, e115⟩ : ∃ z, z = (f_X11_at pageLength page (x1_4 + (2 : Int32))) := ⟨_, rfl⟩
                rw [← e115] at he
                refine g_Vi (r := r_8) (As := [.int (x1_4 + (2 : Int32))]) (rest := []) (ci := 11) (q0 := 0) ⟨hx, hb, hml, hown, hts⟩ hS hX (k_X11_at (x1_4 + (2 : Int32)) (by omega) (by omega) r_8 e115) (cwV 1 hts gX11_read_X11_at rfl rfl rfl (by decide +kernel) ⟨Nat.le_of_ble_eq_true rfl, Nat.le_of_ble_eq_true rfl⟩) rfl rfl rfl hl.1 rfl (Nat.le_of_ble_eq_true rfl) dX11_read_115 ⟨Nat.zero_le _, Nat.zero_le _⟩ (fun H locs hX => ?_)
                refine lv_bipush (v := (44 : Int32)) hx hb dX11_read_118 (by decide) ?_
                refine lv_icmp_eq (tgt := 125) hx hb dX11_read_120 (by decide) (fun c120 => ?_) (fun c120 => ?_)
                · have he := he.trans (if_pos c120)
                  have d120 := i_eq c120
                  refine lv_iinc (v := ((x1_4 + (2 : Int32)) + (1 : Int32))) (lv' := [(1, .int ((x1_4 + (2 : Int32)) + (1 : Int32))), (0, .ref (a 0))]) hx hb dX11_read_125 hl (k := 0) rfl rfl (by decide) rfl (fun ls hl => ?_)
                  have s125 := i_s1 (x := (x1_4 + (2 : Int32))) (by omega)
                  refine lv_goto (tgt := 12) hx hb dX11_read_128 (by decide) ?_
                  exact ih_L12_1 (0 : Int32) (newBranches_3 + (1 : Int32)) ((x1_4 + (2 : Int32)) + (1 : Int32)) (by omega) (by omega) (by omega) he _ _ _ hX (lv_sub hl [1, 0] rfl)
                · have he := he.trans (if_neg c120)
                  have d120 := i_ne c120
                  refine lv_iload_n hx hb dX11_read_123 rfl (lv_at hl 0 rfl) ?_
                  subst he
                  exact g_iret hx hb hr hlocks hX hq rfl dX11_read_124
            · have he := he.trans (if_pos c93)
              have d93 := i_eq c93
              refine lv_iconst (v := (1 : Int32)) hx hb dX11_read_96 (by decide) ?_
              refine lv_goto (tgt := 101) hx hb dX11_read_97 (by decide) ?_
              refine va_put (D := D) (ci := 11) (v := .int (1 : Int32)) (ty := .boolean) (C := RX11) (T := TX11) (N := 34) hx hb hts hi_X11 tyX11 tyX11_ok nmX11 hown hS.1 hX.1 hX.2.1 hX.2.2 0 rfl rfl 14 (by decide) l_fieldLink_65 (fun _ h9 => h9) rfl (by decide +kernel) rfl rfl (Nat.le_of_ble_eq_true rfl) dX11_read_101 (fun H locs hP hD hs => ?_)
              have hX : gX D Z s (wM a cA hedges branches stand turn cuts asks seen pageLength (1 : Int32) (newBranches_3 + (1 : Int32)) gameCuts isKept keptHedge keptStand keptTurn keptCuts keptSeen seedNow hsh kindOf onOf seenBranch seenBegins seenWins page winner lasting worthBy wonBy keptKind keptBranch keptBegins keptWins partsBy) H locs := ⟨hP, hD, hs⟩
              refine lv_aload_n hx hb dX11_read_104 rfl (lv_at hl 1 rfl) ?_
              refine va_get (D := D) (ci := 11) (v := .int (newBranches_3 + (1 : Int32))) (C := RX11) (T := TX11) (N := 34) hx hb hts hi_X11 hown hS.1 hX.1 0 rfl rfl 15 (by decide) l_fieldLink_69 (fun _ h9 => h9) rfl dX11_read_105 ?_
              refine lv_bipush (v := (8 : Int32)) hx hb dX11_read_108 (by decide) ?_
              refine lv_icmp_eq (tgt := 123) hx hb dX11_read_110 (by decide) (fun c110 => ?_) (fun c110 => ?_)
              · have he := he.trans (if_pos c110)
                have d110 := i_eq c110
                refine lv_iload_n hx hb dX11_read_123 rfl (lv_at hl 0 rfl) ?_
                subst he
                exact g_iret hx hb hr hlocks hX hq rfl dX11_read_124
              · have he := he.trans (if_neg c110)
                have d110 := i_ne c110
                refine lv_aload_n hx hb dX11_read_113 rfl (lv_at hl 1 rfl) ?_
                refine lv_iload_n hx hb dX11_read_114 rfl (lv_at hl 0 rfl) ?_
                obtain ⟨r_9, e115⟩ : ∃ z, z = (f_X11_at pageLength page (x1_4 + (2 : Int32))) := ⟨_, rfl⟩
                rw [← e115] at he
                refine g_Vi (r := r_9) (As := [.int (x1_4 + (2 : Int32))]) (rest := []) (ci := 11) (q0 := 0) ⟨hx, hb, hml, hown, hts⟩ hS hX (k_X11_at (x1_4 + (2 : Int32)) (by omega) (by omega) r_9 e115) (cwV 1 hts gX11_read_X11_at rfl rfl rfl (by decide +kernel) ⟨Nat.le_of_ble_eq_true rfl, Nat.le_of_ble_eq_true rfl⟩) rfl rfl rfl hl.1 rfl (Nat.le_of_ble_eq_true rfl) dX11_read_115 ⟨Nat.zero_le _, Nat.zero_le _⟩ (fun H locs hX => ?_)
                refine lv_bipush (v := (44 : Int32)) hx hb dX11_read_118 (by decide) ?_
                refine lv_icmp_eq (tgt := 125) hx hb dX11_read_120 (by decide) (fun c120 => ?_) (fun c120 => ?_)
                · have he := he.trans (if_pos c120)
                  have d120 := i_eq c120
                  refine lv_iinc (v := ((x1_4 + (2 : Int32)) + (1 : Int32))) (lv' := [(1, .int ((x1_4 + (2 : Int32)) + (1 : Int32))), (0, .ref (a 0))]) hx hb dX11_read_125 hl (k := 0) rfl rfl (by decide) rfl (fun ls hl => ?_)
                  have s125 := i_s1 (x := (x1_4 + (2 : Int32))) (by omega)
                  refine lv_goto (tgt := 12) hx hb dX11_read_128 (by decide) ?_
                  exact ih_L12_1 (1 : Int32) (newBranches_3 + (1 : Int32)) ((x1_4 + (2 : Int32)) + (1 : Int32)) (by omega) (by omega) (by omega) he _ _ _ hX (lv_sub hl [1, 0] rfl)
                · have he := he.trans (if_neg c120)
                  have d120 := i_ne c120
                  refine lv_iload_n hx hb dX11_read_123 rfl (lv_at hl 0 rfl) ?_
                  subst he
                  exact g_iret hx hb hr hlocks hX hq rfl dX11_read_124
          · have he := he.trans (if_neg c44)
            have d44 := i_ne c44
            refine lv_aload_n hx hb dX11_read_47 rfl (lv_at hl 0 rfl) ?_
            refine lv_iload_n hx hb dX11_read_48 rfl (lv_at hl 1 rfl) ?_
            refine lv_iconst (v := (1 : Int32)) hx hb dX11_read_49 (by decide) ?_
            refine lv_iadd hx hb dX11_read_50 ?_
            refine g_Vi (r := r_7) (As := [.int (x1_4 + (1 : Int32))]) (rest := []) (ci := 11) (q0 := 0) ⟨hx, hb, hml, hown, hts⟩ hS hX (k_X11_at (x1_4 + (1 : Int32)) (by omega) (by omega) r_7 e39) (cwV 1 hts gX11_read_X11_at rfl rfl rfl (by decide +kernel) ⟨Nat.le_of_ble_eq_true rfl, Nat.le_of_ble_eq_true rfl⟩) rfl rfl rfl hl.1 rfl (Nat.le_of_ble_eq_true rfl) dX11_read_51 ⟨Nat.zero_le _, Nat.zero_le _⟩ (fun H locs hX => ?_)
            refine lv_bipush (v := (48 : Int32)) hx hb dX11_read_54 (by decide) ?_
            refine lv_isub hx hb dX11_read_56 ?_
            refine lv_iconst (v := (0 : Int32)) hx hb dX11_read_57 (by decide) ?_
            refine lv_aload_n hx hb dX11_read_58 rfl (lv_at hl 0 rfl) ?_
            refine va_get (D := D) (ci := 11) (v := .int newBranches_3) (C := RX11) (T := TX11) (N := 34) hx hb hts hi_X11 hown hS.1 hX.1 0 rfl rfl 15 (by decide) l_fieldLink_69 (fun _ h9 => h9) rfl dX11_read_59 ?_
            refine lv_iconst (v := (1 : Int32)) hx hb dX11_read_62 (by decide) ?_
            refine lv_isub hx hb dX11_read_63 ?_
            obtain ⟨r_10, e64⟩ : ∃ z, z = (f_X11_within (r_7 - (48 : Int32)) (0 : Int32) (newBranches_3 - (1 : Int32))) := ⟨_, rfl⟩
            rw [← e64] at he
            refine g_Si (r := r_10) (As := [.int (r_7 - (48 : Int32)), .int (0 : Int32), .int (newBranches_3 - (1 : Int32))]) (rest := []) ⟨hx, hb, hml, hown, hts⟩ hS hX (k_X11_within (r_7 - (48 : Int32)) (0 : Int32) (newBranches_3 - (1 : Int32)) r_10 e64) (va_cwS 3 hts gX11_read_X11_within rfl rfl rfl (by decide +kernel) ⟨Nat.le_of_ble_eq_true rfl, Nat.le_of_ble_eq_true rfl⟩) rfl hl.1 rfl (Nat.le_of_ble_eq_true rfl) dX11_read_64 ⟨Nat.zero_le _, Nat.zero_le _⟩ (fun H locs hX => ?_)
            have k64_0 : (r_10).toInt = 0 ∨ ((r_10).toInt = 1 ∧ ((0 : Int32)).toInt ≤ ((r_7 - (48 : Int32))).toInt ∧ ((r_7 - (48 : Int32))).toInt ≤ ((newBranches_3 - (1 : Int32))).toInt) := by rw [e64]; exact r_within
            refine lv_if_ne (tgt := 74) hx hb dX11_read_67 (by decide) (fun c67 => ?_) (fun c67 => ?_)
            · have he := he.trans (if_neg c67)
              have d67 := i_ne c67
              refine lv_aload_n hx hb dX11_read_74 rfl (lv_at hl 0 rfl) ?_
              refine lv_dup hx hb dX11_read_75 rfl ?_
              refine va_get (D := D) (ci := 11) (v := .int newBranches_3) (C := RX11) (T := TX11) (N := 34) hx hb hts hi_X11 hown hS.1 hX.1 0 rfl rfl 15 (by decide) l_fieldLink_69 (fun _ h9 => h9) rfl dX11_read_76 ?_
              refine lv_iconst (v := (1 : Int32)) hx hb dX11_read_79 (by decide) ?_
              refine lv_iadd hx hb dX11_read_80 ?_
              have g81 := i_s1 (x := newBranches_3) (by omega)
              refine va_put (D := D) (ci := 11) (v := .int (newBranches_3 + (1 : Int32))) (ty := .int) (C := RX11) (T := TX11) (N := 34) hx hb hts hi_X11 tyX11 tyX11_ok nmX11 hown hS.1 hX.1 hX.2.1 hX.2.2 0 rfl rfl 15 (by decide) l_fieldLink_69 (fun _ h9 => h9) rfl (by decide +kernel) rfl rfl (Nat.le_of_ble_eq_true rfl) dX11_read_81 (fun H locs hP hD hs => ?_)
              have hX : gX D Z s (wM a cA hedges branches stand turn cuts asks seen pageLength isWhole_2 (newBranches_3 + (1 : Int32)) gameCuts isKept keptHedge keptStand keptTurn keptCuts keptSeen seedNow hsh kindOf onOf seenBranch seenBegins seenWins page winner lasting worthBy wonBy keptKind keptBranch keptBegins keptWins partsBy) H locs := ⟨hP, hD, hs⟩
              have g84 := i_add (x := x1_4) (y := (2 : Int32)) (by omega) (by omega)
              refine lv_iinc (v := (x1_4 + (2 : Int32))) (lv' := [(1, .int (x1_4 + (2 : Int32))), (0, .ref (a 0))]) hx hb dX11_read_84 hl (k := 1) rfl rfl (by decide) rfl (fun ls hl => ?_)
              refine lv_aload_n hx hb dX11_read_87 rfl (lv_at hl 1 rfl) ?_
              refine lv_iload_n hx hb dX11_read_88 rfl (lv_at hl 0 rfl) ?_
              refine lv_aload_n hx hb dX11_read_89 rfl (lv_at hl 1 rfl) ?_
              refine va_get (D := D) (ci := 11) (v := .int pageLength) (C := RX11) (T := TX11) (N := 34) hx hb hts hi_X11 hown hS.1 hX.1 0 rfl rfl 12 (by decide) l_fieldLink_61 (fun _ h9 => h9) rfl dX11_read_90 ?_
              refine lv_icmp_ne (tgt := 100) hx hb dX11_read_93 (by decide) (fun c93 => ?_) (fun c93 => ?_)
              · have he := he.trans (if_neg c93)
                have d93 := i_ne c93
                refine lv_iconst (v := (0 : Int32)) hx hb dX11_read_100 (by decide) ?_
                refine va_put (D := D) (ci := 11) (v := .int (0 : Int32)) (ty := .boolean) (C := RX11) (T := TX11) (N := 34) hx hb hts hi_X11 tyX11 tyX11_ok nmX11 hown hS.1 hX.1 hX.2.1 hX.2.2 0 rfl rfl 14 (by decide) l_fieldLink_65 (fun _ h9 => h9) rfl (by decide +kernel) rfl rfl (Nat.le_of_ble_eq_true rfl) dX11_read_101 (fun H locs hP hD hs => ?_)
                have hX : gX D Z s (wM a cA hedges branches stand turn cuts asks seen pageLength (0 : Int32) (newBranches_3 + (1 : Int32)) gameCuts isKept keptHedge keptStand keptTurn keptCuts keptSeen seedNow hsh kindOf onOf seenBranch seenBegins seenWins page winner lasting worthBy wonBy keptKind keptBranch keptBegins keptWins partsBy) H locs := ⟨hP, hD, hs⟩
                refine lv_aload_n hx hb dX11_read_104 rfl (lv_at hl 1 rfl) ?_
                refine va_get (D := D) (ci := 11) (v := .int (newBranches_3 + (1 : Int32))) (C := RX11) (T := TX11) (N := 34) hx hb hts hi_X11 hown hS.1 hX.1 0 rfl rfl 15 (by decide) l_fieldLink_69 (fun _ h9 => h9) rfl dX11_read_105 ?_
                refine lv_bipush (v := (8 : Int32)) hx hb dX11_read_108 (by decide) ?_
                refine lv_icmp_eq (tgt := 123) hx hb dX11_read_110 (by decide) (fun c110 => ?_) (fun c110 => ?_)
                · have he := he.trans (if_pos c110)
                  have d110 := i_eq c110
                  refine lv_iload_n hx hb dX11_read_123 rfl (lv_at hl 0 rfl) ?_
                  subst he
                  exact g_iret hx hb hr hlocks hX hq rfl dX11_read_124
                · have he := he.trans (if_neg c110)
                  have d110 := i_ne c110
                  refine lv_aload_n hx hb dX11_read_113 rfl (lv_at hl 1 rfl) ?_
                  refine lv_iload_n hx hb dX11_read_114 rfl (lv_at hl 0 rfl) ?_
                  obtain ⟨r_11, e115⟩ : ∃ z, z = (f_X11_at pageLength page (x1_4 + (2 : Int32))) := ⟨_, rfl⟩
                  rw [← e115] at he
                  refine g_Vi (r := r_11) (As := [.int (x1_4 + (2 : Int32))]) (rest := []) (ci := 11) (q0 := 0) ⟨hx, hb, hml, hown, hts⟩ hS hX (k_X11_at (x1_4 + (2 : Int32)) (by omega) (by omega) r_11 e115) (cwV 1 hts gX11_read_X11_at rfl rfl rfl (by decide +kernel) ⟨Nat.le_of_ble_eq_true rfl, Nat.le_of_ble_eq_true rfl⟩) rfl rfl rfl hl.1 rfl (Nat.le_of_ble_eq_true rfl) dX11_read_115 ⟨Nat.zero_le _, Nat.zero_le _⟩ (fun H locs hX => ?_)
                  refine lv_bipush (v := (44 : Int32)) hx hb dX11_read_118 (by decide) ?_
                  refine lv_icmp_eq (tgt := 125) hx hb dX11_read_120 (by decide) (fun c120 => ?_) (fun c120 => ?_)
                  · have he := he.trans (if_pos c120)
                    have d120 := i_eq c120
                    refine lv_iinc (v := ((x1_4 + (2 : Int32)) + (1 : Int32))) (lv' := [(1, .int ((x1_4 + (2 : Int32)) + (1 : Int32))), (0, .ref (a 0))]) hx hb dX11_read_125 hl (k := 0) rfl rfl (by decide) rfl (fun ls hl => ?_)
                    have s125 := i_s1 (x := (x1_4 + (2 : Int32))) (by omega)
                    refine lv_goto (tgt := 12) hx hb dX11_read_128 (by decide) ?_
                    exact ih_L12_1 (0 : Int32) (newBranches_3 + (1 : Int32)) ((x1_4 + (2 : Int32)) + (1 : Int32)) (by omega) (by omega) (by omega) he _ _ _ hX (lv_sub hl [1, 0] rfl)
                  · have he := he.trans (if_neg c120)
                    have d120 := i_ne c120
                    refine lv_iload_n hx hb dX11_read_123 rfl (lv_at hl 0 rfl) ?_
                    subst he
                    exact g_iret hx hb hr hlocks hX hq rfl dX11_read_124
              · have he := he.trans (if_pos c93)
                have d93 := i_eq c93
                refine lv_iconst (v := (1 : Int32)) hx hb dX11_read_96 (by decide) ?_
                refine lv_goto (tgt := 101) hx hb dX11_read_97 (by decide) ?_
                refine va_put (D := D) (ci := 11) (v := .int (1 : Int32)) (ty := .boolean) (C := RX11) (T := TX11) (N := 34) hx hb hts hi_X11 tyX11 tyX11_ok nmX11 hown hS.1 hX.1 hX.2.1 hX.2.2 0 rfl rfl 14 (by decide) l_fieldLink_65 (fun _ h9 => h9) rfl (by decide +kernel) rfl rfl (Nat.le_of_ble_eq_true rfl) dX11_read_101 (fun H locs hP hD hs => ?_)
                have hX : gX D Z s (wM a cA hedges branches stand turn cuts asks seen pageLength (1 : Int32) (newBranches_3 + (1 : Int32)) gameCuts isKept keptHedge keptStand keptTurn keptCuts keptSeen seedNow hsh kindOf onOf seenBranch seenBegins seenWins page winner lasting worthBy wonBy keptKind keptBranch keptBegins keptWins partsBy) H locs := ⟨hP, hD, hs⟩
                refine lv_aload_n hx hb dX11_read_104 rfl (lv_at hl 1 rfl) ?_
                refine va_get (D := D) (ci := 11) (v := .int (newBranches_3 + (1 : Int32))) (C := RX11) (T := TX11) (N := 34) hx hb hts hi_X11 hown hS.1 hX.1 0 rfl rfl 15 (by decide) l_fieldLink_69 (fun _ h9 => h9) rfl dX11_read_105 ?_
                refine lv_bipush (v := (8 : Int32)) hx hb dX11_read_108 (by decide) ?_
                refine lv_icmp_eq (tgt := 123) hx hb dX11_read_110 (by decide) (fun c110 => ?_) (fun c110 => ?_)
                · have he := he.trans (if_pos c110)
                  have d110 := i_eq c110
                  refine lv_iload_n hx hb dX11_read_123 rfl (lv_at hl 0 rfl) ?_
                  subst he
                  exact g_iret hx hb hr hlocks hX hq rfl dX11_read_124
                · have he := he.trans (if_neg c110)
                  have d110 := i_ne c110
                  refine lv_aload_n hx hb dX11_read_113 rfl (lv_at hl 1 rfl) ?_
                  refine lv_iload_n hx hb dX11_read_114 rfl (lv_at hl 0 rfl) ?_
                  obtain ⟨r_12, e115⟩ : ∃ z, z = (f_X11_at pageLength page (x1_4 + (2 : Int32))) := ⟨_, rfl⟩
                  rw [← e115] at he
                  refine g_Vi (r := r_12) (As := [.int (x1_4 + (2 : Int32))]) (rest := []) (ci := 11) (q0 := 0) ⟨hx, hb, hml, hown, hts⟩ hS hX (k_X11_at (x1_4 + (2 : Int32)) (by omega) (by omega) r_12 e115) (cwV 1 hts gX11_read_X11_at rfl rfl rfl (by decide +kernel) ⟨Nat.le_of_ble_eq_true rfl, Nat.le_of_ble_eq_true rfl⟩) rfl rfl rfl hl.1 rfl (Nat.le_of_ble_eq_true rfl) dX11_read_115 ⟨Nat.zero_le _, Nat.zero_le _⟩ (fun H locs hX => ?_)
                  refine lv_bipush (v := (44 : Int32)) hx hb dX11_read_118 (by decide) ?_
                  refine lv_icmp_eq (tgt := 125) hx hb dX11_read_120 (by decide) (fun c120 => ?_) (fun c120 => ?_)
                  · have he := he.trans (if_pos c120)
                    have d120 := i_eq c120
                    refine lv_iinc (v := ((x1_4 + (2 : Int32)) + (1 : Int32))) (lv' := [(1, .int ((x1_4 + (2 : Int32)) + (1 : Int32))), (0, .ref (a 0))]) hx hb dX11_read_125 hl (k := 0) rfl rfl (by decide) rfl (fun ls hl => ?_)
                    have s125 := i_s1 (x := (x1_4 + (2 : Int32))) (by omega)
                    refine lv_goto (tgt := 12) hx hb dX11_read_128 (by decide) ?_
                    exact ih_L12_1 (1 : Int32) (newBranches_3 + (1 : Int32)) ((x1_4 + (2 : Int32)) + (1 : Int32)) (by omega) (by omega) (by omega) he _ _ _ hX (lv_sub hl [1, 0] rfl)
                  · have he := he.trans (if_neg c120)
                    have d120 := i_ne c120
                    refine lv_iload_n hx hb dX11_read_123 rfl (lv_at hl 0 rfl) ?_
                    subst he
                    exact g_iret hx hb hr hlocks hX hq rfl dX11_read_124
            · have he := he.trans (if_pos c67)
              have d67 := i_eq c67
              refine lv_iload_n hx hb dX11_read_70 rfl (lv_at hl 1 rfl) ?_
              refine lv_iconst (v := (1 : Int32)) hx hb dX11_read_71 (by decide) ?_
              refine lv_iadd hx hb dX11_read_72 ?_
              subst he
              exact g_iret hx hb hr hlocks hX hq rfl dX11_read_73
        · have he := he.trans (if_pos c30)
          have d30 := i_eq c30
          refine lv_iload_n hx hb dX11_read_33 rfl (lv_at hl 1 rfl) ?_
          subst he
          exact g_iret hx hb hr hlocks hX hq rfl dX11_read_34
  exact L12_1 10 (0 : Int32) (0 : Int32) (0 : Int32) (by omega) (by omega) (by omega) he _ _ _ hX (lv_sub hl [1, 0] rfl)
abbrev rm_X11_fault : Room := { frames := 2, cells := 0, slots := 0, locals := 43 }
set_option maxHeartbeats 4000000 in
set_option maxRecDepth 100000 in
theorem k_X11_fault {l : Launch} {D : va_G} {E : sE} {a : Nat → Nat} {cA : Nat → ClassId} {hedges : Int32} {branches : Int32} {stand : Int32} {turn : Int32} {cuts : Int32} {asks : Int32} {seen : Int32} {pageLength : Int32} {isWhole : Int32} {newBranches : Int32} {gameCuts : Int32} {isKept : Int32} {keptHedge : Int32} {keptStand : Int32} {keptTurn : Int32} {keptCuts : Int32} {keptSeen : Int32} {seedNow : Int64} {hsh : Int64} {kindOf : Nat → Int32} {onOf : Nat → Int32} {seenBranch : Nat → Int32} {seenBegins : Nat → Int32} {seenWins : Nat → Int32} {page : Nat → Int32} {winner : Nat → Int32} {lasting : Nat → Int32} {worthBy : Nat → Int32} {wonBy : Nat → Int32} {keptKind : Nat → Int32} {keptBranch : Nat → Int32} {keptBegins : Nat → Int32} {keptWins : Nat → Int32} {partsBy : Nat → Int64}  (hpl : 0 ≤ (pageLength).toInt ∧ (pageLength).toInt ≤ 26) : ∀ q : Int32 × Int32 × Int32, q = f_X11_fault pageLength isWhole newBranches page → gMi l yX11_fault wsX11_fault rm_X11_fault D E (tM cA) [.ref (a 0)] (wM a cA hedges branches stand turn cuts asks seen pageLength isWhole newBranches gameCuts isKept keptHedge keptStand keptTurn keptCuts keptSeen seedNow hsh kindOf onOf seenBranch seenBegins seenWins page winner lasting worthBy wonBy keptKind keptBranch keptBegins keptWins partsBy) (wM a cA hedges branches stand turn cuts asks seen pageLength q.2.1 q.2.2 gameCuts isKept keptHedge keptStand keptTurn keptCuts keptSeen seedNow hsh kindOf onOf seenBranch seenBegins seenWins page winner lasting worthBy wonBy keptKind keptBranch keptBegins keptWins partsBy) q.1 := by
  intro q he0
  refine gM_of (cc := cX11_fault) (maxL := 1) (ret := (some .int)) (Qf := gQi D (wM a cA hedges branches stand turn cuts asks seen pageLength q.2.1 q.2.2 gameCuts isKept keptHedge keptStand keptTurn keptCuts keptSeen seedNow hsh kindOf onOf seenBranch seenBegins seenWins page winner lasting worthBy wonBy keptKind keptBranch keptBegins keptWins partsBy) q.1) (by decide) rfl (Nat.le_of_ble_eq_true rfl) ?_
  intro p e s m args below meth c Z ls Qz hx hb hr hml hlocks hown hts hS hX hl hq
  have he := he0.trans f_X11_fault_s
  have hown : s.vm.findClass RX11 = some m.cls := hown
  have hl : lv_has ls 1 [(0, .ref (a 0))] := hl
  have t0 : ((0 : Int32)).toInt = 0 := rfl
  have t1 : ((1 : Int32)).toInt = 1 := rfl
  refine lv_aload_n hx hb dX11_fault_0 rfl (lv_at hl 0 rfl) ?_
  obtain ⟨z_1, e1⟩ : ∃ z, z = (f_X11_read pageLength isWhole newBranches page) := ⟨_, rfl⟩
  rw [← e1] at he
  try dsimp only at he
  refine g_Vi (r := z_1.1) (w2 := (wM a cA hedges branches stand turn cuts asks seen pageLength z_1.2.1 z_1.2.2 gameCuts isKept keptHedge keptStand keptTurn keptCuts keptSeen seedNow hsh kindOf onOf seenBranch seenBegins seenWins page winner lasting worthBy wonBy keptKind keptBranch keptBegins keptWins partsBy)) (As := []) (rest := []) (ci := 11) (q0 := 0) ⟨hx, hb, hml, hown, hts⟩ hS hX (k_X11_read (by omega) z_1 e1) (cwV 0 hts gX11_fault_X11_read rfl rfl rfl (by decide +kernel) ⟨Nat.le_of_ble_eq_true rfl, Nat.le_of_ble_eq_true rfl⟩) rfl rfl rfl hl.1 rfl (Nat.le_of_ble_eq_true rfl) dX11_fault_1 ⟨Nat.zero_le _, Nat.zero_le _⟩ (fun H locs hX => ?_)
  have k1_0 : 0 ≤ (z_1.2.2).toInt ∧ (z_1.2.2).toInt ≤ 8 := r_read e1
  subst he
  exact g_iret hx hb hr hlocks hX hq rfl dX11_fault_4
abbrev rm_X11_hedge : Room := { frames := 2, cells := 0, slots := 0, locals := 43 }
set_option maxHeartbeats 4000000 in
set_option maxRecDepth 100000 in
theorem k_X11_hedge {l : Launch} {D : va_G} {E : sE} {a : Nat → Nat} {cA : Nat → ClassId} {hedges : Int32} {branches : Int32} {stand : Int32} {turn : Int32} {cuts : Int32} {asks : Int32} {seen : Int32} {pageLength : Int32} {isWhole : Int32} {newBranches : Int32} {gameCuts : Int32} {isKept : Int32} {keptHedge : Int32} {keptStand : Int32} {keptTurn : Int32} {keptCuts : Int32} {keptSeen : Int32} {seedNow : Int64} {hsh : Int64} {kindOf : Nat → Int32} {onOf : Nat → Int32} {seenBranch : Nat → Int32} {seenBegins : Nat → Int32} {seenWins : Nat → Int32} {page : Nat → Int32} {winner : Nat → Int32} {lasting : Nat → Int32} {worthBy : Nat → Int32} {wonBy : Nat → Int32} {keptKind : Nat → Int32} {keptBranch : Nat → Int32} {keptBegins : Nat → Int32} {keptWins : Nat → Int32} {partsBy : Nat → Int64}  (hpl : 0 ≤ (pageLength).toInt ∧ (pageLength).toInt ≤ 26) : ∀ q : Int32 × Int32 × Int32 × Int32 × Int32 × Int32 × Int32 × Int32 × Int32 × Int32 × (Nat → Int32) × (Nat → Int32), q = f_X11_hedge hedges branches stand turn cuts seen pageLength isWhole newBranches kindOf onOf page → gMi l yX11_hedge wsX11_hedge rm_X11_hedge D E (tM cA) [.ref (a 0)] (wM a cA hedges branches stand turn cuts asks seen pageLength isWhole newBranches gameCuts isKept keptHedge keptStand keptTurn keptCuts keptSeen seedNow hsh kindOf onOf seenBranch seenBegins seenWins page winner lasting worthBy wonBy keptKind keptBranch keptBegins keptWins partsBy) (wM a cA q.2.1 q.2.2.1 q.2.2.2.1 q.2.2.2.2.1 q.2.2.2.2.2.1 asks q.2.2.2.2.2.2.1 q.2.2.2.2.2.2.2.1 q.2.2.2.2.2.2.2.2.1 q.2.2.2.2.2.2.2.2.2.1 gameCuts isKept keptHedge keptStand keptTurn keptCuts keptSeen seedNow hsh q.2.2.2.2.2.2.2.2.2.2.1 q.2.2.2.2.2.2.2.2.2.2.2 seenBranch seenBegins seenWins page winner lasting worthBy wonBy keptKind keptBranch keptBegins keptWins partsBy) q.1 := by
  intro q he0
  refine gM_of (cc := cX11_hedge) (maxL := 2) (ret := (some .int)) (Qf := gQi D (wM a cA q.2.1 q.2.2.1 q.2.2.2.1 q.2.2.2.2.1 q.2.2.2.2.2.1 asks q.2.2.2.2.2.2.1 q.2.2.2.2.2.2.2.1 q.2.2.2.2.2.2.2.2.1 q.2.2.2.2.2.2.2.2.2.1 gameCuts isKept keptHedge keptStand keptTurn keptCuts keptSeen seedNow hsh q.2.2.2.2.2.2.2.2.2.2.1 q.2.2.2.2.2.2.2.2.2.2.2 seenBranch seenBegins seenWins page winner lasting worthBy wonBy keptKind keptBranch keptBegins keptWins partsBy) q.1) (by decide) rfl (Nat.le_of_ble_eq_true rfl) ?_
  intro p e s m args below meth c Z ls Qz hx hb hr hml hlocks hown hts hS hX hl hq
  have he := he0.trans f_X11_hedge_s
  have hown : s.vm.findClass RX11 = some m.cls := hown
  have hl : lv_has ls 2 [(0, .ref (a 0))] := hl
  have hi_X11 : ∀ w ∈ u_ws RX11 TX11 34, w ∈ wsX11_hedge := fun _ h => List.mem_cons_of_mem _ (List.mem_append_right _ h)
  have l_fieldLink_13 := hts (Cond.fieldLink RX11 13 "HedgeGameModel" "onOf" "[I") (List.mem_of_getElem? (i := 6) rfl)
  have l_fieldLink_25 := hts (Cond.fieldLink RX11 25 "HedgeGameModel" "page" "[B") (List.mem_of_getElem? (i := 5) rfl)
  have l_fieldLink_61 := hts (Cond.fieldLink RX11 61 "HedgeGameModel" "pageLength" "I") (List.mem_of_getElem? (i := 12) rfl)
  have l_fieldLink_65 := hts (Cond.fieldLink RX11 65 "HedgeGameModel" "isWhole" "Z") (List.mem_of_getElem? (i := 1) rfl)
  have l_fieldLink_69 := hts (Cond.fieldLink RX11 69 "HedgeGameModel" "newBranches" "I") (List.mem_of_getElem? (i := 2) rfl)
  have l_fieldLink_7 := hts (Cond.fieldLink RX11 7 "HedgeGameModel" "kindOf" "[I") (List.mem_of_getElem? (i := 4) rfl)
  have l_fieldLink_83 := hts (Cond.fieldLink RX11 83 "HedgeGameModel" "branches" "I") (List.mem_of_getElem? (i := 3) rfl)
  have l_fieldLink_86 := hts (Cond.fieldLink RX11 86 "HedgeGameModel" "stand" "I") (List.mem_of_getElem? (i := 7) rfl)
  have l_fieldLink_89 := hts (Cond.fieldLink RX11 89 "HedgeGameModel" "turn" "I") (List.mem_of_getElem? (i := 8) rfl)
  have l_fieldLink_92 := hts (Cond.fieldLink RX11 92 "HedgeGameModel" "cuts" "I") (List.mem_of_getElem? (i := 9) rfl)
  have l_fieldLink_95 := hts (Cond.fieldLink RX11 95 "HedgeGameModel" "hedges" "I") (List.mem_of_getElem? (i := 10) rfl)
  have l_fieldLink_98 := hts (Cond.fieldLink RX11 98 "HedgeGameModel" "seen" "I") (List.mem_of_getElem? (i := 11) rfl)
  have tm103 : ((-103 : Int32)).toInt = -103 := rfl
  have tm1 : ((-1 : Int32)).toInt = -1 := rfl
  have t0 : ((0 : Int32)).toInt = 0 := rfl
  have t1 : ((1 : Int32)).toInt = 1 := rfl
  have t3 : ((3 : Int32)).toInt = 3 := rfl
  have t45 : ((45 : Int32)).toInt = 45 := rfl
  have t48 : ((48 : Int32)).toInt = 48 := rfl
  refine lv_aload_n hx hb dX11_hedge_0 rfl (lv_at hl 0 rfl) ?_
  obtain ⟨z_1, e1⟩ : ∃ z, z = (f_X11_read pageLength isWhole newBranches page) := ⟨_, rfl⟩
  rw [← e1] at he
  try dsimp only at he
  refine g_Vi (r := z_1.1) (w2 := (wM a cA hedges branches stand turn cuts asks seen pageLength z_1.2.1 z_1.2.2 gameCuts isKept keptHedge keptStand keptTurn keptCuts keptSeen seedNow hsh kindOf onOf seenBranch seenBegins seenWins page winner lasting worthBy wonBy keptKind keptBranch keptBegins keptWins partsBy)) (As := []) (rest := []) (ci := 11) (q0 := 0) ⟨hx, hb, hml, hown, hts⟩ hS hX (k_X11_read (by omega) z_1 e1) (cwV 0 hts gX11_hedge_X11_read rfl rfl rfl (by decide +kernel) ⟨Nat.le_of_ble_eq_true rfl, Nat.le_of_ble_eq_true rfl⟩) rfl rfl rfl hl.1 rfl (Nat.le_of_ble_eq_true rfl) dX11_hedge_1 ⟨Nat.zero_le _, Nat.zero_le _⟩ (fun H locs hX => ?_)
  have k1_0 : 0 ≤ (z_1.2.2).toInt ∧ (z_1.2.2).toInt ≤ 8 := r_read e1
  refine lv_pop hx hb dX11_hedge_4 rfl ?_
  refine lv_aload_n hx hb dX11_hedge_5 rfl (lv_at hl 0 rfl) ?_
  refine va_get (D := D) (ci := 11) (v := .int z_1.2.1) (C := RX11) (T := TX11) (N := 34) hx hb hts hi_X11 hown hS.1 hX.1 0 rfl rfl 14 (by decide) l_fieldLink_65 (fun _ h9 => h9) rfl dX11_hedge_6 ?_
  refine lv_if_ne (tgt := 15) hx hb dX11_hedge_9 (by decide) (fun c9 => ?_) (fun c9 => ?_)
  · have he := he.trans (if_neg c9)
    have d9 := i_ne c9
    refine lv_aload_n hx hb dX11_hedge_15 rfl (lv_at hl 0 rfl) ?_
    refine lv_aload_n hx hb dX11_hedge_16 rfl (lv_at hl 0 rfl) ?_
    refine va_get (D := D) (ci := 11) (v := .int z_1.2.2) (C := RX11) (T := TX11) (N := 34) hx hb hts hi_X11 hown hS.1 hX.1 0 rfl rfl 15 (by decide) l_fieldLink_69 (fun _ h9 => h9) rfl dX11_hedge_17 ?_
    refine va_put (D := D) (ci := 11) (v := .int z_1.2.2) (ty := .int) (C := RX11) (T := TX11) (N := 34) hx hb hts hi_X11 tyX11 tyX11_ok nmX11 hown hS.1 hX.1 hX.2.1 hX.2.2 0 rfl rfl 1 (by decide) l_fieldLink_83 (fun _ h9 => h9) rfl (by decide +kernel) rfl rfl (Nat.le_of_ble_eq_true rfl) dX11_hedge_20 (fun H locs hP hD hs => ?_)
    have hX : gX D Z s (wM a cA hedges z_1.2.2 stand turn cuts asks seen pageLength z_1.2.1 z_1.2.2 gameCuts isKept keptHedge keptStand keptTurn keptCuts keptSeen seedNow hsh kindOf onOf seenBranch seenBegins seenWins page winner lasting worthBy wonBy keptKind keptBranch keptBegins keptWins partsBy) H locs := ⟨hP, hD, hs⟩
    refine lv_iconst (v := (0 : Int32)) hx hb dX11_hedge_23 (by decide) ?_
    refine lv_istore_n (lv' := [(1, .int (0 : Int32)), (0, .ref (a 0))]) hx hb dX11_hedge_24 rfl hl (by decide) rfl (fun ls hl => ?_)
    have L25_2 : ∀ (n_25_2 : Nat) (kindOf_3 : Nat → Int32) (onOf_4 : Nat → Int32) (x1_5 : Int32), 0 ≤ (x1_5).toInt ∧ (x1_5).toInt ≤ 8 → 8 - (x1_5).toInt < (n_25_2 : Int) → q = f_X11_hedge_L25 n_25_2 hedges z_1.2.2 stand turn cuts seen pageLength z_1.2.1 z_1.2.2 kindOf_3 onOf_4 page x1_5 → ∀ (H : Heap) (locs : List Loc) (ls : Array Slot), gX D Z s (wM a cA hedges z_1.2.2 stand turn cuts asks seen pageLength z_1.2.1 z_1.2.2 gameCuts isKept keptHedge keptStand keptTurn keptCuts keptSeen seedNow hsh kindOf_3 onOf_4 seenBranch seenBegins seenWins page winner lasting worthBy wonBy keptKind keptBranch keptBegins keptWins partsBy) H locs → lv_has ls 2 [(0, .ref (a 0)), (1, .int x1_5)] → W p l e rm_X11_hedge s m args below meth c H locs 0 0 Qz (F0 m 25 ls []) := by
      intro n_25_2
      induction n_25_2 with
      | zero =>
        intro kindOf_3 onOf_4 x1_5 ia ifu _ _ _ _ _ _
        exfalso; omega
      | succ n_25_2 ih_L25_2 =>
        intro kindOf_3 onOf_4 x1_5 ia ifu he H locs ls hX hl
        have he := he.trans f_X11_hedge_L25_s
        refine lv_iload_n hx hb dX11_hedge_25 rfl (lv_at hl 1 rfl) ?_
        refine lv_aload_n hx hb dX11_hedge_26 rfl (lv_at hl 0 rfl) ?_
        refine va_get (D := D) (ci := 11) (v := .int z_1.2.2) (C := RX11) (T := TX11) (N := 34) hx hb hts hi_X11 hown hS.1 hX.1 0 rfl rfl 1 (by decide) l_fieldLink_83 (fun _ h9 => h9) rfl dX11_hedge_27 ?_
        refine lv_icmp_ge (tgt := 94) hx hb dX11_hedge_30 (by decide) (fun c30 => ?_) (fun c30 => ?_)
        · have he := he.trans (if_pos c30)
          have d30 := i_le c30
          refine lv_aload_n hx hb dX11_hedge_94 rfl (lv_at hl 0 rfl) ?_
          refine lv_iconst (v := (1 : Int32)) hx hb dX11_hedge_95 (by decide) ?_
          refine lv_aload_n hx hb dX11_hedge_96 rfl (lv_at hl 0 rfl) ?_
          refine va_get (D := D) (ci := 11) (v := .int z_1.2.2) (C := RX11) (T := TX11) (N := 34) hx hb hts hi_X11 hown hS.1 hX.1 0 rfl rfl 1 (by decide) l_fieldLink_83 (fun _ h9 => h9) rfl dX11_hedge_97 ?_
          refine lv_ishl hx hb dX11_hedge_100 ?_
          refine lv_iconst (v := (1 : Int32)) hx hb dX11_hedge_101 (by decide) ?_
          refine lv_isub hx hb dX11_hedge_102 ?_
          refine va_put (D := D) (ci := 11) (v := .int (((1 : Int32) <<< (z_1.2.2 &&& 31)) - (1 : Int32))) (ty := .int) (C := RX11) (T := TX11) (N := 34) hx hb hts hi_X11 tyX11 tyX11_ok nmX11 hown hS.1 hX.1 hX.2.1 hX.2.2 0 rfl rfl 4 (by decide) l_fieldLink_86 (fun _ h9 => h9) rfl (by decide +kernel) rfl rfl (Nat.le_of_ble_eq_true rfl) dX11_hedge_103 (fun H locs hP hD hs => ?_)
          have hX : gX D Z s (wM a cA hedges z_1.2.2 (((1 : Int32) <<< (z_1.2.2 &&& 31)) - (1 : Int32)) turn cuts asks seen pageLength z_1.2.1 z_1.2.2 gameCuts isKept keptHedge keptStand keptTurn keptCuts keptSeen seedNow hsh kindOf_3 onOf_4 seenBranch seenBegins seenWins page winner lasting worthBy wonBy keptKind keptBranch keptBegins keptWins partsBy) H locs := ⟨hP, hD, hs⟩
          refine lv_aload_n hx hb dX11_hedge_106 rfl (lv_at hl 0 rfl) ?_
          refine lv_iconst (v := (0 : Int32)) hx hb dX11_hedge_107 (by decide) ?_
          refine va_put (D := D) (ci := 11) (v := .int (0 : Int32)) (ty := .int) (C := RX11) (T := TX11) (N := 34) hx hb hts hi_X11 tyX11 tyX11_ok nmX11 hown hS.1 hX.1 hX.2.1 hX.2.2 0 rfl rfl 5 (by decide) l_fieldLink_89 (fun _ h9 => h9) rfl (by decide +kernel) rfl rfl (Nat.le_of_ble_eq_true rfl) dX11_hedge_108 (fun H locs hP hD hs => ?_)
          have hX : gX D Z s (wM a cA hedges z_1.2.2 (((1 : Int32) <<< (z_1.2.2 &&& 31)) - (1 : Int32)) (0 : Int32) cuts asks seen pageLength z_1.2.1 z_1.2.2 gameCuts isKept keptHedge keptStand keptTurn keptCuts keptSeen seedNow hsh kindOf_3 onOf_4 seenBranch seenBegins seenWins page winner lasting worthBy wonBy keptKind keptBranch keptBegins keptWins partsBy) H locs := ⟨hP, hD, hs⟩
          refine lv_aload_n hx hb dX11_hedge_111 rfl (lv_at hl 0 rfl) ?_
          refine lv_iconst (v := (0 : Int32)) hx hb dX11_hedge_112 (by decide) ?_
          refine va_put (D := D) (ci := 11) (v := .int (0 : Int32)) (ty := .int) (C := RX11) (T := TX11) (N := 34) hx hb hts hi_X11 tyX11 tyX11_ok nmX11 hown hS.1 hX.1 hX.2.1 hX.2.2 0 rfl rfl 6 (by decide) l_fieldLink_92 (fun _ h9 => h9) rfl (by decide +kernel) rfl rfl (Nat.le_of_ble_eq_true rfl) dX11_hedge_113 (fun H locs hP hD hs => ?_)
          have hX : gX D Z s (wM a cA hedges z_1.2.2 (((1 : Int32) <<< (z_1.2.2 &&& 31)) - (1 : Int32)) (0 : Int32) (0 : Int32) asks seen pageLength z_1.2.1 z_1.2.2 gameCuts isKept keptHedge keptStand keptTurn keptCuts keptSeen seedNow hsh kindOf_3 onOf_4 seenBranch seenBegins seenWins page winner lasting worthBy wonBy keptKind keptBranch keptBegins keptWins partsBy) H locs := ⟨hP, hD, hs⟩
          refine lv_aload_n hx hb dX11_hedge_116 rfl (lv_at hl 0 rfl) ?_
          refine lv_dup hx hb dX11_hedge_117 rfl ?_
          refine va_get (D := D) (ci := 11) (v := .int hedges) (C := RX11) (T := TX11) (N := 34) hx hb hts hi_X11 hown hS.1 hX.1 0 rfl rfl 0 (by decide) l_fieldLink_95 (fun _ h9 => h9) rfl dX11_hedge_118 ?_
          refine lv_iconst (v := (1 : Int32)) hx hb dX11_hedge_121 (by decide) ?_
          refine lv_iadd hx hb dX11_hedge_122 ?_
          refine va_put (D := D) (ci := 11) (v := .int (hedges + (1 : Int32))) (ty := .int) (C := RX11) (T := TX11) (N := 34) hx hb hts hi_X11 tyX11 tyX11_ok nmX11 hown hS.1 hX.1 hX.2.1 hX.2.2 0 rfl rfl 0 (by decide) l_fieldLink_95 (fun _ h9 => h9) rfl (by decide +kernel) rfl rfl (Nat.le_of_ble_eq_true rfl) dX11_hedge_123 (fun H locs hP hD hs => ?_)
          have hX : gX D Z s (wM a cA (hedges + (1 : Int32)) z_1.2.2 (((1 : Int32) <<< (z_1.2.2 &&& 31)) - (1 : Int32)) (0 : Int32) (0 : Int32) asks seen pageLength z_1.2.1 z_1.2.2 gameCuts isKept keptHedge keptStand keptTurn keptCuts keptSeen seedNow hsh kindOf_3 onOf_4 seenBranch seenBegins seenWins page winner lasting worthBy wonBy keptKind keptBranch keptBegins keptWins partsBy) H locs := ⟨hP, hD, hs⟩
          refine lv_aload_n hx hb dX11_hedge_126 rfl (lv_at hl 0 rfl) ?_
          refine lv_iconst (v := (0 : Int32)) hx hb dX11_hedge_127 (by decide) ?_
          refine va_put (D := D) (ci := 11) (v := .int (0 : Int32)) (ty := .int) (C := RX11) (T := TX11) (N := 34) hx hb hts hi_X11 tyX11 tyX11_ok nmX11 hown hS.1 hX.1 hX.2.1 hX.2.2 0 rfl rfl 8 (by decide) l_fieldLink_98 (fun _ h9 => h9) rfl (by decide +kernel) rfl rfl (Nat.le_of_ble_eq_true rfl) dX11_hedge_128 (fun H locs hP hD hs => ?_)
          have hX : gX D Z s (wM a cA (hedges + (1 : Int32)) z_1.2.2 (((1 : Int32) <<< (z_1.2.2 &&& 31)) - (1 : Int32)) (0 : Int32) (0 : Int32) asks (0 : Int32) pageLength z_1.2.1 z_1.2.2 gameCuts isKept keptHedge keptStand keptTurn keptCuts keptSeen seedNow hsh kindOf_3 onOf_4 seenBranch seenBegins seenWins page winner lasting worthBy wonBy keptKind keptBranch keptBegins keptWins partsBy) H locs := ⟨hP, hD, hs⟩
          refine lv_aload_n hx hb dX11_hedge_131 rfl (lv_at hl 0 rfl) ?_
          refine lv_iconst (v := (0 : Int32)) hx hb dX11_hedge_132 (by decide) ?_
          refine va_put (D := D) (ci := 11) (v := .int (0 : Int32)) (ty := .int) (C := RX11) (T := TX11) (N := 34) hx hb hts hi_X11 tyX11 tyX11_ok nmX11 hown hS.1 hX.1 hX.2.1 hX.2.2 0 rfl rfl 12 (by decide) l_fieldLink_61 (fun _ h9 => h9) rfl (by decide +kernel) rfl rfl (Nat.le_of_ble_eq_true rfl) dX11_hedge_133 (fun H locs hP hD hs => ?_)
          have hX : gX D Z s (wM a cA (hedges + (1 : Int32)) z_1.2.2 (((1 : Int32) <<< (z_1.2.2 &&& 31)) - (1 : Int32)) (0 : Int32) (0 : Int32) asks (0 : Int32) (0 : Int32) z_1.2.1 z_1.2.2 gameCuts isKept keptHedge keptStand keptTurn keptCuts keptSeen seedNow hsh kindOf_3 onOf_4 seenBranch seenBegins seenWins page winner lasting worthBy wonBy keptKind keptBranch keptBegins keptWins partsBy) H locs := ⟨hP, hD, hs⟩
          refine lv_aload_n hx hb dX11_hedge_136 rfl (lv_at hl 0 rfl) ?_
          refine va_get (D := D) (ci := 11) (v := .int z_1.2.2) (C := RX11) (T := TX11) (N := 34) hx hb hts hi_X11 hown hS.1 hX.1 0 rfl rfl 1 (by decide) l_fieldLink_83 (fun _ h9 => h9) rfl dX11_hedge_137 ?_
          subst he
          exact g_iret hx hb hr hlocks hX hq rfl dX11_hedge_140
        · have he := he.trans (if_neg c30)
          have d30 := i_nle c30
          refine lv_aload_n hx hb dX11_hedge_33 rfl (lv_at hl 0 rfl) ?_
          refine va_get (D := D) (ci := 11) (v := .ref (a 1)) (C := RX11) (T := TX11) (N := 34) hx hb hts hi_X11 hown hS.1 hX.1 0 rfl rfl 2 (by decide) l_fieldLink_7 (fun _ h9 => h9) rfl dX11_hedge_34 ?_
          refine lv_iload_n hx hb dX11_hedge_37 rfl (lv_at hl 1 rfl) ?_
          refine lv_aload_n hx hb dX11_hedge_38 rfl (lv_at hl 0 rfl) ?_
          refine va_get (D := D) (ci := 11) (v := .ref (a 6)) (C := RX11) (T := TX11) (N := 34) hx hb hts hi_X11 hown hS.1 hX.1 0 rfl rfl 13 (by decide) l_fieldLink_25 (fun _ h9 => h9) rfl dX11_hedge_39 ?_
          refine lv_iconst (v := (3 : Int32)) hx hb dX11_hedge_42 (by decide) ?_
          refine lv_iload_n hx hb dX11_hedge_43 rfl (lv_at hl 1 rfl) ?_
          refine lv_imul hx hb dX11_hedge_44 ?_
          refine va_bald hx hb hS.1 hX.1 6 5 rfl rfl (o_3b (by omega)) dX11_hedge_45 ?_
          obtain ⟨r_6, e46⟩ : ∃ z, z = (f_X11_kindBy (page (((3 : Int32) * x1_5)).toNatClampNeg)) := ⟨_, rfl⟩
          rw [← e46] at he
          refine g_Si (r := r_6) (As := [.int (page (((3 : Int32) * x1_5)).toNatClampNeg)]) (rest := [.int x1_5, .ref (a 1)]) ⟨hx, hb, hml, hown, hts⟩ hS hX (k_X11_kindBy (page (((3 : Int32) * x1_5)).toNatClampNeg) r_6 e46) (va_cwS 1 hts gX11_hedge_X11_kindBy rfl rfl rfl (by decide +kernel) ⟨Nat.le_of_ble_eq_true rfl, Nat.le_of_ble_eq_true rfl⟩) rfl hl.1 rfl (Nat.le_of_ble_eq_true rfl) dX11_hedge_46 ⟨Nat.zero_le _, Nat.zero_le _⟩ (fun H locs hX => ?_)
          refine va_iast hx hb hS.1 hX.1 hX.2.1 hX.2.2 1 0 rfl rfl (vp_in_iff.mpr (by omega)) dX11_hedge_49 (fun H locs hP hD hs => ?_)
          have hX : gX D Z s (wM a cA hedges z_1.2.2 stand turn cuts asks seen pageLength z_1.2.1 z_1.2.2 gameCuts isKept keptHedge keptStand keptTurn keptCuts keptSeen seedNow hsh (upd kindOf_3 (x1_5).toNatClampNeg r_6) onOf_4 seenBranch seenBegins seenWins page winner lasting worthBy wonBy keptKind keptBranch keptBegins keptWins partsBy) H locs := ⟨hP, hD, hs⟩
          refine lv_aload_n hx hb dX11_hedge_50 rfl (lv_at hl 0 rfl) ?_
          refine va_get (D := D) (ci := 11) (v := .ref (a 2)) (C := RX11) (T := TX11) (N := 34) hx hb hts hi_X11 hown hS.1 hX.1 0 rfl rfl 3 (by decide) l_fieldLink_13 (fun _ h9 => h9) rfl dX11_hedge_51 ?_
          refine lv_iload_n hx hb dX11_hedge_54 rfl (lv_at hl 1 rfl) ?_
          refine lv_aload_n hx hb dX11_hedge_55 rfl (lv_at hl 0 rfl) ?_
          refine va_get (D := D) (ci := 11) (v := .ref (a 6)) (C := RX11) (T := TX11) (N := 34) hx hb hts hi_X11 hown hS.1 hX.1 0 rfl rfl 13 (by decide) l_fieldLink_25 (fun _ h9 => h9) rfl dX11_hedge_56 ?_
          refine lv_iconst (v := (3 : Int32)) hx hb dX11_hedge_59 (by decide) ?_
          refine lv_iload_n hx hb dX11_hedge_60 rfl (lv_at hl 1 rfl) ?_
          refine lv_imul hx hb dX11_hedge_61 ?_
          refine lv_iconst (v := (1 : Int32)) hx hb dX11_hedge_62 (by decide) ?_
          refine lv_iadd hx hb dX11_hedge_63 ?_
          refine va_bald hx hb hS.1 hX.1 6 5 rfl rfl (o_3b1 (by omega)) dX11_hedge_64 ?_
          refine lv_bipush (v := (45 : Int32)) hx hb dX11_hedge_65 (by decide) ?_
          refine lv_icmp_ne (tgt := 74) hx hb dX11_hedge_67 (by decide) (fun c67 => ?_) (fun c67 => ?_)
          · have he := he.trans (if_neg c67)
            have d67 := i_ne c67
            refine lv_aload_n hx hb dX11_hedge_74 rfl (lv_at hl 0 rfl) ?_
            refine va_get (D := D) (ci := 11) (v := .ref (a 6)) (C := RX11) (T := TX11) (N := 34) hx hb hts hi_X11 hown hS.1 hX.1 0 rfl rfl 13 (by decide) l_fieldLink_25 (fun _ h9 => h9) rfl dX11_hedge_75 ?_
            refine lv_iconst (v := (3 : Int32)) hx hb dX11_hedge_78 (by decide) ?_
            refine lv_iload_n hx hb dX11_hedge_79 rfl (lv_at hl 1 rfl) ?_
            refine lv_imul hx hb dX11_hedge_80 ?_
            refine lv_iconst (v := (1 : Int32)) hx hb dX11_hedge_81 (by decide) ?_
            refine lv_iadd hx hb dX11_hedge_82 ?_
            refine va_bald hx hb hS.1 hX.1 6 5 rfl rfl (o_3b1 (by omega)) dX11_hedge_83 ?_
            refine lv_bipush (v := (48 : Int32)) hx hb dX11_hedge_84 (by decide) ?_
            refine lv_isub hx hb dX11_hedge_86 ?_
            refine va_iast hx hb hS.1 hX.1 hX.2.1 hX.2.2 2 1 rfl rfl (vp_in_iff.mpr (by omega)) dX11_hedge_87 (fun H locs hP hD hs => ?_)
            have hX : gX D Z s (wM a cA hedges z_1.2.2 stand turn cuts asks seen pageLength z_1.2.1 z_1.2.2 gameCuts isKept keptHedge keptStand keptTurn keptCuts keptSeen seedNow hsh (upd kindOf_3 (x1_5).toNatClampNeg r_6) (upd onOf_4 (x1_5).toNatClampNeg ((page ((((3 : Int32) * x1_5) + (1 : Int32))).toNatClampNeg) - (48 : Int32))) seenBranch seenBegins seenWins page winner lasting worthBy wonBy keptKind keptBranch keptBegins keptWins partsBy) H locs := ⟨hP, hD, hs⟩
            refine lv_iinc (v := (x1_5 + (1 : Int32))) (lv' := [(1, .int (x1_5 + (1 : Int32))), (0, .ref (a 0))]) hx hb dX11_hedge_88 hl (k := 1) rfl rfl (by decide) rfl (fun ls hl => ?_)
            have s88 := i_s1 (x := x1_5) (by omega)
            refine lv_goto (tgt := 25) hx hb dX11_hedge_91 (by decide) ?_
            exact ih_L25_2 (upd kindOf_3 (x1_5).toNatClampNeg r_6) (upd onOf_4 (x1_5).toNatClampNeg ((page ((((3 : Int32) * x1_5) + (1 : Int32))).toNatClampNeg) - (48 : Int32))) (x1_5 + (1 : Int32)) (by omega) (by omega) he _ _ _ hX (lv_sub hl [1, 0] rfl)
          · have he := he.trans (if_pos c67)
            have d67 := i_eq c67
            refine lv_iconst (v := (-1 : Int32)) hx hb dX11_hedge_70 (by decide) ?_
            refine lv_goto (tgt := 87) hx hb dX11_hedge_71 (by decide) ?_
            refine va_iast hx hb hS.1 hX.1 hX.2.1 hX.2.2 2 1 rfl rfl (vp_in_iff.mpr (by omega)) dX11_hedge_87 (fun H locs hP hD hs => ?_)
            have hX : gX D Z s (wM a cA hedges z_1.2.2 stand turn cuts asks seen pageLength z_1.2.1 z_1.2.2 gameCuts isKept keptHedge keptStand keptTurn keptCuts keptSeen seedNow hsh (upd kindOf_3 (x1_5).toNatClampNeg r_6) (upd onOf_4 (x1_5).toNatClampNeg (-1 : Int32)) seenBranch seenBegins seenWins page winner lasting worthBy wonBy keptKind keptBranch keptBegins keptWins partsBy) H locs := ⟨hP, hD, hs⟩
            refine lv_iinc (v := (x1_5 + (1 : Int32))) (lv' := [(1, .int (x1_5 + (1 : Int32))), (0, .ref (a 0))]) hx hb dX11_hedge_88 hl (k := 1) rfl rfl (by decide) rfl (fun ls hl => ?_)
            have s88 := i_s1 (x := x1_5) (by omega)
            refine lv_goto (tgt := 25) hx hb dX11_hedge_91 (by decide) ?_
            exact ih_L25_2 (upd kindOf_3 (x1_5).toNatClampNeg r_6) (upd onOf_4 (x1_5).toNatClampNeg (-1 : Int32)) (x1_5 + (1 : Int32)) (by omega) (by omega) he _ _ _ hX (lv_sub hl [1, 0] rfl)
    exact L25_2 9 kindOf onOf (0 : Int32) (by omega) (by omega) he _ _ _ hX (lv_sub hl [1, 0] rfl)
  · have he := he.trans (if_pos c9)
    have d9 := i_eq c9
    refine lv_bipush (v := (-103 : Int32)) hx hb dX11_hedge_12 (by decide) ?_
    subst he
    exact g_iret hx hb hr hlocks hX hq rfl dX11_hedge_14
abbrev rm_X11_isBranch : Room := { frames := 1, cells := 0, slots := 0, locals := 22 }
set_option maxHeartbeats 4000000 in
set_option maxRecDepth 100000 in
theorem k_X11_isBranch {l : Launch} {D : va_G} {E : sE} {a : Nat → Nat} {cA : Nat → ClassId} {hedges : Int32} {branches : Int32} {stand : Int32} {turn : Int32} {cuts : Int32} {asks : Int32} {seen : Int32} {pageLength : Int32} {isWhole : Int32} {newBranches : Int32} {gameCuts : Int32} {isKept : Int32} {keptHedge : Int32} {keptStand : Int32} {keptTurn : Int32} {keptCuts : Int32} {keptSeen : Int32} {seedNow : Int64} {hsh : Int64} {kindOf : Nat → Int32} {onOf : Nat → Int32} {seenBranch : Nat → Int32} {seenBegins : Nat → Int32} {seenWins : Nat → Int32} {page : Nat → Int32} {winner : Nat → Int32} {lasting : Nat → Int32} {worthBy : Nat → Int32} {wonBy : Nat → Int32} {keptKind : Nat → Int32} {keptBranch : Nat → Int32} {keptBegins : Nat → Int32} {keptWins : Nat → Int32} {partsBy : Nat → Int64} (p1 : Int32) (hbr : 0 ≤ (branches).toInt ∧ (branches).toInt ≤ 8) : ∀ q : Int32, q = f_X11_isBranch branches p1 → gMi l yX11_isBranch wsX11_isBranch rm_X11_isBranch D E (tM cA) [.ref (a 0), .int p1] (wM a cA hedges branches stand turn cuts asks seen pageLength isWhole newBranches gameCuts isKept keptHedge keptStand keptTurn keptCuts keptSeen seedNow hsh kindOf onOf seenBranch seenBegins seenWins page winner lasting worthBy wonBy keptKind keptBranch keptBegins keptWins partsBy) (wM a cA hedges branches stand turn cuts asks seen pageLength isWhole newBranches gameCuts isKept keptHedge keptStand keptTurn keptCuts keptSeen seedNow hsh kindOf onOf seenBranch seenBegins seenWins page winner lasting worthBy wonBy keptKind keptBranch keptBegins keptWins partsBy) q := by
  intro q he0
  refine gM_of (cc := cX11_isBranch) (maxL := 2) (ret := (some .boolean)) (Qf := gQi D (wM a cA hedges branches stand turn cuts asks seen pageLength isWhole newBranches gameCuts isKept keptHedge keptStand keptTurn keptCuts keptSeen seedNow hsh kindOf onOf seenBranch seenBegins seenWins page winner lasting worthBy wonBy keptKind keptBranch keptBegins keptWins partsBy) q) (by decide) rfl (Nat.le_of_ble_eq_true rfl) ?_
  intro p e s m args below meth c Z ls Qz hx hb hr hml hlocks hown hts hS hX hl hq
  have he := he0.trans f_X11_isBranch_s
  have hown : s.vm.findClass RX11 = some m.cls := hown
  have hl : lv_has ls 2 [(0, .ref (a 0)), (1, .int p1)] := hl
  have hi_X11 : ∀ w ∈ u_ws RX11 TX11 34, w ∈ wsX11_isBranch := fun _ h => List.mem_cons_of_mem _ (List.mem_append_right _ h)
  have l_fieldLink_83 := hts (Cond.fieldLink RX11 83 "HedgeGameModel" "branches" "I") (List.mem_of_getElem? (i := 1) rfl)
  have t0 : ((0 : Int32)).toInt = 0 := rfl
  have t1 : ((1 : Int32)).toInt = 1 := rfl
  refine lv_iload_n hx hb dX11_isBranch_0 rfl (lv_at hl 1 rfl) ?_
  refine lv_iconst (v := (0 : Int32)) hx hb dX11_isBranch_1 (by decide) ?_
  refine lv_aload_n hx hb dX11_isBranch_2 rfl (lv_at hl 0 rfl) ?_
  refine va_get (D := D) (ci := 11) (v := .int branches) (C := RX11) (T := TX11) (N := 34) hx hb hts hi_X11 hown hS.1 hX.1 0 rfl rfl 1 (by decide) l_fieldLink_83 (fun _ h9 => h9) rfl dX11_isBranch_3 ?_
  refine lv_iconst (v := (1 : Int32)) hx hb dX11_isBranch_6 (by decide) ?_
  refine lv_isub hx hb dX11_isBranch_7 ?_
  obtain ⟨r_1, e8⟩ : ∃ z, z = (f_X11_within p1 (0 : Int32) (branches - (1 : Int32))) := ⟨_, rfl⟩
  rw [← e8] at he
  refine g_Si (r := r_1) (As := [.int p1, .int (0 : Int32), .int (branches - (1 : Int32))]) (rest := []) ⟨hx, hb, hml, hown, hts⟩ hS hX (k_X11_within p1 (0 : Int32) (branches - (1 : Int32)) r_1 e8) (va_cwS 3 hts gX11_isBranch_X11_within rfl rfl rfl (by decide +kernel) ⟨Nat.le_of_ble_eq_true rfl, Nat.le_of_ble_eq_true rfl⟩) rfl hl.1 rfl (Nat.le_of_ble_eq_true rfl) dX11_isBranch_8 ⟨Nat.zero_le _, Nat.zero_le _⟩ (fun H locs hX => ?_)
  have k8_0 : (r_1).toInt = 0 ∨ ((r_1).toInt = 1 ∧ ((0 : Int32)).toInt ≤ (p1).toInt ∧ (p1).toInt ≤ ((branches - (1 : Int32))).toInt) := by rw [e8]; exact r_within
  subst he
  exact g_zret hx hb hr (z_nar01 (by omega)) hlocks hX hq rfl dX11_isBranch_11
