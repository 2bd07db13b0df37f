abbrev rm_X11_grow : Room := { frames := 2, cells := 0, slots := 0, locals := 43 }
set_option maxHeartbeats 4000000 in
set_option maxRecDepth 100000 in
theorem k_X11_grow {l : Launch} {D : va_G} {E : sE} {a : Nat → Nat} {cA : Nat → ClassId} {hedges : Int32} {branches : Int32} {stand : Int32} {turn : Int32} {cuts : Int32} {asks : Int32} {seen : Int32} {pageLength : Int32} {isWhole : Int32} {newBranches : Int32} {gameCuts : Int32} {isKept : Int32} {keptHedge : Int32} {keptStand : Int32} {keptTurn : Int32} {keptCuts : Int32} {keptSeen : Int32} {seedNow : Int64} {hsh : Int64} {kindOf : Nat → Int32} {onOf : Nat → Int32} {seenBranch : Nat → Int32} {seenBegins : Nat → Int32} {seenWins : Nat → Int32} {page : Nat → Int32} {winner : Nat → Int32} {lasting : Nat → Int32} {worthBy : Nat → Int32} {wonBy : Nat → Int32} {keptKind : Nat → Int32} {keptBranch : Nat → Int32} {keptBegins : Nat → Int32} {keptWins : Nat → Int32} {partsBy : Nat → Int64} (p1 : Int32) (hbr : 0 ≤ (branches).toInt ∧ (branches).toInt ≤ 8) : ∀ q : Int32 × Int32, q = f_X11_grow branches stand onOf p1 → gMi l yX11_grow wsX11_grow rm_X11_grow D E (tM cA) [.ref (a 0), .int p1] (wM a cA hedges branches stand turn cuts asks seen pageLength isWhole newBranches gameCuts isKept keptHedge keptStand keptTurn keptCuts keptSeen seedNow hsh kindOf onOf seenBranch seenBegins seenWins page winner lasting worthBy wonBy keptKind keptBranch keptBegins keptWins partsBy) (wM a cA hedges branches q.2 turn cuts asks seen pageLength isWhole newBranches gameCuts isKept keptHedge keptStand keptTurn keptCuts keptSeen seedNow hsh kindOf onOf seenBranch seenBegins seenWins page winner lasting worthBy wonBy keptKind keptBranch keptBegins keptWins partsBy) q.1 := by
  intro q he0
  refine gM_of (cc := cX11_grow) (maxL := 2) (ret := (some .int)) (Qf := gQi D (wM a cA hedges branches q.2 turn cuts asks seen pageLength isWhole newBranches gameCuts isKept keptHedge keptStand keptTurn keptCuts keptSeen seedNow hsh kindOf onOf seenBranch seenBegins seenWins page winner lasting worthBy wonBy keptKind keptBranch keptBegins keptWins partsBy) q.1) (by decide) rfl (Nat.le_of_ble_eq_true rfl) ?_
  intro p e s m args below meth c Z ls Qz hx hb hr hml hlocks hown hts hS hX hl hq
  have he := he0.trans f_X11_grow_s
  have hown : s.vm.findClass RX11 = some m.cls := hown
  have hl : lv_has ls 2 [(0, .ref (a 0)), (1, .int p1)] := hl
  have hi_X11 : ∀ w ∈ u_ws RX11 TX11 34, w ∈ wsX11_grow := fun _ h => List.mem_cons_of_mem _ (List.mem_append_right _ h)
  have l_fieldLink_13 := hts (Cond.fieldLink RX11 13 "HedgeGameModel" "onOf" "[I") (List.mem_of_getElem? (i := 2) rfl)
  have l_fieldLink_86 := hts (Cond.fieldLink RX11 86 "HedgeGameModel" "stand" "I") (List.mem_of_getElem? (i := 1) rfl)
  have tm103 : ((-103 : Int32)).toInt = -103 := rfl
  have tm101 : ((-101 : Int32)).toInt = -101 := rfl
  have tm1 : ((-1 : Int32)).toInt = -1 := rfl
  have t0 : ((0 : Int32)).toInt = 0 := rfl
  have t1 : ((1 : Int32)).toInt = 1 := rfl
  refine lv_aload_n hx hb dX11_grow_0 rfl (lv_at hl 0 rfl) ?_
  refine lv_iload_n hx hb dX11_grow_1 rfl (lv_at hl 1 rfl) ?_
  obtain ⟨r_1, e2⟩ : ∃ z, z = (f_X11_isBranch branches p1) := ⟨_, rfl⟩
  rw [← e2] at he
  refine g_Vi (r := r_1) (As := [.int p1]) (rest := []) (ci := 11) (q0 := 0) ⟨hx, hb, hml, hown, hts⟩ hS hX (k_X11_isBranch p1 (by omega) r_1 e2) (cwV 1 hts gX11_grow_X11_isBranch rfl rfl rfl (by decide +kernel) ⟨Nat.le_of_ble_eq_true rfl, Nat.le_of_ble_eq_true rfl⟩) rfl rfl rfl hl.1 rfl (Nat.le_of_ble_eq_true rfl) dX11_grow_2 ⟨Nat.zero_le _, Nat.zero_le _⟩ (fun H locs hX => ?_)
  have k2_0 : (r_1).toInt = 0 ∨ ((r_1).toInt = 1 ∧ 0 ≤ (p1).toInt ∧ (p1).toInt < (branches).toInt) := by rw [e2]; exact r_isBranch (by omega)
  refine lv_if_ne (tgt := 11) hx hb dX11_grow_5 (by decide) (fun c5 => ?_) (fun c5 => ?_)
  · have he := he.trans (if_neg c5)
    have d5 := i_ne c5
    refine lv_aload_n hx hb dX11_grow_11 rfl (lv_at hl 0 rfl) ?_
    refine va_get (D := D) (ci := 11) (v := .int stand) (C := RX11) (T := TX11) (N := 34) hx hb hts hi_X11 hown hS.1 hX.1 0 rfl rfl 4 (by decide) l_fieldLink_86 (fun _ h9 => h9) rfl dX11_grow_12 ?_
    refine lv_iload_n hx hb dX11_grow_15 rfl (lv_at hl 1 rfl) ?_
    obtain ⟨r_2, e16⟩ : ∃ z, z = (f_X11_isIn stand p1) := ⟨_, rfl⟩
    rw [← e16] at he
    refine g_Si (r := r_2) (As := [.int stand, .int p1]) (rest := []) ⟨hx, hb, hml, hown, hts⟩ hS hX (k_X11_isIn stand p1 r_2 e16) (va_cwS 2 hts gX11_grow_X11_isIn rfl rfl rfl (by decide +kernel) ⟨Nat.le_of_ble_eq_true rfl, Nat.le_of_ble_eq_true rfl⟩) rfl hl.1 rfl (Nat.le_of_ble_eq_true rfl) dX11_grow_16 ⟨Nat.zero_le _, Nat.zero_le _⟩ (fun H locs hX => ?_)
    refine lv_if_ne (tgt := 48) hx hb dX11_grow_19 (by decide) (fun c19 => ?_) (fun c19 => ?_)
    · have he := he.trans (if_neg c19)
      have d19 := i_ne c19
      refine lv_bipush (v := (-103 : Int32)) hx hb dX11_grow_48 (by decide) ?_
      subst he
      exact g_iret hx hb hr hlocks hX hq rfl dX11_grow_50
    · have he := he.trans (if_pos c19)
      have d19 := i_eq c19
      refine lv_aload_n hx hb dX11_grow_22 rfl (lv_at hl 0 rfl) ?_
      refine va_get (D := D) (ci := 11) (v := .ref (a 2)) (C := RX11) (T := TX11) (N := 34) hx hb hts hi_X11 hown hS.1 hX.1 0 rfl rfl 3 (by decide) l_fieldLink_13 (fun _ h9 => h9) rfl dX11_grow_23 ?_
      refine lv_iload_n hx hb dX11_grow_26 rfl (lv_at hl 1 rfl) ?_
      refine va_iald hx hb hS.1 hX.1 2 1 rfl rfl (vp_in_iff.mpr (by omega)) dX11_grow_27 ?_
      refine lv_iconst (v := (-1 : Int32)) hx hb dX11_grow_28 (by decide) ?_
      refine lv_icmp_eq (tgt := 51) hx hb dX11_grow_29 (by decide) (fun c29 => ?_) (fun c29 => ?_)
      · have he := he.trans (if_pos c29)
        have d29 := i_eq c29
        refine lv_aload_n hx hb dX11_grow_51 rfl (lv_at hl 0 rfl) ?_
        refine lv_dup hx hb dX11_grow_52 rfl ?_
        refine va_get (D := D) (ci := 11) (v := .int stand) (C := RX11) (T := TX11) (N := 34) hx hb hts hi_X11 hown hS.1 hX.1 0 rfl rfl 4 (by decide) l_fieldLink_86 (fun _ h9 => h9) rfl dX11_grow_53 ?_
        refine lv_iconst (v := (1 : Int32)) hx hb dX11_grow_56 (by decide) ?_
        refine lv_iload_n hx hb dX11_grow_57 rfl (lv_at hl 1 rfl) ?_
        refine lv_ishl hx hb dX11_grow_58 ?_
        refine lv_ior hx hb dX11_grow_59 ?_
        refine va_put (D := D) (ci := 11) (v := .int (stand ||| ((1 : Int32) <<< (p1 &&& 31)))) (ty := .int) (C := RX11) (T := TX11) (N := 34) hx hb hts hi_X11 tyX11 tyX11_ok nmX11 hown hS.1 hX.1 hX.2.1 hX.2.2 0 rfl rfl 4 (by decide) l_fieldLink_86 (fun _ h9 => h9) rfl (by decide +kernel) rfl rfl (Nat.le_of_ble_eq_true rfl) dX11_grow_60 (fun H locs hP hD hs => ?_)
        have hX : gX D Z s (wM a cA hedges branches (stand ||| ((1 : Int32) <<< (p1 &&& 31))) turn cuts asks seen pageLength isWhole newBranches gameCuts isKept keptHedge keptStand keptTurn keptCuts keptSeen seedNow hsh kindOf onOf seenBranch seenBegins seenWins page winner lasting worthBy wonBy keptKind keptBranch keptBegins keptWins partsBy) H locs := ⟨hP, hD, hs⟩
        refine lv_aload_n hx hb dX11_grow_63 rfl (lv_at hl 0 rfl) ?_
        refine va_get (D := D) (ci := 11) (v := .int (stand ||| ((1 : Int32) <<< (p1 &&& 31)))) (C := RX11) (T := TX11) (N := 34) hx hb hts hi_X11 hown hS.1 hX.1 0 rfl rfl 4 (by decide) l_fieldLink_86 (fun _ h9 => h9) rfl dX11_grow_64 ?_
        obtain ⟨r_3, e67⟩ : ∃ z, z = (f_X11_size (stand ||| ((1 : Int32) <<< (p1 &&& 31)))) := ⟨_, rfl⟩
        rw [← e67] at he
        refine g_Si (r := r_3) (As := [.int (stand ||| ((1 : Int32) <<< (p1 &&& 31)))]) (rest := []) ⟨hx, hb, hml, hown, hts⟩ hS hX (k_X11_size (stand ||| ((1 : Int32) <<< (p1 &&& 31))) r_3 e67) (va_cwS 1 hts gX11_grow_X11_size rfl rfl rfl (by decide +kernel) ⟨Nat.le_of_ble_eq_true rfl, Nat.le_of_ble_eq_true rfl⟩) rfl hl.1 rfl (Nat.le_of_ble_eq_true rfl) dX11_grow_67 ⟨Nat.zero_le _, Nat.zero_le _⟩ (fun H locs hX => ?_)
        subst he
        exact g_iret hx hb hr hlocks hX hq rfl dX11_grow_70
      · have he := he.trans (if_neg c29)
        have d29 := i_ne c29
        refine lv_aload_n hx hb dX11_grow_32 rfl (lv_at hl 0 rfl) ?_
        refine va_get (D := D) (ci := 11) (v := .int stand) (C := RX11) (T := TX11) (N := 34) hx hb hts hi_X11 hown hS.1 hX.1 0 rfl rfl 4 (by decide) l_fieldLink_86 (fun _ h9 => h9) rfl dX11_grow_33 ?_
        refine lv_aload_n hx hb dX11_grow_36 rfl (lv_at hl 0 rfl) ?_
        refine va_get (D := D) (ci := 11) (v := .ref (a 2)) (C := RX11) (T := TX11) (N := 34) hx hb hts hi_X11 hown hS.1 hX.1 0 rfl rfl 3 (by decide) l_fieldLink_13 (fun _ h9 => h9) rfl dX11_grow_37 ?_
        refine lv_iload_n hx hb dX11_grow_40 rfl (lv_at hl 1 rfl) ?_
        refine va_iald hx hb hS.1 hX.1 2 1 rfl rfl (vp_in_iff.mpr (by omega)) dX11_grow_41 ?_
        obtain ⟨r_4, e42⟩ : ∃ z, z = (f_X11_isIn stand (onOf (p1).toNatClampNeg)) := ⟨_, rfl⟩
        rw [← e42] at he
        refine g_Si (r := r_4) (As := [.int stand, .int (onOf (p1).toNatClampNeg)]) (rest := []) ⟨hx, hb, hml, hown, hts⟩ hS hX (k_X11_isIn stand (onOf (p1).toNatClampNeg) r_4 e42) (va_cwS 2 hts gX11_grow_X11_isIn rfl rfl rfl (by decide +kernel) ⟨Nat.le_of_ble_eq_true rfl, Nat.le_of_ble_eq_true rfl⟩) rfl hl.1 rfl (Nat.le_of_ble_eq_true rfl) dX11_grow_42 ⟨Nat.zero_le _, Nat.zero_le _⟩ (fun H locs hX => ?_)
        refine lv_if_ne (tgt := 51) hx hb dX11_grow_45 (by decide) (fun c45 => ?_) (fun c45 => ?_)
        · have he := he.trans (if_neg c45)
          have d45 := i_ne c45
          refine lv_aload_n hx hb dX11_grow_51 rfl (lv_at hl 0 rfl) ?_
          refine lv_dup hx hb dX11_grow_52 rfl ?_
          refine va_get (D := D) (ci := 11) (v := .int stand) (C := RX11) (T := TX11) (N := 34) hx hb hts hi_X11 hown hS.1 hX.1 0 rfl rfl 4 (by decide) l_fieldLink_86 (fun _ h9 => h9) rfl dX11_grow_53 ?_
          refine lv_iconst (v := (1 : Int32)) hx hb dX11_grow_56 (by decide) ?_
          refine lv_iload_n hx hb dX11_grow_57 rfl (lv_at hl 1 rfl) ?_
          refine lv_ishl hx hb dX11_grow_58 ?_
          refine lv_ior hx hb dX11_grow_59 ?_
          refine va_put (D := D) (ci := 11) (v := .int (stand ||| ((1 : Int32) <<< (p1 &&& 31)))) (ty := .int) (C := RX11) (T := TX11) (N := 34) hx hb hts hi_X11 tyX11 tyX11_ok nmX11 hown hS.1 hX.1 hX.2.1 hX.2.2 0 rfl rfl 4 (by decide) l_fieldLink_86 (fun _ h9 => h9) rfl (by decide +kernel) rfl rfl (Nat.le_of_ble_eq_true rfl) dX11_grow_60 (fun H locs hP hD hs => ?_)
          have hX : gX D Z s (wM a cA hedges branches (stand ||| ((1 : Int32) <<< (p1 &&& 31))) turn cuts asks seen pageLength isWhole newBranches gameCuts isKept keptHedge keptStand keptTurn keptCuts keptSeen seedNow hsh kindOf onOf seenBranch seenBegins seenWins page winner lasting worthBy wonBy keptKind keptBranch keptBegins keptWins partsBy) H locs := ⟨hP, hD, hs⟩
          refine lv_aload_n hx hb dX11_grow_63 rfl (lv_at hl 0 rfl) ?_
          refine va_get (D := D) (ci := 11) (v := .int (stand ||| ((1 : Int32) <<< (p1 &&& 31)))) (C := RX11) (T := TX11) (N := 34) hx hb hts hi_X11 hown hS.1 hX.1 0 rfl rfl 4 (by decide) l_fieldLink_86 (fun _ h9 => h9) rfl dX11_grow_64 ?_
          obtain ⟨r_5, e67⟩ : ∃ z, z = (f_X11_size (stand ||| ((1 : Int32) <<< (p1 &&& 31)))) := ⟨_, rfl⟩
          rw [← e67] at he
          refine g_Si (r := r_5) (As := [.int (stand ||| ((1 : Int32) <<< (p1 &&& 31)))]) (rest := []) ⟨hx, hb, hml, hown, hts⟩ hS hX (k_X11_size (stand ||| ((1 : Int32) <<< (p1 &&& 31))) r_5 e67) (va_cwS 1 hts gX11_grow_X11_size rfl rfl rfl (by decide +kernel) ⟨Nat.le_of_ble_eq_true rfl, Nat.le_of_ble_eq_true rfl⟩) rfl hl.1 rfl (Nat.le_of_ble_eq_true rfl) dX11_grow_67 ⟨Nat.zero_le _, Nat.zero_le _⟩ (fun H locs hX => ?_)
          subst he
          exact g_iret hx hb hr hlocks hX hq rfl dX11_grow_70
        · have he := he.trans (if_pos c45)
          have d45 := i_eq c45
          refine lv_bipush (v := (-103 : Int32)) hx hb dX11_grow_48 (by decide) ?_
          subst he
          exact g_iret hx hb hr hlocks hX hq rfl dX11_grow_50
  · have he := he.trans (if_pos c5)
    have d5 := i_eq c5
    refine lv_bipush (v := (-101 : Int32)) hx hb dX11_grow_8 (by decide) ?_
    subst he
    exact g_iret hx hb hr hlocks hX hq rfl dX11_grow_10
abbrev rm_X11_pass : Room := { frames := 0, cells := 0, slots := 0, locals := 0 }
set_option maxHeartbeats 4000000 in
set_option maxRecDepth 100000 in
theorem k_X11_pass {l : Launch} {D : va_G} {E : sE} {a : Nat → Nat} {cA : Nat → ClassId} {hedges : Int32} {branches : Int32} {stand : Int32} {turn : Int32} {cuts : Int32} {asks : Int32} {seen : Int32} {pageLength : Int32} {isWhole : Int32} {newBranches : Int32} {gameCuts : Int32} {isKept : Int32} {keptHedge : Int32} {keptStand : Int32} {keptTurn : Int32} {keptCuts : Int32} {keptSeen : Int32} {seedNow : Int64} {hsh : Int64} {kindOf : Nat → Int32} {onOf : Nat → Int32} {seenBranch : Nat → Int32} {seenBegins : Nat → Int32} {seenWins : Nat → Int32} {page : Nat → Int32} {winner : Nat → Int32} {lasting : Nat → Int32} {worthBy : Nat → Int32} {wonBy : Nat → Int32} {keptKind : Nat → Int32} {keptBranch : Nat → Int32} {keptBegins : Nat → Int32} {keptWins : Nat → Int32} {partsBy : Nat → Int64}   : ∀ q : Int32 × Int32, q = f_X11_pass branches turn → gMi l yX11_pass wsX11_pass rm_X11_pass D E (tM cA) [.ref (a 0)] (wM a cA hedges branches stand turn cuts asks seen pageLength isWhole newBranches gameCuts isKept keptHedge keptStand keptTurn keptCuts keptSeen seedNow hsh kindOf onOf seenBranch seenBegins seenWins page winner lasting worthBy wonBy keptKind keptBranch keptBegins keptWins partsBy) (wM a cA hedges branches stand q.2 cuts asks seen pageLength isWhole newBranches gameCuts isKept keptHedge keptStand keptTurn keptCuts keptSeen seedNow hsh kindOf onOf seenBranch seenBegins seenWins page winner lasting worthBy wonBy keptKind keptBranch keptBegins keptWins partsBy) q.1 := by
  intro q he0
  refine gM_of (cc := cX11_pass) (maxL := 1) (ret := (some .int)) (Qf := gQi D (wM a cA hedges branches stand q.2 cuts asks seen pageLength isWhole newBranches gameCuts isKept keptHedge keptStand keptTurn keptCuts keptSeen seedNow hsh kindOf onOf seenBranch seenBegins seenWins page winner lasting worthBy wonBy keptKind keptBranch keptBegins keptWins partsBy) q.1) (by decide) rfl (Nat.le_of_ble_eq_true rfl) ?_
  intro p e s m args below meth c Z ls Qz hx hb hr hml hlocks hown hts hS hX hl hq
  have he := he0.trans f_X11_pass_s
  have hown : s.vm.findClass RX11 = some m.cls := hown
  have hl : lv_has ls 1 [(0, .ref (a 0))] := hl
  have hi_X11 : ∀ w ∈ u_ws RX11 TX11 34, w ∈ wsX11_pass := fun _ h => List.mem_cons_of_mem _ (List.mem_append_right _ h)
  have l_fieldLink_83 := hts (Cond.fieldLink RX11 83 "HedgeGameModel" "branches" "I") (List.mem_of_getElem? (i := 1) rfl)
  have l_fieldLink_89 := hts (Cond.fieldLink RX11 89 "HedgeGameModel" "turn" "I") (List.mem_of_getElem? (i := 2) rfl)
  have tm103 : ((-103 : Int32)).toInt = -103 := rfl
  have t0 : ((0 : Int32)).toInt = 0 := rfl
  have t1 : ((1 : Int32)).toInt = 1 := rfl
  refine lv_aload_n hx hb dX11_pass_0 rfl (lv_at hl 0 rfl) ?_
  refine va_get (D := D) (ci := 11) (v := .int branches) (C := RX11) (T := TX11) (N := 34) hx hb hts hi_X11 hown hS.1 hX.1 0 rfl rfl 1 (by decide) l_fieldLink_83 (fun _ h9 => h9) rfl dX11_pass_1 ?_
  refine lv_if_ne (tgt := 10) hx hb dX11_pass_4 (by decide) (fun c4 => ?_) (fun c4 => ?_)
  · have he := he.trans (if_neg c4)
    have d4 := i_ne c4
    refine lv_aload_n hx hb dX11_pass_10 rfl (lv_at hl 0 rfl) ?_
    refine lv_iconst (v := (1 : Int32)) hx hb dX11_pass_11 (by decide) ?_
    refine lv_aload_n hx hb dX11_pass_12 rfl (lv_at hl 0 rfl) ?_
    refine va_get (D := D) (ci := 11) (v := .int turn) (C := RX11) (T := TX11) (N := 34) hx hb hts hi_X11 hown hS.1 hX.1 0 rfl rfl 5 (by decide) l_fieldLink_89 (fun _ h9 => h9) rfl dX11_pass_13 ?_
    refine lv_isub hx hb dX11_pass_16 ?_
    refine va_put (D := D) (ci := 11) (v := .int ((1 : Int32) - turn)) (ty := .int) (C := RX11) (T := TX11) (N := 34) hx hb hts hi_X11 tyX11 tyX11_ok nmX11 hown hS.1 hX.1 hX.2.1 hX.2.2 0 rfl rfl 5 (by decide) l_fieldLink_89 (fun _ h9 => h9) rfl (by decide +kernel) rfl rfl (Nat.le_of_ble_eq_true rfl) dX11_pass_17 (fun H locs hP hD hs => ?_)
    have hX : gX D Z s (wM a cA hedges branches stand ((1 : Int32) - turn) cuts asks seen pageLength isWhole newBranches gameCuts isKept keptHedge keptStand keptTurn keptCuts keptSeen seedNow hsh kindOf onOf seenBranch seenBegins seenWins page winner lasting worthBy wonBy keptKind keptBranch keptBegins keptWins partsBy) H locs := ⟨hP, hD, hs⟩
    refine lv_iconst (v := (1 : Int32)) hx hb dX11_pass_20 (by decide) ?_
    refine lv_aload_n hx hb dX11_pass_21 rfl (lv_at hl 0 rfl) ?_
    refine va_get (D := D) (ci := 11) (v := .int ((1 : Int32) - turn)) (C := RX11) (T := TX11) (N := 34) hx hb hts hi_X11 hown hS.1 hX.1 0 rfl rfl 5 (by decide) l_fieldLink_89 (fun _ h9 => h9) rfl dX11_pass_22 ?_
    refine lv_isub hx hb dX11_pass_25 ?_
    subst he
    exact g_iret hx hb hr hlocks hX hq rfl dX11_pass_26
  · have he := he.trans (if_pos c4)
    have d4 := i_eq c4
    refine lv_bipush (v := (-103 : Int32)) hx hb dX11_pass_7 (by decide) ?_
    subst he
    exact g_iret hx hb hr hlocks hX hq rfl dX11_pass_9
abbrev rm_X11_graft : Room := { frames := 2, cells := 0, slots := 0, locals := 43 }
set_option maxHeartbeats 4000000 in
set_option maxRecDepth 100000 in
theorem k_X11_graft {l : Launch} {D : va_G} {E : sE} {a : Nat → Nat} {cA : Nat → ClassId} {hedges : Int32} {branches : Int32} {stand : Int32} {turn : Int32} {cuts : Int32} {asks : Int32} {seen : Int32} {pageLength : Int32} {isWhole : Int32} {newBranches : Int32} {gameCuts : Int32} {isKept : Int32} {keptHedge : Int32} {keptStand : Int32} {keptTurn : Int32} {keptCuts : Int32} {keptSeen : Int32} {seedNow : Int64} {hsh : Int64} {kindOf : Nat → Int32} {onOf : Nat → Int32} {seenBranch : Nat → Int32} {seenBegins : Nat → Int32} {seenWins : Nat → Int32} {page : Nat → Int32} {winner : Nat → Int32} {lasting : Nat → Int32} {worthBy : Nat → Int32} {wonBy : Nat → Int32} {keptKind : Nat → Int32} {keptBranch : Nat → Int32} {keptBegins : Nat → Int32} {keptWins : Nat → Int32} {partsBy : Nat → Int64} (p1 : Int32) (p2 : Int32) (hbr : 0 ≤ (branches).toInt ∧ (branches).toInt ≤ 8) : ∀ q : Int32 × (Nat → Int32), q = f_X11_graft branches kindOf p1 p2 → gMi l yX11_graft wsX11_graft rm_X11_graft D E (tM cA) [.ref (a 0), .int p1, .int p2] (wM a cA hedges branches stand turn cuts asks seen pageLength isWhole newBranches gameCuts isKept keptHedge keptStand keptTurn keptCuts keptSeen seedNow hsh kindOf onOf seenBranch seenBegins seenWins page winner lasting worthBy wonBy keptKind keptBranch keptBegins keptWins partsBy) (wM a cA hedges branches stand turn cuts asks seen pageLength isWhole newBranches gameCuts isKept keptHedge keptStand keptTurn keptCuts keptSeen seedNow hsh q.2 onOf seenBranch seenBegins seenWins page winner lasting worthBy wonBy keptKind keptBranch keptBegins keptWins partsBy) q.1 := by
  intro q he0
  refine gM_of (cc := cX11_graft) (maxL := 4) (ret := (some .int)) (Qf := gQi D (wM a cA hedges branches stand turn cuts asks seen pageLength isWhole newBranches gameCuts isKept keptHedge keptStand keptTurn keptCuts keptSeen seedNow hsh q.2 onOf seenBranch seenBegins seenWins page winner lasting worthBy wonBy keptKind keptBranch keptBegins keptWins partsBy) q.1) (by decide) rfl (Nat.le_of_ble_eq_true rfl) ?_
  intro p e s m args below meth c Z ls Qz hx hb hr hml hlocks hown hts hS hX hl hq
  have he := he0.trans f_X11_graft_s
  have hown : s.vm.findClass RX11 = some m.cls := hown
  have hl : lv_has ls 4 [(0, .ref (a 0)), (1, .int p1), (2, .int p2)] := hl
  have hi_X11 : ∀ w ∈ u_ws RX11 TX11 34, w ∈ wsX11_graft := fun _ h => List.mem_cons_of_mem _ (List.mem_append_right _ h)
  have l_fieldLink_7 := hts (Cond.fieldLink RX11 7 "HedgeGameModel" "kindOf" "[I") (List.mem_of_getElem? (i := 1) rfl)
  have tm102 : ((-102 : Int32)).toInt = -102 := rfl
  have tm101 : ((-101 : Int32)).toInt = -101 := rfl
  have t0 : ((0 : Int32)).toInt = 0 := rfl
  have t1 : ((1 : Int32)).toInt = 1 := rfl
  have t4 : ((4 : Int32)).toInt = 4 := rfl
  refine lv_aload_n hx hb dX11_graft_0 rfl (lv_at hl 0 rfl) ?_
  refine lv_iload_n hx hb dX11_graft_1 rfl (lv_at hl 1 rfl) ?_
  obtain ⟨r_1, e2⟩ : ∃ z, z = (f_X11_isBranch branches p1) := ⟨_, rfl⟩
  rw [← e2] at he
  refine g_Vi (r := r_1) (As := [.int p1]) (rest := []) (ci := 11) (q0 := 0) ⟨hx, hb, hml, hown, hts⟩ hS hX (k_X11_isBranch p1 (by omega) r_1 e2) (cwV 1 hts gX11_graft_X11_isBranch rfl rfl rfl (by decide +kernel) ⟨Nat.le_of_ble_eq_true rfl, Nat.le_of_ble_eq_true rfl⟩) rfl rfl rfl hl.1 rfl (Nat.le_of_ble_eq_true rfl) dX11_graft_2 ⟨Nat.zero_le _, Nat.zero_le _⟩ (fun H locs hX => ?_)
  have k2_0 : (r_1).toInt = 0 ∨ ((r_1).toInt = 1 ∧ 0 ≤ (p1).toInt ∧ (p1).toInt < (branches).toInt) := by rw [e2]; exact r_isBranch (by omega)
  refine lv_if_ne (tgt := 11) hx hb dX11_graft_5 (by decide) (fun c5 => ?_) (fun c5 => ?_)
  · have he := he.trans (if_neg c5)
    have d5 := i_ne c5
    refine lv_iload_n hx hb dX11_graft_11 rfl (lv_at hl 2 rfl) ?_
    refine lv_iconst (v := (0 : Int32)) hx hb dX11_graft_12 (by decide) ?_
    refine lv_iconst (v := (4 : Int32)) hx hb dX11_graft_13 (by decide) ?_
    obtain ⟨r_2, e14⟩ : ∃ z, z = (f_X11_within p2 (0 : Int32) (4 : Int32)) := ⟨_, rfl⟩
    rw [← e14] at he
    refine g_Si (r := r_2) (As := [.int p2, .int (0 : Int32), .int (4 : Int32)]) (rest := []) ⟨hx, hb, hml, hown, hts⟩ hS hX (k_X11_within p2 (0 : Int32) (4 : Int32) r_2 e14) (va_cwS 3 hts gX11_graft_X11_within rfl rfl rfl (by decide +kernel) ⟨Nat.le_of_ble_eq_true rfl, Nat.le_of_ble_eq_true rfl⟩) rfl hl.1 rfl (Nat.le_of_ble_eq_true rfl) dX11_graft_14 ⟨Nat.zero_le _, Nat.zero_le _⟩ (fun H locs hX => ?_)
    have k14_0 : (r_2).toInt = 0 ∨ ((r_2).toInt = 1 ∧ ((0 : Int32)).toInt ≤ (p2).toInt ∧ (p2).toInt ≤ ((4 : Int32)).toInt) := by rw [e14]; exact r_within
    refine lv_if_ne (tgt := 23) hx hb dX11_graft_17 (by decide) (fun c17 => ?_) (fun c17 => ?_)
    · have he := he.trans (if_neg c17)
      have d17 := i_ne c17
      refine lv_aload_n hx hb dX11_graft_23 rfl (lv_at hl 0 rfl) ?_
      refine va_get (D := D) (ci := 11) (v := .ref (a 1)) (C := RX11) (T := TX11) (N := 34) hx hb hts hi_X11 hown hS.1 hX.1 0 rfl rfl 2 (by decide) l_fieldLink_7 (fun _ h9 => h9) rfl dX11_graft_24 ?_
      refine lv_iload_n hx hb dX11_graft_27 rfl (lv_at hl 1 rfl) ?_
      refine va_iald hx hb hS.1 hX.1 1 0 rfl rfl (vp_in_iff.mpr (by omega)) dX11_graft_28 ?_
      refine lv_istore_n (lv' := [(3, .int (kindOf (p1).toNatClampNeg)), (0, .ref (a 0)), (1, .int p1), (2, .int p2)]) hx hb dX11_graft_29 rfl hl (by decide) rfl (fun ls hl => ?_)
      refine lv_aload_n hx hb dX11_graft_30 rfl (lv_at hl 1 rfl) ?_
      refine va_get (D := D) (ci := 11) (v := .ref (a 1)) (C := RX11) (T := TX11) (N := 34) hx hb hts hi_X11 hown hS.1 hX.1 0 rfl rfl 2 (by decide) l_fieldLink_7 (fun _ h9 => h9) rfl dX11_graft_31 ?_
      refine lv_iload_n hx hb dX11_graft_34 rfl (lv_at hl 2 rfl) ?_
      refine lv_iload_n hx hb dX11_graft_35 rfl (lv_at hl 3 rfl) ?_
      refine va_iast hx hb hS.1 hX.1 hX.2.1 hX.2.2 1 0 rfl rfl (vp_in_iff.mpr (by omega)) dX11_graft_36 (fun H locs hP hD hs => ?_)
      have hX : gX D Z s (wM a cA hedges branches stand turn cuts asks seen pageLength isWhole newBranches gameCuts isKept keptHedge keptStand keptTurn keptCuts keptSeen seedNow hsh (upd kindOf (p1).toNatClampNeg p2) onOf seenBranch seenBegins seenWins page winner lasting worthBy wonBy keptKind keptBranch keptBegins keptWins partsBy) H locs := ⟨hP, hD, hs⟩
      refine lv_iload_n hx hb dX11_graft_37 rfl (lv_at hl 0 rfl) ?_
      subst he
      exact g_iret hx hb hr hlocks hX hq rfl dX11_graft_38
    · have he := he.trans (if_pos c17)
      have d17 := i_eq c17
      refine lv_bipush (v := (-102 : Int32)) hx hb dX11_graft_20 (by decide) ?_
      subst he
      exact g_iret hx hb hr hlocks hX hq rfl dX11_graft_22
  · have he := he.trans (if_pos c5)
    have d5 := i_eq c5
    refine lv_bipush (v := (-101 : Int32)) hx hb dX11_graft_8 (by decide) ?_
    subst he
    exact g_iret hx hb hr hlocks hX hq rfl dX11_graft_10
