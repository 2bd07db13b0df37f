/-! what the Statement gives of the statics and of the text -/
set_option maxHeartbeats 4000000 in
set_option maxRecDepth 100000 in
theorem law_statics {p : Program} {s : State} {m : MethodId} {meth : Method} {c : Code} {b L : Nat} {xs : Nat → Int32} (C0 : lw_At p s m meth c b L xs) : ∃ E : sE, sF E (lZ s) s s.heap ∧ sR E s := by
  obtain ⟨hx, hb, hr, hml, hown, hts0, hX, hbl, hlocks, hgv⟩ := C0
  have hs := flat_of_before _ hgv
  have hA : ∀ a : Nat, a < s.heap.size → ¬ lZ s a := fun a h => Nat.not_le.mpr h
  obtain ⟨t0, ht0, hT⟩ := va_Tof (tm := .static "HedgeGame" "SUCH_KINDS" "[I") (ty := .int) (N := 5) (f := fun j => .int (([31, 18, 4, 8, 16] : List Int32).getD j 0)) (A := lZ s) (by decide) (hs (Cond.arrayOf (.static "HedgeGame" "SUCH_KINDS" "[I") .int) (by decide +kernel)) (va_eqt (hs (Cond.eq (.length (.static "HedgeGame" "SUCH_KINDS" "[I")) (.int 5)) (by decide +kernel))) (fun j hj => by
    rcases (show j = 0 ∨ j = 1 ∨ j = 2 ∨ j = 3 ∨ j = 4 by omega) with rfl | rfl | rfl | rfl | rfl
    · exact va_eqt (hs (Cond.eq (.elem (.static "HedgeGame" "SUCH_KINDS" "[I") (.int 0)) (.int 31)) (by decide +kernel))
    · exact va_eqt (hs (Cond.eq (.elem (.static "HedgeGame" "SUCH_KINDS" "[I") (.int 1)) (.int 18)) (by decide +kernel))
    · exact va_eqt (hs (Cond.eq (.elem (.static "HedgeGame" "SUCH_KINDS" "[I") (.int 2)) (.int 4)) (by decide +kernel))
    · exact va_eqt (hs (Cond.eq (.elem (.static "HedgeGame" "SUCH_KINDS" "[I") (.int 3)) (.int 8)) (by decide +kernel))
    · exact va_eqt (hs (Cond.eq (.elem (.static "HedgeGame" "SUCH_KINDS" "[I") (.int 4)) (.int 16)) (by decide +kernel))) hA
  have hZ1 : va_Z "HedgeGame" "SUCH_KINDS" "[I" (.ref t0) (lZ s) s s.heap := va_Zof (hts0 (Cond.laysStatic "HedgeGame" "SUCH_KINDS" "[I") (List.mem_of_getElem? (i := 594) (by decide +kernel))) (hts0 (Cond.initialized "HedgeGame") (List.mem_of_getElem? (i := 51) (by decide +kernel))) ht0 hA
  have hZ2 : va_Z "java/lang/String" "COMPACT_STRINGS" "Z" (.int 1) (lZ s) s s.heap := va_Zof (hts0 (Cond.laysStatic "java/lang/String" "COMPACT_STRINGS" "Z") (List.mem_of_getElem? (i := 370) (by decide +kernel))) (hts0 (Cond.initialized "java/lang/String") (List.mem_of_getElem? (i := 63) (by decide +kernel))) (va_eqi (hs (Cond.eq (.static "java/lang/String" "COMPACT_STRINGS" "Z") (.int 1)) (by decide +kernel))) hA
  obtain ⟨adK, adV, hSS, hev⟩ := vk_Sof (args := #[Value.ref b]) (s := s) (N := 1) (tm := fun _ => .string "HedgeGame$Page" 27) (len := [5]) (byt := [[98, 119, 100, 105, 116]]) (A := lZ s) (fun i hi => by rcases (show i = 0 by omega) with rfl; decide) (fun i hi => hs (Cond.exactly (.string "HedgeGame$Page" 27) "java/lang/String") (by decide +kernel)) (fun i hi => hs (Cond.eq (.field (.string "HedgeGame$Page" 27) "java/lang/String" "coder" "B") (.int 0)) (by decide +kernel)) (fun i hi => hs (Cond.arrayOf (.field (.string "HedgeGame$Page" 27) "java/lang/String" "value" "[B") .byte) (by decide +kernel)) (fun i hi => by
    rcases (show i = 0 by omega) with rfl
    exact hs (Cond.eq (.length (.field (.string "HedgeGame$Page" 27) "java/lang/String" "value" "[B")) (.int 5)) (by decide +kernel)) (fun i hi j hj => by
    rcases (show i = 0 by omega) with rfl
    have hj : j < 5 := hj
    rcases (show j = 0 ∨ j = 1 ∨ j = 2 ∨ j = 3 ∨ j = 4 by omega) with rfl | rfl | rfl | rfl | rfl
    · exact hs (Cond.eq (.elem (.field (.string "HedgeGame$Page" 27) "java/lang/String" "value" "[B") (.int 0)) (.int 98)) (by decide +kernel)
    · exact hs (Cond.eq (.elem (.field (.string "HedgeGame$Page" 27) "java/lang/String" "value" "[B") (.int 1)) (.int 119)) (by decide +kernel)
    · exact hs (Cond.eq (.elem (.field (.string "HedgeGame$Page" 27) "java/lang/String" "value" "[B") (.int 2)) (.int 100)) (by decide +kernel)
    · exact hs (Cond.eq (.elem (.field (.string "HedgeGame$Page" 27) "java/lang/String" "value" "[B") (.int 3)) (.int 105)) (by decide +kernel)
    · exact hs (Cond.eq (.elem (.field (.string "HedgeGame$Page" 27) "java/lang/String" "value" "[B") (.int 4)) (.int 116)) (by decide +kernel)) (fun i j hi hj h => absurd (show i = j by omega) h) hA
  refine ⟨(t0, adK 0, adV 0), ⟨hZ1, hT, ⟨fun i hi => ?_, fun i j hi hj _ => by omega⟩, hZ2⟩, vk_R.of (A := #[Value.ref b]) (hts0 (Cond.stringRef "HedgeGame$Page" 27 "bwdit") (List.mem_of_getElem? (i := 356) (by decide +kernel))) (hev 0 (by decide))⟩
  rcases (show i = 0 by omega) with rfl
  exact hSS.1 0 (by decide)
set_option maxHeartbeats 4000000 in
set_option maxRecDepth 100000 in
theorem law_known {p : Program} {s : State} {m : MethodId} {meth : Method} {c : Code} {b L : Nat} {xs : Nat → Int32} (C0 : lw_At p s m meth c b L xs) : ∃ D : va_G, va_K D vwCl [] s := by
  obtain ⟨hx, hb, hr, hml, hown, hts0, hX, hbl, hlocks, hgv⟩ := C0
  obtain ⟨c0, i0, k0⟩ := u_known (C := RX0) (T := TX0) (N := 2) (n := 2) hts0 wsX00_in (hts0 (Cond.instantiable RX0 2) (List.mem_of_getElem? (i := 243) (by decide +kernel)))
  obtain ⟨c1, i1, k1⟩ := u_known (C := RX1) (T := TX1) (N := 3) (n := 3) hts0 wsX10_in (hts0 (Cond.instantiable RX1 3) (List.mem_of_getElem? (i := 214) (by decide +kernel)))
  obtain ⟨c2, i2, k2⟩ := u_known (C := RX2) (T := TX2) (N := 4) (n := 4) hts0 wsX20_in (hts0 (Cond.instantiable RX2 4) (List.mem_of_getElem? (i := 256) (by decide +kernel)))
  obtain ⟨c3, i3, k3⟩ := u_known (C := RX3) (T := TX3) (N := 5) (n := 5) hts0 wsX30_in (hts0 (Cond.instantiable RX3 5) (List.mem_of_getElem? (i := 128) (by decide +kernel)))
  obtain ⟨c4, i4, k4⟩ := u_known (C := RX4) (T := TX4) (N := 2) (n := 2) hts0 wsX40_in (hts0 (Cond.instantiable RX4 2) (List.mem_of_getElem? (i := 200) (by decide +kernel)))
  obtain ⟨c5, i5, k5⟩ := u_known (C := RX5) (T := TX5) (N := 2) (n := 2) hts0 wsX50_in (hts0 (Cond.instantiable RX5 2) (List.mem_of_getElem? (i := 80) (by decide +kernel)))
  obtain ⟨c6, i6, k6⟩ := u_known (C := RX6) (T := TX6) (N := 2) (n := 2) hts0 wsX60_in (hts0 (Cond.instantiable RX6 2) (List.mem_of_getElem? (i := 182) (by decide +kernel)))
  obtain ⟨c7, i7, k7⟩ := u_known (C := RX7) (T := TX7) (N := 4) (n := 4) hts0 wsX70_in (hts0 (Cond.instantiable RX7 4) (List.mem_of_getElem? (i := 134) (by decide +kernel)))
  obtain ⟨c8, i8, k8⟩ := u_known (C := RX8) (T := TX8) (N := 5) (n := 5) hts0 wsX80_in (hts0 (Cond.instantiable RX8 5) (List.mem_of_getElem? (i := 94) (by decide +kernel)))
  obtain ⟨c9, i9, k9⟩ := u_known (C := RX9) (T := TX9) (N := 2) (n := 2) hts0 wsX90_in (hts0 (Cond.instantiable RX9 2) (List.mem_of_getElem? (i := 230) (by decide +kernel)))
  obtain ⟨c10, i10, k10⟩ := u_known (C := RX10) (T := TX10) (N := 14) (n := 14) hts0 wsX100_in (hts0 (Cond.instantiable RX10 14) (List.mem_of_getElem? (i := 72) (by decide +kernel)))
  obtain ⟨c11, i11, k11⟩ := u_known (C := RX11) (T := TX11) (N := 34) (n := 34) hts0 wsX110_in (hts0 (Cond.instantiable RX11 34) (List.mem_of_getElem? (i := 758) (by decide +kernel)))
  refine ⟨(fun k => ([c0, c1, c2, c3, c4, c5, c6, c7, c8, c9, c10, c11] : List ClassId).getD k c0, fun k => ([i0, i1, i2, i3, i4, i5, i6, i7, i8, i9, i10, i11] : List (Nat → Nat)).getD k i0), fun k q hq => ?_, fun k q h => by simp at h⟩
  match k, hq with
  | 0, hq => cases hq; exact k0
  | 1, hq => cases hq; exact k1
  | 2, hq => cases hq; exact k2
  | 3, hq => cases hq; exact k3
  | 4, hq => cases hq; exact k4
  | 5, hq => cases hq; exact k5
  | 6, hq => cases hq; exact k6
  | 7, hq => cases hq; exact k7
  | 8, hq => cases hq; exact k8
  | 9, hq => cases hq; exact k9
  | 10, hq => cases hq; exact k10
  | 11, hq => cases hq; exact k11
  | k + 12, hq => simp [vwCl] at hq
set_option maxHeartbeats 4000000 in
set_option maxRecDepth 100000 in
theorem whole_start {p : Program} {e : Env} {s : State} {m : MethodId} {below : List Frame} {meth : Method} {c : Code} (l : Launch) (hflags : l.flags = flags0) {b L : Nat} {xs : Nat → Int32} (hL : L ≤ 2048) (C0 : lw_At p s m meth c b L xs) : W p l e room_1 s m #[Value.ref b] below meth c s.heap [] 0 0 (lw_Z below #[Value.ref b] s) (entryFrame m ([Value.ref b] : List Value).toArray 4) := by
  obtain ⟨hx, hb, hr, hml, hown, hts0, hX, hbl, hlocks, hgv⟩ := id C0
  have hts : ∀ w ∈ wsL_law, w.before #[Value.ref b] s = true := fun w h => hts0 w (wsL_law_in w h)
  have hown : s.vm.findClass RL = some m.cls := hown
  have hA : ∀ q : Nat, s.heap.size ≤ q → lZ s q := fun _ h => h
  obtain ⟨E, hE1, hE2⟩ := law_statics C0
  obtain ⟨D, hK⟩ := law_known C0
  have hN : nwA s := fun w hw => va_Nw.of (nw_on (nwL_is w hw)) (hts0 w (nwL_in w hw))
  have hS : va_S (lZ s) s.heap s.heap [] := va_S.rf
  have hP : va_P D vwCl [] s.heap := fun k q h => by simp at h
  have hD : va_D (lZ s) [] := ⟨fun i j p q h => by simp at h, fun k q h => by simp at h⟩
  have hl := lv_entry ([.ref b]) (n := 4) (Nat.le_of_ble_eq_true rfl)
  rw [lg_entry_eq]
  generalize (lg_sl ([.ref b]) ++ List.replicate (4 - (lg_sl ([.ref b])).length) Slot.unset).toArray = ls at hl ⊢
  have hl : lv_has ls 4 [(0, .ref b)] := hl
  refine va_new (ci := 10) (fs := [.null, .null, .null, .null, .null, .null, .null, .null, .null, .null, .int 0, .int 0, .int 0, .int 0]) (C := RX10) (T := TX10) (N := 14) hx hb hts0 wsX100_in tyX10 tyX10_ok hown (hts0 (Cond.classLink RL 7 RX10) (List.mem_of_getElem? (i := 71) (by decide +kernel))) (hts0 (Cond.instantiable RX10 14) (List.mem_of_getElem? (i := 72) (by decide +kernel))) (hts0 (Cond.initialized RX10) (List.mem_of_getElem? (i := 51) (by decide +kernel))) hK hP hD hS hA rfl (fun j hj => by rcases (show j = 0 ∨ j = 1 ∨ j = 2 ∨ j = 3 ∨ j = 4 ∨ j = 5 ∨ j = 6 ∨ j = 7 ∨ j = 8 ∨ j = 9 ∨ j = 10 ∨ j = 11 ∨ j = 12 ∨ j = 13 by omega) with rfl | rfl | rfl | rfl | rfl | rfl | rfl | rfl | rfl | rfl | rfl | rfl | rfl | rfl <;> rfl) (Nat.le_of_ble_eq_true rfl) (Nat.le_of_ble_eq_true rfl) dL_law_0 (fun q0 H hP hD hS => ?_)
  refine W.widen (k := 1) (n := 14) (Nat.le_of_ble_eq_true rfl) (Nat.le_of_ble_eq_true rfl) ?_
  have hL0 : lX D (lZ s) s [(q0, .inr (10, [.null, .null, .null, .null, .null, .null, .null, .null, .null, .null, .int 0, .int 0, .int 0, .int 0]))] [] H [] := ⟨hP, fun k q h => by simp at h, hD, ⟨fun i j p q h => by simp at h, fun k q h => by simp at h⟩, fun i j x y _ h => by simp at h, hS⟩
  refine lv_dup hx hb dL_law_3 rfl ?_
  have hFc : ∀ q, va_A [(q0, .inr (10, [.null, .null, .null, .null, .null, .null, .null, .null, .null, .null, .int 0, .int 0, .int 0, .int 0]))] H.size q → lZ s q := g_free hL0.g hA
  refine va_callv (va_runI (As := []) (rest := [.ref q0]) ⟨hx, hb, hml, hown, hts⟩ (c_X10_init l D q0 H.size) (cwI 0 hts gL_law_X10_init rfl rfl rfl (hts0 (Cond.initialized RX10) (List.mem_of_getElem? (i := 51) (by decide +kernel))) (hts0 (Cond.methodLink RL 9 yX10_init) (List.mem_of_getElem? (i := 73) (by decide +kernel))) (hts0 (Cond.instanceMethod yX10_init) (List.mem_of_getElem? (i := 74) (by decide +kernel))) rfl (by decide +kernel) ⟨Nat.le_of_ble_eq_true rfl, Nat.le_of_ble_eq_true rfl⟩) ⟨bI_bl, fun U hU hW => ⟨rfl, by rw [hU], by rw [hU]; exact hL0.1, va_K.moved hW.alike hK, hL0.2.2.1.weaken (fun _ _ _ _ => trivial)⟩⟩ rfl rfl hl.1 rfl (lv_room (Nat.le_of_ble_eq_true rfl)) dL_law_4 ⟨Nat.le_of_ble_eq_true rfl, Nat.le_of_ble_eq_true rfl⟩) hS (fun q _ h => hFc q h) hFc (fun u0 t H1 locs ht hvm hw hB hz1 hk1 hS => ?_)
  obtain ⟨hP1, hK1, hD1⟩ := hB
  rw [ht] at hP1
  have hKG : va_K D vwCl (tG u0.2) s := va_K.moved hvm.symm hK1
  have hL1 := hL0.step hk1 hFc hP1 hD1 hS
  clear hL0 hP1 hD1 hP hD hk1 hFc
  generalize H1 = H at hL1 hS ⊢
  obtain ⟨a, eG⟩ : ∃ x : Nat → Nat, x = fun i => if i = 0 then q0 else u0.1 i := ⟨_, rfl⟩
  have eG0 : q0 = a 0 := ((congrFun eG 0).trans (if_pos rfl)).symm
  have hP : va_P D vwCl (wG a u0.2 0 0 0 0 0 0 0 0 0 0 0 0 0 0 0 0 0 0 (fun _ => 0) (fun _ => 0) (fun _ => 0) (fun _ => 0) (fun _ => 0) (fun _ => 0) (fun _ => 0) (fun _ => 0) (fun _ => 0) (fun _ => 0) (fun _ => 0) (fun _ => 0) (fun _ => 0) (fun _ => 0) (fun _ => 0) (fun _ => 0)) H := by rw [eG]; exact hL1.1
  have hD : va_D (lZ s) (wG a u0.2 0 0 0 0 0 0 0 0 0 0 0 0 0 0 0 0 0 0 (fun _ => 0) (fun _ => 0) (fun _ => 0) (fun _ => 0) (fun _ => 0) (fun _ => 0) (fun _ => 0) (fun _ => 0) (fun _ => 0) (fun _ => 0) (fun _ => 0) (fun _ => 0) (fun _ => 0) (fun _ => 0) (fun _ => 0) (fun _ => 0)) := by rw [eG]; exact hL1.2.2.1
  refine W.widen (k := 29) (n := 2196) (Nat.le_of_ble_eq_true rfl) (Nat.le_of_ble_eq_true rfl) ?_
  refine lv_astore_n (lv' := [(1, .ref q0), (0, .ref b)]) hx hb dL_law_7 rfl hl (by decide) rfl (fun ls hl => ?_)
  refine va_new (ci := 11) (fs := [.int 0, .int 0, .null, .null, .int 0, .int 0, .int 0, .int 0, .int 0, .null, .null, .null, .int 0, .null, .int 0, .int 0, .null, .null, .null, .null, .null, .long 0, .int 0, .int 0, .int 0, .int 0, .int 0, .int 0, .int 0, .null, .null, .null, .null, .long 0]) (C := RX11) (T := TX11) (N := 34) hx hb hts0 wsX110_in tyX11 tyX11_ok hown (hts0 (Cond.classLink RL 10 RX11) (List.mem_of_getElem? (i := 757) (by decide +kernel))) (hts0 (Cond.instantiable RX11 34) (List.mem_of_getElem? (i := 758) (by decide +kernel))) (hts0 (Cond.initialized RX11) (List.mem_of_getElem? (i := 62) (by decide +kernel))) hK hP hD hS hA rfl (fun j hj => by rcases (show j = 0 ∨ j = 1 ∨ j = 2 ∨ j = 3 ∨ j = 4 ∨ j = 5 ∨ j = 6 ∨ j = 7 ∨ j = 8 ∨ j = 9 ∨ j = 10 ∨ j = 11 ∨ j = 12 ∨ j = 13 ∨ j = 14 ∨ j = 15 ∨ j = 16 ∨ j = 17 ∨ j = 18 ∨ j = 19 ∨ j = 20 ∨ j = 21 ∨ j = 22 ∨ j = 23 ∨ j = 24 ∨ j = 25 ∨ j = 26 ∨ j = 27 ∨ j = 28 ∨ j = 29 ∨ j = 30 ∨ j = 31 ∨ j = 32 ∨ j = 33 by omega) with rfl | rfl | rfl | rfl | rfl | rfl | rfl | rfl | rfl | rfl | rfl | rfl | rfl | rfl | rfl | rfl | rfl | rfl | rfl | rfl | rfl | rfl | rfl | rfl | rfl | rfl | rfl | rfl | rfl | rfl | rfl | rfl | rfl | rfl <;> rfl) (Nat.le_of_ble_eq_true rfl) (Nat.le_of_ble_eq_true rfl) dL_law_8 (fun q1 H hP hD hS => ?_)
  refine W.widen (k := 30) (n := 2230) (Nat.le_of_ble_eq_true rfl) (Nat.le_of_ble_eq_true rfl) ?_
  have hL0 : lX D (lZ s) s [(q1, .inr (11, [.int 0, .int 0, .null, .null, .int 0, .int 0, .int 0, .int 0, .int 0, .null, .null, .null, .int 0, .null, .int 0, .int 0, .null, .null, .null, .null, .null, .long 0, .int 0, .int 0, .int 0, .int 0, .int 0, .int 0, .int 0, .null, .null, .null, .null, .long 0]))] (wG a u0.2 0 0 0 0 0 0 0 0 0 0 0 0 0 0 0 0 0 0 (fun _ => 0) (fun _ => 0) (fun _ => 0) (fun _ => 0) (fun _ => 0) (fun _ => 0) (fun _ => 0) (fun _ => 0) (fun _ => 0) (fun _ => 0) (fun _ => 0) (fun _ => 0) (fun _ => 0) (fun _ => 0) (fun _ => 0) (fun _ => 0)) H locs := (lX.of hP hD hS).swap
  refine lv_dup hx hb dL_law_11 rfl ?_
  have hFc : ∀ q, va_A [(q1, .inr (11, [.int 0, .int 0, .null, .null, .int 0, .int 0, .int 0, .int 0, .int 0, .null, .null, .null, .int 0, .null, .int 0, .int 0, .null, .null, .null, .null, .null, .long 0, .int 0, .int 0, .int 0, .int 0, .int 0, .int 0, .int 0, .null, .null, .null, .null, .long 0]))] H.size q → lZ s q := g_free hL0.g hA
  refine va_callv (va_runI (As := []) (rest := [.ref q1]) ⟨hx, hb, hml, hown, hts⟩ (c_X11_init l D q1 H.size) (cwI 0 hts gL_law_X11_init rfl rfl rfl (hts0 (Cond.initialized RX11) (List.mem_of_getElem? (i := 62) (by decide +kernel))) (hts0 (Cond.methodLink RL 12 yX11_init) (List.mem_of_getElem? (i := 759) (by decide +kernel))) (hts0 (Cond.instanceMethod yX11_init) (List.mem_of_getElem? (i := 760) (by decide +kernel))) rfl (by decide +kernel) ⟨Nat.le_of_ble_eq_true rfl, Nat.le_of_ble_eq_true rfl⟩) ⟨bI_bl, fun U hU hW => ⟨rfl, by rw [hU], by rw [hU]; exact hL0.1, va_K.moved hW.alike hK, hL0.2.2.1.weaken (fun _ _ _ _ => trivial)⟩⟩ rfl rfl hl.1 rfl (lv_room (Nat.le_of_ble_eq_true rfl)) dL_law_12 ⟨Nat.le_of_ble_eq_true rfl, Nat.le_of_ble_eq_true rfl⟩) hS (fun q _ h => hFc q h) hFc (fun u1 t H1 locs ht hvm hw hB hz1 hk1 hS => ?_)
  obtain ⟨hP1, hK1, hD1⟩ := hB
  rw [ht] at hP1
  have hKM : va_K D vwCl (tM u1.2) s := va_K.moved hvm.symm hK1
  have hL1 := hL0.step hk1 hFc hP1 hD1 hS
  clear hL0 hP1 hD1 hP hD hk1 hFc
  generalize H1 = H at hL1 hS ⊢
  obtain ⟨a', eM⟩ : ∃ x : Nat → Nat, x = fun i => if i = 0 then q1 else u1.1 i := ⟨_, rfl⟩
  have eM0 : q1 = a' 0 := ((congrFun eM 0).trans (if_pos rfl)).symm
  have hL2 : lX D (lZ s) s (wG a u0.2 0 0 0 0 0 0 0 0 0 0 0 0 0 0 0 0 0 0 (fun _ => 0) (fun _ => 0) (fun _ => 0) (fun _ => 0) (fun _ => 0) (fun _ => 0) (fun _ => 0) (fun _ => 0) (fun _ => 0) (fun _ => 0) (fun _ => 0) (fun _ => 0) (fun _ => 0) (fun _ => 0) (fun _ => 0) (fun _ => 0)) (wM a' u1.2 0 0 0 0 0 0 0 0 0 0 0 0 0 0 0 0 0 0 0 (fun _ => 0) (fun _ => 0) (fun _ => 0) (fun _ => 0) (fun _ => 0) (fun _ => 0) (fun _ => 0) (fun _ => 0) (fun _ => 0) (fun _ => 0) (fun _ => 0) (fun _ => 0) (fun _ => 0) (fun _ => 0) (fun _ => 0)) H locs := by rw [eM]; exact hL1.swap
  refine W.widen (k := 45) (n := 4118) (Nat.le_of_ble_eq_true rfl) (Nat.le_of_ble_eq_true rfl) ?_
  refine lv_astore_n (lv' := [(2, .ref q1), (1, .ref q0), (0, .ref b)]) hx hb dL_law_15 rfl hl (by decide) rfl (fun ls hl => ?_)
  refine lv_iconst (v := 0) hx hb dL_law_16 (by decide) ?_
  refine lv_istore_n (lv' := [(3, .int 0), (2, .ref q1), (1, .ref q0), (0, .ref b)]) hx hb dL_law_17 rfl hl (by decide) rfl (fun ls hl => ?_)
  have hl2 : lv_has ls 4 [(0, .ref b), (1, .ref (a 0)), (2, .ref (a' 0)), (3, .int (nI (4 * 0)))] := by rw [← eG0, ← eM0]; exact lv_sub hl [3, 2, 1, 0] rfl
  exact law_loop (D := D) (E := E) hL C0 ⟨hKG, hN, hA, hE1, hE2⟩ ⟨hKM, hN, hA, hE1, hE2⟩ (L + 1) 0 (by omega) (Nat.zero_le L) _ _ ls ⟨_, _, _, _, _, _, _, _, _, _, _, _, _, _, _, _, _, _, _, _, _, _, _, _, _, _, _, _, _, _, _, _, _, _, _, _, _, _, _, _, _, _, _, _, _, _, _, _, _, _, _, _, _, _, _, _, _, _, _, _, _, _, _, _, _, _, _, _, INV_0, hL2⟩ hl2
