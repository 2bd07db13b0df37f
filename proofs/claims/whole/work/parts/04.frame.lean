/-! THE FRAME OF ALL WALKS: the nest's words, the statics that nobody writes, contracts in functional form, calls over a whole world. -/
def nwL : List Cond := [
  (.fieldLinkNest "HedgeGame$Rules" 25 "HedgeGame$Shape" "number" "I" "HedgeGame" : Cond),
  (.fieldLinkNest "HedgeGame$Lengths" 42 "HedgeGame$Shape" "number" "I" "HedgeGame" : Cond),
  (.fieldLinkNest "HedgeGame$Chances" 39 "HedgeGame$Shape" "number" "I" "HedgeGame" : Cond),
  (.fieldLinkNest "HedgeGame$Outcomes" 31 "HedgeGame$Shape" "number" "I" "HedgeGame" : Cond),
  (.fieldLinkNest "HedgeGame$Values" 31 "HedgeGame$Shape" "number" "I" "HedgeGame" : Cond),
  (.fieldLinkNest "HedgeGame" 117 "HedgeGame$Shape" "number" "I" "HedgeGame" : Cond),
  (.fieldLinkNest "HedgeGame" 132 "HedgeGame$Shape" "on" "[I" "HedgeGame" : Cond),
  (.fieldLinkNest "HedgeGame$Rules" 19 "HedgeGame$Shape" "above" "[I" "HedgeGame" : Cond),
  (.fieldLinkNest "HedgeGame" 142 "HedgeGame$Shape" "above" "[I" "HedgeGame" : Cond),
  (.fieldLinkNest "HedgeGame" 273 "HedgeGame$Shape" "sets" "[I" "HedgeGame" : Cond),
  (.fieldLinkNest "HedgeGame" 270 "HedgeGame$Shape" "setCount" "I" "HedgeGame" : Cond),
  (.fieldLinkNest "HedgeGame$Moment" 38 "HedgeGame$Seen" "size" "I" "HedgeGame" : Cond),
  (.fieldLinkNest "HedgeGame" 207 "HedgeGame$Seen" "size" "I" "HedgeGame" : Cond),
  (.fieldLinkNest "HedgeGame" 288 "HedgeGame$Seen" "branches" "[I" "HedgeGame" : Cond),
  (.fieldLinkNest "HedgeGame" 291 "HedgeGame$Seen" "beginners" "[I" "HedgeGame" : Cond),
  (.fieldLinkNest "HedgeGame" 294 "HedgeGame$Seen" "won" "[Z" "HedgeGame" : Cond),
  (.fieldLinkNest "HedgeGame$Rules" 33 "HedgeGame$Moment" "kinds" "[I" "HedgeGame" : Cond),
  (.fieldLinkNest "HedgeGame$Outcomes" 56 "HedgeGame$Moment" "kinds" "[I" "HedgeGame" : Cond),
  (.fieldLinkNest "HedgeGame" 128 "HedgeGame$Moment" "kinds" "[I" "HedgeGame" : Cond),
  (.fieldLinkNest "HedgeGame" 135 "HedgeGame$Moment" "standing" "I" "HedgeGame" : Cond),
  (.fieldLinkNest "HedgeGame" 158 "HedgeGame$Moment" "turn" "I" "HedgeGame" : Cond),
  (.fieldLinkNest "HedgeGame" 161 "HedgeGame$Moment" "cuts" "I" "HedgeGame" : Cond),
  (.fieldLinkNest "HedgeGame" 203 "HedgeGame$Moment" "seen" "LHedgeGame$Seen;" "HedgeGame" : Cond),
  (.fieldLinkNest "HedgeGame$Lengths" 38 "HedgeGame$Rules" "shape" "LHedgeGame$Shape;" "HedgeGame" : Cond),
  (.fieldLinkNest "HedgeGame$Chances" 33 "HedgeGame$Rules" "shape" "LHedgeGame$Shape;" "HedgeGame" : Cond),
  (.fieldLinkNest "HedgeGame$Outcomes" 25 "HedgeGame$Rules" "shape" "LHedgeGame$Shape;" "HedgeGame" : Cond),
  (.fieldLinkNest "HedgeGame$Values" 25 "HedgeGame$Rules" "shape" "LHedgeGame$Shape;" "HedgeGame" : Cond),
  (.fieldLinkNest "HedgeGame$Outcomes" 52 "HedgeGame$Rules" "now" "LHedgeGame$Moment;" "HedgeGame" : Cond),
  (.fieldLinkNest "HedgeGame" 224 "HedgeGame$Lottery" "seed" "I" "HedgeGame" : Cond),
  (.fieldLinkNest "HedgeGame" 218 "HedgeGame$Lottery" "whiteWon" "I" "HedgeGame" : Cond),
  (.fieldLinkNest "HedgeGame" 221 "HedgeGame$Lottery" "cutsDone" "I" "HedgeGame" : Cond),
  (.methodLinkNest "HedgeGame$Outcomes" 19 ⟨"HedgeGame", "place", "(II)I"⟩ "HedgeGame" : Cond),
  (.methodLinkNest "HedgeGame$Lengths" 23 ⟨"HedgeGame", "place", "(II)I"⟩ "HedgeGame" : Cond),
  (.methodLinkNest "HedgeGame$Chances" 19 ⟨"HedgeGame", "place", "(II)I"⟩ "HedgeGame" : Cond)]
def nwIs : Cond → Bool
  | .fieldLinkNest _ _ _ _ _ _ => true
  | .methodLinkNest _ _ _ _ => true
  | _ => false
def nwA (U : State) : Prop := ∀ w ∈ nwL, va_Nw w U
theorem nwL_is : ∀ w ∈ nwL, nwIs w = true := by decide +kernel
theorem nw_same {w : Cond} (h : nwIs w = true) {u U : State} (e : u.vm = U.vm) (hZ : va_Nw w u) : va_Nw w U := by
  cases w <;> first | exact Bool.noConfusion h | exact va_Nw.same rfl e hZ
theorem nw_warm {w : Cond} (h : nwIs w = true) {s U : State} (e : s.WarmedH U.vm) (hZ : va_Nw w s) : va_Nw w U := by
  cases w <;> first | exact Bool.noConfusion h | exact va_Nw.warmF e hZ | exact va_Nw.warmM e hZ
theorem nwA.same {u U : State} (e : u.vm = U.vm) (h : nwA u) : nwA U := fun w hw => nw_same (nwL_is w hw) e (h w hw)
theorem nwA.warm {s U : State} (e : s.WarmedH U.vm) (h : nwA s) : nwA U := fun w hw => nw_warm (nwL_is w hw) e (h w hw)
theorem nw_on {w : Cond} (h : nwIs w = true) : w.onTables = true := by
  cases w <;> first | exact Bool.noConfusion h | rfl
theorem nwA.get {U : State} (h : nwA U) (i : Nat) {w : Cond} (hi : nwL[i]? = some w) {args : Array Value} : w.before args U = true :=
  va_Nw.use (nw_on (nwL_is w (List.mem_of_getElem? hi))) (h w (List.mem_of_getElem? hi))
theorem nwA.at {U : State} (h : nwA U) (i : Nat) {w : Cond} (hi : nwL[i]? = some w) : va_Nw w U := h w (List.mem_of_getElem? hi)
/-- the statics: the table SUCH_KINDS, the text of the kinds' letters, COMPACT_STRINGS -/
abbrev sE : Type := Nat × Nat × Nat
def sF (E : sE) (A : Nat → Prop) (U : State) (H : Heap) : Prop :=
  va_Z "HedgeGame" "SUCH_KINDS" "[I" (.ref E.1) A U H ∧ va_T .int E.1 5 (fun j => .int (([31, 18, 4, 8, 16] : List Int32).getD j 0)) A U H ∧
  vk_S 1 [5] [[98, 119, 100, 105, 116]] (fun _ => E.2.1) (fun _ => E.2.2) A U H ∧ va_Z "java/lang/String" "COMPACT_STRINGS" "Z" (.int 1) A U H
theorem sF.moved {E : sE} {A : Nat → Prop} {u U : State} {H : Heap} (h : u.vm.Alike U.vm) (k : sF E A u H) : sF E A U H := ⟨k.1.moved h, k.2.1.moved h, k.2.2.1.moved h, k.2.2.2.moved h⟩
theorem sF.kept {E : sE} {A : Nat → Prop} {U : State} {H H1 : Heap} (k : sF E A U H) (hq : ∀ a : Nat, a < H.size → ¬ A a → H1[a]? = H[a]?) : sF E A U H1 := ⟨k.1.kept hq, k.2.1.kept hq, k.2.2.1.kept hq, k.2.2.2.kept hq⟩
theorem sF.narrow {E : sE} {A B : Nat → Prop} {U : State} {H : Heap} (k : sF E A U H) (hq : ∀ q, B q → A q) : sF E B U H := ⟨k.1.narrow hq, k.2.1.narrow hq, k.2.2.1.narrow hq, k.2.2.2.narrow hq⟩
abbrev sR (E : sE) (U : State) : Prop := vk_R "HedgeGame$Page" 27 "bwdit" E.2.1 U
/-- a method's start -/
def gB (D : va_G) (E : sE) (tys : List (ClassId × FieldType)) (w : va_W) (sz : Nat) : State → Prop := fun U => U.heap.size = sz ∧ va_P D vwCl w U.heap ∧ va_K D vwCl tys U ∧ va_D (fun _ => True) w ∧ nwA U ∧ sF E (va_A w sz) U U.heap ∧ sR E U
theorem gB_bl {D : va_G} {E : sE} {tys : List (ClassId × FieldType)} {w : va_W} {sz : Nat} {av : List Value} : FrameBlind (va_Pc av (gB D E tys w sz)) := fun a U g mk q => by
  obtain ⟨q0, q1, qP, qK, qD, qn, qs, qr⟩ := q
  exact ⟨q0, q1, qP, va_K.moved (u := U) (U := U.calling g mk a) (Vm.Alike.refl U.vm) qK, qD, nwA.same (u := U) rfl qn, sF.moved (u := U) (U := U.calling g mk a) (Vm.Alike.refl U.vm) qs, vk_R.same (u := U) rfl qr⟩
/-- a world, standing in a body -/
def gX (D : va_G) (Z : Nat → Prop) (s : State) (w : va_W) (H : Heap) (locs : List Loc) : Prop := va_P D vwCl w H ∧ va_D Z w ∧ va_S Z s.heap H locs
/-- what else stands in a body -/
def gS (D : va_G) (E : sE) (tys : List (ClassId × FieldType)) (Z : Nat → Prop) (s : State) : Prop := va_K D vwCl tys s ∧ nwA s ∧ (∀ q, s.heap.size ≤ q → Z q) ∧ sF E Z s s.heap ∧ sR E s
def gE (D : va_G) (w : va_W) (Z : Nat → Prop) (_ : Unit) (t : State) : Prop := va_P D vwCl w t.heap ∧ va_D Z w
def gQi (D : va_G) (w : va_W) (r : Int32) (Z : Nat → Prop) : Array Value → State → Outcome → State → Prop := va_Qi (fun x (_ : Unit) => x = r) (gE D w Z) Z
def gQl (D : va_G) (w : va_W) (r : Int64) (Z : Nat → Prop) : Array Value → State → Outcome → State → Prop := va_Ql (fun x (_ : Unit) => x = r) (gE D w Z) Z
def gQv (D : va_G) (w : va_W) (Z : Nat → Prop) : Array Value → State → Outcome → State → Prop := va_Qv (fun (_ : Unit) => True) (gE D w Z) Z
/-- contracts: over the world w, with these arguments, the answer is r and the world is w2 -/
def gMi (l : Launch) (y : MethodName) (ws : List Cond) (rm : Room) (D : va_G) (E : sE) (tys : List (ClassId × FieldType)) (av : List Value) (w w2 : va_W) (r : Int32) : Prop := ∀ sz : Nat, Met l y ws rm (va_Pc av (gB D E tys w sz)) (gQi D w2 r (va_A w sz)) 0 0 (va_A w sz)
def gMl (l : Launch) (y : MethodName) (ws : List Cond) (rm : Room) (D : va_G) (E : sE) (tys : List (ClassId × FieldType)) (av : List Value) (w w2 : va_W) (r : Int64) : Prop := ∀ sz : Nat, Met l y ws rm (va_Pc av (gB D E tys w sz)) (gQl D w2 r (va_A w sz)) 0 0 (va_A w sz)
def gMv (l : Launch) (y : MethodName) (ws : List Cond) (rm : Room) (D : va_G) (E : sE) (tys : List (ClassId × FieldType)) (av : List Value) (w w2 : va_W) : Prop := ∀ sz : Nat, Met l y ws rm (va_Pc av (gB D E tys w sz)) (gQv D w2 (va_A w sz)) 0 0 (va_A w sz)
theorem gM_of {l : Launch} {y : MethodName} {ws ws' : List Cond} {rm : Room} {D : va_G} {E : sE} {tys : List (ClassId × FieldType)} {av : List Value} {w : va_W} {cc : ByteArray} {maxL : Nat} {ret : Option FieldType} {Qf : (Nat → Prop) → Array Value → State → Outcome → State → Prop}
    (hy : plainName y.cls = true) (hw : ws = Cond.code y cc maxL ret :: ws') (hn : (lg_sl av).length ≤ maxL)
    (body : ∀ (p : Program) (e : Env) (s : State) (m : MethodId) (args : Array Value) (below : List Frame) (meth : Method) (c : Code) (Z : Nat → Prop) (ls : Array Slot) (Qz : State → Prop), p.tables.exec = Jvm.exec → c.code = cc → meth.sig.returnType = ret → c.maxLocals = maxL → meth.locks = false → s.vm.findClass y.cls = some m.cls → (∀ q ∈ ws, q.before args s = true) → gS D E tys Z s → gX D Z s w s.heap [] → lv_has ls maxL (lv_args 0 av) → Qz = MQ below (Qf Z) args s 0 0 Z →
      W p l e rm s m args below meth c s.heap [] 0 0 Qz (F0 m 0 ls [])) :
    ∀ sz : Nat, Met l y ws rm (va_Pc av (gB D E tys w sz)) (Qf (va_A w sz)) 0 0 (va_A w sz) := by
  intro sz
  refine Met.ofW (cc := cc) (maxL := maxL) (ret := ret) hy hw ?_
  intro p e s m args below meth c s₁ B hml hv
  obtain ⟨rfl, hsz, hP, hK, hD0, hnw, hs, hr⟩ := hv
  have hts := atoms_spec (ws := ws) B.pre
  have hown : s.vm.findClass y.cls = some m.cls := findClass_of_methodNamed B.named
  subst hsz
  have hl := lv_entry av (n := maxL) hn
  rw [lg_entry_eq]
  exact body p e s m _ below meth c (va_A w s.heap.size) _ _ B.exec B.bytes B.returns hml B.notSynchronized hown hts ⟨hK, hnw, fun q h => Or.inr h, hs, hr⟩ ⟨hP, hD0.self, va_S.rf⟩ hl rfl
section GR
variable {p : Program} {l : Launch} {e : Env} {R : Room} {s : State} {m : MethodId} {args : Array Value} {below : List Frame} {meth : Method} {c : Code} {H : Heap} {locs : List Loc} {cells slots : Nat} {Q : State → Prop} {D : va_G} {E : sE} {tys : List (ClassId × FieldType)} {Z : Nat → Prop} {w w2 : va_W} {cc : ByteArray} {pc : Nat} {ls : Array Slot}
theorem g_iret {v r : Int32} (hx : p.tables.exec = Jvm.exec) (hb : c.code = cc) (hr : meth.sig.returnType = some .int) (hlocks : meth.locks = false) (hX : gX D Z s w H locs) (hq : Q = MQ below (gQi D w r Z) args s cells slots Z) (he : v = r) (hdg : decode cc pc = .ok (.ireturn, 1)) : W p l e R s m args below meth c H locs cells slots Q (F0 m pc ls [.int v]) := by
  subst he
  subst hq
  exact W.iret hx hb hr (fun t ht hW => ⟨⟨v, (), rfl, rfl, by rw [ht]; exact hX.1, hX.2.1⟩, hX.2.2.F ht⟩) hX.2.2.2.2 hdg
theorem g_zret {v r : Int32} {ty : FieldType} (hx : p.tables.exec = Jvm.exec) (hb : c.code = cc) (hr : meth.sig.returnType = some ty) (hn : narrow ty (.int v) = .int v) (hlocks : meth.locks = false) (hX : gX D Z s w H locs) (hq : Q = MQ below (gQi D w r Z) args s cells slots Z) (he : v = r) (hdg : decode cc pc = .ok (.ireturn, 1)) : W p l e R s m args below meth c H locs cells slots Q (F0 m pc ls [.int v]) := by
  subst he
  subst hq
  exact W.zret hx hb hr hn (fun t ht hW => ⟨⟨v, (), rfl, rfl, by rw [ht]; exact hX.1, hX.2.1⟩, hX.2.2.F ht⟩) hX.2.2.2.2 hdg
theorem g_lret {v r : Int64} (hx : p.tables.exec = Jvm.exec) (hb : c.code = cc) (hr : meth.sig.returnType = some .long) (hlocks : meth.locks = false) (hX : gX D Z s w H locs) (hq : Q = MQ below (gQl D w r Z) args s cells slots Z) (he : v = r) (hdg : decode cc pc = .ok (.lreturn, 1)) : W p l e R s m args below meth c H locs cells slots Q (F0 m pc ls [.long v]) := by
  subst he
  subst hq
  exact W.lret hx hb hr (fun t ht hW => ⟨⟨v, (), rfl, rfl, by rw [ht]; exact hX.1, hX.2.1⟩, hX.2.2.F ht⟩) hX.2.2.2.2 hdg
theorem g_vret (hx : p.tables.exec = Jvm.exec) (hb : c.code = cc) (hr : meth.sig.returnType = none) (hlocks : meth.locks = false) (hX : gX D Z s w H locs) (hq : Q = MQ below (gQv D w Z) args s cells slots Z) (hdg : decode cc pc = .ok (.return_, 1)) : W p l e R s m args below meth c H locs cells slots Q (F0 m pc ls []) := by
  subst hq
  exact W.vret hx hb hr (fun t ht hW => ⟨⟨(), rfl, trivial, by rw [ht]; exact hX.1, hX.2.1⟩, hX.2.2.F ht⟩) hX.2.2.2.2 hdg
theorem g_free (hX : gX D Z s w H locs) (hA : ∀ q, s.heap.size ≤ q → Z q) : ∀ q, va_A w H.size q → Z q := by
  intro q h
  rcases h with ⟨k, x, h⟩ | h
  · exact hX.2.1.2 k _ h
  · exact hA q (Nat.le_trans hX.2.2.1 h)
theorem g_pre (hS : gS D E tys Z s) (hX : gX D Z s w H locs) {U : State} (hU : U.heap = H) (hW : s.WarmedH U.vm) : gB D E tys w H.size U :=
  ⟨by rw [hU], by rw [hU]; exact hX.1, va_K.moved hW.alike hS.1, hX.2.1.weaken (fun _ _ _ _ => trivial), nwA.warm hW hS.2.1, by rw [hU]; exact (sF.kept (sF.moved hW.alike hS.2.2.2.1) hX.2.2.2.1).narrow (g_free hX hS.2.2.1), vk_R.warm hW hS.2.2.2.2⟩
variable {y : MethodName} {bytes : ByteArray} {maxL nL n index : Nat} {ret : Option FieldType} {ws : List Cond} {rm : Room} {Ts : List Cond} {own C : String} {b : Addr} {As rest st0 : List Value}
theorem g_Vi {r : Int32} {q0 ci : Nat} {cq : vw_C} {fs : List Value} (F : CallFix p m c cc nL s args Ts own) (hS : gS D E tys Z s) (hX : gX D Z s w H locs) (hM : gMi l y ws rm D E tys (.ref b :: As) w w2 r) (cw : CallW R s args own cq.1 index y bytes maxL ret ws rm 0 0 n) (hc : vwCl[ci]? = some cq) (hb0 : w[q0]? = some (b, .inr (ci, fs))) (hn : As.length = n) (hsz : ls.size = nL) (hst : st0 = As.reverse ++ .ref b :: rest) (hW : (rest.map fun v => v.category).sum ≤ 8) (hdg : decode cc pc = .ok (.invokevirtual index, 3)) (hf : cells ≤ R.cells ∧ slots ≤ R.slots)
    (kk : ∀ (H : Heap) (locs : List Loc), gX D Z s w2 H locs → W p l e R s m args below meth c H locs cells slots Q (F0 m (pc + 3) ls (.int r :: rest))) : W p l e R s m args below meth c H locs cells slots Q (F0 m pc ls st0) := by
  have hF := g_free hX hS.2.2.1
  refine va_calli (va_runV F (hM H.size) cw ⟨gB_bl, va_recv hS.1 hX.1 hc hb0, fun U hU hW => ⟨rfl, g_pre hS hX hU hW⟩⟩ rfl hn hsz hst (lv_room hW) hdg hf) hX.2.2 (fun q _ h => hF q h) hF (fun x u t H1 locs1 ht hvm hw hB hz hk hS1 => ?_)
  obtain ⟨hP1, hD1⟩ := hB
  rw [ht] at hP1
  subst hw
  exact kk H1 locs1 ⟨hP1, hD1.weaken (fun _ q _ h => hF _ h), hS1⟩
theorem g_Vl {r : Int64} {q0 ci : Nat} {cq : vw_C} {fs : List Value} (F : CallFix p m c cc nL s args Ts own) (hS : gS D E tys Z s) (hX : gX D Z s w H locs) (hM : gMl l y ws rm D E tys (.ref b :: As) w w2 r) (cw : CallW R s args own cq.1 index y bytes maxL ret ws rm 0 0 n) (hc : vwCl[ci]? = some cq) (hb0 : w[q0]? = some (b, .inr (ci, fs))) (hn : As.length = n) (hsz : ls.size = nL) (hst : st0 = As.reverse ++ .ref b :: rest) (hW : (rest.map fun v => v.category).sum ≤ 8) (hdg : decode cc pc = .ok (.invokevirtual index, 3)) (hf : cells ≤ R.cells ∧ slots ≤ R.slots)
    (kk : ∀ (H : Heap) (locs : List Loc), gX D Z s w2 H locs → W p l e R s m args below meth c H locs cells slots Q (F0 m (pc + 3) ls (.long r :: rest))) : W p l e R s m args below meth c H locs cells slots Q (F0 m pc ls st0) := by
  have hF := g_free hX hS.2.2.1
  refine va_calll (va_runV F (hM H.size) cw ⟨gB_bl, va_recv hS.1 hX.1 hc hb0, fun U hU hW => ⟨rfl, g_pre hS hX hU hW⟩⟩ rfl hn hsz hst (lv_room hW) hdg hf) hX.2.2 (fun q _ h => hF q h) hF (fun x u t H1 locs1 ht hvm hw hB hz hk hS1 => ?_)
  obtain ⟨hP1, hD1⟩ := hB
  rw [ht] at hP1
  subst hw
  exact kk H1 locs1 ⟨hP1, hD1.weaken (fun _ q _ h => hF _ h), hS1⟩
theorem g_Vv {q0 ci : Nat} {cq : vw_C} {fs : List Value} (F : CallFix p m c cc nL s args Ts own) (hS : gS D E tys Z s) (hX : gX D Z s w H locs) (hM : gMv l y ws rm D E tys (.ref b :: As) w w2) (cw : CallW R s args own cq.1 index y bytes maxL ret ws rm 0 0 n) (hc : vwCl[ci]? = some cq) (hb0 : w[q0]? = some (b, .inr (ci, fs))) (hn : As.length = n) (hsz : ls.size = nL) (hst : st0 = As.reverse ++ .ref b :: rest) (hW : (rest.map fun v => v.category).sum ≤ 8) (hdg : decode cc pc = .ok (.invokevirtual index, 3)) (hf : cells ≤ R.cells ∧ slots ≤ R.slots)
    (kk : ∀ (H : Heap) (locs : List Loc), gX D Z s w2 H locs → W p l e R s m args below meth c H locs cells slots Q (F0 m (pc + 3) ls rest)) : W p l e R s m args below meth c H locs cells slots Q (F0 m pc ls st0) := by
  have hF := g_free hX hS.2.2.1
  refine va_callv (va_runV F (hM H.size) cw ⟨gB_bl, va_recv hS.1 hX.1 hc hb0, fun U hU hW => ⟨rfl, g_pre hS hX hU hW⟩⟩ rfl hn hsz hst (lv_room hW) hdg hf) hX.2.2 (fun q _ h => hF q h) hF (fun u t H1 locs1 ht hvm hw hB hz hk hS1 => ?_)
  obtain ⟨hP1, hD1⟩ := hB
  rw [ht] at hP1
  exact kk H1 locs1 ⟨hP1, hD1.weaken (fun _ q _ h => hF _ h), hS1⟩
theorem g_Si {r : Int32} (F : CallFix p m c cc nL s args Ts own) (hS : gS D E tys Z s) (hX : gX D Z s w H locs) (hM : gMi l y ws rm D E tys As w w2 r) (cw : CallB R s args own index y bytes maxL ret ws rm 0 0 n ∧ (Cond.static y).before args s = true) (hn : As.length = n) (hsz : ls.size = nL) (hst : st0 = As.reverse ++ rest) (hW : (rest.map fun v => v.category).sum ≤ 8) (hdg : decode cc pc = .ok (.invokestatic index, 3)) (hf : cells ≤ R.cells ∧ slots ≤ R.slots)
    (kk : ∀ (H : Heap) (locs : List Loc), gX D Z s w2 H locs → W p l e R s m args below meth c H locs cells slots Q (F0 m (pc + 3) ls (.int r :: rest))) : W p l e R s m args below meth c H locs cells slots Q (F0 m pc ls st0) := by
  have hF := g_free hX hS.2.2.1
  refine va_calli (va_runS F (hM H.size) cw ⟨gB_bl, fun U hU hW => ⟨rfl, g_pre hS hX hU hW⟩⟩ rfl hn hsz hst (lv_room hW) hdg hf) hX.2.2 (fun q _ h => hF q h) hF (fun x u t H1 locs1 ht hvm hw hB hz hk hS1 => ?_)
  obtain ⟨hP1, hD1⟩ := hB
  rw [ht] at hP1
  subst hw
  exact kk H1 locs1 ⟨hP1, hD1.weaken (fun _ q _ h => hF _ h), hS1⟩
theorem g_Ji {r : Int32} (F : CallFix p m c cc nL s args Ts own) (hS : gS D E tys Z s) (hX : gX D Z s w H locs) (hM : gMi l y ws rm D E tys (.ref E.2.1 :: As) w w2 r) (cw : CallW R s args own "java/lang/String" index y bytes maxL ret ws rm 0 0 n) (hn : As.length = n) (hsz : ls.size = nL) (hst : st0 = As.reverse ++ .ref E.2.1 :: rest) (hW : (rest.map fun v => v.category).sum ≤ 8) (hdg : decode cc pc = .ok (.invokevirtual index, 3)) (hf : cells ≤ R.cells ∧ slots ≤ R.slots)
    (kk : ∀ (H : Heap) (locs : List Loc), gX D Z s w2 H locs → W p l e R s m args below meth c H locs cells slots Q (F0 m (pc + 3) ls (.int r :: rest))) : W p l e R s m args below meth c H locs cells slots Q (F0 m pc ls st0) := by
  have hF := g_free hX hS.2.2.1
  refine va_calli (va_runV F (hM H.size) cw ⟨gB_bl, vk_recv hS.2.2.2.1.2.2.1 (i := 0) (by decide) hX.2.2, fun U hU hW => ⟨rfl, g_pre hS hX hU hW⟩⟩ rfl hn hsz hst (lv_room hW) hdg hf) hX.2.2 (fun q _ h => hF q h) hF (fun x u t H1 locs1 ht hvm hw hB hz hk hS1 => ?_)
  obtain ⟨hP1, hD1⟩ := hB
  rw [ht] at hP1
  subst hw
  exact kk H1 locs1 ⟨hP1, hD1.weaken (fun _ q _ h => hF _ h), hS1⟩
theorem g_SNi {r : Int32} {host : String} (F : CallFix p m c cc nL s args Ts own) (hS : gS D E tys Z s) (hX : gX D Z s w H locs) (hM : gMi l y ws rm D E tys As w w2 r) (cw : va_CN R s args own index y host bytes maxL ret ws rm 0 0 n ∧ (Cond.static y).before args s = true ∧ True) (hn : As.length = n) (hsz : ls.size = nL) (hst : st0 = As.reverse ++ rest) (hW : (rest.map fun v => v.category).sum ≤ 8) (hdg : decode cc pc = .ok (.invokestatic index, 3)) (hf : cells ≤ R.cells ∧ slots ≤ R.slots)
    (kk : ∀ (H : Heap) (locs : List Loc), gX D Z s w2 H locs → W p l e R s m args below meth c H locs cells slots Q (F0 m (pc + 3) ls (.int r :: rest))) : W p l e R s m args below meth c H locs cells slots Q (F0 m pc ls st0) := by
  have hF := g_free hX hS.2.2.1
  refine va_calli (va_runSN F (hM H.size) cw ⟨gB_bl, fun U hU hW => ⟨rfl, g_pre hS hX hU hW⟩⟩ rfl hn hsz hst (lv_room hW) hdg hf) hX.2.2 (fun q _ h => hF q h) hF (fun x u t H1 locs1 ht hvm hw hB hz hk hS1 => ?_)
  obtain ⟨hP1, hD1⟩ := hB
  rw [ht] at hP1
  subst hw
  exact kk H1 locs1 ⟨hP1, hD1.weaken (fun _ q _ h => hF _ h), hS1⟩
end GR
/-! numbers: what a comparison says of the integers behind -/
theorem i_le {x y : Int32} (h : x ≤ y) : x.toInt ≤ y.toInt := Int32.le_iff_toInt_le.mp h
theorem i_lt {x y : Int32} (h : x < y) : x.toInt < y.toInt := Int32.lt_iff_toInt_lt.mp h
theorem i_nle {x y : Int32} (h : ¬ x ≤ y) : y.toInt < x.toInt := by
  have := mt Int32.le_iff_toInt_le.mpr h; omega
theorem i_nlt {x y : Int32} (h : ¬ x < y) : y.toInt ≤ x.toInt := by
  have := mt Int32.lt_iff_toInt_lt.mpr h; omega
theorem i_eq {x y : Int32} (h : x = y) : x.toInt = y.toInt := congrArg _ h
theorem i_ne {x y : Int32} (h : ¬ x = y) : x.toInt ≠ y.toInt := fun q => h (Int32.toInt_inj.mp q)
theorem i_rg (x : Int32) : -2147483648 ≤ x.toInt ∧ x.toInt < 2147483648 := ⟨Int32.le_toInt x, Int32.toInt_lt x⟩
theorem i_bm {z : Int} (h1 : -2147483648 ≤ z) (h2 : z < 2147483648) : z.bmod (2 ^ 32) = z := by
  rw [Int.bmod_def]; omega
theorem i_add {x y : Int32} (h1 : -2147483648 ≤ x.toInt + y.toInt) (h2 : x.toInt + y.toInt < 2147483648) : (x + y).toInt = x.toInt + y.toInt := by rw [Int32.toInt_add]; exact i_bm h1 h2
theorem i_sub {x y : Int32} (h1 : -2147483648 ≤ x.toInt - y.toInt) (h2 : x.toInt - y.toInt < 2147483648) : (x - y).toInt = x.toInt - y.toInt := by rw [Int32.toInt_sub]; exact i_bm h1 h2
theorem i_mul {x y : Int32} (h1 : -2147483648 ≤ x.toInt * y.toInt) (h2 : x.toInt * y.toInt < 2147483648) : (x * y).toInt = x.toInt * y.toInt := by rw [Int32.toInt_mul]; exact i_bm h1 h2
theorem i_s1 {x : Int32} (h : x.toInt < 2147483647) : (x + 1).toInt = x.toInt + 1 := by
  have h0 := i_rg x
  have : (1 : Int32).toInt = 1 := rfl
  rw [i_add (by omega) (by omega), this]
/-! facts of numbers that the walks use -/
theorem z_nar01 {v : Int32} (h : v.toInt = 0 ∨ v.toInt = 1) : narrow .boolean (.int v) = .int v := by
  rcases h with h | h
  · have : v = 0 := Int32.toInt_inj.mp h
    subst this; rfl
  · have : v = 1 := Int32.toInt_inj.mp h
    subst this; rfl
theorem o_2s {z : Int32} (h : 0 ≤ z.toInt ∧ z.toInt < 256) : vp_in ((2 : Int32) * z) 512 := by
  have t2 : (2 : Int32).toInt = 2 := rfl
  have e1 : ((2 : Int32) * z).toInt = 2 * z.toInt := by rw [i_mul (by rw [t2]; omega) (by rw [t2]; omega), t2]
  exact vp_in_iff.mpr (by omega)
theorem o_2s1 {z : Int32} (h : 0 ≤ z.toInt ∧ z.toInt < 256) : vp_in ((2 : Int32) * z + (1 : Int32)) 512 := by
  have t2 : (2 : Int32).toInt = 2 := rfl
  have t1 : (1 : Int32).toInt = 1 := rfl
  have e1 : ((2 : Int32) * z).toInt = 2 * z.toInt := by rw [i_mul (by rw [t2]; omega) (by rw [t2]; omega), t2]
  have e2 := i_add (x := (2 : Int32) * z) (y := 1) (by omega) (by omega)
  exact vp_in_iff.mpr (by omega)
theorem o_2sw {z w : Int32} (h : 0 ≤ z.toInt ∧ z.toInt < 256) (hw : 0 ≤ w.toInt ∧ w.toInt ≤ 1) : vp_in ((2 : Int32) * z + w) 512 := by
  have t2 : (2 : Int32).toInt = 2 := rfl
  have e1 : ((2 : Int32) * z).toInt = 2 * z.toInt := by rw [i_mul (by rw [t2]; omega) (by rw [t2]; omega), t2]
  have e2 := i_add (x := (2 : Int32) * z) (y := w) (by omega) (by omega)
  exact vp_in_iff.mpr (by omega)
theorem o_2s1w {z w : Int32} (h : 0 ≤ z.toInt ∧ z.toInt < 256) (hw : 0 ≤ w.toInt ∧ w.toInt ≤ 1) : vp_in ((2 : Int32) * z + (1 : Int32) - w) 512 := by
  have t2 : (2 : Int32).toInt = 2 := rfl
  have t1 : (1 : Int32).toInt = 1 := rfl
  have e1 : ((2 : Int32) * z).toInt = 2 * z.toInt := by rw [i_mul (by rw [t2]; omega) (by rw [t2]; omega), t2]
  have e2 := i_add (x := (2 : Int32) * z) (y := 1) (by omega) (by omega)
  have e3 := i_sub (x := (2 : Int32) * z + 1) (y := w) (by omega) (by omega)
  exact vp_in_iff.mpr (by omega)
theorem i_and {x y : Int32} (h : 0 ≤ x.toInt) : 0 ≤ (x &&& y).toInt ∧ (x &&& y).toInt ≤ x.toInt := by
  have e : ∀ z : Int32, 0 ≤ z.toInt → z.toInt = (z.toBitVec.toNat : Int) ∧ z.toBitVec.toNat < 2 ^ 31 := by
    intro z hz
    have hlt := z.toBitVec.isLt
    have hh : z.toInt = z.toBitVec.toInt := rfl
    have h0 := BitVec.toInt_eq_toNat_cond z.toBitVec
    by_cases h2 : 2 * z.toBitVec.toNat < 2 ^ 32
    · rw [if_pos h2] at h0
      omega
    · rw [if_neg h2] at h0
      omega
  obtain ⟨h1, h2⟩ := e x h
  have h3 : (x &&& y).toBitVec.toNat = x.toBitVec.toNat &&& y.toBitVec.toNat := rfl
  have h4 : x.toBitVec.toNat &&& y.toBitVec.toNat ≤ x.toBitVec.toNat := Nat.and_le_left
  have h5 : (x &&& y).toInt = ((x &&& y).toBitVec.toNat : Int) := by
    have hh : (x &&& y).toInt = (x &&& y).toBitVec.toInt := rfl
    rw [hh, BitVec.toInt_eq_toNat_cond, if_pos (by rw [h3]; omega)]
  rw [h5, h3, h1]
  omega
theorem o_and {x y : Int32} {N : Nat} (h : 0 ≤ x.toInt ∧ x.toInt < (N : Int)) : vp_in (x &&& y) N := by
  have g := i_and (x := x) (y := y) h.1
  exact vp_in_iff.mpr (by omega)
theorem o_3b {z : Int32} (h : 0 ≤ z.toInt ∧ z.toInt < 8) : vp_in ((3 : Int32) * z) 26 := by
  have t3 : (3 : Int32).toInt = 3 := rfl
  have e1 : ((3 : Int32) * z).toInt = 3 * z.toInt := by rw [i_mul (by rw [t3]; omega) (by rw [t3]; omega), t3]
  exact vp_in_iff.mpr (by omega)
theorem o_3b1 {z : Int32} (h : 0 ≤ z.toInt ∧ z.toInt < 8) : vp_in ((3 : Int32) * z + (1 : Int32)) 26 := by
  have t3 : (3 : Int32).toInt = 3 := rfl
  have t1 : (1 : Int32).toInt = 1 := rfl
  have e1 : ((3 : Int32) * z).toInt = 3 * z.toInt := by rw [i_mul (by rw [t3]; omega) (by rw [t3]; omega), t3]
  have e2 := i_add (x := (3 : Int32) * z) (y := 1) (by omega) (by omega)
  exact vp_in_iff.mpr (by omega)
theorem o_2k {z : Int32} (h : 0 ≤ z.toInt ∧ z.toInt < 5) : vp_in ((2 : Int32) * z) 10 := by
  have t2 : (2 : Int32).toInt = 2 := rfl
  have e1 : ((2 : Int32) * z).toInt = 2 * z.toInt := by rw [i_mul (by rw [t2]; omega) (by rw [t2]; omega), t2]
  exact vp_in_iff.mpr (by omega)
theorem o_2k1 {z : Int32} (h : 0 ≤ z.toInt ∧ z.toInt < 5) : vp_in ((2 : Int32) * z + (1 : Int32)) 10 := by
  have t2 : (2 : Int32).toInt = 2 := rfl
  have t1 : (1 : Int32).toInt = 1 := rfl
  have e1 : ((2 : Int32) * z).toInt = 2 * z.toInt := by rw [i_mul (by rw [t2]; omega) (by rw [t2]; omega), t2]
  have e2 := i_add (x := (2 : Int32) * z) (y := 1) (by omega) (by omega)
  exact vp_in_iff.mpr (by omega)
theorem o_2kw {z w : Int32} (h : 0 ≤ z.toInt ∧ z.toInt < 5) (hw : 0 ≤ w.toInt ∧ w.toInt ≤ 1) : vp_in ((2 : Int32) * z + w) 10 := by
  have t2 : (2 : Int32).toInt = 2 := rfl
  have e1 : ((2 : Int32) * z).toInt = 2 * z.toInt := by rw [i_mul (by rw [t2]; omega) (by rw [t2]; omega), t2]
  have e2 := i_add (x := (2 : Int32) * z) (y := w) (by omega) (by omega)
  exact vp_in_iff.mpr (by omega)
theorem i_clamp {x : Int32} {z : Int} (h : 0 ≤ x.toInt) (h2 : x.toInt < z) : (x.toNatClampNeg : Int) < z := by
  have : (x.toNatClampNeg : Int) = x.toInt := Int.toNat_of_nonneg h
  omega
theorem i_half {x : Int32} (h : 0 ≤ x.toInt ∧ x.toInt ≤ 256) : (0 ≤ (x / (2 : Int32)).toInt ∧ (x / (2 : Int32)).toInt ≤ 256) ∧ (x / (2 : Int32)).toInt = x.toInt / 2 := by
  obtain ⟨j, hj, e⟩ := nI_of (x := x) (fun q => by have := i_lt q; have t0 : (0 : Int32).toInt = 0 := rfl; omega)
  subst e
  have e1 : nI j / (2 : Int32) = nI (j / 2) := pk_div (d := 2) hj (by decide) (by decide)
  rw [nI_toInt hj] at h
  rw [e1, nI_toInt (by omega), nI_toInt hj]
  omega
theorem i_halfn {x : Int32} {n : Nat} (h : 0 < x.toInt ∧ x.toInt ≤ 256) (k : 1 ≤ n + 1 ∧ 2 * x.toInt < 2 ^ (n + 1)) : 1 ≤ n ∧ 2 * (x / (2 : Int32)).toInt < 2 ^ n := by
  have e := (i_half (x := x) (by omega)).2
  have p : (2 : Int) ^ (n + 1) = 2 * 2 ^ n := by rw [Int.pow_succ]; omega
  have k2 := k.2
  rw [p] at k2
  refine ⟨?_, by rw [e]; omega⟩
  rcases n with _ | n
  · simp at k2; omega
  · omega
theorem l_ne0 {x : Int32} (h : 0 < x.toInt) : ¬ x.toInt64 = 0 := by
  intro q
  have : x.toInt64.toInt = x.toInt := Int32.toInt_toInt64 x
  rw [q] at this
  have t0 : (0 : Int64).toInt = 0 := rfl
  omega
