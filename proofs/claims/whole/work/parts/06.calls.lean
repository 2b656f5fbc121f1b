/-! ===== calls: from the caller's frame into the callee, and out ===== -/
/-- the end of a method that our machine has run from the heap h0 to the end r with the heap h1 -/
def xs_Out (EX : List (Nat × String)) (D : xs_D) (r : xe_R) (h1 : xe_H) (o : Outcome) (t : State) : Prop := match r with
  | .inl v => o = .returned (v.map (xs_T D))
  | .inr c => (∃ C, (c, C) ∈ EX) ∧ 1 ≤ h1.1 ∧ o = .threw (D.2.1 + (h1.1 - 1)) ∧ ∃ cell : Cell, t.heap[D.2.1 + (h1.1 - 1)]? = some cell ∧ cell.cls = D.2.2.1 c ∧ cell.vm.isStatics = false
def xs_Q (EX : List (Nat × String)) (SP : Nat → Option xe_O) (G : State → Heap → Prop) (D : xs_D) (s : State) (below : List Frame) (h0 : xe_H) (r : xe_R) (h1 : xe_H) : State → Prop := fun t =>
  ∃ (o : Outcome) (L : List Loc) (mc ms : Nat), t.status = .running ∧ Ended t below o ∧ xs_Out EX D r h1 o t ∧ xs_R SP G D s h1 t.heap ∧ s.WarmedH t.vm ∧ s.sameButNew ({ t with vm := s.vm } : State) L mc ms ∧ (∀ q ∈ L, D.2.1 ≤ q.base) ∧ mc + h0.1 = h1.1 ∧ ms + h0.2.1 = h1.2.1
/-- the instruction at the frame g calls the method y with the arguments as -/
def xs_Inv (p : Program) (l : Launch) (e : Env) (R : Room) (s : State) (m : MethodId) (args : Array Value) (below : List Frame) (meth : Method) (c : Code) (g : JFrame) (rest as : List Value) (y : MethodName) (H : Heap) : Prop :=
  ∀ (T : State) (locs : List Loc) (cells slots : Nat), T.heap = H → Stand p l e R s m args below meth c T locs cells slots → ∃ (vm1 : Vm) (mk : MethodId), Stand p l e R s m args below meth c (T.setVm vm1) locs cells slots ∧ s.methodNamed? y = some mk ∧
    ∀ target, (∀ acts, Steps p.tables e below (doInvoke e ((T.setVm vm1).setTop { g with stack := rest }) acts mk as.toArray).1 target) → Steps p.tables e below (T.setTop g) target
section XC
variable {p : Program} {l : Launch} {e : Env} {R : Room} {s : State} {m : MethodId} {args : Array Value} {below : List Frame} {meth : Method} {c : Code} {H : Heap} {locs : List Loc} {cells slots : Nat} {Q : State → Prop}
variable {cl : List vw_C} {EX : List (Nat × String)} {STR : List (String × Nat × String × Nat)} {WS : List Cond} {PI : List xs_MI} {D : xs_D} {SP : Nat → Option xe_O} {G : State → Heap → Prop} {h h0 h1 : xe_H}
theorem xs_invS {own : String} {idx : Nat} {y : MethodName} {g : JFrame} {as rest : List Value} (hx : p.tables.exec = Jvm.exec) (hown : s.vm.findClass own = some m.cls) (hl : (Cond.methodLink own idx y).before args s = true ∨ ∃ host, (Cond.methodLinkNest own idx y host).before args s = true) (hst : (Cond.static y).before args s = true) (hini : (Cond.initialized y.cls).before args s = true) (hy : xs_noMH y)
    {q : xe_M} {mi : xs_MI} (hi : ∃ mk mh ck, xs_Is q mi s mk mh ck) (hmi : mi.1 = y) (hn : (parseMethodDescriptor y.desc).map (fun d => d.parameters.length) = some as.length) (hg : g.method = m) (hstack : g.stack = as.reverse ++ rest) (hdg : decode c.code g.pc = .ok (.invokestatic idx, 3)) :
    xs_Inv p l e R s m args below meth c g rest as y H := by
  intro T locs cells slots hT X
  obtain ⟨mk, mh, ck, i1, i2, i3, i4, i5, i6, i7, i8, i9⟩ := hi
  rw [hmi] at i1 i8
  have hstatic : mh.isStatic = true := Cond.static_spec i1 i2 hst
  obtain ⟨kP, hkP, -⟩ := className_of_methodNamed i1
  have hinitP : kP.init = .initialized := Cond.initialized_spec (findClass_of_methodNamed i1) hkP hini
  have hlen : as.length = mh.sig.parameters.length := by
    rw [i8] at hn
    exact (Option.some.inj hn).symm
  rcases hl with hl | ⟨host, hl⟩
  · obtain ⟨vm1, X1, st⟩ := X.invokestatic hx hown hl i1 i2 hstatic hkP hinitP hy (g := g) hg (argsL := as) (rest := rest) hlen hstack hdg
    exact ⟨vm1, mk, X1, i1, st⟩
  · obtain ⟨vm1, X1, st⟩ := X.invokestaticNest hx hown hl i1 i2 hstatic hkP hinitP hy (g := g) hg (argsL := as) (rest := rest) hlen hstack hdg
    exact ⟨vm1, mk, X1, i1, st⟩
theorem xs_invV {own C : String} {idx b : Nat} {y : MethodName} {g : JFrame} {as rest : List Value} {cellB : Cell} (hx : p.tables.exec = Jvm.exec) (hown : s.vm.findClass own = some m.cls) (hl : (Cond.methodLink own idx y).before args s = true ∨ ∃ host, (Cond.methodLinkNest own idx y host).before args s = true) (hinst : (Cond.instanceMethod y).before args s = true) (hsel : (Cond.selects C y y).before args s = true) (hy : xs_noMH y)
    (hcell : H[b]? = some cellB) (hobj : cellB.vm.isStatics = false) (hcls : s.vm.findClass C = some cellB.cls)
    {q : xe_M} {mi : xs_MI} (hi : ∃ mk mh ck, xs_Is q mi s mk mh ck) (hmi : mi.1 = y) (hn : (parseMethodDescriptor y.desc).map (fun d => d.parameters.length) = some as.length) (hg : g.method = m) (hstack : g.stack = as.reverse ++ .ref b :: rest) (hdg : decode c.code g.pc = .ok (.invokevirtual idx, 3)) :
    xs_Inv p l e R s m args below meth c g rest (.ref b :: as) y H := by
  intro T locs cells slots hT X
  obtain ⟨mk, mh, ck, i1, i2, i3, i4, i5, i6, i7, i8, i9⟩ := hi
  rw [hmi] at i1 i8
  obtain ⟨mk', mh', hnamed, hmethM, hstM, habM⟩ := Cond.instanceMethod_spec hinst
  cases i1.symm.trans hnamed
  cases i2.symm.trans hmethM
  obtain ⟨c2, r2, m2, q1, q2, q3, q4, kP, hkP, hkPi⟩ := Cond.selects_spec hsel
  cases hcls.symm.trans q1
  cases (State.methodFound?_of_named i1 hy).symm.trans q2
  cases i1.symm.trans q3
  have hselP : selectMethod e.platform s.vm cellB.cls mk = .method mk := by rw [Launch.admits_selectMethod X.admits]; exact q4
  have hlen : as.length = mh.sig.parameters.length := by
    rw [i8] at hn
    exact (Option.some.inj hn).symm
  rcases hl with hl | ⟨host, hl⟩
  · obtain ⟨vm1, X1, st⟩ := X.invokevirtual hx hown hl i1 i2 hstM hkP hkPi hy (a := b) (cell := cellB) (by rw [hT]; exact hcell) (fun z hz => by rw [hz] at hobj; cases hobj) hselP i2 habM hkP hkPi (g := g) hg (argsL := as) (rest := rest) hlen hstack hdg
    exact ⟨vm1, mk, X1, i1, st⟩
  · obtain ⟨vm1, X1, st⟩ := X.invokevirtualNest hx hown hl i1 i2 hstM hkP hkPi hy (a := b) (cell := cellB) (by rw [hT]; exact hcell) (fun z hz => by rw [hz] at hobj; cases hobj) hselP i2 habM hkP hkPi (g := g) hg (argsL := as) (rest := rest) hlen hstack hdg
    exact ⟨vm1, mk, X1, i1, st⟩
theorem xs_invI {own : String} {idx b : Nat} {y : MethodName} {bytes : ByteArray} {maxL : Nat} {g : JFrame} {as rest : List Value} (hx : p.tables.exec = Jvm.exec) (hown : s.vm.findClass own = some m.cls) (hl : (Cond.methodLink own idx y).before args s = true ∨ ∃ host, (Cond.methodLinkNest own idx y host).before args s = true) (hinst : (Cond.instanceMethod y).before args s = true) (hy1 : y.name = "<init>") (hy : xs_noMH y)
    (hcode : (Cond.code y bytes maxL none).before args s = true) (hn : (parseMethodDescriptor y.desc).map (fun d => d.parameters.length) = some as.length) (hg : g.method = m) (hstack : g.stack = as.reverse ++ .ref b :: rest) (hdg : decode c.code g.pc = .ok (.invokespecial idx, 3)) :
    xs_Inv p l e R s m args below meth c g rest (.ref b :: as) y H := by
  intro T locs cells slots hT X
  subst hg
  have hpl : e.platform.magicAccessors = ({} : Platform).magicAccessors := by rw [X.admits.platform]
  have hlen : ∀ sig, parseMethodDescriptor y.desc = some sig → as.length = sig.parameters.length := by
    intro sig hsig
    rw [hsig] at hn
    exact (Option.some.inj hn).symm
  rcases hl with hl | ⟨host, hl⟩
  · obtain ⟨mk, methM, cM, kP, vm1, hnamed, hmethM, hcodeM, -, hlocalsM, -, hkP, -, hW1, st⟩ := Steps.initColdArgs (e := e) X.here hx X.warmed hpl hown hy1 hy hl hinst hcode (f := g) rfl hlen hstack hdg
    exact ⟨vm1, mk, X.noted hW1, hnamed, st⟩
  · obtain ⟨mk, methM, cM, kP, vm1, hnamed, hmethM, hcodeM, -, hlocalsM, -, hkP, -, hW1, st⟩ := Steps.initColdArgsNest (e := e) X.here hx X.warmed hpl hown hy1 hy hl hinst hcode (f := g) rfl hlen hstack hdg
    exact ⟨vm1, mk, X.noted hW1, hnamed, st⟩
theorem xs_invU {own C owner : String} {idx b : Nat} {x y : MethodName} {g : JFrame} {as rest : List Value} {cellB : Cell} (hx : p.tables.exec = Jvm.exec) (hown : s.vm.findClass own = some m.cls) (hl : (Cond.methodLink own idx x).before args s = true) (hsame : (Cond.sameMethod x.cls owner x.name x.desc).before args s = true) (hd0 : va_Decl s ⟨owner, x.name, x.desc⟩) (howner : owner ≠ "java/lang/invoke/MethodHandle" ∧ owner ≠ "java/lang/invoke/VarHandle") (hsel : (Cond.selects C x y).before args s = true) (hinst : (Cond.instanceMethod y).before args s = true)
    (hcell : H[b]? = some cellB) (hobj : cellB.vm.isStatics = false) (hcls : s.vm.findClass C = some cellB.cls) (hn0 : (parseMethodDescriptor x.desc).map (fun d => d.parameters.length) = some as.length) (hg : g.method = m) (hstack : g.stack = as.reverse ++ .ref b :: rest) (hdg : decode c.code g.pc = .ok (.invokevirtual idx, 3)) :
    xs_Inv p l e R s m args below meth c g rest (.ref b :: as) y H := by
  intro T locs cells slots hT X
  obtain ⟨r0, r, hn, hrm, hstR, hsigR⟩ := hd0
  obtain ⟨cn, ck, r1, hcn, hck, hni, hf, hn1⟩ := Cond.sameMethod_found hsame
  cases hn.symm.trans hn1
  obtain ⟨mk, methM, hnamed, hmethM, -, habM⟩ := Cond.instanceMethod_spec hinst
  obtain ⟨c2, r2, m2, q1, q2, q3, q4, kP, hkP, hkPi⟩ := Cond.selects_spec hsel
  cases hcls.symm.trans q1
  cases hf.symm.trans q2
  cases hnamed.symm.trans q3
  have hselP : selectMethod e.platform s.vm cellB.cls r0 = .method mk := by rw [Launch.admits_selectMethod X.admits]; exact q4
  have hlen : as.length = r.sig.parameters.length := by
    rw [show parseMethodDescriptor x.desc = some r.sig from hsigR] at hn0
    exact (Option.some.inj hn0).symm
  obtain ⟨vm1, X1, st⟩ := X.invokevirtualUp hx hown hl hsame howner hn hrm hstR (a := b) (cell := cellB) (by rw [hT]; exact hcell)
    (fun z h => by rw [h] at hobj; cases hobj) hselP hmethM habM hkP hkPi (g := g) hg (argsL := as) (rest := rest) hlen hstack hdg
  exact ⟨vm1, mk, X1, hnamed, st⟩
/-- the callee's end, in the caller: it has come back, or it has thrown -/
theorem xs_callW {q1 : xe_M} {mi1 : xs_MI} {g : JFrame} {asM rest : List Value} {ig : Instr} {r : xe_R} (hI : xs_Inv p l e R s m args below meth c g (rest.map (xs_T D)) asM mi1.1 H)
    (hcode : (xs_codeW q1 mi1).before args s = true) (hpl : plainFor mi1.1 = true) (hmax : xe_max q1 ≤ 60) (hg : g.method = m) (hsize : g.locals.size = c.maxLocals) (hmon : g.monitorRoom = 0) (hdg : decode c.code g.pc = .ok (ig, 3)) (hcat : xe_cat rest ≤ 8)
    (hG : xs_G D G) (hR : xs_R SP G D s h H) (hc : cells + h0.1 = h.1) (hsl : slots + h0.2.1 = h.2.1) (hRc : 600000 ≤ R.cells + h0.1) (hRs : 7300000 ≤ R.slots + h0.2.1) (hlocs : ∀ q ∈ locs, D.2.1 ≤ q.base) {d : Nat} (hRf : 21 + d ≤ R.frames) (hRl : 300 + 100 * d ≤ R.locals)
    (body : ∀ (R1 : Room) (s1 : State) (m1 : MethodId) (below1 : List Frame) (meth1 : Method) (c1 : Code), xs_Is q1 mi1 s1 m1 meth1 c1 → s.WarmedH s1.vm → xs_R SP G D s1 h H → s1.heap = H → 600000 ≤ R1.cells + h.1 → 7300000 ≤ R1.slots + h.2.1 → 20 + d ≤ R1.frames → 200 + 100 * d ≤ R1.locals →
      W p l e R1 s1 m1 asM.toArray below1 meth1 c1 H [] 0 0 (xs_Q EX SP G D s1 below1 h r h1) (entryFrame m1 asM.toArray (xe_max q1)))
    (kr : ∀ (v : Option Value), r = .inl v → ∀ (H1 : Heap) (locs1 : List Loc) (cells1 slots1 : Nat), xs_R SP G D s h1 H1 → cells1 + h0.1 = h1.1 → slots1 + h0.2.1 = h1.2.1 → (∀ q ∈ locs1, D.2.1 ≤ q.base) → W p l e R s m args below meth c H1 locs1 cells1 slots1 Q { g with pc := g.pc + 3, stack := ((v.toList ++ rest).map (xs_T D)) })
    (kt : ∀ (cx : Nat), r = .inr cx → ∀ (T : State) (locs1 : List Loc) (cells1 slots1 : Nat), xs_R SP G D s h1 T.heap → cells1 + h0.1 = h1.1 → slots1 + h0.2.1 = h1.2.1 → (∀ q ∈ locs1, D.2.1 ≤ q.base) → Stand p l e R s m args below meth c T locs1 cells1 slots1 → xs_Out EX D r h1 (.threw (D.2.1 + (h1.1 - 1))) T → ∃ t, Steps p.tables e below ((T.setTop { g with stack := rest.map (xs_T D) }).pushFrame (.throwing (D.2.1 + (h1.1 - 1)))) t ∧ Q t) :
    W p l e R s m args below meth c H locs cells slots Q g := by
  intro T hT X
  obtain ⟨vm1, mk, X1, hn, st⟩ := hI T locs cells slots hT X
  have hcodeU : (xs_codeW q1 mi1).before args (T.setVm vm1) = true := by
    refine xs_word ?_ X1.warmed hcode
    unfold xs_codeW
    split <;> simp [xs_steady, Cond.onTables, Cond.keeps, Cond.steady]
  obtain ⟨mk', mh, ck, i1, i2, i3, i4, i5, i6, i7, i8, i9⟩ := xs_Is.of hcodeU
  have hnU : (T.setVm vm1).methodNamed? mi1.1 = some mk := X1.named hn
  cases hnU.symm.trans i1
  have hpk : (T.setVm vm1).plainMethod mk := State.plainMethod.of_named hpl i1 i2
  have hcells : cells ≤ R.cells := by have := hR.2.2.2.2.1.1; omega
  have hslots : slots ≤ R.slots := by have := hR.2.2.2.2.1.2; omega
  have hwords : 2 * ({ g with stack := rest.map (xs_T D) } : JFrame).monitorRoom + (({ g with stack := rest.map (xs_T D) } : JFrame).stack.map fun v => v.category).sum = xe_cat rest := by
    show 2 * g.monitorRoom + _ = _
    rw [hmon, xs_T_cats, Nat.mul_zero, Nat.zero_add]
  obtain ⟨Y, hin⟩ := X1.into (g := { g with stack := rest.map (xs_T D) }) hg hsize hdg asM.toArray (R' := { frames := R.frames - 1, cells := R.cells - cells, slots := R.slots - slots, locals := R.locals - 100 }) i2 i3 i7 hpk (by show R.frames - 1 + 1 ≤ R.frames; omega) (by rw [hwords, i5]; show xe_cat rest + (xe_max q1 + 11) + (R.locals - 100) ≤ R.locals; omega) (by show cells + (R.cells - cells) ≤ R.cells; omega) (by show slots + (R.slots - slots) ≤ R.slots; omega)
  have hh : (((T.setVm vm1).setTop { g with stack := rest.map (xs_T D) }).pushFrame (.java (entryFrame mk asM.toArray ck.maxLocals))).heap = H := hT
  have hW1 : s.WarmedH ((T.setVm vm1).calling { g with stack := rest.map (xs_T D) } mk asM.toArray).vm := X1.warmed
  have hIs : xs_Is q1 mi1 ((T.setVm vm1).calling { g with stack := rest.map (xs_T D) } mk asM.toArray) mk mh ck := ⟨i1, i2, i3, i4, i5, i6, i7, i8, i9⟩
  have hb := body { frames := R.frames - 1, cells := R.cells - cells, slots := R.slots - slots, locals := R.locals - 100 } ((T.setVm vm1).calling { g with stack := rest.map (xs_T D) } mk asM.toArray) mk (.java { g with stack := rest.map (xs_T D) } :: below) mh ck hIs hW1 (hR.moved hG hW1.alike) hT (by show 600000 ≤ R.cells - cells + h.1; omega) (by show 7300000 ≤ R.slots - slots + h.2.1; omega) (by show 20 + d ≤ R.frames - 1; omega) (by show 200 + 100 * d ≤ R.locals - 100; omega)
  rw [← i5] at hb
  obtain ⟨t, ht, o, L, mc, ms, t1, t2, t3, t4, t5, t6, t7, t8, t9⟩ := hb _ hh Y
  have hsteps : ∀ acts, Steps p.tables e below (doInvoke e ((T.setVm vm1).setTop { g with stack := rest.map (xs_T D) }) acts mk asM.toArray).1 t := fun acts => by
    rw [hin acts]
    exact xs_weaken ht
  have hlocs1 : ∀ q ∈ locs ++ L, D.2.1 ≤ q.base := fun q hq => (List.mem_append.mp hq).elim (hlocs q) (t7 q)
  cases r with
  | inl v =>
    have t3 : o = .returned (v.map (xs_T D)) := t3
    subst t3
    obtain ⟨T2, X2, w2, sb2, et⟩ := X1.outOf (g := { g with stack := rest.map (xs_T D) }) hg hdg t2 t5 t6
    have hheap : T2.heap = t.heap := by rw [et]; rfl
    have hk := kr v rfl T2.heap (locs ++ L) (cells + mc) (slots + ms) (by rw [hheap]; exact t4.moved hG hW1.alike.symm) (by omega) (by omega) hlocs1 T2 rfl X2
    obtain ⟨t', a1, b1⟩ := hk
    refine ⟨t', st t' (fun acts => (hsteps acts).trans ?_), b1⟩
    have e2 : (v.toList ++ rest).map (xs_T D) = (v.map (xs_T D)).toList ++ rest.map (xs_T D) := by cases v <;> simp
    rw [e2] at a1
    rw [et]
    exact a1
  | inr cx =>
    obtain ⟨z0, z1, z2, z3⟩ := id t3
    subst z2
    obtain ⟨T2, X2, w2, sb2, et⟩ := X1.outOfThrown (g := { g with stack := rest.map (xs_T D) }) hg t2 t5 t6
    have hheap : T2.heap = t.heap := by rw [et]; exact (Stand.throwing_heap _ _ _).symm
    obtain ⟨t', a1, b1⟩ := kt cx rfl T2 (locs ++ L) (cells + mc) (slots + ms) (by rw [hheap]; exact t4.moved hG hW1.alike.symm) (by omega) (by omega) hlocs1 X2 ⟨z0, z1, rfl, by rw [hheap]; exact z3⟩
    refine ⟨t', st t' (fun acts => (hsteps acts).trans ?_), b1⟩
    rw [et]
    exact a1
end XC
