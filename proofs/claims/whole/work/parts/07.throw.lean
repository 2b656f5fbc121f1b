/-! ===== a throw of the method's own, and a catch ===== -/
section XT
variable {p : Program} {l : Launch} {e : Env} {R : Room} {s : State} {m : MethodId} {args : Array Value} {below : List Frame} {meth : Method} {c : Code} {H : Heap} {locs : List Loc} {cells slots : Nat} {Q : State → Prop}
variable {cl : List vw_C} {EX : List (Nat × String)} {STR : List (String × Nat × String × Nat)} {WS : List Cond} {PI : List xs_MI} {D : xs_D} {SP : Nat → Option xe_O} {G : State → Heap → Prop} {h h0 h1 : xe_H}
/-- the method's walk, as if it began here -/
theorem xs_rebase {T : State} (X : Stand p l e R s m args below meth c T locs cells slots) (hc : cells ≤ R.cells) (hs : slots ≤ R.slots) :
    Stand p l e { R with cells := R.cells - cells, slots := R.slots - slots } (T.setFrames (.invoking m args :: below)) m args below meth c T [] 0 0 := by
  obtain ⟨g0, hfr⟩ := X.frames_eq
  obtain ⟨t0, ht0, -⟩ := State.frames_cons hfr
  have hcur : T.cur < T.threads.size := State.cur_lt_of_frames hfr
  have hf1 : (T.setFrames (.invoking m args :: below)).frames = .invoking m args :: below := State.frames_setFrames _ hcur
  obtain ⟨t1, ht1, -⟩ := State.frames_cons hf1
  have hcur1 : (T.setFrames (.invoking m args :: below)).cur < (T.setFrames (.invoking m args :: below)).threads.size := State.cur_lt_of_frames hf1
  have hlim : e.platform.stackLimits (T.setFrames (.invoking m args :: below)).me = e.platform.stackLimits s.me := by rw [State.stackLimits_setFrames]; exact X.limits
  have hbytes : (T.setFrames (.invoking m args :: below)).me.stackBytes = s.me.stackBytes := by rw [State.stackBytes_setFrames]; exact X.bytes
  refine ⟨X.admits, X.cas, X.clock, hf1, ?_, ?_, X.method', X.code, X.here, X.tail, State.WarmedH.refl _, by rw [State.stackLimits_setFrames], by rw [State.stackBytes_setFrames], ?_⟩
  · have hr := X.room
    have h1 := X.heapSize
    have h2 := X.used
    have e1 : (T.setFrames (.invoking m args :: below)).localsInUse = s.localsInUse := by
      rw [State.localsInUse_invoking hf1 X.method' X.code, State.localsInUse_invoking X.frames X.method X.code]
    have e2 : (T.setFrames (.invoking m args :: below)).frames.length = s.frames.length := by rw [hf1, X.frames]
    have e3 : (T.setFrames (.invoking m args :: below)).slotsTrue = true := X.book
    simp only [State.hasRoom, Bool.and_eq_true, decide_eq_true_eq] at hr ⊢
    rw [e1, e2, hlim, hbytes]
    refine ⟨⟨⟨⟨hr.1.1.1.1, hr.1.1.1.2⟩, ?_⟩, ?_⟩, e3⟩
    · show T.heap.size + (R.cells - cells) ≤ _
      have := hr.1.1.2
      omega
    · show T.slotsUsed + (R.slots - slots) ≤ _
      have := hr.1.2
      omega
  · have hh := X.hears
    have ha := X.warmed.alike
    unfold State.hears at hh ⊢
    split
    · rename_i g1 r1
      dsimp only at hh
      have e1 : (T.setFrames (.invoking m args :: (.java g1 :: r1))).code? g1.method = s.code? g1.method := by
        rw [State.code?_eq, State.code?_eq]
        show (T.vm.method? g1.method).bind _ = _
        rw [ha.method?]
      rw [e1]
      exact hh
    · rfl
    · rfl
    · rename_i n1 n2 n3
      split at hh
      · exact absurd rfl (n1 _ _)
      · exact absurd rfl (n2 _ _)
      · exact absurd rfl (n3 _ _)
      · show (T.vm.method? m).any _ = true
        rw [ha.method?]
        exact hh
  · have h3 := (State.sameButNew.refl (T.setFrames (.invoking m args :: below)) ht1).setFrames T.frames hcur1
    rw [State.setFrames_setFrames, State.setFrames_self ht0] at h3
    exact h3
/-- 'new', 'dup', the constructor, 'athrow': the method ends with what was thrown -/
theorem xs_throw {own X : String} {names : List String} {idx ic cx pc : Nat} {st : List Value} {lsM : Array Slot} (hx : p.tables.exec = Jvm.exec) (htr : e.platform.stackTraces = false) (hlocks : meth.locks = false) (hown : s.vm.findClass own = some m.cls) (hfit : Bundle.fit X = true) (hnames : ∀ n ∈ names, Bundle.fit n = true) (hlen : names.length ≤ 5)
    (hat : ∀ U : State, s.WarmedH U.vm → G U U.heap → ∀ a ∈ Bundle.ownAtoms0 own ic X names, a.before args U = true) (hcl : Cond.classLink own idx X ∈ WS) (hins : Cond.instantiable X 6 ∈ WS) (hini : Cond.initialized X ∈ WS) (hts : ∀ w ∈ WS, w.before args s = true) (hcx : ClassAt s X (D.2.2.1 cx)) (hEXm : (cx, X) ∈ EX)
    (hG : xs_G D G) (hA : xs_A D) (hR : xs_R SP G D s h H) (hml : lsM.size = c.maxLocals) (hc : cells + h0.1 = h.1) (hsl : slots + h0.2.1 = h.2.1) (hRc : 600000 ≤ R.cells + h0.1) (hRs : 7300000 ≤ R.slots + h0.2.1) (hlocs : ∀ q ∈ locs, D.2.1 ≤ q.base) (hRf : 20 ≤ R.frames) (hRl : 200 ≤ R.locals) (hfits : h.1 + 1 ≤ 600000 ∧ h.2.1 + 6 ≤ 7300000) (hcat : xe_cat st ≤ 8) (hno : c.exceptionTable.toList = [])
    (hd0 : decode c.code pc = .ok (.new idx, 3)) (hd1 : decode c.code (pc + 3) = .ok (.dup, 1)) (hd2 : decode c.code (pc + 4) = .ok (.invokespecial ic, 3)) (hd3 : decode c.code (pc + 7) = .ok (.athrow, 1)) :
    W p l e R s m args below meth c H locs cells slots (xs_Q EX SP G D s below h0 (.inr cx) (h.1 + 1, h.2.1 + 6, h.2.2)) (F0 m pc lsM (st.map (xs_T D))) := by
  intro T0 hT0 X0
  have hHz : H.size = D.2.1 + h.1 := hR.1
  have hb := hR.2.2.2.2.1
  have X1 := xs_rebase X0 (by omega) (by omega)
  generalize hs1 : T0.setFrames (.invoking m args :: below) = s1 at X1
  have hvm1 : s1.vm = T0.vm := by rw [← hs1]; rfl
  have hhp1 : s1.heap = H := by rw [← hs1]; exact hT0
  have hW1 : s.WarmedH s1.vm := by rw [hvm1]; exact X0.warmed
  have hR1 : xs_R SP G D s1 h H := hR.moved hG hW1.alike
  have hat1 := hat s1 hW1 (by rw [hhp1]; exact hR1.2.2.2.1)
  have w1 : ∀ w ∈ WS, xs_steady w = true → w.before args s1 = true := fun w hw hs => xs_word hs hW1 (hts w hw)
  have hown1 : s1.vm.findClass own = some m.cls := by rw [hW1.alike.findClass]; exact hown
  have hcx1 := classAt_moved hW1.alike hcx
  have key : W p l e { R with cells := R.cells - cells, slots := R.slots - slots } s1 m args below meth c H [] 0 0 (fun U => U.status = .running ∧ Ended U below (.threw H.size) ∧ s1.WarmedH U.vm ∧ s1.sameButNew ({ U with vm := s1.vm } : State) [] 1 6 ∧ ∃ ce, U.heap[H.size]? = some ce ∧ Bundle.OwnCell args s1 X H.size .null ce) (F0 m pc lsM (st.map (xs_T D))) := by
    refine W.newc hx rfl hown1 (w1 _ hcl rfl) (w1 _ hins rfl) (w1 _ hini rfl) rfl hd0 (by show 0 + 1 ≤ R.cells - cells; omega) (by show 0 + 6 ≤ R.slots - slots; omega) (fun cC kC f1 f2 f3 f4 => ?_)
    refine lv_dup hx rfl hd1 rfl ?_
    intro T hT Xs
    have hcell : T.heap[H.size]? = some (freshCell cC kC) := by rw [hT]; exact Array.getElem?_push_size
    obtain ⟨U, u1, u2, u3, u4, u5, ce, u6, u7⟩ := Xs.ctorThrow0 hx htr hown1 hfit hnames hat1 (fun x hx => by cases hx) f1 f2 hcell (by rw [hhp1]; exact Nat.le_refl _) (g := F0 m (pc + 3 + 1) lsM (.ref H.size :: .ref H.size :: st.map (xs_T D))) rfl hml rfl rfl rfl hd2 hd3 (by rw [hno]; intro x hx; cases hx) (by show _ < R.frames; omega) (by show 2 * 0 + (((Value.ref H.size :: st.map (xs_T D)).map fun v => v.category).sum) + _ ≤ R.locals; rw [List.map_cons, List.sum_cons, xs_T_cats]; show 2 * 0 + (1 + xe_cat st) + _ ≤ _; omega)
    exact ⟨U, u1, u2, u3, u4, u5, ce, u6, u7⟩
  obtain ⟨U, u1, u2, u3, u4, u5, ce, u6, u7⟩ := key T0 hT0 X1
  have hz5 : U.heap.size = H.size + 1 := by
    have a1 : U.heap.size ≤ s1.heap.size + 1 := u5.2.2.1
    have a2 := (Array.getElem?_eq_some_iff.mp u6).1
    rw [hhp1] at a1
    omega
  have hU : ∀ q, q < H.size → U.heap[q]? = H[q]? := by
    intro q hq
    obtain ⟨cq, hcq⟩ : ∃ cq, H[q]? = some cq := ⟨H[q], Array.getElem?_eq_some_iff.mpr ⟨hq, rfl⟩⟩
    obtain ⟨c2, v1, v2, v3, v4⟩ := u5.2.2.2.2.2 q cq (by rw [hhp1]; exact hcq)
    have v1 : U.heap[q]? = some c2 := v1
    rw [v1, hcq]
    have e4 : c2.slots = cq.slots := by
      apply Array.ext_getElem?
      intro i
      exact v4 i (fun z => by cases z)
    rw [v2, e4]
  have hWs : s.WarmedH U.vm := State.WarmedH.trans hW1 u4
  have hsame : s.sameButNew ({ U with vm := s.vm } : State) (locs ++ []) (cells + 1) (slots + 6) := by
    have a1 : s.sameButNew (s1.setVm s.vm) locs cells slots := by
      rw [← hs1]
      exact X0.same.setFrames (.invoking m args :: below) X0.cur
    exact a1.trans (u5.setVm s.vm)
  rw [List.append_nil] at hsame
  refine ⟨U, u1, .threw H.size, locs, cells + 1, slots + 6, u2, u3, ⟨⟨X, hEXm⟩, by show 1 ≤ h.1 + 1; omega, by rw [hHz]; rfl, ce, by show U.heap[D.2.1 + (h.1 + 1 - 1)]? = _; rw [Nat.add_sub_cancel, ← hHz]; exact u6, Option.some.inj (u7.cls.symm.trans hcx1.1), by rw [u7.vm]; rfl⟩, ?_, hWs, hsame, hlocs, by show cells + 1 + h0.1 = h.1 + 1; omega, by show slots + 6 + h0.2.1 = h.2.1 + 6; omega⟩
  refine hR.more hG hfits hz5 (fun cell hcell => ?_) hU
  rw [u6] at hcell
  cases hcell
  rw [u7.vm]
  rfl
/-- a row of an exception table, as ours tells it: its class's entry links to that class -/
def xs_row (own : String) (EX : List (Nat × String)) (args : Array Value) (s : State) (x : ExceptionTableEntry) (r : Nat × Nat × Nat × Nat) : Prop :=
  x.startPc = r.1 ∧ x.endPc = r.2.1 ∧ x.handlerPc = r.2.2.1 ∧ x.catchType ≠ 0 ∧ ∃ C, (r.2.2.2, C) ∈ EX ∧ (Cond.classLink own x.catchType C).before args s = true
/-- rows passed or taken: the search's end, and the tables that it leaves -/
theorem xs_search {own : String} {f : JFrame} {a : Addr} {cell : Cell} {cx hp : Nat} (hpl : e.platform.magicAccessors = ({} : Platform).magicAccessors) (hown : s.vm.findClass own = some f.method.cls) (hobj : cell.vm.isStatics = false) (hcls : cell.cls = D.2.2.1 cx)
    (hEX : ∀ c C, (c, C) ∈ EX → ClassAt s C (D.2.2.1 c)) (hcx : ∃ C, (cx, C) ∈ EX) (hapart : ∀ c C c' C', (c, C) ∈ EX → (c', C') ∈ EX → c ≠ c' → s.vm.assignable (D.2.2.1 c) (D.2.2.1 c') = false) :
    ∀ (xs : List ExceptionTableEntry) (rs : List (Nat × Nat × Nat × Nat)) (S : State), xs.length = rs.length → (∀ (i : Nat) (x : ExceptionTableEntry) (r : Nat × Nat × Nat × Nat), xs[i]? = some x → rs[i]? = some r → xs_row own EX args s x r) → s.WarmedH S.vm → S.heap[a]? = some cell → xe_find rs f.pc cx = some hp →
      ∃ vm1, s.WarmedH vm1 ∧ ∀ (Q : Handler → Pre) (E : CtlPost) (d : Bool) (acts : List Action), wp (findHandler.go f a xs) Q E e d acts S ↔ Q (.found hp) d acts (S.setVm vm1)
  | [], rs, S, hl, _, _, _, hf => by
    cases rs with
    | nil => cases hf
    | cons r rs => cases hl
  | x :: xs, [], S, hl, _, _, _, hf => by cases hf
  | x :: xs, r :: rs, S, hl, hrow, hW, hcell, hf => by
    obtain ⟨r1, r2, r3, r4, C, r5, r6⟩ := hrow 0 x r rfl rfl
    obtain ⟨C0, hC0⟩ := hcx
    obtain ⟨hfx, kx, hkx, -⟩ := hEX cx C0 hC0
    obtain ⟨hfr, kr, hkr, -⟩ := hEX _ C r5
    obtain ⟨cT, hcT, hlk⟩ := Cond.classLink_spec hown r6 e.platform hpl
    cases hfr.symm.trans hcT
    obtain ⟨kx', hkx', -⟩ := hW.alike.2.2 _ _ hkx
    obtain ⟨kr', hkr', -⟩ := hW.alike.2.2 _ _ hkr
    have hl2 := hW.classLinks hlk
    obtain ⟨ha, ht⟩ := (resolveClass_links e.toSetting hl2).op (op := VmOp.resolveClass f.method.cls x.catchType) rfl
    have hal : S.vm.Alike (S.vm.noted f.method.cls x.catchType (.cls (D.2.2.1 r.2.2.2))) := (Vm.Alike.refl S.vm).noted _ _ _
    obtain ⟨k1, hk1, -⟩ := hal.2.2 _ _ hkx'
    obtain ⟨k2, hk2, -⟩ := hal.2.2 _ _ hkr'
    obtain ⟨dk, _, _, kt, hd, _, _, _, _, hkt, _, hopen⟩ := hlk.here
    have hWn : s.WarmedH (S.vm.noted f.method.cls x.catchType (.cls (D.2.2.1 r.2.2.2))) := hW.noted hd hopen (State.rightAt_cls hlk)
    have hob : ∀ k, cell.vm ≠ .statics k := fun k hk => by rw [hk] at hobj; cases hobj
    by_cases hcov : covers x f.pc = true
    · have hcov2 := hcov
      simp only [covers] at hcov2
      by_cases heq : r.2.2.2 = cx
      · have hfit : (S.vm.noted f.method.cls x.catchType (.cls (D.2.2.1 r.2.2.2))).assignable cell.cls (D.2.2.1 r.2.2.2) = true := by
          rw [hal.assignable, hW.alike.assignable, hcls, heq]
          exact va_assign (hEX cx C0 hC0)
        have hhp : x.handlerPc = hp := by
          unfold xe_find at hf
          have hb : (decide (r.1 ≤ f.pc) && (decide (f.pc < r.2.1) && Nat.beq r.2.2.2 cx)) = true := by
            rw [r1, r2] at hcov2
            simp only [Bool.and_eq_true, decide_eq_true_eq, Nat.beq_eq] at hcov2 ⊢
            exact ⟨hcov2.1, hcov2.2, heq⟩
          rw [if_pos hb] at hf
          rw [r3]
          exact Option.some.inj hf
        refine ⟨_, hWn, fun Q E d acts => ?_⟩
        rw [← hcls] at hk1
        simp [findHandler.go, hcov2, r4, ha, ht, hcell, hob, hk1, hk2, hfit, VmOp.dirties, VmOp.acts, hhp]
      · have hno : (S.vm.noted f.method.cls x.catchType (.cls (D.2.2.1 r.2.2.2))).assignable cell.cls (D.2.2.1 r.2.2.2) = false := by
          rw [hal.assignable, hW.alike.assignable, hcls]
          exact hapart _ _ _ _ hC0 r5 (fun z => heq z.symm)
        have hf2 : xe_find rs f.pc cx = some hp := by
          unfold xe_find at hf
          rw [if_neg (by simp only [Bool.and_eq_true, Nat.beq_eq]; exact fun z => heq z.2.2)] at hf
          exact hf
        obtain ⟨vm1, hv1, hv2⟩ := xs_search hpl hown hobj hcls hEX ⟨C0, hC0⟩ hapart xs rs (S.setVm (S.vm.noted f.method.cls x.catchType (.cls (D.2.2.1 r.2.2.2)))) (by simpa using hl) (fun i y z hy hz => hrow (i + 1) y z (by simpa using hy) (by simpa using hz)) hWn hcell hf2
        refine ⟨vm1, hv1, fun Q E d acts => ?_⟩
        have e1 : wp (findHandler.go f a (x :: xs)) Q E e d acts S ↔ wp (findHandler.go f a xs) Q E e d acts (S.setVm (S.vm.noted f.method.cls x.catchType (.cls (D.2.2.1 r.2.2.2)))) := by
          rw [← hcls] at hk1
          simp [findHandler.go, hcov2, r4, ha, ht, hcell, hob, hk1, hk2, hno, VmOp.dirties, VmOp.acts]
        exact e1.trans (hv2 Q E d acts)
    · have hf2 : xe_find rs f.pc cx = some hp := by
        unfold xe_find at hf
        rw [if_neg ?_] at hf
        · exact hf
        · simp only [covers, Bool.and_eq_true, decide_eq_true_eq] at hcov
          simp only [Bool.and_eq_true, decide_eq_true_eq]
          intro z
          exact hcov ⟨by rw [r1]; exact z.1, by rw [r2]; exact z.2.1⟩
      obtain ⟨vm1, hv1, hv2⟩ := xs_search hpl hown hobj hcls hEX ⟨C0, hC0⟩ hapart xs rs S (by simpa using hl) (fun i y z hy hz => hrow (i + 1) y z (by simpa using hy) (by simpa using hz)) hW hcell hf2
      refine ⟨vm1, hv1, fun Q E d acts => ?_⟩
      rw [W.findHandler_go_skip (by simpa using hcov)]
      exact hv2 Q E d acts
theorem xs_caught {tb : Tables} {T target : State} {g : JFrame} {a : Addr} {hp : Nat} {vm1 : Vm} (hAt : At T g.method c below)
    (hfind : ∀ (Q : Handler → Pre) (E : CtlPost) (d : Bool) (acts : List Action), wp (findHandler g a) Q E e d acts ((T.setTop g).pushFrame (.throwing a)) ↔ Q (.found hp) d acts (((T.setTop g).pushFrame (.throwing a)).setVm vm1))
    (hrest : Steps tb e below ((T.setVm vm1).setTop { g with pc := hp, stack := [.ref a] }) target) : Steps tb e below ((T.setTop g).pushFrame (.throwing a)) target := by
  obtain ⟨hgo, hw⟩ := hAt.throwing a
  refine Steps.head hgo hw ?_
  obtain ⟨g0, hg0⟩ := Option.isSome_iff_exists.mp hAt.top
  obtain ⟨r, hr⟩ := State.topJava?_eq_some.mp hg0
  have hfr := frames_entered (g := g) hAt.top (.throwing a)
  rw [hr, List.tail_cons] at hfr
  rw [stepThread_throwing hfr]
  have key : (stepThrowing e ((T.setTop g).pushFrame (.throwing a)) a (.java g :: r)).1 = (((T.setTop g).pushFrame (.throwing a)).setVm vm1).setFrames (.java { g with pc := hp, stack := [.ref a] } :: r) := by
    simp only [stepThrowing, searchFrame, vmDo]
    generalize hq : Sem.go _ e false [] ((T.setTop g).pushFrame (.throwing a)) = res
    obtain ⟨as, rfl, -⟩ := Sem.eq_ok_of hq (a := Handler.found hp) (s' := ((T.setTop g).pushFrame (.throwing a)).setVm vm1) (acts' := []) (by simp [hfind _ _ _ _])
    rfl
  rw [key]
  have e1 : (((T.setTop g).pushFrame (.throwing a)).setVm vm1).setFrames (.java { g with pc := hp, stack := [.ref a] } :: r) = (T.setVm vm1).setTop { g with pc := hp, stack := [.ref a] } := by
    have hr1 : (T.setVm vm1).frames = .java g0 :: r := hr
    rw [State.setTop_of_frames _ hr1, State.pushFrame, State.setTop_of_frames _ hr]
    have e2 : ∀ (u : State) (F F1 : List Frame), ((u.setFrames F).setVm vm1).setFrames F1 = (u.setVm vm1).setFrames F1 := by
      intro u F F1
      have e3 : (u.setFrames F).setVm vm1 = (u.setVm vm1).setFrames F := rfl
      rw [e3, State.setFrames_setFrames]
    rw [e2, e2]
  rw [e1]
  exact hrest
/-- a throw of a callee's, caught here -/
theorem xs_catch {own : String} {q : xe_M} {mi : xs_MI} {T : State} {g : JFrame} {cx hp : Nat} {cell : Cell} {a : Addr} (X : Stand p l e R s m args below meth c T locs cells slots) (hg : g.method = m) (hown : s.vm.findClass own = some m.cls)
    (htab : c.exceptionTable.toList.map (fun h => (h.startPc, h.endPc, h.handlerPc, h.catchType)) = List.zipWith (fun (r : Nat × Nat × Nat × Nat) i => (r.1, r.2.1, r.2.2.1, i)) (xe_hand q) mi.2.2.2) (hlen : (xe_hand q).length = mi.2.2.2.length)
    (hrows : ∀ (i : Nat) (r : Nat × Nat × Nat × Nat) (ci : Nat), (xe_hand q)[i]? = some r → mi.2.2.2[i]? = some ci → ci ≠ 0 ∧ ∃ C, (r.2.2.2, C) ∈ EX ∧ (Cond.classLink own ci C).before args s = true)
    (hcell : T.heap[a]? = some cell) (hobj : cell.vm.isStatics = false) (hcls : cell.cls = D.2.2.1 cx) (hEX : ∀ c C, (c, C) ∈ EX → ClassAt s C (D.2.2.1 c)) (hcx : ∃ C, (cx, C) ∈ EX) (hapart : ∀ c C c' C', (c, C) ∈ EX → (c', C') ∈ EX → c ≠ c' → s.vm.assignable (D.2.2.1 c) (D.2.2.1 c') = false)
    (hf : xe_find (xe_hand q) g.pc cx = some hp) (kk : W p l e R s m args below meth c T.heap locs cells slots Q { g with pc := hp, stack := [.ref a] }) : ∃ t, Steps p.tables e below ((T.setTop g).pushFrame (.throwing a)) t ∧ Q t := by
  have hpl : e.platform.magicAccessors = ({} : Platform).magicAccessors := by rw [X.admits.platform]
  have hz : c.exceptionTable.toList.length = (xe_hand q).length := by
    have := congrArg List.length htab
    simpa [hlen] using this
  have hrow : ∀ (i : Nat) (x : ExceptionTableEntry) (r : Nat × Nat × Nat × Nat), c.exceptionTable.toList[i]? = some x → (xe_hand q)[i]? = some r → xs_row own EX args s x r := by
    intro i x r hx hr
    have hi : i < mi.2.2.2.length := by rw [← hlen]; exact (List.getElem?_eq_some_iff.mp hr).1
    obtain ⟨ci, hci⟩ : ∃ ci, mi.2.2.2[i]? = some ci := ⟨_, List.getElem?_eq_some_iff.mpr ⟨hi, rfl⟩⟩
    have h2 := congrArg (fun l => l[i]?) htab
    simp only [List.getElem?_map, hx, Option.map_some, List.getElem?_zipWith, hr, hci] at h2
    have h3 := Option.some.inj h2
    simp only [Prod.mk.injEq] at h3
    obtain ⟨e1, e2, e3, e4⟩ := h3
    obtain ⟨c1, C, c2, c3⟩ := hrows i r ci hr hci
    exact ⟨e1, e2, e3, by rw [e4]; exact c1, C, c2, by rw [e4]; exact c3⟩
  subst hg
  obtain ⟨vm1, hv1, hv2⟩ := xs_search (f := g) (a := a) (cell := cell) hpl hown hobj hcls hEX hcx hapart c.exceptionTable.toList (xe_hand q) ((T.setTop g).pushFrame (.throwing a)) hz hrow (by rw [Stand.throwing_vm]; exact X.warmed) (by rw [Stand.throwing_heap]; exact hcell) hf
  obtain ⟨t, a1, b1⟩ := kk (T.setVm vm1) rfl (X.noted hv1)
  refine ⟨t, xs_caught X.here (fun Q E d acts => ?_) a1, b1⟩
  rw [W.findHandler_eq (by rw [Stand.throwing_vm]; exact X.method') X.code]
  exact hv2 Q E d acts
end XT
