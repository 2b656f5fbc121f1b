/-! ===== a run of our machine is a run of the machine ===== -/
def xs_RT (rk : Nat) (mi : xs_MI) : Prop := match rk with
  | 0 => mi.2.2.1 = some .int
  | 1 => mi.2.2.1 = some .boolean
  | 2 => mi.2.2.1 = some .char
  | 3 => mi.2.2.1 = none
  | 4 => ∃ n, mi.2.2.1 = some (.object n)
  | 103 => mi.2.2.1 = none ∧ mi.1.name = "<init>"
  | _ => False
/-- a method as our table has it is the one that the words tell -/
def xs_MV (cl : List vw_C) (EX : List (Nat × String)) (STR : List (String × Nat × String × Nat)) (WS : List Cond) (K : xe_K) (PI : List xs_MI) (q : xe_M) (mi : xs_MI) : Prop :=
  plainFor mi.1 = true ∧ xe_max q ≤ 60 ∧ (∀ pc i n b, xe_at (xe_code q) pc = some (i, n, b) → xs_dec mi.2.1 pc i) ∧ xs_RT (xe_rk q) mi ∧ (∀ idx, xs_LK cl EX STR WS K PI mi.1.cls idx (xe_lk (xe_link q) idx)) ∧
  (xe_hand q).length = mi.2.2.2.length ∧ (∀ (i : Nat) (r : Nat × Nat × Nat × Nat) (ci : Nat), (xe_hand q)[i]? = some r → mi.2.2.2[i]? = some ci → ci ≠ 0 ∧ ∃ C, (r.2.2.2, C) ∈ EX ∧ Cond.classLink mi.1.cls ci C ∈ WS) ∧
  ∀ pc idx n b cx k ic, xe_at (xe_code q) pc = some (.new idx, n, b) → xe_lk (xe_link q) idx = (10, cx, k, ic) → decode mi.2.1 (pc + 3) = .ok (.dup, 1) ∧ decode mi.2.1 (pc + 4) = .ok (.invokespecial ic.toNat, 3) ∧ decode mi.2.1 (pc + 7) = .ok (.athrow, 1)
/-- all that is fixed -/
def xs_ST (cl : List vw_C) (EX : List (Nat × String)) (STR : List (String × Nat × String × Nat)) (WS : List Cond) (K : xe_K) (P : List xe_M) (PI : List xs_MI) : Prop :=
  (∀ (k : Nat) (q : xe_M), P[k]? = some q → ∃ mi, PI[k]? = some mi ∧ xs_codeW q mi ∈ WS ∧ Cond.initialized mi.1.cls ∈ WS ∧ xs_MV cl EX STR WS K PI q mi) ∧ (∀ w ∈ WS, xs_steady w = true) ∧ xs_CV cl WS ∧ (Cond.arrayClass .int ∈ WS ∧ Cond.arrayClass .long ∈ WS ∧ Cond.arrayClass .boolean ∈ WS) ∧ Cond.arrayOver (.object "StairMeter$House") ∈ WS ∧ ∃ T N, cl[2]? = some ("StairMeter$House", T, N)
/-- where the machine stands: in the method mi, which was entered at the state s -/
def xs_At (cl : List vw_C) (EX : List (Nat × String)) (STR : List (String × Nat × String × Nat)) (WS : List Cond) (D : xs_D) (p : Program) (s : State) (m : MethodId) (args : Array Value) (meth : Method) (c : Code) (q : xe_M) (mi : xs_MI) : Prop :=
  p.tables.exec = Jvm.exec ∧ xs_Is q mi s m meth c ∧ (∀ w ∈ WS, w.before args s = true) ∧ xs_K cl EX STR D s
/-- a call of String's: what our machine says of it holds of the machine -/
def xs_SI (cl : List vw_C) (EX : List (Nat × String)) (STR : List (String × Nat × String × Nat)) (WS : List Cond) (D : xs_D) (SP : Nat → Option xe_O) (G : State → Heap → Prop) (l : Launch) : Prop :=
  ∀ {p : Program} {e : Env} {R : Room} {s : State} {m : MethodId} {args : Array Value} {below : List Frame} {meth : Method} {c : Code} {H : Heap} {locs : List Loc} {cells slots : Nat} {Q : State → Prop} {q : xe_M} {mi : xs_MI} {K : xe_K} {PI : List xs_MI} {h h0 h1 : xe_H} {pc pc1 idx id n : Nat} {z : Int} {ls st l1 st1 : List Value} {lsM : Array Slot} {call : Nat → List Value → xe_H → Option (xe_R × xe_H)},
    xs_At cl EX STR WS D p s m args meth c q mi → xs_LK cl EX STR WS K PI mi.1.cls idx (17, id, n, z) → xe_lk (xe_link q) idx = (17, id, n, z) → xe_call q call 1 pc idx ls st h = some (.inl (pc1, l1, st1, h1)) → xs_R SP G D s h H → xs_L D lsM (xe_max q) ls → cells + h0.1 = h.1 → slots + h0.2.1 = h.2.1 → 600000 ≤ R.cells + h0.1 → 7300000 ≤ R.slots + h0.2.1 → (∀ q ∈ locs, D.2.1 ≤ q.base) → 30 ≤ R.frames → 1200 ≤ R.locals → decode c.code pc = .ok (.invokevirtual idx, 3) →
    (l1 = ls → h1 = h → ∀ (H1 : Heap) (locs1 : List Loc) (cells1 slots1 : Nat), xs_R SP G D s h H1 → cells1 + h0.1 = h.1 → slots1 + h0.2.1 = h.2.1 → (∀ q ∈ locs1, D.2.1 ≤ q.base) → W p l e R s m args below meth c H1 locs1 cells1 slots1 Q (F0 m pc1 lsM (st1.map (xs_T D)))) → W p l e R s m args below meth c H locs cells slots Q (F0 m pc lsM (st.map (xs_T D)))
theorem xs_l1 {d L : Nat} (h : 1200 + 100 * (d + 1) ≤ L) : 300 + 100 * (d + 10) ≤ L := by omega
theorem xs_l2 {d L : Nat} (h : 200 + 100 * (d + 10) ≤ L) : 1200 + 100 * d ≤ L := by omega
theorem xs_f1 {d L : Nat} (h : 30 + (d + 1) ≤ L) : 21 + (d + 10) ≤ L := by omega
theorem xs_f2 {d L : Nat} (h : 20 + (d + 10) ≤ L) : 30 + d ≤ L := by omega
section XM
variable {p : Program} {l : Launch} {e : Env} {R : Room} {s : State} {m : MethodId} {args : Array Value} {below : List Frame} {meth : Method} {c : Code} {H : Heap} {locs : List Loc} {cells slots : Nat} {Q : State → Prop}
variable {cl : List vw_C} {EX : List (Nat × String)} {STR : List (String × Nat × String × Nat)} {WS : List Cond} {P : List xe_M} {PI : List xs_MI} {K : xe_K} {D : xs_D} {SP : Nat → Option xe_O} {G : State → Heap → Prop} {h h0 h1 : xe_H}
theorem xs_Wmono {g : JFrame} {Q1 : State → Prop} (hq : ∀ t, Q1 t → Q t) (k : W p l e R s m args below meth c H locs cells slots Q1 g) : W p l e R s m args below meth c H locs cells slots Q g := by
  intro T hT X
  obtain ⟨t, a1, b1⟩ := k T hT X
  exact ⟨t, a1, hq t b1⟩
/-- a return -/
theorem xs_ret {q : xe_M} {mi : xs_MI} {call : Nat → List Value → xe_H → Option (xe_R × xe_H)} {pc : Nat} {i : Instr} {ls st : List Value} {r : xe_R} {lsM : Array Slot} (hs : xe_step q K call pc i ls st h = some (.inr (r, h1))) (hinv : xe_isInv i = false) (hnew : ∀ idx, i ≠ .new idx) (hd : xs_dec c.code pc i)
    (hx : p.tables.exec = Jvm.exec) (hret : meth.sig.returnType = mi.2.2.1) (hlocks : meth.locks = false) (hRT : xs_RT (xe_rk q) mi) (hR : xs_R SP G D s h H) (hc : cells + h0.1 = h.1) (hsl : slots + h0.2.1 = h.2.1) (hlocs : ∀ q ∈ locs, D.2.1 ≤ q.base) :
    W p l e R s m args below meth c H locs cells slots (xs_Q EX SP G D s below h0 r h1) (F0 m pc lsM (st.map (xs_T D))) := by
  have fin : ∀ (v : Option Value) (t : State), MQ below (fun _ _ o t => o = .returned (v.map (xs_T D)) ∧ t.heap = H) args s cells slots (fun a => D.2.1 ≤ a) t → xs_Q EX SP G D s below h0 (.inl v) h t := by
    rintro v t ⟨o, m1, m2, ⟨m3, m3h⟩, L, ⟨m4, m5, m6⟩, m7⟩
    exact ⟨o, L, cells, slots, m1, m2, m3, by rw [m3h]; exact hR, m5, m6, m7, hc, hsl⟩
  cases i with
  | ireturn =>
    have hd : decode c.code pc = .ok (.ireturn, 1) := hd
    simp only [xe_step] at hs
    split at hs
    · rename_i x
      split at hs
      · rename_i e0
        cases hs
        rw [e0] at hRT
        exact xs_Wmono (fin (some (.int x))) (W.iret hx rfl (hret.trans hRT) (fun t ht _ => ⟨rfl, ht⟩) hlocs hd hlocks)
      · rename_i e0
        split at hs
        · rename_i hx1
          cases hs
          rw [e0] at hRT
          refine xs_Wmono (fin (some (.int x))) (W.zret hx rfl (hret.trans hRT) ?_ (fun t ht _ => ⟨rfl, ht⟩) hlocs hd hlocks)
          rcases hx1 with rfl | rfl <;> decide
        · cases hs
      · rename_i e0
        split at hs
        · rename_i hx1
          cases hs
          rw [e0] at hRT
          refine xs_Wmono (fin (some (.int x))) (W.zret hx rfl (hret.trans hRT) ?_ (fun t ht _ => ⟨rfl, ht⟩) hlocs hd hlocks)
          have := pk_nc x
          rw [hx1] at this
          exact this
        · cases hs
      · cases hs
    · cases hs
  | areturn =>
    have hd : decode c.code pc = .ok (.areturn, 1) := hd
    simp only [xe_step] at hs
    split at hs
    · split at hs
      · rename_i a e0
        cases hs
        rw [Nat.beq_eq] at e0
        rw [e0] at hRT
        obtain ⟨n, hn⟩ := hRT
        exact xs_Wmono (fin (some (.ref a))) (W.aret hx rfl (hret.trans hn) (Or.inl ⟨n, rfl⟩) (Or.inr ⟨_, rfl⟩) (fun t ht _ => ⟨rfl, ht⟩) hlocs hd hlocks)
      · cases hs
    · split at hs
      · rename_i e0
        cases hs
        rw [Nat.beq_eq] at e0
        rw [e0] at hRT
        obtain ⟨n, hn⟩ := hRT
        exact xs_Wmono (fin (some .null)) (W.aret hx rfl (hret.trans hn) (Or.inl ⟨n, rfl⟩) (Or.inl rfl) (fun t ht _ => ⟨rfl, ht⟩) hlocs hd hlocks)
      · cases hs
    · cases hs
  | return_ =>
    have hd : decode c.code pc = .ok (.return_, 1) := hd
    simp only [xe_step] at hs
    split at hs
    · split at hs
      · rename_i e0
        cases hs
        have hn : mi.2.2.1 = none := by
          unfold xs_RT at hRT
          split at hRT
          all_goals first | exact hRT | exact hRT.1 | (rename_i e1; rw [e1] at e0; simp at e0) | cases hRT
        exact xs_Wmono (fin none) (W.vret hx rfl (hret.trans hn) (fun t ht _ => ⟨rfl, ht⟩) hlocs hd hlocks)
      · cases hs
    · cases hs
  | new idx => exact absurd rfl (hnew idx)
  | invokestatic idx => cases hinv
  | invokevirtual idx => cases hinv
  | invokespecial idx => cases hinv
  | newarray at0 =>
    exfalso
    cases at0 <;> first
    | (simp [xe_step] at hs; done)
    | (simp only [xe_step, xe_newa] at hs
       repeat' (split at hs)
       all_goals cases hs)
  | _ =>
    exfalso
    first
    | (simp [xe_step] at hs; done)
    | (simp only [xe_step, xe_jump, xe_getf, xe_putf, xe_ld, xe_sto, xe_newa] at hs
       repeat' (split at hs)
       all_goals cases hs)
theorem xs_pop : ∀ (n : Nat) (acc st as rest : List Value), xe_pop n acc st = some (as, rest) → as.reverse ++ rest = acc.reverse ++ st ∧ as.length = n + acc.length
  | 0, acc, st, as, rest, h => by
    cases h
    exact ⟨rfl, by omega⟩
  | n + 1, acc, [], as, rest, h => by cases h
  | n + 1, acc, v :: st, as, rest, h => by
    obtain ⟨h1, h2⟩ := xs_pop n (v :: acc) st as rest h
    refine ⟨by rw [h1]; simp, by rw [h2]; simp; omega⟩
theorem xs_lgcat : ∀ (vs : List Value), (lg_sl vs).length = xe_cat vs
  | [] => rfl
  | v :: vs => by
    have e : lg_sl (v :: vs) = (if v.category = 2 then [Slot.val v, .second] else [.val v]) ++ lg_sl vs := rfl
    rw [e, List.length_append, xs_lgcat vs]
    show _ = v.category + xe_cat vs
    cases v <;> rfl
set_option maxHeartbeats 4000000 in
theorem xs_main (hST : xs_ST cl EX STR WS K P PI) (hG : xs_G D G) (hA : xs_A D) (hSI : xs_SI cl EX STR WS D SP G l) (hGref : ∀ (U : State) (args : Array Value), G U U.heap → ∀ a ∈ xs_refs, a.before args U = true) :
    ∀ (n d : Nat) (q : xe_M) (mi : xs_MI), xs_MV cl EX STR WS K PI q mi → ∀ (pc : Nat) (ls st : List Value) (h : xe_H) (r : xe_R) (h1 : xe_H), xe_run P K n d q pc ls st h = some (r, h1) →
    ∀ {p : Program} {e : Env} {R : Room} {s : State} {m : MethodId} {args : Array Value} {below : List Frame} {meth : Method} {c : Code} {H : Heap} {locs : List Loc} {cells slots : Nat} {lsM : Array Slot} {h0 : xe_H}, e.platform.stackTraces = false → xs_At cl EX STR WS D p s m args meth c q mi → xs_R SP G D s h H → xs_L D lsM (xe_max q) ls →
      cells + h0.1 = h.1 → slots + h0.2.1 = h.2.1 → 600000 ≤ R.cells + h0.1 → 7300000 ≤ R.slots + h0.2.1 → (∀ q ∈ locs, D.2.1 ≤ q.base) → 30 + d ≤ R.frames → 1200 + 100 * d ≤ R.locals → W p l e R s m args below meth c H locs cells slots (xs_Q EX SP G D s below h0 r h1) (F0 m pc lsM (st.map (xs_T D))) := by
  intro n
  induction n with
  | zero => intro d q mi _ pc ls st h r h1 hrun; cases hrun
  | succ n ih =>
    intro d q mi hMV pc ls st h r h1 hrun p e R s m args below meth c H locs cells slots lsM h0 htr hAt hR hL0 hc hsl hRc hRs hlocs hRf hRl
    obtain ⟨hx, hIs, hts, hK⟩ := id hAt
    obtain ⟨i1, i2, i3, i4, i5, i6, i7, i8, i9⟩ := id hIs
    obtain ⟨v3, v4, v5, v6, v7, v8, v9, v10⟩ := id hMV
    obtain ⟨-, hsteady, hCV, hWA, hAO, hcl2⟩ := id hST
    have hown : s.vm.findClass mi.1.cls = some m.cls := findClass_of_methodNamed i1
    have hname : meth.name = mi.1.name := (name_of_methodNamed i1 i2).1
    have hfin : xe_rk q = 103 → meth.name = "<init>" := by
      intro z
      rw [z] at v6
      rw [hname]
      exact v6.2
    simp only [xe_run] at hrun
    split at hrun
    · cases hrun
    · rename_i i n1 b hat
      have hd : xs_dec c.code pc i := by rw [i4]; exact v5 pc i n1 b hat
      have hL := hL0.keep b
      generalize xe_keep b ls = ls2 at hrun hL
      generalize hcall : (fun (y : Nat) (as : List Value) (h1 : xe_H) => match d, P[y]? with
        | d1 + 1, some q1 => if as.all xs_kn && Nat.ble (xe_cat as) (xe_max q1) then xe_run P K n d1 q1 0 (xe_ent (xe_max q1) as) [] h1 else none
        | _, _ => none) = callf at hrun
      -- a call's end, and what follows
      have docall : ∀ (y : Nat) (as rest : List Value) (ig : Instr) (res : xe_N), xe_back q pc ls2 rest (callf y as h) = some res → (∃ mi1, PI[y]? = some mi1 ∧ (∀ q1, P[y]? = some q1 → (xs_codeW q1 mi1).before args s = true → xs_Inv p l e R s m args below meth c (F0 m pc lsM (st.map (xs_T D))) (rest.map (xs_T D)) (as.map (xs_T D)) mi1.1 H)) → decode c.code pc = .ok (ig, 3) → xe_cat rest ≤ 8 →
          (match res with
            | .inl (pc1, l1, st1, h2) => xe_run P K n d q pc1 l1 st1 h2
            | .inr rr => some rr) = some (r, h1) → W p l e R s m args below meth c H locs cells slots (xs_Q EX SP G D s below h0 r h1) (F0 m pc lsM (st.map (xs_T D))) := by
        intro y as rest ig res hb hI hdg hcat hres
        obtain ⟨mi1, hmi1, hI⟩ := hI
        cases hcf : callf y as h with
        | none => rw [hcf] at hb; cases hb
        | some rr =>
          obtain ⟨r2, h2⟩ := rr
          rw [hcf] at hb
          rw [← hcall] at hcf
          dsimp only at hcf
          split at hcf
          · rename_i d1 q1 hq1
            split at hcf
            · rename_i hkn
              simp only [Bool.and_eq_true, List.all_eq_true, Nat.ble_eq] at hkn
              obtain ⟨mi1', hmi1', w1, w2, hMV1⟩ := hST.1 y q1 hq1
              cases hmi1.symm.trans hmi1'
              obtain ⟨w3, w4, w5, w6, w7, w8, w9, w10⟩ := id hMV1
              refine xs_callW (EX := EX) (q1 := q1) (mi1 := mi1) (asM := as.map (xs_T D)) (rest := rest) (r := r2) (h1 := h2) (d := d1 + 10) (hI q1 hq1 (hts _ w1)) (hts _ w1) w3 w4 rfl (by show lsM.size = _; rw [hL.1, i5]) rfl hdg hcat hG hR hc hsl hRc hRs hlocs (xs_f1 hRf) (xs_l1 hRl) ?_ ?_ ?_
              · intro R1 s1 m1 below1 meth1 c1 hIs1 hW1 hR1 hheap1 g1 g2 g3 g4
                rw [lg_entry_eq]
                have hL1 := xs_L.entry D (vs := as) (n := xe_max q1) (by rw [xs_lgcat]; exact hkn.2) hkn.1
                exact ih d1 q1 mi1 hMV1 0 _ [] h r2 h2 hcf htr ⟨hx, hIs1, fun w hw => xs_word (hsteady w hw) hW1 (hts w hw), hK.warm hW1⟩ hR1 hL1 (Nat.zero_add _) (Nat.zero_add _) g1 g2 (fun q hq => by cases hq) (xs_f2 g3) (xs_l2 g4)
              · intro v hv H1 locs1 cells1 slots1 hR2 hc2 hsl2 hlocs2
                subst hv
                simp only [xe_back] at hb
                cases hb
                exact ih (d1 + 1) q mi hMV (pc + 3) ls2 (v.toList ++ rest) h2 r h1 hres htr hAt hR2 hL hc2 hsl2 hRc hRs hlocs2 hRf hRl
              · intro cx hcx T locs1 cells1 slots1 hR2 hc2 hsl2 hlocs2 X2 hout
                subst hcx
                obtain ⟨z0, z1, -, cell, z2, z3, z4⟩ := hout
                simp only [xe_back] at hb
                split at hb
                · rename_i hp hfind
                  cases hb
                  have hhd : xe_hand q ≠ [] := by
                    intro z
                    rw [z] at hfind
                    cases hfind
                  have htab : c.exceptionTable.toList.map (fun h => (h.startPc, h.endPc, h.handlerPc, h.catchType)) = List.zipWith (fun (r : Nat × Nat × Nat × Nat) i => (r.1, r.2.1, r.2.2.1, i)) (xe_hand q) mi.2.2.2 := by
                    rw [i9]
                    split
                    · rename_i z
                      exact absurd z hhd
                    · rename_i z
                      rw [z]
                  refine xs_catch (EX := EX) (D := D) (q := q) (mi := mi) (cx := cx) (hp := hp) (cell := cell) X2 rfl hown htab v8 (fun i r ci hr hci => ?_) z2 z4 z3 hK.2.2.1 z0 hK.2.2.2.2 hfind ?_
                  · obtain ⟨u1, C, u2, u3⟩ := v9 i r ci hr hci
                    exact ⟨u1, C, u2, hts _ u3⟩
                  · have hk := ih (d1 + 1) q mi hMV hp ls2 [.ref (h2.1 - 1)] h2 r h1 hres (p := p) (e := e) (R := R) (s := s) (m := m) (args := args) (below := below) (meth := meth) (c := c) (H := T.heap) (locs := locs1) (cells := cells1) (slots := slots1) (lsM := lsM) (h0 := h0) htr hAt hR2 hL hc2 hsl2 hRc hRs hlocs2 hRf hRl
                    have ea : D.1 (h2.1 - 1) = D.2.1 + (h2.1 - 1) := hA.1 _ (by have := hR2.2.2.2.2.1.1; omega)
                    simp only [List.map_cons, List.map_nil, xs_T, ea] at hk
                    exact hk
                · split at hb
                  · rename_i hnil
                    cases hb
                    have hres2 := Option.some.inj hres
                    simp only [Prod.mk.injEq] at hres2
                    obtain ⟨e1, e2⟩ := hres2
                    subst e1
                    subst e2
                    have htab : c.exceptionTable.toList = [] := by
                      rw [hnil] at i9
                      exact List.map_eq_nil_iff.mp i9
                    obtain ⟨y1, y2, y3, y4, y5⟩ := X2.leaveThrown (D.2.1 + (h2.1 - 1)) (g := { F0 m pc lsM (st.map (xs_T D)) with stack := rest.map (xs_T D) }) rfl rfl rfl (by rw [htab]; intro x hx; cases hx) i7
                    exact ⟨_, y1, .threw (D.2.1 + (h2.1 - 1)), locs1, cells1, slots1, y2, y3, ⟨z0, z1, rfl, cell, z2, z3, z4⟩, hR2, y4, y5, hlocs2, hc2, hsl2⟩
                  · cases hb
            · cases hcf
          · cases hcf
      have hpar : ∀ (y : MethodName) (nn : Nat) (as : List Value), (parseMethodDescriptor y.desc).map (fun d => d.parameters.length) = some nn → as.length = nn → (parseMethodDescriptor y.desc).map (fun d => d.parameters.length) = some (as.map (xs_T D)).length := by
        intro y nn as h1 h2
        rw [List.length_map, h2]
        exact h1
      -- the receiver
      have recv : ∀ (as : List Value) (ci : Nat), xe_recv h as ci = true → ∃ a as2 cell, as = .ref a :: as2 ∧ H[D.1 a]? = some cell ∧ cell.vm.isStatics = false ∧ cell.cls = D.2.2.1 ci := by
        intro as ci hrc
        unfold xe_recv at hrc
        split at hrc
        · rename_i a as2
          split at hrc
          · rename_i o ho
            simp only [Bool.and_eq_true, Nat.beq_eq, Nat.blt_eq] at hrc
            obtain ⟨⟨cell, r1, r2, r3, r4, r5, -⟩, -⟩ := hR.2.1 a o ho hrc.2
            exact ⟨a, as2, cell, rfl, r1, r5, by rw [r2, hrc.1]⟩
          · cases hrc
        · cases hrc
      have hinvoke : ∀ (kd idx : Nat) (ii : Instr), (kd = 0 ∧ ii = .invokestatic idx) ∨ (kd = 1 ∧ ii = .invokevirtual idx) ∨ (kd = 2 ∧ ii = .invokespecial idx) → decode c.code pc = .ok (ii, 3) → ∀ res, xe_call q callf kd pc idx ls2 st h = some res →
          (match res with
            | .inl (pc1, l1, st1, h2) => xe_run P K n d q pc1 l1 st1 h2
            | .inr rr => some rr) = some (r, h1) → W p l e R s m args below meth c H locs cells slots (xs_Q EX SP G D s below h0 r h1) (F0 m pc lsM (st.map (xs_T D))) := by
        intro kd idx ii hkd hdg res hs hres
        have hk := v7 idx
        have hs0 := hs
        unfold xe_call at hs
        split at hs
        · rename_i y nn u1 hlk
          rw [hlk] at hk
          obtain ⟨mi1, k1, k2, k3, k4, k5⟩ := hk
          split at hs
          · rename_i as rest hpop
            obtain ⟨hst, hlen⟩ := xs_pop _ _ _ _ _ hpop
            split at hs
            · rename_i hb
              simp only [Bool.and_eq_true, beq_iff_eq, decide_eq_true_eq] at hb
              refine docall y as rest ii res hs ⟨mi1, k1, fun q1 hq1 hcw => ?_⟩ hdg hb.2 hres
              rcases hkd with ⟨e1, e2⟩ | ⟨e1, e2⟩ | ⟨e1, e2⟩
              · obtain ⟨mi1', g1, g2⟩ := hST.1 y q1 hq1
                cases k1.symm.trans g1
                rw [e2] at hdg
                refine xs_invS hx hown (k2.imp (fun z => hts _ z) (fun ⟨host, z⟩ => ⟨host, hts _ z⟩)) (hts _ k3) (hts _ g2.2.1) k4 (xs_Is.of hcw) rfl (hpar _ _ _ k5 (by simpa using hlen)) rfl ?_ hdg
                show st.map (xs_T D) = (as.map (xs_T D)).reverse ++ rest.map (xs_T D)
                have hst : as.reverse ++ rest = st := hst
                rw [← hst]
                simp
              · omega
              · omega
            · cases hs
          · cases hs
        · rename_i y nn u1 hlk
          rw [hlk] at hk
          obtain ⟨mi1, C, T2, N2, k1, k2, k3, k4, k5, k6, k7⟩ := hk
          split at hs
          · rename_i as rest hpop
            obtain ⟨hst, hlen⟩ := xs_pop _ _ _ _ _ hpop
            split at hs
            · rename_i hb
              simp only [Bool.and_eq_true, beq_iff_eq, decide_eq_true_eq] at hb
              obtain ⟨a, as2, cell, rfl, r1, r2, r3⟩ := recv as _ hb.2.2
              refine docall y (.ref a :: as2) rest ii res hs ⟨mi1, k1, fun q1 hq1 hcw => ?_⟩ hdg hb.2.1 hres
              rcases hkd with ⟨e1, e2⟩ | ⟨e1, e2⟩ | ⟨e1, e2⟩
              · omega
              · rw [e2] at hdg
                refine xs_invV (C := C) hx hown (k3.imp (fun z => hts _ z) (fun ⟨host, z⟩ => ⟨host, hts _ z⟩)) (hts _ k4) (hts _ k5) k6 r1 r2 (by rw [r3]; exact (hK.1 _ _ k2).2.1) (xs_Is.of hcw) rfl (hpar _ _ _ k7 (by simpa using hlen)) rfl ?_ hdg
                show st.map (xs_T D) = (as2.map (xs_T D)).reverse ++ .ref (D.1 a) :: rest.map (xs_T D)
                have hst : (Value.ref a :: as2).reverse ++ rest = st := hst
                rw [← hst]
                simp [xs_T]
              · omega
            · cases hs
          · cases hs
        · rename_i y nn u1 hlk
          rw [hlk] at hk
          obtain ⟨mi1, C, T2, N2, owner, x, k1, k2, k3, k4, k5, k6, k7, k8, k9⟩ := hk
          split at hs
          · rename_i as rest hpop
            obtain ⟨hst, hlen⟩ := xs_pop _ _ _ _ _ hpop
            split at hs
            · rename_i hb
              simp only [Bool.and_eq_true, beq_iff_eq, decide_eq_true_eq] at hb
              obtain ⟨a, as2, cell, rfl, r1, r2, r3⟩ := recv as _ hb.2.2
              refine docall y (.ref a :: as2) rest ii res hs ⟨mi1, k1, fun q1 hq1 hcw => ?_⟩ hdg hb.2.1 hres
              rcases hkd with ⟨e1, e2⟩ | ⟨e1, e2⟩ | ⟨e1, e2⟩
              · omega
              · rw [e2] at hdg
                obtain ⟨mk, mh, ck, j1, j2, j3, j4, j5, j6, j7, j8, j9⟩ := xs_Is.of hcw
                have hdecl : va_Decl s ⟨owner, x.name, x.desc⟩ := by
                  obtain ⟨mk', mh', hnamed, hmethM, hstM, habM⟩ := Cond.instanceMethod_spec (hts _ k8)
                  cases j1.symm.trans hnamed
                  cases j2.symm.trans hmethM
                  rw [← k5]
                  exact ⟨mk, mh, j1, j2, hstM, j8⟩
                refine xs_invU (C := C) hx hown (hts _ k3) (hts _ k4) hdecl k6 (hts _ k7) (hts _ k8) r1 r2 (by rw [r3]; exact (hK.1 _ _ k2).2.1) (hpar _ _ _ k9 (by simpa using hlen)) rfl ?_ hdg
                show st.map (xs_T D) = (as2.map (xs_T D)).reverse ++ .ref (D.1 a) :: rest.map (xs_T D)
                have hst : (Value.ref a :: as2).reverse ++ rest = st := hst
                rw [← hst]
                simp [xs_T]
              · omega
            · cases hs
          · cases hs
        · rename_i y y2 u1 hlk
          rw [hlk] at hk
          obtain ⟨hka, hkb⟩ := hk
          split at hs
          · rename_i as rest hpop
            obtain ⟨hst, hlen⟩ := xs_pop _ _ _ _ _ hpop
            split at hs
            · rename_i hb
              simp only [Bool.and_eq_true, beq_iff_eq, decide_eq_true_eq] at hb
              split at hs
              · rename_i hrc
                obtain ⟨mi1, C, T2, N2, owner, x, k1, k2, k3, k4, k5, k6, k7, k8, k9⟩ := hka
                obtain ⟨a, as2, cell, rfl, r1, r2, r3⟩ := recv as _ hrc
                refine docall y (.ref a :: as2) rest ii res hs ⟨mi1, k1, fun q1 hq1 hcw => ?_⟩ hdg hb.2 hres
                rcases hkd with ⟨e1, e2⟩ | ⟨e1, e2⟩ | ⟨e1, e2⟩
                · omega
                · rw [e2] at hdg
                  refine xs_invU (C := C) hx hown (hts _ k3) (hts _ k4) (va_Decl.abs (va_Nw.of rfl (hts _ k5))) k6 (hts _ k7) (hts _ k8) r1 r2 (by rw [r3]; exact (hK.1 _ _ k2).2.1) (hpar _ _ _ k9 (by simpa using hlen)) rfl ?_ hdg
                  show st.map (xs_T D) = (as2.map (xs_T D)).reverse ++ .ref (D.1 a) :: rest.map (xs_T D)
                  have hst : (Value.ref a :: as2).reverse ++ rest = st := hst
                  rw [← hst]
                  simp [xs_T]
                · omega
              · split at hs
                · rename_i hrc
                  obtain ⟨mi1, C, T2, N2, owner, x, k1, k2, k3, k4, k5, k6, k7, k8, k9⟩ := hkb
                  obtain ⟨a, as2, cell, rfl, r1, r2, r3⟩ := recv as _ hrc
                  refine docall y2 (.ref a :: as2) rest ii res hs ⟨mi1, k1, fun q1 hq1 hcw => ?_⟩ hdg hb.2 hres
                  rcases hkd with ⟨e1, e2⟩ | ⟨e1, e2⟩ | ⟨e1, e2⟩
                  · omega
                  · rw [e2] at hdg
                    refine xs_invU (C := C) hx hown (hts _ k3) (hts _ k4) (va_Decl.abs (va_Nw.of rfl (hts _ k5))) k6 (hts _ k7) (hts _ k8) r1 r2 (by rw [r3]; exact (hK.1 _ _ k2).2.1) (hpar _ _ _ k9 (by simpa using hlen)) rfl ?_ hdg
                    show st.map (xs_T D) = (as2.map (xs_T D)).reverse ++ .ref (D.1 a) :: rest.map (xs_T D)
                    have hst : (Value.ref a :: as2).reverse ++ rest = st := hst
                    rw [← hst]
                    simp [xs_T]
                  · omega
                · cases hs
            · cases hs
          · cases hs
        · rename_i y nn u1 hlk
          rw [hlk] at hk
          obtain ⟨mi1, k1, k2, k3, k4, k5, k6, k7, k8⟩ := hk
          split at hs
          · rename_i a as2 rest hpop
            obtain ⟨hst, hlen⟩ := xs_pop _ _ _ _ _ hpop
            split at hs
            · rename_i hb
              simp only [Bool.and_eq_true, beq_iff_eq, decide_eq_true_eq] at hb
              refine docall y (.ref a :: as2) rest ii res hs ⟨mi1, k1, fun q1 hq1 hcw => ?_⟩ hdg hb.2 hres
              rcases hkd with ⟨e1, e2⟩ | ⟨e1, e2⟩ | ⟨e1, e2⟩
              · omega
              · omega
              · rw [e2] at hdg
                obtain ⟨mi1', g1, g2⟩ := hST.1 y q1 hq1
                cases k1.symm.trans g1
                have hnil : xe_hand q1 = [] := by
                  have := g2.2.2.2.2.2.2.2.1
                  rw [k6] at this
                  exact List.length_eq_zero_iff.mp this
                unfold xs_codeW at hcw
                rw [hnil] at hcw
                dsimp only at hcw
                rw [k5] at hcw
                refine xs_invI hx hown (k2.imp (fun z => hts _ z) (fun ⟨host, z⟩ => ⟨host, hts _ z⟩)) (hts _ k3) k4 k7 hcw (hpar _ _ _ k8 (by simpa using hlen)) rfl ?_ hdg
                show st.map (xs_T D) = (as2.map (xs_T D)).reverse ++ .ref (D.1 a) :: rest.map (xs_T D)
                have hst : (Value.ref a :: as2).reverse ++ rest = st := hst
                rw [← hst]
                simp [xs_T]
            · cases hs
          · cases hs
        · rename_i u1 u2 u3 hlk
          rw [hlk] at hk
          obtain ⟨k1, k2, k3⟩ := hk
          split at hs
          · rename_i a rest
            split at hs
            · rename_i hb
              simp only [Bool.and_eq_true, beq_iff_eq, decide_eq_true_eq] at hb
              cases hs
              rcases hkd with ⟨e1, e2⟩ | ⟨e1, e2⟩ | ⟨e1, e2⟩
              · omega
              · omega
              · rw [e2] at hdg
                refine W.objInit hx rfl hown (hts _ k1) (hts _ k2) (hts _ k3) rfl (by show lsM.size = _; rw [hL.1, i5]) (a := D.1 a) (rest := rest.map (xs_T D)) rfl hdg (by omega) (by show 2 * 0 + _ + 12 ≤ _; rw [xs_T_cats]; omega) ?_
                exact ih d q mi hMV (pc + 3) ls2 rest h r h1 hres htr hAt hR hL hc hsl hRc hRs hlocs hRf hRl
            · cases hs
          · cases hs
        · rename_i u1 u2 u3 hlk
          rw [hlk] at hk
          obtain ⟨k1, k2, k3, k4⟩ := hk
          split at hs
          · rename_i hb
            simp only [beq_iff_eq] at hb
            rcases hkd with ⟨e1, e2⟩ | ⟨e1, e2⟩ | ⟨e1, e2⟩
            · rw [e2] at hdg
              obtain ⟨pc1, l1, st1, h2, rfl⟩ : ∃ pc1 l1 st1 h2, res = .inl (pc1, l1, st1, h2) := by
                unfold xe_copy at hs
                repeat' (split at hs)
                all_goals first | (cases hs; exact ⟨_, _, _, _, rfl⟩) | cases hs
              refine xs_copy hs hx hown (hts _ k1) (hts _ k2) (hts _ k3) (hts _ k4) hK hG hA hR hL i5.symm hlocs (by omega) (by omega) hdg (fun H1 locs1 hR2 f1 f2 f3 hlocs2 => ?_)
              subst f3
              exact ih d q mi hMV pc1 l1 st1 h2 r h1 hres htr hAt hR2 hL (by rw [f1]; exact hc) (by rw [f2]; exact hsl) hRc hRs hlocs2 hRf hRl
            · omega
            · omega
          · cases hs
        · rename_i u1 u2 hlk
          rw [hlk] at hk
          obtain ⟨pc1, l1, st1, h2, rfl⟩ : ∃ pc1 l1 st1 h2, res = .inl (pc1, l1, st1, h2) := by
            repeat' (split at hs)
            all_goals first | (cases hs; exact ⟨_, _, _, _, rfl⟩) | cases hs
          have hk1 : kd = 1 := by
            repeat' (split at hs)
            all_goals first | (rename_i hb; simp only [Bool.and_eq_true, beq_iff_eq] at hb; exact hb.1) | cases hs
          rcases hkd with ⟨e1, e2⟩ | ⟨e1, e2⟩ | ⟨e1, e2⟩
          · omega
          · rw [e2] at hdg
            rw [e1] at hs0
            exact hSI hAt hk hlk hs0 hR hL hc hsl hRc hRs hlocs (by omega) (by omega) hdg (fun f1 f2 H1 locs1 cells1 slots1 hR2 hc2 hsl2 hlocs2 => by
              subst f1
              subst f2
              exact ih d q mi hMV pc1 l1 st1 h2 r h1 hres htr hAt hR2 hL hc2 hsl2 hRc hRs hlocs2 hRf hRl)
          · omega
        · rename_i u1 u2 hlk
          rw [hlk] at hk
          obtain ⟨pc1, l1, st1, h2, rfl⟩ : ∃ pc1 l1 st1 h2, res = .inl (pc1, l1, st1, h2) := by
            repeat' (split at hs)
            all_goals first | (cases hs; exact ⟨_, _, _, _, rfl⟩) | cases hs
          have hk1 : kd = 1 := by
            repeat' (split at hs)
            all_goals first | (rename_i hb; simp only [Bool.and_eq_true, beq_iff_eq] at hb; exact hb.1) | cases hs
          rcases hkd with ⟨e1, e2⟩ | ⟨e1, e2⟩ | ⟨e1, e2⟩
          · omega
          · rw [e2] at hdg
            rw [e1] at hs0
            exact hSI hAt hk hlk hs0 hR hL hc hsl hRc hRs hlocs (by omega) (by omega) hdg (fun f1 f2 H1 locs1 cells1 slots1 hR2 hc2 hsl2 hlocs2 => by
              subst f1
              subst f2
              exact ih d q mi hMV pc1 l1 st1 h2 r h1 hres htr hAt hR2 hL hc2 hsl2 hRc hRs hlocs2 hRf hRl)
          · omega
        · cases hs
      by_cases hinv : xe_isInv i = true
      · cases i with
        | invokestatic idx =>
          have hd : decode c.code pc = .ok (.invokestatic idx, 3) := hd
          split at hrun
          · cases hrun
          · rename_i pc1 l1 st1 h2 hs
            exact hinvoke 0 idx _ (Or.inl ⟨rfl, rfl⟩) hd _ hs hrun
          · rename_i rr hs
            exact hinvoke 0 idx _ (Or.inl ⟨rfl, rfl⟩) hd _ hs hrun
        | invokevirtual idx =>
          have hd : decode c.code pc = .ok (.invokevirtual idx, 3) := hd
          split at hrun
          · cases hrun
          · rename_i pc1 l1 st1 h2 hs
            exact hinvoke 1 idx _ (Or.inr (Or.inl ⟨rfl, rfl⟩)) hd _ hs hrun
          · rename_i rr hs
            exact hinvoke 1 idx _ (Or.inr (Or.inl ⟨rfl, rfl⟩)) hd _ hs hrun
        | invokespecial idx =>
          have hd : decode c.code pc = .ok (.invokespecial idx, 3) := hd
          split at hrun
          · cases hrun
          · rename_i pc1 l1 st1 h2 hs
            exact hinvoke 2 idx _ (Or.inr (Or.inr ⟨rfl, rfl⟩)) hd _ hs hrun
          · rename_i rr hs
            exact hinvoke 2 idx _ (Or.inr (Or.inr ⟨rfl, rfl⟩)) hd _ hs hrun
        | _ => cases hinv
      · have hinv : xe_isInv i = false := by simpa using hinv
        split at hrun
        · cases hrun
        · rename_i pc1 l1 st1 h2 hs
          refine xs_pure (K := K) (PI := PI) hs hinv hd hx hown hts hCV hK hG hA v7 hWA hAO hcl2 hfin hR hL hc hsl hRc hRs hlocs (fun H1 ls1 locs1 cells1 slots1 hR2 hL2 hc2 hsl2 hlocs2 => ?_)
          exact ih d q mi hMV pc1 l1 st1 h2 r h1 hrun htr hAt hR2 hL2 hc2 hsl2 hRc hRs hlocs2 hRf hRl
        · rename_i rr hs
          cases hrun
          by_cases hnew : ∃ idx, i = .new idx
          · obtain ⟨idx, rfl⟩ := hnew
            have hd : decode c.code pc = .ok (.new idx, 3) := hd
            have hk := v7 idx
            simp only [xe_step, xe_new1] at hs
            split at hs
            · rename_i cx nn ic hlk
              rw [hlk] at hk
              split at hs
              · rename_i hnil
                split at hs
                · rename_i hb
                  simp only [xe_fits, Bool.and_eq_true, Nat.ble_eq, decide_eq_true_eq] at hb
                  cases hs
                  obtain ⟨e6, X, k1, k2, k3, k4, k5, k6⟩ := hk
                  subst e6
                  obtain ⟨d1, d2, d3⟩ := v10 pc idx n1 b cx 6 ic hat hlk
                  have htab : c.exceptionTable.toList = [] := by
                    rw [hnil] at i9
                    exact List.map_eq_nil_iff.mp i9
                  refine xs_throw (WS := WS) (EX := EX) (names := xs_names) hx htr i7 hown k5 (by decide) (by decide) (fun U hW hGU a ha => ?_) k2 k3 k4 hts (hK.2.2.1 _ _ k1) k1 hG hA hR (by rw [hL.1, i5]) hc hsl hRc hRs hlocs (by omega) (by omega) ⟨hb.1.1, hb.1.2⟩ hb.2 htab hd (by rw [i4]; exact d1) (by rw [i4]; exact d2) (by rw [i4]; exact d3)
                  rcases k6 a ha with z | z
                  · exact xs_word (hsteady a z) hW (hts a z)
                  · exact hGref U args hGU a z
                · cases hs
              · cases hs
            · split at hs
              · split at hs <;> cases hs
              · cases hs
            · cases hs
          · exact xs_ret (mi := mi) hs hinv (fun idx z => hnew ⟨idx, z⟩) hd hx i6 i7 v6 hR hc hsl hlocs
end XM
