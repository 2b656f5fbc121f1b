/-! ===== the law's entry ===== -/
def xs_Zs (n d : String) (B : Nat) (U : State) (H : Heap) : Prop := ∃ (c : ClassId) (k : Class) (i : Nat) (f : Field) (a : Nat) (cell : Cell) (v : Value), U.vm.findClass Bundle.tN = some c ∧ U.fieldFound? Bundle.tN n d = some (c, k, i, f) ∧ f.isStatic = true ∧ k.statics = some a ∧ H[a]? = some cell ∧ cell.vm.isStatics = true ∧ cell.cls = c ∧ f.slot < cell.slots.size ∧ k.staticTypes[f.slot]? = some f.type ∧ cell.slots[f.slot]? = some v ∧ (v = .null ∨ ∃ t, v = .ref t) ∧ a < B
theorem xs_Zs.of {args : Array Value} {s : State} {n d : String} (hl : (Cond.laysStatic Bundle.tN n d).before args s = true) (hr : (Cond.isRef (.static Bundle.tN n d)).before args s = true) : xs_Zs n d s.heap.size s s.heap := by
  obtain ⟨c, k, i, f, a, cell, hc, hi, hst, ha, hcell, hs, hcls, hlt, hty⟩ := Cond.laysStatic_spec hl
  cases hv : (Term.static Bundle.tN n d).eval args s none [] s with
  | none => simp [Cond.before, Cond.holds, Cond.value, hv] at hr
  | some w =>
    obtain ⟨hst', a', cell', ha', hcell', -, hslot⟩ := Term.static_spec hi hv
    cases ha.symm.trans ha'
    cases hcell.symm.trans hcell'
    refine ⟨c, k, i, f, a, cell, w, hc, hi, hst, ha, hcell, hs, hcls, hlt, hty, hslot, ?_, (Array.getElem?_eq_some_iff.mp hcell).1⟩
    cases w with
    | null => exact Or.inl rfl
    | ref t => exact Or.inr ⟨t, rfl⟩
    | _ => simp [Cond.before, Cond.holds, Cond.value, hv] at hr
theorem xs_Zs.lays {args : Array Value} {U : State} {n d : String} {B : Nat} (h : xs_Zs n d B U U.heap) : (Cond.laysStatic Bundle.tN n d).before args U = true := by
  obtain ⟨c, k, i, f, a, cell, v, h1, h2, h3, h4, h5, h6, h7, h8, h9, h10, h11, h12⟩ := h
  simp [Cond.before, Cond.holds, Cond.value, h1, h2, h3, h4, h5, h6, h7, h8, h9]
theorem xs_Zs.isRef {args : Array Value} {U : State} {n d : String} {B : Nat} (h : xs_Zs n d B U U.heap) : (Cond.isRef (.static Bundle.tN n d)).before args U = true := by
  obtain ⟨c, k, i, f, a, cell, v, h1, h2, h3, h4, h5, h6, h7, h8, h9, h10, h11, h12⟩ := h
  have he : (Term.static Bundle.tN n d).eval args U none [] U = some v := by
    simp [Term.eval, State.fieldNamed?, h2, h3, h4, h5, h6, h10]
  rcases h11 with rfl | ⟨t, rfl⟩ <;> simp [Cond.before, Cond.holds, Cond.value, he]
theorem xs_Zs.moved {U V : State} {n d : String} {B : Nat} {H H1 : Heap} (hvm : U.vm.Alike V.vm) (hq : ∀ q, q < B → H1[q]? = H[q]?) (h : xs_Zs n d B U H) : xs_Zs n d B V H1 := by
  obtain ⟨c, k, i, f, a, cell, v, h1, h2, h3, h4, h5, h6, h7, h8, h9, h10, h11, h12⟩ := h
  obtain ⟨k', hi', he⟩ := State.fieldFound?_setVm hvm h2
  exact ⟨c, k', i, f, a, cell, v, by rw [hvm.findClass]; exact h1, hi', h3, by rw [he]; exact h4, by rw [hq a h12]; exact h5, h6, h7, h8, by rw [he]; exact h9, h10, h11, h12⟩
/-- all that is known of what was there before -/
def xs_GA (byt : List (List Int32)) (D : xs_D) (U : State) (H : Heap) : Prop := xs_GS byt.length byt D U H ∧ xs_Zs "UNASSIGNED_STACK" Bundle.steD D.2.1 U H ∧ xs_Zs "SUPPRESSED_SENTINEL" Bundle.listD D.2.1 U H
theorem xs_GA_G (byt : List (List Int32)) (D : xs_D) : xs_G D (xs_GA byt D) := by
  rintro U V H H1 hvm hq ⟨⟨⟨hS, -⟩, hZ, hZq⟩, h1, h2⟩
  have hq2 : ∀ a : Nat, a < H.size → ¬ (fun q => D.2.1 ≤ q) a → H1[a]? = H[a]? := fun a _ ha => hq a (Nat.lt_of_not_le ha)
  refine ⟨⟨⟨fun i hi => ?_, trivial⟩, (hZ.moved hvm).kept hq2, (hZq.moved hvm).kept hq2⟩, h1.moved hvm hq, h2.moved hvm hq⟩
  obtain ⟨s1, s2, s3, s4⟩ := hS i hi
  exact ⟨(va_O.moved hvm s1).kept hq2, (va_OF.moved hvm s2).kept hq2, (va_OF.moved hvm s3).kept hq2, (va_T.moved hvm s4).kept hq2⟩
theorem xs_GA_refs (byt : List (List Int32)) (D : xs_D) (U : State) (args : Array Value) (h : xs_GA byt D U U.heap) : ∀ a ∈ xs_refs, a.before args U = true := by
  obtain ⟨-, h1, h2⟩ := h
  intro a ha
  simp only [xs_refs, List.mem_cons, List.not_mem_nil, or_false] at ha
  rcases ha with rfl | rfl | rfl | rfl
  · exact h1.isRef
  · exact h2.isRef
  · exact h1.lays
  · exact h2.lays
/-- the words on a text -/
def xs_tw (t : Term) (b : List Int32) : List Cond := [.exactly t "java/lang/String", .eq (.field t "java/lang/String" "coder" "B") (.int 0), .arrayOf (.field t "java/lang/String" "value" "[B") .byte, .eq (.length (.field t "java/lang/String" "value" "[B")) (.int (Int32.ofNat b.length))] ++ (List.range b.length).map (fun j => .eq (.elem (.field t "java/lang/String" "value" "[B") (.int (Int32.ofNat j))) (.int (b.getD j 0)))
def xs_tws : List (String × Nat × String × Nat) → List (List Int32) → List Cond
  | r :: R, b :: B => xs_tw (.string r.1 r.2.1) b ++ xs_tws R B
  | _, _ => []
theorem xs_tws_mem : ∀ (R : List (String × Nat × String × Nat)) (B : List (List Int32)) (i : Nat) (r : String × Nat × String × Nat) (b : List Int32), R[i]? = some r → B[i]? = some b → ∀ w ∈ xs_tw (.string r.1 r.2.1) b, w ∈ xs_tws R B
  | [], _, i, r, b, h1, _, w, hw => by simp at h1
  | _ :: _, [], i, r, b, _, h2, w, hw => by simp at h2
  | r0 :: R, b0 :: B, 0, r, b, h1, h2, w, hw => by
    cases h1
    cases h2
    exact List.mem_append_left _ hw
  | r0 :: R, b0 :: B, i + 1, r, b, h1, h2, w, hw => List.mem_append_right _ (xs_tws_mem R B i r b h1 h2 w hw)
theorem xs_text {args : Array Value} {s : State} {t : Term} {b : List Int32} (hw : ∀ w ∈ xs_tw t b, w.before args s = true) (hlen : b.length < 2 ^ 31) : ∃ aK aV : Nat, va_O "java/lang/String" aK (fun q => s.heap.size ≤ q) s s.heap ∧ va_OF "java/lang/String" "coder" "B" (.int 0) aK (fun q => s.heap.size ≤ q) s s.heap ∧ va_OF "java/lang/String" "value" "[B" (.ref aV) aK (fun q => s.heap.size ≤ q) s s.heap ∧ va_T .byte aV b.length (fun j => .int (b.getD j 0)) (fun q => s.heap.size ≤ q) s s.heap ∧ t.eval args s none [] s = some (.ref aK) := by
  obtain ⟨adK, adV, hS, he⟩ := vk_Sof (N := 1) (tm := fun _ => t) (len := [b.length]) (byt := [b]) (A := fun q => s.heap.size ≤ q) (args := args) (s := s)
    (fun i hi => by match i, hi with | 0, _ => exact hlen)
    (fun i hi => hw _ (by simp [xs_tw]))
    (fun i hi => hw _ (by simp [xs_tw]))
    (fun i hi => hw _ (by simp [xs_tw]))
    (fun i hi => by match i, hi with | 0, _ => exact hw _ (by simp [xs_tw]))
    (fun i hi j hj => by
      match i, hi with
      | 0, _ =>
        have hj : j < b.length := hj
        refine hw _ (List.mem_append_right _ (List.mem_map.mpr ⟨j, List.mem_range.mpr hj, rfl⟩)))
    (fun i j hi hj hij => absurd (by omega : i = j) hij) (fun a ha => Nat.not_le_of_lt ha)
  obtain ⟨h1, h2, h3, h4⟩ := hS.1 0 (by decide)
  exact ⟨adK 0, adV 0, h1, h2, h3, h4, he 0 (by decide)⟩
def zbyt : List (List Int32) := [[108, 111, 100, 103, 101, 114, 32, 98, 117, 114, 110, 115, 32, 104, 111, 109, 101, 32, 116, 111, 32, 99, 111, 105, 110, 115, 32, 98, 101, 97, 114, 115, 32, 119, 97, 105, 116, 115, 32, 111, 119, 101, 115, 32, 103, 97, 115, 32, 112, 114, 105, 99, 101, 32, 102, 114, 111, 115, 116, 32, 116, 105, 99, 107, 32, 110, 105, 103, 104, 116, 32, 116, 117, 114, 110, 32, 115, 112, 97, 114, 101, 32, 114, 101, 102, 117, 115, 101, 32, 105, 102, 32, 111, 114, 32, 97, 110, 100, 32, 110, 111, 116, 32, 108, 97, 115, 116, 32, 99, 111, 108, 100, 32, 102, 101, 100, 32, 99, 104, 105, 108, 108, 32, 100, 97, 114, 107, 32], [116, 117, 114, 110], [115, 112, 97, 114, 101], [114, 101, 102, 117, 115, 101], [105, 102], [110, 111, 116], [108, 97, 115, 116], [99, 111, 108, 100], [108, 111, 100, 103, 101, 114], [98, 117, 114, 110, 115], [99, 111, 105, 110, 115], [102, 101, 100], [99, 104, 105, 108, 108], [100, 97, 114, 107], [116, 105, 99, 107], [97, 110, 100], [111, 114], [104, 111, 109, 101], [116, 111], [98, 101, 97, 114, 115], [119, 97, 105, 116, 115], [111, 119, 101, 115], [103, 97, 115], [112, 114, 105, 99, 101], [102, 114, 111, 115, 116], [110, 105, 103, 104, 116]]
set_option maxRecDepth 100000 in
theorem zflat : (flatC (Jvm.Cond.and given_1 narrow_1)).drop 91 = xs_tws zSTR zbyt := by decide +kernel
theorem zbyt_ok : ∀ b ∈ zbyt, b.length < 2 ^ 31 ∧ ∀ x ∈ b, xs_chOK x = true := by decide +kernel
theorem zSTR_len : zSTR.length = zbyt.length := by decide +kernel
theorem zSTR_ad : ∀ i, i < 26 → (zSTR.getD i ("", 0, "", 0)).2.2.2 = 1500000 + i := by decide +kernel
def xs_plD : List Cond → List Nat → Bool
  | [], _ => true
  | w :: l, i :: ps => decide (lw_tbl[i]? = some w) && xs_plD l ps
  | _ :: _, [] => false
theorem xs_plD_ok {L : List Cond} (ps : List Nat) (h : xs_plD L ps = true) : ∀ a ∈ L, a ∈ lw_tbl := by
  induction L generalizing ps with
  | nil => intro a ha; cases ha
  | cons w l ih =>
    cases ps with
    | nil => cases h
    | cons i ps =>
      unfold xs_plD at h
      rw [Bool.and_eq_true, decide_eq_true_eq] at h
      intro a ha
      rcases List.mem_cons.mp ha with rfl | e
      · exact List.mem_of_getElem? h.1
      · exact ih ps h.2 a e
theorem zSTRw : ∀ r ∈ zSTR, Cond.stringRef r.1 r.2.1 r.2.2.1 ∈ lw_tbl := fun r hr => xs_plD_ok (L := zSTR.map fun r => Cond.stringRef r.1 r.2.1 r.2.2.1) [900, 1675, 1682, 1683, 1692, 1705, 1714, 1715, 1724, 1725, 1726, 1727, 1728, 1729, 1730, 1731, 1732, 1745, 1746, 1747, 1752, 1757, 1762, 1767, 1768, 1769] (by decide +kernel) _ (List.mem_map.mpr ⟨r, hr, rfl⟩)
def xs_mkD (b base : Nat) (fK fV : Nat → Nat) (fC : Nat → ClassId) (fI : Nat → Nat → Nat) : xs_D := (fun a => if a < 1000000 then base + a else if a = 1000000 then b else if a < 1600000 then fK (a - 1500000) else fV (a - 1600000), base, fC, fI)
/-- our heap at the law's entry -/
def xs_h0 (L : Nat) (xs : Nat → Int32) : xe_H := (0, 0, fun a => if a = 1000000 then some (1500, L, fun j => .int (xs j)) else xs_SPof zbyt a)
theorem zEXw : ∀ q ∈ zEX, Cond.instantiable q.2 6 ∈ zWS := by
  intro q hq
  simp only [zEX, List.mem_cons, List.not_mem_nil, or_false] at hq
  rcases hq with rfl | rfl | rfl | rfl | rfl
  · exact xs_mw 1048 (by decide +kernel) rfl
  · exact xs_mw 1114 (by decide +kernel) rfl
  · exact xs_mw 1156 (by decide +kernel) rfl
  · exact xs_mw 1195 (by decide +kernel) rfl
  · exact xs_mw 1257 (by decide +kernel) rfl
theorem zEXn : ∀ q ∈ zEX, ∀ r ∈ zEX, q.1 ≠ r.1 → Cond.not (.castable q.2 r.2) ∈ flatC (Jvm.Cond.and given_1 narrow_1) := by decide +kernel
theorem zEXu : ∀ q ∈ zEX, ∀ r ∈ zEX, q.1 = r.1 → q.2 = r.2 := by decide +kernel
def lw_P (b : Addr) (xs : List Int32) (args : Array Value) (s : State) : Prop := args = #[.ref b] ∧ s.IntsAt b xs ∧ xs.length ≤ 384 ∧ (Jvm.Cond.and given_1 narrow_1).before args s = true
def lw_Q (_ : Array Value) (s : State) (o : Outcome) (t : State) : Prop := o = .returned (some (.int 1)) ∧ Framed s o t [] 600128 7301098
def lw_Z (below : List Frame) (a : Array Value) (s : State) : State → Prop := fun t => ∃ o, t.status = .running ∧ Ended t below o ∧ lw_Q a s o t
abbrev zmiL : xs_MI := (yL_law_, cL_law_, (some .boolean), [])
/-- what holds at the law's entry -/
def lw_At (p : Program) (s : State) (m : MethodId) (meth : Method) (c : Code) (b L : Nat) (xs : Nat → Int32) : Prop :=
  p.tables.exec = Jvm.exec ∧ xs_Is qL_law_ zmiL s m meth c ∧ (∀ w ∈ lw_tbl, w.before #[Value.ref b] s = true) ∧ va_X b L xs s s.heap ∧ b < s.heap.size ∧ (Jvm.Cond.and given_1 narrow_1).before #[Value.ref b] s = true
set_option maxHeartbeats 4000000 in
theorem xs_D_of {s : State} {b L : Nat} {xs : Nat → Int32} (hts : ∀ w ∈ lw_tbl, w.before #[Value.ref b] s = true) (hX : va_X b L xs s s.heap) (hb : b < s.heap.size) (hgv : (Jvm.Cond.and given_1 narrow_1).before #[Value.ref b] s = true) :
    ∃ D : xs_D, D.2.1 = s.heap.size ∧ D.1 1000000 = b ∧ xs_A D ∧ xs_K zcl zEX zSTR D s ∧ xs_R (xs_SPof zbyt) (xs_GA zbyt D) D s (xs_h0 L xs) s.heap := by
  have hfl := flat_of_before _ hgv
  have hw : ∀ w ∈ zWS, w.before #[Value.ref b] s = true := fun w h => hts w (List.mem_filter.mp h).1
  -- the texts
  have tx : ∀ i : Nat, ∃ aa : Nat × Nat, aa.1 < s.heap.size ∧ aa.2 < s.heap.size ∧ ∀ (r : String × Nat × String × Nat) (bb : List Int32), zSTR[i]? = some r → zbyt[i]? = some bb → va_O "java/lang/String" aa.1 (fun q => s.heap.size ≤ q) s s.heap ∧ va_OF "java/lang/String" "coder" "B" (.int 0) aa.1 (fun q => s.heap.size ≤ q) s s.heap ∧ va_OF "java/lang/String" "value" "[B" (.ref aa.2) aa.1 (fun q => s.heap.size ≤ q) s s.heap ∧ va_T .byte aa.2 bb.length (fun j => .int (bb.getD j 0)) (fun q => s.heap.size ≤ q) s s.heap ∧ (Term.string r.1 r.2.1).eval #[Value.ref b] s none [] s = some (.ref aa.1) := by
    intro i
    by_cases hi : i < zbyt.length
    · obtain ⟨aK, aV, h1, h2, h3, h4, h5⟩ := xs_text (args := #[Value.ref b]) (s := s) (t := .string (zSTR[i]'(by rw [zSTR_len]; exact hi)).1 (zSTR[i]'(by rw [zSTR_len]; exact hi)).2.1) (b := zbyt[i]) (fun w hwm => hfl w (List.mem_of_mem_drop (by rw [zflat]; exact xs_tws_mem zSTR zbyt i _ _ (List.getElem?_eq_getElem _) (List.getElem?_eq_getElem hi) w hwm))) (zbyt_ok _ (List.getElem_mem hi)).1
      refine ⟨(aK, aV), ?_, ?_, fun r bb hr hbb => ?_⟩
      · obtain ⟨cell, q1, -⟩ := h1
        exact (Array.getElem?_eq_some_iff.mp q1).1
      · obtain ⟨cell, q1, -⟩ := h4
        exact (Array.getElem?_eq_some_iff.mp q1).1
      · rw [List.getElem?_eq_getElem hi] at hbb
        cases hbb
        rw [List.getElem?_eq_getElem (by rw [zSTR_len]; exact hi)] at hr
        cases hr
        exact ⟨h1, h2, h3, h4, h5⟩
    · exact ⟨(b, b), hb, hb, fun r bb _ hbb => by rw [List.getElem?_eq_none (Nat.le_of_not_lt hi)] at hbb; cases hbb⟩
  obtain ⟨fT, hfT⟩ := Classical.axiomOfChoice tx
  -- the classes
  have inst : ∀ (ci : Nat) (q : vw_C), zcl[ci]? = some q → Cond.instantiable q.1 q.2.2 ∈ zWS := by
    intro ci q hq
    match ci, hq with
    | 0, hq => cases hq; exact xs_mw 460 (by decide +kernel) rfl
    | 1, hq => cases hq; exact xs_mw 238 (by decide +kernel) rfl
    | 2, hq => cases hq; exact xs_mw 257 (by decide +kernel) rfl
    | 3, hq => cases hq; exact xs_mw 389 (by decide +kernel) rfl
    | 4, hq => cases hq; exact xs_mw 359 (by decide +kernel) rfl
    | 5, hq => cases hq; exact xs_mw 409 (by decide +kernel) rfl
    | 6, hq => cases hq; exact xs_mw 263 (by decide +kernel) rfl
    | 7, hq => cases hq; exact xs_mw 420 (by decide +kernel) rfl
    | 8, hq => cases hq; exact xs_mw 437 (by decide +kernel) rfl
    | 9, hq => cases hq; exact xs_mw 200 (by decide +kernel) rfl
    | 10, hq => cases hq; exact xs_mw 192 (by decide +kernel) rfl
    | 11, hq => cases hq; exact xs_mw 1543 (by decide +kernel) rfl
    | j + 12, hq => cases hq
  have kn : ∀ ci : Nat, ∃ cc : ClassId × (Nat → Nat), ∀ q : vw_C, zcl[ci]? = some q → u_Kn s q.1 q.2.1 q.2.2 cc.1 cc.2 := by
    intro ci
    cases hq : zcl[ci]? with
    | none => exact ⟨(0, id), fun q z => by cases z⟩
    | some q =>
      obtain ⟨C, T, N⟩ := q
      obtain ⟨cC, iS, h⟩ := u_known (n := N) hw (zCV ci C T N hq).1 (hw _ (inst ci _ hq))
      exact ⟨(cC, iS), fun q z => by cases z; exact h⟩
  obtain ⟨fC, hfC⟩ := Classical.axiomOfChoice kn
  have ex : ∀ t : Nat, ∃ cc : ClassId, ∀ C, (t, C) ∈ zEX → ClassAt s C cc := by
    intro t
    by_cases h : ∃ C, (t, C) ∈ zEX
    · obtain ⟨C, hC⟩ := h
      obtain ⟨cC, iS, h⟩ := u_known (ws := zWS) (T := TX0) (N := 0) (n := 6) hw (fun w h => by cases h) (hw _ (zEXw _ hC))
      exact ⟨cC, fun C' hC' => by
        have e : C = C' := zEXu _ hC _ hC' rfl
        rw [← e]
        exact h.2⟩
    · exact ⟨0, fun C hC => absurd ⟨C, hC⟩ h⟩
  obtain ⟨fE, hfE⟩ := Classical.axiomOfChoice ex
  obtain ⟨cI, kI, pI, i1, i2, i3⟩ := Cond.arrayClass_spec (type := .int) (hw _ (xs_mw 236 (by decide +kernel) rfl))
  obtain ⟨cJ, kJ, pJ, j1, j2, j3⟩ := Cond.arrayClass_spec (type := .long) (hw _ (xs_mw 534 (by decide +kernel) rfl))
  obtain ⟨cZ, kZ, pZ, z1, z2, z3⟩ := Cond.arrayClass_spec (type := .boolean) (hw _ (xs_mw 1627 (by decide +kernel) rfl))
  obtain ⟨pH, cH, kH, g1, g2, g3, g4, g5⟩ := Cond.arrayOver_spec (n := "StairMeter$House") (hw _ (xs_mw 466 (by decide +kernel) rfl))
  obtain ⟨scr, x1, x2, x3, x4, x5⟩ := hX
  obtain ⟨xa, kx, xb, compx, xc⟩ := x2
  let D : xs_D := xs_mkD b s.heap.size (fun i => (fT i).1) (fun i => (fT i).2) (fun t => if t = 1000 then cI else if t = 1001 then cJ else if t = 1002 then cZ else if t = 1004 then cH else if t = 1500 then scr.cls else if t < 12 then (fC t).1 else fE t) (fun t k => if t < 12 then (fC t).2 k else k)
  have hD1 : ∀ i, i < 26 → D.1 (1500000 + i) = (fT i).1 := by
    intro i hi
    show (if 1500000 + i < 1000000 then _ else if 1500000 + i = 1000000 then _ else if 1500000 + i < 1600000 then (fT (1500000 + i - 1500000)).1 else _) = _
    rw [if_neg (by omega), if_neg (by omega), if_pos (by omega), Nat.add_sub_cancel_left]
  have hD2 : ∀ i, D.1 (1600000 + i) = (fT i).2 := by
    intro i
    show (if 1600000 + i < 1000000 then _ else if 1600000 + i = 1000000 then _ else if 1600000 + i < 1600000 then _ else (fT (1600000 + i - 1600000)).2) = _
    rw [if_neg (by omega), if_neg (by omega), if_neg (by omega), Nat.add_sub_cancel_left]
  have hA : xs_A D := by
    refine ⟨fun k hk => ?_, fun a ha => ?_, fun t k ht => ?_⟩
    · show (if k < 1000000 then _ else _) = _
      rw [if_pos hk]
      rfl
    · show (if a < 1000000 then _ else if a = 1000000 then b else if a < 1600000 then (fT (a - 1500000)).1 else (fT (a - 1600000)).2) < s.heap.size
      rw [if_neg (by omega)]
      split
      · exact hb
      · split
        · exact (hfT _).1
        · exact (hfT _).2.1
    · show (if t < 12 then _ else k) = k
      rw [if_neg (by omega)]
  have hlen26 : zbyt.length = 26 := by decide +kernel
  have tx2 : ∀ i, i < 26 → va_O "java/lang/String" (D.1 (1500000 + i)) (fun q => s.heap.size ≤ q) s s.heap ∧ va_OF "java/lang/String" "coder" "B" (.int 0) (D.1 (1500000 + i)) (fun q => s.heap.size ≤ q) s s.heap ∧ va_OF "java/lang/String" "value" "[B" (.ref (D.1 (1600000 + i))) (D.1 (1500000 + i)) (fun q => s.heap.size ≤ q) s s.heap ∧ va_T .byte (D.1 (1600000 + i)) ((zbyt.map List.length).getD i 0) (fun j => .int ((zbyt.getD i []).getD j 0)) (fun q => s.heap.size ≤ q) s s.heap := by
    intro i hi
    rw [hD1 i hi, hD2 i]
    have h26 : i < zbyt.length := by rw [hlen26]; exact hi
    have e1 : zbyt[i]? = some zbyt[i] := List.getElem?_eq_getElem h26
    have e2 : (zbyt.map List.length).getD i 0 = zbyt[i].length := by rw [List.getD_eq_getElem?_getD, List.getElem?_map, e1]; rfl
    have e3 : zbyt.getD i [] = zbyt[i] := by rw [List.getD_eq_getElem?_getD, e1]; rfl
    obtain ⟨h1, h2, h3, h4, h5⟩ := (hfT i).2.2 (zSTR[i]'(by rw [zSTR_len]; exact h26)) zbyt[i] (List.getElem?_eq_getElem _) e1
    rw [e2, e3]
    exact ⟨h1, h2, h3, h4⟩
  have hK : xs_K zcl zEX zSTR D s := by
    refine ⟨fun ci q hq => ?_, fun t ty ht => ?_, fun t C hC => ?_, fun own idx tx a ha => ?_, fun t C t' C' h1 h2 h3 => ?_⟩
    · have hlt : ci < 12 := (List.getElem?_eq_some_iff.mp hq).1
      have h := hfC ci q hq
      show u_Kn s q.1 q.2.1 q.2.2 (if ci = 1000 then _ else _) (fun k => if ci < 12 then (fC ci).2 k else k)
      rw [if_neg (by omega), if_neg (by omega), if_neg (by omega), if_neg (by omega), if_neg (by omega), if_pos hlt]
      have e : (fun k => if ci < 12 then (fC ci).2 k else k) = (fC ci).2 := by
        funext k
        rw [if_pos hlt]
      rw [e]
      exact h
    · simp only [xs_AT, List.mem_cons, Prod.mk.injEq, List.not_mem_nil, or_false] at ht
      rcases ht with ⟨rfl, rfl⟩ | ⟨rfl, rfl⟩ | ⟨rfl, rfl⟩ | ⟨rfl, rfl⟩ | ⟨rfl, rfl⟩
      · exact ⟨⟨kI, pI, i2, i3, fun C z => by cases z⟩, fun _ => i1⟩
      · exact ⟨⟨kJ, pJ, j2, j3, fun C z => by cases z⟩, fun _ => j1⟩
      · exact ⟨⟨kZ, pZ, z2, z3, fun C z => by cases z⟩, fun _ => z1⟩
      · exact ⟨⟨kH, pH, g3, g4, fun C z => by cases z; exact g1⟩, fun _ => g5⟩
      · exact ⟨⟨kx, compx, xb, xc, fun C z => by cases z⟩, fun z => absurd z (by decide)⟩
    · have hr : 20 ≤ t ∧ t < 25 := by
        simp only [zEX, List.mem_cons, Prod.mk.injEq, List.not_mem_nil, or_false] at hC
        omega
      show ClassAt s C (if t = 1000 then _ else _)
      rw [if_neg (by omega), if_neg (by omega), if_neg (by omega), if_neg (by omega), if_neg (by omega), if_neg (by omega)]
      exact hfE t C hC
    · obtain ⟨i, hi, hie⟩ := List.mem_iff_getElem.mp ha
      have hi26 : i < 26 := by rw [zSTR_len, hlen26] at hi; exact hi
      have h26 : i < zbyt.length := by rw [hlen26]; exact hi26
      have hr : zSTR[i]? = some (own, idx, tx, a) := by rw [List.getElem?_eq_getElem hi, hie]
      have ead : a = 1500000 + i := by
        have := zSTR_ad i hi26
        rw [List.getD_eq_getElem?_getD, hr] at this
        exact this
      obtain ⟨h1, h2, h3, h4, h5⟩ := (hfT i).2.2 _ zbyt[i] hr (List.getElem?_eq_getElem h26)
      rw [ead, hD1 i hi26]
      exact vk_R.of (hts _ (zSTRw _ ha)) h5
    · have hr : 20 ≤ t ∧ t < 25 := by
        simp only [zEX, List.mem_cons, Prod.mk.injEq, List.not_mem_nil, or_false] at h1
        omega
      have hr' : 20 ≤ t' ∧ t' < 25 := by
        simp only [zEX, List.mem_cons, Prod.mk.injEq, List.not_mem_nil, or_false] at h2
        omega
      obtain ⟨c1, c2, n1, n2, n3⟩ := va_Nc.of (hfl _ (zEXn _ h1 _ h2 h3))
      show s.vm.assignable (if t = 1000 then _ else _) (if t' = 1000 then _ else _) = false
      rw [if_neg (by omega), if_neg (by omega), if_neg (by omega), if_neg (by omega), if_neg (by omega), if_neg (by omega), if_neg (by omega), if_neg (by omega), if_neg (by omega), if_neg (by omega), if_neg (by omega), if_neg (by omega)]
      have a1 := (hfE t C h1).1
      have a2 := (hfE t' C' h2).1
      cases n1.symm.trans a1
      cases n2.symm.trans a2
      exact n3
  have hDb : D.1 1000000 = b := by
    show (if (1000000 : Nat) < 1000000 then s.heap.size + 1000000 else if (1000000 : Nat) = 1000000 then b else if (1000000 : Nat) < 1600000 then (fT (1000000 - 1500000)).1 else (fT (1000000 - 1600000)).2) = b
    rw [if_neg (by decide), if_pos rfl]
  refine ⟨D, rfl, hDb, hA, hK, rfl, ?_, ?_, ?_, ⟨Nat.zero_le _, Nat.zero_le _⟩, ?_⟩
  · intro a o ho ha
    have ho : (if a = 1000000 then some ((1500, L, fun j => .int (xs j)) : xe_O) else xs_SPof zbyt a) = some o := ho
    split at ho
    · rename_i ea
      subst ea
      cases ho
      refine ⟨⟨scr, ?_, ?_, fun z => absurd z (by decide), x3, ?_, fun _ => x4, fun k hk => ?_, fun x y _ _ hxy => ?_⟩, Or.inr (Nat.le_refl _)⟩
      · rw [hDb]
        exact x1
      · rfl
      · cases hs : scr.vm with
        | statics z => exact absurd hs (xa z)
        | _ => rfl
      · rw [hA.2.2 1500 k (by decide)]
        exact x5 k hk
      · show D.2.2.2 1500 x ≠ D.2.2.2 1500 y
        rw [hA.2.2 1500 x (by decide), hA.2.2 1500 y (by decide)]
        exact hxy
    · unfold xs_SPof at ho
      rw [if_pos ha] at ho
      cases ho
  · intro a ha
    show (if a = 1000000 then _ else xs_SPof zbyt a) = _
    rw [if_neg (by omega)]
  · refine ⟨⟨⟨fun i hi => tx2 i (by rw [hlen26] at hi; exact hi), trivial⟩, ?_, ?_⟩, ?_, ?_⟩
    · exact va_Zof (hts _ (List.mem_of_getElem? (i := 910) (by decide +kernel))) (hts _ (List.mem_of_getElem? (i := 178) (by decide +kernel))) (va_eqi (hfl _ (by decide +kernel))) (fun a ha => Nat.not_le_of_lt ha)
    · exact va_Zqof (hts _ (List.mem_of_getElem? (i := 926) (by decide +kernel))) (hts _ (List.mem_of_getElem? (i := 180) (by decide +kernel))) (hfl _ (by decide +kernel)) (fun a ha => Nat.not_le_of_lt ha)
    · exact xs_Zs.of (hts _ (List.mem_of_getElem? (i := 1074) (by decide +kernel))) (hfl _ (by decide +kernel))
    · exact xs_Zs.of (hts _ (List.mem_of_getElem? (i := 1076) (by decide +kernel))) (hfl _ (by decide +kernel))
  · intro q cell hq hc
    have := (Array.getElem?_eq_some_iff.mp hc).1
    exact absurd this (Nat.not_lt_of_le hq)
