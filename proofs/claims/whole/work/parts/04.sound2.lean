/-! ===== words that stay, what is known of the classes, where the machine stands ===== -/
def xs_steady : Cond → Bool
  | .arrayClass _ => true
  | .fieldLinkNest .. => true
  | .methodLinkNest .. => true
  | .declares _ => true
  | .castable .. => true
  | .arrayOver (.object _) => true
  | w => w.onTables && w.keeps
theorem xs_word {w : Cond} (hw : xs_steady w = true) {args a' : Array Value} {s U : State} (hW : s.WarmedH U.vm) (h : w.before args s = true) : w.before a' U = true := by
  cases w with
  | arrayClass ty => exact word_at hW (Or.inr ⟨ty, rfl⟩) h
  | fieldLinkNest a i b n d x => exact va_Nw.use rfl (va_Nw.warmF hW (va_Nw.of rfl h))
  | methodLinkNest a i x y => exact va_Nw.use rfl (va_Nw.warmM hW (va_Nw.of rfl h))
  | declares x => exact va_Nw.use rfl (va_Nw.warmD hW (va_Nw.of rfl h))
  | castable x y =>
    have h1 : (Cond.castable x y).before args (s.setVm U.vm) = true := by rw [Cond.castable_setVm hW.alike]; exact h
    exact va_tabs (A := args) (u := s.setVm U.vm) rfl rfl h1
  | arrayOver ty =>
    cases ty with
    | object C => exact va_AO.use (va_AO.moved hW.alike (va_AO.of h))
    | _ => exact word_at hW (Or.inl hw) h
  | _ => exact word_at hW (Or.inl hw) h
/-- the arrays' tags: their components -/
def xs_AT : List (Nat × FieldType) := [(1000, .int), (1001, .long), (1002, .boolean), (1004, .object "StairMeter$House"), (1500, .int)]
/-- what is known of the classes in a state: cl our objects' classes, EX the classes of what is thrown, STR the texts -/
def xs_K (cl : List vw_C) (EX : List (Nat × String)) (STR : List (String × Nat × String × Nat)) (D : xs_D) (U : State) : Prop :=
  (∀ (c : Nat) (q : vw_C), cl[c]? = some q → u_Kn U q.1 q.2.1 q.2.2 (D.2.2.1 c) (D.2.2.2 c)) ∧
  (∀ t ty, (t, ty) ∈ xs_AT → (∃ (kA : Class) (comp : ClassId), U.vm.classes[D.2.2.1 t]? = some kA ∧ kA.kind = .array comp ty ∧ ∀ C, ty = .object C → U.vm.findClass C = some comp) ∧ (t < 1500 → U.vm.findClass ("[" ++ ty.toString) = some (D.2.2.1 t))) ∧
  (∀ c C, (c, C) ∈ EX → ClassAt U C (D.2.2.1 c)) ∧
  (∀ own idx tx a, (own, idx, tx, a) ∈ STR → vk_R own idx tx (D.1 a) U) ∧
  ∀ c C c' C', (c, C) ∈ EX → (c', C') ∈ EX → c ≠ c' → U.vm.assignable (D.2.2.1 c) (D.2.2.1 c') = false
theorem xs_K.warm {cl : List vw_C} {EX : List (Nat × String)} {STR : List (String × Nat × String × Nat)} {D : xs_D} {s U : State} (hW : s.WarmedH U.vm) (h : xs_K cl EX STR D s) : xs_K cl EX STR D U := by
  refine ⟨fun c q hq => u_Kn_moved hW.alike (h.1 c q hq), fun t ty ht => ?_, fun c C hc => classAt_moved hW.alike (h.2.2.1 c C hc), fun own idx tx a ha => vk_R.warm hW (h.2.2.2.1 own idx tx a ha), fun c C c' C' h1 h2 h3 => by rw [hW.alike.assignable]; exact h.2.2.2.2 c C c' C' h1 h2 h3⟩
  obtain ⟨⟨kA, comp, h1, h2, h3⟩, h4⟩ := h.2.1 t ty ht
  obtain ⟨k', hk', he⟩ := hW.alike.2.2 _ _ h1
  exact ⟨⟨k', comp, hk', by rw [he]; exact h2, fun C hC => by rw [hW.alike.findClass]; exact h3 C hC⟩, fun ht5 => by rw [hW.alike.findClass]; exact h4 ht5⟩
/-- a method's name, bytes, what it returns, the pool entries of its handlers' classes -/
abbrev xs_MI : Type := MethodName × ByteArray × Option FieldType × List Nat
/-- what the word on a method's code says -/
def xs_codeW (q : xe_M) (mi : xs_MI) : Cond := match xe_hand q with
  | [] => .code mi.1 mi.2.1 (xe_max q) mi.2.2.1
  | r :: l => .codeWith mi.1 mi.2.1 (xe_max q) mi.2.2.1 (List.zipWith (fun (r : Nat × Nat × Nat × Nat) i => (r.1, r.2.1, r.2.2.1, i)) (r :: l) mi.2.2.2)
/-- the method that bears a name: what is known of it -/
def xs_Is (q : xe_M) (mi : xs_MI) (s : State) (m : MethodId) (meth : Method) (c : Code) : Prop :=
  s.methodNamed? mi.1 = some m ∧ s.vm.method? m = some meth ∧ meth.code = some c ∧ c.code = mi.2.1 ∧ c.maxLocals = xe_max q ∧ meth.sig.returnType = mi.2.2.1 ∧ meth.locks = false ∧ parseMethodDescriptor mi.1.desc = some meth.sig ∧
  c.exceptionTable.toList.map (fun h => (h.startPc, h.endPc, h.handlerPc, h.catchType)) = (match xe_hand q with
    | [] => []
    | r :: l => List.zipWith (fun (r : Nat × Nat × Nat × Nat) i => (r.1, r.2.1, r.2.2.1, i)) (r :: l) mi.2.2.2)
theorem xs_Is.of {q : xe_M} {mi : xs_MI} {args : Array Value} {s : State} (h : (xs_codeW q mi).before args s = true) : ∃ m meth c, xs_Is q mi s m meth c := by
  unfold xs_codeW at h
  split at h
  · rename_i e
    obtain ⟨m, hn⟩ := Cond.code_named h
    obtain ⟨meth, c, h1, h2, h3, h4, h5, h6, h7, h8⟩ := Cond.code_spec hn h
    refine ⟨m, meth, c, hn, h1, h2, h3, h4, h5, h6, h8, ?_⟩
    rw [e]
    have h9 : c.exceptionTable = #[] := by simpa using h7
    rw [h9]
    rfl
  · rename_i e
    obtain ⟨m, meth, c, hn, h1, h2, h3, h4, h5, h6, h7, h8⟩ := Cond.codeWith_spec h
    refine ⟨m, meth, c, hn, h1, h2, h3, h4, h6, h7, h8, ?_⟩
    rw [e]
    exact h5
/-! ===== what a pool entry's link must be ===== -/
/-- the classes above one that is thrown -/
def xs_names : List String := ["java/lang/RuntimeException", "java/lang/Exception"]
/-- what is said of Throwable's statics -/
def xs_refs : List Cond := [.isRef (.static Bundle.tN "UNASSIGNED_STACK" Bundle.steD), .isRef (.static Bundle.tN "SUPPRESSED_SENTINEL" Bundle.listD), .laysStatic Bundle.tN "UNASSIGNED_STACK" Bundle.steD, .laysStatic Bundle.tN "SUPPRESSED_SENTINEL" Bundle.listD]
def xs_kd (k : Nat) (ty : FieldType) : Prop := (k = 0 ∧ ty = .int) ∨ (k = 2 ∧ ty = .boolean) ∨ (k = 4 ∧ ((∃ n, ty = .object n) ∨ ∃ t, ty = .array t))
theorem xs_fit {D : xs_D} {k : Nat} {ty : FieldType} {v : Value} (h : xe_fit k v = true) (hk : xs_kd k ty) : narrow ty (xs_T D v) = xs_T D v ∧ fits ty (xs_T D v) = true := by
  rcases hk with ⟨rfl, rfl⟩ | ⟨rfl, rfl⟩ | ⟨rfl, ⟨n, rfl⟩ | ⟨t, rfl⟩⟩
  · cases v <;> first | exact ⟨rfl, rfl⟩ | (simp [xe_fit] at h)
  · cases v with
    | int x =>
      have h2 : x = 0 ∨ x = 1 := by simpa [xe_fit] using h
      rcases h2 with rfl | rfl
      · exact (show narrow FieldType.boolean (Value.int 0) = Value.int 0 ∧ fits FieldType.boolean (Value.int 0) = true from by decide)
      · exact (show narrow FieldType.boolean (Value.int 1) = Value.int 1 ∧ fits FieldType.boolean (Value.int 1) = true from by decide)
    | _ => simp [xe_fit] at h
  · cases v <;> first | exact ⟨rfl, rfl⟩ | (simp [xe_fit] at h)
  · cases v <;> first | exact ⟨rfl, rfl⟩ | (simp [xe_fit] at h)
/-- the word that links a field -/
def xs_FW (WS : List Cond) (own : String) (idx : Nat) (ref n d : String) : Prop := Cond.fieldLink own idx ref n d ∈ WS ∨ ∃ host, Cond.fieldLinkNest own idx ref n d host ∈ WS
def xs_MW (WS : List Cond) (own : String) (idx : Nat) (y : MethodName) : Prop := Cond.methodLink own idx y ∈ WS ∨ ∃ host, Cond.methodLinkNest own idx y host ∈ WS
def xs_noMH (y : MethodName) : Prop := y.cls ≠ "java/lang/invoke/MethodHandle" ∧ y.cls ≠ "java/lang/invoke/VarHandle"
/-- a field's place k in class ci, put with what (kind kd): as the entry idx of own links it -/
def xs_FL (cl : List vw_C) (WS : List Cond) (own : String) (idx ci k kd : Nat) (fin : Bool) : Prop :=
  ∃ (C : String) (T : u_T) (N : Nat) (ref : String) (ty : FieldType), cl[ci]? = some (C, T, N) ∧ k < N ∧ ci < 1000 ∧ (ref = (T k).1 ∨ Cond.sameField ref (T k).1 (T k).2.1 (T k).2.2.1 ∈ WS) ∧ parseFieldDescriptor (T k).2.2.1 = some ty ∧ xs_kd kd ty ∧
    (if fin then Cond.fieldLink own idx ref (T k).2.1 (T k).2.2.1 ∈ WS ∧ (T k).2.2.2 = true ∧ (T k).1 = own else xs_FW WS own idx ref (T k).2.1 (T k).2.2.1 ∧ (T k).2.2.2 = false)
/-- a field that is only read there -/
def xs_FR (cl : List vw_C) (WS : List Cond) (own : String) (idx ci k : Nat) : Prop :=
  ∃ (C : String) (T : u_T) (N : Nat) (ref : String), cl[ci]? = some (C, T, N) ∧ k < N ∧ ci < 1000 ∧ (ref = (T k).1 ∨ Cond.sameField ref (T k).1 (T k).2.1 (T k).2.2.1 ∈ WS) ∧ xs_FW WS own idx ref (T k).2.1 (T k).2.2.1
def xs_strN (id : Nat) : MethodName := if id = 0 then ⟨"java/lang/String", "length", "()I"⟩ else ⟨"java/lang/String", "charAt", "(I)C"⟩
def xs_LK (cl : List vw_C) (EX : List (Nat × String)) (STR : List (String × Nat × String × Nat)) (WS : List Cond) (K : xe_K) (PI : List xs_MI) (own : String) (idx : Nat) (L : xe_L) : Prop := match L with
  | (1, ci, k, c) => xs_FR cl WS own idx ci k ∧ (c.toNat % 10 < 2 → xs_FL cl WS own idx ci k (c.toNat / 10) false) ∧ (c.toNat % 10 = 2 → xs_FL cl WS own idx ci k (c.toNat / 10) true)
  | (2, ci, k, c) => xs_FR cl WS own idx ci k ∧ xs_FR cl WS own idx c.toNat k ∧ xs_FL cl WS own idx ci k 4 true ∧ xs_FL cl WS own idx c.toNat k 4 true
  | (3, y, n, _) => ∃ mi, PI[y]? = some mi ∧ xs_MW WS own idx mi.1 ∧ Cond.static mi.1 ∈ WS ∧ xs_noMH mi.1 ∧ (parseMethodDescriptor mi.1.desc).map (fun d => d.parameters.length) = some n
  | (4, y, n, c) => ∃ mi C T N, PI[y]? = some mi ∧ cl[c.toNat]? = some (C, T, N) ∧ xs_MW WS own idx mi.1 ∧ Cond.instanceMethod mi.1 ∈ WS ∧ Cond.selects C mi.1 mi.1 ∈ WS ∧ xs_noMH mi.1 ∧ (parseMethodDescriptor mi.1.desc).map (fun d => d.parameters.length) = some n
  | (8, y, n, c) => ∃ (mi : xs_MI) (C : String) (T : u_T) (N : Nat) (owner : String) (x : MethodName), PI[y]? = some mi ∧ cl[c.toNat]? = some (C, T, N) ∧ Cond.methodLink own idx x ∈ WS ∧ Cond.sameMethod x.cls owner x.name x.desc ∈ WS ∧ mi.1 = ⟨owner, x.name, x.desc⟩ ∧ (owner ≠ "java/lang/invoke/MethodHandle" ∧ owner ≠ "java/lang/invoke/VarHandle") ∧ Cond.selects C x mi.1 ∈ WS ∧ Cond.instanceMethod mi.1 ∈ WS ∧ (parseMethodDescriptor x.desc).map (fun d => d.parameters.length) = some n
  | (5, y, y2, c) => (∃ mi C T N owner x, PI[y]? = some mi ∧ cl[c.toNat]? = some (C, T, N) ∧ Cond.methodLink own idx x ∈ WS ∧ Cond.sameMethod x.cls owner x.name x.desc ∈ WS ∧ Cond.declares ⟨owner, x.name, x.desc⟩ ∈ WS ∧ (owner ≠ "java/lang/invoke/MethodHandle" ∧ owner ≠ "java/lang/invoke/VarHandle") ∧ Cond.selects C x mi.1 ∈ WS ∧ Cond.instanceMethod mi.1 ∈ WS ∧ (parseMethodDescriptor x.desc).map (fun d => d.parameters.length) = some 0) ∧
      (∃ mi C T N owner x, PI[y2]? = some mi ∧ cl[c.toNat + 2]? = some (C, T, N) ∧ Cond.methodLink own idx x ∈ WS ∧ Cond.sameMethod x.cls owner x.name x.desc ∈ WS ∧ Cond.declares ⟨owner, x.name, x.desc⟩ ∈ WS ∧ (owner ≠ "java/lang/invoke/MethodHandle" ∧ owner ≠ "java/lang/invoke/VarHandle") ∧ Cond.selects C x mi.1 ∈ WS ∧ Cond.instanceMethod mi.1 ∈ WS ∧ (parseMethodDescriptor x.desc).map (fun d => d.parameters.length) = some 0)
  | (6, y, n, _) => ∃ mi, PI[y]? = some mi ∧ xs_MW WS own idx mi.1 ∧ Cond.instanceMethod mi.1 ∈ WS ∧ mi.1.name = "<init>" ∧ mi.2.2.1 = none ∧ mi.2.2.2 = [] ∧ xs_noMH mi.1 ∧ (parseMethodDescriptor mi.1.desc).map (fun d => d.parameters.length) = some n
  | (7, _, _, _) => Cond.methodLink own idx Lib.objectInit ∈ WS ∧ Cond.instanceMethod Lib.objectInit ∈ WS ∧ Cond.code Lib.objectInit ⟨#[0xb1]⟩ 1 none ∈ WS
  | (9, _, _, _) => Cond.methodLink own idx arraycopyName ∈ WS ∧ Cond.native arraycopyName ∈ WS ∧ Cond.static arraycopyName ∈ WS ∧ Cond.initialized "java/lang/System" ∈ WS
  | (10, cx, n, ic) => n = 6 ∧ ∃ X, (cx, X) ∈ EX ∧ Cond.classLink own idx X ∈ WS ∧ Cond.instantiable X 6 ∈ WS ∧ Cond.initialized X ∈ WS ∧ Bundle.fit X = true ∧ ∀ a ∈ Bundle.ownAtoms0 own ic.toNat X xs_names, a ∈ WS ∨ a ∈ xs_refs
  | (11, ci, _, _) => ∃ (C : String) (T : u_T) (N : Nat) (ty : Nat → FieldType) (vs : List Value), cl[ci]? = some (C, T, N) ∧ ci < 1000 ∧ K[ci]? = some (N, vs) ∧ Cond.classLink own idx C ∈ WS ∧ Cond.instantiable C N ∈ WS ∧ Cond.initialized C ∈ WS ∧ (∀ k, k < N → parseFieldDescriptor (T k).2.2.1 = some (ty k)) ∧ ∀ k, k < N → defaultValue (ty k) = vs.getD k .null ∧ (∀ D : xs_D, xs_T D (vs.getD k .null) = vs.getD k .null)
  | (13, _, _, c) => Cond.constant own idx (Int32.ofInt c) ∈ WS
  | (14, a, _, _) => ∃ tx, (own, idx, tx, a) ∈ STR
  | (15, _, _, c) => Cond.constantLong own idx (Int64.ofInt c) ∈ WS
  | (17, id, _, _) => Cond.methodLink own idx (xs_strN id) ∈ WS
  | _ => True
/-- a class of ours: its words are there, its fields have types and different names -/
def xs_CV (cl : List vw_C) (WS : List Cond) : Prop := ∀ (ci : Nat) (C : String) (T : u_T) (N : Nat), cl[ci]? = some (C, T, N) → (∀ w ∈ u_ws C T N, w ∈ WS) ∧ (∃ ty : Nat → FieldType, ∀ k, k < N → parseFieldDescriptor (T k).2.2.1 = some (ty k)) ∧ ∀ a, a < N → ∀ b, b < N → a ≠ b → (T a).2.1 ≠ (T b).2.1
theorem xs_FLn {cl : List vw_C} {WS : List Cond} {own : String} {idx ci k kd : Nat} {C : String} {T : u_T} {N : Nat} {ref : String} {ty : FieldType} (h1 : cl[ci]? = some (C, T, N)) (h2 : k < N) (h3 : ci < 1000) (h4 : ref = (T k).1 ∨ Cond.sameField ref (T k).1 (T k).2.1 (T k).2.2.1 ∈ WS) (h5 : parseFieldDescriptor (T k).2.2.1 = some ty) (h6 : xs_kd kd ty) (h7 : xs_FW WS own idx ref (T k).2.1 (T k).2.2.1) (h8 : (T k).2.2.2 = false) : xs_FL cl WS own idx ci k kd false :=
  ⟨C, T, N, ref, ty, h1, h2, h3, h4, h5, h6, by rw [if_neg (by decide)]; exact ⟨h7, h8⟩⟩
theorem xs_FLf {cl : List vw_C} {WS : List Cond} {own : String} {idx ci k kd : Nat} {C : String} {T : u_T} {N : Nat} {ref : String} {ty : FieldType} (h1 : cl[ci]? = some (C, T, N)) (h2 : k < N) (h3 : ci < 1000) (h4 : ref = (T k).1 ∨ Cond.sameField ref (T k).1 (T k).2.1 (T k).2.2.1 ∈ WS) (h5 : parseFieldDescriptor (T k).2.2.1 = some ty) (h6 : xs_kd kd ty) (h7 : Cond.fieldLink own idx ref (T k).2.1 (T k).2.2.1 ∈ WS) (h8 : (T k).2.2.2 = true) (h9 : (T k).1 = own) : xs_FL cl WS own idx ci k kd true :=
  ⟨C, T, N, ref, ty, h1, h2, h3, h4, h5, h6, by rw [if_pos rfl]; exact ⟨h7, h8, h9⟩⟩
section XF
variable {p : Program} {l : Launch} {e : Env} {R : Room} {s : State} {m : MethodId} {args : Array Value} {below : List Frame} {meth : Method} {c : Code} {H : Heap} {locs : List Loc} {cells slots : Nat} {Q : State → Prop}
variable {cl : List vw_C} {EX : List (Nat × String)} {STR : List (String × Nat × String × Nat)} {WS : List Cond} {D : xs_D} {SP : Nat → Option xe_O} {G : State → Heap → Prop} {h : xe_H}
theorem xs_getfield {own : String} {idx ci k a : Nat} {o : xe_O} {lsM : Array Slot} {rest : List Value} {pc : Nat} (hx : p.tables.exec = Jvm.exec) (hown : s.vm.findClass own = some m.cls) (hts : ∀ w ∈ WS, w.before args s = true) (hCV : xs_CV cl WS) (hK : xs_K cl EX STR D s) (hL : xs_FR cl WS own idx ci k) (hR : xs_R SP G D s h H)
    (ho : h.2.2 a = some o) (ht : o.1 = ci) (hk : k < o.2.1) (ha : a < 1500000) (hdg : decode c.code pc = .ok (.getfield idx, 3))
    (kk : W p l e R s m args below meth c H locs cells slots Q (F0 m (pc + 3) lsM (xs_T D (o.2.2 k) :: rest))) : W p l e R s m args below meth c H locs cells slots Q (F0 m pc lsM (.ref (D.1 a) :: rest)) := by
  obtain ⟨C, T, N, ref, h1, h2, h3, h4, h5⟩ := hL
  obtain ⟨hws, -, -⟩ := hCV ci C T N h1
  obtain ⟨hS, hfc, kC, hkC, hkind⟩ := hK.1 ci _ h1
  obtain ⟨cf, kf, fi, f, hi, hsl⟩ := hS k h2
  obtain ⟨⟨cell, q1, q2, q3, q4, q5, q6, q7, -⟩, -⟩ := hR.2.1 a o ho ha
  have hsame : s.fieldFound? ref (T k).2.1 (T k).2.2.1 = some (cf, kf, fi, f) := by
    rcases h4 with e | e
    · rw [e]; exact hi
    · exact u_same (hts _ e) _ hi
  have hst := (u_facts hfc hkC (u_lays hts hws h2) hi).1
  have hv : cell.slots[f.slot]? = some (xs_T D (o.2.2 k)) := by
    rw [hsl]
    have := q7 k hk
    rw [ht] at this
    exact this
  rcases h5 with e | ⟨host, e⟩
  · exact W.getf hx rfl hown (hts _ e) hsame hst q1 q4 hv rfl rfl hdg kk
  · exact va_Wgetf hx rfl hown (hts _ e) hsame hst q1 q4 hv rfl rfl hdg kk
theorem xs_putfield {own : String} {idx ci k kd a : Nat} {fin : Bool} {o : xe_O} {v : Value} {lsM : Array Slot} {rest : List Value} {pc : Nat} (hx : p.tables.exec = Jvm.exec) (hown : s.vm.findClass own = some m.cls) (hts : ∀ w ∈ WS, w.before args s = true) (hCV : xs_CV cl WS) (hK : xs_K cl EX STR D s) (hG : xs_G D G) (hA : xs_A D) (hL : xs_FL cl WS own idx ci k kd fin) (hfin : fin = true → meth.name = "<init>") (hR : xs_R SP G D s h H)
    (ho : h.2.2 a = some o) (ht : o.1 = ci) (hk : k < o.2.1) (ha : a < 1000000) (hfit : xe_fit kd v = true) (hlocs : ∀ q ∈ locs, D.2.1 ≤ q.base) (hdg : decode c.code pc = .ok (.putfield idx, 3))
    (kk : ∀ (H1 : Heap) (locs1 : List Loc), xs_R SP G D s (xe_put h a (o.1, o.2.1, xe_upd o.2.2 k v)) H1 → (∀ q ∈ locs1, D.2.1 ≤ q.base) → W p l e R s m args below meth c H1 locs1 cells slots Q (F0 m (pc + 3) lsM rest)) : W p l e R s m args below meth c H locs cells slots Q (F0 m pc lsM (xs_T D v :: .ref (D.1 a) :: rest)) := by
  obtain ⟨C, T, N, ref, ty, h1, h2, h3, h4, hty, hkd, h5⟩ := hL
  obtain ⟨hws, ⟨ty0, hty0⟩, hnm⟩ := hCV ci C T N h1
  obtain ⟨hS, hfc, kC, hkC, hkind⟩ := hK.1 ci _ h1
  obtain ⟨cf, kf, fi, f, hi, hsl⟩ := hS k h2
  obtain ⟨⟨cell, q1, q2, q3, q4, q5, q6, q7, q8⟩, hlt⟩ := hR.2.1 a o ho (by omega)
  have hlt : a < h.1 := by omega
  have hvm : cell.vm = .none := q3 ha
  have hcls : cell.cls = D.2.2.1 ci := by rw [q2, ht]
  obtain ⟨hn, hf⟩ := xs_fit (D := D) hfit hkd
  have hsame : s.fieldFound? ref (T k).2.1 (T k).2.2.1 = some (cf, kf, fi, f) := by
    rcases h4 with e | e
    · rw [e]; exact hi
    · exact u_same (hts _ e) _ hi
  have hst := (u_facts hfc hkC (u_lays hts hws h2) hi).1
  have hslot : f.slot < cell.slots.size := by
    have h9 := q7 k hk
    rw [ht, ← hsl] at h9
    exact (Array.getElem?_eq_some_iff.mp h9).1
  have hb : D.2.1 ≤ D.1 a := by rw [hA.1 a ha]; exact Nat.le_add_right _ _
  have go : ∀ H' : Heap, H'[D.1 a]? = some (cell.setSlot f.slot (xs_T D v)) → H'.size = H.size → (∀ q, q ≠ D.1 a → H'[q]? = H[q]?) → W p l e R s m args below meth c H' (locs ++ [⟨D.1 a, f.slot⟩]) cells slots Q (F0 m (pc + 3) lsM rest) := by
    intro H' e1 e2 e3
    refine kk H' _ (hR.put hG hA ha hlt e2 ⟨_, e1, q2, fun _ => hvm, q4, q5, fun z => ?_, fun j hj => ?_, q8⟩ e3) (fun q hq => ?_)
    · exact absurd z (by show ¬ 1000 ≤ o.1; omega)
    · show (cell.setSlot f.slot (xs_T D v)).slots[D.2.2.2 o.1 j]? = some (xs_T D (xe_upd o.2.2 k v j))
      have h9 := q7 j hj
      rw [ht] at h9 ⊢
      by_cases ej : j = k
      · subst ej
        rw [← hsl]
        simp [Cell.setSlot, xe_upd, hslot]
      · have hne : f.slot ≠ D.2.2.2 ci j := by
          rw [hsl]
          have h8 := q8 k j hk hj (fun z => ej z.symm)
          rw [ht] at h8
          exact h8
        simp only [Cell.setSlot, xe_upd, if_neg ej]
        rw [Array.getElem?_setIfInBounds_ne hne]
        exact h9
    · rcases List.mem_append.mp hq with z | z
      · exact hlocs q z
      · rw [List.mem_singleton.mp z]
        exact hb
  cases fin with
  | true =>
    rw [if_pos rfl] at h5
    obtain ⟨hlk, hf1, hdecl⟩ := h5
    have hlay := hts _ (hws _ (u_in_lay h2))
    unfold u_lay at hlay
    rw [if_pos hf1] at hlay
    have hcf : m.cls = cf := by
      obtain ⟨_, _, c', _, _, _, -, -, hf', -, -, -, hown2, -⟩ := Cond.laysFinal_spec hlay
      have e1 : c' = cf := by have := hi.symm.trans hf'; simp at this; exact this.1.symm
      rw [hdecl] at hown2
      rw [← e1]; exact Option.some.inj (hown.symm.trans hown2)
    have h6 := u_fits hfc hkC hkind (Or.inr hlay) hi hty hn hf
    exact W.putFinK hx rfl hown (hts _ hlk) hsame hst hcf (hfin rfl) (by rw [hcls]; exact h6) q1 hvm hslot rfl rfl hdg go
  | false =>
    rw [if_neg (by decide)] at h5
    obtain ⟨hlk, hf1⟩ := h5
    have hlay := hts _ (hws _ (u_in_lay h2))
    unfold u_lay at hlay
    rw [if_neg (by rw [hf1]; decide)] at hlay
    have h6 := u_store hfc hkC hkind hlay hi hty hn hf
    rcases hlk with e | ⟨host, e⟩
    · exact W.putK hx rfl (f := f) ⟨hown, hts _ e, ⟨_, _, _, hsame⟩, hst⟩ (by rw [hcls]; exact h6) q1 hvm hslot rfl rfl hdg go
    · exact va_WputK hx rfl (f := f) hown (hts _ e) hsame hst (by rw [hcls]; exact h6) q1 hvm hslot rfl rfl hdg go
theorem xs_arrOf {t : Nat} {ty : FieldType} {cell : Cell} (hK : xs_K cl EX STR D s) (ht : (t, ty) ∈ xs_AT) (hc : cell.cls = D.2.2.1 t) (hs : cell.vm.isStatics = false) : s.isArrayOf cell ty := by
  obtain ⟨⟨kA, comp, h1, h2, -⟩, -⟩ := hK.2.1 t ty ht
  refine ⟨?_, kA, by rw [hc]; exact h1, comp, h2⟩
  first | exact hs | (intro z hz; rw [hz] at hs; cases hs)
theorem xs_in {i : Int32} {n : Nat} (h : xe_in i n = true) : ¬ (i < 0 ∨ n ≤ i.toNatClampNeg) ∧ i.toNatClampNeg < n := by
  unfold xe_in at h
  simp only [Bool.and_eq_true, decide_eq_true_eq] at h
  refine ⟨fun z => ?_, h.2⟩
  rcases z with z | z
  · exact absurd h.1 (Int32.not_le.mpr z)
  · omega
/-- what stands in an array at a place, as the machine has it -/
theorem xs_arr {t : Nat} {a : Nat} {o : xe_O} {i : Int32} (hA : xs_A D) (hR : xs_R SP G D s h H) (ho : h.2.2 a = some o) (ha : a < 1500000) (h1 : 1000 ≤ o.1) (hin : xe_in i o.2.1 = true) :
    ∃ cell : Cell, H[D.1 a]? = some cell ∧ cell.cls = D.2.2.1 o.1 ∧ (a < 1000000 → cell.vm = .none) ∧ cell.vm ≠ .unknown ∧ cell.vm.isStatics = false ∧ cell.slots.size = o.2.1 ∧ ¬ (i < 0 ∨ cell.slots.size ≤ i.toNatClampNeg) ∧ cell.slots[i.toNatClampNeg]? = some (xs_T D (o.2.2 i.toNatClampNeg)) := by
  obtain ⟨⟨cell, q1, q2, q3, q4, q5, q6, q7, q8⟩, -⟩ := hR.2.1 a o ho ha
  obtain ⟨hi, hlt⟩ := xs_in hin
  have q9 := q7 _ hlt
  rw [hA.2.2 _ _ h1] at q9
  exact ⟨cell, q1, q2, q3, q4, q5, q6 h1, by rw [q6 h1]; exact hi, q9⟩
/-- an array's place is written -/
theorem xs_R.ast {a : Nat} {o : xe_O} {i : Int32} {v : Value} {cell : Cell} {H1 : Heap} (hG : xs_G D G) (hA : xs_A D) (hR : xs_R SP G D s h H) (ho : h.2.2 a = some o) (ha : a < 1000000) (h1 : 1000 ≤ o.1) (hin : xe_in i o.2.1 = true) (hcell : H[D.1 a]? = some cell)
    (e1 : H1[D.1 a]? = some (cell.setSlot i.toNatClampNeg (xs_T D v))) (e2 : H1.size = H.size) (e3 : ∀ q, q ≠ D.1 a → H1[q]? = H[q]?) : xs_R SP G D s (xe_put h a (o.1, o.2.1, xe_upd o.2.2 i.toNatClampNeg v)) H1 := by
  obtain ⟨⟨cell', q1, q2, q3, q4, q5, q6, q7, q8⟩, hlt⟩ := hR.2.1 a o ho (by omega)
  cases hcell.symm.trans q1
  obtain ⟨hi, hlt2⟩ := xs_in hin
  have hz : (cell.setSlot i.toNatClampNeg (xs_T D v)).slots.size = cell.slots.size := by simp [Cell.setSlot]
  refine hR.put hG hA ha (by omega) e2 ⟨_, e1, q2, q3, q4, q5, fun z => by rw [hz]; exact q6 z, fun j hj => ?_, q8⟩ e3
  show (cell.setSlot i.toNatClampNeg (xs_T D v)).slots[D.2.2.2 o.1 j]? = some (xs_T D (xe_upd o.2.2 i.toNatClampNeg v j))
  have h9 := q7 j hj
  rw [hA.2.2 _ _ h1] at h9 ⊢
  by_cases ej : j = i.toNatClampNeg
  · subst ej
    have : i.toNatClampNeg < cell.slots.size := by rw [q6 h1]; exact hlt2
    simp [Cell.setSlot, xe_upd, this]
  · simp only [Cell.setSlot, xe_upd, if_neg ej]
    rw [Array.getElem?_setIfInBounds_ne (fun z => ej z.symm)]
    exact h9
theorem xs_locs1 {a i : Nat} (hA : xs_A D) (ha : a < 1000000) (hlocs : ∀ q ∈ locs, D.2.1 ≤ q.base) : ∀ q ∈ locs ++ [(⟨D.1 a, i⟩ : Loc)], D.2.1 ≤ q.base := by
  intro q hq
  rcases List.mem_append.mp hq with z | z
  · exact hlocs q z
  · rw [List.mem_singleton.mp z]
    show D.2.1 ≤ D.1 a
    rw [hA.1 a ha]
    exact Nat.le_add_right _ _
end XF
