/-! ===== words that stay, what is known of the classes, where the machine stands ===== -/
def xs_steady : Cond → Bool
  | .arrayClass _ => true
  | .fieldLinkNest .. => true
  | .methodLinkNest .. => true
  | .declares _ => true
  | w => w.onTables && w.keeps
theorem xs_word {w : Cond} (hw : xs_steady w = true) {args a' : Array Value} {s U : State} (hW : s.WarmedH U.vm) (h : w.before args s = true) : w.before a' U = true := by
  cases w with
  | arrayClass ty => exact word_at hW (Or.inr ⟨ty, rfl⟩) h
  | fieldLinkNest a i b n d x => exact va_Nw.use rfl (va_Nw.warmF hW (va_Nw.of rfl h))
  | methodLinkNest a i x y => exact va_Nw.use rfl (va_Nw.warmM hW (va_Nw.of rfl h))
  | declares x => exact va_Nw.use rfl (va_Nw.warmD hW (va_Nw.of rfl h))
  | _ => exact word_at hW (Or.inl hw) h
/-- the arrays' tags: their components -/
def xs_AT : List (Nat × FieldType) := [(1000, .int), (1001, .long), (1002, .boolean), (1004, .object "StairMeter$House"), (1500, .int), (1503, .byte)]
/-- what is known of the classes in a state: cl our objects' classes, EX the classes of what is thrown, STR the texts -/
def xs_K (cl : List vw_C) (EX : List (Nat × String)) (STR : List (String × Nat × String × Nat)) (D : xs_D) (U : State) : Prop :=
  (∀ (c : Nat) (q : vw_C), cl[c]? = some q → u_Kn U q.1 q.2.1 q.2.2 (D.2.2.1 c) (D.2.2.2 c)) ∧
  (∀ t ty, (t, ty) ∈ xs_AT → (∃ (kA : Class) (comp : ClassId), U.vm.classes[D.2.2.1 t]? = some kA ∧ kA.kind = .array comp ty ∧ ∀ C, ty = .object C → U.vm.findClass C = some comp) ∧ U.vm.findClass ("[" ++ ty.toString) = some (D.2.2.1 t)) ∧
  (∀ c C, (c, C) ∈ EX → ClassAt U C (D.2.2.1 c)) ∧
  ∀ own idx tx a, (own, idx, tx, a) ∈ STR → vk_R own idx tx (D.1 a) U
theorem xs_K.warm {cl : List vw_C} {EX : List (Nat × String)} {STR : List (String × Nat × String × Nat)} {D : xs_D} {s U : State} (hW : s.WarmedH U.vm) (h : xs_K cl EX STR D s) : xs_K cl EX STR D U := by
  refine ⟨fun c q hq => u_Kn_moved hW.alike (h.1 c q hq), fun t ty ht => ?_, fun c C hc => classAt_moved hW.alike (h.2.2.1 c C hc), fun own idx tx a ha => vk_R.warm hW (h.2.2.2 own idx tx a ha)⟩
  obtain ⟨⟨kA, comp, h1, h2, h3⟩, h4⟩ := h.2.1 t ty ht
  obtain ⟨k', hk', he⟩ := hW.alike.2.2 _ _ h1
  exact ⟨⟨k', comp, hk', by rw [he]; exact h2, fun C hC => by rw [hW.alike.findClass]; exact h3 C hC⟩, by rw [hW.alike.findClass]; exact h4⟩
/-- a method's name, bytes, what it returns, the pool entries of its handlers' classes -/
abbrev xs_MI : Type := MethodName × ByteArray × Option FieldType × List Nat
/-- what the word on a method's code says -/
def xs_codeW (q : xe_M) (mi : xs_MI) : Cond := match xe_hand q with
  | [] => .code mi.1 mi.2.1 (xe_max q) mi.2.2.1
  | r :: l => .codeWith mi.1 mi.2.1 (xe_max q) mi.2.2.1 (List.zipWith (fun (r : Nat × Nat × Nat × Nat) i => (r.1, r.2.1, r.2.2.1, i)) (r :: l) mi.2.2.2)
/-- the method that bears a name: what is known of it -/
def xs_Is (q : xe_M) (mi : xs_MI) (s : State) (m : MethodId) (meth : Method) (c : Code) : Prop :=
  s.methodNamed? mi.1 = some m ∧ s.vm.method? m = some meth ∧ meth.code = some c ∧ c.code = mi.2.1 ∧ c.maxLocals = xe_max q ∧ meth.sig.returnType = mi.2.2.1 ∧ meth.locks = false ∧ parseMethodDescriptor mi.1.desc = some meth.sig ∧
  c.exceptionTable.toList.map (fun h => (h.startPc, h.endPc, h.handlerPc, h.catchType)) = (match xe_hand q with
    | [] => []
    | r :: l => List.zipWith (fun (r : Nat × Nat × Nat × Nat) i => (r.1, r.2.1, r.2.2.1, i)) (r :: l) mi.2.2.2)
theorem xs_Is.of {q : xe_M} {mi : xs_MI} {args : Array Value} {s : State} (h : (xs_codeW q mi).before args s = true) : ∃ m meth c, xs_Is q mi s m meth c := by
  unfold xs_codeW at h
  split at h
  · rename_i e
    obtain ⟨m, hn⟩ := Cond.code_named h
    obtain ⟨meth, c, h1, h2, h3, h4, h5, h6, h7, h8⟩ := Cond.code_spec hn h
    refine ⟨m, meth, c, hn, h1, h2, h3, h4, h5, h6, h8, ?_⟩
    rw [e]
    have h9 : c.exceptionTable = #[] := by simpa using h7
    rw [h9]
    rfl
  · rename_i e
    obtain ⟨m, meth, c, hn, h1, h2, h3, h4, h5, h6, h7, h8⟩ := Cond.codeWith_spec h
    refine ⟨m, meth, c, hn, h1, h2, h3, h4, h6, h7, h8, ?_⟩
    rw [e]
    exact h5
