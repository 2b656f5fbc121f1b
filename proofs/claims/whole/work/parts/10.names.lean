/-! ===== names and tables of the classes, written by a program out of the claim (wip/whole/gen_tables.py) ===== -/
/-- the words that stay, out of the tables -/
def zWS : List Cond := lw_tbl.filter xs_steady
theorem xs_mw {w : Cond} (i : Nat) (h : lw_tbl[i]? = some w) (hs : xs_steady w = true) : w ∈ zWS := List.mem_filter.mpr ⟨List.mem_of_getElem? h, hs⟩
def xs_plB : List Cond → List Nat → Bool
  | [], _ => true
  | w :: l, i :: ps => (decide (lw_tbl[i]? = some w ∧ xs_steady w = true) || decide (w ∈ xs_refs)) && xs_plB l ps
  | _ :: _, [] => false
theorem xs_places {L : List Cond} (ps : List Nat) (h : xs_plB L ps = true) : ∀ a ∈ L, a ∈ zWS ∨ a ∈ xs_refs := by
  induction L generalizing ps with
  | nil => intro a ha; cases ha
  | cons w l ih =>
    intro a ha
    cases ps with
    | nil => cases h
    | cons i ps =>
      simp only [xs_plB, Bool.and_eq_true, Bool.or_eq_true, decide_eq_true_eq] at h
      rcases List.mem_cons.mp ha with e | e
      · subst e
        rcases h.1 with z | z
        · exact Or.inl (xs_mw i z.1 z.2)
        · exact Or.inr z
      · exact ih ps h.2 a e
theorem xs_allLK {cl : List vw_C} {EX : List (Nat × String)} {STR : List (String × Nat × String × Nat)} {WS : List Cond} {K : xe_K} {PI : List xs_MI} {own : String} (l : List (Nat × xe_L)) (h : ∀ r ∈ l, xs_LK cl EX STR WS K PI own r.1 r.2) (idx : Nat) : xs_LK cl EX STR WS K PI own idx (xe_lk l idx) := by
  induction l with
  | nil => exact trivial
  | cons r l ih =>
    unfold xe_lk
    split
    · rename_i e
      rw [Nat.beq_eq] at e
      rw [← e]
      exact h r List.mem_cons_self
    · exact ih (fun q hq => h q (List.mem_cons_of_mem _ hq))
/-- the rows of a table stand in the bytes -/
def xs_decB (cc : ByteArray) (l : List xe_I) : Bool := l.all fun r => match decode cc r.1 with
  | .ok (i, n) => decide (i = r.2.1) && (Nat.beq (xe_len i) 0 || Nat.beq (xe_len i) n)
  | .error _ => false
theorem xs_decB_ok {cc : ByteArray} {l : List xe_I} (h : xs_decB cc l = true) : ∀ pc i n b, xe_at l pc = some (i, n, b) → xs_dec cc pc i := by
  induction l with
  | nil => intro pc i n b hb; cases hb
  | cons r l ih =>
    intro pc i n b hb
    unfold xs_decB at h
    rw [List.all_cons, Bool.and_eq_true] at h
    unfold xe_at at hb
    split at hb
    · rename_i e
      rw [Nat.beq_eq] at e
      have e2 : r.2 = (i, n, b) := Option.some.inj hb
      have h1 := h.1
      split at h1
      · rename_i i0 n0 hd
        simp only [Bool.and_eq_true, Bool.or_eq_true, decide_eq_true_eq, Nat.beq_eq] at h1
        rw [e2] at h1
        obtain ⟨h2, h3⟩ := h1
        have h2 : i0 = i := h2
        subst h2
        rw [e] at hd
        unfold xs_dec
        split
        · exact ⟨n0, hd⟩
        · rename_i hz
          rcases h3 with z | z
          · exact absurd z hz
          · rw [z]; exact hd
      · cases h1
    · exact ih h.2 pc i n b hb
theorem xs_decB_app {cc : ByteArray} {l1 l2 : List xe_I} (h1 : xs_decB cc l1 = true) (h2 : xs_decB cc l2 = true) : xs_decB cc (l1 ++ l2) = true := by
  unfold xs_decB at h1 h2 ⊢
  rw [List.all_append, h1, h2]
  rfl
/-- a throw's rows -/
def xs_thrB (cc : ByteArray) (lk : List (Nat × xe_L)) (l : List xe_I) : Bool := l.all fun r => match r.2.1 with
  | .new idx => match xe_lk lk idx with
    | (10, _, _, ic) => decide (decode cc (r.1 + 3) = .ok (.dup, 1) ∧ decode cc (r.1 + 4) = .ok (.invokespecial ic.toNat, 3) ∧ decode cc (r.1 + 7) = .ok (.athrow, 1))
    | _ => true
  | _ => true
theorem xs_thrB_ok {cc : ByteArray} {lk : List (Nat × xe_L)} {l : List xe_I} (h : xs_thrB cc lk l = true) : ∀ pc idx n b cx k ic, xe_at l pc = some (.new idx, n, b) → xe_lk lk idx = (10, cx, k, ic) → decode cc (pc + 3) = .ok (.dup, 1) ∧ decode cc (pc + 4) = .ok (.invokespecial ic.toNat, 3) ∧ decode cc (pc + 7) = .ok (.athrow, 1) := by
  induction l with
  | nil => intro pc idx n b cx k ic hb; cases hb
  | cons r l ih =>
    intro pc idx n b cx k ic hb hlk
    unfold xs_thrB at h
    rw [List.all_cons, Bool.and_eq_true] at h
    unfold xe_at at hb
    split at hb
    · rename_i e
      rw [Nat.beq_eq] at e
      have e2 : r.2 = (.new idx, n, b) := Option.some.inj hb
      have h1 := h.1
      rw [e2] at h1
      dsimp only at h1
      rw [hlk, e] at h1
      exact of_decide_eq_true h1
    · exact ih h.2 pc idx n b cx k ic hb hlk
theorem xs_thrB_app {cc : ByteArray} {lk : List (Nat × xe_L)} {l1 l2 : List xe_I} (h1 : xs_thrB cc lk l1 = true) (h2 : xs_thrB cc lk l2 = true) : xs_thrB cc lk (l1 ++ l2) = true := by
  unfold xs_thrB at h1 h2 ⊢
  rw [List.all_append, h1, h2]
  rfl
def RX0 : String := "StairMeter$Acts"
def TX0 : u_T := fun k => match k with
  | 0 => ("StairMeter$Acts", "before", "[LStairMeter$House;", true)
  | 1 => ("StairMeter$Acts", "size", "I", false)
  | _ => ("StairMeter$Acts", "next", "I", false)
def tyX0 : Nat → FieldType := fun k => match k with
  | 0 => .array (.object "StairMeter$House")
  | 1 => .int
  | _ => .int
def dvX0 : List Value := [.null, .int 0, .int 0]
theorem tyX0_ok : ∀ k, k < 3 → parseFieldDescriptor (TX0 k).2.2.1 = some (tyX0 k) := by decide +kernel
theorem nmX0 : ∀ a, a < 3 → ∀ b, b < 3 → a ≠ b → (TX0 a).2.1 ≠ (TX0 b).2.1 := by decide +kernel
theorem dvX0_ok : ∀ k, k < 3 → defaultValue (tyX0 k) = dvX0.getD k .null ∧ ∀ D : xs_D, xs_T D (dvX0.getD k .null) = dvX0.getD k .null := by
  intro k hk
  have h : ∀ k, k < 3 → defaultValue (tyX0 k) = dvX0.getD k .null ∧ (dvX0.getD k .null = .int 0 ∨ dvX0.getD k .null = .null) := by decide +kernel
  refine ⟨(h k hk).1, fun D => ?_⟩
  rcases (h k hk).2 with e | e <;> rw [e] <;> rfl
def RX1 : String := "StairMeter$Clues"
def TX1 : u_T := fun k => match k with
  | 0 => ("StairMeter$Clues", "tick", "[I", true)
  | 1 => ("StairMeter$Clues", "told", "[I", true)
  | _ => ("StairMeter$Clues", "rows", "I", false)
def tyX1 : Nat → FieldType := fun k => match k with
  | 0 => .array .int
  | 1 => .array .int
  | _ => .int
def dvX1 : List Value := [.null, .null, .int 0]
theorem tyX1_ok : ∀ k, k < 3 → parseFieldDescriptor (TX1 k).2.2.1 = some (tyX1 k) := by decide +kernel
theorem nmX1 : ∀ a, a < 3 → ∀ b, b < 3 → a ≠ b → (TX1 a).2.1 ≠ (TX1 b).2.1 := by decide +kernel
theorem dvX1_ok : ∀ k, k < 3 → defaultValue (tyX1 k) = dvX1.getD k .null ∧ ∀ D : xs_D, xs_T D (dvX1.getD k .null) = dvX1.getD k .null := by
  intro k hk
  have h : ∀ k, k < 3 → defaultValue (tyX1 k) = dvX1.getD k .null ∧ (dvX1.getD k .null = .int 0 ∨ dvX1.getD k .null = .null) := by decide +kernel
  refine ⟨(h k hk).1, fun D => ?_⟩
  rcases (h k hk).2 with e | e <;> rw [e] <;> rfl
def RX2 : String := "StairMeter$House"
def TX2 : u_T := fun k => match k with
  | 0 => ("StairMeter$House", "facts", "[I", true)
  | 1 => ("StairMeter$House", "debts", "[I", true)
  | 2 => ("StairMeter$House", "log", "LStairMeter$Log;", true)
  | 3 => ("StairMeter$House", "lodgers", "I", false)
  | 4 => ("StairMeter$House", "texts", "I", false)
  | 5 => ("StairMeter$House", "tick", "I", false)
  | 6 => ("StairMeter$House", "night", "I", false)
  | 7 => ("StairMeter$House", "gas", "I", false)
  | 8 => ("StairMeter$House", "price", "I", false)
  | 9 => ("StairMeter$House", "dark", "I", false)
  | 10 => ("StairMeter$House", "frost", "I", false)
  | 11 => ("StairMeter$House", "box", "I", false)
  | 12 => ("StairMeter$House", "last", "I", false)
  | _ => ("StairMeter$House", "seed", "I", false)
def tyX2 : Nat → FieldType := fun k => match k with
  | 0 => .array .int
  | 1 => .array .int
  | 2 => .object "StairMeter$Log"
  | 3 => .int
  | 4 => .int
  | 5 => .int
  | 6 => .int
  | 7 => .int
  | 8 => .int
  | 9 => .int
  | 10 => .int
  | 11 => .int
  | 12 => .int
  | _ => .int
def dvX2 : List Value := [.null, .null, .null, .int 0, .int 0, .int 0, .int 0, .int 0, .int 0, .int 0, .int 0, .int 0, .int 0, .int 0]
theorem tyX2_ok : ∀ k, k < 14 → parseFieldDescriptor (TX2 k).2.2.1 = some (tyX2 k) := by decide +kernel
theorem nmX2 : ∀ a, a < 14 → ∀ b, b < 14 → a ≠ b → (TX2 a).2.1 ≠ (TX2 b).2.1 := by decide +kernel
theorem dvX2_ok : ∀ k, k < 14 → defaultValue (tyX2 k) = dvX2.getD k .null ∧ ∀ D : xs_D, xs_T D (dvX2.getD k .null) = dvX2.getD k .null := by
  intro k hk
  have h : ∀ k, k < 14 → defaultValue (tyX2 k) = dvX2.getD k .null ∧ (dvX2.getD k .null = .int 0 ∨ dvX2.getD k .null = .null) := by decide +kernel
  refine ⟨(h k hk).1, fun D => ?_⟩
  rcases (h k hk).2 with e | e <;> rw [e] <;> rfl
def RX3 : String := "StairMeter$HouseLines"
def TX3 : u_T := fun k => match k with
  | 0 => ("StairMeter$Lines", "tape", "LStairMeter$Tape;", true)
  | _ => ("StairMeter$HouseLines", "house", "LStairMeter$House;", true)
def tyX3 : Nat → FieldType := fun k => match k with
  | 0 => .object "StairMeter$Tape"
  | _ => .object "StairMeter$House"
def dvX3 : List Value := [.null, .null]
theorem tyX3_ok : ∀ k, k < 2 → parseFieldDescriptor (TX3 k).2.2.1 = some (tyX3 k) := by decide +kernel
theorem nmX3 : ∀ a, a < 2 → ∀ b, b < 2 → a ≠ b → (TX3 a).2.1 ≠ (TX3 b).2.1 := by decide +kernel
theorem dvX3_ok : ∀ k, k < 2 → defaultValue (tyX3 k) = dvX3.getD k .null ∧ ∀ D : xs_D, xs_T D (dvX3.getD k .null) = dvX3.getD k .null := by
  intro k hk
  have h : ∀ k, k < 2 → defaultValue (tyX3 k) = dvX3.getD k .null ∧ (dvX3.getD k .null = .int 0 ∨ dvX3.getD k .null = .null) := by decide +kernel
  refine ⟨(h k hk).1, fun D => ?_⟩
  rcases (h k hk).2 with e | e <;> rw [e] <;> rfl
def RX4 : String := "StairMeter$Law"
def TX4 : u_T := fun k => match k with
  | 0 => ("StairMeter$Law", "kinds", "[I", true)
  | 1 => ("StairMeter$Law", "weights", "[I", true)
  | 2 => ("StairMeter$Law", "begins", "[I", true)
  | 3 => ("StairMeter$Law", "ends", "[I", true)
  | 4 => ("StairMeter$Law", "steps", "[I", true)
  | 5 => ("StairMeter$Law", "size", "I", false)
  | _ => ("StairMeter$Law", "lines", "I", false)
def tyX4 : Nat → FieldType := fun k => match k with
  | 0 => .array .int
  | 1 => .array .int
  | 2 => .array .int
  | 3 => .array .int
  | 4 => .array .int
  | 5 => .int
  | _ => .int
def dvX4 : List Value := [.null, .null, .null, .null, .null, .int 0, .int 0]
theorem tyX4_ok : ∀ k, k < 7 → parseFieldDescriptor (TX4 k).2.2.1 = some (tyX4 k) := by decide +kernel
theorem nmX4 : ∀ a, a < 7 → ∀ b, b < 7 → a ≠ b → (TX4 a).2.1 ≠ (TX4 b).2.1 := by decide +kernel
theorem dvX4_ok : ∀ k, k < 7 → defaultValue (tyX4 k) = dvX4.getD k .null ∧ ∀ D : xs_D, xs_T D (dvX4.getD k .null) = dvX4.getD k .null := by
  intro k hk
  have h : ∀ k, k < 7 → defaultValue (tyX4 k) = dvX4.getD k .null ∧ (dvX4.getD k .null = .int 0 ∨ dvX4.getD k .null = .null) := by decide +kernel
  refine ⟨(h k hk).1, fun D => ?_⟩
  rcases (h k hk).2 with e | e <;> rw [e] <;> rfl
def RX5 : String := "StairMeter$LawLines"
def TX5 : u_T := fun k => match k with
  | 0 => ("StairMeter$Lines", "tape", "LStairMeter$Tape;", true)
  | _ => ("StairMeter$LawLines", "law", "LStairMeter$Law;", true)
def tyX5 : Nat → FieldType := fun k => match k with
  | 0 => .object "StairMeter$Tape"
  | _ => .object "StairMeter$Law"
def dvX5 : List Value := [.null, .null]
theorem tyX5_ok : ∀ k, k < 2 → parseFieldDescriptor (TX5 k).2.2.1 = some (tyX5 k) := by decide +kernel
theorem nmX5 : ∀ a, a < 2 → ∀ b, b < 2 → a ≠ b → (TX5 a).2.1 ≠ (TX5 b).2.1 := by decide +kernel
theorem dvX5_ok : ∀ k, k < 2 → defaultValue (tyX5 k) = dvX5.getD k .null ∧ ∀ D : xs_D, xs_T D (dvX5.getD k .null) = dvX5.getD k .null := by
  intro k hk
  have h : ∀ k, k < 2 → defaultValue (tyX5 k) = dvX5.getD k .null ∧ (dvX5.getD k .null = .int 0 ∨ dvX5.getD k .null = .null) := by decide +kernel
  refine ⟨(h k hk).1, fun D => ?_⟩
  rcases (h k hk).2 with e | e <;> rw [e] <;> rfl
def RX7 : String := "StairMeter$Log"
def TX7 : u_T := fun k => match k with
  | 0 => ("StairMeter$Log", "keeps", "I", true)
  | 1 => ("StairMeter$Log", "cells", "[I", true)
  | 2 => ("StairMeter$Log", "rows", "I", false)
  | _ => ("StairMeter$Log", "next", "I", false)
def tyX7 : Nat → FieldType := fun k => match k with
  | 0 => .int
  | 1 => .array .int
  | 2 => .int
  | _ => .int
def dvX7 : List Value := [.int 0, .null, .int 0, .int 0]
theorem tyX7_ok : ∀ k, k < 4 → parseFieldDescriptor (TX7 k).2.2.1 = some (tyX7 k) := by decide +kernel
theorem nmX7 : ∀ a, a < 4 → ∀ b, b < 4 → a ≠ b → (TX7 a).2.1 ≠ (TX7 b).2.1 := by decide +kernel
theorem dvX7_ok : ∀ k, k < 4 → defaultValue (tyX7 k) = dvX7.getD k .null ∧ ∀ D : xs_D, xs_T D (dvX7.getD k .null) = dvX7.getD k .null := by
  intro k hk
  have h : ∀ k, k < 4 → defaultValue (tyX7 k) = dvX7.getD k .null ∧ (dvX7.getD k .null = .int 0 ∨ dvX7.getD k .null = .null) := by decide +kernel
  refine ⟨(h k hk).1, fun D => ?_⟩
  rcases (h k hk).2 with e | e <;> rw [e] <;> rfl
def RX8 : String := "StairMeter$Night"
def TX8 : u_T := fun k => match k with
  | 0 => ("StairMeter$Night", "present", "[I", true)
  | 1 => ("StairMeter$Night", "needed", "[I", true)
  | _ => ("StairMeter$Night", "values", "[I", true)
def tyX8 : Nat → FieldType := fun k => match k with
  | 0 => .array .int
  | 1 => .array .int
  | _ => .array .int
def dvX8 : List Value := [.null, .null, .null]
theorem tyX8_ok : ∀ k, k < 3 → parseFieldDescriptor (TX8 k).2.2.1 = some (tyX8 k) := by decide +kernel
theorem nmX8 : ∀ a, a < 3 → ∀ b, b < 3 → a ≠ b → (TX8 a).2.1 ≠ (TX8 b).2.1 := by decide +kernel
theorem dvX8_ok : ∀ k, k < 3 → defaultValue (tyX8 k) = dvX8.getD k .null ∧ ∀ D : xs_D, xs_T D (dvX8.getD k .null) = dvX8.getD k .null := by
  intro k hk
  have h : ∀ k, k < 3 → defaultValue (tyX8 k) = dvX8.getD k .null ∧ (dvX8.getD k .null = .int 0 ∨ dvX8.getD k .null = .null) := by decide +kernel
  refine ⟨(h k hk).1, fun D => ?_⟩
  rcases (h k hk).2 with e | e <;> rw [e] <;> rfl
def RX9 : String := "StairMeter$Pairing"
def TX9 : u_T := fun k => match k with
  | 0 => ("StairMeter$Pairing", "shared", "[I", true)
  | 1 => ("StairMeter$Pairing", "partner", "[I", true)
  | 2 => ("StairMeter$Pairing", "best", "[I", true)
  | 3 => ("StairMeter$Pairing", "lodgers", "I", false)
  | _ => ("StairMeter$Pairing", "most", "I", false)
def tyX9 : Nat → FieldType := fun k => match k with
  | 0 => .array .int
  | 1 => .array .int
  | 2 => .array .int
  | 3 => .int
  | _ => .int
def dvX9 : List Value := [.null, .null, .null, .int 0, .int 0]
theorem tyX9_ok : ∀ k, k < 5 → parseFieldDescriptor (TX9 k).2.2.1 = some (tyX9 k) := by decide +kernel
theorem nmX9 : ∀ a, a < 5 → ∀ b, b < 5 → a ≠ b → (TX9 a).2.1 ≠ (TX9 b).2.1 := by decide +kernel
theorem dvX9_ok : ∀ k, k < 5 → defaultValue (tyX9 k) = dvX9.getD k .null ∧ ∀ D : xs_D, xs_T D (dvX9.getD k .null) = dvX9.getD k .null := by
  intro k hk
  have h : ∀ k, k < 5 → defaultValue (tyX9 k) = dvX9.getD k .null ∧ (dvX9.getD k .null = .int 0 ∨ dvX9.getD k .null = .null) := by decide +kernel
  refine ⟨(h k hk).1, fun D => ?_⟩
  rcases (h k hk).2 with e | e <;> rw [e] <;> rfl
def RX10 : String := "StairMeter$Tape"
def TX10 : u_T := fun k => match k with
  | 0 => ("StairMeter$Tape", "bytes", "[I", true)
  | 1 => ("StairMeter$Tape", "things", "[I", true)
  | 2 => ("StairMeter$Tape", "begins", "[I", true)
  | 3 => ("StairMeter$Tape", "numbers", "[I", true)
  | 4 => ("StairMeter$Tape", "length", "I", false)
  | 5 => ("StairMeter$Tape", "size", "I", false)
  | 6 => ("StairMeter$Tape", "at", "I", false)
  | _ => ("StairMeter$Tape", "wrong", "I", false)
def tyX10 : Nat → FieldType := fun k => match k with
  | 0 => .array .int
  | 1 => .array .int
  | 2 => .array .int
  | 3 => .array .int
  | 4 => .int
  | 5 => .int
  | 6 => .int
  | _ => .int
def dvX10 : List Value := [.null, .null, .null, .null, .int 0, .int 0, .int 0, .int 0]
theorem tyX10_ok : ∀ k, k < 8 → parseFieldDescriptor (TX10 k).2.2.1 = some (tyX10 k) := by decide +kernel
theorem nmX10 : ∀ a, a < 8 → ∀ b, b < 8 → a ≠ b → (TX10 a).2.1 ≠ (TX10 b).2.1 := by decide +kernel
theorem dvX10_ok : ∀ k, k < 8 → defaultValue (tyX10 k) = dvX10.getD k .null ∧ ∀ D : xs_D, xs_T D (dvX10.getD k .null) = dvX10.getD k .null := by
  intro k hk
  have h : ∀ k, k < 8 → defaultValue (tyX10 k) = dvX10.getD k .null ∧ (dvX10.getD k .null = .int 0 ∨ dvX10.getD k .null = .null) := by decide +kernel
  refine ⟨(h k hk).1, fun D => ?_⟩
  rcases (h k hk).2 with e | e <;> rw [e] <;> rfl
def RX11 : String := "StairMeter"
def TX11 : u_T := fun k => match k with
  | 0 => ("StairMeter", "tape", "LStairMeter$Tape;", true)
  | 1 => ("StairMeter", "clues", "LStairMeter$Clues;", true)
  | 2 => ("StairMeter", "now", "LStairMeter$House;", true)
  | 3 => ("StairMeter", "staged", "LStairMeter$House;", true)
  | 4 => ("StairMeter", "ahead", "LStairMeter$House;", true)
  | 5 => ("StairMeter", "kept", "LStairMeter$House;", true)
  | 6 => ("StairMeter", "rule", "LStairMeter$Law;", true)
  | 7 => ("StairMeter", "stagedRule", "LStairMeter$Law;", true)
  | 8 => ("StairMeter", "keptRule", "LStairMeter$Law;", true)
  | 9 => ("StairMeter", "houseLines", "LStairMeter$HouseLines;", true)
  | 10 => ("StairMeter", "lawLines", "LStairMeter$LawLines;", true)
  | 11 => ("StairMeter", "night", "LStairMeter$Night;", true)
  | 12 => ("StairMeter", "pairing", "LStairMeter$Pairing;", true)
  | 13 => ("StairMeter", "acts", "LStairMeter$Acts;", true)
  | 14 => ("StairMeter", "chances", "[J", true)
  | 15 => ("StairMeter", "griefs", "[I", true)
  | 16 => ("StairMeter", "isKept", "Z", false)
  | _ => ("StairMeter", "wrong", "I", false)
def tyX11 : Nat → FieldType := fun k => match k with
  | 0 => .object "StairMeter$Tape"
  | 1 => .object "StairMeter$Clues"
  | 2 => .object "StairMeter$House"
  | 3 => .object "StairMeter$House"
  | 4 => .object "StairMeter$House"
  | 5 => .object "StairMeter$House"
  | 6 => .object "StairMeter$Law"
  | 7 => .object "StairMeter$Law"
  | 8 => .object "StairMeter$Law"
  | 9 => .object "StairMeter$HouseLines"
  | 10 => .object "StairMeter$LawLines"
  | 11 => .object "StairMeter$Night"
  | 12 => .object "StairMeter$Pairing"
  | 13 => .object "StairMeter$Acts"
  | 14 => .array .long
  | 15 => .array .int
  | 16 => .boolean
  | _ => .int
def dvX11 : List Value := [.null, .null, .null, .null, .null, .null, .null, .null, .null, .null, .null, .null, .null, .null, .null, .null, .int 0, .int 0]
theorem tyX11_ok : ∀ k, k < 18 → parseFieldDescriptor (TX11 k).2.2.1 = some (tyX11 k) := by decide +kernel
theorem nmX11 : ∀ a, a < 18 → ∀ b, b < 18 → a ≠ b → (TX11 a).2.1 ≠ (TX11 b).2.1 := by decide +kernel
theorem dvX11_ok : ∀ k, k < 18 → defaultValue (tyX11 k) = dvX11.getD k .null ∧ ∀ D : xs_D, xs_T D (dvX11.getD k .null) = dvX11.getD k .null := by
  intro k hk
  have h : ∀ k, k < 18 → defaultValue (tyX11 k) = dvX11.getD k .null ∧ (dvX11.getD k .null = .int 0 ∨ dvX11.getD k .null = .null) := by decide +kernel
  refine ⟨(h k hk).1, fun D => ?_⟩
  rcases (h k hk).2 with e | e <;> rw [e] <;> rfl
def RX12 : String := "StairMeterModel"
def TX12 : u_T := fun k => match k with
  | 0 => ("StairMeterModel", "thrown", "I", false)
  | 1 => ("StairMeterModel", "m", "[I", true)
  | 2 => ("StairMeterModel", "kept", "[I", true)
  | 3 => ("StairMeterModel", "hasImage", "Z", false)
  | 4 => ("StairMeterModel", "aside", "[I", true)
  | 5 => ("StairMeterModel", "acts", "[I", true)
  | 6 => ("StairMeterModel", "acted", "I", false)
  | 7 => ("StairMeterModel", "tape", "[I", true)
  | 8 => ("StairMeterModel", "taped", "I", false)
  | 9 => ("StairMeterModel", "base", "I", false)
  | 10 => ("StairMeterModel", "end", "I", false)
  | 11 => ("StairMeterModel", "at", "I", false)
  | 12 => ("StairMeterModel", "fault", "I", false)
  | 13 => ("StairMeterModel", "deep", "I", false)
  | 14 => ("StairMeterModel", "fact", "[I", true)
  | 15 => ("StairMeterModel", "isLast", "Z", false)
  | 16 => ("StairMeterModel", "isCold", "Z", false)
  | 17 => ("StairMeterModel", "turn", "I", false)
  | 18 => ("StairMeterModel", "refuses", "Z", false)
  | 19 => ("StairMeterModel", "nobodyFeeds", "Z", false)
  | 20 => ("StairMeterModel", "fed", "I", false)
  | 21 => ("StairMeterModel", "firstFed", "I", false)
  | 22 => ("StairMeterModel", "colds", "[I", true)
  | 23 => ("StairMeterModel", "griefs", "[I", true)
  | 24 => ("StairMeterModel", "best", "[I", true)
  | _ => ("StairMeterModel", "fits", "[Z", true)
def tyX12 : Nat → FieldType := fun k => match k with
  | 0 => .int
  | 1 => .array .int
  | 2 => .array .int
  | 3 => .boolean
  | 4 => .array .int
  | 5 => .array .int
  | 6 => .int
  | 7 => .array .int
  | 8 => .int
  | 9 => .int
  | 10 => .int
  | 11 => .int
  | 12 => .int
  | 13 => .int
  | 14 => .array .int
  | 15 => .boolean
  | 16 => .boolean
  | 17 => .int
  | 18 => .boolean
  | 19 => .boolean
  | 20 => .int
  | 21 => .int
  | 22 => .array .int
  | 23 => .array .int
  | 24 => .array .int
  | _ => .array .boolean
def dvX12 : List Value := [.int 0, .null, .null, .int 0, .null, .null, .int 0, .null, .int 0, .int 0, .int 0, .int 0, .int 0, .int 0, .null, .int 0, .int 0, .int 0, .int 0, .int 0, .int 0, .int 0, .null, .null, .null, .null]
theorem tyX12_ok : ∀ k, k < 26 → parseFieldDescriptor (TX12 k).2.2.1 = some (tyX12 k) := by decide +kernel
theorem nmX12 : ∀ a, a < 26 → ∀ b, b < 26 → a ≠ b → (TX12 a).2.1 ≠ (TX12 b).2.1 := by decide +kernel
theorem dvX12_ok : ∀ k, k < 26 → defaultValue (tyX12 k) = dvX12.getD k .null ∧ ∀ D : xs_D, xs_T D (dvX12.getD k .null) = dvX12.getD k .null := by
  intro k hk
  have h : ∀ k, k < 26 → defaultValue (tyX12 k) = dvX12.getD k .null ∧ (dvX12.getD k .null = .int 0 ∨ dvX12.getD k .null = .null) := by decide +kernel
  refine ⟨(h k hk).1, fun D => ?_⟩
  rcases (h k hk).2 with e | e <;> rw [e] <;> rfl
def RX6 : String := "StairMeter$Lines"
def RL : String := "StairMeterLaw"
def RJ9 : String := "java/lang/Math"
def RJ6 : String := "java/lang/Integer"
abbrev cX0_init : ByteArray := prog_2_method_1_code
def yX0_init : MethodName := ⟨"StairMeter$Acts", "<init>", "()V"⟩
abbrev cX0_slot : ByteArray := prog_2_method_2_code
def yX0_slot : MethodName := ⟨"StairMeter$Acts", "slot", "(I)LStairMeter$House;"⟩
abbrev cX0_remember : ByteArray := prog_2_method_3_code
def yX0_remember : MethodName := ⟨"StairMeter$Acts", "remember", "(LStairMeter$House;)V"⟩
abbrev cX0_takeBack : ByteArray := prog_2_method_4_code
def yX0_takeBack : MethodName := ⟨"StairMeter$Acts", "takeBack", "(LStairMeter$House;)Z"⟩
abbrev cX0_forget : ByteArray := prog_2_method_5_code
def yX0_forget : MethodName := ⟨"StairMeter$Acts", "forget", "()V"⟩
abbrev cX1_init : ByteArray := prog_3_method_1_code
def yX1_init : MethodName := ⟨"StairMeter$Clues", "<init>", "()V"⟩
abbrev cX1_readRows : ByteArray := prog_3_method_2_code
def yX1_readRows : MethodName := ⟨"StairMeter$Clues", "readRows", "(LStairMeter$Tape;I)Z"⟩
abbrev cX1_isPossible : ByteArray := prog_3_method_3_code
def yX1_isPossible : MethodName := ⟨"StairMeter$Clues", "isPossible", "(I)Z"⟩
abbrev cX2_init : ByteArray := prog_4_method_1_code
def yX2_init : MethodName := ⟨"StairMeter$House", "<init>", "(I)V"⟩
abbrev cX2_takeOver : ByteArray := prog_4_method_2_code
def yX2_takeOver : MethodName := ⟨"StairMeter$House", "takeOver", "(LStairMeter$House;)V"⟩
abbrev cX2_get : ByteArray := prog_4_method_3_code
def yX2_get : MethodName := ⟨"StairMeter$House", "get", "(II)I"⟩
abbrev cX2_set : ByteArray := prog_4_method_4_code
def yX2_set : MethodName := ⟨"StairMeter$House", "set", "(III)V"⟩
abbrev cX2_sum : ByteArray := prog_4_method_5_code
def yX2_sum : MethodName := ⟨"StairMeter$House", "sum", "(I)I"⟩
abbrev cX2_isIn : ByteArray := prog_4_method_6_code
def yX2_isIn : MethodName := ⟨"StairMeter$House", "isIn", "(II)Z"⟩
abbrev cX2_hours : ByteArray := prog_4_method_7_code
def yX2_hours : MethodName := ⟨"StairMeter$House", "hours", "(I)I"⟩
abbrev cX2_metered : ByteArray := prog_4_method_8_code
def yX2_metered : MethodName := ⟨"StairMeter$House", "metered", "(I)I"⟩
abbrev cX2_burnt : ByteArray := prog_4_method_9_code
def yX2_burnt : MethodName := ⟨"StairMeter$House", "burnt", "(I)I"⟩
abbrev cX2_isLike : ByteArray := prog_4_method_10_code
def yX2_isLike : MethodName := ⟨"StairMeter$House", "isLike", "(II)Z"⟩
abbrev cX2_swapRooms : ByteArray := prog_4_method_11_code
def yX2_swapRooms : MethodName := ⟨"StairMeter$House", "swapRooms", "(II)V"⟩
abbrev cX2_owed : ByteArray := prog_4_method_12_code
def yX2_owed : MethodName := ⟨"StairMeter$House", "owed", "(II)I"⟩
abbrev cX2_setOwed : ByteArray := prog_4_method_13_code
def yX2_setOwed : MethodName := ⟨"StairMeter$House", "setOwed", "(III)V"⟩
abbrev cX2_isDebt : ByteArray := prog_4_method_14_code
def yX2_isDebt : MethodName := ⟨"StairMeter$House", "isDebt", "(II)Z"⟩
abbrev cX2_owesMore : ByteArray := prog_4_method_15_code
def yX2_owesMore : MethodName := ⟨"StairMeter$House", "owesMore", "(I)I"⟩
abbrev cX2_creditors : ByteArray := prog_4_method_16_code
def yX2_creditors : MethodName := ⟨"StairMeter$House", "creditors", "(I)I"⟩
abbrev cX2_moveCoins : ByteArray := prog_4_method_17_code
def yX2_moveCoins : MethodName := ⟨"StairMeter$House", "moveCoins", "(III)V"⟩
abbrev cX2_addGas : ByteArray := prog_4_method_18_code
def yX2_addGas : MethodName := ⟨"StairMeter$House", "addGas", "(I)V"⟩
abbrev cX2_takeCoin : ByteArray := prog_4_method_19_code
def yX2_takeCoin : MethodName := ⟨"StairMeter$House", "takeCoin", "(I)V"⟩
abbrev cX2_draw : ByteArray := prog_4_method_20_code
def yX2_draw : MethodName := ⟨"StairMeter$House", "draw", "()I"⟩
abbrev cX2_light : ByteArray := prog_4_method_21_code
def yX2_light : MethodName := ⟨"StairMeter$House", "light", "(I)V"⟩
abbrev cX2_darken : ByteArray := prog_4_method_22_code
def yX2_darken : MethodName := ⟨"StairMeter$House", "darken", "()V"⟩
abbrev cX2_chill : ByteArray := prog_4_method_23_code
def yX2_chill : MethodName := ⟨"StairMeter$House", "chill", "(I)V"⟩
abbrev cX2_turnClock : ByteArray := prog_4_method_24_code
def yX2_turnClock : MethodName := ⟨"StairMeter$House", "turnClock", "()V"⟩
abbrev cX3_init : ByteArray := prog_5_method_1_code
def yX3_init : MethodName := ⟨"StairMeter$HouseLines", "<init>", "(LStairMeter$Tape;LStairMeter$House;)V"⟩
abbrev cX3_readLine : ByteArray := prog_5_method_2_code
def yX3_readLine : MethodName := ⟨"StairMeter$HouseLines", "readLine", "()Z"⟩
abbrev cX3_readLodger : ByteArray := prog_5_method_3_code
def yX3_readLodger : MethodName := ⟨"StairMeter$HouseLines", "readLodger", "()Z"⟩
abbrev cX3_readFact : ByteArray := prog_5_method_4_code
def yX3_readFact : MethodName := ⟨"StairMeter$HouseLines", "readFact", "(IIII)Z"⟩
abbrev cX3_readDebt : ByteArray := prog_5_method_5_code
def yX3_readDebt : MethodName := ⟨"StairMeter$HouseLines", "readDebt", "()Z"⟩
abbrev cX4_init : ByteArray := prog_6_method_1_code
def yX4_init : MethodName := ⟨"StairMeter$Law", "<init>", "()V"⟩
abbrev cX4_clear : ByteArray := prog_6_method_2_code
def yX4_clear : MethodName := ⟨"StairMeter$Law", "clear", "()V"⟩
abbrev cX4_takeOver : ByteArray := prog_6_method_3_code
def yX4_takeOver : MethodName := ⟨"StairMeter$Law", "takeOver", "(LStairMeter$Law;)V"⟩
abbrev cX4_addLine : ByteArray := prog_6_method_4_code
def yX4_addLine : MethodName := ⟨"StairMeter$Law", "addLine", "(III)V"⟩
abbrev cX4_add : ByteArray := prog_6_method_5_code
def yX4_add : MethodName := ⟨"StairMeter$Law", "add", "(II)V"⟩
abbrev cX4_addJump : ByteArray := prog_6_method_6_code
def yX4_addJump : MethodName := ⟨"StairMeter$Law", "addJump", "(II)I"⟩
abbrev cX4_land : ByteArray := prog_6_method_7_code
def yX4_land : MethodName := ⟨"StairMeter$Law", "land", "(I)V"⟩
abbrev cX4_turnOf : ByteArray := prog_6_method_8_code
def yX4_turnOf : MethodName := ⟨"StairMeter$Law", "turnOf", "([I)I"⟩
abbrev cX4_isRefused : ByteArray := prog_6_method_9_code
def yX4_isRefused : MethodName := ⟨"StairMeter$Law", "isRefused", "([I)Z"⟩
abbrev cX4_holds : ByteArray := prog_6_method_10_code
def yX4_holds : MethodName := ⟨"StairMeter$Law", "holds", "(I[I)Z"⟩
abbrev cX5_init : ByteArray := prog_7_method_1_code
def yX5_init : MethodName := ⟨"StairMeter$LawLines", "<init>", "(LStairMeter$Tape;LStairMeter$Law;)V"⟩
abbrev cX5_readLine : ByteArray := prog_7_method_2_code
def yX5_readLine : MethodName := ⟨"StairMeter$LawLines", "readLine", "()Z"⟩
abbrev cX5_kindOf : ByteArray := prog_7_method_3_code
def yX5_kindOf : MethodName := ⟨"StairMeter$LawLines", "kindOf", "(I)I"⟩
abbrev cX5_readAny : ByteArray := prog_7_method_4_code
def yX5_readAny : MethodName := ⟨"StairMeter$LawLines", "readAny", "(I)Z"⟩
abbrev cX5_readAll : ByteArray := prog_7_method_5_code
def yX5_readAll : MethodName := ⟨"StairMeter$LawLines", "readAll", "(I)Z"⟩
abbrev cX5_readAtom : ByteArray := prog_7_method_6_code
def yX5_readAtom : MethodName := ⟨"StairMeter$LawLines", "readAtom", "(I)Z"⟩
abbrev cX5_readOrder : ByteArray := prog_7_method_7_code
def yX5_readOrder : MethodName := ⟨"StairMeter$LawLines", "readOrder", "()Z"⟩
abbrev cX5_readSum : ByteArray := prog_7_method_8_code
def yX5_readSum : MethodName := ⟨"StairMeter$LawLines", "readSum", "()Z"⟩
abbrev cX5_partOf : ByteArray := prog_7_method_9_code
def yX5_partOf : MethodName := ⟨"StairMeter$LawLines", "partOf", "(I)I"⟩
abbrev cX6_init : ByteArray := prog_8_method_1_code
def yX6_init : MethodName := ⟨"StairMeter$Lines", "<init>", "(LStairMeter$Tape;)V"⟩
abbrev cX6_readLines : ByteArray := prog_8_method_3_code
def yX6_readLines : MethodName := ⟨"StairMeter$Lines", "readLines", "(I)Z"⟩
abbrev cX7_init : ByteArray := prog_9_method_1_code
def yX7_init : MethodName := ⟨"StairMeter$Log", "<init>", "(I)V"⟩
abbrev cX7_takeOver : ByteArray := prog_9_method_2_code
def yX7_takeOver : MethodName := ⟨"StairMeter$Log", "takeOver", "(LStairMeter$Log;)V"⟩
abbrev cX7_add : ByteArray := prog_9_method_3_code
def yX7_add : MethodName := ⟨"StairMeter$Log", "add", "(LStairMeter$House;II)V"⟩
abbrev cX7_cell : ByteArray := prog_9_method_4_code
def yX7_cell : MethodName := ⟨"StairMeter$Log", "cell", "(II)I"⟩
abbrev cX8_init : ByteArray := prog_10_method_1_code
def yX8_init : MethodName := ⟨"StairMeter$Night", "<init>", "()V"⟩
abbrev cX8_learn : ByteArray := prog_10_method_2_code
def yX8_learn : MethodName := ⟨"StairMeter$Night", "learn", "(LStairMeter$House;)V"⟩
abbrev cX8_presentAt : ByteArray := prog_10_method_3_code
def yX8_presentAt : MethodName := ⟨"StairMeter$Night", "presentAt", "(I)I"⟩
abbrev cX8_needsAt : ByteArray := prog_10_method_4_code
def yX8_needsAt : MethodName := ⟨"StairMeter$Night", "needsAt", "(I)I"⟩
abbrev cX8_pass : ByteArray := prog_10_method_5_code
def yX8_pass : MethodName := ⟨"StairMeter$Night", "pass", "(LStairMeter$House;LStairMeter$Law;Z)I"⟩
abbrev cX8_whoGoes : ByteArray := prog_10_method_6_code
def yX8_whoGoes : MethodName := ⟨"StairMeter$Night", "whoGoes", "(LStairMeter$House;LStairMeter$Law;I)I"⟩
abbrev cX8_tell : ByteArray := prog_10_method_7_code
def yX8_tell : MethodName := ⟨"StairMeter$Night", "tell", "(LStairMeter$House;I)V"⟩
abbrev cX9_init : ByteArray := prog_11_method_1_code
def yX9_init : MethodName := ⟨"StairMeter$Pairing", "<init>", "()V"⟩
abbrev cX9_solve : ByteArray := prog_11_method_2_code
def yX9_solve : MethodName := ⟨"StairMeter$Pairing", "solve", "(LStairMeter$Night;I)V"⟩
abbrev cX9_sharedTicks : ByteArray := prog_11_method_3_code
def yX9_sharedTicks : MethodName := ⟨"StairMeter$Pairing", "sharedTicks", "(LStairMeter$Night;I)I"⟩
abbrev cX9_choose : ByteArray := prog_11_method_4_code
def yX9_choose : MethodName := ⟨"StairMeter$Pairing", "choose", "(II)V"⟩
abbrev cX9_keep : ByteArray := prog_11_method_5_code
def yX9_keep : MethodName := ⟨"StairMeter$Pairing", "keep", "(I)V"⟩
abbrev cX9_partnerOf : ByteArray := prog_11_method_6_code
def yX9_partnerOf : MethodName := ⟨"StairMeter$Pairing", "partnerOf", "(I)I"⟩
abbrev cX10_init : ByteArray := prog_12_method_1_code
def yX10_init : MethodName := ⟨"StairMeter$Tape", "<init>", "()V"⟩
abbrev cX10_append : ByteArray := prog_12_method_2_code
def yX10_append : MethodName := ⟨"StairMeter$Tape", "append", "(I)V"⟩
abbrev cX10_byteAt : ByteArray := prog_12_method_3_code
def yX10_byteAt : MethodName := ⟨"StairMeter$Tape", "byteAt", "(I)I"⟩
abbrev cX10_open : ByteArray := prog_12_method_4_code
def yX10_open : MethodName := ⟨"StairMeter$Tape", "open", "()V"⟩
abbrev cX10_behindThing : ByteArray := prog_12_method_5_code
def yX10_behindThing : MethodName := ⟨"StairMeter$Tape", "behindThing", "(II)I"⟩
abbrev cX10_kindOf : ByteArray := prog_12_method_6_code
def yX10_kindOf : MethodName := ⟨"StairMeter$Tape", "kindOf", "(I)I"⟩
abbrev cX10_addThing : ByteArray := prog_12_method_7_code
def yX10_addThing : MethodName := ⟨"StairMeter$Tape", "addThing", "(II)V"⟩
abbrev cX10_thingAt : ByteArray := prog_12_method_8_code
def yX10_thingAt : MethodName := ⟨"StairMeter$Tape", "thingAt", "(II)I"⟩
abbrev cX10_numberAt : ByteArray := prog_12_method_9_code
def yX10_numberAt : MethodName := ⟨"StairMeter$Tape", "numberAt", "(II)I"⟩
abbrev cX10_wordAt : ByteArray := prog_12_method_10_code
def yX10_wordAt : MethodName := ⟨"StairMeter$Tape", "wordAt", "(II)I"⟩
abbrev cX10_thing : ByteArray := prog_12_method_11_code
def yX10_thing : MethodName := ⟨"StairMeter$Tape", "thing", "()I"⟩
abbrev cX10_takes : ByteArray := prog_12_method_12_code
def yX10_takes : MethodName := ⟨"StairMeter$Tape", "takes", "(I)Z"⟩
abbrev cX10_takesNumber : ByteArray := prog_12_method_13_code
def yX10_takesNumber : MethodName := ⟨"StairMeter$Tape", "takesNumber", "(II)I"⟩
abbrev cX10_fails : ByteArray := prog_12_method_14_code
def yX10_fails : MethodName := ⟨"StairMeter$Tape", "fails", "()Z"⟩
abbrev cX11_init : ByteArray := prog_1_method_1_code
def yX11_init : MethodName := ⟨"StairMeter", "<init>", "()V"⟩
abbrev cX11_feed : ByteArray := prog_1_method_2_code
def yX11_feed : MethodName := ⟨"StairMeter", "feed", "(IIIII)I"⟩
abbrev cX11_end : ByteArray := prog_1_method_3_code
def yX11_end : MethodName := ⟨"StairMeter", "end", "(I)Z"⟩
abbrev cX11_house : ByteArray := prog_1_method_4_code
def yX11_house : MethodName := ⟨"StairMeter", "house", "()I"⟩
abbrev cX11_law : ByteArray := prog_1_method_5_code
def yX11_law : MethodName := ⟨"StairMeter", "law", "()I"⟩
abbrev cX11_fault : ByteArray := prog_1_method_6_code
def yX11_fault : MethodName := ⟨"StairMeter", "fault", "()I"⟩
abbrev cX11_lodger : ByteArray := prog_1_method_7_code
def yX11_lodger : MethodName := ⟨"StairMeter", "lodger", "(II)I"⟩
abbrev cX11_owes : ByteArray := prog_1_method_8_code
def yX11_owes : MethodName := ⟨"StairMeter", "owes", "(II)I"⟩
abbrev cX11_isHome : ByteArray := prog_1_method_9_code
def yX11_isHome : MethodName := ⟨"StairMeter", "isHome", "(II)Z"⟩
abbrev cX11_needs : ByteArray := prog_1_method_10_code
def yX11_needs : MethodName := ⟨"StairMeter", "needs", "(I)I"⟩
abbrev cX11_count : ByteArray := prog_1_method_11_code
def yX11_count : MethodName := ⟨"StairMeter", "count", "(I)I"⟩
abbrev cX11_inside : ByteArray := prog_1_method_12_code
def yX11_inside : MethodName := ⟨"StairMeter", "inside", "()I"⟩
abbrev cX11_ticks : ByteArray := prog_1_method_13_code
def yX11_ticks : MethodName := ⟨"StairMeter", "ticks", "(I)I"⟩
abbrev cX11_put : ByteArray := prog_1_method_14_code
def yX11_put : MethodName := ⟨"StairMeter", "put", "(I)I"⟩
abbrev cX11_lend : ByteArray := prog_1_method_15_code
def yX11_lend : MethodName := ⟨"StairMeter", "lend", "(II)I"⟩
abbrev cX11_repay : ByteArray := prog_1_method_16_code
def yX11_repay : MethodName := ⟨"StairMeter", "repay", "(II)I"⟩
abbrev cX11_waits : ByteArray := prog_1_method_17_code
def yX11_waits : MethodName := ⟨"StairMeter", "waits", "(II)I"⟩
abbrev cX11_price : ByteArray := prog_1_method_18_code
def yX11_price : MethodName := ⟨"StairMeter", "price", "(I)I"⟩
abbrev cX11_change : ByteArray := prog_1_method_19_code
def yX11_change : MethodName := ⟨"StairMeter", "change", "(II)I"⟩
abbrev cX11_home : ByteArray := prog_1_method_20_code
def yX11_home : MethodName := ⟨"StairMeter", "home", "(III)I"⟩
abbrev cX11_empty : ByteArray := prog_1_method_21_code
def yX11_empty : MethodName := ⟨"StairMeter", "empty", "()I"⟩
abbrev cX11_lasts : ByteArray := prog_1_method_22_code
def yX11_lasts : MethodName := ⟨"StairMeter", "lasts", "()I"⟩
abbrev cX11_out : ByteArray := prog_1_method_23_code
def yX11_out : MethodName := ⟨"StairMeter", "out", "()I"⟩
abbrev cX11_firstDark : ByteArray := prog_1_method_24_code
def yX11_firstDark : MethodName := ⟨"StairMeter", "firstDark", "()I"⟩
abbrev cX11_feeder : ByteArray := prog_1_method_25_code
def yX11_feeder : MethodName := ⟨"StairMeter", "feeder", "()I"⟩
abbrev cX11_shiver : ByteArray := prog_1_method_26_code
def yX11_shiver : MethodName := ⟨"StairMeter", "shiver", "()I"⟩
abbrev cX11_firstColder : ByteArray := prog_1_method_27_code
def yX11_firstColder : MethodName := ⟨"StairMeter", "firstColder", "()I"⟩
abbrev cX11_after : ByteArray := prog_1_method_28_code
def yX11_after : MethodName := ⟨"StairMeter", "after", "(III)I"⟩
abbrev cX11_coins : ByteArray := prog_1_method_29_code
def yX11_coins : MethodName := ⟨"StairMeter", "coins", "(I)I"⟩
abbrev cX11_ease : ByteArray := prog_1_method_30_code
def yX11_ease : MethodName := ⟨"StairMeter", "ease", "(I)I"⟩
abbrev cX11_start : ByteArray := prog_1_method_31_code
def yX11_start : MethodName := ⟨"StairMeter", "start", "()V"⟩
abbrev cX11_run : ByteArray := prog_1_method_32_code
def yX11_run : MethodName := ⟨"StairMeter", "run", "(IZ)I"⟩
abbrev cX11_grief : ByteArray := prog_1_method_33_code
def yX11_grief : MethodName := ⟨"StairMeter", "grief", "(II)I"⟩
abbrev cX11_restless : ByteArray := prog_1_method_34_code
def yX11_restless : MethodName := ⟨"StairMeter", "restless", "()I"⟩
abbrev cX11_wouldWait : ByteArray := prog_1_method_35_code
def yX11_wouldWait : MethodName := ⟨"StairMeter", "wouldWait", "(I)Z"⟩
abbrev cX11_saint : ByteArray := prog_1_method_36_code
def yX11_saint : MethodName := ⟨"StairMeter", "saint", "(IZ)I"⟩
abbrev cX11_warmer : ByteArray := prog_1_method_37_code
def yX11_warmer : MethodName := ⟨"StairMeter", "warmer", "(II)Z"⟩
abbrev cX11_bestWait : ByteArray := prog_1_method_38_code
def yX11_bestWait : MethodName := ⟨"StairMeter", "bestWait", "(I)I"⟩
abbrev cX11_griefBy : ByteArray := prog_1_method_39_code
def yX11_griefBy : MethodName := ⟨"StairMeter", "griefBy", "(II)I"⟩
abbrev cX11_griefAhead : ByteArray := prog_1_method_40_code
def yX11_griefAhead : MethodName := ⟨"StairMeter", "griefAhead", "(I)I"⟩
abbrev cX11_fair : ByteArray := prog_1_method_41_code
def yX11_fair : MethodName := ⟨"StairMeter", "fair", "(II)I"⟩
abbrev cX11_share : ByteArray := prog_1_method_42_code
def yX11_share : MethodName := ⟨"StairMeter", "share", "(III)I"⟩
abbrev cX11_hundredths : ByteArray := prog_1_method_43_code
def yX11_hundredths : MethodName := ⟨"StairMeter", "hundredths", "(II)I"⟩
abbrev cX11_tops : ByteArray := prog_1_method_44_code
def yX11_tops : MethodName := ⟨"StairMeter", "tops", "(I)I"⟩
abbrev cX11_stand : ByteArray := prog_1_method_45_code
def yX11_stand : MethodName := ⟨"StairMeter", "stand", "(I)I"⟩
abbrev cX11_mostNeeds : ByteArray := prog_1_method_46_code
def yX11_mostNeeds : MethodName := ⟨"StairMeter", "mostNeeds", "(I)I"⟩
abbrev cX11_dear : ByteArray := prog_1_method_47_code
def yX11_dear : MethodName := ⟨"StairMeter", "dear", "(Z)I"⟩
abbrev cX11_earns : ByteArray := prog_1_method_48_code
def yX11_earns : MethodName := ⟨"StairMeter", "earns", "(I)I"⟩
abbrev cX11_earned : ByteArray := prog_1_method_49_code
def yX11_earned : MethodName := ⟨"StairMeter", "earned", "(I)I"⟩
abbrev cX11_odds : ByteArray := prog_1_method_50_code
def yX11_odds : MethodName := ⟨"StairMeter", "odds", "(II)I"⟩
abbrev cX11_culprit : ByteArray := prog_1_method_51_code
def yX11_culprit : MethodName := ⟨"StairMeter", "culprit", "(Z)I"⟩
abbrev cX11_ask : ByteArray := prog_1_method_52_code
def yX11_ask : MethodName := ⟨"StairMeter", "ask", "()I"⟩
abbrev cX11_fitting : ByteArray := prog_1_method_53_code
def yX11_fitting : MethodName := ⟨"StairMeter", "fitting", "(I)I"⟩
abbrev cX11_drawn : ByteArray := prog_1_method_54_code
def yX11_drawn : MethodName := ⟨"StairMeter", "drawn", "(I)I"⟩
abbrev cX11_isDrawn : ByteArray := prog_1_method_55_code
def yX11_isDrawn : MethodName := ⟨"StairMeter", "isDrawn", "(I)Z"⟩
abbrev cX11_readClues : ByteArray := prog_1_method_56_code
def yX11_readClues : MethodName := ⟨"StairMeter", "readClues", "(I)V"⟩
abbrev cX11_fewer : ByteArray := prog_1_method_57_code
def yX11_fewer : MethodName := ⟨"StairMeter", "fewer", "(II)I"⟩
abbrev cX11_pairs : ByteArray := prog_1_method_58_code
def yX11_pairs : MethodName := ⟨"StairMeter", "pairs", "(I)I"⟩
abbrev cX11_keepers : ByteArray := prog_1_method_59_code
def yX11_keepers : MethodName := ⟨"StairMeter", "keepers", "()I"⟩
abbrev cX11_isKeeping : ByteArray := prog_1_method_60_code
def yX11_isKeeping : MethodName := ⟨"StairMeter", "isKeeping", "(I)Z"⟩
abbrev cX11_kettle : ByteArray := prog_1_method_61_code
def yX11_kettle : MethodName := ⟨"StairMeter", "kettle", "(I)Z"⟩
abbrev cX11_swings : ByteArray := prog_1_method_62_code
def yX11_swings : MethodName := ⟨"StairMeter", "swings", "(I)I"⟩
abbrev cX11_minimal : ByteArray := prog_1_method_63_code
def yX11_minimal : MethodName := ⟨"StairMeter", "minimal", "()I"⟩
abbrev cX11_dummies : ByteArray := prog_1_method_64_code
def yX11_dummies : MethodName := ⟨"StairMeter", "dummies", "()I"⟩
abbrev cX11_swung : ByteArray := prog_1_method_65_code
def yX11_swung : MethodName := ⟨"StairMeter", "swung", "(I)I"⟩
abbrev cX11_needsEach : ByteArray := prog_1_method_66_code
def yX11_needsEach : MethodName := ⟨"StairMeter", "needsEach", "(I)Z"⟩
abbrev cX11_carries : ByteArray := prog_1_method_67_code
def yX11_carries : MethodName := ⟨"StairMeter", "carries", "(I)Z"⟩
abbrev cX11_net : ByteArray := prog_1_method_68_code
def yX11_net : MethodName := ⟨"StairMeter", "net", "(II)I"⟩
abbrev cX11_debt : ByteArray := prog_1_method_69_code
def yX11_debt : MethodName := ⟨"StairMeter", "debt", "()I"⟩
abbrev cX11_ring : ByteArray := prog_1_method_70_code
def yX11_ring : MethodName := ⟨"StairMeter", "ring", "(I)Z"⟩
abbrev cX11_poorest : ByteArray := prog_1_method_71_code
def yX11_poorest : MethodName := ⟨"StairMeter", "poorest", "()I"⟩
abbrev cX11_rests : ByteArray := prog_1_method_72_code
def yX11_rests : MethodName := ⟨"StairMeter", "rests", "(II)I"⟩
abbrev cX11_isContent : ByteArray := prog_1_method_73_code
def yX11_isContent : MethodName := ⟨"StairMeter", "isContent", "(IIII)Z"⟩
abbrev cX11_gain : ByteArray := prog_1_method_74_code
def yX11_gain : MethodName := ⟨"StairMeter", "gain", "(IIII)I"⟩
abbrev cX11_busy : ByteArray := prog_1_method_75_code
def yX11_busy : MethodName := ⟨"StairMeter", "busy", "()I"⟩
abbrev cX11_alone : ByteArray := prog_1_method_76_code
def yX11_alone : MethodName := ⟨"StairMeter", "alone", "()I"⟩
abbrev cX11_miser : ByteArray := prog_1_method_77_code
def yX11_miser : MethodName := ⟨"StairMeter", "miser", "()I"⟩
abbrev cX11_alike : ByteArray := prog_1_method_78_code
def yX11_alike : MethodName := ⟨"StairMeter", "alike", "()I"⟩
abbrev cX11_trial : ByteArray := prog_1_method_79_code
def yX11_trial : MethodName := ⟨"StairMeter", "trial", "(IZ)I"⟩
abbrev cX11_span : ByteArray := prog_1_method_80_code
def yX11_span : MethodName := ⟨"StairMeter", "span", "(IZ)I"⟩
abbrev cX11_led : ByteArray := prog_1_method_81_code
def yX11_led : MethodName := ⟨"StairMeter", "led", "(IZ)I"⟩
abbrev cX11_log : ByteArray := prog_1_method_82_code
def yX11_log : MethodName := ⟨"StairMeter", "log", "(II)I"⟩
abbrev cX11_seed : ByteArray := prog_1_method_83_code
def yX11_seed : MethodName := ⟨"StairMeter", "seed", "(I)I"⟩
abbrev cX11_undo : ByteArray := prog_1_method_84_code
def yX11_undo : MethodName := ⟨"StairMeter", "undo", "()Z"⟩
abbrev cX11_image : ByteArray := prog_1_method_85_code
def yX11_image : MethodName := ⟨"StairMeter", "image", "()V"⟩
abbrev cX11_back : ByteArray := prog_1_method_86_code
def yX11_back : MethodName := ⟨"StairMeter", "back", "()Z"⟩
abbrev cX11_everybody : ByteArray := prog_1_method_87_code
def yX11_everybody : MethodName := ⟨"StairMeter", "everybody", "()I"⟩
abbrev cX11_checkLodger : ByteArray := prog_1_method_88_code
def yX11_checkLodger : MethodName := ⟨"StairMeter", "checkLodger", "(I)V"⟩
abbrev cX11_checkTwo : ByteArray := prog_1_method_89_code
def yX11_checkTwo : MethodName := ⟨"StairMeter", "checkTwo", "(II)V"⟩
abbrev cX11_checkTick : ByteArray := prog_1_method_90_code
def yX11_checkTick : MethodName := ⟨"StairMeter", "checkTick", "(I)V"⟩
abbrev cX11_checkRange : ByteArray := prog_1_method_91_code
def yX11_checkRange : MethodName := ⟨"StairMeter", "checkRange", "(III)V"⟩
abbrev cX12_init : ByteArray := prog_14_method_1_code
def yX12_init : MethodName := ⟨"StairMeterModel", "<init>", "()V"⟩
abbrev cX12_thrown : ByteArray := prog_14_method_2_code
def yX12_thrown : MethodName := ⟨"StairMeterModel", "thrown", "()I"⟩
abbrev cX12_isIn : ByteArray := prog_14_method_3_code
def yX12_isIn : MethodName := ⟨"StairMeterModel", "isIn", "(III)Z"⟩
abbrev cX12_lesser : ByteArray := prog_14_method_4_code
def yX12_lesser : MethodName := ⟨"StairMeterModel", "lesser", "(II)I"⟩
abbrev cX12_greater : ByteArray := prog_14_method_5_code
def yX12_greater : MethodName := ⟨"StairMeterModel", "greater", "(II)I"⟩
abbrev cX12_isOf : ByteArray := prog_14_method_6_code
def yX12_isOf : MethodName := ⟨"StairMeterModel", "isOf", "(II)Z"⟩
abbrev cX12_bits : ByteArray := prog_14_method_7_code
def yX12_bits : MethodName := ⟨"StairMeterModel", "bits", "(I)I"⟩
abbrev cX12_of : ByteArray := prog_14_method_8_code
def yX12_of : MethodName := ⟨"StairMeterModel", "of", "(II)I"⟩
abbrev cX12_lays : ByteArray := prog_14_method_9_code
def yX12_lays : MethodName := ⟨"StairMeterModel", "lays", "(III)V"⟩
abbrev cX12_owed : ByteArray := prog_14_method_10_code
def yX12_owed : MethodName := ⟨"StairMeterModel", "owed", "(II)I"⟩
abbrev cX12_isLodger : ByteArray := prog_14_method_11_code
def yX12_isLodger : MethodName := ⟨"StairMeterModel", "isLodger", "(I)Z"⟩
abbrev cX12_isTick : ByteArray := prog_14_method_12_code
def yX12_isTick : MethodName := ⟨"StairMeterModel", "isTick", "(I)Z"⟩
abbrev cX12_atHome : ByteArray := prog_14_method_13_code
def yX12_atHome : MethodName := ⟨"StairMeterModel", "atHome", "(II)Z"⟩
abbrev cX12_homeIn : ByteArray := prog_14_method_14_code
def yX12_homeIn : MethodName := ⟨"StairMeterModel", "homeIn", "(I)I"⟩
abbrev cX12_burnsOf : ByteArray := prog_14_method_15_code
def yX12_burnsOf : MethodName := ⟨"StairMeterModel", "burnsOf", "(I)I"⟩
abbrev cX12_needsIn : ByteArray := prog_14_method_16_code
def yX12_needsIn : MethodName := ⟨"StairMeterModel", "needsIn", "(I)I"⟩
abbrev cX12_hoursOf : ByteArray := prog_14_method_17_code
def yX12_hoursOf : MethodName := ⟨"StairMeterModel", "hoursOf", "(I)I"⟩
abbrev cX12_all : ByteArray := prog_14_method_18_code
def yX12_all : MethodName := ⟨"StairMeterModel", "all", "()I"⟩
abbrev cX12_feed : ByteArray := prog_14_method_19_code
def yX12_feed : MethodName := ⟨"StairMeterModel", "feed", "(IIIII)I"⟩
abbrev cX12_end : ByteArray := prog_14_method_20_code
def yX12_end : MethodName := ⟨"StairMeterModel", "end", "(I)Z"⟩
abbrev cX12_letter : ByteArray := prog_14_method_21_code
def yX12_letter : MethodName := ⟨"StairMeterModel", "letter", "(I)I"⟩
abbrev cX12_skip : ByteArray := prog_14_method_22_code
def yX12_skip : MethodName := ⟨"StairMeterModel", "skip", "()V"⟩
abbrev cX12_isSign : ByteArray := prog_14_method_23_code
def yX12_isSign : MethodName := ⟨"StairMeterModel", "isSign", "(I)Z"⟩
abbrev cX12_has : ByteArray := prog_14_method_24_code
def yX12_has : MethodName := ⟨"StairMeterModel", "has", "(Ljava/lang/String;)Z"⟩
abbrev cX12_wrong : ByteArray := prog_14_method_25_code
def yX12_wrong : MethodName := ⟨"StairMeterModel", "wrong", "(I)V"⟩
abbrev cX12_here : ByteArray := prog_14_method_26_code
def yX12_here : MethodName := ⟨"StairMeterModel", "here", "()I"⟩
abbrev cX12_figures : ByteArray := prog_14_method_27_code
def yX12_figures : MethodName := ⟨"StairMeterModel", "figures", "(II)I"⟩
abbrev cX12_behind : ByteArray := prog_14_method_28_code
def yX12_behind : MethodName := ⟨"StairMeterModel", "behind", "(Ljava/lang/String;II)I"⟩
abbrev cX12_maybe : ByteArray := prog_14_method_29_code
def yX12_maybe : MethodName := ⟨"StairMeterModel", "maybe", "(Ljava/lang/String;III)I"⟩
abbrev cX12_lodgerLine : ByteArray := prog_14_method_30_code
def yX12_lodgerLine : MethodName := ⟨"StairMeterModel", "lodgerLine", "(I)V"⟩
abbrev cX12_owesLine : ByteArray := prog_14_method_31_code
def yX12_owesLine : MethodName := ⟨"StairMeterModel", "owesLine", "()V"⟩
abbrev cX12_tells : ByteArray := prog_14_method_32_code
def yX12_tells : MethodName := ⟨"StairMeterModel", "tells", "(III)V"⟩
abbrev cX12_houseLine : ByteArray := prog_14_method_33_code
def yX12_houseLine : MethodName := ⟨"StairMeterModel", "houseLine", "()V"⟩
abbrev cX12_begins : ByteArray := prog_14_method_34_code
def yX12_begins : MethodName := ⟨"StairMeterModel", "begins", "()V"⟩
abbrev cX12_read : ByteArray := prog_14_method_35_code
def yX12_read : MethodName := ⟨"StairMeterModel", "read", "(Z)I"⟩
abbrev cX12_putsAside : ByteArray := prog_14_method_36_code
def yX12_putsAside : MethodName := ⟨"StairMeterModel", "putsAside", "()V"⟩
abbrev cX12_comesBack : ByteArray := prog_14_method_37_code
def yX12_comesBack : MethodName := ⟨"StairMeterModel", "comesBack", "()V"⟩
abbrev cX12_house : ByteArray := prog_14_method_38_code
def yX12_house : MethodName := ⟨"StairMeterModel", "house", "()I"⟩
abbrev cX12_part : ByteArray := prog_14_method_39_code
def yX12_part : MethodName := ⟨"StairMeterModel", "part", "()I"⟩
abbrev cX12_sum : ByteArray := prog_14_method_40_code
def yX12_sum : MethodName := ⟨"StairMeterModel", "sum", "()I"⟩
abbrev cX12_plain : ByteArray := prog_14_method_41_code
def yX12_plain : MethodName := ⟨"StairMeterModel", "plain", "()Z"⟩
abbrev cX12_atom : ByteArray := prog_14_method_42_code
def yX12_atom : MethodName := ⟨"StairMeterModel", "atom", "()Z"⟩
abbrev cX12_every : ByteArray := prog_14_method_43_code
def yX12_every : MethodName := ⟨"StairMeterModel", "every", "()Z"⟩
abbrev cX12_some : ByteArray := prog_14_method_44_code
def yX12_some : MethodName := ⟨"StairMeterModel", "some", "()Z"⟩
abbrev cX12_lawLine : ByteArray := prog_14_method_45_code
def yX12_lawLine : MethodName := ⟨"StairMeterModel", "lawLine", "()V"⟩
abbrev cX12_law : ByteArray := prog_14_method_46_code
def yX12_law : MethodName := ⟨"StairMeterModel", "law", "()I"⟩
abbrev cX12_fault : ByteArray := prog_14_method_47_code
def yX12_fault : MethodName := ⟨"StairMeterModel", "fault", "()I"⟩
abbrev cX12_asks : ByteArray := prog_14_method_48_code
def yX12_asks : MethodName := ⟨"StairMeterModel", "asks", "(I)V"⟩
abbrev cX12_draw : ByteArray := prog_14_method_49_code
def yX12_draw : MethodName := ⟨"StairMeterModel", "draw", "(I)I"⟩
abbrev cX12_logs : ByteArray := prog_14_method_50_code
def yX12_logs : MethodName := ⟨"StairMeterModel", "logs", "(II)V"⟩
abbrev cX12_feeds : ByteArray := prog_14_method_51_code
def yX12_feeds : MethodName := ⟨"StairMeterModel", "feeds", "(I)V"⟩
abbrev cX12_isLit : ByteArray := prog_14_method_52_code
def yX12_isLit : MethodName := ⟨"StairMeterModel", "isLit", "(I)V"⟩
abbrev cX12_isDark : ByteArray := prog_14_method_53_code
def yX12_isDark : MethodName := ⟨"StairMeterModel", "isDark", "(I)V"⟩
abbrev cX12_whoFeeds : ByteArray := prog_14_method_54_code
def yX12_whoFeeds : MethodName := ⟨"StairMeterModel", "whoFeeds", "(I)I"⟩
abbrev cX12_passes : ByteArray := prog_14_method_55_code
def yX12_passes : MethodName := ⟨"StairMeterModel", "passes", "(Z)Z"⟩
abbrev cX12_goes : ByteArray := prog_14_method_56_code
def yX12_goes : MethodName := ⟨"StairMeterModel", "goes", "(IZ)I"⟩
abbrev cX12_fedOf : ByteArray := prog_14_method_57_code
def yX12_fedOf : MethodName := ⟨"StairMeterModel", "fedOf", "(I)I"⟩
abbrev cX12_coldOfAll : ByteArray := prog_14_method_58_code
def yX12_coldOfAll : MethodName := ⟨"StairMeterModel", "coldOfAll", "()I"⟩
abbrev cX12_metered : ByteArray := prog_14_method_59_code
def yX12_metered : MethodName := ⟨"StairMeterModel", "metered", "(I)I"⟩
abbrev cX12_lodger : ByteArray := prog_14_method_60_code
def yX12_lodger : MethodName := ⟨"StairMeterModel", "lodger", "(II)I"⟩
abbrev cX12_areTwo : ByteArray := prog_14_method_61_code
def yX12_areTwo : MethodName := ⟨"StairMeterModel", "areTwo", "(II)V"⟩
abbrev cX12_owes : ByteArray := prog_14_method_62_code
def yX12_owes : MethodName := ⟨"StairMeterModel", "owes", "(II)I"⟩
abbrev cX12_isHome : ByteArray := prog_14_method_63_code
def yX12_isHome : MethodName := ⟨"StairMeterModel", "isHome", "(II)Z"⟩
abbrev cX12_needs : ByteArray := prog_14_method_64_code
def yX12_needs : MethodName := ⟨"StairMeterModel", "needs", "(I)I"⟩
abbrev cX12_remembers : ByteArray := prog_14_method_65_code
def yX12_remembers : MethodName := ⟨"StairMeterModel", "remembers", "()V"⟩
abbrev cX12_sets : ByteArray := prog_14_method_66_code
def yX12_sets : MethodName := ⟨"StairMeterModel", "sets", "(II)I"⟩
abbrev cX12_ticks : ByteArray := prog_14_method_67_code
def yX12_ticks : MethodName := ⟨"StairMeterModel", "ticks", "(I)I"⟩
abbrev cX12_put : ByteArray := prog_14_method_68_code
def yX12_put : MethodName := ⟨"StairMeterModel", "put", "(I)I"⟩
abbrev cX12_lend : ByteArray := prog_14_method_69_code
def yX12_lend : MethodName := ⟨"StairMeterModel", "lend", "(II)I"⟩
abbrev cX12_repay : ByteArray := prog_14_method_70_code
def yX12_repay : MethodName := ⟨"StairMeterModel", "repay", "(II)I"⟩
abbrev cX12_waits : ByteArray := prog_14_method_71_code
def yX12_waits : MethodName := ⟨"StairMeterModel", "waits", "(II)I"⟩
abbrev cX12_price : ByteArray := prog_14_method_72_code
def yX12_price : MethodName := ⟨"StairMeterModel", "price", "(I)I"⟩
abbrev cX12_rooms : ByteArray := prog_14_method_73_code
def yX12_rooms : MethodName := ⟨"StairMeterModel", "rooms", "(II)V"⟩
abbrev cX12_change : ByteArray := prog_14_method_74_code
def yX12_change : MethodName := ⟨"StairMeterModel", "change", "(II)I"⟩
abbrev cX12_home : ByteArray := prog_14_method_75_code
def yX12_home : MethodName := ⟨"StairMeterModel", "home", "(III)I"⟩
abbrev cX12_empty : ByteArray := prog_14_method_76_code
def yX12_empty : MethodName := ⟨"StairMeterModel", "empty", "()I"⟩
abbrev cX12_inside : ByteArray := prog_14_method_77_code
def yX12_inside : MethodName := ⟨"StairMeterModel", "inside", "()I"⟩
abbrev cX12_firstDark : ByteArray := prog_14_method_78_code
def yX12_firstDark : MethodName := ⟨"StairMeterModel", "firstDark", "()I"⟩
abbrev cX12_lasts : ByteArray := prog_14_method_79_code
def yX12_lasts : MethodName := ⟨"StairMeterModel", "lasts", "()I"⟩
abbrev cX12_out : ByteArray := prog_14_method_80_code
def yX12_out : MethodName := ⟨"StairMeterModel", "out", "()I"⟩
abbrev cX12_feeder : ByteArray := prog_14_method_81_code
def yX12_feeder : MethodName := ⟨"StairMeterModel", "feeder", "()I"⟩
abbrev cX12_keepsColds : ByteArray := prog_14_method_82_code
def yX12_keepsColds : MethodName := ⟨"StairMeterModel", "keepsColds", "()V"⟩
abbrev cX12_colder : ByteArray := prog_14_method_83_code
def yX12_colder : MethodName := ⟨"StairMeterModel", "colder", "()I"⟩
abbrev cX12_shiver : ByteArray := prog_14_method_84_code
def yX12_shiver : MethodName := ⟨"StairMeterModel", "shiver", "()I"⟩
abbrev cX12_after : ByteArray := prog_14_method_85_code
def yX12_after : MethodName := ⟨"StairMeterModel", "after", "(III)I"⟩
abbrev cX12_coins : ByteArray := prog_14_method_86_code
def yX12_coins : MethodName := ⟨"StairMeterModel", "coins", "(I)I"⟩
abbrev cX12_ease : ByteArray := prog_14_method_87_code
def yX12_ease : MethodName := ⟨"StairMeterModel", "ease", "(I)I"⟩
abbrev cX12_grieves : ByteArray := prog_14_method_88_code
def yX12_grieves : MethodName := ⟨"StairMeterModel", "grieves", "()V"⟩
abbrev cX12_griefOf : ByteArray := prog_14_method_89_code
def yX12_griefOf : MethodName := ⟨"StairMeterModel", "griefOf", "(II)I"⟩
abbrev cX12_bestOf : ByteArray := prog_14_method_90_code
def yX12_bestOf : MethodName := ⟨"StairMeterModel", "bestOf", "(I)I"⟩
abbrev cX12_grief : ByteArray := prog_14_method_91_code
def yX12_grief : MethodName := ⟨"StairMeterModel", "grief", "(II)I"⟩
abbrev cX12_restless : ByteArray := prog_14_method_92_code
def yX12_restless : MethodName := ⟨"StairMeterModel", "restless", "()I"⟩
abbrev cX12_saint : ByteArray := prog_14_method_93_code
def yX12_saint : MethodName := ⟨"StairMeterModel", "saint", "(IZ)I"⟩
abbrev cX12_fair : ByteArray := prog_14_method_94_code
def yX12_fair : MethodName := ⟨"StairMeterModel", "fair", "(II)I"⟩
abbrev cX12_topsOf : ByteArray := prog_14_method_95_code
def yX12_topsOf : MethodName := ⟨"StairMeterModel", "topsOf", "(I)I"⟩
abbrev cX12_tops : ByteArray := prog_14_method_96_code
def yX12_tops : MethodName := ⟨"StairMeterModel", "tops", "(I)I"⟩
abbrev cX12_stand : ByteArray := prog_14_method_97_code
def yX12_stand : MethodName := ⟨"StairMeterModel", "stand", "(I)I"⟩
abbrev cX12_byPrice : ByteArray := prog_14_method_98_code
def yX12_byPrice : MethodName := ⟨"StairMeterModel", "byPrice", "(IZ)I"⟩
abbrev cX12_dear : ByteArray := prog_14_method_99_code
def yX12_dear : MethodName := ⟨"StairMeterModel", "dear", "(Z)I"⟩
abbrev cX12_earns : ByteArray := prog_14_method_100_code
def yX12_earns : MethodName := ⟨"StairMeterModel", "earns", "(I)I"⟩
abbrev cX12_areRows : ByteArray := prog_14_method_101_code
def yX12_areRows : MethodName := ⟨"StairMeterModel", "areRows", "(II)Z"⟩
abbrev cX12_heard : ByteArray := prog_14_method_102_code
def yX12_heard : MethodName := ⟨"StairMeterModel", "heard", "()I"⟩
abbrev cX12_culprit : ByteArray := prog_14_method_103_code
def yX12_culprit : MethodName := ⟨"StairMeterModel", "culprit", "(Z)I"⟩
abbrev cX12_ask : ByteArray := prog_14_method_104_code
def yX12_ask : MethodName := ⟨"StairMeterModel", "ask", "()I"⟩
abbrev cX12_drawn : ByteArray := prog_14_method_105_code
def yX12_drawn : MethodName := ⟨"StairMeterModel", "drawn", "(I)I"⟩
abbrev cX12_warmer : ByteArray := prog_14_method_106_code
def yX12_warmer : MethodName := ⟨"StairMeterModel", "warmer", "(II)Z"⟩
abbrev cX12_together : ByteArray := prog_14_method_107_code
def yX12_together : MethodName := ⟨"StairMeterModel", "together", "(II)I"⟩
abbrev cX12_lowest : ByteArray := prog_14_method_108_code
def yX12_lowest : MethodName := ⟨"StairMeterModel", "lowest", "(I)I"⟩
abbrev cX12_allBest : ByteArray := prog_14_method_109_code
def yX12_allBest : MethodName := ⟨"StairMeterModel", "allBest", "()V"⟩
abbrev cX12_pairs : ByteArray := prog_14_method_110_code
def yX12_pairs : MethodName := ⟨"StairMeterModel", "pairs", "(I)I"⟩
abbrev cX12_keepers : ByteArray := prog_14_method_111_code
def yX12_keepers : MethodName := ⟨"StairMeterModel", "keepers", "()I"⟩
abbrev cX12_carries : ByteArray := prog_14_method_112_code
def yX12_carries : MethodName := ⟨"StairMeterModel", "carries", "(I)Z"⟩
abbrev cX12_kettle : ByteArray := prog_14_method_113_code
def yX12_kettle : MethodName := ⟨"StairMeterModel", "kettle", "(I)Z"⟩
abbrev cX12_swingsBy : ByteArray := prog_14_method_114_code
def yX12_swingsBy : MethodName := ⟨"StairMeterModel", "swingsBy", "(II)Z"⟩
abbrev cX12_swingsOf : ByteArray := prog_14_method_115_code
def yX12_swingsOf : MethodName := ⟨"StairMeterModel", "swingsOf", "(I)I"⟩
abbrev cX12_swings : ByteArray := prog_14_method_116_code
def yX12_swings : MethodName := ⟨"StairMeterModel", "swings", "(I)I"⟩
abbrev cX12_isLeast : ByteArray := prog_14_method_117_code
def yX12_isLeast : MethodName := ⟨"StairMeterModel", "isLeast", "(I)Z"⟩
abbrev cX12_minimal : ByteArray := prog_14_method_118_code
def yX12_minimal : MethodName := ⟨"StairMeterModel", "minimal", "()I"⟩
abbrev cX12_dummies : ByteArray := prog_14_method_119_code
def yX12_dummies : MethodName := ⟨"StairMeterModel", "dummies", "()I"⟩
abbrev cX12_net : ByteArray := prog_14_method_120_code
def yX12_net : MethodName := ⟨"StairMeterModel", "net", "(II)I"⟩
abbrev cX12_owesOf : ByteArray := prog_14_method_121_code
def yX12_owesOf : MethodName := ⟨"StairMeterModel", "owesOf", "(I)I"⟩
abbrev cX12_debt : ByteArray := prog_14_method_122_code
def yX12_debt : MethodName := ⟨"StairMeterModel", "debt", "()I"⟩
abbrev cX12_ring : ByteArray := prog_14_method_123_code
def yX12_ring : MethodName := ⟨"StairMeterModel", "ring", "(I)Z"⟩
abbrev cX12_poorest : ByteArray := prog_14_method_124_code
def yX12_poorest : MethodName := ⟨"StairMeterModel", "poorest", "()I"⟩
abbrev cX12_hasBy : ByteArray := prog_14_method_125_code
def yX12_hasBy : MethodName := ⟨"StairMeterModel", "hasBy", "(III)I"⟩
abbrev cX12_rests : ByteArray := prog_14_method_126_code
def yX12_rests : MethodName := ⟨"StairMeterModel", "rests", "(II)I"⟩
abbrev cX12_odds : ByteArray := prog_14_method_127_code
def yX12_odds : MethodName := ⟨"StairMeterModel", "odds", "(II)I"⟩
abbrev cX12_busy : ByteArray := prog_14_method_128_code
def yX12_busy : MethodName := ⟨"StairMeterModel", "busy", "()I"⟩
abbrev cX12_alone : ByteArray := prog_14_method_129_code
def yX12_alone : MethodName := ⟨"StairMeterModel", "alone", "()I"⟩
abbrev cX12_miser : ByteArray := prog_14_method_130_code
def yX12_miser : MethodName := ⟨"StairMeterModel", "miser", "()I"⟩
abbrev cX12_alike : ByteArray := prog_14_method_131_code
def yX12_alike : MethodName := ⟨"StairMeterModel", "alike", "()I"⟩
abbrev cX12_trial : ByteArray := prog_14_method_132_code
def yX12_trial : MethodName := ⟨"StairMeterModel", "trial", "(IZ)I"⟩
abbrev cX12_span : ByteArray := prog_14_method_133_code
def yX12_span : MethodName := ⟨"StairMeterModel", "span", "(IZ)I"⟩
abbrev cX12_logged : ByteArray := prog_14_method_134_code
def yX12_logged : MethodName := ⟨"StairMeterModel", "logged", "(II)I"⟩
abbrev cX12_led : ByteArray := prog_14_method_135_code
def yX12_led : MethodName := ⟨"StairMeterModel", "led", "(IZ)I"⟩
abbrev cX12_log : ByteArray := prog_14_method_136_code
def yX12_log : MethodName := ⟨"StairMeterModel", "log", "(II)I"⟩
abbrev cX12_seed : ByteArray := prog_14_method_137_code
def yX12_seed : MethodName := ⟨"StairMeterModel", "seed", "(I)I"⟩
abbrev cX12_undo : ByteArray := prog_14_method_138_code
def yX12_undo : MethodName := ⟨"StairMeterModel", "undo", "()Z"⟩
abbrev cX12_image : ByteArray := prog_14_method_139_code
def yX12_image : MethodName := ⟨"StairMeterModel", "image", "()V"⟩
abbrev cX12_back : ByteArray := prog_14_method_140_code
def yX12_back : MethodName := ⟨"StairMeterModel", "back", "()Z"⟩
abbrev cX12_count : ByteArray := prog_14_method_141_code
def yX12_count : MethodName := ⟨"StairMeterModel", "count", "(I)I"⟩
abbrev cL_house : ByteArray := method_3_code
def yL_house : MethodName := ⟨"StairMeterLaw", "house", "(LStairMeter;[J)I"⟩
abbrev cL_law : ByteArray := method_4_code
def yL_law : MethodName := ⟨"StairMeterLaw", "law", "(LStairMeter;[J)I"⟩
abbrev cL_lodger : ByteArray := method_5_code
def yL_lodger : MethodName := ⟨"StairMeterLaw", "lodger", "(LStairMeter;II[J)I"⟩
abbrev cL_owes : ByteArray := method_6_code
def yL_owes : MethodName := ⟨"StairMeterLaw", "owes", "(LStairMeter;II[J)I"⟩
abbrev cL_isHome : ByteArray := method_7_code
def yL_isHome : MethodName := ⟨"StairMeterLaw", "isHome", "(LStairMeter;II[J)I"⟩
abbrev cL_needs : ByteArray := method_8_code
def yL_needs : MethodName := ⟨"StairMeterLaw", "needs", "(LStairMeter;I[J)I"⟩
abbrev cL_ticks : ByteArray := method_9_code
def yL_ticks : MethodName := ⟨"StairMeterLaw", "ticks", "(LStairMeter;I[J)I"⟩
abbrev cL_put : ByteArray := method_10_code
def yL_put : MethodName := ⟨"StairMeterLaw", "put", "(LStairMeter;I[J)I"⟩
abbrev cL_lend : ByteArray := method_11_code
def yL_lend : MethodName := ⟨"StairMeterLaw", "lend", "(LStairMeter;II[J)I"⟩
abbrev cL_repay : ByteArray := method_12_code
def yL_repay : MethodName := ⟨"StairMeterLaw", "repay", "(LStairMeter;II[J)I"⟩
abbrev cL_waits : ByteArray := method_13_code
def yL_waits : MethodName := ⟨"StairMeterLaw", "waits", "(LStairMeter;II[J)I"⟩
abbrev cL_price : ByteArray := method_14_code
def yL_price : MethodName := ⟨"StairMeterLaw", "price", "(LStairMeter;I[J)I"⟩
abbrev cL_change : ByteArray := method_15_code
def yL_change : MethodName := ⟨"StairMeterLaw", "change", "(LStairMeter;II[J)I"⟩
abbrev cL_home : ByteArray := method_16_code
def yL_home : MethodName := ⟨"StairMeterLaw", "home", "(LStairMeter;III[J)I"⟩
abbrev cL_after : ByteArray := method_17_code
def yL_after : MethodName := ⟨"StairMeterLaw", "after", "(LStairMeter;III[J)I"⟩
abbrev cL_coins : ByteArray := method_18_code
def yL_coins : MethodName := ⟨"StairMeterLaw", "coins", "(LStairMeter;I[J)I"⟩
abbrev cL_ease : ByteArray := method_19_code
def yL_ease : MethodName := ⟨"StairMeterLaw", "ease", "(LStairMeter;I[J)I"⟩
abbrev cL_grief : ByteArray := method_20_code
def yL_grief : MethodName := ⟨"StairMeterLaw", "grief", "(LStairMeter;II[J)I"⟩
abbrev cL_saint : ByteArray := method_21_code
def yL_saint : MethodName := ⟨"StairMeterLaw", "saint", "(LStairMeter;IZ[J)I"⟩
abbrev cL_fair : ByteArray := method_22_code
def yL_fair : MethodName := ⟨"StairMeterLaw", "fair", "(LStairMeter;II[J)I"⟩
abbrev cL_stand : ByteArray := method_23_code
def yL_stand : MethodName := ⟨"StairMeterLaw", "stand", "(LStairMeter;I[J)I"⟩
abbrev cL_earns : ByteArray := method_24_code
def yL_earns : MethodName := ⟨"StairMeterLaw", "earns", "(LStairMeter;I[J)I"⟩
abbrev cL_culprit : ByteArray := method_25_code
def yL_culprit : MethodName := ⟨"StairMeterLaw", "culprit", "(LStairMeter;Z[J)I"⟩
abbrev cL_ask : ByteArray := method_26_code
def yL_ask : MethodName := ⟨"StairMeterLaw", "ask", "(LStairMeter;[J)I"⟩
abbrev cL_drawn : ByteArray := method_27_code
def yL_drawn : MethodName := ⟨"StairMeterLaw", "drawn", "(LStairMeter;I[J)I"⟩
abbrev cL_warmer : ByteArray := method_28_code
def yL_warmer : MethodName := ⟨"StairMeterLaw", "warmer", "(LStairMeter;II[J)I"⟩
abbrev cL_pairs : ByteArray := method_29_code
def yL_pairs : MethodName := ⟨"StairMeterLaw", "pairs", "(LStairMeter;I[J)I"⟩
abbrev cL_swings : ByteArray := method_30_code
def yL_swings : MethodName := ⟨"StairMeterLaw", "swings", "(LStairMeter;I[J)I"⟩
abbrev cL_net : ByteArray := method_31_code
def yL_net : MethodName := ⟨"StairMeterLaw", "net", "(LStairMeter;II[J)I"⟩
abbrev cL_ring : ByteArray := method_32_code
def yL_ring : MethodName := ⟨"StairMeterLaw", "ring", "(LStairMeter;I[J)I"⟩
abbrev cL_rests : ByteArray := method_33_code
def yL_rests : MethodName := ⟨"StairMeterLaw", "rests", "(LStairMeter;II[J)I"⟩
abbrev cL_odds : ByteArray := method_34_code
def yL_odds : MethodName := ⟨"StairMeterLaw", "odds", "(LStairMeter;II[J)I"⟩
abbrev cL_trial : ByteArray := method_35_code
def yL_trial : MethodName := ⟨"StairMeterLaw", "trial", "(LStairMeter;IZ[J)I"⟩
abbrev cL_span : ByteArray := method_36_code
def yL_span : MethodName := ⟨"StairMeterLaw", "span", "(LStairMeter;IZ[J)I"⟩
abbrev cL_led : ByteArray := method_37_code
def yL_led : MethodName := ⟨"StairMeterLaw", "led", "(LStairMeter;IZ[J)I"⟩
abbrev cL_log : ByteArray := method_38_code
def yL_log : MethodName := ⟨"StairMeterLaw", "log", "(LStairMeter;II[J)I"⟩
abbrev cL_law_ : ByteArray := code
def yL_law_ : MethodName := ⟨"StairMeterLaw", "law", "([I)Z"⟩
abbrev cJ6_bitCount_0f7a4 : ByteArray := prog_22_method_49_code
def yJ6_bitCount_0f7a4 : MethodName := ⟨"java/lang/Integer", "bitCount", "(I)I"⟩
abbrev cJ9_floorMod_7cf53 : ByteArray := prog_23_method_50_code
def yJ9_floorMod_7cf53 : MethodName := ⟨"java/lang/Math", "floorMod", "(II)I"⟩
abbrev cJ9_max_7cf53 : ByteArray := prog_23_method_65_code
def yJ9_max_7cf53 : MethodName := ⟨"java/lang/Math", "max", "(II)I"⟩
abbrev cJ9_min_7cf53 : ByteArray := prog_23_method_69_code
def yJ9_min_7cf53 : MethodName := ⟨"java/lang/Math", "min", "(II)I"⟩
def zcl : List vw_C := [(RX0, TX0, 3), (RX1, TX1, 3), (RX2, TX2, 14), (RX3, TX3, 2), (RX4, TX4, 7), (RX5, TX5, 2), (RX7, TX7, 4), (RX8, TX8, 3), (RX9, TX9, 5), (RX10, TX10, 8), (RX11, TX11, 18), (RX12, TX12, 26)]
def zK : xe_K := [(3, dvX0), (3, dvX1), (14, dvX2), (2, dvX3), (7, dvX4), (2, dvX5), (4, dvX7), (3, dvX8), (5, dvX9), (8, dvX10), (18, dvX11), (26, dvX12)]
def zEX : List (Nat × String) := [(20, "java/lang/IllegalArgumentException"), (21, "java/lang/UnsupportedOperationException"), (22, "java/lang/IndexOutOfBoundsException"), (23, "java/util/NoSuchElementException"), (24, "java/lang/IllegalStateException")]
def zSTR : List (String × Nat × String × Nat) := [("StairMeter$Tape", 61, "lodger burns home to coins bears waits owes gas price frost tick night turn spare refuse if or and not last cold fed chill dark ", 1500000), ("StairMeterModel", 230, "turn", 1500001), ("StairMeterModel", 232, "spare", 1500002), ("StairMeterModel", 234, "refuse", 1500003), ("StairMeterModel", 236, "if", 1500004), ("StairMeterModel", 211, "not", 1500005), ("StairMeterModel", 197, "last", 1500006), ("StairMeterModel", 203, "cold", 1500007), ("StairMeterModel", 136, "lodger", 1500008), ("StairMeterModel", 112, "burns", 1500009), ("StairMeterModel", 122, "coins", 1500010), ("StairMeterModel", 188, "fed", 1500011), ("StairMeterModel", 190, "chill", 1500012), ("StairMeterModel", 192, "dark", 1500013), ("StairMeterModel", 155, "tick", 1500014), ("StairMeterModel", 223, "and", 1500015), ("StairMeterModel", 228, "or", 1500016), ("StairMeterModel", 118, "home", 1500017), ("StairMeterModel", 120, "to", 1500018), ("StairMeterModel", 124, "bears", 1500019), ("StairMeterModel", 130, "waits", 1500020), ("StairMeterModel", 141, "owes", 1500021), ("StairMeterModel", 146, "gas", 1500022), ("StairMeterModel", 151, "price", 1500023), ("StairMeterModel", 153, "frost", 1500024), ("StairMeterModel", 157, "night", 1500025)]
