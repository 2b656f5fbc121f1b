/-! ===== A SMALL MACHINE OF OUR OWN: it runs the decoded instructions of a method over a heap of our own words. It answers nothing where it doesn't know. ===== -/
/-- a cell: its tag (below 1000: an object of that class number; from 1000 on: an array), its length (fields or places), what they hold -/
abbrev xe_O : Type := Nat × Nat × (Nat → Value)
/-- a heap: the next address, how many slots were made, the cells -/
abbrev xe_H : Type := Nat × Nat × (Nat → Option xe_O)
/-- an end: an answer, or the number of the class of what was thrown -/
abbrev xe_R : Type := (Option Value) ⊕ Nat
/-- a frame: pc, locals, stack, heap; or an end with a heap -/
abbrev xe_N : Type := (Nat × List Value × List Value × xe_H) ⊕ (xe_R × xe_H)
/-- what a pool entry links: its kind and numbers -/
abbrev xe_L : Type := Nat × Nat × Nat × Int
/-- a row of code: pc, instruction, length, which locals are kept there (none told: all) -/
abbrev xe_I : Type := Nat × Instr × Nat × List Bool
/-- a method: its code, its links, how many locals, what it answers (0 an int, 1 a boolean, 2 a char, 3 nothing, 4 a reference; 103: a constructor), its handlers -/
abbrev xe_M : Type := List xe_I × List (Nat × xe_L) × Nat × Nat × List (Nat × Nat × Nat × Nat)
abbrev xe_code (q : xe_M) : List xe_I := q.1
abbrev xe_link (q : xe_M) : List (Nat × xe_L) := q.2.1
abbrev xe_max (q : xe_M) : Nat := q.2.2.1
abbrev xe_rk (q : xe_M) : Nat := q.2.2.2.1
abbrev xe_hand (q : xe_M) : List (Nat × Nat × Nat × Nat) := q.2.2.2.2
/-- the row at a pc -/
def xe_at : List xe_I → Nat → Option (Instr × Nat × List Bool)
  | [], _ => none
  | r :: l, pc => if Nat.beq r.1 pc then some r.2 else xe_at l pc
def xe_lk : List (Nat × xe_L) → Nat → xe_L
  | [], _ => (999, 0, 0, 0)
  | r :: l, i => if Nat.beq r.1 i then r.2 else xe_lk l i
/-- nothing known of a local -/
abbrev xe_no : Value := .retAddr 0
def xe_keep : List Bool → List Value → List Value
  | true :: b, v :: l => v :: xe_keep b l
  | false :: b, _ :: l => xe_no :: xe_keep b l
  | _, l => l
def xe_kill (ls : List Value) (i : Nat) : List Value := match i with
  | 0 => ls
  | j + 1 => match ls[j]? with
    | some (.long _) => ls.set j xe_no
    | _ => ls
def xe_set1 (ls : List Value) (i : Nat) (v : Value) : List Value := (xe_kill ls i).set i v
def xe_set2 (ls : List Value) (i : Nat) (v : Value) : List Value := ((xe_kill ls i).set i v).set (i + 1) xe_no
/-- the locals at a method's entry -/
def xe_ent : Nat → List Value → List Value
  | n, [] => List.replicate n xe_no
  | n, .long x :: l => .long x :: xe_no :: xe_ent (n - 2) l
  | n, v :: l => v :: xe_ent (n - 1) l
def xe_jump (pc : Nat) (off : Int) (ls st : List Value) (h : xe_H) : Option xe_N :=
  if 0 ≤ (pc : Int) + off then some (.inl (((pc : Int) + off).toNat, ls, st, h)) else none
def xe_put (h : xe_H) (a : Nat) (o : xe_O) : xe_H := (h.1, h.2.1, fun b => if b = a then some o else h.2.2 b)
def xe_new (h : xe_H) (o : xe_O) : xe_H := (h.1 + 1, h.2.1 + o.2.1, fun b => if b = h.1 then some o else h.2.2 b)
def xe_upd (f : Nat → Value) (k : Nat) (v : Value) : Nat → Value := fun j => if j = k then v else f j
/-- a value that is known -/
def xs_kn : Value → Bool
  | .int _ => true
  | .long _ => true
  | .null => true
  | .ref _ => true
  | _ => false
/-- room for a cell of so many slots -/
def xe_fits (h : xe_H) (n : Nat) : Bool := Nat.ble (h.1 + 1) 600000 && Nat.ble (h.2.1 + n) 7300000
def xe_cat (l : List Value) : Nat := (l.map fun v => v.category).sum
/-- what may be put into a field or an array of a kind: 0 an int, 1 a long, 2 a boolean, 4 a reference or null -/
def xe_fit (k : Nat) (v : Value) : Bool := match v with
  | .int x => k == 0 || (k == 2 && (x == 0 || x == 1))
  | .long _ => k == 1
  | .null => k == 4
  | .ref _ => k == 4
  | _ => false
def xe_in (i : Int32) (n : Nat) : Bool := decide (0 ≤ i) && decide (i.toNatClampNeg < n)
def xe_ld (h : xe_H) (pc : Nat) (ls st : List Value) (tag tag2 : Nat) : Option xe_N := match st with
  | .int i :: .ref a :: rest => match h.2.2 a with
    | some o => if (o.1 == tag || o.1 == tag2) && (xe_in i o.2.1 && Nat.blt a 1500000) then some (.inl (pc + 1, ls, o.2.2 i.toNatClampNeg :: rest, h)) else none
    | none => none
  | _ => none
def xe_sto (h : xe_H) (pc : Nat) (ls st : List Value) (tag kind : Nat) : Option xe_N := match st with
  | v :: .int i :: .ref a :: rest => match h.2.2 a with
    | some o => if o.1 == tag && (xe_in i o.2.1 && (xe_fit kind v && decide (a < 1000000))) then some (.inl (pc + 1, ls, rest, xe_put h a (o.1, o.2.1, xe_upd o.2.2 i.toNatClampNeg v))) else none
    | none => none
  | _ => none
/-- the handler of a throw at a pc -/
def xe_find : List (Nat × Nat × Nat × Nat) → Nat → Nat → Option Nat
  | [], _, _ => none
  | r :: l, pc, c => if decide (r.1 ≤ pc) && (decide (pc < r.2.1) && Nat.beq r.2.2.2 c) then some r.2.2.1 else xe_find l pc c
/-- behind a call -/
def xe_back (q : xe_M) (pc : Nat) (ls rest : List Value) (r : Option (xe_R × xe_H)) : Option xe_N := match r with
  | some (.inl v, h) => some (.inl (pc + 3, ls, v.toList ++ rest, h))
  | some (.inr c, h) => match xe_find (xe_hand q) pc c with
    | some p => some (.inl (p, ls, [.ref (h.1 - 1)], h))
    | none => match xe_hand q with
      | [] => some (.inr (.inr c, h))
      | _ => none
  | none => none
def xe_pop : Nat → List Value → List Value → Option (List Value × List Value)
  | 0, acc, st => some (acc, st)
  | n + 1, acc, v :: st => xe_pop n (v :: acc) st
  | _ + 1, _, [] => none
/-- the receiver is there, and of that class -/
def xe_recv (h : xe_H) (as : List Value) (ci : Nat) : Bool := match as with
  | .ref a :: _ => match h.2.2 a with
    | some o => Nat.beq o.1 ci && Nat.blt a 1500000
    | none => false
  | _ => false
def xe_cmp (c : ClassFile.Cond) (x y : Int32) : Bool := match c with
  | .eq => decide (x = y)
  | .ne => decide (¬ x = y)
  | .lt => decide (x < y)
  | .ge => decide (y ≤ x)
  | .gt => decide (y < x)
  | .le => decide (x ≤ y)
/-- the class numbers' fields: how many, what they hold at first -/
abbrev xe_K : Type := List (Nat × List Value)
def xe_getf (q : xe_M) (pc idx : Nat) (ls st : List Value) (h : xe_H) : Option xe_N := match st with
  | .ref a :: rest => match h.2.2 a with
    | some o => match xe_lk (xe_link q) idx with
      | (1, ci, k, _) => if Nat.beq o.1 ci && (Nat.blt k o.2.1 && Nat.blt a 1500000) then some (.inl (pc + 3, ls, o.2.2 k :: rest, h)) else none
      | (2, ci, k, c) => if (Nat.beq o.1 ci || Nat.beq o.1 c.toNat) && (Nat.blt k o.2.1 && Nat.blt a 1500000) then some (.inl (pc + 3, ls, o.2.2 k :: rest, h)) else none
      | _ => none
    | none => none
  | _ => none
def xe_putf (q : xe_M) (pc idx : Nat) (ls st : List Value) (h : xe_H) : Option xe_N := match st with
  | v :: .ref a :: rest => match h.2.2 a with
    | some o => match xe_lk (xe_link q) idx with
      | (1, ci, k, c) => if Nat.beq o.1 ci && (Nat.blt k o.2.1 && (xe_fit (c.toNat / 10) v && (decide (a < 1000000) && (Nat.blt (c.toNat % 10) 2 || (Nat.beq (c.toNat % 10) 2 && Nat.beq (xe_rk q) 103))))) then some (.inl (pc + 3, ls, rest, xe_put h a (o.1, o.2.1, xe_upd o.2.2 k v))) else none
      | (2, ci, k, c) => if (Nat.beq o.1 ci || Nat.beq o.1 c.toNat) && (Nat.blt k o.2.1 && (xe_fit 4 v && (decide (a < 1000000) && Nat.beq (xe_rk q) 103))) then some (.inl (pc + 3, ls, rest, xe_put h a (o.1, o.2.1, xe_upd o.2.2 k v))) else none
      | _ => none
    | none => none
  | _ => none
def xe_copy (pc : Nat) (ls st : List Value) (h : xe_H) : Option xe_N := match st with
  | .int n :: .int dp :: .ref a :: .int sp :: .ref b :: rest => match h.2.2 b, h.2.2 a with
    | some o, some o2 => if o.1 == 1000 && (o2.1 == 1000 && (decide (0 ≤ n) && (decide (0 ≤ dp) && (decide (0 ≤ sp) && (decide (sp.toNatClampNeg + n.toNatClampNeg ≤ o.2.1) && (decide (dp.toNatClampNeg + n.toNatClampNeg ≤ o2.2.1) && (decide (a < 1000000 ∧ b < 1000000) && (decide (xe_cat rest ≤ 8) && (List.range n.toNatClampNeg).all (fun i => xe_fit 0 (o.2.2 (sp.toNatClampNeg + i)))))))))))
        then some (.inl (pc + 3, ls, rest, xe_put h a (o2.1, o2.2.1, va_cpy o.2.2 o2.2.2 sp.toNatClampNeg dp.toNatClampNeg n.toNatClampNeg))) else none
    | _, _ => none
  | _ => none
/-- a call that the link tells: the callee, its arguments -/
def xe_call (q : xe_M) (call : Nat → List Value → xe_H → Option (xe_R × xe_H)) (kd : Nat) (pc idx : Nat) (ls st : List Value) (h : xe_H) : Option xe_N := match xe_lk (xe_link q) idx with
  | (3, y, n, _) => match xe_pop n [] st with
    | some (as, rest) => if kd == 0 && decide (xe_cat rest ≤ 8) then xe_back q pc ls rest (call y as h) else none
    | none => none
  | (4, y, n, c) => match xe_pop (n + 1) [] st with
    | some (as, rest) => if kd == 1 && (decide (xe_cat rest ≤ 8) && xe_recv h as c.toNat) then xe_back q pc ls rest (call y as h) else none
    | none => none
  | (8, y, n, c) => match xe_pop (n + 1) [] st with
    | some (as, rest) => if kd == 1 && (decide (xe_cat rest ≤ 8) && xe_recv h as c.toNat) then xe_back q pc ls rest (call y as h) else none
    | none => none
  | (5, y, y2, c) => match xe_pop 1 [] st with
    | some (as, rest) => if kd == 1 && decide (xe_cat rest ≤ 8) then
        (if xe_recv h as c.toNat then xe_back q pc ls rest (call y as h) else if xe_recv h as (c.toNat + 2) then xe_back q pc ls rest (call y2 as h) else none) else none
    | none => none
  | (6, y, n, _) => match xe_pop (n + 1) [] st with
    | some (.ref a :: as, rest) => if kd == 2 && decide (xe_cat rest ≤ 8) then xe_back q pc ls rest (call y (.ref a :: as) h) else none
    | _ => none
  | (7, _, _, _) => match st with
    | .ref _ :: rest => if kd == 2 && decide (xe_cat rest ≤ 8) then some (.inl (pc + 3, ls, rest, h)) else none
    | _ => none
  | (9, _, _, _) => if kd == 0 then xe_copy pc ls st h else none
  | (17, 0, _, _) => match st with
    | .ref a :: rest => match h.2.2 a with
      | some o => if kd == 1 && (Nat.beq o.1 2000 && (Nat.ble 1500000 a && decide (xe_cat rest ≤ 8))) then some (.inl (pc + 3, ls, .int o.2.1.toInt32 :: rest, h)) else none
      | none => none
    | _ => none
  | (17, 1, _, _) => match st with
    | .int i :: .ref a :: rest => match h.2.2 a with
      | some o => if kd == 1 && (Nat.beq o.1 2000 && (Nat.ble 1500000 a && (xe_in i o.2.1 && decide (xe_cat rest ≤ 8)))) then some (.inl (pc + 3, ls, o.2.2 i.toNatClampNeg :: rest, h)) else none
      | none => none
    | _ => none
  | _ => none
def xe_new1 (q : xe_M) (K : xe_K) (pc idx : Nat) (ls st : List Value) (h : xe_H) : Option xe_N := match xe_lk (xe_link q) idx with
  | (10, c, n, _) => match xe_hand q with
    | [] => if xe_fits h n && decide (xe_cat st ≤ 8) then some (.inr (.inr c, (h.1 + 1, h.2.1 + n, h.2.2))) else none
    | _ => none
  | (11, ci, _, _) => match K[ci]? with
    | some r => if xe_fits h r.1 then some (.inl (pc + 3, ls, .ref h.1 :: st, xe_new h (ci, r.1, fun k => r.2.getD k .null))) else none
    | none => none
  | _ => none
def xe_newa (pc len : Nat) (ls st : List Value) (h : xe_H) (tag : Nat) (v : Value) : Option xe_N := match st with
  | .int n :: rest => if decide (0 ≤ n) && (decide (n.toNatClampNeg ≤ 100000) && xe_fits h n.toNatClampNeg) then some (.inl (pc + len, ls, .ref h.1 :: rest, xe_new h (tag, n.toNatClampNeg, fun _ => v))) else none
  | _ => none
/-- one instruction -/
def xe_step (q : xe_M) (K : xe_K) (call : Nat → List Value → xe_H → Option (xe_R × xe_H)) (pc : Nat) (i : Instr) (ls st : List Value) (h : xe_H) : Option xe_N := match i with
  | .iconst n => some (.inl (pc + 1, ls, .int (Int32.ofInt n) :: st, h))
  | .bipush n => some (.inl (pc + 2, ls, .int (Int8.ofInt n).toInt32 :: st, h))
  | .sipush n => some (.inl (pc + 3, ls, .int (Int16.ofInt n).toInt32 :: st, h))
  | .lconst n => some (.inl (pc + 1, ls, .long (Int64.ofNat (n : Nat)) :: st, h))
  | .aconst_null => some (.inl (pc + 1, ls, .null :: st, h))
  | .iload k => match ls[k]? with
    | some (.int x) => some (.inl (pc + 2, ls, .int x :: st, h))
    | _ => none
  | .iload_n k => match ls[(k : Nat)]? with
    | some (.int x) => some (.inl (pc + 1, ls, .int x :: st, h))
    | _ => none
  | .lload k => match ls[k]? with
    | some (.long x) => some (.inl (pc + 2, ls, .long x :: st, h))
    | _ => none
  | .lload_n k => match ls[(k : Nat)]? with
    | some (.long x) => some (.inl (pc + 1, ls, .long x :: st, h))
    | _ => none
  | .aload k => match ls[k]? with
    | some (.ref x) => some (.inl (pc + 2, ls, .ref x :: st, h))
    | some .null => some (.inl (pc + 2, ls, .null :: st, h))
    | _ => none
  | .aload_n k => match ls[(k : Nat)]? with
    | some (.ref x) => some (.inl (pc + 1, ls, .ref x :: st, h))
    | some .null => some (.inl (pc + 1, ls, .null :: st, h))
    | _ => none
  | .istore k => match st with
    | .int x :: rest => if k < ls.length then some (.inl (pc + 2, xe_set1 ls k (.int x), rest, h)) else none
    | _ => none
  | .istore_n k => match st with
    | .int x :: rest => if (k : Nat) < ls.length then some (.inl (pc + 1, xe_set1 ls k (.int x), rest, h)) else none
    | _ => none
  | .lstore k => match st with
    | .long x :: rest => if k + 1 < ls.length then some (.inl (pc + 2, xe_set2 ls k (.long x), rest, h)) else none
    | _ => none
  | .lstore_n k => match st with
    | .long x :: rest => if (k : Nat) + 1 < ls.length then some (.inl (pc + 1, xe_set2 ls k (.long x), rest, h)) else none
    | _ => none
  | .astore k => match st with
    | .ref x :: rest => if k < ls.length then some (.inl (pc + 2, xe_set1 ls k (.ref x), rest, h)) else none
    | .null :: rest => if k < ls.length then some (.inl (pc + 2, xe_set1 ls k .null, rest, h)) else none
    | _ => none
  | .astore_n k => match st with
    | .ref x :: rest => if (k : Nat) < ls.length then some (.inl (pc + 1, xe_set1 ls k (.ref x), rest, h)) else none
    | .null :: rest => if (k : Nat) < ls.length then some (.inl (pc + 1, xe_set1 ls k .null, rest, h)) else none
    | _ => none
  | .iinc k n => match ls[k]? with
    | some (.int x) => some (.inl (pc + 3, xe_set1 ls k (.int (x + Int32.ofInt n)), st, h))
    | _ => none
  | .iadd => match st with
    | .int y :: .int x :: rest => some (.inl (pc + 1, ls, .int (x + y) :: rest, h))
    | _ => none
  | .isub => match st with
    | .int y :: .int x :: rest => some (.inl (pc + 1, ls, .int (x - y) :: rest, h))
    | _ => none
  | .imul => match st with
    | .int y :: .int x :: rest => some (.inl (pc + 1, ls, .int (x * y) :: rest, h))
    | _ => none
  | .iand => match st with
    | .int y :: .int x :: rest => some (.inl (pc + 1, ls, .int (x &&& y) :: rest, h))
    | _ => none
  | .ior => match st with
    | .int y :: .int x :: rest => some (.inl (pc + 1, ls, .int (x ||| y) :: rest, h))
    | _ => none
  | .ixor => match st with
    | .int y :: .int x :: rest => some (.inl (pc + 1, ls, .int (x ^^^ y) :: rest, h))
    | _ => none
  | .ishl => match st with
    | .int y :: .int x :: rest => some (.inl (pc + 1, ls, .int (x <<< (y &&& 31)) :: rest, h))
    | _ => none
  | .ishr => match st with
    | .int y :: .int x :: rest => some (.inl (pc + 1, ls, .int (x >>> (y &&& 31)) :: rest, h))
    | _ => none
  | .iushr => match st with
    | .int y :: .int x :: rest => some (.inl (pc + 1, ls, .int (x.toUInt32 >>> (y.toUInt32 &&& Int32.toUInt32 31)).toInt32 :: rest, h))
    | _ => none
  | .idiv => match st with
    | .int y :: .int x :: rest => if y = 0 then none else some (.inl (pc + 1, ls, .int (x / y) :: rest, h))
    | _ => none
  | .irem => match st with
    | .int y :: .int x :: rest => if y = 0 then none else some (.inl (pc + 1, ls, .int (x - x / y * y) :: rest, h))
    | _ => none
  | .ineg => match st with
    | .int x :: rest => some (.inl (pc + 1, ls, .int (-x) :: rest, h))
    | _ => none
  | .ladd => match st with
    | .long y :: .long x :: rest => some (.inl (pc + 1, ls, .long (x + y) :: rest, h))
    | _ => none
  | .lmul => match st with
    | .long y :: .long x :: rest => some (.inl (pc + 1, ls, .long (x * y) :: rest, h))
    | _ => none
  | .ldiv => match st with
    | .long y :: .long x :: rest => if y = 0 then none else some (.inl (pc + 1, ls, .long (x / y) :: rest, h))
    | _ => none
  | .lcmp => match st with
    | .long y :: .long x :: rest => some (.inl (pc + 1, ls, .int (lg_cmp x y) :: rest, h))
    | _ => none
  | .i2l => match st with
    | .int x :: rest => some (.inl (pc + 1, ls, .long x.toInt64 :: rest, h))
    | _ => none
  | .l2i => match st with
    | .long x :: rest => some (.inl (pc + 1, ls, .int x.toInt32 :: rest, h))
    | _ => none
  | .i2c => match st with
    | .int x :: rest => some (.inl (pc + 1, ls, .int (x.toUInt32 % 65536).toInt32 :: rest, h))
    | _ => none
  | .dup => match st with
    | v :: rest => if v.category = 1 then some (.inl (pc + 1, ls, v :: v :: rest, h)) else none
    | _ => none
  | .dup2 => match st with
    | v :: w :: rest => if v.category = 1 ∧ w.category = 1 then some (.inl (pc + 1, ls, v :: w :: v :: w :: rest, h)) else none
    | _ => none
  | .pop => match st with
    | v :: rest => if v.category = 1 then some (.inl (pc + 1, ls, rest, h)) else none
    | _ => none
  | .goto off => xe_jump pc off ls st h
  | .ifCond c off => match st with
    | .int x :: rest => if 0 ≤ (pc : Int) + off then (if xe_cmp c x 0 then some (.inl (((pc : Int) + off).toNat, ls, rest, h)) else some (.inl (pc + 3, ls, rest, h))) else none
    | _ => none
  | .if_icmp c off => match st with
    | .int y :: .int x :: rest => if 0 ≤ (pc : Int) + off then (if xe_cmp c x y then some (.inl (((pc : Int) + off).toNat, ls, rest, h)) else some (.inl (pc + 3, ls, rest, h))) else none
    | _ => none
  | .ifnonnull off => match st with
    | .ref _ :: rest => xe_jump pc off ls rest h
    | .null :: rest => some (.inl (pc + 3, ls, rest, h))
    | _ => none
  | .tableswitch dflt lo hi offs => match st with
    | .int x :: rest => if x.toInt < lo ∨ hi < x.toInt then xe_jump pc dflt ls rest h else match offs.toList[(x.toInt - lo).toNat]? with
      | some off => xe_jump pc off ls rest h
      | none => none
    | _ => none
  | .ldc idx => match xe_lk (xe_link q) idx with
    | (13, _, _, c) => some (.inl (pc + 2, ls, .int (Int32.ofInt c) :: st, h))
    | (14, a, _, _) => some (.inl (pc + 2, ls, .ref a :: st, h))
    | _ => none
  | .ldc_w idx => match xe_lk (xe_link q) idx with
    | (13, _, _, c) => some (.inl (pc + 3, ls, .int (Int32.ofInt c) :: st, h))
    | _ => none
  | .ldc2_w idx => match xe_lk (xe_link q) idx with
    | (15, _, _, c) => some (.inl (pc + 3, ls, .long (Int64.ofInt c) :: st, h))
    | _ => none
  | .getfield idx => xe_getf q pc idx ls st h
  | .putfield idx => xe_putf q pc idx ls st h
  | .arraylength => match st with
    | .ref a :: rest => match h.2.2 a with
      | some o => if (o.1 == 1000 || o.1 == 1500) && Nat.blt a 1500000 then some (.inl (pc + 1, ls, .int o.2.1.toInt32 :: rest, h)) else none
      | none => none
    | _ => none
  | .iaload => xe_ld h pc ls st 1000 1500
  | .laload => xe_ld h pc ls st 1001 1001
  | .baload => xe_ld h pc ls st 1002 1002
  | .aaload => xe_ld h pc ls st 1004 1004
  | .iastore => xe_sto h pc ls st 1000 0
  | .lastore => xe_sto h pc ls st 1001 1
  | .bastore => xe_sto h pc ls st 1002 2
  | .aastore => match st with
    | .ref b :: _ => if xe_recv h [.ref b] 2 then xe_sto h pc ls st 1004 4 else none
    | _ => none
  | .newarray .int => xe_newa pc 2 ls st h 1000 (.int 0)
  | .newarray .long => xe_newa pc 2 ls st h 1001 (.long 0)
  | .newarray .boolean => xe_newa pc 2 ls st h 1002 (.int 0)
  | .anewarray idx => match xe_lk (xe_link q) idx with
    | (11, 2, _, _) => xe_newa pc 3 ls st h 1004 .null
    | _ => none
  | .new idx => xe_new1 q K pc idx ls st h
  | .invokestatic idx => xe_call q call 0 pc idx ls st h
  | .invokevirtual idx => xe_call q call 1 pc idx ls st h
  | .invokespecial idx => xe_call q call 2 pc idx ls st h
  | .ireturn => match st with
    | [.int x] => match xe_rk q with
      | 0 => some (.inr (.inl (some (.int x)), h))
      | 1 => if x = 0 ∨ x = 1 then some (.inr (.inl (some (.int x)), h)) else none
      | 2 => if (x.toUInt32 % 65536).toInt32 = x then some (.inr (.inl (some (.int x)), h)) else none
      | _ => none
    | _ => none
  | .areturn => match st with
    | [.ref a] => if Nat.beq (xe_rk q) 4 then some (.inr (.inl (some (.ref a)), h)) else none
    | [.null] => if Nat.beq (xe_rk q) 4 then some (.inr (.inl (some .null), h)) else none
    | _ => none
  | .return_ => match st with
    | [] => if Nat.beq (xe_rk q % 100) 3 then some (.inr (.inl none, h)) else none
    | _ => none
  | _ => none
/-- n instructions, d calls deep at most -/
def xe_run (P : List xe_M) (K : xe_K) : Nat → Nat → xe_M → Nat → List Value → List Value → xe_H → Option (xe_R × xe_H)
  | 0, _, _, _, _, _, _ => none
  | n + 1, d, q, pc, ls, st, h => match xe_at (xe_code q) pc with
    | none => none
    | some (i, _, b) => match xe_step q K (fun y as h1 => match d, P[y]? with
        | d1 + 1, some q1 => if as.all xs_kn && Nat.ble (xe_cat as) (xe_max q1) then xe_run P K n d1 q1 0 (xe_ent (xe_max q1) as) [] h1 else none
        | _, _ => none) pc i (xe_keep b ls) st h with
      | none => none
      | some (.inl (pc1, ls1, st1, h1)) => xe_run P K n d q pc1 ls1 st1 h1
      | some (.inr r) => some r
/-- how long an instruction is; 0: it depends -/
def xe_len : Instr → Nat
  | .bipush _ => 2 | .iload _ => 2 | .lload _ => 2 | .aload _ => 2 | .istore _ => 2 | .lstore _ => 2 | .astore _ => 2 | .ldc _ => 2 | .newarray _ => 2
  | .sipush _ => 3 | .iinc _ _ => 3 | .goto _ => 3 | .ifCond _ _ => 3 | .if_icmp _ _ => 3 | .ifnonnull _ => 3 | .ldc_w _ => 3 | .ldc2_w _ => 3 | .getfield _ => 3 | .putfield _ => 3 | .anewarray _ => 3 | .new _ => 3
  | .invokestatic _ => 3 | .invokevirtual _ => 3 | .invokespecial _ => 3
  | .tableswitch .. => 0
  | _ => 1
