/-! ===== a machine over numbers alone: the shape of the heap after the constructors is fixed, only ints and longs change; written by wip/whole/gen_sy.py ===== -/
/-- what changes: an int at each place of each cell (133 0: how many were thrown; 134 0: the length of the script; 1000000: the script; a long takes two places) -/
abbrev sy_M : Type := Nat → Nat → Int32
abbrev sy_O : Type := Option (xe_R × sy_M)
abbrev sy_K : Type := Nat → List Value → List Value → sy_M → sy_O
def sy_ri (v : Int32) (M : sy_M) : sy_O := some (.inl (some (.int v)), M)
def sy_rv (M : sy_M) : sy_O := some (.inl none, M)
def sy_rt (c : Nat) (M : sy_M) : sy_O := some (.inr c, M)
def sy_rr (a : Nat) (M : sy_M) : sy_O := some (.inl (some (.ref a)), M)
def sy_rn (M : sy_M) : sy_O := some (.inl (some .null), M)
def sy_bi (x : sy_O) (k : Int32 → sy_M → sy_O) : sy_O := match x with
  | some (.inl (some (.int v)), M) => k v M
  | some (.inr c, M) => some (.inr c, M)
  | _ => none
def sy_bv (x : sy_O) (k : sy_M → sy_O) : sy_O := match x with
  | some (.inl none, M) => k M
  | some (.inr c, M) => some (.inr c, M)
  | _ => none
def sy_br (x : sy_O) (k : Nat → sy_M → sy_O) (kn : sy_M → sy_O) : sy_O := match x with
  | some (.inl (some (.ref a)), M) => k a M
  | some (.inl (some .null), M) => kn M
  | some (.inr c, M) => some (.inr c, M)
  | _ => none
def sy_hi (x : sy_O) (k : Int32 → sy_M → sy_O) (kt : Nat → sy_M → sy_O) : sy_O := match x with
  | some (.inl (some (.int v)), M) => k v M
  | some (.inr c, M) => kt c M
  | _ => none
/-- a place is written -/
def sy_upd (M : sy_M) (a j : Nat) (v : Int32) : sy_M := fun b i => if b = a then (if i = j then v else M b i) else M b i
/-- longs: two places -/
def sy_rl (M : sy_M) (a j : Nat) : Int64 := Int64.ofInt ((M a (2 * j + 1)).toInt * 4294967296 + (M a (2 * j)).toInt % 4294967296)
def sy_wl (M : sy_M) (a j : Nat) (v : Int64) : sy_M := sy_upd (sy_upd M a (2 * j) (Int32.ofInt (v.toInt % 4294967296))) a (2 * j + 1) (Int32.ofInt (v.toInt / 4294967296))
def sy_cpy (M : sy_M) (b sp a dp n : Nat) : sy_M := fun c i => if c = a then (if dp ≤ i ∧ i < dp + n then M b (sp + (i - dp)) else M c i) else M c i
/-- the cells: tag, length, references -/
def zSH : List (Nat × Nat × List (Nat × Nat)) := [(10, 18, [(0, 1), (1, 6), (2, 9), (3, 14), (4, 19), (5, 24), (6, 29), (7, 35), (8, 41), (9, 47), (10, 48), (11, 49), (12, 53), (13, 57), (14, 119), (15, 120)]), (9, 8, [(0, 2), (1, 3), (2, 4), (3, 5)]), (1000, 400, []), (1000, 401, []), (1000, 401, []), (1000, 401, []), (1, 3, [(0, 7), (1, 8)]), (1000, 20, []), (1000, 20, []), (2, 14, [(0, 10), (1, 11), (2, 12)]), (1000, 63, []), (1000, 49, []), (6, 4, [(1, 13)]), (1000, 300, []), (2, 14, [(0, 15), (1, 16), (2, 17)]), (1000, 63, []), (1000, 49, []), (6, 4, [(1, 18)]), (1000, 300, []), (2, 14, [(0, 20), (1, 21), (2, 22)]), (1000, 63, []), (1000, 49, []), (6, 4, [(1, 23)]), (1000, 0, []), (2, 14, [(0, 25), (1, 26), (2, 27)]), (1000, 63, []), (1000, 49, []), (6, 4, [(1, 28)]), (1000, 300, []), (4, 7, [(0, 30), (1, 31), (2, 32), (3, 33), (4, 34)]), (1000, 12, []), (1000, 12, []), (1000, 12, []), (1000, 12, []), (1000, 512, []), (4, 7, [(0, 36), (1, 37), (2, 38), (3, 39), (4, 40)]), (1000, 12, []), (1000, 12, []), (1000, 12, []), (1000, 12, []), (1000, 512, []), (4, 7, [(0, 42), (1, 43), (2, 44), (3, 45), (4, 46)]), (1000, 12, []), (1000, 12, []), (1000, 12, []), (1000, 12, []), (1000, 512, []), (3, 2, [(0, 1), (1, 14)]), (5, 2, [(0, 1), (1, 35)]), (7, 3, [(0, 50), (1, 51), (2, 52)]), (1000, 48, []), (1000, 48, []), (1000, 9, []), (8, 5, [(0, 54), (1, 55), (2, 56)]), (1000, 49, []), (1000, 7, []), (1000, 7, []), (0, 3, [(0, 58)]), (1004, 12, [(0, 59), (1, 64), (2, 69), (3, 74), (4, 79), (5, 84), (6, 89), (7, 94), (8, 99), (9, 104), (10, 109), (11, 114)]), (2, 14, [(0, 60), (1, 61), (2, 62)]), (1000, 63, []), (1000, 49, []), (6, 4, [(1, 63)]), (1000, 300, []), (2, 14, [(0, 65), (1, 66), (2, 67)]), (1000, 63, []), (1000, 49, []), (6, 4, [(1, 68)]), (1000, 300, []), (2, 14, [(0, 70), (1, 71), (2, 72)]), (1000, 63, []), (1000, 49, []), (6, 4, [(1, 73)]), (1000, 300, []), (2, 14, [(0, 75), (1, 76), (2, 77)]), (1000, 63, []), (1000, 49, []), (6, 4, [(1, 78)]), (1000, 300, []), (2, 14, [(0, 80), (1, 81), (2, 82)]), (1000, 63, []), (1000, 49, []), (6, 4, [(1, 83)]), (1000, 300, []), (2, 14, [(0, 85), (1, 86), (2, 87)]), (1000, 63, []), (1000, 49, []), (6, 4, [(1, 88)]), (1000, 300, []), (2, 14, [(0, 90), (1, 91), (2, 92)]), (1000, 63, []), (1000, 49, []), (6, 4, [(1, 93)]), (1000, 300, []), (2, 14, [(0, 95), (1, 96), (2, 97)]), (1000, 63, []), (1000, 49, []), (6, 4, [(1, 98)]), (1000, 300, []), (2, 14, [(0, 100), (1, 101), (2, 102)]), (1000, 63, []), (1000, 49, []), (6, 4, [(1, 103)]), (1000, 300, []), (2, 14, [(0, 105), (1, 106), (2, 107)]), (1000, 63, []), (1000, 49, []), (6, 4, [(1, 108)]), (1000, 300, []), (2, 14, [(0, 110), (1, 111), (2, 112)]), (1000, 63, []), (1000, 49, []), (6, 4, [(1, 113)]), (1000, 300, []), (2, 14, [(0, 115), (1, 116), (2, 117)]), (1000, 63, []), (1000, 49, []), (6, 4, [(1, 118)]), (1000, 300, []), (1001, 7, []), (1000, 7, []), (11, 26, [(1, 122), (2, 123), (4, 124), (5, 125), (7, 126), (14, 127), (22, 128), (23, 129), (24, 130), (25, 131)]), (1000, 826, []), (1000, 826, []), (1000, 426, []), (1000, 5112, []), (1000, 400, []), (1000, 7, []), (1000, 7, []), (1000, 7, []), (1000, 128, []), (1002, 336, []), (1001, 1, [])]
/-- reference fields by class and place: beside the object, or fixed -/
def zRF : List (Nat × Nat × Bool × Nat) := [(0, 0, false, 58), (1, 0, false, 7), (1, 1, false, 8), (2, 0, true, 1), (2, 1, true, 2), (2, 2, true, 3), (3, 0, false, 1), (3, 1, false, 14), (4, 0, true, 1), (4, 1, true, 2), (4, 2, true, 3), (4, 3, true, 4), (4, 4, true, 5), (5, 0, false, 1), (5, 1, false, 35), (6, 1, true, 1), (7, 0, false, 50), (7, 1, false, 51), (7, 2, false, 52), (8, 0, false, 54), (8, 1, false, 55), (8, 2, false, 56), (9, 0, false, 2), (9, 1, false, 3), (9, 2, false, 4), (9, 3, false, 5), (10, 0, false, 1), (10, 1, false, 6), (10, 2, false, 9), (10, 3, false, 14), (10, 4, false, 19), (10, 5, false, 24), (10, 6, false, 29), (10, 7, false, 35), (10, 8, false, 41), (10, 9, false, 47), (10, 10, false, 48), (10, 11, false, 49), (10, 12, false, 53), (10, 13, false, 57), (10, 14, false, 119), (10, 15, false, 120), (11, 1, false, 122), (11, 2, false, 123), (11, 4, false, 124), (11, 5, false, 125), (11, 7, false, 126), (11, 14, false, 127), (11, 22, false, 128), (11, 23, false, 129), (11, 24, false, 130), (11, 25, false, 131)]
def sy_rfa : List (Nat × Nat × Bool × Nat) → Nat → Nat → Option (Bool × Nat)
  | [], _, _ => none
  | r :: l, c, k => bif Nat.beq r.1 c && Nat.beq r.2.1 k then some r.2.2 else sy_rfa l c k
def sy_rf (c k : Nat) : Option (Bool × Nat) := sy_rfa zRF c k
def sy_rowa : List (Nat × Nat × List (Nat × Nat)) → Nat → Option (Nat × Nat × List (Nat × Nat))
  | [], _ => none
  | r :: l, a => bif Nat.beq a 0 then some r else sy_rowa l (a - 1)
def sy_row (a : Nat) : Option (Nat × Nat × List (Nat × Nat)) := sy_rowa zSH a
/-- how many fields a class has -/
def sy_cn (c : Nat) : Nat := (zK.getD c (0, [])).1
def sy_is (c a : Nat) : Bool := match sy_row a with
  | some r => Nat.beq r.1 c
  | none => false
def sy_ln (t a : Nat) : Nat := match sy_row a with
  | some r => bif Nat.beq r.1 t then r.2.1 else 0
  | none => 0
/-- the length of an int array of ours -/
def sy_li (a : Nat) : Nat := sy_ln 1000 a
/-- the same, or the script's -/
def sy_len (M : sy_M) (a : Nat) : Nat := bif Nat.beq a 1000000 then (M 134 0).toNatClampNeg else sy_li a
def sy_ia (a : Nat) : Bool := sy_is 1000 a
def sy_bo (x : Int32) : Bool := decide (x = 0) || decide (x = 1)
def sy_tx (a : Nat) : Option (List Int32) := bif Nat.blt a 1500000 then none else zbyt[a - 1500000]?
def sy_st (a : Nat) : Bool := (sy_tx a).isSome
def sy_sl (a : Nat) : Nat := match sy_tx a with
  | some b => b.length
  | none => 0
def sy_sc (a j : Nat) : Int32 := match sy_tx a with
  | some b => b.getD j 0
  | none => 0
def sy_cok (b a : Nat) (sp dp n : Int32) : Bool := sy_ia a && (sy_ia b && (decide (0 ≤ n) && (decide (0 ≤ dp) && (decide (0 ≤ sp) && (decide (sp.toNatClampNeg + n.toNatClampNeg ≤ sy_li b) && decide (dp.toNatClampNeg + n.toNatClampNeg ≤ sy_li a))))))
/-- the callees: number, kind (0 an int, 1 nothing, 2 a reference, 3 an int and throws are caught), what they do -/
abbrev sy_C : Type := List (Nat × Nat × (List Value → sy_M → sy_O))
/-- places in a method where another function goes on -/
abbrev sy_U : Type := List (Nat × (List Value → List Value → sy_M → sy_O))
def sy_find : sy_C → Nat → Option (Nat × (List Value → sy_M → sy_O))
  | [], _ => none
  | r :: l, y => bif Nat.beq r.1 y then some r.2 else sy_find l y
def sy_hs : List (Nat × Nat × Nat × Nat) → Nat → Nat → (Nat → sy_O) → sy_O
  | [], _, _, _ => none
  | r :: l, pc, c, k => bif Nat.ble r.1 pc && Nat.blt pc r.2.1 then (if c = r.2.2.2 then k r.2.2.1 else sy_hs l pc c k) else sy_hs l pc c k
def sy_back (q : xe_M) (pc : Nat) (ls rest : List Value) (kd : Nat) (o : sy_O) (k : sy_K) : sy_O := match kd, xe_hand q with
  | 0, [] => sy_bi o (fun v M1 => k (pc + 3) ls (.int v :: rest) M1)
  | 1, [] => sy_bv o (fun M1 => k (pc + 3) ls rest M1)
  | 2, [] => sy_br o (fun a M1 => k (pc + 3) ls (.ref a :: rest) M1) (fun M1 => k (pc + 3) ls (.null :: rest) M1)
  | 3, hs => sy_hi o (fun v M1 => k (pc + 3) ls (.int v :: rest) M1) (fun c M1 => sy_hs hs pc c (fun p => k p ls [.ref (133 + (M1 133 0).toNatClampNeg - 1)] M1))
  | _, _ => none
def sy_inv (q : xe_M) (ct : sy_C) (pc y : Nat) (as ls rest : List Value) (M : sy_M) (k : sy_K) : sy_O := bif Nat.ble (xe_cat rest) 8 then (match sy_find ct y with
  | some (kd, f) => sy_back q pc ls rest kd (f as M) k
  | none => none) else none
def sy_rc (as : List Value) (c : Nat) : Bool := match as with
  | .ref a :: _ => sy_is c a
  | _ => false
def sy_call (q : xe_M) (ct : sy_C) (kd pc idx : Nat) (ls st : List Value) (M : sy_M) (k : sy_K) : sy_O := match xe_lk (xe_link q) idx with
  | (3, y, n, _) => match xe_pop n [] st with
    | some (as, rest) => bif Nat.beq kd 0 then sy_inv q ct pc y as ls rest M k else none
    | none => none
  | (4, y, n, c) => match xe_pop (n + 1) [] st with
    | some (as, rest) => bif Nat.beq kd 1 && sy_rc as c.toNat then sy_inv q ct pc y as ls rest M k else none
    | none => none
  | (8, y, n, c) => match xe_pop (n + 1) [] st with
    | some (as, rest) => bif Nat.beq kd 1 && sy_rc as c.toNat then sy_inv q ct pc y as ls rest M k else none
    | none => none
  | (5, y, y2, c) => match xe_pop 1 [] st with
    | some (as, rest) => bif Nat.beq kd 1 && sy_rc as c.toNat then sy_inv q ct pc y as ls rest M k else (bif Nat.beq kd 1 && sy_rc as (c.toNat + 2) then sy_inv q ct pc y2 as ls rest M k else none)
    | none => none
  | (9, _, _, _) => match st with
    | .int n :: .int dp :: .ref a :: .int sp :: .ref b :: rest => bif Nat.beq kd 0 && (Nat.ble (xe_cat rest) 8 && sy_cok b a sp dp n) then k (pc + 3) ls rest (sy_cpy M b sp.toNatClampNeg a dp.toNatClampNeg n.toNatClampNeg) else none
    | _ => none
  | (17, 0, _, _) => match st with
    | .ref a :: rest => bif Nat.beq kd 1 && (Nat.ble (xe_cat rest) 8 && sy_st a) then k (pc + 3) ls (.int (sy_sl a).toInt32 :: rest) M else none
    | _ => none
  | (17, 1, _, _) => match st with
    | .int i :: .ref a :: rest => bif Nat.beq kd 1 && (Nat.ble (xe_cat rest) 8 && (sy_st a && xe_in i (sy_sl a))) then k (pc + 3) ls (.int (sy_sc a i.toNatClampNeg) :: rest) M else none
    | _ => none
  | _ => none
def sy_jump (pc : Nat) (off : Int) (ls st : List Value) (M : sy_M) (k : sy_K) : sy_O := bif decide (0 ≤ (pc : Int) + off) then k ((pc : Int) + off).toNat ls st M else none
/-- a branch: whether it is told by 'equal' or 'less', and which way -/
def sy_if (c : ClassFile.Cond) (x y : Int32) (t f : sy_O) : sy_O := match c with
  | .eq => if x = y then t else f
  | .ne => if x = y then f else t
  | .lt => if x < y then t else f
  | .ge => if x < y then f else t
  | .gt => if y < x then t else f
  | .le => if y < x then f else t
def sy_sw (pc : Nat) (x : Int32) (dflt : Int) (ls st : List Value) (M : sy_M) (k : sy_K) : Int → List Int → sy_O
  | _, [] => sy_jump pc dflt ls st M k
  | lo, o :: os => if x = Int32.ofInt lo then sy_jump pc o ls st M k else sy_sw pc x dflt ls st M k (lo + 1) os
def sy_getf (q : xe_M) (pc idx : Nat) (ls st : List Value) (M : sy_M) (k : sy_K) : sy_O := match st with
  | .ref a :: rest => match xe_lk (xe_link q) idx with
    | (1, ci, j, _) => bif Nat.blt j (sy_cn ci) then (bif sy_is ci a then (match sy_rf ci j with
      | none => k (pc + 3) ls (.int (M a j) :: rest) M
      | some (true, n) => k (pc + 3) ls (.ref (a + n) :: rest) M
      | some (false, n) => k (pc + 3) ls (.ref n :: rest) M) else none) else none
    | (2, ci, j, c) => bif Nat.beq j 0 && ((Nat.beq a 47 && Nat.beq ci 3) || (Nat.beq a 48 && Nat.beq c.toNat 5)) then k (pc + 3) ls (.ref 1 :: rest) M else none
    | _ => none
  | _ => none
def sy_putf (q : xe_M) (pc idx : Nat) (ls st : List Value) (M : sy_M) (k : sy_K) : sy_O := match st with
  | .int x :: .ref a :: rest => match xe_lk (xe_link q) idx with
    | (1, ci, j, c) => bif Nat.blt j (sy_cn ci) then (bif sy_is ci a then (match sy_rf ci j with
      | none => bif (Nat.beq (c.toNat / 10) 0 || Nat.beq (c.toNat / 10) 2) && Nat.blt (c.toNat % 10) 2 then (bif Nat.beq (c.toNat / 10) 0 || sy_bo x then k (pc + 3) ls rest (sy_upd M a j x) else none) else none
      | some _ => none) else none) else none
    | _ => none
  | _ => none
def sy_new (q : xe_M) (pc idx : Nat) (ls st : List Value) (M : sy_M) : sy_O := match xe_lk (xe_link q) idx, xe_hand q with
  | (10, c, 6, _), [] => bif Nat.ble (xe_cat st) 8 then (bif xe_in (M 133 0) 100000 then sy_rt c (sy_upd M 133 0 (M 133 0 + 1)) else none) else none
  | _, _ => none
/-- one instruction; k goes on -/
def sy_step (q : xe_M) (ct : sy_C) (pc : Nat) (i : Instr) (ls st : List Value) (M : sy_M) (k : sy_K) : sy_O := match i with
  | .iconst n => k (pc + 1) ls (.int (Int32.ofInt n) :: st) M
  | .bipush n => bif decide ((Int8.ofInt n).toInt32 = Int32.ofInt n) then k (pc + 2) ls (.int (Int32.ofInt n) :: st) M else none
  | .sipush n => bif decide ((Int16.ofInt n).toInt32 = Int32.ofInt n) then k (pc + 3) ls (.int (Int32.ofInt n) :: st) M else none
  | .lconst n => k (pc + 1) ls (.long (Int64.ofNat (n : Nat)) :: st) M
  | .aconst_null => k (pc + 1) ls (.null :: st) M
  | .iload k1 => match ls[k1]? with
    | some (.int x) => k (pc + 2) ls (.int x :: st) M
    | _ => none
  | .iload_n k1 => match ls[(k1 : Nat)]? with
    | some (.int x) => k (pc + 1) ls (.int x :: st) M
    | _ => none
  | .lload k1 => match ls[k1]? with
    | some (.long x) => k (pc + 2) ls (.long x :: st) M
    | _ => none
  | .lload_n k1 => match ls[(k1 : Nat)]? with
    | some (.long x) => k (pc + 1) ls (.long x :: st) M
    | _ => none
  | .aload k1 => match ls[k1]? with
    | some (.ref x) => k (pc + 2) ls (.ref x :: st) M
    | some .null => k (pc + 2) ls (.null :: st) M
    | _ => none
  | .aload_n k1 => match ls[(k1 : Nat)]? with
    | some (.ref x) => k (pc + 1) ls (.ref x :: st) M
    | some .null => k (pc + 1) ls (.null :: st) M
    | _ => none
  | .istore k1 => match st with
    | .int x :: rest => bif Nat.blt k1 ls.length then k (pc + 2) (xe_set1 ls k1 (.int x)) rest M else none
    | _ => none
  | .istore_n k1 => match st with
    | .int x :: rest => bif Nat.blt (k1 : Nat) ls.length then k (pc + 1) (xe_set1 ls k1 (.int x)) rest M else none
    | _ => none
  | .lstore k1 => match st with
    | .long x :: rest => bif Nat.blt (k1 + 1) ls.length then k (pc + 2) (xe_set2 ls k1 (.long x)) rest M else none
    | _ => none
  | .lstore_n k1 => match st with
    | .long x :: rest => bif Nat.blt ((k1 : Nat) + 1) ls.length then k (pc + 1) (xe_set2 ls k1 (.long x)) rest M else none
    | _ => none
  | .astore k1 => match st with
    | .ref x :: rest => bif Nat.blt k1 ls.length then k (pc + 2) (xe_set1 ls k1 (.ref x)) rest M else none
    | .null :: rest => bif Nat.blt k1 ls.length then k (pc + 2) (xe_set1 ls k1 .null) rest M else none
    | _ => none
  | .astore_n k1 => match st with
    | .ref x :: rest => bif Nat.blt (k1 : Nat) ls.length then k (pc + 1) (xe_set1 ls k1 (.ref x)) rest M else none
    | .null :: rest => bif Nat.blt (k1 : Nat) ls.length then k (pc + 1) (xe_set1 ls k1 .null) rest M else none
    | _ => none
  | .iinc k1 n => match ls[k1]? with
    | some (.int x) => k (pc + 3) (xe_set1 ls k1 (.int (x + Int32.ofInt n))) st M
    | _ => none
  | .iadd => match st with
    | .int y :: .int x :: rest => k (pc + 1) ls (.int (x + y) :: rest) M
    | _ => none
  | .isub => match st with
    | .int y :: .int x :: rest => k (pc + 1) ls (.int (x - y) :: rest) M
    | _ => none
  | .imul => match st with
    | .int y :: .int x :: rest => k (pc + 1) ls (.int (x * y) :: rest) M
    | _ => none
  | .iand => match st with
    | .int y :: .int x :: rest => k (pc + 1) ls (.int (x &&& y) :: rest) M
    | _ => none
  | .ior => match st with
    | .int y :: .int x :: rest => k (pc + 1) ls (.int (x ||| y) :: rest) M
    | _ => none
  | .ixor => match st with
    | .int y :: .int x :: rest => k (pc + 1) ls (.int (x ^^^ y) :: rest) M
    | _ => none
  | .ishl => match st with
    | .int y :: .int x :: rest => k (pc + 1) ls (.int (x <<< (y &&& 31)) :: rest) M
    | _ => none
  | .ishr => match st with
    | .int y :: .int x :: rest => k (pc + 1) ls (.int (x >>> (y &&& 31)) :: rest) M
    | _ => none
  | .iushr => match st with
    | .int y :: .int x :: rest => k (pc + 1) ls (.int ((x.toUInt32 >>> (y.toUInt32 &&& Int32.toUInt32 31)).toInt32) :: rest) M
    | _ => none
  | .idiv => match st with
    | .int y :: .int x :: rest => if y = 0 then none else k (pc + 1) ls (.int (x / y) :: rest) M
    | _ => none
  | .irem => match st with
    | .int y :: .int x :: rest => if y = 0 then none else k (pc + 1) ls (.int (x - x / y * y) :: rest) M
    | _ => none
  | .ineg => match st with
    | .int x :: rest => k (pc + 1) ls (.int (-x) :: rest) M
    | _ => none
  | .ladd => match st with
    | .long y :: .long x :: rest => k (pc + 1) ls (.long (x + y) :: rest) M
    | _ => none
  | .lmul => match st with
    | .long y :: .long x :: rest => k (pc + 1) ls (.long (x * y) :: rest) M
    | _ => none
  | .ldiv => match st with
    | .long y :: .long x :: rest => if y = 0 then none else k (pc + 1) ls (.long (x / y) :: rest) M
    | _ => none
  | .lcmp => match st with
    | .long y :: .long x :: rest => k (pc + 1) ls (.int (lg_cmp x y) :: rest) M
    | _ => none
  | .i2l => match st with
    | .int x :: rest => k (pc + 1) ls (.long x.toInt64 :: rest) M
    | _ => none
  | .l2i => match st with
    | .long x :: rest => k (pc + 1) ls (.int x.toInt32 :: rest) M
    | _ => none
  | .i2c => match st with
    | .int x :: rest => k (pc + 1) ls (.int (x.toUInt32 % 65536).toInt32 :: rest) M
    | _ => none
  | .dup => match st with
    | v :: rest => bif Nat.beq v.category 1 then k (pc + 1) ls (v :: v :: rest) M else none
    | _ => none
  | .dup2 => match st with
    | v :: w :: rest => bif Nat.beq v.category 1 && Nat.beq w.category 1 then k (pc + 1) ls (v :: w :: v :: w :: rest) M else none
    | _ => none
  | .pop => match st with
    | v :: rest => bif Nat.beq v.category 1 then k (pc + 1) ls rest M else none
    | _ => none
  | .goto off => sy_jump pc off ls st M k
  | .ifCond c off => match st with
    | .int x :: rest => bif decide (0 ≤ (pc : Int) + off) then sy_if c x 0 (k ((pc : Int) + off).toNat ls rest M) (k (pc + 3) ls rest M) else none
    | _ => none
  | .if_icmp c off => match st with
    | .int y :: .int x :: rest => bif decide (0 ≤ (pc : Int) + off) then sy_if c x y (k ((pc : Int) + off).toNat ls rest M) (k (pc + 3) ls rest M) else none
    | _ => none
  | .ifnonnull off => match st with
    | .ref _ :: rest => sy_jump pc off ls rest M k
    | .null :: rest => k (pc + 3) ls rest M
    | _ => none
  | .tableswitch dflt lo hi offs => match st with
    | .int x :: rest => bif decide (lo + (offs.toList.length : Int) = hi + 1 ∧ -1000 ≤ lo ∧ hi ≤ 1000) then sy_sw pc x dflt ls rest M k lo offs.toList else none
    | _ => none
  | .ldc idx => match xe_lk (xe_link q) idx with
    | (13, _, _, c) => k (pc + 2) ls (.int (Int32.ofInt c) :: st) M
    | (14, a, _, _) => k (pc + 2) ls (.ref a :: st) M
    | _ => none
  | .ldc_w idx => match xe_lk (xe_link q) idx with
    | (13, _, _, c) => k (pc + 3) ls (.int (Int32.ofInt c) :: st) M
    | _ => none
  | .ldc2_w idx => match xe_lk (xe_link q) idx with
    | (15, _, _, c) => k (pc + 3) ls (.long (Int64.ofInt c) :: st) M
    | _ => none
  | .getfield idx => sy_getf q pc idx ls st M k
  | .putfield idx => sy_putf q pc idx ls st M k
  | .arraylength => match st with
    | .ref a :: rest => bif sy_ia a || Nat.beq a 1000000 then k (pc + 1) ls (.int (sy_len M a).toInt32 :: rest) M else none
    | _ => none
  | .iaload => match st with
    | .int i :: .ref a :: rest => bif xe_in i (sy_len M a) then k (pc + 1) ls (.int (M a i.toNatClampNeg) :: rest) M else none
    | _ => none
  | .baload => match st with
    | .int i :: .ref a :: rest => bif xe_in i (sy_ln 1002 a) then k (pc + 1) ls (.int (M a i.toNatClampNeg) :: rest) M else none
    | _ => none
  | .laload => match st with
    | .int i :: .ref a :: rest => bif xe_in i (sy_ln 1001 a) then k (pc + 1) ls (.long (sy_rl M a i.toNatClampNeg) :: rest) M else none
    | _ => none
  | .aaload => match st with
    | .int i :: .ref a :: rest => bif Nat.beq a 58 then (bif xe_in i 12 then k (pc + 1) ls (.ref (59 + 5 * i.toNatClampNeg) :: rest) M else none) else none
    | _ => none
  | .iastore => match st with
    | .int v :: .int i :: .ref a :: rest => bif xe_in i (sy_li a) then k (pc + 1) ls rest (sy_upd M a i.toNatClampNeg v) else none
    | _ => none
  | .bastore => match st with
    | .int v :: .int i :: .ref a :: rest => bif xe_in i (sy_ln 1002 a) then (bif sy_bo v then k (pc + 1) ls rest (sy_upd M a i.toNatClampNeg v) else none) else none
    | _ => none
  | .lastore => match st with
    | .long v :: .int i :: .ref a :: rest => bif xe_in i (sy_ln 1001 a) then k (pc + 1) ls rest (sy_wl M a i.toNatClampNeg v) else none
    | _ => none
  | .new idx => sy_new q pc idx ls st M
  | .invokestatic idx => sy_call q ct 0 pc idx ls st M k
  | .invokevirtual idx => sy_call q ct 1 pc idx ls st M k
  | .invokespecial idx => sy_call q ct 2 pc idx ls st M k
  | .ireturn => match st with
    | [.int x] => (match xe_rk q with
      | 0 => sy_ri x M
      | 1 => bif sy_bo x then sy_ri x M else none
      | _ => none)
    | _ => none
  | .areturn => match st with
    | [.ref a] => bif Nat.beq (xe_rk q) 4 then sy_rr a M else none
    | [.null] => bif Nat.beq (xe_rk q) 4 then sy_rn M else none
    | _ => none
  | .return_ => match st with
    | [] => bif Nat.beq (xe_rk q % 100) 3 then sy_rv M else none
    | _ => none
  | _ => none
def sy_go : sy_U → Nat → List Value → List Value → sy_M → sy_O → sy_O
  | [], _, _, _, _, z => z
  | r :: l, pc, ls, st, M, z => bif Nat.beq r.1 pc then r.2 ls st M else sy_go l pc ls st M z
def sy_run (q : xe_M) (C : List xe_I) (ct : sy_C) (cu : sy_U) : Nat → Nat → List Value → List Value → sy_M → sy_O
  | 0, _, _, _, _ => none
  | n + 1, pc, ls, st, M => match xe_at C pc with
    | none => none
    | some (i, _, b) => sy_step q ct pc i (xe_keep b ls) st M (fun pc1 ls1 st1 M1 => sy_go cu pc1 ls1 st1 M1 (sy_run q C ct cu n pc1 ls1 st1 M1))
/-- what a list of values begins with -/
def sy_xi (l : List Value) (f : Int32 → List Value → sy_O) : sy_O := match l with
  | .int x :: r => f x r
  | _ => none
def sy_xl (l : List Value) (f : Int64 → List Value → sy_O) : sy_O := match l with
  | .long x :: r => f x r
  | _ => none
def sy_xa (l : List Value) (f : Nat → List Value → sy_O) : sy_O := match l with
  | .ref x :: r => f x r
  | _ => none
def sy_xc (a : Nat) (l : List Value) (f : List Value → sy_O) : sy_O := match l with
  | .ref x :: r => bif Nat.beq x a then f r else none
  | _ => none
def sy_xv (l : List Value) (f : Value → List Value → sy_O) : sy_O := match l with
  | v :: r => f v r
  | _ => none
def sy_xo (l : List Value) (f : List Value → sy_O) : sy_O := match l with
  | .retAddr 0 :: r => f r
  | _ => none
def sy_xn (l : List Value) (f : sy_O) : sy_O := match l with
  | [] => f
  | _ => none
