/-! ===== texts: things ===== -/
def isa (c : Nat) : Bool := Nat.ble 97 c && Nat.ble c 122
def isd (c : Nat) : Bool := Nat.ble 48 c && Nat.ble c 57
/-- the end of a run, of so many at most -/
def rn (P : Nat → Bool) : Nat → Nat → Nat
  | 0, q => q
  | m + 1, q => bif P q then rn P m (q + 1) else q
theorem rn_s (P : Nat → Bool) (m q : Nat) : rn P (m + 1) q = bif P q then rn P m (q + 1) else q := rfl
theorem rn_ge (P : Nat → Bool) : ∀ m q, q ≤ rn P m q ∧ rn P m q ≤ q + m
  | 0, q => ⟨Nat.le_refl _, Nat.le_refl _⟩
  | m + 1, q => by
    rw [rn_s]
    cases P q
    · exact ⟨Nat.le_refl _, by rw [cond_false]; omega⟩
    · rw [cond_true]
      have := rn_ge P m (q + 1)
      omega
theorem rn_in (P : Nat → Bool) : ∀ m q i, q ≤ i → i < rn P m q → P i = true
  | 0, q, i, h1, h2 => by
    have : i < q := h2
    omega
  | m + 1, q, i, h1, h2 => by
    rw [rn_s] at h2
    cases hp : P q with
    | false => rw [hp, cond_false] at h2; omega
    | true =>
      rw [hp, cond_true] at h2
      by_cases e : i = q
      · rw [e]; exact hp
      · exact rn_in P m (q + 1) i (by omega) h2
theorem rn_end (P : Nat → Bool) : ∀ m q, rn P m q < q + m → P (rn P m q) = false
  | 0, q, h => by
    have : rn P 0 q = q := rfl
    omega
  | m + 1, q, h => by
    rw [rn_s] at h ⊢
    cases hp : P q with
    | false => rw [cond_false]; exact hp
    | true =>
      rw [hp, cond_true] at h
      rw [cond_true]
      exact rn_end P m (q + 1) (by omega)
section
variable (t : Nat → Nat) (L : Nat)
def nxt (q : Nat) : Nat := rn (fun i => Nat.beq (t i) 32) (L - q) q
def ten (q : Nat) : Nat := bif isa (t q) then rn (fun i => isa (t i)) (L - (q + 1)) (q + 1) else bif isd (t q) then rn (fun i => isd (t i)) (L - (q + 1)) (q + 1) else q + 1
end
/-- the words -/
def wds : List (List Nat) := [[108, 111, 100, 103, 101, 114], [98, 117, 114, 110, 115], [104, 111, 109, 101], [116, 111], [99, 111, 105, 110, 115], [98, 101, 97, 114, 115], [119, 97, 105, 116, 115], [111, 119, 101, 115], [103, 97, 115], [112, 114, 105, 99, 101], [102, 114, 111, 115, 116], [116, 105, 99, 107], [110, 105, 103, 104, 116], [116, 117, 114, 110], [115, 112, 97, 114, 101], [114, 101, 102, 117, 115, 101], [105, 102], [111, 114], [97, 110, 100], [110, 111, 116], [108, 97, 115, 116], [99, 111, 108, 100], [102, 101, 100], [99, 104, 105, 108, 108], [100, 97, 114, 107]]
/-- a piece is a word -/
def eqw (t : Nat → Nat) : Nat → List Nat → Bool
  | _, [] => true
  | q, c :: w => Nat.beq (t q) c && eqw t (q + 1) w
/-- which word a piece is -/
def wco (t : Nat → Nat) (q e : Nat) : List (List Nat) → Nat → Nat
  | [], _ => 258
  | w :: l, k => bif Nat.beq (e - q) w.length && eqw t q w then k else wco t q e l (k + 1)
def thg (t : Nat → Nat) (L q : Nat) : Nat := bif Nat.ble L q then 256 else bif isd (t q) then (bif Nat.ble (ten t L q - q) 3 then 257 else 258) else bif isa (t q) then wco t q (ten t L q) wds 260 else t q
def nmv (t : Nat → Nat) (q e : Nat) : Int32 := sy_fo (fun i a => (Int32.ofNat 10) * a + Int32.ofNat (t (q + i)) - (Int32.ofNat 48)) (min 3 (e - q)) 0 (Int32.ofNat 0)
/-! the class reads bytes -/
section
variable {M : sy_M} {t : Nat → Nat} {L : Nat}
theorem c_byteAt {q : Nat} (hb : ∀ i, i < L → M 2 i = Int32.ofNat (t i)) (hL : L ≤ 400) (hq : q < L) : jfX10_byteAt (Int32.ofNat q) M = sy_ri (Int32.ofNat (t q)) M := by
  simp (disch := omega) only [zL, zlt, zle, zeq, zadd, zmul, zin, zix, zsh1, Nat.add_zero, Nat.zero_add, Nat.mul_zero, if_true, if_false, if_pos, if_neg, sy_bi_ri, sy_bi_rt, sy_bv_rv, sy_bv_rt, sy_br_rr, sy_br_rn, sy_hi_ri, sy_hi_rt, sy_bs_t, sy_bx_t, sy_bb_t, bz_bo, ite_bz0, ite_bz1, jfX10_byteAt, hb]
def kdn (c : Nat) : Int32 := bif isa c then (Int32.ofNat 259) else bif isd c then (Int32.ofNat 257) else -(Int32.ofNat 1)
theorem c_kindOf {c : Nat} (hc : c ≤ 255) : jfX10_kindOf (Int32.ofNat c) M = sy_ri (kdn c) M := by
  have : ∀ c : Fin 256, (kdn c.1 = if Int32.ofNat c.1 < (Int32.ofNat 97) then (if Int32.ofNat c.1 < (Int32.ofNat 48) then -(Int32.ofNat 1) else if (Int32.ofNat 57) < Int32.ofNat c.1 then -(Int32.ofNat 1) else (Int32.ofNat 257)) else (if (Int32.ofNat 122) < Int32.ofNat c.1 then (if Int32.ofNat c.1 < (Int32.ofNat 48) then -(Int32.ofNat 1) else if (Int32.ofNat 57) < Int32.ofNat c.1 then -(Int32.ofNat 1) else (Int32.ofNat 257)) else (Int32.ofNat 259))) := by decide +kernel
  rw [this ⟨c, by omega⟩]
  simp (disch := omega) only [zL, zlt, zle, zeq, zadd, zmul, zin, zix, zsh1, Nat.add_zero, Nat.zero_add, Nat.mul_zero, if_true, if_false, if_pos, if_neg, sy_bi_ri, sy_bi_rt, sy_bv_rv, sy_bv_rt, sy_br_rr, sy_br_rn, sy_hi_ri, sy_hi_rt, sy_bs_t, sy_bx_t, sy_bb_t, bz_bo, ite_bz0, ite_bz1, jfX10_kindOf, jfX10_kindOf_16]
  repeat' split
  all_goals first | rfl | omega
theorem isd_na {c : Nat} (h : isd c = true) : isa c = false := by
  unfold isd at h
  unfold isa
  rw [Bool.and_eq_true, Nat.ble_eq, Nat.ble_eq] at h
  have : Nat.ble 97 c = false := by
    cases hq : Nat.ble 97 c with
    | false => rfl
    | true => rw [Nat.ble_eq] at hq; omega
  rw [this]
  rfl
theorem kdn_a {c : Nat} : (kdn c = (Int32.ofNat 259)) ↔ isa c = true := by
  unfold kdn
  cases isa c <;> cases isd c <;> decide
theorem kdn_d {c : Nat} : (kdn c = (Int32.ofNat 257)) ↔ isd c = true := by
  cases h : isd c with
  | true =>
    have := isd_na h
    unfold kdn
    rw [this, h]
    decide
  | false =>
    unfold kdn
    rw [h]
    cases isa c <;> decide
/-- where a thing ends -/
theorem c_behind {q : Nat} (hb : ∀ i, i < L → M 2 i = Int32.ofNat (t i)) (ht : ∀ i, t i ≤ 255) (hL : L ≤ 400) (hq : q < L) : jfX10_behindThing (Int32.ofNat q) (Int32.ofNat L) M = sy_ri (Int32.ofNat (ten t L q)) M := by
  have hk := c_kindOf (M := M) (ht q)
  have key : ∀ (P : Nat → Bool) (kd : Int32), kd ≠ -(Int32.ofNat 1) → (∀ c, c ≤ 255 → (kdn c = kd ↔ P c = true)) → jfX10_behindThing_14 sy_F (Int32.ofNat L) kd (Int32.ofNat (q + 1)) M = sy_ri (Int32.ofNat (rn (fun i => P (t i)) (L - (q + 1)) (q + 1))) M := by
    intro P kd h1 h2
    have := sy_ind (n := L - (q + 1)) (F := sy_F) (fun k i (_ : Unit) => jfX10_behindThing_14 k (Int32.ofNat L) kd (Int32.ofNat (q + 1 + i)) M) (fun _ _ => True) (fun m i _ c => c = sy_ri (Int32.ofNat (rn (fun i => P (t i)) m (q + 1 + i))) M) ?_ ?_ () trivial (by rw [sy_F_eq]; omega)
    · exact this
    · intro k _ _
      show jgX10_behindThing_14 (jfX10_behindThing_14 k) (Int32.ofNat L) kd (Int32.ofNat (q + 1 + (L - (q + 1)))) M = _
      unfold jgX10_behindThing_14
      rw [if_neg (show ¬ kd = -1 from h1), if_neg (fun z => by rw [zlt (by omega) (by omega)] at z; omega)]
      rfl
    · intro m k i _ hi _
      show (∃ _ : Unit, jgX10_behindThing_14 (jfX10_behindThing_14 (k + 1)) (Int32.ofNat L) kd (Int32.ofNat (q + 1 + i)) M = _ ∧ _) ∨ jgX10_behindThing_14 (jfX10_behindThing_14 (k + 1)) (Int32.ofNat L) kd (Int32.ofNat (q + 1 + i)) M = _
      have e1 := c_byteAt (q := q + 1 + i) hb hL (by omega)
      have e2 := c_kindOf (M := M) (ht (q + 1 + i))
      unfold jgX10_behindThing_14
      rw [if_neg (show ¬ kd = -1 from h1), if_pos ((zlt (by omega) (by omega)).mpr (show q + 1 + i < L by omega)), e1, sy_bi_ri, e2, sy_bi_ri, rn_s]
      cases hp : P (t (q + 1 + i)) with
      | true =>
        rw [if_pos ((h2 _ (ht _)).mpr hp)]
        exact Or.inl ⟨(), by rw [show (1 : Int32) = (Int32.ofNat 1) from rfl, zadd, Nat.add_assoc (q + 1) i 1], trivial, fun c hc => hc⟩
      | false =>
        rw [if_neg (fun z => by rw [(h2 _ (ht _)).mp z] at hp; cases hp)]
        exact Or.inr rfl
  have e0 : jfX10_behindThing (Int32.ofNat q) (Int32.ofNat L) M = jfX10_behindThing_14 sy_F (Int32.ofNat L) (kdn (t q)) (Int32.ofNat (q + 1)) M := by
    simp (disch := omega) only [zL, zlt, zle, zeq, zadd, zmul, zin, zix, zsh1, Nat.add_zero, Nat.zero_add, Nat.mul_zero, if_true, if_false, if_pos, if_neg, sy_bi_ri, sy_bi_rt, sy_bv_rv, sy_bv_rt, sy_br_rr, sy_br_rn, sy_hi_ri, sy_hi_rt, sy_bs_t, sy_bx_t, sy_bb_t, bz_bo, ite_bz0, ite_bz1, jfX10_behindThing, c_byteAt hb hL hq, hk]
  rw [e0]
  unfold ten
  cases ha : isa (t q) with
  | true => rw [cond_true, kdn_a.mpr ha]; exact key isa (Int32.ofNat 259) (by decide) (fun c _ => kdn_a)
  | false =>
    rw [cond_false]
    cases hd : isd (t q) with
    | true => rw [cond_true, kdn_d.mpr hd]; exact key isd (Int32.ofNat 257) (by decide) (fun c _ => kdn_d)
    | false =>
      have : kdn (t q) = -(Int32.ofNat 1) := by unfold kdn; rw [ha, hd]; rfl
      rw [this, cond_false, show sy_F = 5999 + 1 from sy_F_eq]
      show jgX10_behindThing_14 _ _ _ _ _ = _
      unfold jgX10_behindThing_14
      rw [if_pos (show (-(Int32.ofNat 1) : Int32) = -1 from rfl)]
theorem ten_gt {q : Nat} (hq : q < L) : q < ten t L q ∧ ten t L q ≤ L := by
  unfold ten
  cases isa (t q)
  · cases isd (t q)
    · simp only [cond_false]; omega
    · simp only [cond_false, cond_true]
      have := rn_ge (fun i => isd (t i)) (L - (q + 1)) (q + 1)
      omega
  · simp only [cond_true]
    have := rn_ge (fun i => isa (t i)) (L - (q + 1)) (q + 1)
    omega
theorem nxt_ge {q : Nat} (hq : q ≤ L) : q ≤ nxt t L q ∧ nxt t L q ≤ L := by
  unfold nxt
  have := rn_ge (fun i => Nat.beq (t i) 32) (L - q) q
  omega
theorem nxt_nsp {q : Nat} (hq : q ≤ L) (h : nxt t L q < L) : t (nxt t L q) ≠ 32 := by
  have := rn_end (fun i => Nat.beq (t i) 32) (L - q) q (by unfold nxt at h; omega)
  intro z
  unfold nxt at z
  rw [z] at this
  cases this
theorem nxt_self {q : Nat} (h : q = L ∨ t q ≠ 32) : nxt t L q = q := by
  unfold nxt
  rcases h with h | h
  · rw [h, Nat.sub_self]; rfl
  · cases hm : L - q with
    | zero => rfl
    | succ m =>
      rw [rn_s]
      cases hb : Nat.beq (t q) 32 with
      | true => exact absurd (Nat.eq_of_beq_eq_true hb) h
      | false => rfl
theorem nxt_sp {q : Nat} (hq : q < L) (h : t q = 32) : nxt t L q = nxt t L (q + 1) := by
  unfold nxt
  rw [show L - q = (L - (q + 1)) + 1 by omega, rn_s, h]
  rfl
theorem c_numberAt {q e : Nat} (hb : ∀ i, i < L → M 2 i = Int32.ofNat (t i)) (hL : L ≤ 400) (hq : q ≤ e) (he : e ≤ L) : jfX10_numberAt (Int32.ofNat q) (Int32.ofNat e) M = sy_ri (nmv t q e) M := by
  unfold jfX10_numberAt nmv
  obtain ⟨k, hk⟩ := sy_for1 (n := min 3 (e - q)) (F := sy_F) (fun k i (a : Int32) => jfX10_numberAt_5 k (Int32.ofNat q) (Int32.ofNat e) a (Int32.ofNat (q + i)) M) (fun i a => (Int32.ofNat 10) * a + Int32.ofNat (t (q + i)) - (Int32.ofNat 48)) (by
    intro k i a hi
    show jgX10_numberAt_5 (jfX10_numberAt_5 k) (Int32.ofNat q) (Int32.ofNat e) a (Int32.ofNat (q + i)) M = _
    simp (disch := omega) only [zL, zlt, zle, zeq, zadd, zmul, zin, zix, zsh1, Nat.add_zero, Nat.zero_add, Nat.mul_zero, if_true, if_false, if_pos, if_neg, sy_bi_ri, sy_bi_rt, sy_bv_rv, sy_bv_rt, sy_br_rr, sy_br_rn, sy_hi_ri, sy_hi_rt, sy_bs_t, sy_bx_t, sy_bb_t, bz_bo, ite_bz0, ite_bz1, jgX10_numberAt_5, c_byteAt hb hL, Nat.add_assoc]) (Int32.ofNat 0) (by rw [sy_F_eq]; omega)
  rw [Nat.add_zero] at hk
  refine hk.trans ?_
  show jgX10_numberAt_5 (jfX10_numberAt_5 k) (Int32.ofNat q) (Int32.ofNat e) _ (Int32.ofNat (q + min 3 (e - q))) M = _
  by_cases h : e - q ≤ 3
  · simp (disch := omega) only [zL, zlt, zle, zeq, zadd, zmul, zin, zix, zsh1, Nat.add_zero, Nat.zero_add, Nat.mul_zero, if_true, if_false, if_pos, if_neg, sy_bi_ri, sy_bi_rt, sy_bv_rv, sy_bv_rt, sy_br_rr, sy_br_rn, sy_hi_ri, sy_hi_rt, sy_bs_t, sy_bx_t, sy_bb_t, bz_bo, ite_bz0, ite_bz1, jgX10_numberAt_5]
  · simp (disch := omega) only [zL, zlt, zle, zeq, zadd, zmul, zin, zix, zsh1, Nat.add_zero, Nat.zero_add, Nat.mul_zero, if_true, if_false, if_pos, if_neg, sy_bi_ri, sy_bi_rt, sy_bv_rv, sy_bv_rt, sy_br_rr, sy_br_rn, sy_hi_ri, sy_hi_rt, sy_bs_t, sy_bx_t, sy_bb_t, bz_bo, ite_bz0, ite_bz1, jgX10_numberAt_5]
end
