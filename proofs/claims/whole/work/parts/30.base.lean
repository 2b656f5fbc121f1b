/-! ===== small rows: results, small numbers, loops ===== -/
theorem sy_bi_ri (v : Int32) (M : sy_M) (k : Int32 → sy_M → sy_O) : sy_bi (sy_ri v M) k = k v M := rfl
theorem sy_bi_rt (c : Nat) (M : sy_M) (k : Int32 → sy_M → sy_O) : sy_bi (sy_rt c M) k = sy_rt c M := rfl
theorem sy_bv_rv (M : sy_M) (k : sy_M → sy_O) : sy_bv (sy_rv M) k = k M := rfl
theorem sy_bv_rt (c : Nat) (M : sy_M) (k : sy_M → sy_O) : sy_bv (sy_rt c M) k = sy_rt c M := rfl
theorem sy_br_rr (a : Nat) (M : sy_M) (k : Nat → sy_M → sy_O) (kn : sy_M → sy_O) : sy_br (sy_rr a M) k kn = k a M := rfl
theorem sy_br_rn (M : sy_M) (k : Nat → sy_M → sy_O) (kn : sy_M → sy_O) : sy_br (sy_rn M) k kn = kn M := rfl
theorem sy_hi_ri (v : Int32) (M : sy_M) (k : Int32 → sy_M → sy_O) (kt : Nat → sy_M → sy_O) : sy_hi (sy_ri v M) k kt = k v M := rfl
theorem sy_hi_rt (c : Nat) (M : sy_M) (k : Int32 → sy_M → sy_O) (kt : Nat → sy_M → sy_O) : sy_hi (sy_rt c M) k kt = kt c M := rfl
theorem sy_bs_t (A : sy_O) : sy_bs true A = A := rfl
theorem sy_bx_t (A : sy_O) : sy_bx true A = A := rfl
theorem sy_bb_t (A : sy_O) : sy_bb true A = A := rfl
theorem zlt {a b : Nat} (ha : a < 2147483648) (hb : b < 2147483648) : (Int32.ofNat a < Int32.ofNat b) ↔ a < b := by
  rw [Int32.lt_iff_toInt_lt, Int32.toInt_ofNat_of_lt ha, Int32.toInt_ofNat_of_lt hb]
  omega
theorem zle {a b : Nat} (ha : a < 2147483648) (hb : b < 2147483648) : (Int32.ofNat a ≤ Int32.ofNat b) ↔ a ≤ b := by
  rw [Int32.le_iff_toInt_le, Int32.toInt_ofNat_of_lt ha, Int32.toInt_ofNat_of_lt hb]
  omega
theorem zeq {a b : Nat} (ha : a < 2147483648) (hb : b < 2147483648) : (Int32.ofNat a = Int32.ofNat b) ↔ a = b := by
  rw [← Int32.toInt_inj, Int32.toInt_ofNat_of_lt ha, Int32.toInt_ofNat_of_lt hb]
  omega
theorem zL (b : Nat) : (OfNat.ofNat b : Int32) = Int32.ofNat b := rfl
theorem zix {k : Nat} (h : k < 2147483648) : (Int32.ofNat k).toNatClampNeg = k := Int32.toNatClampNeg_ofNat_of_lt h
theorem zin {k n : Nat} (h : k < n) (hn : n ≤ 2147483648) : xe_in (Int32.ofNat k) n = true := by
  unfold xe_in
  have h1 : (0 : Int32) ≤ Int32.ofNat k := (zle (a := 0) (by decide) (by omega)).mpr (Nat.zero_le _)
  rw [zix (by omega), decide_eq_true h1, decide_eq_true h]
  rfl
theorem zadd (a b : Nat) : Int32.ofNat a + Int32.ofNat b = Int32.ofNat (a + b) := (Int32.ofNat_add a b).symm
theorem zmul (a b : Nat) : Int32.ofNat a * Int32.ofNat b = Int32.ofNat (a * b) := (Int32.ofNat_mul a b).symm
theorem zsucc (a : Nat) : Int32.ofNat a + 1 = Int32.ofNat (a + 1) := zadd a 1
theorem zsub {a b : Nat} (h : b ≤ a) : Int32.ofNat a - Int32.ofNat b = Int32.ofNat (a - b) := (Int32.ofNat_sub a b h).symm
theorem zex {x : Int32} (h : 0 ≤ x) : x = Int32.ofNat x.toNatClampNeg := (Int32.ofNat_toNatClampNeg x h).symm
/-- a small number -/
theorem zex_lt {x : Int32} {n : Nat} (h : 0 ≤ x) (h2 : x < Int32.ofNat n) (hn : n < 2147483648) : ∃ k, k < n ∧ x = Int32.ofNat k := by
  refine ⟨x.toNatClampNeg, ?_, zex h⟩
  have h3 := h2
  rw [zex h] at h3
  exact (zlt x.toNatClampNeg_lt hn).mp h3
theorem zex_le {x : Int32} {n : Nat} (h : 0 ≤ x) (h2 : x ≤ Int32.ofNat n) (hn : n < 2147483648) : ∃ k, k ≤ n ∧ x = Int32.ofNat k := by
  refine ⟨x.toNatClampNeg, ?_, zex h⟩
  have h3 := h2
  rw [zex h] at h3
  exact (zle x.toNatClampNeg_lt hn).mp h3
theorem znlt {x y : Int32} : ¬ x < y ↔ y ≤ x := Int32.not_lt
theorem sy_ite_pos {c : Prop} [Decidable c] {A B : sy_O} (h : c) : (if c then A else B) = A := if_pos h
theorem sy_ite_neg {c : Prop} [Decidable c] {A B : sy_O} (h : ¬ c) : (if c then A else B) = B := if_neg h
/-- a loop as a fold: m more rounds, from i on -/
def sy_fo {α : Type} (f : Nat → α → α) : Nat → Nat → α → α
  | 0, _, a => a
  | m + 1, i, a => sy_fo f m (i + 1) (f i a)
theorem sy_fo_succ {α : Type} (f : Nat → α → α) (m i : Nat) (a : α) : sy_fo f (m + 1) i a = sy_fo f m (i + 1) (f i a) := rfl
theorem sy_fo_last {α : Type} (f : Nat → α → α) : ∀ (m i : Nat) (a : α), sy_fo f (m + 1) i a = f (i + m) (sy_fo f m i a)
  | 0, _, _ => rfl
  | m + 1, i, a => by
    have := sy_fo_last f m (i + 1) (f i a)
    rw [sy_fo_succ, this, sy_fo_succ]
    rw [show i + 1 + m = i + (m + 1) by omega]
theorem sy_fo_congr {α : Type} {f g : Nat → α → α} : ∀ (m i : Nat) (a : α), (∀ j b, i ≤ j → j < i + m → f j b = g j b) → sy_fo f m i a = sy_fo g m i a
  | 0, _, _, _ => rfl
  | m + 1, i, a, h => by
    rw [sy_fo_succ, sy_fo_succ, h i a (Nat.le_refl _) (by omega)]
    exact sy_fo_congr m (i + 1) _ (fun j b h1 h2 => h j b (by omega) (by omega))
/-- an invariant of a fold -/
theorem sy_fo_inv {α : Type} {f : Nat → α → α} {P : Nat → α → Prop} {n : Nat} (hp : ∀ i a, i < n → P i a → P (i + 1) (f i a)) : ∀ (m i : Nat) (a : α), i + m = n → P i a → P n (sy_fo f m i a)
  | 0, i, a, h, p => by
    have : i = n := by omega
    subst this
    exact p
  | m + 1, i, a, h, p => sy_fo_inv hp m (i + 1) _ (by omega) (hp i a (by omega) p)
/-- a loop that runs to its end -/
theorem sy_for {α : Type} {n : Nat} (L : Nat → Nat → α → sy_O) (f : Nat → α → α) (P : Nat → α → Prop) (hs : ∀ k i a, i < n → P i a → L (k + 1) i a = L k (i + 1) (f i a)) (hp : ∀ i a, i < n → P i a → P (i + 1) (f i a)) : ∀ (m i : Nat) (a : α) (k : Nat), i + m = n → P i a → L (k + m) i a = L k n (sy_fo f m i a)
  | 0, i, a, k, h, p => by
    have : i = n := by omega
    subst this
    rfl
  | m + 1, i, a, k, h, p => by
    rw [show k + (m + 1) = (k + m) + 1 by omega, hs (k + m) i a (by omega) p]
    exact sy_for L f P hs hp m (i + 1) (f i a) k (by omega) (hp i a (by omega) p)
/-- the same, with no invariant -/
theorem sy_for0 {α : Type} {n : Nat} (L : Nat → Nat → α → sy_O) (f : Nat → α → α) (hs : ∀ k i a, i < n → L (k + 1) i a = L k (i + 1) (f i a)) (m i : Nat) (a : α) (k : Nat) (h : i + m = n) : L (k + m) i a = L k n (sy_fo f m i a) :=
  sy_for L f (fun _ _ => True) (fun k i a hi _ => hs k i a hi) (fun _ _ _ _ => trivial) m i a k h trivial
/-- the same with a fuel that is written -/
theorem sy_for1 {α : Type} {n : Nat} {F : Nat} (L : Nat → Nat → α → sy_O) (f : Nat → α → α) (hs : ∀ k i a, i < n → L (k + 1) i a = L k (i + 1) (f i a)) (a : α) (hF : n < F) : ∃ k, L F 0 a = L (k + 1) n (sy_fo f n 0 a) := by
  refine ⟨F - n - 1, ?_⟩
  have := sy_for0 L f hs n 0 a (F - n - 1 + 1) (by omega)
  rw [show F - n - 1 + 1 + n = F by omega] at this
  exact this
theorem sy_for2 {α : Type} {n : Nat} {F : Nat} (L : Nat → Nat → α → sy_O) (f : Nat → α → α) (P : Nat → α → Prop) (hs : ∀ k i a, i < n → P i a → L (k + 1) i a = L k (i + 1) (f i a)) (hp : ∀ i a, i < n → P i a → P (i + 1) (f i a)) (a : α) (h0 : P 0 a) (hF : n < F) : ∃ k, L F 0 a = L (k + 1) n (sy_fo f n 0 a) ∧ P n (sy_fo f n 0 a) := by
  refine ⟨F - n - 1, ?_, sy_fo_inv hp n 0 a (by omega) h0⟩
  have := sy_for L f P hs hp n 0 a (F - n - 1 + 1) (by omega) h0
  rw [show F - n - 1 + 1 + n = F by omega] at this
  exact this
theorem sy_and1 (x : Int32) : x &&& 1 = 0 ∨ x &&& 1 = 1 := by
  have h : x.toBitVec &&& 1#32 = 0#32 ∨ x.toBitVec &&& 1#32 = 1#32 := by
    rw [BitVec.and_one_eq_setWidth_ofBool_getLsbD]
    cases x.toBitVec.getLsbD 0
    · exact Or.inl rfl
    · exact Or.inr rfl
  rcases h with h | h
  · exact Or.inl (Int32.toBitVec.inj (by simpa using h))
  · exact Or.inr (Int32.toBitVec.inj (by simpa using h))
theorem sy_and1_ne (x : Int32) : (x &&& 1 = 0) ↔ ¬ (x &&& 1 = 1) := by
  rcases sy_and1 x with h | h
  · rw [h]; decide
  · rw [h]; decide
/-- a number shifted by a small one -/
theorem zsh {p : Nat} (h : p < 32) : Int32.ofNat p &&& 31 = Int32.ofNat p := by
  have : ∀ p : Fin 32, Int32.ofNat p.1 &&& 31 = Int32.ofNat p.1 := by decide
  exact this ⟨p, h⟩
/-- a loop: each round goes on, or ends in what is wanted -/
theorem sy_forR {α : Type} {n F : Nat} {R : sy_O → Prop} (L : Nat → Nat → α → sy_O) (P : Nat → α → Prop) (hs : ∀ k i a, i < n → P i a → (∃ a', L (k + 1) i a = L k (i + 1) a' ∧ P (i + 1) a') ∨ R (L (k + 1) i a)) (he : ∀ k a, P n a → R (L (k + 1) n a)) (a : α) (h0 : P 0 a) (hF : n < F) : R (L F 0 a) := by
  have key : ∀ (m i k : Nat) (a : α), i + m = n → P i a → R (L (k + m + 1) i a) := by
    intro m
    induction m with
    | zero =>
      intro i k a h p
      have : i = n := by omega
      subst this
      exact he k a p
    | succ m ih =>
      intro i k a h p
      rcases hs (k + m + 1) i a (by omega) p with ⟨a', e, p'⟩ | r
      · rw [show k + (m + 1) + 1 = k + m + 1 + 1 by omega, e]
        exact ih (i + 1) k a' (by omega) p'
      · exact r
  have := key n 0 (F - n - 1) a (by omega) h0
  rwa [show F - n - 1 + n + 1 = F by omega] at this
/-- a whole cell is written -/
def syc (M : sy_M) (a : Nat) (f : Nat → Int32) : sy_M := fun b => if b = a then f else M b
/-- a row with one place written -/
def rs (f : Nat → Int32) (j : Nat) (v : Int32) : Nat → Int32 := fun i => if i = j then v else f i
theorem sy_upd_st (M : sy_M) (a j : Nat) (v : Int32) : sy_upd M a j v = syc M a (rs (M a) j v) := by
  funext b i
  unfold sy_upd syc rs
  by_cases h : b = a
  · subst h
    rw [if_pos rfl, if_pos rfl]
  · rw [if_neg h, if_neg h]
theorem syc_at (M : sy_M) (a : Nat) (f : Nat → Int32) : syc M a f a = f := if_pos rfl
theorem syc_ne (M : sy_M) {a b : Nat} (f : Nat → Int32) (h : b ≠ a) : syc M a f b = M b := if_neg h
theorem syc_st (M : sy_M) (a : Nat) (f g : Nat → Int32) : syc (syc M a f) a g = syc M a g := by
  funext b
  unfold syc
  by_cases h : b = a
  · rw [if_pos h, if_pos h]
  · rw [if_neg h, if_neg h, if_neg h]
theorem syc_self (M : sy_M) (a : Nat) : syc M a (M a) = M := by
  funext b
  unfold syc
  by_cases h : b = a
  · subst h
    rw [if_pos rfl]
  · rw [if_neg h]
theorem syc_comm (M : sy_M) {a b : Nat} (f g : Nat → Int32) (h : a ≠ b) : syc (syc M a f) b g = syc (syc M b g) a f := by
  funext c
  unfold syc
  by_cases h1 : c = b
  · subst h1
    rw [if_pos rfl, if_neg (fun z => h z.symm), if_pos rfl]
  · rw [if_neg h1]
    by_cases h2 : c = a
    · rw [if_pos h2, if_pos h2]
    · rw [if_neg h2, if_neg h2, if_neg h1]
theorem rs_at (f : Nat → Int32) (j : Nat) (v : Int32) : rs f j v j = v := if_pos rfl
theorem rs_ne (f : Nat → Int32) {j i : Nat} (v : Int32) (h : i ≠ j) : rs f j v i = f i := if_neg h
theorem rs_rs (f : Nat → Int32) (j : Nat) (v w : Int32) : rs (rs f j v) j w = rs f j w := by
  funext i
  unfold rs
  by_cases h : i = j
  · rw [if_pos h, if_pos h]
  · rw [if_neg h, if_neg h, if_neg h]
/-- yes or no as a number -/
def bz (b : Bool) : Int32 := bif b then 1 else 0
theorem bz_0 (b : Bool) : (bz b = 0) ↔ b = false := by cases b <;> decide
theorem bz_1 (b : Bool) : (bz b = 1) ↔ b = true := by cases b <;> decide
theorem bz_bo (b : Bool) : sy_bo (bz b) = true := by cases b <;> rfl
theorem sy_ite_bz {b : Bool} {A B : sy_O} : (if bz b = 0 then A else B) = bif b then B else A := by cases b <;> rfl
/-- the lesser of two, the greater -/
def sp_min (a b : Int32) : Int32 := if a < b then a else b
def sp_max (a b : Int32) : Int32 := if b < a then a else b
theorem zsh1 {p : Nat} (h : p < 32) : Int32.ofNat p &&& (Int32.ofNat 31) = Int32.ofNat p := zsh h
theorem ite_bz0 {b : Bool} {A B : sy_O} : (if bz b = (Int32.ofNat 0) then A else B) = bif b then B else A := by cases b <;> rfl
theorem ite_bz1 {b : Bool} {A B : sy_O} : (if bz b = (Int32.ofNat 1) then A else B) = bif b then A else B := by cases b <;> rfl
theorem bz_if {b : Bool} : (bif b then (Int32.ofNat 1) else (Int32.ofNat 0)) = bz b := rfl
theorem ri_bz {b : Bool} {M : sy_M} : (bif b then sy_ri (Int32.ofNat 1) M else sy_ri (Int32.ofNat 0) M) = sy_ri (bz b) M := by cases b <;> rfl
theorem ri_bzn {b : Bool} {M : sy_M} : (bif b then sy_ri (Int32.ofNat 0) M else sy_ri (Int32.ofNat 1) M) = sy_ri (bz (!b)) M := by cases b <;> rfl
theorem ite_de {c : Prop} [Decidable c] {A B : sy_O} : (if c then A else B) = bif decide c then A else B := by
  by_cases h : c
  · rw [if_pos h, decide_eq_true h]; rfl
  · rw [if_neg h, decide_eq_false h]; rfl
