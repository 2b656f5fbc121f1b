/-! ===== rings of debts ===== -/
/-- how many of the first -/
def rg_ct (b : Nat → Bool) : Nat → Nat
  | 0 => 0
  | m + 1 => rg_ct b m + (bif b m then 1 else 0)
theorem rg_ct_s (b : Nat → Bool) (m : Nat) : rg_ct b (m + 1) = rg_ct b m + (bif b m then 1 else 0) := rfl
theorem rg_ct_le (b : Nat → Bool) : ∀ m, rg_ct b m ≤ m
  | 0 => Nat.le_refl _
  | m + 1 => by
    have := rg_ct_le b m
    rw [rg_ct_s]
    cases b m
    · rw [cond_false]; omega
    · rw [cond_true]; omega
theorem rg_ct_mono {b c : Nat → Bool} : ∀ m, (∀ q, q < m → b q = true → c q = true) → rg_ct b m ≤ rg_ct c m
  | 0, _ => Nat.le_refl _
  | m + 1, h => by
    have := rg_ct_mono m (fun q hq => h q (by omega))
    have h1 := h m (by omega)
    rw [rg_ct_s, rg_ct_s]
    cases hb : b m
    · rw [cond_false]; omega
    · rw [h1 hb, cond_true]; omega
theorem rg_ct_lt {b c : Nat → Bool} : ∀ m, (∀ q, q < m → b q = true → c q = true) → (∃ q, q < m ∧ b q = false ∧ c q = true) → rg_ct b m < rg_ct c m
  | 0, _, h => by
    obtain ⟨q, hq, _⟩ := h
    omega
  | m + 1, h, hx => by
    have h1 := h m (by omega)
    have l1 := rg_ct_mono m (fun q hq => h q (Nat.lt_succ_of_lt hq))
    rw [rg_ct_s, rg_ct_s]
    obtain ⟨q, hq, q1, q2⟩ := hx
    by_cases e : q = m
    · subst e
      rw [q1, q2, cond_false, cond_true]; omega
    · have := rg_ct_lt m (fun q hq => h q (Nat.lt_succ_of_lt hq)) ⟨q, by omega, q1, q2⟩
      cases hb : b m
      · rw [cond_false]; omega
      · rw [h1 hb, cond_true]; omega
section
variable {n p : Nat} {E : Nat → Nat → Prop} {B : Nat → Nat → Bool}
def rg_st (n : Nat) (B : Nat → Nat → Bool) (j : Nat) : Prop := ∀ q, q < n → B (j + 1) q = B j q
theorem rg_eqB {a b : Bool} (h : a = true ↔ b = true) : a = b := by
  cases a <;> cases b
  · rfl
  · exact absurd (h.mpr rfl) (by decide)
  · exact absurd (h.mp rfl) (by decide)
  · rfl
theorem rg_prop (hs : ∀ k q, q < n → (B (k + 1) q = true ↔ B k q = true ∨ ∃ a, a < n ∧ (B k a = true ∨ a = p) ∧ E a q)) {j : Nat} (h : rg_st n B j) : ∀ m, j ≤ m → ∀ q, q < n → B m q = B j q
  | 0, hm => fun q _ => by
    have : j = 0 := by omega
    subst this
    rfl
  | m + 1, hm => fun q hq => by
    by_cases e : j = m + 1
    · subst e; rfl
    · have ih := rg_prop hs h m (by omega)
      rw [← h q hq]
      refine rg_eqB ?_
      rw [hs m q hq, hs j q hq, ih q hq]
      constructor
      · rintro (x | ⟨a, ha, x, y⟩)
        · exact Or.inl x
        · rw [ih a ha] at x
          exact Or.inr ⟨a, ha, x, y⟩
      · rintro (x | ⟨a, ha, x, y⟩)
        · exact Or.inl x
        · rw [← ih a ha] at x
          exact Or.inr ⟨a, ha, x, y⟩
theorem rg_stab (hs : ∀ k q, q < n → (B (k + 1) q = true ↔ B k q = true ∨ ∃ a, a < n ∧ (B k a = true ∨ a = p) ∧ E a q)) (k : Nat) (hk : n ≤ k) (q : Nat) (hq : q < n) : B k q = B n q := by
  have key : ∀ k, (∃ j, j < k ∧ rg_st n B j) ∨ k ≤ rg_ct (B k) n := by
    intro k
    induction k with
    | zero => exact Or.inr (Nat.zero_le _)
    | succ k ih =>
      rcases ih with ⟨j, hj, st⟩ | ih
      · exact Or.inl ⟨j, by omega, st⟩
      · by_cases st : rg_st n B k
        · exact Or.inl ⟨k, by omega, st⟩
        · right
          have mono : ∀ q, q < n → B k q = true → B (k + 1) q = true := fun q hq h => (hs k q hq).mpr (Or.inl h)
          have ex : ∃ q, q < n ∧ B k q = false ∧ B (k + 1) q = true := by
            refine Classical.byContradiction fun no => st fun q hq => ?_
            cases h1 : B k q with
            | true => exact mono q hq h1
            | false =>
              cases h2 : B (k + 1) q with
              | false => rfl
              | true => exact absurd ⟨q, hq, h1, h2⟩ no
          have := rg_ct_lt n mono ex
          omega
  rcases key (n + 1) with ⟨j, hj, st⟩ | h
  · rw [rg_prop hs st k (by omega) q hq, rg_prop hs st n (by omega) q hq]
  · have := rg_ct_le (B (n + 1)) n
    omega
end
section
variable {A : (Nat → Int32) → Nat → Int32 × Bool} {tx : (Nat → Int32) → Prop} {L0 : Int32} {S : Nat → Int32} {e : Nat} {M : sy_M}
def rgE (f : Nat → Int32) (a b : Nat) : Bool := decide ((Int32.ofNat 0) < f (77 + 7 * a + b))
def rg2 (f : Nat → Int32) (a : Nat) (s c : Int32) (m : Nat) : Int32 := sy_fo (fun b c => bif sp_bit s a && rgE f a b then c ||| (Int32.ofNat 1) <<< Int32.ofNat b else c) m 0 c
theorem rg2_s (f : Nat → Int32) (a : Nat) (s c : Int32) (m : Nat) : rg2 f a s c (m + 1) = bif sp_bit s a && rgE f a m then rg2 f a s c m ||| (Int32.ofNat 1) <<< Int32.ofNat m else rg2 f a s c m := by
  unfold rg2
  rw [sy_fo_last, Nat.zero_add]
theorem bit_rg2 {f : Nat → Int32} {a : Nat} {s c : Int32} {q : Nat} (hq : q < 7) : ∀ m, m ≤ 7 → (sp_bit (rg2 f a s c m) q = true ↔ sp_bit c q = true ∨ (sp_bit s a = true ∧ rgE f a q = true ∧ q < m))
  | 0, _ => by
    constructor
    · exact Or.inl
    · rintro (h | ⟨_, _, h⟩)
      · exact h
      · omega
  | m + 1, hm => by
    have ih := bit_rg2 (f := f) (a := a) (s := s) (c := c) hq m (by omega)
    rw [rg2_s]
    by_cases h : (sp_bit s a && rgE f a m) = true
    · rw [h, cond_true, sp_bit_or _ _ (by omega), Bool.or_eq_true, bit_1 hq (by omega), decide_eq_true_iff, ih]
      rw [Bool.and_eq_true] at h
      constructor
      · rintro ((x | ⟨x, y, z⟩) | x)
        · exact Or.inl x
        · exact Or.inr ⟨x, y, by omega⟩
        · subst x
          exact Or.inr ⟨h.1, h.2, by omega⟩
      · rintro (x | ⟨x, y, z⟩)
        · exact Or.inl (Or.inl x)
        · by_cases e : q = m
          · exact Or.inr e
          · exact Or.inl (Or.inr ⟨x, y, by omega⟩)
    · rw [eq_false_of_ne_true h, cond_false, ih]
      constructor
      · rintro (x | ⟨x, y, z⟩)
        · exact Or.inl x
        · exact Or.inr ⟨x, y, by omega⟩
      · rintro (x | ⟨x, y, z⟩)
        · exact Or.inl x
        · by_cases e : q = m
          · subst e
            exact absurd (by rw [x, y]; rfl) h
          · exact Or.inr ⟨x, y, by omega⟩
def rg1 (f : Nat → Int32) (n : Nat) (s c : Int32) (m : Nat) : Int32 := sy_fo (fun a c => rg2 f a s c n) m 0 c
theorem rg1_s (f : Nat → Int32) (n : Nat) (s c : Int32) (m : Nat) : rg1 f n s c (m + 1) = rg2 f m s (rg1 f n s c m) n := by
  unfold rg1
  rw [sy_fo_last, Nat.zero_add]
theorem bit_rg1 {f : Nat → Int32} {n : Nat} {s c : Int32} {q : Nat} (hq : q < 7) (h7 : n ≤ 7) : ∀ m, m ≤ 7 → (sp_bit (rg1 f n s c m) q = true ↔ sp_bit c q = true ∨ ∃ a, a < m ∧ sp_bit s a = true ∧ rgE f a q = true ∧ q < n)
  | 0, _ => by
    constructor
    · exact Or.inl
    · rintro (h | ⟨_, h, _⟩)
      · exact h
      · omega
  | m + 1, hm => by
    rw [rg1_s, bit_rg2 hq n h7, bit_rg1 hq h7 m (by omega)]
    constructor
    · rintro ((x | ⟨a, x, y⟩) | x)
      · exact Or.inl x
      · exact Or.inr ⟨a, by omega, y⟩
      · exact Or.inr ⟨m, by omega, x⟩
    · rintro (x | ⟨a, x, y⟩)
      · exact Or.inl (Or.inl x)
      · by_cases e : a = m
        · subst e
          exact Or.inr y
        · exact Or.inl (Or.inr ⟨a, by omega, y⟩)
def rgc (f : Nat → Int32) (n p : Nat) : Nat → Int32 × Int32
  | 0 => ((Int32.ofNat 0), (Int32.ofNat 1) <<< Int32.ofNat p)
  | k + 1 => (rg1 f n (rgc f n p k).2 (rgc f n p k).1 n, (rgc f n p k).2 ||| rg1 f n (rgc f n p k).2 (rgc f n p k).1 n)
theorem rgc_s (f : Nat → Int32) (n p k : Nat) : rgc f n p (k + 1) = (rg1 f n (rgc f n p k).2 (rgc f n p k).1 n, (rgc f n p k).2 ||| rg1 f n (rgc f n p k).2 (rgc f n p k).1 n) := rfl
theorem rgc_2 {f : Nat → Int32} {n p : Nat} (h7 : n ≤ 7) (hp : p < 7) {a : Nat} (ha : a < 7) : ∀ k, sp_bit (rgc f n p k).2 a = true ↔ sp_bit (rgc f n p k).1 a = true ∨ a = p
  | 0 => by
    show sp_bit ((Int32.ofNat 1) <<< Int32.ofNat p) a = true ↔ sp_bit (Int32.ofNat 0) a = true ∨ a = p
    rw [bit_1 ha hp, decide_eq_true_iff, bit_0 ha]
    constructor
    · exact Or.inr
    · rintro (h | h)
      · exact absurd h (by decide)
      · exact h
  | k + 1 => by
    have ih := rgc_2 (f := f) h7 hp ha k
    rw [rgc_s]
    show sp_bit ((rgc f n p k).2 ||| rg1 f n (rgc f n p k).2 (rgc f n p k).1 n) a = true ↔ sp_bit (rg1 f n (rgc f n p k).2 (rgc f n p k).1 n) a = true ∨ a = p
    rw [sp_bit_or _ _ (by omega), Bool.or_eq_true, ih]
    have m1 : sp_bit (rgc f n p k).1 a = true → sp_bit (rg1 f n (rgc f n p k).2 (rgc f n p k).1 n) a = true := fun h => (bit_rg1 ha h7 n h7).mpr (Or.inl h)
    constructor
    · rintro ((x | x) | x)
      · exact Or.inl (m1 x)
      · exact Or.inr x
      · exact Or.inl x
    · rintro (x | x)
      · exact Or.inr x
      · exact Or.inl (Or.inr x)
theorem rgc_B {f : Nat → Int32} {n p : Nat} (h7 : n ≤ 7) (hp : p < 7) (k q : Nat) (hq : q < n) : sp_bit (rgc f n p (k + 1)).1 q = true ↔ sp_bit (rgc f n p k).1 q = true ∨ ∃ a, a < n ∧ (sp_bit (rgc f n p k).1 a = true ∨ a = p) ∧ rgE f a q = true := by
  rw [rgc_s]
  show sp_bit (rg1 f n (rgc f n p k).2 (rgc f n p k).1 n) q = true ↔ _
  rw [bit_rg1 (by omega) h7 n h7]
  constructor
  · rintro (x | ⟨a, x, y, z, _⟩)
    · exact Or.inl x
    · exact Or.inr ⟨a, x, (rgc_2 h7 hp (by omega) k).mp y, z⟩
  · rintro (x | ⟨a, x, y, z⟩)
    · exact Or.inl x
    · exact Or.inr ⟨a, x, (rgc_2 h7 hp (by omega) k).mpr y, z, hq⟩
theorem m_rg2 {f : Nat → Int32} {n a r : Nat} {p s c : Int32} (k35 : Int32 → Int32 → Int32 → Int32 → sy_M → sy_O) (k45 : Int32 → Int32 → Int32 → Int32 → Int32 → sy_M → sy_O) (hf : M 122 = f) (hn : f 3 = Int32.ofNat n) (h7 : n ≤ 7) (ha : a < 7) : jfX12_ring_59 k35 k45 sy_F p c s (Int32.ofNat r) (Int32.ofNat a) (Int32.ofNat 0) M = k45 p (rg2 f a s c n) s (Int32.ofNat r) (Int32.ofNat (a + 1)) M := by
  unfold rg2
  obtain ⟨k, hk⟩ := sy_for1 (n := n) (F := sy_F) (fun k i (c : Int32) => jfX12_ring_59 k35 k45 k p c s (Int32.ofNat r) (Int32.ofNat a) (Int32.ofNat i) M) (fun b c => bif sp_bit s a && rgE f a b then c ||| (Int32.ofNat 1) <<< Int32.ofNat b else c) (by
    intro k i c hi
    show jgX12_ring_59 k35 k45 (jfX12_ring_59 k35 k45 k) p c s (Int32.ofNat r) (Int32.ofNat a) (Int32.ofNat i) M = _
    unfold rgE
    simp (disch := omega) only [zL, zlt, zle, zeq, zadd, zmul, zin, zix, zsh1, Nat.add_zero, Nat.zero_add, Nat.mul_zero, if_true, if_false, if_pos, if_neg, sy_bi_ri, sy_bi_rt, sy_bv_rv, sy_bv_rt, sy_br_rr, sy_br_rn, sy_hi_ri, sy_hi_rt, sy_bs_t, sy_bx_t, sy_bb_t, bz_bo, ite_bz0, ite_bz1, jgX12_ring_59, jfX12_ring_97, hf, hn, m_isOf, m_owed]
    cases sp_bit s a with
    | false => rfl
    | true =>
      by_cases h : (Int32.ofNat 0) < f (77 + 7 * a + i)
      · rw [if_pos h, decide_eq_true h]; rfl
      · rw [if_neg h, decide_eq_false h]; rfl) c (by rw [sy_F_eq]; omega)
  refine hk.trans ?_
  show jgX12_ring_59 k35 k45 (jfX12_ring_59 k35 k45 k) p _ s (Int32.ofNat r) (Int32.ofNat a) (Int32.ofNat n) M = _
  simp (disch := omega) only [zL, zlt, zle, zeq, zadd, zmul, zin, zix, zsh1, Nat.add_zero, Nat.zero_add, Nat.mul_zero, if_true, if_false, if_pos, if_neg, sy_bi_ri, sy_bi_rt, sy_bv_rv, sy_bv_rt, sy_br_rr, sy_br_rn, sy_hi_ri, sy_hi_rt, sy_bs_t, sy_bx_t, sy_bb_t, bz_bo, ite_bz0, ite_bz1, jgX12_ring_59, hf, hn]
theorem m_rg1 {f : Nat → Int32} {n r : Nat} {p s c : Int32} (k35 : Int32 → Int32 → Int32 → Int32 → sy_M → sy_O) (hf : M 122 = f) (hn : f 3 = Int32.ofNat n) (h7 : n ≤ 7) : jfX12_ring_45 k35 sy_F p c s (Int32.ofNat r) (Int32.ofNat 0) M = k35 p (rg1 f n s c n) (s ||| rg1 f n s c n) (Int32.ofNat (r + 1)) M := by
  unfold rg1
  obtain ⟨k, hk⟩ := sy_for1 (n := n) (F := sy_F) (fun k i (c : Int32) => jfX12_ring_45 k35 k p c s (Int32.ofNat r) (Int32.ofNat i) M) (fun a c => rg2 f a s c n) (by
    intro k i c hi
    show jgX12_ring_45 k35 (jfX12_ring_45 k35 k) p c s (Int32.ofNat r) (Int32.ofNat i) M = _
    simp (disch := omega) only [zL, zlt, zle, zeq, zadd, zmul, zin, zix, zsh1, Nat.add_zero, Nat.zero_add, Nat.mul_zero, if_true, if_false, if_pos, if_neg, sy_bi_ri, sy_bi_rt, sy_bv_rv, sy_bv_rt, sy_br_rr, sy_br_rn, sy_hi_ri, sy_hi_rt, sy_bs_t, sy_bx_t, sy_bb_t, bz_bo, ite_bz0, ite_bz1, jgX12_ring_45, hf, hn, m_rg2 k35 (jfX12_ring_45 k35 k) hf hn h7]) c (by rw [sy_F_eq]; omega)
  refine hk.trans ?_
  show jgX12_ring_45 k35 (jfX12_ring_45 k35 k) p _ s (Int32.ofNat r) (Int32.ofNat n) M = _
  simp (disch := omega) only [zL, zlt, zle, zeq, zadd, zmul, zin, zix, zsh1, Nat.add_zero, Nat.zero_add, Nat.mul_zero, if_true, if_false, if_pos, if_neg, sy_bi_ri, sy_bi_rt, sy_bv_rv, sy_bv_rt, sy_br_rr, sy_br_rn, sy_hi_ri, sy_hi_rt, sy_bs_t, sy_bx_t, sy_bb_t, bz_bo, ite_bz0, ite_bz1, jgX12_ring_45, hf, hn]
theorem m_rgc {f : Nat → Int32} {n p : Nat} (hf : M 122 = f) (hn : f 3 = Int32.ofNat n) (h7 : n ≤ 7) (hp : p < 7) : jfX12_ring_35 sy_F (Int32.ofNat p) (Int32.ofNat 0) ((Int32.ofNat 1) <<< Int32.ofNat p) (Int32.ofNat 0) M = sy_ri (bz (sp_bit (rgc f n p 7).1 p)) M := by
  refine sy_forR (n := 7) (F := sy_F) (R := fun c => c = sy_ri (bz (sp_bit (rgc f n p 7).1 p)) M) (fun k i (_ : Unit) => jfX12_ring_35 k (Int32.ofNat p) (rgc f n p i).1 (rgc f n p i).2 (Int32.ofNat i) M) (fun _ _ => True) ?_ ?_ () trivial (by rw [sy_F_eq]; omega)
  · intro k i _ hi _
    refine Or.inl ⟨(), ?_, trivial⟩
    show jgX12_ring_35 (jfX12_ring_35 k) (Int32.ofNat p) (rgc f n p i).1 (rgc f n p i).2 (Int32.ofNat i) M = _
    rw [rgc_s]
    simp (disch := omega) only [zL, zlt, zle, zeq, zadd, zmul, zin, zix, zsh1, Nat.add_zero, Nat.zero_add, Nat.mul_zero, if_true, if_false, if_pos, if_neg, sy_bi_ri, sy_bi_rt, sy_bv_rv, sy_bv_rt, sy_br_rr, sy_br_rn, sy_hi_ri, sy_hi_rt, sy_bs_t, sy_bx_t, sy_bb_t, bz_bo, ite_bz0, ite_bz1, jgX12_ring_35, m_rg1 (jfX12_ring_35 k) hf hn h7]
  · intro k _ _
    show jgX12_ring_35 (jfX12_ring_35 k) (Int32.ofNat p) (rgc f n p 7).1 (rgc f n p 7).2 (Int32.ofNat 7) M = _
    simp (disch := omega) only [zL, zlt, zle, zeq, zadd, zmul, zin, zix, zsh1, Nat.add_zero, Nat.zero_add, Nat.mul_zero, if_true, if_false, if_pos, if_neg, sy_bi_ri, sy_bi_rt, sy_bv_rv, sy_bv_rt, sy_br_rr, sy_br_rn, sy_hi_ri, sy_hi_rt, sy_bs_t, sy_bx_t, sy_bb_t, bz_bo, ite_bz0, ite_bz1, jgX12_ring_35, m_isOf]
/-- the class -/
def rgd (f : Nat → Int32) (a m : Nat) : Int32 := sy_fo (fun b x => x ||| (bif rgE f a b then (Int32.ofNat 1) <<< Int32.ofNat b else (Int32.ofNat 0))) m 0 (Int32.ofNat 0)
theorem rgd_s (f : Nat → Int32) (a m : Nat) : rgd f a (m + 1) = rgd f a m ||| (bif rgE f a m then (Int32.ofNat 1) <<< Int32.ofNat m else (Int32.ofNat 0)) := by
  unfold rgd
  rw [sy_fo_last, Nat.zero_add]
theorem bit_rgd {f : Nat → Int32} {a q : Nat} (hq : q < 7) : ∀ m, m ≤ 7 → (sp_bit (rgd f a m) q = true ↔ rgE f a q = true ∧ q < m)
  | 0, _ => by
    show sp_bit (Int32.ofNat 0) q = true ↔ _
    rw [bit_0 hq]
    constructor
    · intro h
      exact absurd h (by decide)
    · intro h
      omega
  | m + 1, hm => by
    rw [rgd_s, sp_bit_or _ _ (by omega), Bool.or_eq_true, bit_rgd hq m (by omega)]
    cases h : rgE f a m with
    | false =>
      rw [cond_false, bit_0 hq]
      constructor
      · rintro (x | x)
        · exact ⟨x.1, by omega⟩
        · exact absurd x (by decide)
      · intro x
        by_cases e : q = m
        · subst e
          exact absurd (h.symm.trans x.1) (by decide)
        · exact Or.inl ⟨x.1, by omega⟩
    | true =>
      rw [cond_true, bit_1 hq (by omega), decide_eq_true_iff]
      constructor
      · rintro (x | x)
        · exact ⟨x.1, by omega⟩
        · subst x
          exact ⟨h, by omega⟩
      · intro x
        by_cases e : q = m
        · exact Or.inr e
        · exact Or.inl ⟨x.1, by omega⟩
theorem c_cred {h n p : Nat} {f : Nat → Int32} (H : hv M h f) (hn : f 3 = Int32.ofNat n) (h7 : n ≤ 7) (hp : p < 7) : jfX2_creditors h (Int32.ofNat p) M = sy_ri (rgd f p n) M := by
  unfold jfX2_creditors rgd
  obtain ⟨k, hk⟩ := sy_for1 (n := n) (F := sy_F) (fun k i (x : Int32) => jfX2_creditors_4 k h (Int32.ofNat p) x (Int32.ofNat i) M) (fun b x => x ||| (bif rgE f p b then (Int32.ofNat 1) <<< Int32.ofNat b else (Int32.ofNat 0))) (by
    intro k i x hi
    show jgX2_creditors_4 (jfX2_creditors_4 k) h (Int32.ofNat p) x (Int32.ofNat i) M = _
    simp (disch := omega) only [zL, zlt, zle, zeq, zadd, zmul, zin, zix, zsh1, Nat.add_zero, Nat.zero_add, Nat.mul_zero, if_true, if_false, if_pos, if_neg, sy_bi_ri, sy_bi_rt, sy_bv_rv, sy_bv_rt, sy_br_rr, sy_br_rn, sy_hi_ri, sy_hi_rt, sy_bs_t, sy_bx_t, sy_bb_t, bz_bo, ite_bz0, ite_bz1, jgX2_creditors_4, jfX2_creditors_29, H.1, hv_3 H, hn, c_owed H]
    (unfold rgE; by_cases q : (Int32.ofNat 0) < f (77 + 7 * p + i); (rw [if_pos q, decide_eq_true q]; rfl); (rw [if_neg q, decide_eq_false q]; rfl))) (Int32.ofNat 0) (by rw [sy_F_eq]; omega)
  refine hk.trans ?_
  show jgX2_creditors_4 (jfX2_creditors_4 k) h (Int32.ofNat p) _ (Int32.ofNat n) M = _
  simp (disch := omega) only [zL, zlt, zle, zeq, zadd, zmul, zin, zix, zsh1, Nat.add_zero, Nat.zero_add, Nat.mul_zero, if_true, if_false, if_pos, if_neg, sy_bi_ri, sy_bi_rt, sy_bv_rv, sy_bv_rt, sy_br_rr, sy_br_rn, sy_hi_ri, sy_hi_rt, sy_bs_t, sy_bx_t, sy_bb_t, bz_bo, ite_bz0, ite_bz1, jgX2_creditors_4, H.1, hv_3 H, hn]
def rgr (f : Nat → Int32) (n : Nat) (r : Int32) (m : Nat) : Int32 := sy_fo (fun i x => bif sp_bit x i then x ||| rgd f i n else x) m 0 r
theorem rgr_s (f : Nat → Int32) (n : Nat) (r : Int32) (m : Nat) : rgr f n r (m + 1) = bif sp_bit (rgr f n r m) m then rgr f n r m ||| rgd f m n else rgr f n r m := by
  unfold rgr
  rw [sy_fo_last, Nat.zero_add]
theorem rgr_lo {f : Nat → Int32} {n : Nat} {r : Int32} (h7 : n ≤ 7) : ∀ m, m ≤ 7 → (∀ q, q < 7 → sp_bit r q = true → sp_bit (rgr f n r m) q = true) ∧ (∀ a, a < m → sp_bit r a = true → ∀ q, q < n → rgE f a q = true → sp_bit (rgr f n r m) q = true)
  | 0, _ => ⟨fun q _ h => h, fun a ha => by omega⟩
  | m + 1, hm => by
    obtain ⟨i1, i2⟩ := rgr_lo (f := f) (r := r) h7 m (by omega)
    have up : ∀ q, q < 7 → sp_bit (rgr f n r m) q = true → sp_bit (rgr f n r (m + 1)) q = true := by
      intro q hq h
      rw [rgr_s]
      cases sp_bit (rgr f n r m) m with
      | false => exact h
      | true => rw [cond_true, sp_bit_or _ _ (by omega), h]; rfl
    refine ⟨fun q hq h => up q hq (i1 q hq h), fun a ha h q hq he => ?_⟩
    by_cases e : a = m
    · subst e
      rw [rgr_s, i1 a (by omega) h, cond_true, sp_bit_or _ _ (by omega), (bit_rgd (by omega) n h7).mpr ⟨he, hq⟩, Bool.or_true]
    · exact up q (by omega) (i2 a (by omega) h q hq he)
theorem rgr_up {f : Nat → Int32} {n : Nat} {r : Int32} (h7 : n ≤ 7) {C : Nat → Prop} (hc : ∀ a q, a < n → q < n → C a → rgE f a q = true → C q) (h0 : ∀ q, q < 7 → sp_bit r q = true → q < n ∧ C q) : ∀ m, m ≤ 7 → ∀ q, q < 7 → sp_bit (rgr f n r m) q = true → q < n ∧ C q
  | 0, _ => h0
  | m + 1, hm => fun q hq => by
    have ih := rgr_up h7 hc h0 m (by omega)
    rw [rgr_s]
    cases h : sp_bit (rgr f n r m) m with
    | false => exact ih q hq
    | true =>
      rw [cond_true, sp_bit_or _ _ (by omega), Bool.or_eq_true, bit_rgd hq n h7]
      have cm := ih m (by omega) h
      rintro (x | ⟨x, y⟩)
      · exact ih q hq x
      · exact ⟨y, hc m q cm.1 y cm.2 x⟩
def rgk (f : Nat → Int32) (n p : Nat) : Nat → Int32
  | 0 => rgd f p n
  | k + 1 => rgr f n (rgk f n p k) n
theorem rgk_s (f : Nat → Int32) (n p k : Nat) : rgk f n p (k + 1) = rgr f n (rgk f n p k) n := rfl
theorem rg_both {f : Nat → Int32} {n p : Nat} (h7 : n ≤ 7) (hp : p < n) : sp_bit (rgk f n p n) p = sp_bit (rgc f n p 7).1 p := by
  have hs := rgc_B (f := f) (n := n) (p := p) h7 (by omega)
  have st := rg_stab (n := n) (p := p) (E := fun a q => rgE f a q = true) (B := fun k q => sp_bit (rgc f n p k).1 q) hs
  have mono : ∀ k q, q < n → sp_bit (rgc f n p k).1 q = true → sp_bit (rgc f n p (k + 1)).1 q = true := fun k q hq h => (hs k q hq).mpr (Or.inl h)
  have e1 : ∀ q, q < n → sp_bit (rgc f n p 1).1 q = true → sp_bit (rgc f n p (n + 1)).1 q = true := by
    intro q hq h
    have : ∀ k, sp_bit (rgc f n p (k + 1)).1 q = true := by
      intro k
      induction k with
      | zero => exact h
      | succ k ih => exact mono (k + 1) q hq ih
    exact this n
  have ep : ∀ q, q < n → rgE f p q = true → sp_bit (rgc f n p 1).1 q = true := fun q hq h => (hs 0 q hq).mpr (Or.inr ⟨p, hp, Or.inr rfl, h⟩)
  have z1 : ∀ q, q < n → sp_bit (rgc f n p 1).1 q = true → rgE f p q = true := by
    intro q hq h
    have b0 : ∀ a, a < n → ¬ sp_bit (rgc f n p 0).1 a = true := by
      intro a ha
      show ¬ sp_bit (Int32.ofNat 0) a = true
      rw [bit_0 (by omega)]
      decide
    rcases (hs 0 q hq).mp h with x | ⟨a, ha, x | x, y⟩
    · exact absurd x (b0 q hq)
    · exact absurd x (b0 a ha)
    · subst x
      exact y
  have cl : ∀ a q, a < n → q < n → sp_bit (rgc f n p (n + 1)).1 a = true → rgE f a q = true → sp_bit (rgc f n p (n + 1)).1 q = true := by
    intro a q ha hq h1 h2
    have h3 : sp_bit (rgc f n p (n + 2)).1 q = true := (hs (n + 1) q hq).mpr (Or.inr ⟨a, ha, Or.inl h1, h2⟩)
    have h4 := st (n + 2) (by omega) q hq
    have h5 := st (n + 1) (by omega) q hq
    exact (h5.trans h4.symm).trans h3
  have up : ∀ k q, q < 7 → sp_bit (rgk f n p k) q = true → q < n ∧ sp_bit (rgc f n p (n + 1)).1 q = true := by
    intro k
    induction k with
    | zero =>
      intro q hq h
      have := (bit_rgd hq n h7).mp h
      exact ⟨this.2, e1 q this.2 (ep q this.2 this.1)⟩
    | succ k ih =>
      intro q hq
      rw [rgk_s]
      exact rgr_up h7 cl ih n h7 q hq
  have r0 : ∀ k q, q < n → rgE f p q = true → sp_bit (rgk f n p k) q = true := by
    intro k
    induction k with
    | zero =>
      intro q hq h
      exact (bit_rgd (by omega) n h7).mpr ⟨h, hq⟩
    | succ k ih =>
      intro q hq h
      rw [rgk_s]
      exact (rgr_lo h7 n h7).1 q (by omega) (ih q hq h)
  have lo : ∀ k q, q < n → sp_bit (rgc f n p (k + 1)).1 q = true → sp_bit (rgk f n p k) q = true := by
    intro k
    induction k with
    | zero => exact fun q hq h => r0 0 q hq (z1 q hq h)
    | succ k ih =>
      intro q hq h
      rcases (hs (k + 1) q hq).mp h with x | ⟨a, ha, x | x, y⟩
      · rw [rgk_s]
        exact (rgr_lo h7 n h7).1 q (by omega) (ih q hq x)
      · rw [rgk_s]
        exact (rgr_lo h7 n h7).2 a ha (ih a ha x) q hq y
      · subst x
        exact r0 (k + 1) q hq y
  refine rg_eqB ⟨fun h => ?_, fun h => ?_⟩
  · have h1 := (up n p (by omega) h).2
    have h4 := st (n + 1) (by omega) p hp
    have h5 := st 7 h7 p hp
    exact (h5.trans h4.symm).trans h1
  · refine lo n p hp ?_
    have h4 := st (n + 1) (by omega) p hp
    have h5 := st 7 h7 p hp
    exact (h4.trans h5.symm).trans h
theorem c_rgr {n p r : Nat} {x : Int32} {f : Nat → Int32} (k16 : Int32 → Int32 → Int32 → sy_M → sy_O) (H : hv M 9 f) (hn : f 3 = Int32.ofNat n) (h7 : n ≤ 7) : jfX11_ring_30 k16 sy_F (Int32.ofNat p) x (Int32.ofNat r) (Int32.ofNat 0) M = k16 (Int32.ofNat p) (rgr f n x n) (Int32.ofNat (r + 1)) M := by
  unfold rgr
  obtain ⟨k, hk⟩ := sy_for1 (n := n) (F := sy_F) (fun k i (x : Int32) => jfX11_ring_30 k16 k (Int32.ofNat p) x (Int32.ofNat r) (Int32.ofNat i) M) (fun i x => bif sp_bit x i then x ||| rgd f i n else x) (by
    intro k i x hi
    show jgX11_ring_30 k16 (jfX11_ring_30 k16 k) (Int32.ofNat p) x (Int32.ofNat r) (Int32.ofNat i) M = _
    simp (disch := omega) only [zL, zlt, zle, zeq, zadd, zmul, zin, zix, zsh1, Nat.add_zero, Nat.zero_add, Nat.mul_zero, if_true, if_false, if_pos, if_neg, sy_bi_ri, sy_bi_rt, sy_bv_rv, sy_bv_rt, sy_br_rr, sy_br_rn, sy_hi_ri, sy_hi_rt, sy_bs_t, sy_bx_t, sy_bb_t, bz_bo, ite_bz0, ite_bz1, jgX11_ring_30, jfX11_ring_63, hv_3 H, hn, c_cred H hn h7, sp_bit_it0]
    cases sp_bit x i <;> rfl) x (by rw [sy_F_eq]; omega)
  refine hk.trans ?_
  show jgX11_ring_30 k16 (jfX11_ring_30 k16 k) (Int32.ofNat p) _ (Int32.ofNat r) (Int32.ofNat n) M = _
  simp (disch := omega) only [zL, zlt, zle, zeq, zadd, zmul, zin, zix, zsh1, Nat.add_zero, Nat.zero_add, Nat.mul_zero, if_true, if_false, if_pos, if_neg, sy_bi_ri, sy_bi_rt, sy_bv_rv, sy_bv_rt, sy_br_rr, sy_br_rn, sy_hi_ri, sy_hi_rt, sy_bs_t, sy_bx_t, sy_bb_t, bz_bo, ite_bz0, ite_bz1, jgX11_ring_30, hv_3 H, hn]
theorem c_rgk {n p : Nat} {f : Nat → Int32} (H : hv M 9 f) (hn : f 3 = Int32.ofNat n) (h7 : n ≤ 7) (hp : p < 7) : jfX11_ring_16 sy_F (Int32.ofNat p) (rgd f p n) (Int32.ofNat 0) M = sy_ri (bz (sp_bit (rgk f n p n) p)) M := by
  refine sy_forR (n := n) (F := sy_F) (R := fun c => c = sy_ri (bz (sp_bit (rgk f n p n) p)) M) (fun k i (_ : Unit) => jfX11_ring_16 k (Int32.ofNat p) (rgk f n p i) (Int32.ofNat i) M) (fun _ _ => True) ?_ ?_ () trivial (by rw [sy_F_eq]; omega)
  · intro k i _ hi _
    refine Or.inl ⟨(), ?_, trivial⟩
    show jgX11_ring_16 (jfX11_ring_16 k) (Int32.ofNat p) (rgk f n p i) (Int32.ofNat i) M = _
    rw [rgk_s]
    simp (disch := omega) only [zL, zlt, zle, zeq, zadd, zmul, zin, zix, zsh1, Nat.add_zero, Nat.zero_add, Nat.mul_zero, if_true, if_false, if_pos, if_neg, sy_bi_ri, sy_bi_rt, sy_bv_rv, sy_bv_rt, sy_br_rr, sy_br_rn, sy_hi_ri, sy_hi_rt, sy_bs_t, sy_bx_t, sy_bb_t, bz_bo, ite_bz0, ite_bz1, jgX11_ring_16, hv_3 H, hn, c_rgr (jfX11_ring_16 k) H hn h7]
  · intro k _ _
    show jgX11_ring_16 (jfX11_ring_16 k) (Int32.ofNat p) (rgk f n p n) (Int32.ofNat n) M = _
    simp (disch := omega) only [zL, zlt, zle, zeq, zadd, zmul, zin, zix, zsh1, Nat.add_zero, Nat.zero_add, Nat.mul_zero, if_true, if_false, if_pos, if_neg, sy_bi_ri, sy_bi_rt, sy_bv_rv, sy_bv_rt, sy_br_rr, sy_br_rn, sy_hi_ri, sy_hi_rt, sy_bs_t, sy_bx_t, sy_bb_t, bz_bo, ite_bz0, ite_bz1, jgX11_ring_16, hv_3 H, hn, sp_bit_it0]
    cases sp_bit (rgk f n p n) p <;> rfl
theorem o_ring (I : Inv A tx L0 S e M) (he : e < 90000) (a : Int32) : opB A tx L0 S e (jfL_ring a M) (jfX12_ring a) := by
  obtain ⟨n, G, H, ht, hA, hl⟩ := id I.1
  have hn := G.2.1
  have h7 := G.2.2.1
  obtain ⟨xk, hxk, exk⟩ := I.2.2.2.2.2.2.2.2.1
  have hx := xok he hxk exk
  have h9 : M 9 3 = Int32.ofNat n := (hv_3 H.1).trans hn
  have D19 := I.2.2.2.2.1
  unfold jfL_ring
  rcases ck_lodger h7 h9 hx a with ⟨p, hp, ea, ck, sa⟩ | ⟨sa, ck⟩
  · subst ea
    refine opB_q I (b := sp_bit (rgc (M 122) n p 7).1 p) ⟨M, ?_, fq_rfl⟩ (fun M1 => by cases sp_bit (rgc (M 122) n p 7).1 p <;> rfl) (fun N hN => ⟨thr N 0, ?_, thr_0 _ _, fr_thr⟩)
    · rw [← rg_both h7 hp]
      simp (disch := omega) only [zL, zlt, zle, zeq, zadd, zmul, zin, zix, zsh1, Nat.add_zero, Nat.zero_add, Nat.mul_zero, if_true, if_false, if_pos, if_neg, sy_bi_ri, sy_bi_rt, sy_bv_rv, sy_bv_rt, sy_br_rr, sy_br_rn, sy_hi_ri, sy_hi_rt, sy_bs_t, sy_bx_t, sy_bb_t, bz_bo, ite_bz0, ite_bz1, jfX11_ring, ck, c_cred H.1 hn h7, c_rgk H.1 hn h7]
    · have e122 : N 122 = M 122 := hN 122 (by omega) (by omega)
      have eN : N 122 3 = Int32.ofNat n := by rw [e122]; exact hn
      have e2 : thr N 0 122 = M 122 := (thr_ne _ _ (by decide)).trans e122
      simp (disch := omega) only [zL, zlt, zle, zeq, zadd, zmul, zin, zix, zsh1, Nat.add_zero, Nat.zero_add, Nat.mul_zero, if_true, if_false, if_pos, if_neg, sy_bi_ri, sy_bi_rt, sy_bv_rv, sy_bv_rt, sy_br_rr, sy_br_rn, sy_hi_ri, sy_hi_rt, sy_bs_t, sy_bx_t, sy_bb_t, bz_bo, ite_bz0, ite_bz1, jfX12_ring, jfX12_ring_14, m_isLodger, eN, sa, cond_true, thr_up, thr_0, m_rgc e2 hn h7]
  · refine opB_x I (cl := 22) (c := 1) (by simp (disch := omega) only [zL, zlt, zle, zeq, zadd, zmul, zin, zix, zsh1, Nat.add_zero, Nat.zero_add, Nat.mul_zero, if_true, if_false, if_pos, if_neg, sy_bi_ri, sy_bi_rt, sy_bv_rv, sy_bv_rt, sy_br_rr, sy_br_rn, sy_hi_ri, sy_hi_rt, sy_bs_t, sy_bx_t, sy_bb_t, bz_bo, ite_bz0, ite_bz1, jfX11_ring, ck]) rfl (by decide) (by decide) (fun N hN => ⟨thr N 1, ?_, thr_0 _ _, fr_thr⟩)
    have eN : N 122 3 = Int32.ofNat n := by rw [hN 122 (by omega) (by omega)]; exact hn
    simp (disch := omega) only [zL, zlt, zle, zeq, zadd, zmul, zin, zix, zsh1, Nat.add_zero, Nat.zero_add, Nat.mul_zero, if_true, if_false, if_pos, if_neg, sy_bi_ri, sy_bi_rt, sy_bv_rv, sy_bv_rt, sy_br_rr, sy_br_rn, sy_hi_ri, sy_hi_rt, sy_bs_t, sy_bx_t, sy_bb_t, bz_bo, ite_bz0, ite_bz1, jfX12_ring, jfX12_ring_14, m_isLodger, eN, sa, cond_false, thr_up, thr_0]
    rfl
end
