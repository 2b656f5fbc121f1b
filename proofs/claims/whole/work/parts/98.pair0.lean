/-! ===== pairs: what is chosen ===== -/
def rm (S p : Nat) : Nat := if S.testBit p then S - 2 ^ p else S
theorem rm_bit {S p q : Nat} (hS : S < 128) (hp : p < 7) (hq : q < 7) : (rm S p).testBit q = (S.testBit q && !decide (q = p)) := by
  have : ∀ (S : Fin 128) (p q : Fin 7), (rm S.1 p.1).testBit q.1 = (S.1.testBit q.1 && !decide (q.1 = p.1)) := by decide +kernel
  exact this ⟨S, hS⟩ ⟨p, hp⟩ ⟨q, hq⟩
theorem rm_le (S p : Nat) : rm S p ≤ S := by
  unfold rm
  split
  · exact Nat.sub_le _ _
  · exact Nat.le_refl _
theorem rm_wi {S p : Nat} (hS : S < 128) (hp : p < 7) : Int32.ofNat S &&& (((Int32.ofNat 1) <<< Int32.ofNat p) ^^^ (-(Int32.ofNat 1))) = Int32.ofNat (rm S p) := by
  have : ∀ (S : Fin 128) (p : Fin 7), Int32.ofNat S.1 &&& (((Int32.ofNat 1) <<< Int32.ofNat p.1) ^^^ (-(Int32.ofNat 1))) = Int32.ofNat (rm S.1 p.1) := by decide +kernel
  exact this ⟨S, hS⟩ ⟨p, hp⟩
theorem tb_bit {S p : Nat} (hS : S < 128) (hp : p < 7) : sp_bit (Int32.ofNat S) p = S.testBit p := by
  have : ∀ (S : Fin 128) (p : Fin 7), sp_bit (Int32.ofNat S.1) p.1 = S.1.testBit p.1 := by decide +kernel
  exact this ⟨S, hS⟩ ⟨p, hp⟩
theorem tb_lt {S n : Nat} (h7 : n ≤ 7) (hS : S < 2 ^ n) {q : Nat} (h : S.testBit q = true) : q < n := by
  have h1 := Nat.ge_two_pow_of_testBit h
  refine Classical.byContradiction fun c => ?_
  have := Nat.pow_le_pow_right (show 0 < 2 by decide) (show n ≤ q by omega)
  omega
theorem tb_0 {S : Nat} (hS : S < 128) (h : ∀ q, q < 7 → S.testBit q = false) : S = 0 := by
  have : ∀ S : Fin 128, (∀ q : Fin 7, S.1.testBit q.1 = false) → S.1 = 0 := by decide +kernel
  exact this ⟨S, hS⟩ (fun q => h q.1 q.2)
/-- the first of the greatest: of the first j ways beside being alone -/
def pg (v : Nat → Nat) (fr : Nat → Bool) (v0 lo : Nat) : Nat → Nat × Nat
  | 0 => (v0, 0)
  | j + 1 => if fr (lo + j) = true ∧ (pg v fr v0 lo j).1 < v (lo + j) then (v (lo + j), lo + j + 1) else pg v fr v0 lo j
theorem pg_s (v : Nat → Nat) (fr : Nat → Bool) (v0 lo j : Nat) : pg v fr v0 lo (j + 1) = if fr (lo + j) = true ∧ (pg v fr v0 lo j).1 < v (lo + j) then (v (lo + j), lo + j + 1) else pg v fr v0 lo j := rfl
theorem pg_spec (v : Nat → Nat) (fr : Nat → Bool) (v0 lo : Nat) : ∀ j, v0 ≤ (pg v fr v0 lo j).1 ∧ (∀ i, i < j → fr (lo + i) = true → v (lo + i) ≤ (pg v fr v0 lo j).1) ∧ ((pg v fr v0 lo j).2 = 0 → (pg v fr v0 lo j).1 = v0) ∧ ((pg v fr v0 lo j).2 ≠ 0 → ∃ i, i < j ∧ (pg v fr v0 lo j).2 = lo + i + 1 ∧ fr (lo + i) = true ∧ (pg v fr v0 lo j).1 = v (lo + i) ∧ v0 < v (lo + i) ∧ ∀ i', i' < i → fr (lo + i') = true → v (lo + i') < v (lo + i))
  | 0 => ⟨Nat.le_refl _, fun i hi => by omega, fun _ => rfl, fun h => absurd rfl h⟩
  | j + 1 => by
    obtain ⟨h1, h2, h3, h4⟩ := pg_spec v fr v0 lo j
    rw [pg_s]
    by_cases c : fr (lo + j) = true ∧ (pg v fr v0 lo j).1 < v (lo + j)
    · rw [if_pos c]
      refine ⟨by show v0 ≤ v (lo + j); omega, fun i hi hf => ?_, fun h => absurd h (Nat.succ_ne_zero _), fun _ => ⟨j, by omega, rfl, c.1, rfl, by omega, fun i' hi' hf => ?_⟩⟩
      · show v (lo + i) ≤ v (lo + j)
        by_cases e : i = j
        · subst e; exact Nat.le_refl _
        · have := h2 i (by omega) hf
          omega
      · have := h2 i' hi' hf
        omega
    · rw [if_neg c]
      refine ⟨h1, fun i hi hf => ?_, h3, fun h => ?_⟩
      · by_cases e : i = j
        · subst e
          exact Nat.le_of_not_lt (fun z => c ⟨hf, z⟩)
        · exact h2 i (by omega) hf
      · obtain ⟨i, hi, r⟩ := h4 h
        exact ⟨i, by omega, r⟩
def pb (W : Nat → Nat → Nat) (n : Nat) : Nat → Nat → Nat
  | 0, _ => 0
  | d + 1, S => if S.testBit (n - (d + 1)) = true then (pg (fun o => W (n - (d + 1)) o + pb W n d (rm (rm S (n - (d + 1))) o)) (fun o => S.testBit o) (pb W n d (rm S (n - (d + 1)))) (n - (d + 1) + 1) d).1 else pb W n d S
def pvl (W : Nat → Nat → Nat) (n d S : Nat) : Nat → Nat := fun o => W (n - (d + 1)) o + pb W n d (rm (rm S (n - (d + 1))) o)
def pk (W : Nat → Nat → Nat) (n d S : Nat) : Nat → Nat × Nat := pg (pvl W n d S) (fun o => S.testBit o) (pb W n d (rm S (n - (d + 1)))) (n - (d + 1) + 1)
theorem pb_s (W : Nat → Nat → Nat) (n d S : Nat) : pb W n (d + 1) S = if S.testBit (n - (d + 1)) = true then (pk W n d S d).1 else pb W n d S := rfl
theorem pb_skip {W : Nat → Nat → Nat} {n d S : Nat} : ∀ e, d + e ≤ n → (∀ q, q < n - d → S.testBit q = false) → pb W n (d + e) S = pb W n d S
  | 0, _, _ => rfl
  | e + 1, h, hq => by
    rw [show d + (e + 1) = d + e + 1 by omega, pb_s, if_neg (by rw [hq _ (by omega)]; decide)]
    exact pb_skip e (by omega) hq
theorem pb_n {W : Nat → Nat → Nat} {n d S : Nat} (h : d ≤ n) (hq : ∀ q, q < n - d → S.testBit q = false) : pb W n n S = pb W n d S := by
  have := pb_skip (W := W) (n := n) (d := d) (S := S) (n - d) (by omega) hq
  rwa [show d + (n - d) = n by omega] at this
theorem pb_le {W : Nat → Nat → Nat} {n : Nat} (hW : ∀ p o, W p o ≤ 48) : ∀ d S, pb W n d S ≤ 48 * d
  | 0, _ => Nat.le_refl _
  | d + 1, S => by
    rw [pb_s]
    have ih := pb_le (n := n) hW d
    split
    · unfold pk
      obtain ⟨_, _, h3, h4⟩ := pg_spec (pvl W n d S) (fun o => S.testBit o) (pb W n d (rm S (n - (d + 1)))) (n - (d + 1) + 1) d
      by_cases c : (pg (pvl W n d S) (fun o => S.testBit o) (pb W n d (rm S (n - (d + 1)))) (n - (d + 1) + 1) d).2 = 0
      · rw [h3 c]
        have := ih (rm S (n - (d + 1)))
        omega
      · obtain ⟨i, _, _, _, e, _⟩ := h4 c
        rw [e]
        unfold pvl
        have h5 := ih (rm (rm S (n - (d + 1))) (n - (d + 1) + 1 + i))
        have h6 := hW (n - (d + 1)) (n - (d + 1) + 1 + i)
        omega
    · have := ih S
      omega
def pu (P : Nat → Nat) (i x : Nat) : Nat → Nat := fun j => if j = i then x else P j
theorem pu_at (P : Nat → Nat) (i x : Nat) : pu P i x i = x := if_pos rfl
theorem pu_ne (P : Nat → Nat) {i j : Nat} (x : Nat) (h : j ≠ i) : pu P i x j = P j := if_neg h
/-- the way that is taken from there: whom each one goes with (0: nobody) -/
def px (W : Nat → Nat → Nat) (n : Nat) : Nat → Nat → (Nat → Nat) → Nat → Nat
  | 0, _, P => P
  | d + 1, S, P => if S.testBit (n - (d + 1)) = true then (if (pk W n d S d).2 = 0 then px W n d (rm S (n - (d + 1))) P else px W n d (rm (rm S (n - (d + 1))) ((pk W n d S d).2 - 1)) (pu (pu P (n - (d + 1)) (pk W n d S d).2) ((pk W n d S d).2 - 1) (n - (d + 1) + 1))) else px W n d S P
/-- the array for a choice -/
def pa (W : Nat → Nat → Nat) (n d S : Nat) (P : Nat → Nat) (c : Nat) : Nat → Nat := if c = 0 then px W n d (rm S (n - (d + 1))) P else px W n d (rm (rm S (n - (d + 1))) (c - 1)) (pu (pu P (n - (d + 1)) c) (c - 1) (n - (d + 1) + 1))
theorem px_s (W : Nat → Nat → Nat) (n d S : Nat) (P : Nat → Nat) : px W n (d + 1) S P = if S.testBit (n - (d + 1)) = true then pa W n d S P (pk W n d S d).2 else px W n d S P := rfl
/-- outside the set nothing changes -/
theorem px_out {W : Nat → Nat → Nat} {n x : Nat} (h7 : n ≤ 7) (hx : x < n) : ∀ d, d ≤ n → ∀ S P, S < 128 → S.testBit x = false → px W n d S P x = P x
  | 0, _, _, _, _, _ => rfl
  | d + 1, hd, S, P, hS, h => by
    have ih := px_out (W := W) h7 hx d (by omega)
    have rl := rm_le S (n - (d + 1))
    rw [px_s]
    by_cases c : S.testBit (n - (d + 1)) = true
    · rw [if_pos c]
      have xk : x ≠ n - (d + 1) := fun z => by
        rw [← z, h] at c
        exact absurd c (by decide)
      have r1 : (rm S (n - (d + 1))).testBit x = false := by rw [rm_bit hS (by omega) (by omega), h]; rfl
      unfold pa
      by_cases c2 : (pk W n d S d).2 = 0
      · rw [if_pos c2]
        exact ih _ _ (by omega) r1
      · rw [if_neg c2]
        obtain ⟨i, hi, e1, e2, _⟩ := (pg_spec (pvl W n d S) (fun o => S.testBit o) (pb W n d (rm S (n - (d + 1)))) (n - (d + 1) + 1) d).2.2.2 c2
        have e3 : (pk W n d S d).2 - 1 = n - (d + 1) + 1 + i := by
          have : (pk W n d S d).2 = n - (d + 1) + 1 + i + 1 := e1
          omega
        rw [e3]
        have xo : x ≠ n - (d + 1) + 1 + i := fun z => by
          rw [← z] at e2
          exact absurd (h.symm.trans e2) (by decide)
        have rl2 := rm_le (rm S (n - (d + 1))) (n - (d + 1) + 1 + i)
        rw [ih _ _ (by omega) (by rw [rm_bit (by omega) (by omega) (by omega), r1]; rfl), pu_ne _ _ xo, pu_ne _ _ xk]
    · rw [if_neg c]
      exact ih S P hS h
/-- the better of two, the first if they are alike -/
def pm (X Y : Nat × (Nat → Nat)) : Nat × (Nat → Nat) := if X.1 < Y.1 then Y else X
theorem pm_a (X Y Z : Nat × (Nat → Nat)) : pm (pm X Y) Z = pm X (pm Y Z) := by
  unfold pm
  by_cases h1 : X.1 < Y.1
  · rw [if_pos h1]
    by_cases h2 : Y.1 < Z.1
    · rw [if_pos h2, if_pos (by omega)]
    · rw [if_neg h2, if_pos h1]
  · rw [if_neg h1]
    by_cases h2 : Y.1 < Z.1
    · rw [if_pos h2]
    · rw [if_neg h2, if_neg h1, if_neg (by omega)]
/-- the lowest of those that are sought from above -/
def bw (c : Nat → Bool) (n : Nat) : Nat → Nat
  | 0 => 0
  | i + 1 => bif c (n - (i + 1)) then n - (i + 1) + 1 else bw c n i
theorem bw_s (c : Nat → Bool) (n i : Nat) : bw c n (i + 1) = bif c (n - (i + 1)) then n - (i + 1) + 1 else bw c n i := rfl
theorem bw_is {c : Nat → Bool} {n o : Nat} (ho : o < n) (h : c o = true) : ∀ i, i ≤ n → n - i ≤ o → (∀ o', n - i ≤ o' → o' < o → c o' = false) → bw c n i = o + 1
  | 0, _, h1, _ => by omega
  | i + 1, hi, h1, h2 => by
    rw [bw_s]
    by_cases e : n - (i + 1) = o
    · rw [e, h, cond_true]
    · rw [h2 _ (Nat.le_refl _) (by omega), cond_false]
      exact bw_is ho h i (by omega) (by omega) (fun o' a b => h2 o' (by omega) b)
theorem bw_0 {c : Nat → Bool} {n : Nat} : ∀ i, i ≤ n → (∀ o, n - i ≤ o → o < n → c o = false) → bw c n i = 0
  | 0, _, _ => rfl
  | i + 1, hi, h => by
    rw [bw_s, h _ (Nat.le_refl _) (by omega), cond_false]
    exact bw_0 i (by omega) (fun o a b => h o (by omega) b)
