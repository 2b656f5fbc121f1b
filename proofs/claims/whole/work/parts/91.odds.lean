/-! ===== odds ===== -/
section
variable {A : (Nat → Int32) → Nat → Int32 × Bool} {tx : (Nat → Int32) → Prop} {L0 : Int32} {S : Nat → Int32} {e : Nat} {M : sy_M}
abbrev X64 (a : Nat) : Int64 := Int64.ofNat a
/-- so many frosts, in so many ticks -/
def cp (f g : Nat) : Nat → Nat → Nat
  | 0, j => if j = 0 then 1 else 0
  | n + 1, j => cp f g n j * g + (if j = 0 then 0 else cp f g n (j - 1) * f)
def ctl (f g n k : Nat) : Nat := sy_fo (fun i a => a + cp f g n (k + i)) (7 - k) 0 0
def rwt (f g n k s : Nat) : Nat := sy_fo (fun i a => a * (if s.testBit i then f else g)) n 0 (if sp_cnt s < k then 0 else 1)
def rtl (f g n k : Nat) : Nat := sy_fo (fun s a => a + rwt f g n k s) (2 ^ n) 0 0
theorem odds_eq : ∀ f : Fin 101, ∀ n k : Fin 7, ctl f.1 (100 - f.1) n.1 k.1 = rtl f.1 (100 - f.1) n.1 k.1 := by decide +kernel
theorem x_add (a b : Nat) : X64 a + X64 b = X64 (a + b) := (Int64.ofNat_add a b).symm
theorem x_mul (a b : Nat) : X64 a * X64 b = X64 (a * b) := (Int64.ofNat_mul a b).symm
theorem x_32 : ∀ a : Fin 101, Int32.toInt64 (Int32.ofNat a.1) = X64 a.1 := by decide +kernel
theorem x_100 : ∀ n : Fin 7, X64 (100 ^ n.1) ≠ 0 ∧ 0 < lg_cmp (X64 (100 ^ n.1)) (Int64.ofNat 0) := by decide +kernel
theorem wl_119 {M : sy_M} {j : Nat} {v : Int64} {b : Nat} (h : b ≠ 119) : sy_wl M 119 j v b = M b := sy_wl_ne _ _ h
theorem c_odds68 {M : sy_M} {f : Nat} {p : Nat → Nat} {a1 a2 a5 : Int32} {a3 : Int64} (k52 : Int32 → Int32 → Int64 → Int32 → sy_M → sy_O) (h10 : M 9 10 = Int32.ofNat f) (hf : f ≤ 100) : ∀ (j k : Nat) (N : sy_M), j ≤ 6 → (∀ b, b ≠ 119 → N b = M b) → (∀ i, i < 7 → sy_rl N 119 i = X64 (if i ≤ j then p i else p i * (100 - f) + (if i = 0 then 0 else p (i - 1) * f))) → ∃ N1, jfX11_odds_68 k52 (k + j + 2) a1 a2 a3 a5 (Int32.ofNat j) N = k52 a1 a2 a3 (a5 + 1) N1 ∧ (∀ b, b ≠ 119 → N1 b = M b) ∧ (∀ i, i < 7 → sy_rl N1 119 i = X64 (p i * (100 - f) + (if i = 0 then 0 else p (i - 1) * f))) := by
  have e100 : ∀ N : sy_M, (∀ b, b ≠ 119 → N b = M b) → Int32.toInt64 (100 - N 9 10) = X64 (100 - f) ∧ Int32.toInt64 (N 9 10) = X64 f := by
    intro N hN
    rw [hN 9 (by decide), h10, show (100 : Int32) = (Int32.ofNat 100) from rfl, zsub hf]
    exact ⟨x_32 ⟨100 - f, by omega⟩, x_32 ⟨f, by omega⟩⟩
  intro j
  induction j with
  | zero =>
    intro k N _ hN hp
    obtain ⟨q1, q2⟩ := e100 N hN
    refine ⟨sy_wl N 119 0 (X64 (p 0 * (100 - f))), ?_, fun b hb => (wl_119 hb).trans (hN b hb), fun i hi => ?_⟩
    · have s1 : jgX11_odds_68 k52 (jfX11_odds_68 k52 (k + 1)) a1 a2 a3 a5 (Int32.ofNat 0) N = jfX11_odds_68 k52 (k + 1) a1 a2 a3 a5 (-1) (sy_wl N 119 0 (X64 (p 0 * (100 - f)))) := by
        unfold jgX11_odds_68 jfX11_odds_100
        rw [if_neg (show ¬ ((Int32.ofNat 0) : Int32) < 0 by decide), if_neg (show ¬ (0 : Int32) < (Int32.ofNat 0) by decide), zin (show 0 < 7 by decide) (by decide), sy_bx_t, sy_bx_t, zix (by decide), hp 0 (by decide), q1]
        simp only
        rw [show X64 (if 0 ≤ 0 then p 0 else _) = X64 (p 0) from by rw [if_pos (Nat.le_refl 0)], x_mul, show Int64.ofNat 0 = X64 0 from rfl, x_add, Nat.add_zero (p 0 * (100 - f)), show ((Int32.ofNat 0) : Int32) + -1 = -1 by decide]
      show jgX11_odds_68 k52 (jfX11_odds_68 k52 (k + 1)) a1 a2 a3 a5 (Int32.ofNat 0) N = _
      rw [s1]
      show jgX11_odds_68 k52 (jfX11_odds_68 k52 k) a1 a2 a3 a5 (-1) _ = _
      unfold jgX11_odds_68
      rw [if_pos (show (-1 : Int32) < 0 by decide)]
    · rw [sy_rl_wl]
      by_cases h : i = 0
      · subst h
        rw [if_pos ⟨rfl, rfl⟩, if_pos rfl, Nat.add_zero]
      · rw [if_neg (fun z => h z.2), hp i hi, if_neg (by omega)]
  | succ j ih =>
    intro k N hj hN hp
    obtain ⟨q1, q2⟩ := e100 N hN
    have s1 : jfX11_odds_68 k52 (k + (j + 1) + 2) a1 a2 a3 a5 (Int32.ofNat (j + 1)) N = jfX11_odds_68 k52 (k + j + 2) a1 a2 a3 a5 (Int32.ofNat j) (sy_wl N 119 (j + 1) (X64 (p (j + 1) * (100 - f) + p j * f))) := by
      show jgX11_odds_68 k52 (jfX11_odds_68 k52 (k + j + 2)) a1 a2 a3 a5 (Int32.ofNat (j + 1)) N = _
      unfold jgX11_odds_68 jfX11_odds_100
      rw [if_neg (show ¬ Int32.ofNat (j + 1) < 0 from znn (j + 1) (by omega)), if_pos (show (0 : Int32) < Int32.ofNat (j + 1) from (zlt (a := 0) (by decide) (by omega)).mpr (by omega)), show Int32.ofNat (j + 1) - 1 = Int32.ofNat j from by rw [show (1 : Int32) = (Int32.ofNat 1) from rfl, zsub (by omega), Nat.add_sub_cancel], zin (show j < 7 by omega) (by decide), sy_bx_t, zin (show j + 1 < 7 by omega) (by decide), sy_bx_t, sy_bx_t, zix (by omega), zix (by omega), hp j (by omega), hp (j + 1) (by omega), q1, q2]
      simp only
      rw [if_pos (show j ≤ j + 1 by omega), if_pos (Nat.le_refl (j + 1)), x_mul, x_mul, x_add, show Int32.ofNat (j + 1) + -1 = Int32.ofNat j from by rw [show Int32.ofNat (j + 1) = Int32.ofNat j + 1 from (zadd j 1).symm]; grind]
    rw [s1]
    refine ih k _ (by omega) (fun b hb => (wl_119 hb).trans (hN b hb)) (fun i hi => ?_)
    rw [sy_rl_wl]
    by_cases h : i = j + 1
    · subst h
      rw [if_pos ⟨rfl, rfl⟩, if_neg (by omega), if_neg (by omega), Nat.add_sub_cancel]
    · rw [if_neg (fun z => h z.2), hp i hi]
      by_cases h2 : i ≤ j
      · rw [if_pos h2, if_pos (by omega)]
      · rw [if_neg h2, if_neg (by omega)]
theorem c_odds149 {N : sy_M} {f g n k : Nat} {a3 : Int64} (hk : k ≤ 6) (ha : a3 ≠ 0 ∧ 0 < lg_cmp a3 (Int64.ofNat 0)) (hp : ∀ i, i < 7 → sy_rl N 119 i = X64 (cp f g n i)) : jfX11_odds_149 sy_F a3 (Int64.ofNat 0) (Int32.ofNat k) N = sy_ri (Int64.toInt32 ((X64 (ctl f g n k) * (Int64.ofInt 10000)) / a3)) N := by
  unfold ctl
  obtain ⟨q, hq⟩ := sy_for1 (n := 7 - k) (F := sy_F) (fun q i (a : Nat) => jfX11_odds_149 q a3 (X64 a) (Int32.ofNat (k + i)) N) (fun i a => a + cp f g n (k + i)) (by
    intro q i a hi
    show jgX11_odds_149 (jfX11_odds_149 q) a3 (X64 a) (Int32.ofNat (k + i)) N = _
    unfold jgX11_odds_149
    rw [if_neg (show ¬ (6 : Int32) < Int32.ofNat (k + i) from fun z => by have := (zlt (a := 6) (by decide) (by omega)).mp z; omega), zin (show k + i < 7 by omega) (by decide), sy_bx_t, zix (by omega), hp _ (by omega)]
    simp only
    rw [x_add, show Int32.ofNat (k + i) + 1 = Int32.ofNat (k + i + 1) from zadd _ 1]
    rfl) 0 (by rw [sy_F_eq]; omega)
  rw [Nat.add_zero] at hq
  refine hq.trans ?_
  show jgX11_odds_149 (jfX11_odds_149 q) a3 _ (Int32.ofNat (k + (7 - k))) N = _
  unfold jgX11_odds_149
  rw [if_pos (show (6 : Int32) < Int32.ofNat (k + (7 - k)) from (zlt (a := 6) (by decide) (by omega)).mpr (by omega)), if_pos ha.2, if_neg ha.1]
theorem c_odds52 {M : sy_M} {f n k : Nat} (h10 : M 9 10 = Int32.ofNat f) (hf : f ≤ 100) (hn : n ≤ 6) (hk : k ≤ 6) : ∀ (m i q : Nat) (N : sy_M), i + m = n → (∀ b, b ≠ 119 → N b = M b) → (∀ j, j < 7 → sy_rl N 119 j = X64 (cp f (100 - f) i j)) → ∃ N1, jfX11_odds_52 (q + m + 1) (Int32.ofNat n) (Int32.ofNat k) (X64 (100 ^ i)) (Int32.ofNat i) N = sy_ri (Int64.toInt32 ((X64 (ctl f (100 - f) n k) * (Int64.ofInt 10000)) / X64 (100 ^ n))) N1 ∧ (∀ b, b ≠ 119 → N1 b = M b) := by
  intro m
  induction m with
  | zero =>
    intro i q N hi hN hp
    have e : i = n := hi
    subst e
    refine ⟨N, ?_, hN⟩
    show jgX11_odds_52 (jfX11_odds_52 q) (Int32.ofNat i) (Int32.ofNat k) (X64 (100 ^ i)) (Int32.ofNat i) N = _
    unfold jgX11_odds_52
    rw [if_neg (fun z => by rw [zlt (by omega) (by omega)] at z; omega)]
    simp only
    exact c_odds149 hk (x_100 ⟨i, by omega⟩) hp
  | succ m ih =>
    intro i q N hi hN hp
    have h10N : N 9 10 = Int32.ofNat f := by rw [hN 9 (by decide)]; exact h10
    obtain ⟨N1, a1, a2, a3⟩ := c_odds68 (M := N) (p := cp f (100 - f) i) (a1 := Int32.ofNat n) (a2 := Int32.ofNat k) (a5 := Int32.ofNat i) (a3 := X64 (100 ^ (i + 1))) (jfX11_odds_52 (q + m + 1)) h10N hf 6 5992 N (Nat.le_refl _) (fun _ _ => rfl) (fun j hj => by rw [if_pos (by omega)]; exact hp j hj)
    obtain ⟨N2, b1, b2⟩ := ih (i + 1) q N1 (by omega) (fun b hb => (a2 b hb).trans (hN b hb)) a3
    refine ⟨N2, ?_, b2⟩
    rw [← b1]
    show jgX11_odds_52 (jfX11_odds_52 (q + m + 1)) (Int32.ofNat n) (Int32.ofNat k) (X64 (100 ^ i)) (Int32.ofNat i) N = _
    unfold jgX11_odds_52
    rw [if_pos ((zlt (by omega) (by omega)).mpr (show i < n by omega))]
    simp only
    rw [show Int64.ofInt 100 = X64 100 from rfl, x_mul, ← Nat.pow_succ, show sy_F = 5992 + 6 + 2 from sy_F_eq]
    refine Eq.trans a1 ?_
    rw [show Int32.ofNat i + 1 = Int32.ofNat (i + 1) from zadd i 1]
theorem c_odds {f n k : Nat} (h10 : M 9 10 = Int32.ofNat f) (hf : f ≤ 100) (hn : n ≤ 6) (hk : k ≤ 6) : ∃ N1, jfX11_odds_19 sy_F (Int32.ofNat n) (Int32.ofNat k) (Int64.ofNat 1) 0 M = sy_ri (Int64.toInt32 ((X64 (ctl f (100 - f) n k) * (Int64.ofInt 10000)) / X64 (100 ^ n))) N1 ∧ (∀ b, b ≠ 119 → N1 b = M b) := by
  refine sy_forR (n := 7) (F := sy_F) (R := fun c => ∃ N1, c = sy_ri (Int64.toInt32 ((X64 (ctl f (100 - f) n k) * (Int64.ofInt 10000)) / X64 (100 ^ n))) N1 ∧ (∀ b, b ≠ 119 → N1 b = M b)) (fun q i (N : sy_M) => jfX11_odds_19 q (Int32.ofNat n) (Int32.ofNat k) (Int64.ofNat 1) (Int32.ofNat i) N) (fun i N => (∀ b, b ≠ 119 → N b = M b) ∧ (∀ j, j < i → sy_rl N 119 j = X64 (cp f (100 - f) 0 j))) ?_ ?_ M ⟨fun _ _ => rfl, fun j hj => absurd hj (Nat.not_lt_zero j)⟩ (by rw [sy_F_eq]; omega)
  · intro q i N hi ⟨hN, hp⟩
    refine Or.inl ⟨sy_wl N 119 i (X64 (cp f (100 - f) 0 i)), ?_, fun b hb => (wl_119 hb).trans (hN b hb), fun j hj => ?_⟩
    · show jgX11_odds_19 (jfX11_odds_19 q) (Int32.ofNat n) (Int32.ofNat k) (Int64.ofNat 1) (Int32.ofNat i) N = _
      unfold jgX11_odds_19 jfX11_odds_42
      rw [if_neg (show ¬ (6 : Int32) < Int32.ofNat i from fun z => by have := (zlt (a := 6) (by decide) (by omega)).mp z; omega), zin hi (by decide)]
      simp only [sy_bx_t, zix (show i < 2147483648 by omega)]
      rw [show Int32.ofNat i + 1 = Int32.ofNat (i + 1) from zadd i 1]
      by_cases h : i = 0
      · subst h
        rw [if_pos (show (Int32.ofNat 0 : Int32) = 0 from rfl)]
        rfl
      · rw [if_neg (show ¬ Int32.ofNat i = 0 from fun z => h ((zeq (b := 0) (by omega) (by decide)).mp z))]
        have : cp f (100 - f) 0 i = 0 := if_neg h
        rw [this]
    · rw [sy_rl_wl]
      by_cases h : j = i
      · subst h; rw [if_pos ⟨rfl, rfl⟩]
      · rw [if_neg (fun z => h z.2)]; exact hp j (by omega)
  · intro q N ⟨hN, hp⟩
    obtain ⟨N1, a1, a2⟩ := c_odds52 (M := M) h10 hf hn hk n 0 (5999 - n) N (by omega) hN hp
    refine ⟨N1, ?_, a2⟩
    show jgX11_odds_19 (jfX11_odds_19 q) (Int32.ofNat n) (Int32.ofNat k) (Int64.ofNat 1) (Int32.ofNat 7) N = _
    unfold jgX11_odds_19
    rw [if_pos (show (6 : Int32) < Int32.ofNat 7 by decide), show sy_F = 5999 - n + n + 1 from by rw [sy_F_eq]; omega]
    exact a1
theorem bit_nat {s i : Nat} (hs : s < 64) (hi : i < 6) : sp_bit (Int32.ofNat s) i = s.testBit i := by
  have : ∀ s : Fin 64, ∀ i : Fin 6, sp_bit (Int32.ofNat s.1) i.1 = s.1.testBit i.1 := by decide +kernel
  exact this ⟨s, hs⟩ ⟨i, hi⟩
theorem m_odds96 {N : sy_M} {f n k s : Nat} {a a5 : Nat} (h9 : N 122 9 = Int32.ofNat f) (hf : f ≤ 100) (hn : n ≤ 6) (hs : s < 2 ^ n) (k69 : Int32 → Int32 → Int64 → Int64 → Int32 → sy_M → sy_O) : jfX12_odds_96 k69 sy_F (Int32.ofNat n) (Int32.ofNat k) (X64 a) (X64 a5) (Int32.ofNat s) (X64 (if sp_cnt s < k then 0 else 1)) 0 N = k69 (Int32.ofNat n) (Int32.ofNat k) (X64 (a + rwt f (100 - f) n k s)) (X64 a5) (Int32.ofNat (s + 1)) N := by
  have h64 : s < 64 := by
    have : 2 ^ n ≤ 2 ^ 6 := Nat.pow_le_pow_right (by decide) hn
    omega
  have e1 : Int32.toInt64 (100 - N 122 9) = X64 (100 - f) := by
    rw [h9, show (100 : Int32) = (Int32.ofNat 100) from rfl, zsub hf]; exact x_32 ⟨100 - f, by omega⟩
  have e2 : Int32.toInt64 (N 122 9) = X64 f := by rw [h9]; exact x_32 ⟨f, by omega⟩
  unfold rwt
  obtain ⟨q, hq⟩ := sy_for1 (n := n) (F := sy_F) (fun q i (b : Nat) => jfX12_odds_96 k69 q (Int32.ofNat n) (Int32.ofNat k) (X64 a) (X64 a5) (Int32.ofNat s) (X64 b) (Int32.ofNat i) N) (fun i b => b * (if s.testBit i then f else 100 - f)) (by
    intro q i b hi
    show jgX12_odds_96 k69 (jfX12_odds_96 k69 q) (Int32.ofNat n) (Int32.ofNat k) (X64 a) (X64 a5) (Int32.ofNat s) (X64 b) (Int32.ofNat i) N = _
    unfold jgX12_odds_96 jfX12_odds_136
    rw [if_pos ((zlt (by omega) (by omega)).mpr hi), m_isOf (by omega), sy_bi_ri, bit_nat h64 (by omega), e1, e2]
    simp only [x_mul]
    rw [show Int32.ofNat i + 1 = Int32.ofNat (i + 1) from zadd i 1]
    cases s.testBit i <;> rfl) (if sp_cnt s < k then 0 else 1) (by rw [sy_F_eq]; omega)
  refine hq.trans ?_
  show jgX12_odds_96 k69 (jfX12_odds_96 k69 q) (Int32.ofNat n) (Int32.ofNat k) (X64 a) (X64 a5) (Int32.ofNat s) _ (Int32.ofNat n) N = _
  unfold jgX12_odds_96
  rw [if_neg (fun z => by rw [zlt (by omega) (by omega)] at z; omega)]
  simp only
  rw [x_add, show Int32.ofNat s + 1 = Int32.ofNat (s + 1) from zadd s 1]
theorem m_odds {N : sy_M} {f n k : Nat} (h9 : N 122 9 = Int32.ofNat f) (hf : f ≤ 100) (hn : n ≤ 6) (hk : k ≤ 6) : jfX12_odds_46 sy_F (Int32.ofNat n) (Int32.ofNat k) (Int64.ofNat 0) (Int64.ofNat 1) 0 N = sy_ri (Int64.toInt32 (((Int64.ofInt 10000) * X64 (rtl f (100 - f) n k)) / X64 (100 ^ n))) N := by
  have p6 : 2 ^ n ≤ 2 ^ 6 := Nat.pow_le_pow_right (by decide) hn
  obtain ⟨q, hq⟩ := sy_for2 (n := n) (F := sy_F) (fun q i (b : Nat) => jfX12_odds_46 q (Int32.ofNat n) (Int32.ofNat k) (Int64.ofNat 0) (X64 b) (Int32.ofNat i) N) (fun _ b => b * 100) (fun i b => b = 100 ^ i) (by
    intro q i b hi _
    show jgX12_odds_46 (jfX12_odds_46 q) (Int32.ofNat n) (Int32.ofNat k) (Int64.ofNat 0) (X64 b) (Int32.ofNat i) N = _
    unfold jgX12_odds_46
    rw [if_pos ((zlt (by omega) (by omega)).mpr hi)]
    simp only
    rw [show Int64.ofInt 100 = X64 100 from rfl, x_mul, show Int32.ofNat i + 1 = Int32.ofNat (i + 1) from zadd i 1]) (by
    intro i b _ h
    rw [h, Nat.pow_succ]) 1 rfl (by rw [sy_F_eq]; omega)
  obtain ⟨hq1, hq2⟩ := hq
  refine hq1.trans ?_
  rw [hq2]
  show jgX12_odds_46 (jfX12_odds_46 q) (Int32.ofNat n) (Int32.ofNat k) (Int64.ofNat 0) (X64 (100 ^ n)) (Int32.ofNat n) N = _
  unfold jgX12_odds_46
  rw [if_neg (fun z => by rw [zlt (by omega) (by omega)] at z; omega)]
  unfold rtl
  have sh : (1 : Int32) <<< (Int32.ofNat n &&& 31) = Int32.ofNat (2 ^ n) := by
    have : ∀ n : Fin 7, (1 : Int32) <<< (Int32.ofNat n.1 &&& 31) = Int32.ofNat (2 ^ n.1) := by decide +kernel
    exact this ⟨n, by omega⟩
  obtain ⟨q2, hq3⟩ := sy_for1 (n := 2 ^ n) (F := sy_F) (fun q s (a : Nat) => jfX12_odds_69 q (Int32.ofNat n) (Int32.ofNat k) (X64 a) (X64 (100 ^ n)) (Int32.ofNat s) N) (fun s a => a + rwt f (100 - f) n k s) (by
    intro q s a hs
    show jgX12_odds_69 (jfX12_odds_69 q) (Int32.ofNat n) (Int32.ofNat k) (X64 a) (X64 (100 ^ n)) (Int32.ofNat s) N = _
    have c7 : sp_cnt s < 100 := by
      have : ∀ s : Fin 64, sp_cnt s.1 < 100 := by decide +kernel
      exact this ⟨s, by omega⟩
    have k0 := m_odds96 (k := k) (a := a) (a5 := 100 ^ n) h9 hf hn hs (jfX12_odds_69 q)
    rw [← k0]
    unfold jgX12_odds_69 jfX12_odds_91
    rw [sh, if_pos ((zlt (by omega) (by omega)).mpr hs), m_bits (by omega), sy_bi_ri]
    by_cases h : sp_cnt s < k
    · rw [if_pos ((zlt (by omega) (by omega)).mpr h), if_pos h]
    · rw [if_neg (fun z => h ((zlt (by omega) (by omega)).mp z)), if_neg h]) 0 (by rw [sy_F_eq]; omega)
  refine hq3.trans ?_
  show jgX12_odds_69 (jfX12_odds_69 q2) (Int32.ofNat n) (Int32.ofNat k) _ (X64 (100 ^ n)) (Int32.ofNat (2 ^ n)) N = _
  unfold jgX12_odds_69
  rw [sh, if_neg (fun z => by rw [zlt (by omega) (by omega)] at z; omega), if_neg (x_100 ⟨n, by omega⟩).1]
theorem o_odds (I : Inv A tx L0 S e M) (he : e < 90000) (a b : Int32) : opT A tx L0 S e (jfL_odds a b M) (jfX12_odds a b) := by
  obtain ⟨n, G, H, ht, hA, hl⟩ := id I.1
  have hn := G.2.1
  have h7 := G.2.2.1
  obtain ⟨xk, hxk, exk⟩ := I.2.2.2.2.2.2.2.2.1
  have hx := xok he hxk exk
  have h9 : M 9 3 = Int32.ofNat n := (hv_3 H.1).trans hn
  have D19 := I.2.2.2.2.1
  unfold jfL_odds
  rcases ck_range (lo := 0) (hi := 6) (by decide) (by decide) hx a with ⟨n0, _, hn0, ea, ck, sa⟩ | ⟨sa, ck⟩
  · rcases ck_range (lo := 0) (hi := 6) (by decide) (by decide) hx b with ⟨k0, _, hk0, eb, ck2, sb⟩ | ⟨sb, ck2⟩
    · subst ea eb
      obtain ⟨f, hf, ef⟩ := rb_frost G.1
      obtain ⟨N1, c1, c2⟩ := c_odds (M := M) (f := f) (n := n0) (k := k0) (by rw [hv_10 H.1]; exact ef) hf hn0 hk0
      refine opT_q I (v := Int64.toInt32 ((X64 (ctl f (100 - f) n0 k0) * (Int64.ofInt 10000)) / X64 (100 ^ n0))) ⟨N1, ?_, fun a ha => c2 a (by unfold qs at ha; omega), fun d => dk_congr d (c2 22 (by decide))⟩ (fun N hN => ?_)
      · have ck' : jfX11_checkRange (Int32.ofNat n0) 0 6 M = sy_rv M := ck
        have ck2' : jfX11_checkRange (Int32.ofNat k0) 0 6 M = sy_rv M := ck2
        unfold jfX11_odds
        rw [ck', sy_bv_rv, ck2', sy_bv_rv]
        exact c1
      · have e122 : N 122 = M 122 := hN 122 (by omega) (by omega)
        have r := m_odds (N := thr N 0) (f := f) (n := n0) (k := k0) (by rw [thr_ne _ _ (by decide), e122]; exact ef) hf hn0 hk0
        refine ⟨thr N 0, ?_, thr_0 _ _, fr_thr⟩
        rw [odds_eq ⟨f, by omega⟩ ⟨n0, by omega⟩ ⟨k0, by omega⟩, Int64.mul_comm]
        refine Eq.trans ?_ r
        simp (disch := omega) only [zL, zlt, zle, zeq, zadd, zmul, zin, zix, zsh1, Nat.add_zero, Nat.zero_add, Nat.mul_zero, if_true, if_false, if_pos, if_neg, sy_bi_ri, sy_bi_rt, sy_bv_rv, sy_bv_rt, sy_br_rr, sy_br_rn, sy_hi_ri, sy_hi_rt, sy_bs_t, sy_bx_t, sy_bb_t, bz_bo, ite_bz0, ite_bz1, jfX12_odds, jfX12_odds_26, m_isIn, sa, sb, cond_true, thr_up, thr_0]
    · refine opT_x I (cl := 20) (c := 1) ?_ rfl (by decide) (by decide) ?_
      · simp (disch := omega) only [zL, zlt, zle, zeq, zadd, zmul, zin, zix, zsh1, Nat.add_zero, Nat.zero_add, Nat.mul_zero, if_true, if_false, if_pos, if_neg, sy_bi_ri, sy_bi_rt, sy_bv_rv, sy_bv_rt, sy_br_rr, sy_br_rn, sy_hi_ri, sy_hi_rt, sy_bs_t, sy_bx_t, sy_bb_t, bz_bo, ite_bz0, ite_bz1, jfX11_odds, ck, ck2]
        all_goals rfl
      · intro N hN
        have eN : N 122 3 = Int32.ofNat n := by rw [hN 122 (by omega) (by omega)]; exact hn
        exact ⟨(Int32.ofNat 0), thr N 1, by simp (disch := omega) only [zL, zlt, zle, zeq, zadd, zmul, zin, zix, zsh1, Nat.add_zero, Nat.zero_add, Nat.mul_zero, if_true, if_false, if_pos, if_neg, sy_bi_ri, sy_bi_rt, sy_bv_rv, sy_bv_rt, sy_br_rr, sy_br_rn, sy_hi_ri, sy_hi_rt, sy_bs_t, sy_bx_t, sy_bb_t, bz_bo, ite_bz0, ite_bz1, jfX12_odds, jfX12_odds_21, jfX12_odds_26, sa, sb, m_isLodger, eN, m_isIn, m_isTick, cond_true, cond_false, thr_up, thr_0], thr_0 _ _, fr_thr⟩
  · refine opT_x I (cl := 20) (c := 1) ?_ rfl (by decide) (by decide) ?_
    · simp (disch := omega) only [zL, zlt, zle, zeq, zadd, zmul, zin, zix, zsh1, Nat.add_zero, Nat.zero_add, Nat.mul_zero, if_true, if_false, if_pos, if_neg, sy_bi_ri, sy_bi_rt, sy_bv_rv, sy_bv_rt, sy_br_rr, sy_br_rn, sy_hi_ri, sy_hi_rt, sy_bs_t, sy_bx_t, sy_bb_t, bz_bo, ite_bz0, ite_bz1, jfX11_odds, ck]
      all_goals rfl
    · intro N hN
      have eN : N 122 3 = Int32.ofNat n := by rw [hN 122 (by omega) (by omega)]; exact hn
      exact ⟨(Int32.ofNat 0), thr N 1, by simp (disch := omega) only [zL, zlt, zle, zeq, zadd, zmul, zin, zix, zsh1, Nat.add_zero, Nat.zero_add, Nat.mul_zero, if_true, if_false, if_pos, if_neg, sy_bi_ri, sy_bi_rt, sy_bv_rv, sy_bv_rt, sy_br_rr, sy_br_rn, sy_hi_ri, sy_hi_rt, sy_bs_t, sy_bx_t, sy_bb_t, bz_bo, ite_bz0, ite_bz1, jfX12_odds, jfX12_odds_21, jfX12_odds_26, sa, m_isLodger, eN, m_isIn, m_isTick, cond_true, cond_false, thr_up, thr_0], thr_0 _ _, fr_thr⟩
end
