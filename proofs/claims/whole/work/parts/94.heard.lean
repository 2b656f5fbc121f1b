/-! ===== what was heard ===== -/
/-- sums -/
def sm (g : Nat → Nat) : Nat → Nat
  | 0 => 0
  | i + 1 => sm g i + g i
theorem sm_s (g : Nat → Nat) (i : Nat) : sm g (i + 1) = sm g i + g i := rfl
theorem sm_congr {g h : Nat → Nat} : ∀ m, (∀ i, i < m → g i = h i) → sm g m = sm h m
  | 0, _ => rfl
  | m + 1, e => by rw [sm_s, sm_s, sm_congr m (fun i hi => e i (by omega)), e m (by omega)]
theorem sm_add (g h : Nat → Nat) : ∀ m, sm (fun i => g i + h i) m = sm g m + sm h m
  | 0 => rfl
  | m + 1 => by rw [sm_s, sm_s, sm_s, sm_add g h m]; omega
theorem sm_0 : ∀ m, sm (fun _ => 0) m = 0
  | 0 => rfl
  | m + 1 => by rw [sm_s, sm_0 m]
theorem sm_swap (g : Nat → Nat → Nat) (b : Nat) : ∀ a, sm (fun i => sm (g i) b) a = sm (fun j => sm (fun i => g i j) a) b
  | 0 => (sm_0 b).symm
  | a + 1 => by
    rw [sm_s, sm_swap g b a, ← sm_add]
    exact sm_congr b (fun j _ => (sm_s (fun i => g i j) a).symm)
theorem sm_app (g : Nat → Nat) (a : Nat) : ∀ b, sm g (a + b) = sm g a + sm (fun j => g (a + j)) b
  | 0 => rfl
  | b + 1 => by
    rw [show a + (b + 1) = (a + b) + 1 by omega, sm_s, sm_s, sm_app g a b]
    omega
theorem sm_div (g : Nat → Nat → Nat) (w : Nat) (hw : 0 < w) : ∀ n, sm (fun x => g (x / w) (x % w)) (w * n) = sm (fun p => sm (fun t => g p t) w) n
  | 0 => rfl
  | n + 1 => by
    rw [show w * (n + 1) = w * n + w by rw [Nat.mul_add, Nat.mul_one], sm_app, sm_div g w hw n, sm_s]
    congr 1
    refine sm_congr w (fun j hj => ?_)
    rw [Nat.mul_add_div hw, Nat.div_eq_of_lt hj, Nat.mul_add_mod, Nat.mod_eq_of_lt hj, Nat.add_zero]
theorem sm_cut (g : Nat → Nat) (t : Nat) : ∀ m, t ≤ m → sm (fun i => if i < t then g i else 0) m = sm g t
  | 0, h => by
    have : t = 0 := by omega
    subst this
    rfl
  | m + 1, h => by
    by_cases e : t = m + 1
    · subst e
      exact sm_congr _ (fun i hi => if_pos hi)
    · rw [sm_s, sm_cut g t m (by omega), if_neg (by omega), Nat.add_zero]
theorem sm_le (g : Nat → Nat) (c : Nat) : ∀ m, (∀ i, i < m → g i ≤ c) → sm g m ≤ c * m
  | 0, _ => Nat.le_refl _
  | m + 1, h => by
    have h1 := sm_le g c m (fun i hi => h i (by omega))
    have h2 := h m (by omega)
    have h3 : c * (m + 1) = c * m + c := by rw [Nat.mul_add, Nat.mul_one]
    rw [sm_s]
    omega
theorem sm_mono {g h : Nat → Nat} : ∀ m, (∀ i, i < m → g i ≤ h i) → sm g m ≤ sm h m
  | 0, _ => Nat.le_refl _
  | m + 1, e => by
    have h1 := sm_mono m (fun i hi => e i (Nat.lt_succ_of_lt hi))
    have h2 := e m (by omega)
    rw [sm_s, sm_s]
    omega
def b1 (b : Bool) : Nat := bif b then 1 else 0
theorem b1_le (b : Bool) : b1 b ≤ 1 := by cases b <;> decide
theorem bz_b1 (b : Bool) : bz b = Int32.ofNat (b1 b) := by cases b <;> rfl
section
variable {A : (Nat → Int32) → Nat → Int32 × Bool} {tx : (Nat → Int32) → Prop} {L0 : Int32} {S : Nat → Int32} {e : Nat} {M : sy_M}
/-! the reference reads rows -/
def ar_ok (bt : Nat → Nat) (mo : Nat) : Nat → Bool
  | 0 => true
  | k + 1 => ar_ok bt mo k && decide (bt k ≤ if k % 2 = 0 then 47 else mo)
theorem ar_ok_s (bt : Nat → Nat) (mo k : Nat) : ar_ok bt mo (k + 1) = (ar_ok bt mo k && decide (bt k ≤ if k % 2 = 0 then 47 else mo)) := rfl
theorem ar_rw (bt : Nat → Nat) (mo : Nat) : ∀ i, ar_ok bt mo (2 * i) = rw_ok bt mo i
  | 0 => rfl
  | i + 1 => by
    rw [show 2 * (i + 1) = 2 * i + 1 + 1 by omega, ar_ok_s, ar_ok_s, ar_rw bt mo i, rw_ok_s, if_pos (show 2 * i % 2 = 0 by omega), if_neg (show ¬ (2 * i + 1) % 2 = 0 by omega), Bool.and_assoc]
    congr 2
    exact decide_eq_decide.mpr (by omega)
theorem m_areRows {bt : Nat → Nat} {mo L : Nat} (hL : L ≤ 400) (hm : mo ≤ 255) (hb : ∀ i, i < L → M 126 i = Int32.ofNat (bt i) ∧ bt i ≤ 255) : jfX12_areRows (Int32.ofNat L) (Int32.ofNat mo) M = sy_ri (bz (rw_all bt mo L)) M := by
  have zm := zmod (a := L) (b := 2) (by omega) (by omega)
  have no : jfX12_areRows_21 sy_F (Int32.ofNat L) (Int32.ofNat mo) (Int32.ofNat 0) (Int32.ofNat 0) M = sy_ri (bz false) M := by
    rw [show sy_F = (sy_F - 1) + 1 by rw [sy_F_eq]]
    show jgX12_areRows_21 (jfX12_areRows_21 (sy_F - 1)) (Int32.ofNat L) (Int32.ofNat mo) (Int32.ofNat 0) (Int32.ofNat 0) M = _
    unfold jgX12_areRows_21
    rw [if_pos (show ((Int32.ofNat 0) : Int32) = 0 from rfl)]
    split <;> rfl
  unfold rw_all jfX12_areRows jfX12_areRows_16 jfX12_areRows_17
  simp only [zL, zm]
  by_cases q1 : L % 2 = 0
  · rw [if_pos ((zeq (by omega) (by omega)).mpr q1)]
    by_cases q2 : 40 < L
    · rw [if_pos ((zlt (by omega) (by omega)).mpr q2), decide_eq_false (by omega), Bool.false_and, no]
    · rw [if_neg (fun z => q2 ((zlt (by omega) (by omega)).mp z)), decide_eq_true ⟨q1, by omega⟩, Bool.true_and, ← ar_rw, show 2 * (L / 2) = L by omega]
      refine sy_forR (n := L) (F := sy_F) (R := fun c => c = sy_ri (bz (ar_ok bt mo L)) M) (fun k i (_ : Unit) => jfX12_areRows_21 k (Int32.ofNat L) (Int32.ofNat mo) (bz (ar_ok bt mo i)) (Int32.ofNat i) M) (fun _ _ => True) ?_ ?_ () trivial (by rw [sy_F_eq]; omega)
      · intro k i _ hi _
        have b := hb i hi
        have zi := zmod (a := i) (b := 2) (by omega) (by omega)
        show (∃ _ : Unit, jgX12_areRows_21 (jfX12_areRows_21 k) (Int32.ofNat L) (Int32.ofNat mo) (bz (ar_ok bt mo i)) (Int32.ofNat i) M = _ ∧ _) ∨ jgX12_areRows_21 (jfX12_areRows_21 k) (Int32.ofNat L) (Int32.ofNat mo) (bz (ar_ok bt mo i)) (Int32.ofNat i) M = _
        simp (disch := omega) only [zL, zlt, zle, zeq, zadd, zmul, zin, zix, zsh1, Nat.add_zero, Nat.zero_add, Nat.mul_zero, if_true, if_false, if_pos, if_neg, sy_bi_ri, sy_bi_rt, sy_bv_rv, sy_bv_rt, sy_br_rr, sy_br_rn, sy_hi_ri, sy_hi_rt, sy_bs_t, sy_bx_t, sy_bb_t, bz_bo, ite_bz0, ite_bz1, jgX12_areRows_21, jfX12_areRows_51, jfX12_areRows_59, b.1, zi]
        cases h1 : ar_ok bt mo i with
        | false =>
          right
          have : ∀ k, i ≤ k → ar_ok bt mo k = false := by
            intro k
            induction k with
            | zero =>
              intro hk
              have : i = 0 := by omega
              subst this
              exact h1
            | succ k ih =>
              intro hk
              by_cases e : i = k + 1
              · subst e; exact h1
              · rw [ar_ok_s, ih (by omega)]; rfl
          rw [this L (by omega)]
          rfl
        | true =>
          left
          refine ⟨(), ?_, trivial⟩
          rw [ar_ok_s, h1, cond_true, Bool.true_and]
          by_cases c1 : i % 2 = 0
          · rw [if_pos c1, if_pos c1]
            by_cases c2 : 47 < bt i
            · rw [if_pos c2, decide_eq_false (by omega)]; rfl
            · rw [if_neg c2, decide_eq_true (by omega)]; rfl
          · rw [if_neg c1, if_neg c1]
            by_cases c2 : mo < bt i
            · rw [if_pos c2, decide_eq_false (by omega)]; rfl
            · rw [if_neg c2, decide_eq_true (by omega)]; rfl
      · intro k _ _
        show jgX12_areRows_21 (jfX12_areRows_21 k) (Int32.ofNat L) (Int32.ofNat mo) (bz (ar_ok bt mo L)) (Int32.ofNat L) M = _
        simp (disch := omega) only [zL, zlt, zle, zeq, zadd, zmul, zin, zix, zsh1, Nat.add_zero, Nat.zero_add, Nat.mul_zero, if_true, if_false, if_pos, if_neg, sy_bi_ri, sy_bi_rt, sy_bv_rv, sy_bv_rt, sy_br_rr, sy_br_rn, sy_hi_ri, sy_hi_rt, sy_bs_t, sy_bx_t, sy_bb_t, bz_bo, ite_bz0, ite_bz1, jgX12_areRows_21]
  · rw [if_neg (fun z => q1 ((zeq (by omega) (by omega)).mp z)), decide_eq_false (by omega), Bool.false_and, no]
/-! a tick that fits -/
def ps (bt : Nat → Nat) (t : Nat) : Nat → Bool
  | 0 => true
  | i + 1 => ps bt t i && (decide (t ≤ bt (2 * i)) == decide (bt (2 * i + 1) = 1))
theorem ps_s (bt : Nat → Nat) (t i : Nat) : ps bt t (i + 1) = (ps bt t i && (decide (t ≤ bt (2 * i)) == decide (bt (2 * i + 1) = 1))) := rfl
theorem ps_f {bt : Nat → Nat} {t m : Nat} (h : ps bt t m = false) : ∀ k, m ≤ k → ps bt t k = false
  | 0, hk => by
    have : m = 0 := by omega
    subst this
    exact h
  | k + 1, hk => by
    by_cases e : m = k + 1
    · subst e; exact h
    · rw [ps_s, ps_f h k (by omega)]; rfl
theorem c_possible {bt : Nat → Nat} {r t : Nat} (hr : r ≤ 20) (ht : t < 48) (hb : ∀ i, i < 2 * r → bt i ≤ 255) (C : cu bt r M) : jfX1_isPossible (Int32.ofNat t) M = sy_ri (bz (ps bt t r)) M := by
  unfold jfX1_isPossible
  have e6 := C.1
  refine sy_forR (n := r) (F := sy_F) (R := fun c => c = sy_ri (bz (ps bt t r)) M) (fun k i (_ : Unit) => jfX1_isPossible_2 k (Int32.ofNat t) (Int32.ofNat i) M) (fun i _ => ps bt t i = true) ?_ ?_ () rfl (by rw [sy_F_eq]; omega)
  · intro k i _ hi h1
    have ci := C.2 i hi
    have d1 := hb (2 * i) (by omega)
    have d2 := hb (2 * i + 1) (by omega)
    show (∃ _ : Unit, jgX1_isPossible_2 (jfX1_isPossible_2 k) (Int32.ofNat t) (Int32.ofNat i) M = _ ∧ _) ∨ jgX1_isPossible_2 (jfX1_isPossible_2 k) (Int32.ofNat t) (Int32.ofNat i) M = _
    have no : ps bt t (i + 1) = false → ps bt t r = false := fun z => ps_f z r (by omega)
    simp (disch := omega) only [zL, zlt, zle, zeq, zadd, zmul, zin, zix, zsh1, Nat.add_zero, Nat.zero_add, Nat.mul_zero, if_true, if_false, if_pos, if_neg, sy_bi_ri, sy_bi_rt, sy_bv_rv, sy_bv_rt, sy_br_rr, sy_br_rn, sy_hi_ri, sy_hi_rt, sy_bs_t, sy_bx_t, sy_bb_t, bz_bo, ite_bz0, ite_bz1, jgX1_isPossible_2, jfX1_isPossible_31, jfX1_isPossible_46, e6, ci.1, ci.2]
    by_cases c1 : bt (2 * i) < t
    · rw [if_pos c1]
      by_cases c2 : bt (2 * i + 1) = 1
      · right
        have z : ps bt t (i + 1) = false := by rw [ps_s, decide_eq_false (show ¬ t ≤ bt (2 * i) by omega), decide_eq_true c2, h1]; rfl
        rw [if_pos c2, no z]
        rfl
      · left
        refine ⟨(), ?_, by rw [ps_s, decide_eq_false (show ¬ t ≤ bt (2 * i) by omega), decide_eq_false c2, h1]; rfl⟩
        rw [if_neg c2]
    · rw [if_neg c1]
      by_cases c2 : bt (2 * i + 1) = 1
      · left
        refine ⟨(), ?_, by rw [ps_s, decide_eq_true (show t ≤ bt (2 * i) by omega), decide_eq_true c2, h1]; rfl⟩
        rw [if_pos c2]
      · right
        have z : ps bt t (i + 1) = false := by rw [ps_s, decide_eq_true (show t ≤ bt (2 * i) by omega), decide_eq_false c2, h1]; rfl
        rw [if_neg c2, no z]
        rfl
  · intro k _ h1
    show jgX1_isPossible_2 (jfX1_isPossible_2 k) (Int32.ofNat t) (Int32.ofNat r) M = _
    rw [h1]
    simp (disch := omega) only [zL, zlt, zle, zeq, zadd, zmul, zin, zix, zsh1, Nat.add_zero, Nat.zero_add, Nat.mul_zero, if_true, if_false, if_pos, if_neg, sy_bi_ri, sy_bi_rt, sy_bv_rv, sy_bv_rt, sy_br_rr, sy_br_rn, sy_hi_ri, sy_hi_rt, sy_bs_t, sy_bx_t, sy_bb_t, bz_bo, ite_bz0, ite_bz1, jgX1_isPossible_2, e6]
    rfl
/-! the reference's marks -/
def hfit (f : Nat → Int32) (bt : Nat → Nat) (r x : Nat) : Bool := sp_at f (x / 48) (Int32.ofNat (x % 48)) && ps bt (x % 48) r
theorem m_heard_in {bt : Nat → Nat} {L x : Nat} {c : Int32} {b0 : Bool} (k25 : Int32 → Int32 → Int32 → sy_M → sy_O) (h2 : L % 2 = 0) (hL : L ≤ 40) (hx : x < 336) (hb : ∀ i, i < L → M 126 i = Int32.ofNat (bt i) ∧ bt i ≤ 255) : jfX12_heard_59 k25 sy_F (Int32.ofNat L) c (Int32.ofNat x) (Int32.ofNat 0) (syc M 131 (rs (M 131) x (bz b0))) = k25 (Int32.ofNat L) (c + bz (b0 && ps bt (x % 48) (L / 2))) (Int32.ofNat (x + 1)) (syc M 131 (rs (M 131) x (bz (b0 && ps bt (x % 48) (L / 2))))) := by
  have e0 : (b0 && ps bt (x % 48) 0) = b0 := by cases b0 <;> rfl
  have zm := zmod (a := x) (b := 48) (by omega) (by omega)
  have at1 : ∀ v : Int32, syc M 131 (rs (M 131) x v) 131 x = v := fun v => by rw [syc_at, rs_at]
  have a126 : ∀ v : Int32, syc M 131 (rs (M 131) x v) 126 = M 126 := fun v => syc_ne _ _ (by decide)
  have up : ∀ v w : Int32, sy_upd (syc M 131 (rs (M 131) x v)) 131 x w = syc M 131 (rs (M 131) x w) := fun v w => by rw [sy_upd_st, syc_at, syc_st, rs_rs]
  have last : ∀ (k59 : Int32 → Int32 → Int32 → Int32 → sy_M → sy_O) (b : Bool), jfX12_heard_131 k25 (Int32.ofNat L) c (Int32.ofNat x) (syc M 131 (rs (M 131) x (bz b))) = k25 (Int32.ofNat L) (c + bz b) (Int32.ofNat (x + 1)) (syc M 131 (rs (M 131) x (bz b))) := by
    intro _ b
    simp (disch := omega) only [zL, zlt, zle, zeq, zadd, zmul, zin, zix, zsh1, Nat.add_zero, Nat.zero_add, Nat.mul_zero, if_true, if_false, if_pos, if_neg, sy_bi_ri, sy_bi_rt, sy_bv_rv, sy_bv_rt, sy_br_rr, sy_br_rn, sy_hi_ri, sy_hi_rt, sy_bs_t, sy_bx_t, sy_bb_t, bz_bo, ite_bz0, ite_bz1, jfX12_heard_131, jfX12_heard_146, at1]
    cases b <;> rfl
  have key := sy_forR (n := L / 2) (F := sy_F) (R := fun o => o = k25 (Int32.ofNat L) (c + bz (b0 && ps bt (x % 48) (L / 2))) (Int32.ofNat (x + 1)) (syc M 131 (rs (M 131) x (bz (b0 && ps bt (x % 48) (L / 2)))))) (fun k i (_ : Unit) => jfX12_heard_59 k25 k (Int32.ofNat L) c (Int32.ofNat x) (Int32.ofNat (2 * i)) (syc M 131 (rs (M 131) x (bz (b0 && ps bt (x % 48) i))))) (fun _ _ => True) ?_ ?_ () trivial (by rw [sy_F_eq]; omega)
  · rw [e0] at key
    exact key
  · intro k i _ hi _
    have d1 := hb (2 * i) (by omega)
    have d2 := hb (2 * i + 1) (by omega)
    show (∃ _ : Unit, jgX12_heard_59 k25 (jfX12_heard_59 k25 k) (Int32.ofNat L) c (Int32.ofNat x) (Int32.ofNat (2 * i)) (syc M 131 (rs (M 131) x (bz (b0 && ps bt (x % 48) i)))) = _ ∧ _) ∨ jgX12_heard_59 k25 (jfX12_heard_59 k25 k) (Int32.ofNat L) c (Int32.ofNat x) (Int32.ofNat (2 * i)) (syc M 131 (rs (M 131) x (bz (b0 && ps bt (x % 48) i)))) = _
    simp (disch := omega) only [zL, zlt, zle, zeq, zadd, zmul, zin, zix, zsh1, Nat.add_zero, Nat.zero_add, Nat.mul_zero, if_true, if_false, if_pos, if_neg, sy_bi_ri, sy_bi_rt, sy_bv_rv, sy_bv_rt, sy_br_rr, sy_br_rn, sy_hi_ri, sy_hi_rt, sy_bs_t, sy_bx_t, sy_bb_t, bz_bo, ite_bz0, ite_bz1, jgX12_heard_59, at1, a126, d1.1, zm, last (jfX12_heard_59 k25 k)]
    cases h1 : (b0 && ps bt (x % 48) i) with
    | false =>
      right
      have : (b0 && ps bt (x % 48) (L / 2)) = false := by
        cases b0 with
        | false => rfl
        | true => rw [Bool.true_and] at h1 ⊢; exact ps_f h1 _ (by omega)
      rw [this]
      rfl
    | true =>
      left
      refine ⟨(), ?_, trivial⟩
      rw [Bool.and_eq_true] at h1
      obtain ⟨hb0, hps⟩ := h1
      rw [ps_s, hps, hb0, cond_true]
      simp (disch := omega) only [zL, zlt, zle, zeq, zadd, zmul, zin, zix, zsh1, Nat.add_zero, Nat.zero_add, Nat.mul_zero, if_true, if_false, if_pos, if_neg, sy_bi_ri, sy_bi_rt, sy_bv_rv, sy_bv_rt, sy_br_rr, sy_br_rn, sy_hi_ri, sy_hi_rt, sy_bs_t, sy_bx_t, sy_bb_t, bz_bo, ite_bz0, ite_bz1, jfX12_heard_98, jfX12_heard_116, jfX12_heard_124, a126, d2.1, up]
      have two : 2 * i + 2 = 2 * (i + 1) := by omega
      rw [two]
      by_cases c1 : bt (2 * i) < x % 48
      · by_cases c2 : bt (2 * i + 1) = 1
        · rw [if_pos c1, if_pos c2, decide_eq_false (show ¬ x % 48 ≤ bt (2 * i) by omega), decide_eq_true c2]; rfl
        · rw [if_pos c1, if_neg c2, decide_eq_false (show ¬ x % 48 ≤ bt (2 * i) by omega), decide_eq_false c2]; rfl
      · by_cases c2 : bt (2 * i + 1) = 1
        · rw [if_neg c1, if_pos c2, decide_eq_true (show x % 48 ≤ bt (2 * i) by omega), decide_eq_true c2]; rfl
        · rw [if_neg c1, if_neg c2, decide_eq_true (show x % 48 ≤ bt (2 * i) by omega), decide_eq_false c2]; rfl
  · intro k _ _
    show jgX12_heard_59 k25 (jfX12_heard_59 k25 k) (Int32.ofNat L) c (Int32.ofNat x) (Int32.ofNat (2 * (L / 2))) (syc M 131 (rs (M 131) x (bz (b0 && ps bt (x % 48) (L / 2))))) = _
    have : 2 * (L / 2) = L := by omega
    rw [this]
    simp (disch := omega) only [zL, zlt, zle, zeq, zadd, zmul, zin, zix, zsh1, Nat.add_zero, Nat.zero_add, Nat.mul_zero, if_true, if_false, if_pos, if_neg, sy_bi_ri, sy_bi_rt, sy_bv_rv, sy_bv_rt, sy_br_rr, sy_br_rn, sy_hi_ri, sy_hi_rt, sy_bs_t, sy_bx_t, sy_bb_t, bz_bo, ite_bz0, ite_bz1, jgX12_heard_59, last (jfX12_heard_59 k25 k)]
def hmem (f : Nat → Int32) (bt : Nat → Nat) (r j : Nat) (N : sy_M) : sy_M := syc N 131 (fun x => if x < j then bz (hfit f bt r x) else N 131 x)
def hcnt (f : Nat → Int32) (bt : Nat → Nat) (r j : Nat) : Nat := sm (fun x => b1 (hfit f bt r x)) j
theorem hmem_s (f : Nat → Int32) (bt : Nat → Nat) (r j : Nat) (N : sy_M) : syc (hmem f bt r j N) 131 (rs (hmem f bt r j N 131) j (bz (hfit f bt r j))) = hmem f bt r (j + 1) N := by
  unfold hmem
  rw [syc_st, syc_at]
  congr 1
  funext x
  unfold rs
  by_cases c : x = j
  · subst c
    rw [if_pos rfl, if_pos (by omega)]
  · rw [if_neg c]
    show (if x < j then bz (hfit f bt r x) else N 131 x) = _
    by_cases c2 : x < j
    · rw [if_pos c2, if_pos (by omega)]
    · rw [if_neg c2, if_neg (by omega)]
theorem m_heard_25 {bt : Nat → Nat} {L n : Nat} {f : Nat → Int32} (h2 : L % 2 = 0) (hL : L ≤ 40) (h7 : n ≤ 7) (hf : M 122 = f) (hn : f 3 = Int32.ofNat n) (hb : ∀ i, i < L → M 126 i = Int32.ofNat (bt i) ∧ bt i ≤ 255) : jfX12_heard_25 sy_F (Int32.ofNat L) (Int32.ofNat 0) (Int32.ofNat 0) M = sy_ri (Int32.ofNat (hcnt f bt (L / 2) (48 * n))) (hmem f bt (L / 2) (48 * n) M) := by
  have h0 : hmem f bt (L / 2) 0 M = M := by
    unfold hmem
    rw [show (fun x => if x < 0 then bz (hfit f bt (L / 2) x) else M 131 x) = M 131 from funext fun x => if_neg (by omega)]
    exact syc_self _ _
  have key := sy_forR (n := 48 * n) (F := sy_F) (R := fun o => o = sy_ri (Int32.ofNat (hcnt f bt (L / 2) (48 * n))) (hmem f bt (L / 2) (48 * n) M)) (fun k i (_ : Unit) => jfX12_heard_25 k (Int32.ofNat L) (Int32.ofNat (hcnt f bt (L / 2) i)) (Int32.ofNat i) (hmem f bt (L / 2) i M)) (fun _ _ => True) ?_ ?_ () trivial (by rw [sy_F_eq]; omega)
  · rw [h0] at key
    exact key
  · intro k i _ hi _
    refine Or.inl ⟨(), ?_, trivial⟩
    show jgX12_heard_25 (jfX12_heard_25 k) (Int32.ofNat L) (Int32.ofNat (hcnt f bt (L / 2) i)) (Int32.ofNat i) (hmem f bt (L / 2) i M) = _
    have e122 : hmem f bt (L / 2) i M 122 = f := (syc_ne _ _ (by decide)).trans hf
    have e126 : hmem f bt (L / 2) i M 126 = M 126 := syc_ne _ _ (by decide)
    have zm := zmod (a := i) (b := 48) (by omega) (by omega)
    have zd := zdiv (a := i) (b := 48) (by omega) (by omega)
    have ath := m_atHome (M := hmem f bt (L / 2) i M) (p := i / 48) (t := Int32.ofNat (i % 48)) (by omega)
    rw [e122] at ath
    have hin := fun b0 => m_heard_in (M := hmem f bt (L / 2) i M) (bt := bt) (L := L) (x := i) (c := Int32.ofNat (hcnt f bt (L / 2) i)) (b0 := b0) (jfX12_heard_25 k) h2 hL (by omega) (fun j hj => by rw [e126]; exact hb j hj)
    have up := fun v => sy_upd_st (hmem f bt (L / 2) i M) 131 i v
    have e3 : hcnt f bt (L / 2) (i + 1) = hcnt f bt (L / 2) i + b1 (hfit f bt (L / 2) i) := rfl
    rw [← hmem_s, e3, ← zadd, ← bz_b1]
    unfold hfit
    simp only [jgX12_heard_25, zL, zm]
    rw [zd, e122, hn, zmul, if_pos ((zlt (by omega) (by omega)).mpr hi), ath, sy_bi_ri, zin (by omega) (by omega), sy_bx_t, bz_bo, sy_bb_t, zix (by omega), up]
    exact hin _
  · intro k _ _
    show jgX12_heard_25 (jfX12_heard_25 k) (Int32.ofNat L) (Int32.ofNat (hcnt f bt (L / 2) (48 * n))) (Int32.ofNat (48 * n)) (hmem f bt (L / 2) (48 * n) M) = _
    have e122 : hmem f bt (L / 2) (48 * n) M 122 = f := (syc_ne _ _ (by decide)).trans hf
    simp (disch := omega) only [zL, zlt, zle, zeq, zadd, zmul, zin, zix, zsh1, Nat.add_zero, Nat.zero_add, Nat.mul_zero, if_true, if_false, if_pos, if_neg, sy_bi_ri, sy_bi_rt, sy_bv_rv, sy_bv_rt, sy_br_rr, sy_br_rn, sy_hi_ri, sy_hi_rt, sy_bs_t, sy_bx_t, sy_bb_t, bz_bo, ite_bz0, ite_bz1, jgX12_heard_25, e122, hn]
end
