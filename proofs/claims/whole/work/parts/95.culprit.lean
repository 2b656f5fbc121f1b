/-! ===== culprit, ask ===== -/
theorem bit32_1 {p q : Nat} (hp : p < 32) (hq : q < 7) : sp_bit ((Int32.ofNat 1) <<< Int32.ofNat q) p = decide (p = q) := by
  have : ∀ (p : Fin 32) (q : Fin 7), sp_bit ((Int32.ofNat 1) <<< Int32.ofNat q.1) p.1 = decide (p.1 = q.1) := by decide +kernel
  exact this ⟨p, hp⟩ ⟨q, hq⟩
theorem bit32_0 {p : Nat} (hp : p < 32) : sp_bit (Int32.ofNat 0) p = false := by
  have : ∀ p : Fin 32, sp_bit (Int32.ofNat 0) p.1 = false := by decide +kernel
  exact this ⟨p, hp⟩
theorem home32 {f : Nat → Int32} {t : Int32} {p : Nat} (hp : p < 32) : ∀ n, n ≤ 7 → sp_bit (sp_home f n t) p = (decide (p < n) && sp_at f p t)
  | 0, _ => by
    rw [decide_eq_false (by omega)]
    exact bit32_0 hp
  | n + 1, h => by
    rw [sp_home_succ, sp_bit_or _ _ (by omega), home32 hp n (by omega)]
    by_cases h1 : p = n
    · subst h1
      rw [decide_eq_false (by omega), decide_eq_true (by omega)]
      cases sp_at f p t
      · rw [cond_false, bit32_0 hp]; rfl
      · rw [cond_true, bit32_1 hp (by omega), decide_eq_true rfl]; rfl
    · have h2 : sp_bit (bif sp_at f n t then (Int32.ofNat 1) <<< Int32.ofNat n else (Int32.ofNat 0)) p = false := by
        cases sp_at f n t
        · exact bit32_0 hp
        · rw [cond_true, bit32_1 hp (by omega)]; exact decide_eq_false h1
      rw [h2, Bool.or_false]
      congr 1
      exact decide_eq_decide.mpr (by omega)
theorem sp_ext {a b : Int32} (h : ∀ p, p < 32 → sp_bit a p = sp_bit b p) : a = b := by
  refine Int32.toBitVec_inj.mp (BitVec.eq_of_getLsbD_eq fun i hi => ?_)
  have := h i hi
  rw [sp_bit_lsb _ hi, sp_bit_lsb _ hi] at this
  exact this
theorem num7 {s : Int32} (h : ∀ p, 7 ≤ p → p < 32 → sp_bit s p = false) : ∃ k, k < 128 ∧ s = Int32.ofNat k ∧ ∀ p, p < 7 → k.testBit p = sp_bit s p := by
  refine ⟨s.toBitVec.toNat, ?_, ?_, ?_⟩
  · refine Nat.lt_pow_two_of_testBit (n := 7) _ (fun i hi => ?_)
    rw [BitVec.testBit_toNat]
    by_cases c : i < 32
    · rw [← sp_bit_lsb _ c]
      exact h i hi c
    · exact BitVec.getLsbD_of_ge _ _ (by omega)
  · refine Int32.toBitVec_inj.mp (BitVec.eq_of_toNat_eq ?_)
    show _ = (BitVec.ofNat 32 s.toBitVec.toNat).toNat
    rw [BitVec.toNat_ofNat, Nat.mod_eq_of_lt s.toBitVec.isLt]
  · intro p hp
    rw [BitVec.testBit_toNat, sp_bit_lsb _ (by omega)]
theorem cnt_sm (k : Nat) : sp_cnt k = sm (fun p => b1 (k.testBit p)) 7 := by
  show _ = 0 + b1 (k.testBit 0) + b1 (k.testBit 1) + b1 (k.testBit 2) + b1 (k.testBit 3) + b1 (k.testBit 4) + b1 (k.testBit 5) + b1 (k.testBit 6)
  have e : ∀ b : Bool, (if b = true then 1 else 0) = b1 b := fun b => by cases b <;> rfl
  unfold sp_cnt
  rw [e, e, e, e, e, e, e, Nat.zero_add]
theorem home_cnt {f : Nat → Int32} {n : Nat} {t : Int32} (h7 : n ≤ 7) : ∃ k, k < 128 ∧ sp_home f n t = Int32.ofNat k ∧ sp_cnt k = sm (fun p => b1 (sp_at f p t)) n := by
  obtain ⟨k, h1, h2, h3⟩ := num7 (s := sp_home f n t) (fun p hp h32 => by rw [home32 h32 n h7, decide_eq_false (by omega)]; rfl)
  refine ⟨k, h1, h2, ?_⟩
  rw [cnt_sm, ← sm_cut (fun p => b1 (sp_at f p t)) n 7 h7]
  refine sm_congr 7 (fun p hp => ?_)
  rw [h3 p hp, home32 (by omega) n h7]
  by_cases c : p < n
  · rw [if_pos c, decide_eq_true c]; rfl
  · rw [if_neg c, decide_eq_false c]; rfl
section
variable {A : (Nat → Int32) → Nat → Int32 × Bool} {tx : (Nat → Int32) → Prop} {L0 : Int32} {S : Nat → Int32} {e : Nat} {M : sy_M}
def cfit (f : Nat → Int32) (bt : Nat → Nat) (r n t : Nat) : Nat := bif ps bt t r then sm (fun p => b1 (sp_at f p (Int32.ofNat t))) n else 0
theorem cfit_sm (f : Nat → Int32) (bt : Nat → Nat) (r n t : Nat) : cfit f bt r n t = sm (fun p => b1 (sp_at f p (Int32.ofNat t) && ps bt t r)) n := by
  unfold cfit
  cases ps bt t r with
  | false =>
    rw [cond_false, ← sm_0 n]
    exact sm_congr n (fun p _ => by rw [Bool.and_false]; rfl)
  | true =>
    rw [cond_true]
    exact sm_congr n (fun p _ => by rw [Bool.and_true])
theorem cfit_le {f : Nat → Int32} {bt : Nat → Nat} {r n t : Nat} (h7 : n ≤ 7) : cfit f bt r n t ≤ 7 := by
  rw [cfit_sm]
  have := sm_le (fun p => b1 (sp_at f p (Int32.ofNat t) && ps bt t r)) 1 n (fun i _ => b1_le _)
  omega
def cF (f : Nat → Int32) (bt : Nat → Nat) (r n m : Nat) : Nat := sm (cfit f bt r n) m
theorem cF_s (f : Nat → Int32) (bt : Nat → Nat) (r n m : Nat) : cF f bt r n (m + 1) = cF f bt r n m + cfit f bt r n m := rfl
theorem cF_le {f : Nat → Int32} {bt : Nat → Nat} {r n : Nat} (h7 : n ≤ 7) (m : Nat) : cF f bt r n m ≤ 7 * m := sm_le _ 7 m (fun _ _ => cfit_le h7)
theorem cF_mono {f : Nat → Int32} {bt : Nat → Nat} {r n : Nat} {a : Nat} : ∀ b, a ≤ b → cF f bt r n a ≤ cF f bt r n b
  | 0, h => by
    have : a = 0 := by omega
    subst this
    exact Nat.le_refl _
  | b + 1, h => by
    by_cases e : a = b + 1
    · subst e; exact Nat.le_refl _
    · have := cF_mono (f := f) (bt := bt) (r := r) (n := n) b (show a ≤ b by omega)
      rw [cF_s]
      omega
theorem hcnt_cF (f : Nat → Int32) (bt : Nat → Nat) (r n : Nat) : hcnt f bt r (48 * n) = cF f bt r n 48 := by
  unfold hcnt cF hfit
  rw [sm_div (fun p t => b1 (sp_at f p (Int32.ofNat t) && ps bt t r)) 48 (by decide) n, sm_swap]
  exact sm_congr 48 (fun t _ => (cfit_sm f bt r n t).symm)
theorem part_cF {f : Nat → Int32} {bt : Nat → Nat} {r n t : Nat} (ht : t < 48) : sm (fun x => b1 (hfit f bt r x && decide (x % 48 ≤ t))) (48 * n) = cF f bt r n (t + 1) := by
  unfold cF hfit
  rw [sm_div (fun p u => b1 (sp_at f p (Int32.ofNat u) && ps bt u r && decide (u ≤ t))) 48 (by decide) n, sm_swap, ← sm_cut (cfit f bt r n) (t + 1) 48 (by omega)]
  refine sm_congr 48 (fun u _ => ?_)
  by_cases c : u < t + 1
  · rw [if_pos c, cfit_sm]
    exact sm_congr n (fun p _ => by rw [decide_eq_true (show u ≤ t by omega), Bool.and_true])
  · rw [if_neg c, ← sm_0 n]
    exact sm_congr n (fun p _ => by rw [decide_eq_false (show ¬ u ≤ t by omega), Bool.and_false]; rfl)
def cbit (f : Nat → Int32) (bt : Nat → Nat) (r n : Nat) : Nat → Int32
  | 0 => (Int32.ofNat 0)
  | t + 1 => bif ps bt t r then cbit f bt r n t ||| sp_home f n (Int32.ofNat t) else cbit f bt r n t
theorem cbit_s (f : Nat → Int32) (bt : Nat → Nat) (r n t : Nat) : cbit f bt r n (t + 1) = bif ps bt t r then cbit f bt r n t ||| sp_home f n (Int32.ofNat t) else cbit f bt r n t := rfl
theorem bit_cbit {f : Nat → Int32} {bt : Nat → Nat} {r n q : Nat} (h7 : n ≤ 7) (hq : q < 32) : ∀ m, sp_bit (cbit f bt r n m) q = true ↔ ∃ t, t < m ∧ ps bt t r = true ∧ q < n ∧ sp_at f q (Int32.ofNat t) = true
  | 0 => by
    show sp_bit (Int32.ofNat 0) q = true ↔ _
    rw [bit32_0 hq]
    constructor
    · intro h
      exact absurd h (by decide)
    · rintro ⟨t, h, _⟩
      omega
  | m + 1 => by
    have ih := bit_cbit (f := f) (bt := bt) (r := r) h7 hq m
    rw [cbit_s]
    cases h : ps bt m r with
    | false =>
      rw [cond_false, ih]
      constructor
      · rintro ⟨t, h1, h2⟩
        exact ⟨t, by omega, h2⟩
      · rintro ⟨t, h1, h2⟩
        by_cases e : t = m
        · subst e
          exact absurd (h.symm.trans h2.1) (by decide)
        · exact ⟨t, by omega, h2⟩
    | true =>
      rw [cond_true, sp_bit_or _ _ hq, Bool.or_eq_true, ih, home32 hq n h7, Bool.and_eq_true, decide_eq_true_iff]
      constructor
      · rintro (⟨t, h1, h2⟩ | h2)
        · exact ⟨t, by omega, h2⟩
        · exact ⟨m, by omega, h, h2⟩
      · rintro ⟨t, h1, h2⟩
        by_cases e : t = m
        · subst e
          exact Or.inr h2.2
        · exact Or.inl ⟨t, by omega, h2⟩
def hbit (f : Nat → Int32) (bt : Nat → Nat) (r : Nat) : Nat → Int32
  | 0 => (Int32.ofNat 0)
  | x + 1 => hbit f bt r x ||| (bif hfit f bt r x then (Int32.ofNat 1) <<< Int32.ofNat (x / 48) else (Int32.ofNat 0))
theorem hbit_s (f : Nat → Int32) (bt : Nat → Nat) (r x : Nat) : hbit f bt r (x + 1) = hbit f bt r x ||| (bif hfit f bt r x then (Int32.ofNat 1) <<< Int32.ofNat (x / 48) else (Int32.ofNat 0)) := rfl
theorem bit_hbit {f : Nat → Int32} {bt : Nat → Nat} {r q : Nat} (hq : q < 32) : ∀ m, m ≤ 336 → (sp_bit (hbit f bt r m) q = true ↔ ∃ x, x < m ∧ hfit f bt r x = true ∧ q = x / 48)
  | 0, _ => by
    show sp_bit (Int32.ofNat 0) q = true ↔ _
    rw [bit32_0 hq]
    constructor
    · intro h
      exact absurd h (by decide)
    · rintro ⟨t, h, _⟩
      omega
  | m + 1, hm => by
    have ih := bit_hbit (f := f) (bt := bt) (r := r) hq m (by omega)
    rw [hbit_s, sp_bit_or _ _ hq, Bool.or_eq_true, ih]
    cases h : hfit f bt r m with
    | false =>
      rw [cond_false, bit32_0 hq]
      constructor
      · rintro (⟨t, h1, h2⟩ | h1)
        · exact ⟨t, by omega, h2⟩
        · exact absurd h1 (by decide)
      · rintro ⟨t, h1, h2⟩
        by_cases e : t = m
        · subst e
          exact absurd (h.symm.trans h2.1) (by decide)
        · exact Or.inl ⟨t, by omega, h2⟩
    | true =>
      rw [cond_true, bit32_1 hq (by omega), decide_eq_true_iff]
      constructor
      · rintro (⟨t, h1, h2⟩ | h2)
        · exact ⟨t, by omega, h2⟩
        · exact ⟨m, by omega, h, h2⟩
      · rintro ⟨t, h1, h2⟩
        by_cases e : t = m
        · subst e
          exact Or.inr h2.2
        · exact Or.inl ⟨t, by omega, h2⟩
theorem cbit_hbit {f : Nat → Int32} {bt : Nat → Nat} {r n : Nat} (h7 : n ≤ 7) : cbit f bt r n 48 = hbit f bt r (48 * n) := by
  refine sp_ext fun q hq => rg_eqB ?_
  rw [bit_cbit h7 hq, bit_hbit hq _ (by omega)]
  unfold hfit
  constructor
  · rintro ⟨t, h1, h2, h3, h4⟩
    refine ⟨48 * q + t, by omega, ?_, by omega⟩
    rw [show (48 * q + t) / 48 = q by omega, show (48 * q + t) % 48 = t by omega, h2, h4]
    rfl
  · rintro ⟨x, h1, h2, h3⟩
    rw [← h3, Bool.and_eq_true] at h2
    exact ⟨x % 48, by omega, h2.2, by omega, h2.1⟩
/-! the class -/
theorem c_cl {bt : Nat → Nat} {mo L : Nat} (I : Inv A tx L0 S e M) (he : e < 90000) (hL : L ≤ 400) (hm : mo ≤ 255) (h1 : M 1 4 = Int32.ofNat L) (hb : ∀ i, i < L → M 2 i = Int32.ofNat (bt i) ∧ bt i ≤ 255) : (rw_all bt mo L = false ∧ ∃ M1, jfX11_readClues (Int32.ofNat mo) M = sy_rt 20 (sx M1) ∧ ftp M M1) ∨ (rw_all bt mo L = true ∧ ∃ M1, jfX11_readClues (Int32.ofNat mo) M = sy_rv M1 ∧ ftp M M1 ∧ cu bt (L / 2) M1 ∧ (∀ a, a ≠ 1 → a ≠ 6 → a ≠ 7 → a ≠ 8 → M1 a = M a)) := by
  obtain ⟨M1, e1, f1, f2, f3⟩ := c_readRows hL hm h1 hb
  have F : ftp M M1 := ⟨fun a c1 c2 => f1 a c2 (by unfold qs at c1; omega) (by unfold qs at c1; omega) (by unfold qs at c1; omega), fun d => dk_congr d (f1 _ (by decide) (by decide) (by decide) (by decide)), f2⟩
  obtain ⟨xk, hxk, exk⟩ := I.2.2.2.2.2.2.2.2.1
  have hx := xok he hxk exk
  have hx1 : xe_in (M1 133 0) 100000 = true := by rw [f1 133 (by decide) (by decide) (by decide) (by decide)]; exact hx
  unfold jfX11_readClues
  rw [e1, sy_bi_ri]
  cases h : rw_all bt mo L with
  | false =>
    refine Or.inl ⟨rfl, M1, ?_, F⟩
    rw [if_pos (show bz false = 0 from rfl), hx1, sy_bx_t]
    rfl
  | true =>
    refine Or.inr ⟨rfl, M1, ?_, F, f3 h, f1⟩
    rw [if_neg (show ¬ bz true = 0 by decide)]
theorem c_fitting {bt : Nat → Nat} {r n t : Nat} {f : Nat → Int32} (h7 : n ≤ 7) (hr : r ≤ 20) (ht : t < 48) (hb : ∀ i, i < 2 * r → bt i ≤ 255) (C : cu bt r M) (hN : nt M n f) : jfX11_fitting (Int32.ofNat t) M = sy_ri (Int32.ofNat (cF f bt r n (t + 1))) M := by
  unfold jfX11_fitting
  refine sy_forR (n := t + 1) (F := sy_F) (R := fun c => c = sy_ri (Int32.ofNat (cF f bt r n (t + 1))) M) (fun k i (_ : Unit) => jfX11_fitting_4 k (Int32.ofNat t) (Int32.ofNat (cF f bt r n i)) (Int32.ofNat i) M) (fun _ _ => True) ?_ ?_ () trivial (by rw [sy_F_eq]; omega)
  · intro k i _ hi _
    refine Or.inl ⟨(), ?_, trivial⟩
    show jgX11_fitting_4 (jfX11_fitting_4 k) (Int32.ofNat t) (Int32.ofNat (cF f bt r n i)) (Int32.ofNat i) M = _
    obtain ⟨q, q1, q2, q3⟩ := home_cnt (f := f) (n := n) (t := Int32.ofNat i) h7
    have pa := c_presentAt (t := i) hN (by omega)
    rw [q2] at pa
    rw [cF_s]
    unfold cfit
    rw [← q3]
    simp (disch := omega) only [zL, zlt, zle, zeq, zadd, zmul, zin, zix, zsh1, Nat.add_zero, Nat.zero_add, Nat.mul_zero, if_true, if_false, if_pos, if_neg, sy_bi_ri, sy_bi_rt, sy_bv_rv, sy_bv_rt, sy_br_rr, sy_br_rn, sy_hi_ri, sy_hi_rt, sy_bs_t, sy_bx_t, sy_bb_t, bz_bo, ite_bz0, ite_bz1, jgX11_fitting_4, jfX11_fitting_34, c_possible hr (show i < 48 by omega) hb C, pa, c_bitCount q1]
    cases ps bt i r <;> rfl
  · intro k _ _
    show jgX11_fitting_4 (jfX11_fitting_4 k) (Int32.ofNat t) (Int32.ofNat (cF f bt r n (t + 1))) (Int32.ofNat (t + 1)) M = _
    simp (disch := omega) only [zL, zlt, zle, zeq, zadd, zmul, zin, zix, zsh1, Nat.add_zero, Nat.zero_add, Nat.mul_zero, if_true, if_false, if_pos, if_neg, sy_bi_ri, sy_bi_rt, sy_bv_rv, sy_bv_rt, sy_br_rr, sy_br_rn, sy_hi_ri, sy_hi_rt, sy_bs_t, sy_bx_t, sy_bb_t, bz_bo, ite_bz0, ite_bz1, jgX11_fitting_4, Nat.lt_succ_self]
theorem c_culprit {bt : Nat → Nat} {r n : Nat} {a : Int32} {f : Nat → Int32} (h7 : n ≤ 7) (hr : r ≤ 20) (hb : ∀ i, i < 2 * r → bt i ≤ 255) (C : cu bt r M) (hN : nt M n f) : jfX11_culprit_23 sy_F a (Int32.ofNat 0) (Int32.ofNat 0) (Int32.ofNat 0) M = sy_ri (if a = (Int32.ofNat 0) then Int32.ofNat (cF f bt r n 48) else cbit f bt r n 48) M := by
  refine sy_forR (n := 48) (F := sy_F) (R := fun c => c = sy_ri (if a = (Int32.ofNat 0) then Int32.ofNat (cF f bt r n 48) else cbit f bt r n 48) M) (fun k i (_ : Unit) => jfX11_culprit_23 k a (Int32.ofNat (cF f bt r n i)) (cbit f bt r n i) (Int32.ofNat i) M) (fun _ _ => True) ?_ ?_ () trivial (by rw [sy_F_eq]; omega)
  · intro k i _ hi _
    refine Or.inl ⟨(), ?_, trivial⟩
    show jgX11_culprit_23 (jfX11_culprit_23 k) a (Int32.ofNat (cF f bt r n i)) (cbit f bt r n i) (Int32.ofNat i) M = _
    obtain ⟨q, q1, q2, q3⟩ := home_cnt (f := f) (n := n) (t := Int32.ofNat i) h7
    have pa := c_presentAt (t := i) hN (by omega)
    rw [q2] at pa
    rw [cF_s, cbit_s, q2]
    unfold cfit
    rw [← q3]
    simp (disch := omega) only [zL, zlt, zle, zeq, zadd, zmul, zin, zix, zsh1, Nat.add_zero, Nat.zero_add, Nat.mul_zero, if_true, if_false, if_pos, if_neg, sy_bi_ri, sy_bi_rt, sy_bv_rv, sy_bv_rt, sy_br_rr, sy_br_rn, sy_hi_ri, sy_hi_rt, sy_bs_t, sy_bx_t, sy_bb_t, bz_bo, ite_bz0, ite_bz1, jgX11_culprit_23, jfX11_culprit_69, c_possible hr (show i < 48 by omega) hb C, pa, c_bitCount q1]
    cases ps bt i r <;> rfl
  · intro k _ _
    show jgX11_culprit_23 (jfX11_culprit_23 k) a (Int32.ofNat (cF f bt r n 48)) (cbit f bt r n 48) (Int32.ofNat 48) M = _
    simp (disch := omega) only [zL, zlt, zle, zeq, zadd, zmul, zin, zix, zsh1, Nat.add_zero, Nat.zero_add, Nat.mul_zero, if_true, if_false, if_pos, if_neg, sy_bi_ri, sy_bi_rt, sy_bv_rv, sy_bv_rt, sy_br_rr, sy_br_rn, sy_hi_ri, sy_hi_rt, sy_bs_t, sy_bx_t, sy_bb_t, bz_bo, ite_bz0, ite_bz1, jgX11_culprit_23]
    split <;> rfl
/-! the reference -/
def tz (N : sy_M) : sy_M := syc N 121 (rs (N 121) 8 (Int32.ofNat 0))
theorem tz_ne (N : sy_M) {a : Nat} (h : a ≠ 121) : tz N a = N a := syc_ne _ _ h
theorem frt_tz {N : sy_M} {c : Nat} : frt N (thr (tz N) c) := ⟨fun a ha => (thr_ne _ _ (by unfold rx at ha; omega)).trans (tz_ne _ (by unfold rx at ha; omega)), fun j hj => by rw [thr_j _ _ (by omega)]; unfold tz; rw [syc_at, rs_ne _ _ (by omega)], by rw [thr_j _ _ (by omega)]; unfold tz; rw [syc_at, rs_at]⟩
theorem frt_hm {N : sy_M} {c r j : Nat} {f : Nat → Int32} {bt : Nat → Nat} : frt N (thr (hmem f bt r j (tz N)) c) := ⟨fun a ha => (thr_ne _ _ (by unfold rx at ha; omega)).trans ((syc_ne _ _ (by unfold rx at ha; omega)).trans (tz_ne _ (by unfold rx at ha; omega))), fun j hj => by rw [thr_j _ _ (by omega)]; unfold hmem; rw [syc_ne _ _ (by decide)]; unfold tz; rw [syc_at, rs_ne _ _ (by omega)], by rw [thr_j _ _ (by omega)]; unfold hmem; rw [syc_ne _ _ (by decide)]; unfold tz; rw [syc_at, rs_at]⟩
theorem m_heard {N : sy_M} {bt : Nat → Nat} {L n : Nat} {f : Nat → Int32} (hL : L ≤ 400) (h7 : n ≤ 7) (h8 : N 121 8 = Int32.ofNat L) (hf : N 122 = f) (hn : f 3 = Int32.ofNat n) (hb : ∀ i, i < L → N 126 i = Int32.ofNat (bt i) ∧ bt i ≤ 255) : jfX12_heard N = bif rw_all bt 1 L then sy_ri (Int32.ofNat (cF f bt (L / 2) n 48)) (hmem f bt (L / 2) (48 * n) (tz N)) else sy_ri (-(Int32.ofNat 1)) (tz N) := by
  have u : sy_upd N 121 8 (Int32.ofNat 0) = tz N := sy_upd_st _ _ _ _
  have e126 : tz N 126 = N 126 := tz_ne _ (by decide)
  have e122 : tz N 122 = f := (tz_ne _ (by decide)).trans hf
  have ar := m_areRows (M := tz N) (bt := bt) (mo := 1) (L := L) hL (by omega) (fun i hi => by rw [e126]; exact hb i hi)
  unfold jfX12_heard
  simp only [zL, h8, u, ar, sy_bi_ri, ite_bz0]
  cases h : rw_all bt 1 L with
  | false => rfl
  | true =>
    have h2 : L % 2 = 0 ∧ L ≤ 40 := by
      unfold rw_all at h
      rw [Bool.and_eq_true, decide_eq_true_iff] at h
      exact h.1
    rw [cond_true, cond_true, m_heard_25 h2.1 h2.2 h7 e122 hn (fun i hi => by rw [e126]; exact hb i hi), hcnt_cF]
theorem m_culp {n r : Nat} {bt : Nat → Nat} {f : Nat → Int32} (h7 : n ≤ 7) (hf : M 122 = f) (hn : f 3 = Int32.ofNat n) (hm : ∀ x, x < 48 * n → M 131 x = bz (hfit f bt r x)) : jfX12_culprit_48 sy_F (Int32.ofNat 0) (Int32.ofNat 0) M = sy_ri (hbit f bt r (48 * n)) M := by
  refine sy_forR (n := 48 * n) (F := sy_F) (R := fun c => c = sy_ri (hbit f bt r (48 * n)) M) (fun k i (_ : Unit) => jfX12_culprit_48 k (hbit f bt r i) (Int32.ofNat i) M) (fun _ _ => True) ?_ ?_ () trivial (by rw [sy_F_eq]; omega)
  · intro k i _ hi _
    refine Or.inl ⟨(), ?_, trivial⟩
    show jgX12_culprit_48 (jfX12_culprit_48 k) (hbit f bt r i) (Int32.ofNat i) M = _
    have zd := zdiv (a := i) (b := 48) (by omega) (by omega)
    have m1 := hm i hi
    have d7 : i / 48 < 32 := by omega
    rw [hbit_s]
    simp (disch := omega) only [zL, zlt, zle, zeq, zadd, zmul, zin, zix, zsh1, Nat.add_zero, Nat.zero_add, Nat.mul_zero, if_true, if_false, if_pos, if_neg, sy_bi_ri, sy_bi_rt, sy_bv_rv, sy_bv_rt, sy_br_rr, sy_br_rn, sy_hi_ri, sy_hi_rt, sy_bs_t, sy_bx_t, sy_bb_t, bz_bo, ite_bz0, ite_bz1, jgX12_culprit_48, jfX12_culprit_84, hf, hn, m1, zd]
    cases hfit f bt r i <;> rfl
  · intro k _ _
    show jgX12_culprit_48 (jfX12_culprit_48 k) (hbit f bt r (48 * n)) (Int32.ofNat (48 * n)) M = _
    simp (disch := omega) only [zL, zlt, zle, zeq, zadd, zmul, zin, zix, zsh1, Nat.add_zero, Nat.zero_add, Nat.mul_zero, if_true, if_false, if_pos, if_neg, sy_bi_ri, sy_bi_rt, sy_bv_rv, sy_bv_rt, sy_br_rr, sy_br_rn, sy_hi_ri, sy_hi_rt, sy_bs_t, sy_bx_t, sy_bb_t, bz_bo, ite_bz0, ite_bz1, jgX12_culprit_48, hf, hn]
end
