/-! ===== the reference's small methods ===== -/
theorem m_of {M : sy_M} {p w : Nat} (hp : p < 7) (hw : w < 9) : jfX12_of (Int32.ofNat p) (Int32.ofNat w) M = sy_ri (M 122 (14 + 9 * p + w)) M := by
  simp (disch := omega) only [zL, zlt, zle, zeq, zadd, zmul, zin, zix, zsh1, Nat.add_zero, Nat.zero_add, Nat.mul_zero, if_true, if_false, if_pos, if_neg, sy_bi_ri, sy_bi_rt, sy_bv_rv, sy_bv_rt, sy_br_rr, sy_br_rn, sy_hi_ri, sy_hi_rt, sy_bs_t, sy_bx_t, sy_bb_t, bz_bo, ite_bz0, ite_bz1, jfX12_of]
theorem m_lays {M : sy_M} {p w : Nat} {v : Int32} (hp : p < 7) (hw : w < 9) : jfX12_lays (Int32.ofNat p) (Int32.ofNat w) v M = sy_rv (syc M 122 (rs (M 122) (14 + 9 * p + w) v)) := by
  simp (disch := omega) only [zL, zlt, zle, zeq, zadd, zmul, zin, zix, zsh1, Nat.add_zero, Nat.zero_add, Nat.mul_zero, if_true, if_false, if_pos, if_neg, sy_bi_ri, sy_bi_rt, sy_bv_rv, sy_bv_rt, sy_br_rr, sy_br_rn, sy_hi_ri, sy_hi_rt, sy_bs_t, sy_bx_t, sy_bb_t, bz_bo, ite_bz0, ite_bz1, jfX12_lays, sy_upd_st]
theorem m_owed {M : sy_M} {p o : Nat} (hp : p < 7) (ho : o < 7) : jfX12_owed (Int32.ofNat p) (Int32.ofNat o) M = sy_ri (M 122 (77 + 7 * p + o)) M := by
  simp (disch := omega) only [zL, zlt, zle, zeq, zadd, zmul, zin, zix, zsh1, Nat.add_zero, Nat.zero_add, Nat.mul_zero, if_true, if_false, if_pos, if_neg, sy_bi_ri, sy_bi_rt, sy_bv_rv, sy_bv_rt, sy_br_rr, sy_br_rn, sy_hi_ri, sy_hi_rt, sy_bs_t, sy_bx_t, sy_bb_t, bz_bo, ite_bz0, ite_bz1, jfX12_owed]
/-- between two numbers -/
def sp_in (v lo hi : Int32) : Bool := !decide (v < lo) && !decide (hi < v)
theorem m_isIn (M : sy_M) (v lo hi : Int32) : jfX12_isIn v lo hi M = sy_ri (bz (sp_in v lo hi)) M := by
  unfold jfX12_isIn sp_in
  by_cases h1 : v < lo
  · rw [if_pos h1, decide_eq_true h1]; rfl
  · rw [if_neg h1, decide_eq_false h1]
    by_cases h2 : hi < v
    · rw [if_pos h2, decide_eq_true h2]; rfl
    · rw [if_neg h2, decide_eq_false h2]; rfl
theorem m_isLodger (M : sy_M) (v : Int32) : jfX12_isLodger v M = sy_ri (bz (sp_in v (Int32.ofNat 0) (M 122 3 - (Int32.ofNat 1)))) M := by
  simp (disch := omega) only [zL, zlt, zle, zeq, zadd, zmul, zin, zix, zsh1, Nat.add_zero, Nat.zero_add, Nat.mul_zero, if_true, if_false, if_pos, if_neg, sy_bi_ri, sy_bi_rt, sy_bv_rv, sy_bv_rt, sy_br_rr, sy_br_rn, sy_hi_ri, sy_hi_rt, sy_bs_t, sy_bx_t, sy_bb_t, bz_bo, ite_bz0, ite_bz1, jfX12_isLodger, m_isIn]
theorem m_isTick (M : sy_M) (v : Int32) : jfX12_isTick v M = sy_ri (bz (sp_in v (Int32.ofNat 0) (Int32.ofNat 47))) M := by
  simp (disch := omega) only [zL, zlt, zle, zeq, zadd, zmul, zin, zix, zsh1, Nat.add_zero, Nat.zero_add, Nat.mul_zero, if_true, if_false, if_pos, if_neg, sy_bi_ri, sy_bi_rt, sy_bv_rv, sy_bv_rt, sy_br_rr, sy_br_rn, sy_hi_ri, sy_hi_rt, sy_bs_t, sy_bx_t, sy_bb_t, bz_bo, ite_bz0, ite_bz1, jfX12_isTick, m_isIn]
/-- a set has one -/
def sp_bit (s : Int32) (p : Nat) : Bool := decide ((s >>> Int32.ofNat p) &&& 1 = 1)
theorem m_isOf {M : sy_M} {s : Int32} {p : Nat} (hp : p < 32) : jfX12_isOf s (Int32.ofNat p) M = sy_ri (bz (sp_bit s p)) M := by
  unfold jfX12_isOf sp_bit
  rw [zsh hp]
  by_cases h : (s >>> Int32.ofNat p) &&& 1 = 1
  · rw [if_pos h, decide_eq_true h]; rfl
  · rw [if_neg h, decide_eq_false h]; rfl
/-- at home -/
def sp_at (f : Nat → Int32) (p : Nat) (t : Int32) : Bool := bif decide (f (14 + 9 * p + 2) < f (14 + 9 * p + 1)) then !decide (t < f (14 + 9 * p + 1)) || !decide (f (14 + 9 * p + 2) < t) else sp_in t (f (14 + 9 * p + 1)) (f (14 + 9 * p + 2))
theorem m_atHome {M : sy_M} {p : Nat} {t : Int32} (hp : p < 7) : jfX12_atHome (Int32.ofNat p) t M = sy_ri (bz (sp_at (M 122) p t)) M := by
  unfold jfX12_atHome sp_at
  rw [show (1 : Int32) = (Int32.ofNat 1) from rfl, show (2 : Int32) = (Int32.ofNat 2) from rfl, m_of hp (by decide), sy_bi_ri, m_of hp (by decide), sy_bi_ri]
  by_cases h : M 122 (14 + 9 * p + 2) < M 122 (14 + 9 * p + 1)
  · rw [if_pos h, decide_eq_true h, cond_true]
    by_cases h1 : t < M 122 (14 + 9 * p + 1)
    · rw [if_pos h1, decide_eq_true h1]
      by_cases h2 : M 122 (14 + 9 * p + 2) < t
      · rw [if_pos h2, decide_eq_true h2]; rfl
      · rw [if_neg h2, decide_eq_false h2]; rfl
    · rw [if_neg h1, decide_eq_false h1]; rfl
  · rw [if_neg h, decide_eq_false h, cond_false, m_isIn, sy_bi_ri, bz_bo, sy_bb_t]
/-- who is at home -/
def sp_home (f : Nat → Int32) (n : Nat) (t : Int32) : Int32 := sy_fo (fun p s => s ||| (bif sp_at f p t then (Int32.ofNat 1) <<< Int32.ofNat p else (Int32.ofNat 0))) n 0 (Int32.ofNat 0)
theorem m_homeIn {M : sy_M} {n : Nat} {t : Int32} (hn : M 122 3 = Int32.ofNat n) (h7 : n ≤ 7) : jfX12_homeIn t M = sy_ri (sp_home (M 122) n t) M := by
  unfold jfX12_homeIn sp_home
  obtain ⟨k, hk⟩ := sy_for1 (n := n) (F := sy_F) (fun k i (s : Int32) => jfX12_homeIn_4 k t s (Int32.ofNat i) M) (fun p s => s ||| (bif sp_at (M 122) p t then (Int32.ofNat 1) <<< Int32.ofNat p else (Int32.ofNat 0))) (by
    intro k i s hi
    show jgX12_homeIn_4 (jfX12_homeIn_4 k) t s (Int32.ofNat i) M = _
    simp (disch := omega) only [zL, zlt, zle, zeq, zadd, zmul, zin, zix, zsh1, Nat.add_zero, Nat.zero_add, Nat.mul_zero, if_true, if_false, if_pos, if_neg, sy_bi_ri, sy_bi_rt, sy_bv_rv, sy_bv_rt, sy_br_rr, sy_br_rn, sy_hi_ri, sy_hi_rt, sy_bs_t, sy_bx_t, sy_bb_t, bz_bo, ite_bz0, ite_bz1, jgX12_homeIn_4, jfX12_homeIn_31, hn, m_atHome]
    cases sp_at (M 122) i t <;> rfl) 0 (by rw [sy_F_eq]; omega)
  refine hk.trans ?_
  show jgX12_homeIn_4 (jfX12_homeIn_4 k) t _ (Int32.ofNat n) M = _
  simp (disch := omega) only [zL, zlt, zle, zeq, zadd, zmul, zin, zix, zsh1, Nat.add_zero, Nat.zero_add, Nat.mul_zero, if_true, if_false, if_pos, if_neg, sy_bi_ri, sy_bi_rt, sy_bv_rv, sy_bv_rt, sy_br_rr, sy_br_rn, sy_hi_ri, sy_hi_rt, sy_bs_t, sy_bx_t, sy_bb_t, bz_bo, ite_bz0, ite_bz1, jgX12_homeIn_4, hn]
def sp_burn (f : Nat → Int32) (n : Nat) (s : Int32) : Int32 := sy_fo (fun p a => a + (bif sp_bit s p then f (14 + 9 * p) else (Int32.ofNat 0))) n 0 (Int32.ofNat 0)
theorem m_burnsOf {M : sy_M} {n : Nat} {s : Int32} (hn : M 122 3 = Int32.ofNat n) (h7 : n ≤ 7) : jfX12_burnsOf s M = sy_ri (sp_burn (M 122) n s) M := by
  unfold jfX12_burnsOf sp_burn
  obtain ⟨k, hk⟩ := sy_for1 (n := n) (F := sy_F) (fun k i (a : Int32) => jfX12_burnsOf_4 k s a (Int32.ofNat i) M) (fun p a => a + (bif sp_bit s p then M 122 (14 + 9 * p) else (Int32.ofNat 0))) (by
    intro k i a hi
    show jgX12_burnsOf_4 (jfX12_burnsOf_4 k) s a (Int32.ofNat i) M = _
    simp (disch := omega) only [zL, zlt, zle, zeq, zadd, zmul, zin, zix, zsh1, Nat.add_zero, Nat.zero_add, Nat.mul_zero, if_true, if_false, if_pos, if_neg, sy_bi_ri, sy_bi_rt, sy_bv_rv, sy_bv_rt, sy_br_rr, sy_br_rn, sy_hi_ri, sy_hi_rt, sy_bs_t, sy_bx_t, sy_bb_t, bz_bo, ite_bz0, ite_bz1, jgX12_burnsOf_4, jfX12_burnsOf_33, hn, m_isOf, m_of]
    cases sp_bit s i <;> rfl) 0 (by rw [sy_F_eq]; omega)
  refine hk.trans ?_
  show jgX12_burnsOf_4 (jfX12_burnsOf_4 k) s _ (Int32.ofNat n) M = _
  simp (disch := omega) only [zL, zlt, zle, zeq, zadd, zmul, zin, zix, zsh1, Nat.add_zero, Nat.zero_add, Nat.mul_zero, if_true, if_false, if_pos, if_neg, sy_bi_ri, sy_bi_rt, sy_bv_rv, sy_bv_rt, sy_br_rr, sy_br_rn, sy_hi_ri, sy_hi_rt, sy_bs_t, sy_bx_t, sy_bb_t, bz_bo, ite_bz0, ite_bz1, jgX12_burnsOf_4, hn]
def sp_needs (f : Nat → Int32) (n : Nat) (t : Int32) : Int32 := sp_burn f n (sp_home f n t)
theorem m_needsIn {M : sy_M} {n : Nat} {t : Int32} (hn : M 122 3 = Int32.ofNat n) (h7 : n ≤ 7) : jfX12_needsIn t M = sy_ri (sp_needs (M 122) n t) M := by
  unfold sp_needs
  simp (disch := omega) only [zL, zlt, zle, zeq, zadd, zmul, zin, zix, zsh1, Nat.add_zero, Nat.zero_add, Nat.mul_zero, if_true, if_false, if_pos, if_neg, sy_bi_ri, sy_bi_rt, sy_bv_rv, sy_bv_rt, sy_br_rr, sy_br_rn, sy_hi_ri, sy_hi_rt, sy_bs_t, sy_bx_t, sy_bb_t, bz_bo, ite_bz0, ite_bz1, jfX12_needsIn, m_homeIn hn h7, m_burnsOf hn h7]
def sp_hours (f : Nat → Int32) (p : Nat) : Int32 := sy_fo (fun t a => a + bz (sp_at f p (Int32.ofNat t))) 48 0 (Int32.ofNat 0)
theorem m_hoursOf {M : sy_M} {p : Nat} (hp : p < 7) : jfX12_hoursOf (Int32.ofNat p) M = sy_ri (sp_hours (M 122) p) M := by
  unfold jfX12_hoursOf sp_hours
  obtain ⟨k, hk⟩ := sy_for1 (n := 48) (F := sy_F) (fun k i (a : Int32) => jfX12_hoursOf_4 k (Int32.ofNat p) a (Int32.ofNat i) M) (fun t a => a + bz (sp_at (M 122) p (Int32.ofNat t))) (by
    intro k i a hi
    show jgX12_hoursOf_4 (jfX12_hoursOf_4 k) (Int32.ofNat p) a (Int32.ofNat i) M = _
    simp (disch := omega) only [zL, zlt, zle, zeq, zadd, zmul, zin, zix, zsh1, Nat.add_zero, Nat.zero_add, Nat.mul_zero, if_true, if_false, if_pos, if_neg, sy_bi_ri, sy_bi_rt, sy_bv_rv, sy_bv_rt, sy_br_rr, sy_br_rn, sy_hi_ri, sy_hi_rt, sy_bs_t, sy_bx_t, sy_bb_t, bz_bo, ite_bz0, ite_bz1, jgX12_hoursOf_4, jfX12_hoursOf_25, m_atHome]
    cases sp_at (M 122) p (Int32.ofNat i) <;> rfl) 0 (by rw [sy_F_eq]; omega)
  refine hk.trans ?_
  show jgX12_hoursOf_4 (jfX12_hoursOf_4 k) (Int32.ofNat p) _ (Int32.ofNat 48) M = _
  simp (disch := omega) only [zL, zlt, zle, zeq, zadd, zmul, zin, zix, zsh1, Nat.add_zero, Nat.zero_add, Nat.mul_zero, if_true, if_false, if_pos, if_neg, sy_bi_ri, sy_bi_rt, sy_bv_rv, sy_bv_rt, sy_br_rr, sy_br_rn, sy_hi_ri, sy_hi_rt, sy_bs_t, sy_bx_t, sy_bb_t, bz_bo, ite_bz0, ite_bz1, jgX12_hoursOf_4]
theorem m_lesser (M : sy_M) (a b : Int32) : jfX12_lesser a b M = sy_ri (sp_min a b) M := by
  unfold jfX12_lesser sp_min
  split <;> rfl
theorem m_greater (M : sy_M) (a b : Int32) : jfX12_greater a b M = sy_ri (sp_max a b) M := by
  unfold jfX12_greater sp_max
  split <;> rfl
