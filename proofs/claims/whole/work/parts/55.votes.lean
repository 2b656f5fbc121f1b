/-! ===== votes ===== -/
section
variable {A : (Nat → Int32) → Nat → Int32 × Bool} {tx : (Nat → Int32) → Prop} {L0 : Int32} {S : Nat → Int32} {e : Nat} {M : sy_M}
def sp_fed (f : Nat → Int32) (n : Nat) (s : Int32) : Int32 := sy_fo (fun p a => a + (bif sp_bit s p then f (14 + 9 * p + 8) else (Int32.ofNat 0))) n 0 (Int32.ofNat 0)
theorem m_fedOf {n : Nat} {s : Int32} {f : Nat → Int32} (hf : M 122 = f) (hn : f 3 = Int32.ofNat n) (h7 : n ≤ 7) : jfX12_fedOf s M = sy_ri (sp_fed f n s) M := by
  unfold jfX12_fedOf sp_fed
  obtain ⟨k, hk⟩ := sy_for1 (n := n) (F := sy_F) (fun k i (a : Int32) => jfX12_fedOf_4 k s a (Int32.ofNat i) M) (fun p a => a + (bif sp_bit s p then f (14 + 9 * p + 8) else (Int32.ofNat 0))) (by
    intro k i a hi
    show jgX12_fedOf_4 (jfX12_fedOf_4 k) s a (Int32.ofNat i) M = _
    simp (disch := omega) only [zL, zlt, zle, zeq, zadd, zmul, zin, zix, zsh1, Nat.add_zero, Nat.zero_add, Nat.mul_zero, if_true, if_false, if_pos, if_neg, sy_bi_ri, sy_bi_rt, sy_bv_rv, sy_bv_rt, sy_br_rr, sy_br_rn, sy_hi_ri, sy_hi_rt, sy_bs_t, sy_bx_t, sy_bb_t, bz_bo, ite_bz0, ite_bz1, jgX12_fedOf_4, jfX12_fedOf_34, hf, hn, m_isOf, m_of]
    cases sp_bit s i <;> rfl) (Int32.ofNat 0) (by rw [sy_F_eq]; omega)
  refine hk.trans ?_
  show jgX12_fedOf_4 (jfX12_fedOf_4 k) s _ (Int32.ofNat n) M = _
  simp (disch := omega) only [zL, zlt, zle, zeq, zadd, zmul, zin, zix, zsh1, Nat.add_zero, Nat.zero_add, Nat.mul_zero, if_true, if_false, if_pos, if_neg, sy_bi_ri, sy_bi_rt, sy_bv_rv, sy_bv_rt, sy_br_rr, sy_br_rn, sy_hi_ri, sy_hi_rt, sy_bs_t, sy_bx_t, sy_bb_t, bz_bo, ite_bz0, ite_bz1, jgX12_fedOf_4, hf, hn]
def sp_car (f : Nat → Int32) (n : Nat) (s : Int32) : Bool := decide (sp_fed f n (sp_all n) < (Int32.ofNat 2) * sp_fed f n (s &&& sp_all n))
theorem m_carries {n : Nat} {s : Int32} {f : Nat → Int32} (hf : M 122 = f) (hn : f 3 = Int32.ofNat n) (h7 : n ≤ 7) : jfX12_carries s M = sy_ri (bz (sp_car f n s)) M := by
  have e1 := m_all (M := M) (n := n) (by rw [hf]; exact hn) h7
  unfold sp_car
  unfold jfX12_carries
  rw [e1, sy_bi_ri, m_fedOf hf hn h7, sy_bi_ri, e1, sy_bi_ri, m_fedOf hf hn h7, sy_bi_ri]
  exact (ite_de).trans ri_bz
def sp_pm (f : Nat → Int32) (m : Nat) (s : Int32) : Int32 := sy_fo (fun p a => a + (bif sp_bit s p then f (14 + 9 * p + 8) else -f (14 + 9 * p + 8))) m 0 (Int32.ofNat 0)
theorem car_sum {n : Nat} {s : Int32} {f : Nat → Int32} (H : rb f) (h7 : n ≤ 7) : ∀ m : Nat, m ≤ n → ∃ a b : Nat, a ≤ b ∧ b ≤ 999 * m ∧ sp_pm f m s = Int32.ofInt (2 * (a : Int) - (b : Int)) ∧ sp_fed f m (s &&& sp_all n) = Int32.ofNat a ∧ sp_fed f m (sp_all n) = Int32.ofNat b := by
  intro m
  unfold sp_pm sp_fed
  induction m with
  | zero => exact fun _ => ⟨0, 0, by omega, by omega, rfl, rfl, rfl⟩
  | succ m ih =>
    intro h
    obtain ⟨a, b, h1, h2, e1, e2, e3⟩ := ih (by omega)
    obtain ⟨c, hc, e4⟩ := rb_fed H (p := m) (by omega)
    rw [sy_fo_last, sy_fo_last, sy_fo_last, e1, e2, e3, Nat.zero_add, e4, sp_bit_and _ _ (by omega), all_bit h7 (by omega), Bool.and_true, cond_true, zadd]
    cases sp_bit s m
    · refine ⟨a, b + c, by omega, by omega, ?_, ?_, rfl⟩
      · rw [cond_false, zi_nat, zi_neg, zi_add]
        congr 1
        omega
      · rw [cond_false, zadd, Nat.add_zero]
    · refine ⟨a + c, b + c, by omega, by omega, ?_, ?_, rfl⟩
      · rw [cond_true, zi_nat, zi_add]
        congr 1
        omega
      · rw [cond_true, zadd]
theorem car_iff {n : Nat} {s : Int32} {f : Nat → Int32} (H : rb f) (h7 : n ≤ 7) : decide ((Int32.ofNat 0) < sp_pm f n s) = sp_car f n s := by
  obtain ⟨a, b, h1, h2, e1, e2, e3⟩ := car_sum (s := s) H h7 n (Nat.le_refl _)
  unfold sp_car
  rw [e1, e2, e3]
  apply decide_eq_decide.mpr
  rw [zmul, zi_nat, zi_nat, zi_nat, zi_lt (by omega) (by omega) (by omega) (by omega), zi_lt (by omega) (by omega) (by omega) (by omega)]
  omega
theorem c_carries {n : Nat} {s : Int32} {f : Nat → Int32} (H : hv M 9 f) (hb : rb f) (hn : f 3 = Int32.ofNat n) (h7 : n ≤ 7) : jfX11_carries s M = sy_ri (bz (sp_car f n s)) M := by
  rw [← car_iff hb h7]
  unfold jfX11_carries sp_pm
  obtain ⟨k, hk⟩ := sy_for1 (n := n) (F := sy_F) (fun k i (a : Int32) => jfX11_carries_4 k s a (Int32.ofNat i) M) (fun p a => a + (bif sp_bit s p then f (14 + 9 * p + 8) else -f (14 + 9 * p + 8))) (by
    intro k i a hi
    show jgX11_carries_4 (jfX11_carries_4 k) s a (Int32.ofNat i) M = _
    simp (disch := omega) only [zL, zlt, zle, zeq, zadd, zmul, zin, zix, zsh1, Nat.add_zero, Nat.zero_add, Nat.mul_zero, if_true, if_false, if_pos, if_neg, sy_bi_ri, sy_bi_rt, sy_bv_rv, sy_bv_rt, sy_br_rr, sy_br_rn, sy_hi_ri, sy_hi_rt, sy_bs_t, sy_bx_t, sy_bb_t, bz_bo, ite_bz0, ite_bz1, jgX11_carries_4, jfX11_carries_44, hv_3 H, hn, c_get H, sp_bit_it0]
    cases sp_bit s i <;> rfl) (Int32.ofNat 0) (by rw [sy_F_eq]; omega)
  refine hk.trans ?_
  show jgX11_carries_4 (jfX11_carries_4 k) s _ (Int32.ofNat n) M = _
  simp (disch := omega) only [zL, zlt, zle, zeq, zadd, zmul, zin, zix, zsh1, Nat.add_zero, Nat.zero_add, Nat.mul_zero, if_true, if_false, if_pos, if_neg, sy_bi_ri, sy_bi_rt, sy_bv_rv, sy_bv_rt, sy_br_rr, sy_br_rn, sy_hi_ri, sy_hi_rt, sy_bs_t, sy_bx_t, sy_bb_t, bz_bo, ite_bz0, ite_bz1, jgX11_carries_4, hv_3 H, hn]
  generalize sy_fo (fun p a => a + (bif sp_bit s p then f (14 + 9 * p + 8) else -f (14 + 9 * p + 8))) n 0 (Int32.ofNat 0) = v
  by_cases h : (Int32.ofNat 0) < v
  · rw [if_pos h, decide_eq_true h]; rfl
  · rw [if_neg h, decide_eq_false h]; rfl
theorem o_kettle (I : Inv A tx L0 S e M) (a : Int32) : opN A tx L0 S e (jfX11_kettle a M) (jfX12_kettle a) := by
  obtain ⟨n, G, H, ht, hA, hl⟩ := id I.1
  have hn := G.2.1
  have h7 := G.2.2.1
  refine opN_q I (v := bz (sp_car (M 122) n a)) ⟨M, by simp (disch := omega) only [zL, zlt, zle, zeq, zadd, zmul, zin, zix, zsh1, Nat.add_zero, Nat.zero_add, Nat.mul_zero, if_true, if_false, if_pos, if_neg, sy_bi_ri, sy_bi_rt, sy_bv_rv, sy_bv_rt, sy_br_rr, sy_br_rn, sy_hi_ri, sy_hi_rt, sy_bs_t, sy_bx_t, sy_bb_t, bz_bo, ite_bz0, ite_bz1, jfX11_kettle, c_carries H.1 G.1 hn h7], fq_rfl⟩ (fun N hN => ⟨thr N 0, ?_, fr_thr⟩)
  have e122 : thr N 0 122 = M 122 := (thr_ne _ _ (by decide)).trans (hN 122 (by omega) (by omega))
  simp (disch := omega) only [zL, zlt, zle, zeq, zadd, zmul, zin, zix, zsh1, Nat.add_zero, Nat.zero_add, Nat.mul_zero, if_true, if_false, if_pos, if_neg, sy_bi_ri, sy_bi_rt, sy_bv_rv, sy_bv_rt, sy_br_rr, sy_br_rn, sy_hi_ri, sy_hi_rt, sy_bs_t, sy_bx_t, sy_bb_t, bz_bo, ite_bz0, ite_bz1, jfX12_kettle, thr_up, m_carries e122 hn h7]
/-- without one -/
def sp_wi (s : Int32) (p : Nat) : Int32 := s &&& (((Int32.ofNat 1) <<< Int32.ofNat p) ^^^ (-(Int32.ofNat 1)))
def sp_sw (f : Nat → Int32) (n p i : Nat) : Bool := sp_bit (Int32.ofNat i) p && (sp_car f n (Int32.ofNat i) && !sp_car f n (sp_wi (Int32.ofNat i) p))
theorem m_swingsBy {n p i : Nat} {f : Nat → Int32} (hf : M 122 = f) (hn : f 3 = Int32.ofNat n) (h7 : n ≤ 7) (hp : p < 7) : jfX12_swingsBy (Int32.ofNat i) (Int32.ofNat p) M = sy_ri (bz (sp_sw f n p i)) M := by
  have wi : Int32.ofNat i &&& (((Int32.ofNat 1) <<< Int32.ofNat p) ^^^ (-(Int32.ofNat 1))) = sp_wi (Int32.ofNat i) p := rfl
  unfold sp_sw
  simp (disch := omega) only [zL, zlt, zle, zeq, zadd, zmul, zin, zix, zsh1, Nat.add_zero, Nat.zero_add, Nat.mul_zero, if_true, if_false, if_pos, if_neg, sy_bi_ri, sy_bi_rt, sy_bv_rv, sy_bv_rt, sy_br_rr, sy_br_rn, sy_hi_ri, sy_hi_rt, sy_bs_t, sy_bx_t, sy_bb_t, bz_bo, ite_bz0, ite_bz1, jfX12_swingsBy, m_isOf, m_carries hf hn h7, wi]
  cases sp_bit (Int32.ofNat i) p <;> cases sp_car f n (Int32.ofNat i) <;> cases sp_car f n (sp_wi (Int32.ofNat i) p) <;> rfl
def sp_ss (f : Nat → Int32) (n p : Nat) : Int32 := sy_fo (fun i a => a + bz (sp_sw f n p i)) (2 ^ n) 0 (Int32.ofNat 0)
theorem all_lt {n i : Nat} (h7 : n ≤ 7) (hi : i < 2 ^ n) : ¬ (sp_all n < Int32.ofNat i) := by
  have := pow_le h7
  unfold sp_all
  rw [zlt (by omega) (by omega)]
  omega
theorem all_ge {n : Nat} (h7 : n ≤ 7) : sp_all n < Int32.ofNat (2 ^ n) := by
  have := pow_le h7
  unfold sp_all
  rw [zlt (by omega) (by omega)]
  omega
theorem m_swingsOf {n p : Nat} {f : Nat → Int32} (hf : M 122 = f) (hn : f 3 = Int32.ofNat n) (h7 : n ≤ 7) (hp : p < 7) : jfX12_swingsOf (Int32.ofNat p) M = sy_ri (sp_ss f n p) M := by
  have e1 := m_all (M := M) (n := n) (by rw [hf]; exact hn) h7
  have hpw := pow_le h7
  unfold jfX12_swingsOf sp_ss
  obtain ⟨k, hk⟩ := sy_for1 (n := 2 ^ n) (F := sy_F) (fun k i (a : Int32) => jfX12_swingsOf_4 k (Int32.ofNat p) a (Int32.ofNat i) M) (fun i a => a + bz (sp_sw f n p i)) (by
    intro k i a hi
    show jgX12_swingsOf_4 (jfX12_swingsOf_4 k) (Int32.ofNat p) a (Int32.ofNat i) M = _
    simp (disch := omega) only [zL, zlt, zle, zeq, zadd, zmul, zin, zix, zsh1, Nat.add_zero, Nat.zero_add, Nat.mul_zero, if_true, if_false, if_pos, if_neg, sy_bi_ri, sy_bi_rt, sy_bv_rv, sy_bv_rt, sy_br_rr, sy_br_rn, sy_hi_ri, sy_hi_rt, sy_bs_t, sy_bx_t, sy_bb_t, bz_bo, ite_bz0, ite_bz1, jgX12_swingsOf_4, jfX12_swingsOf_27, e1, m_swingsBy hf hn h7]
    rw [if_neg (all_lt h7 hi)]
    cases sp_sw f n p i <;> rfl) (Int32.ofNat 0) (by rw [sy_F_eq]; omega)
  refine hk.trans ?_
  show jgX12_swingsOf_4 (jfX12_swingsOf_4 k) (Int32.ofNat p) _ (Int32.ofNat (2 ^ n)) M = _
  simp only [jgX12_swingsOf_4, e1, sy_bi_ri]
  rw [if_pos (all_ge h7)]
theorem bit_and1 {p i : Nat} (hp : p < 7) (hi : i < 128) {X Y : sy_O} : (if Int32.ofNat i &&& ((Int32.ofNat 1) <<< Int32.ofNat p) = (Int32.ofNat 0) then X else Y) = bif sp_bit (Int32.ofNat i) p then Y else X := by
  have : ∀ (p : Fin 7) (i : Fin 128), decide (Int32.ofNat i.1 &&& ((Int32.ofNat 1) <<< Int32.ofNat p.1) = (Int32.ofNat 0)) = !sp_bit (Int32.ofNat i.1) p.1 := by decide +kernel
  have h := this ⟨p, hp⟩ ⟨i, hi⟩
  rw [ite_de, h]
  cases sp_bit (Int32.ofNat i) p <;> rfl
theorem c_swung {n p : Nat} {f : Nat → Int32} (H : hv M 9 f) (hb : rb f) (hn : f 3 = Int32.ofNat n) (h7 : n ≤ 7) (hp : p < 7) : jfX11_swung (Int32.ofNat p) M = sy_ri (sp_ss f n p) M := by
  have e1 := c_all (M := M) (n := n) ((hv_3 H).trans hn) h7
  have hpw := pow_le h7
  unfold sp_ss
  have e0 : jfX11_swung (Int32.ofNat p) M = jfX11_swung_9 sy_F ((Int32.ofNat 1) <<< Int32.ofNat p) (Int32.ofNat 0) (Int32.ofNat 0) M := by
    simp (disch := omega) only [zL, zlt, zle, zeq, zadd, zmul, zin, zix, zsh1, Nat.add_zero, Nat.zero_add, Nat.mul_zero, if_true, if_false, if_pos, if_neg, sy_bi_ri, sy_bi_rt, sy_bv_rv, sy_bv_rt, sy_br_rr, sy_br_rn, sy_hi_ri, sy_hi_rt, sy_bs_t, sy_bx_t, sy_bb_t, bz_bo, ite_bz0, ite_bz1, jfX11_swung]
  rw [e0]
  obtain ⟨k, hk⟩ := sy_for1 (n := 2 ^ n) (F := sy_F) (fun k i (a : Int32) => jfX11_swung_9 k ((Int32.ofNat 1) <<< Int32.ofNat p) a (Int32.ofNat i) M) (fun i a => a + bz (sp_sw f n p i)) (by
    intro k i a hi
    show jgX11_swung_9 (jfX11_swung_9 k) ((Int32.ofNat 1) <<< Int32.ofNat p) a (Int32.ofNat i) M = _
    have wi : Int32.ofNat i &&& (((Int32.ofNat 1) <<< Int32.ofNat p) ^^^ (-(Int32.ofNat 1))) = sp_wi (Int32.ofNat i) p := rfl
    unfold sp_sw
    simp (disch := omega) only [zL, zlt, zle, zeq, zadd, zmul, zin, zix, zsh1, Nat.add_zero, Nat.zero_add, Nat.mul_zero, if_true, if_false, if_pos, if_neg, sy_bi_ri, sy_bi_rt, sy_bv_rv, sy_bv_rt, sy_br_rr, sy_br_rn, sy_hi_ri, sy_hi_rt, sy_bs_t, sy_bx_t, sy_bb_t, bz_bo, ite_bz0, ite_bz1, jgX11_swung_9, jfX11_swung_50, e1, bit_and1, c_carries H hb hn h7, wi]
    rw [if_neg (all_lt h7 hi)]
    cases sp_bit (Int32.ofNat i) p <;> cases sp_car f n (Int32.ofNat i) <;> cases sp_car f n (sp_wi (Int32.ofNat i) p) <;> first | rfl | (simp only [Bool.and_false, Bool.and_true, Bool.false_and, Bool.true_and, Bool.not_true, Bool.not_false, cond_false, cond_true, show bz false = (Int32.ofNat 0) from rfl, zadd0])) (Int32.ofNat 0) (by rw [sy_F_eq]; omega)
  refine hk.trans ?_
  show jgX11_swung_9 (jfX11_swung_9 k) ((Int32.ofNat 1) <<< Int32.ofNat p) _ (Int32.ofNat (2 ^ n)) M = _
  simp only [jgX11_swung_9, e1, sy_bi_ri]
  rw [if_pos (all_ge h7)]
theorem o_swings (I : Inv A tx L0 S e M) (he : e < 90000) (a : Int32) : opT A tx L0 S e (jfL_swings a M) (jfX12_swings a) := by
  obtain ⟨n, G, H, ht, hA, hl⟩ := id I.1
  have hn := G.2.1
  have h7 := G.2.2.1
  obtain ⟨xk, hxk, exk⟩ := I.2.2.2.2.2.2.2.2.1
  have hx := xok he hxk exk
  have h9 : M 9 3 = Int32.ofNat n := (hv_3 H.1).trans hn
  have D19 := I.2.2.2.2.1
  unfold jfL_swings
  rcases ck_lodger h7 h9 hx a with ⟨p, hp, ea, ck, sa⟩ | ⟨sa, ck⟩
  · subst ea
    refine opT_q I (v := sp_ss (M 122) n p) ⟨M, by simp (disch := omega) only [zL, zlt, zle, zeq, zadd, zmul, zin, zix, zsh1, Nat.add_zero, Nat.zero_add, Nat.mul_zero, if_true, if_false, if_pos, if_neg, sy_bi_ri, sy_bi_rt, sy_bv_rv, sy_bv_rt, sy_br_rr, sy_br_rn, sy_hi_ri, sy_hi_rt, sy_bs_t, sy_bx_t, sy_bb_t, bz_bo, ite_bz0, ite_bz1, jfX11_swings, ck, c_swung H.1 G.1 hn h7], fq_rfl⟩ (fun N hN => ⟨thr N 0, ?_, thr_0 _ _, fr_thr⟩)
    have e122 : thr N 0 122 = M 122 := (thr_ne _ _ (by decide)).trans (hN 122 (by omega) (by omega))
    have eN : N 122 3 = Int32.ofNat n := by rw [hN 122 (by omega) (by omega)]; exact hn
    simp (disch := omega) only [zL, zlt, zle, zeq, zadd, zmul, zin, zix, zsh1, Nat.add_zero, Nat.zero_add, Nat.mul_zero, if_true, if_false, if_pos, if_neg, sy_bi_ri, sy_bi_rt, sy_bv_rv, sy_bv_rt, sy_br_rr, sy_br_rn, sy_hi_ri, sy_hi_rt, sy_bs_t, sy_bx_t, sy_bb_t, bz_bo, ite_bz0, ite_bz1, jfX12_swings, jfX12_swings_14, m_isLodger, eN, sa, cond_true, thr_up, thr_0, m_swingsOf e122 hn h7]
  · refine opT_x I (cl := 22) (c := 1) ?_ rfl (by decide) (by decide) ?_
    · simp (disch := omega) only [zL, zlt, zle, zeq, zadd, zmul, zin, zix, zsh1, Nat.add_zero, Nat.zero_add, Nat.mul_zero, if_true, if_false, if_pos, if_neg, sy_bi_ri, sy_bi_rt, sy_bv_rv, sy_bv_rt, sy_br_rr, sy_br_rn, sy_hi_ri, sy_hi_rt, sy_bs_t, sy_bx_t, sy_bb_t, bz_bo, ite_bz0, ite_bz1, jfX11_swings, ck]
      all_goals rfl
    · intro N hN
      have eN : N 122 3 = Int32.ofNat n := by rw [hN 122 (by omega) (by omega)]; exact hn
      exact ⟨(Int32.ofNat 0), thr N 1, by simp (disch := omega) only [zL, zlt, zle, zeq, zadd, zmul, zin, zix, zsh1, Nat.add_zero, Nat.zero_add, Nat.mul_zero, if_true, if_false, if_pos, if_neg, sy_bi_ri, sy_bi_rt, sy_bv_rv, sy_bv_rt, sy_br_rr, sy_br_rn, sy_hi_ri, sy_hi_rt, sy_bs_t, sy_bx_t, sy_bb_t, bz_bo, ite_bz0, ite_bz1, jfX12_swings, jfX12_swings_14, sa, m_isLodger, eN, m_isIn, m_isTick, cond_true, cond_false, thr_up, thr_0], thr_0 _ _, fr_thr⟩
theorem o_dummies (I : Inv A tx L0 S e M) : opN A tx L0 S e (jfX11_dummies M) (jfX12_dummies) := by
  obtain ⟨n, G, H, ht, hA, hl⟩ := id I.1
  have hn := G.2.1
  have h7 := G.2.2.1
  refine opN_q I (v := sy_fo (fun p s => if sp_ss (M 122) n p = (Int32.ofNat 0) then s ||| (Int32.ofNat 1) <<< Int32.ofNat p else s) n 0 (Int32.ofNat 0)) ⟨M, ?_, fq_rfl⟩ (fun N hN => ⟨thr N 0, ?_, fr_thr⟩)
  · unfold jfX11_dummies
    obtain ⟨k, hk⟩ := sy_for1 (n := n) (F := sy_F) (fun k i (s : Int32) => jfX11_dummies_4 k s (Int32.ofNat i) M) (fun p s => if sp_ss (M 122) n p = (Int32.ofNat 0) then s ||| (Int32.ofNat 1) <<< Int32.ofNat p else s) (by
      intro k i s hi
      show jgX11_dummies_4 (jfX11_dummies_4 k) s (Int32.ofNat i) M = _
      simp (disch := omega) only [zL, zlt, zle, zeq, zadd, zmul, zin, zix, zsh1, Nat.add_zero, Nat.zero_add, Nat.mul_zero, if_true, if_false, if_pos, if_neg, sy_bi_ri, sy_bi_rt, sy_bv_rv, sy_bv_rt, sy_br_rr, sy_br_rn, sy_hi_ri, sy_hi_rt, sy_bs_t, sy_bx_t, sy_bb_t, bz_bo, ite_bz0, ite_bz1, jgX11_dummies_4, jfX11_dummies_29, hv_3 H.1, hn, c_swung H.1 G.1 hn h7]
      split <;> rfl) (Int32.ofNat 0) (by rw [sy_F_eq]; omega)
    refine hk.trans ?_
    show jgX11_dummies_4 (jfX11_dummies_4 k) _ (Int32.ofNat n) M = _
    simp (disch := omega) only [zL, zlt, zle, zeq, zadd, zmul, zin, zix, zsh1, Nat.add_zero, Nat.zero_add, Nat.mul_zero, if_true, if_false, if_pos, if_neg, sy_bi_ri, sy_bi_rt, sy_bv_rv, sy_bv_rt, sy_br_rr, sy_br_rn, sy_hi_ri, sy_hi_rt, sy_bs_t, sy_bx_t, sy_bb_t, bz_bo, ite_bz0, ite_bz1, jgX11_dummies_4, hv_3 H.1, hn]
  · have e122 : thr N 0 122 = M 122 := (thr_ne _ _ (by decide)).trans (hN 122 (by omega) (by omega))
    show (jfX12_dummies_9 sy_F 0 0 (sy_upd N 121 0 (Int32.ofNat 0))) = _
    rw [thr_up]
    obtain ⟨k, hk⟩ := sy_for1 (n := n) (F := sy_F) (fun k i (s : Int32) => jfX12_dummies_9 k s (Int32.ofNat i) (thr N 0)) (fun p s => if sp_ss (M 122) n p = (Int32.ofNat 0) then s ||| (Int32.ofNat 1) <<< Int32.ofNat p else s) (by
      intro k i s hi
      show jgX12_dummies_9 (jfX12_dummies_9 k) s (Int32.ofNat i) (thr N 0) = _
      simp (disch := omega) only [zL, zlt, zle, zeq, zadd, zmul, zin, zix, zsh1, Nat.add_zero, Nat.zero_add, Nat.mul_zero, if_true, if_false, if_pos, if_neg, sy_bi_ri, sy_bi_rt, sy_bv_rv, sy_bv_rt, sy_br_rr, sy_br_rn, sy_hi_ri, sy_hi_rt, sy_bs_t, sy_bx_t, sy_bb_t, bz_bo, ite_bz0, ite_bz1, jgX12_dummies_9, jfX12_dummies_35, e122, hn, m_swingsOf e122 hn h7, zor0]
      split <;> rfl) (Int32.ofNat 0) (by rw [sy_F_eq]; omega)
    refine hk.trans ?_
    show jgX12_dummies_9 (jfX12_dummies_9 k) _ (Int32.ofNat n) (thr N 0) = _
    simp (disch := omega) only [zL, zlt, zle, zeq, zadd, zmul, zin, zix, zsh1, Nat.add_zero, Nat.zero_add, Nat.mul_zero, if_true, if_false, if_pos, if_neg, sy_bi_ri, sy_bi_rt, sy_bv_rv, sy_bv_rt, sy_br_rr, sy_br_rn, sy_hi_ri, sy_hi_rt, sy_bs_t, sy_bx_t, sy_bb_t, bz_bo, ite_bz0, ite_bz1, jgX12_dummies_9, e122, hn]
/-! minimal -/
def sp_ne (f : Nat → Int32) (n : Nat) (s : Int32) : Nat → Bool
  | 0 => true
  | m + 1 => sp_ne f n s m && (!sp_bit s m || !sp_car f n (sp_wi s m))
theorem sp_ne_s (f : Nat → Int32) (n : Nat) (s : Int32) (m : Nat) : sp_ne f n s (m + 1) = (sp_ne f n s m && (!sp_bit s m || !sp_car f n (sp_wi s m))) := rfl
theorem sp_ne_f (f : Nat → Int32) (n : Nat) (s : Int32) {m : Nat} (h : sp_ne f n s m = false) : ∀ k, m ≤ k → sp_ne f n s k = false
  | 0, hk => by
    have : m = 0 := by omega
    subst this
    exact h
  | k + 1, hk => by
    by_cases e : m = k + 1
    · subst e; exact h
    · rw [sp_ne_s, sp_ne_f f n s h k (by omega)]; rfl
theorem c_needsEach {n : Nat} {s : Int32} {f : Nat → Int32} (H : hv M 9 f) (hb : rb f) (hn : f 3 = Int32.ofNat n) (h7 : n ≤ 7) : jfX11_needsEach s M = sy_ri (bz (sp_ne f n s n)) M := by
  unfold jfX11_needsEach
  refine sy_forR (n := n) (F := sy_F) (R := fun c => c = sy_ri (bz (sp_ne f n s n)) M) (fun k i (_ : Unit) => jfX11_needsEach_2 k s (Int32.ofNat i) M) (fun i _ => sp_ne f n s i = true) ?_ ?_ () rfl (by rw [sy_F_eq]; omega)
  · intro k i _ hi h1
    have wi : s &&& (((Int32.ofNat 1) <<< Int32.ofNat i) ^^^ (-(Int32.ofNat 1))) = sp_wi s i := rfl
    show (∃ _ : Unit, jgX11_needsEach_2 (jfX11_needsEach_2 k) s (Int32.ofNat i) M = _ ∧ _) ∨ jgX11_needsEach_2 (jfX11_needsEach_2 k) s (Int32.ofNat i) M = _
    simp (disch := omega) only [zL, zlt, zle, zeq, zadd, zmul, zin, zix, zsh1, Nat.add_zero, Nat.zero_add, Nat.mul_zero, if_true, if_false, if_pos, if_neg, sy_bi_ri, sy_bi_rt, sy_bv_rv, sy_bv_rt, sy_br_rr, sy_br_rn, sy_hi_ri, sy_hi_rt, sy_bs_t, sy_bx_t, sy_bb_t, bz_bo, ite_bz0, ite_bz1, jgX11_needsEach_2, jfX11_needsEach_37, hv_3 H, hn, sp_bit_it0, c_carries H hb hn h7, wi]
    cases hs : sp_bit s i with
    | false => exact Or.inl ⟨(), rfl, by rw [sp_ne_s, h1, hs]; rfl⟩
    | true =>
      cases hc : sp_car f n (sp_wi s i) with
      | false => exact Or.inl ⟨(), rfl, by rw [sp_ne_s, h1, hs, hc]; rfl⟩
      | true =>
        have : sp_ne f n s (i + 1) = false := by rw [sp_ne_s, h1, hs, hc]; rfl
        right
        rw [sp_ne_f f n s this n (by omega)]
        rfl
  · intro k _ h1
    show jgX11_needsEach_2 (jfX11_needsEach_2 k) s (Int32.ofNat n) M = _
    rw [h1]
    simp (disch := omega) only [zL, zlt, zle, zeq, zadd, zmul, zin, zix, zsh1, Nat.add_zero, Nat.zero_add, Nat.mul_zero, if_true, if_false, if_pos, if_neg, sy_bi_ri, sy_bi_rt, sy_bv_rv, sy_bv_rt, sy_br_rr, sy_br_rn, sy_hi_ri, sy_hi_rt, sy_bs_t, sy_bx_t, sy_bb_t, bz_bo, ite_bz0, ite_bz1, jgX11_needsEach_2, hv_3 H, hn]
    rfl
theorem m_isLeast {n i : Nat} {f : Nat → Int32} (hf : M 122 = f) (hn : f 3 = Int32.ofNat n) (h7 : n ≤ 7) : jfX12_isLeast (Int32.ofNat i) M = sy_ri (bz (sp_car f n (Int32.ofNat i) && sp_ne f n (Int32.ofNat i) n)) M := by
  unfold jfX12_isLeast
  rw [m_carries hf hn h7, sy_bi_ri]
  cases hcar : sp_car f n (Int32.ofNat i) with
  | false =>
    rw [show sy_F = 5999 + 1 from sy_F_eq]
    show jgX12_isLeast_8 (jfX12_isLeast_8 5999) (Int32.ofNat i) (bz false) (Int32.ofNat 0) M = _
    simp only [jgX12_isLeast_8, show bz false = (0 : Int32) from rfl, if_true]
    split <;> rfl
  | true =>
    rw [Bool.true_and]
    refine sy_forR (n := n) (F := sy_F) (R := fun c => c = sy_ri (bz (sp_ne f n (Int32.ofNat i) n)) M) (fun k p (_ : Unit) => jfX12_isLeast_8 k (Int32.ofNat i) (bz (sp_ne f n (Int32.ofNat i) p)) (Int32.ofNat p) M) (fun _ _ => True) ?_ ?_ () trivial (by rw [sy_F_eq]; omega)
    · intro k p _ hp _
      show (∃ _ : Unit, jgX12_isLeast_8 (jfX12_isLeast_8 k) (Int32.ofNat i) (bz (sp_ne f n (Int32.ofNat i) p)) (Int32.ofNat p) M = _ ∧ _) ∨ jgX12_isLeast_8 (jfX12_isLeast_8 k) (Int32.ofNat i) (bz (sp_ne f n (Int32.ofNat i) p)) (Int32.ofNat p) M = _
      have ev : sp_sw f n p i = (sp_bit (Int32.ofNat i) p && !sp_car f n (sp_wi (Int32.ofNat i) p)) := by unfold sp_sw; rw [hcar, Bool.true_and]
      simp (disch := omega) only [zL, zlt, zle, zeq, zadd, zmul, zin, zix, zsh1, Nat.add_zero, Nat.zero_add, Nat.mul_zero, if_true, if_false, if_pos, if_neg, sy_bi_ri, sy_bi_rt, sy_bv_rv, sy_bv_rt, sy_br_rr, sy_br_rn, sy_hi_ri, sy_hi_rt, sy_bs_t, sy_bx_t, sy_bb_t, bz_bo, ite_bz0, ite_bz1, jgX12_isLeast_8, jfX12_isLeast_39, jfX12_isLeast_44, hf, hn, m_isOf, m_swingsBy hf hn h7, ev]
      cases h1 : sp_ne f n (Int32.ofNat i) p with
      | false =>
        right
        rw [sp_ne_f f n _ h1 n (by omega)]
        rfl
      | true =>
        left
        refine ⟨(), ?_, trivial⟩
        rw [sp_ne_s, h1]
        cases sp_bit (Int32.ofNat i) p <;> cases sp_car f n (sp_wi (Int32.ofNat i) p) <;> rfl
    · intro k _ _
      show jgX12_isLeast_8 (jfX12_isLeast_8 k) (Int32.ofNat i) (bz (sp_ne f n (Int32.ofNat i) n)) (Int32.ofNat n) M = _
      simp (disch := omega) only [zL, zlt, zle, zeq, zadd, zmul, zin, zix, zsh1, Nat.add_zero, Nat.zero_add, Nat.mul_zero, if_true, if_false, if_pos, if_neg, sy_bi_ri, sy_bi_rt, sy_bv_rv, sy_bv_rt, sy_br_rr, sy_br_rn, sy_hi_ri, sy_hi_rt, sy_bs_t, sy_bx_t, sy_bb_t, bz_bo, ite_bz0, ite_bz1, jgX12_isLeast_8, hf, hn]
theorem o_minimal (I : Inv A tx L0 S e M) : opN A tx L0 S e (jfX11_minimal M) (jfX12_minimal) := by
  obtain ⟨n, G, H, ht, hA, hl⟩ := id I.1
  have hn := G.2.1
  have h7 := G.2.2.1
  have hpw := pow_le h7
  refine opN_q I (v := sy_fo (fun i a => a + bz (sp_car (M 122) n (Int32.ofNat i) && sp_ne (M 122) n (Int32.ofNat i) n)) (2 ^ n) 0 (Int32.ofNat 0)) ⟨M, ?_, fq_rfl⟩ (fun N hN => ⟨thr N 0, ?_, fr_thr⟩)
  · have e1 := c_all (M := M) (n := n) ((hv_3 H.1).trans hn) h7
    unfold jfX11_minimal
    obtain ⟨k, hk⟩ := sy_for1 (n := 2 ^ n) (F := sy_F) (fun k i (a : Int32) => jfX11_minimal_4 k a (Int32.ofNat i) M) (fun i a => a + bz (sp_car (M 122) n (Int32.ofNat i) && sp_ne (M 122) n (Int32.ofNat i) n)) (by
      intro k i a hi
      show jgX11_minimal_4 (jfX11_minimal_4 k) a (Int32.ofNat i) M = _
      simp (disch := omega) only [zL, zlt, zle, zeq, zadd, zmul, zin, zix, zsh1, Nat.add_zero, Nat.zero_add, Nat.mul_zero, if_true, if_false, if_pos, if_neg, sy_bi_ri, sy_bi_rt, sy_bv_rv, sy_bv_rt, sy_br_rr, sy_br_rn, sy_hi_ri, sy_hi_rt, sy_bs_t, sy_bx_t, sy_bb_t, bz_bo, ite_bz0, ite_bz1, jgX11_minimal_4, jfX11_minimal_31, e1, c_carries H.1 G.1 hn h7, c_needsEach H.1 G.1 hn h7]
      rw [if_neg (all_lt h7 hi)]
      cases sp_car (M 122) n (Int32.ofNat i) <;> cases sp_ne (M 122) n (Int32.ofNat i) n <;> first | rfl | (simp only [Bool.and_false, Bool.and_true, Bool.false_and, Bool.true_and, cond_false, cond_true, show bz false = (Int32.ofNat 0) from rfl, zadd0])) (Int32.ofNat 0) (by rw [sy_F_eq]; omega)
    refine hk.trans ?_
    show jgX11_minimal_4 (jfX11_minimal_4 k) _ (Int32.ofNat (2 ^ n)) M = _
    simp only [jgX11_minimal_4, e1, sy_bi_ri]
    rw [if_pos (all_ge h7)]
  · have e122 : thr N 0 122 = M 122 := (thr_ne _ _ (by decide)).trans (hN 122 (by omega) (by omega))
    have e1 := m_all (M := thr N 0) (n := n) (by rw [e122]; exact hn) h7
    show (jfX12_minimal_9 sy_F 0 0 (sy_upd N 121 0 (Int32.ofNat 0))) = _
    rw [thr_up]
    obtain ⟨k, hk⟩ := sy_for1 (n := 2 ^ n) (F := sy_F) (fun k i (a : Int32) => jfX12_minimal_9 k a (Int32.ofNat i) (thr N 0)) (fun i a => a + bz (sp_car (M 122) n (Int32.ofNat i) && sp_ne (M 122) n (Int32.ofNat i) n)) (by
      intro k i a hi
      show jgX12_minimal_9 (jfX12_minimal_9 k) a (Int32.ofNat i) (thr N 0) = _
      simp (disch := omega) only [zL, zlt, zle, zeq, zadd, zmul, zin, zix, zsh1, Nat.add_zero, Nat.zero_add, Nat.mul_zero, if_true, if_false, if_pos, if_neg, sy_bi_ri, sy_bi_rt, sy_bv_rv, sy_bv_rt, sy_br_rr, sy_br_rn, sy_hi_ri, sy_hi_rt, sy_bs_t, sy_bx_t, sy_bb_t, bz_bo, ite_bz0, ite_bz1, jgX12_minimal_9, jfX12_minimal_31, e1, m_isLeast e122 hn h7]
      rw [if_neg (all_lt h7 hi)]
      cases (sp_car (M 122) n (Int32.ofNat i) && sp_ne (M 122) n (Int32.ofNat i) n) <;> rfl) (Int32.ofNat 0) (by rw [sy_F_eq]; omega)
    refine hk.trans ?_
    show jgX12_minimal_9 (jfX12_minimal_9 k) _ (Int32.ofNat (2 ^ n)) (thr N 0) = _
    simp only [jgX12_minimal_9, e1, sy_bi_ri]
    rw [if_pos (all_ge h7)]
end
