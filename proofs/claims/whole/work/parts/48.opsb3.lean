/-! ===== calls about grief, prices, trials ===== -/
section
variable {A : (Nat → Int32) → Nat → Int32 × Bool} {tx : (Nat → Int32) → Prop} {L0 : Int32} {S : Nat → Int32} {e : Nat} {M : sy_M}
theorem o_grief (hM : mAK A tx) (I : Inv A tx L0 S e M) (he : e < 90000) (a b : Int32) : opT A tx L0 S e (jfL_grief a b M) (jfX12_grief a b) := by
  obtain ⟨n, G, H, ht, hA, hl⟩ := id I.1
  have hn := G.2.1
  have h7 := G.2.2.1
  obtain ⟨xk, hxk, exk⟩ := I.2.2.2.2.2.2.2.2.1
  have hx := xok he hxk exk
  have h9 : M 9 3 = Int32.ofNat n := (hv_3 H.1).trans hn
  have D19 := I.2.2.2.2.1
  unfold jfL_grief
  rcases ck_lodger h7 h9 hx a with ⟨p, hp, ea, ck, sa⟩ | ⟨sa, ck⟩
  · rcases ck_range (lo := 0) (hi := 20) (by decide) (by decide) hx b with ⟨w, _, hw0, eb, ck2, sb⟩ | ⟨sb, ck2⟩
    · subst ea eb
      refine opT_q I (v := sp_gf A n (M 122) p w) ?_ ?_
      · obtain ⟨M1, e1, s1, f1⟩ := q_st H G hA D19
        obtain ⟨M2, e2, s2, _, f2⟩ := c_griefBy s1 hp hw0
        exact ⟨M2, by simp (disch := omega) only [zL, zlt, zle, zeq, zadd, zmul, zin, zix, zsh1, Nat.add_zero, Nat.zero_add, Nat.mul_zero, if_true, if_false, if_pos, if_neg, sy_bi_ri, sy_bi_rt, sy_bv_rv, sy_bv_rt, sy_br_rr, sy_br_rn, sy_hi_ri, sy_hi_rt, sy_bs_t, sy_bx_t, sy_bb_t, bz_bo, ite_bz0, ite_bz1, jfX11_grief, ck, ck2, e1, e2], f1.trans (s2.fq f2)⟩
      · intro N hN
        have r := rc_thr (c := 0) (rc_of I G ht hN)
        have eN : N 122 3 = Int32.ofNat n := by rw [hN 122 (by omega) (by omega)]; exact hn
        obtain ⟨N1, e1, f1, _⟩ := m_griefOf hM r hp hw0
        exact ⟨N1, by simp (disch := omega) only [zL, zlt, zle, zeq, zadd, zmul, zin, zix, zsh1, Nat.add_zero, Nat.zero_add, Nat.mul_zero, if_true, if_false, if_pos, if_neg, sy_bi_ri, sy_bi_rt, sy_bv_rv, sy_bv_rt, sy_br_rr, sy_br_rn, sy_hi_ri, sy_hi_rt, sy_bs_t, sy_bx_t, sy_bb_t, bz_bo, ite_bz0, ite_bz1, jfX12_grief, jfX12_grief_28, m_isLodger, eN, sa, m_isIn, sb, cond_true, thr_up, thr_0, e1], (f1.2 0 (by omega)).trans (thr_0 _ _), fr_thr.trans f1.fr⟩
    · refine opT_x I (cl := 20) (c := 2) ?_ rfl (by decide) (by decide) ?_
      · simp (disch := omega) only [zL, zlt, zle, zeq, zadd, zmul, zin, zix, zsh1, Nat.add_zero, Nat.zero_add, Nat.mul_zero, if_true, if_false, if_pos, if_neg, sy_bi_ri, sy_bi_rt, sy_bv_rv, sy_bv_rt, sy_br_rr, sy_br_rn, sy_hi_ri, sy_hi_rt, sy_bs_t, sy_bx_t, sy_bb_t, bz_bo, ite_bz0, ite_bz1, jfX11_grief, ck, ck2]
        all_goals rfl
      · intro N hN
        have eN : N 122 3 = Int32.ofNat n := by rw [hN 122 (by omega) (by omega)]; exact hn
        exact ⟨(Int32.ofNat 0), thr N 2, by simp (disch := omega) only [zL, zlt, zle, zeq, zadd, zmul, zin, zix, zsh1, Nat.add_zero, Nat.zero_add, Nat.mul_zero, if_true, if_false, if_pos, if_neg, sy_bi_ri, sy_bi_rt, sy_bv_rv, sy_bv_rt, sy_br_rr, sy_br_rn, sy_hi_ri, sy_hi_rt, sy_bs_t, sy_bx_t, sy_bb_t, bz_bo, ite_bz0, ite_bz1, jfX12_grief, jfX12_grief_28, sa, sb, m_isLodger, eN, m_isIn, m_isTick, cond_true, cond_false, thr_up, thr_0], thr_0 _ _, fr_thr⟩
  · refine opT_x I (cl := 22) (c := 1) ?_ rfl (by decide) (by decide) ?_
    · simp (disch := omega) only [zL, zlt, zle, zeq, zadd, zmul, zin, zix, zsh1, Nat.add_zero, Nat.zero_add, Nat.mul_zero, if_true, if_false, if_pos, if_neg, sy_bi_ri, sy_bi_rt, sy_bv_rv, sy_bv_rt, sy_br_rr, sy_br_rn, sy_hi_ri, sy_hi_rt, sy_bs_t, sy_bx_t, sy_bb_t, bz_bo, ite_bz0, ite_bz1, jfX11_grief, ck]
      all_goals rfl
    · intro N hN
      have eN : N 122 3 = Int32.ofNat n := by rw [hN 122 (by omega) (by omega)]; exact hn
      exact ⟨(Int32.ofNat 0), thr N 1, by simp (disch := omega) only [zL, zlt, zle, zeq, zadd, zmul, zin, zix, zsh1, Nat.add_zero, Nat.zero_add, Nat.mul_zero, if_true, if_false, if_pos, if_neg, sy_bi_ri, sy_bi_rt, sy_bv_rv, sy_bv_rt, sy_br_rr, sy_br_rn, sy_hi_ri, sy_hi_rt, sy_bs_t, sy_bx_t, sy_bb_t, bz_bo, ite_bz0, ite_bz1, jfX12_grief, jfX12_grief_28, sa, m_isLodger, eN, m_isIn, m_isTick, cond_true, cond_false, thr_up, thr_0], thr_0 _ _, fr_thr⟩
/-! the best patience -/
theorem sp_gf_lt {n p w : Nat} {f : Nat → Int32} (G : gr f n) (hp : p < n) (hw0 : w ≤ 20) : sp_gf A n f p w < (Int32.ofNat 2000000000) := by
  have h7 := G.2.2.1
  have G2 := (sp_gs_gr (A := A) (nf := false) (dr := false) (gr_waits G (p := p) (w := w) (by omega) hw0) 48).1
  obtain ⟨a, ha, e1⟩ := rb_cold G.1 (p := p) (by omega)
  obtain ⟨b, hb, e2⟩ := rb_fed G.1 (p := p) (by omega)
  obtain ⟨c, hc, e3⟩ := rb_cold G2.1 (p := p) (by omega)
  obtain ⟨d, hd, e4⟩ := rb_fed G2.1 (p := p) (by omega)
  unfold sp_gf sp_gv sp_gw
  rw [e1, e2, e3, e4]
  simp only [zi_nat, zi_sub, zi_mul, zi_add]
  rw [zi_lt (by omega) (by omega) (by omega) (by omega)]
  omega
/-- best and least of so many -/
def sp_bw (A : (Nat → Int32) → Nat → Int32 × Bool) (n : Nat) (f : Nat → Int32) (p : Nat) : Nat → Nat × Int32 := fun m => sy_fo (fun i x => if sp_gf A n f p (i + 1) < x.2 then (i + 1, sp_gf A n f p (i + 1)) else x) m 0 (0, sp_gf A n f p 0)
theorem sp_bw_s (A : (Nat → Int32) → Nat → Int32 × Bool) (n : Nat) (f : Nat → Int32) (p m : Nat) : sp_bw A n f p (m + 1) = if sp_gf A n f p (m + 1) < (sp_bw A n f p m).2 then (m + 1, sp_gf A n f p (m + 1)) else sp_bw A n f p m := by
  unfold sp_bw
  rw [sy_fo_last, Nat.zero_add]
theorem sp_bw_le (A : (Nat → Int32) → Nat → Int32 × Bool) (n : Nat) (f : Nat → Int32) (p m : Nat) : (sp_bw A n f p m).1 ≤ m ∧ (sp_bw A n f p m).2 = sp_gf A n f p (sp_bw A n f p m).1 := by
  induction m with
  | zero => exact ⟨Nat.le_refl _, rfl⟩
  | succ m ih =>
    rw [sp_bw_s]
    split
    · exact ⟨Nat.le_refl _, rfl⟩
    · exact ⟨by omega, ih.2⟩
/-- it is the least of all -/
theorem sp_bw_min (A : (Nat → Int32) → Nat → Int32 × Bool) (n : Nat) (f : Nat → Int32) (p : Nat) : ∀ m w, w ≤ m → ¬ sp_gf A n f p w < (sp_bw A n f p m).2
  | 0, w, h => by
    have : w = 0 := by omega
    subst this
    exact Int32.lt_irrefl
  | m + 1, w, h => by
    rw [sp_bw_s]
    by_cases h1 : sp_gf A n f p (m + 1) < (sp_bw A n f p m).2
    · rw [if_pos h1]
      by_cases h2 : w = m + 1
      · subst h2; exact Int32.lt_irrefl
      · exact fun z => sp_bw_min A n f p m w (by omega) (Int32.lt_trans z h1)
    · rw [if_neg h1]
      by_cases h2 : w = m + 1
      · subst h2; exact h1
      · exact sp_bw_min A n f p m w (by omega)
theorem c_bestWait {n p : Nat} {f : Nat → Int32} (h : st A M n f) (hp : p < n) : ∃ M1, jfX11_bestWait (Int32.ofNat p) M = sy_ri (Int32.ofNat (sp_bw A n f p 20).1) M1 ∧ st A M1 n f ∧ fp 19 M M1 := by
  obtain ⟨M1, e1, s1, _, f1⟩ := c_griefBy (w := 0) h hp (by decide)
  unfold jfX11_bestWait
  rw [show jfX11_griefBy (Int32.ofNat p) 0 M = _ from e1, sy_bi_ri]
  refine sy_forR (n := 20) (F := sy_F) (R := fun c => ∃ M2, c = sy_ri (Int32.ofNat (sp_bw A n f p 20).1) M2 ∧ st A M2 n f ∧ fp 19 M M2) (fun k i (a : (Nat × Int32) × sy_M) => jfX11_bestWait_12 k (Int32.ofNat p) (Int32.ofNat a.1.1) a.1.2 (Int32.ofNat (i + 1)) a.2) (fun i a => a.1 = sp_bw A n f p i ∧ st A a.2 n f ∧ fp 19 M a.2) ?_ ?_ ((0, sp_gf A n f p 0), M1) ⟨rfl, s1, f1⟩ (by rw [sy_F_eq]; omega)
  · intro k i ⟨x, N⟩ hi ⟨h1, h2, h3⟩
    simp only at h1
    obtain ⟨N1, e2, s2, _, f2⟩ := c_griefBy (w := i + 1) h2 hp (by omega)
    refine Or.inl ⟨(sp_bw A n f p (i + 1), N1), ?_, rfl, s2, h3.trans f2⟩
    show jgX11_bestWait_12 (jfX11_bestWait_12 k) (Int32.ofNat p) (Int32.ofNat x.1) x.2 (Int32.ofNat (i + 1)) N = _
    rw [sp_bw_s, h1]
    simp (disch := omega) only [zL, zlt, zle, zeq, zadd, zmul, zin, zix, zsh1, Nat.add_zero, Nat.zero_add, Nat.mul_zero, if_true, if_false, if_pos, if_neg, sy_bi_ri, sy_bi_rt, sy_bv_rv, sy_bv_rt, sy_br_rr, sy_br_rn, sy_hi_ri, sy_hi_rt, sy_bs_t, sy_bx_t, sy_bb_t, bz_bo, ite_bz0, ite_bz1, jgX11_bestWait_12, jfX11_bestWait_40, e2]
    split <;> rfl
  · intro k ⟨x, N⟩ ⟨h1, h2, h3⟩
    simp only at h1
    refine ⟨N, ?_, h2, h3⟩
    show jgX11_bestWait_12 (jfX11_bestWait_12 k) (Int32.ofNat p) (Int32.ofNat x.1) x.2 (Int32.ofNat (20 + 1)) N = _
    rw [h1]
    simp (disch := omega) only [zL, zlt, zle, zeq, zadd, zmul, zin, zix, zsh1, Nat.add_zero, Nat.zero_add, Nat.mul_zero, if_true, if_false, if_pos, if_neg, sy_bi_ri, sy_bi_rt, sy_bv_rv, sy_bv_rt, sy_br_rr, sy_br_rn, sy_hi_ri, sy_hi_rt, sy_bs_t, sy_bx_t, sy_bb_t, bz_bo, ite_bz0, ite_bz1, jgX11_bestWait_12]
theorem m_bestOf (hM : mAK A tx) {n p : Nat} {f : Nat → Int32} (h : rc tx false M n f) (hp : p < n) : ∃ M1, jfX12_bestOf (Int32.ofNat p) M = sy_ri (Int32.ofNat (sp_bw A n f p 20).1) M1 ∧ ft M M1 := by
  unfold jfX12_bestOf
  refine sy_forR (n := 21) (F := sy_F) (R := fun c => ∃ M2, c = sy_ri (Int32.ofNat (sp_bw A n f p 20).1) M2 ∧ ft M M2) (fun k i (a : (Nat × Int32) × sy_M) => jfX12_bestOf_9 k (Int32.ofNat p) (Int32.ofNat a.1.1) a.1.2 (Int32.ofNat i) a.2) (fun i a => a.1 = (if i = 0 then (0, (Int32.ofNat 2000000000)) else sp_bw A n f p (i - 1)) ∧ ft M a.2) ?_ ?_ ((0, (Int32.ofNat 2000000000)), M) ⟨rfl, ft_rfl⟩ (by rw [sy_F_eq]; omega)
  · intro k i ⟨x, N⟩ hi ⟨h1, h2⟩
    simp only at h1
    obtain ⟨N1, e2, f2, _⟩ := m_griefOf hM (rc_ft h h2) hp (w := i) (by omega)
    refine Or.inl ⟨(sp_bw A n f p i, N1), ?_, ?_, h2.trans f2⟩
    · show jgX12_bestOf_9 (jfX12_bestOf_9 k) (Int32.ofNat p) (Int32.ofNat x.1) x.2 (Int32.ofNat i) N = _
      simp (disch := omega) only [zL, zlt, zle, zeq, zadd, zmul, zin, zix, zsh1, Nat.add_zero, Nat.zero_add, Nat.mul_zero, if_true, if_false, if_pos, if_neg, sy_bi_ri, sy_bi_rt, sy_bv_rv, sy_bv_rt, sy_br_rr, sy_br_rn, sy_hi_ri, sy_hi_rt, sy_bs_t, sy_bx_t, sy_bb_t, bz_bo, ite_bz0, ite_bz1, jgX12_bestOf_9, jfX12_bestOf_40, e2]
      rcases Nat.eq_zero_or_pos i with h0 | h0
      · subst h0
        rw [if_pos rfl] at h1
        rw [h1, if_pos (sp_gf_lt h.2.1 hp (by decide))]
        rfl
      · rw [if_neg (by omega)] at h1
        obtain ⟨j, rfl⟩ : ∃ j, i = j + 1 := ⟨i - 1, by omega⟩
        rw [Nat.add_sub_cancel] at h1
        rw [sp_bw_s, h1]
        split <;> rfl
    · rw [if_neg (by omega), Nat.add_sub_cancel]
  · intro k ⟨x, N⟩ ⟨h1, h2⟩
    simp only at h1
    refine ⟨N, ?_, h2⟩
    show jgX12_bestOf_9 (jfX12_bestOf_9 k) (Int32.ofNat p) (Int32.ofNat x.1) x.2 (Int32.ofNat 21) N = _
    rw [h1]
    simp (disch := omega) only [zL, zlt, zle, zeq, zadd, zmul, zin, zix, zsh1, Nat.add_zero, Nat.zero_add, Nat.mul_zero, if_true, if_false, if_pos, if_neg, sy_bi_ri, sy_bi_rt, sy_bv_rv, sy_bv_rt, sy_br_rr, sy_br_rn, sy_hi_ri, sy_hi_rt, sy_bs_t, sy_bx_t, sy_bb_t, bz_bo, ite_bz0, ite_bz1, jgX12_bestOf_9]
/-! restless -/
theorem c_wouldWait {n p : Nat} {f : Nat → Int32} (h : st A M n f) (hp : p < n) : ∃ M1, jfX11_wouldWait (Int32.ofNat p) M = sy_ri (bz (decide ((sp_bw A n f p 20).2 < sp_gf A n f p (f (14 + 9 * p + 4)).toNatClampNeg))) M1 ∧ st A M1 n f ∧ fp 19 M M1 := by
  have h7 := h.2.1.2.2.1
  obtain ⟨w, hw0, ew⟩ := rb_waits h.2.1.1 (p := p) (by omega)
  obtain ⟨M1, e1, s1, _, f1⟩ := c_griefBy (w := w) h hp hw0
  rw [ew, zix (by omega)]
  have e0 : jfX11_wouldWait (Int32.ofNat p) M = jfX11_wouldWait_17 sy_F (Int32.ofNat p) (sp_gf A n f p w) (Int32.ofNat 0) M1 := by
    simp (disch := omega) only [zL, zlt, zle, zeq, zadd, zmul, zin, zix, zsh1, Nat.add_zero, Nat.zero_add, Nat.mul_zero, if_true, if_false, if_pos, if_neg, sy_bi_ri, sy_bi_rt, sy_bv_rv, sy_bv_rt, sy_br_rr, sy_br_rn, sy_hi_ri, sy_hi_rt, sy_bs_t, sy_bx_t, sy_bb_t, bz_bo, ite_bz0, ite_bz1, jfX11_wouldWait, c_get h.1.1, ew, e1]
  rw [e0]
  refine sy_forR (n := 21) (F := sy_F) (R := fun c => ∃ M2, c = sy_ri (bz (decide ((sp_bw A n f p 20).2 < sp_gf A n f p w))) M2 ∧ st A M2 n f ∧ fp 19 M M2) (fun k i (N : sy_M) => jfX11_wouldWait_17 k (Int32.ofNat p) (sp_gf A n f p w) (Int32.ofNat i) N) (fun i N => (∀ u, u < i → ¬ sp_gf A n f p u < sp_gf A n f p w) ∧ st A N n f ∧ fp 19 M N) ?_ ?_ M1 ⟨fun u hu => absurd hu (Nat.not_lt_zero u), s1, f1⟩ (by rw [sy_F_eq]; omega)
  · intro k i N hi ⟨h1, h2, h3⟩
    obtain ⟨N1, e2, s2, _, f2⟩ := c_griefBy (w := i) h2 hp (by omega)
    show (∃ a' : sy_M, jgX11_wouldWait_17 (jfX11_wouldWait_17 k) (Int32.ofNat p) (sp_gf A n f p w) (Int32.ofNat i) N = _ ∧ _) ∨ (∃ M2, jgX11_wouldWait_17 (jfX11_wouldWait_17 k) (Int32.ofNat p) (sp_gf A n f p w) (Int32.ofNat i) N = _ ∧ _)
    simp (disch := omega) only [zL, zlt, zle, zeq, zadd, zmul, zin, zix, zsh1, Nat.add_zero, Nat.zero_add, Nat.mul_zero, if_true, if_false, if_pos, if_neg, sy_bi_ri, sy_bi_rt, sy_bv_rv, sy_bv_rt, sy_br_rr, sy_br_rn, sy_hi_ri, sy_hi_rt, sy_bs_t, sy_bx_t, sy_bb_t, bz_bo, ite_bz0, ite_bz1, jgX11_wouldWait_17, e2]
    by_cases hl : sp_gf A n f p i < sp_gf A n f p w
    · refine Or.inr ⟨N1, ?_, s2, h3.trans f2⟩
      have : (sp_bw A n f p 20).2 < sp_gf A n f p w := Int32.lt_of_le_of_lt (Int32.not_lt.mp (sp_bw_min A n f p 20 i (by omega))) hl
      rw [if_pos hl, decide_eq_true this]
      rfl
    · refine Or.inl ⟨N1, by rw [if_neg hl], fun u hu => ?_, s2, h3.trans f2⟩
      by_cases hu2 : u = i
      · subst hu2; exact hl
      · exact h1 u (by omega)
  · intro k N ⟨h1, h2, h3⟩
    refine ⟨N, ?_, h2, h3⟩
    show jgX11_wouldWait_17 (jfX11_wouldWait_17 k) (Int32.ofNat p) (sp_gf A n f p w) (Int32.ofNat 21) N = _
    have b := sp_bw_le A n f p 20
    rw [b.2, decide_eq_false (h1 _ (by omega))]
    simp (disch := omega) only [zL, zlt, zle, zeq, zadd, zmul, zin, zix, zsh1, Nat.add_zero, Nat.zero_add, Nat.mul_zero, if_true, if_false, if_pos, if_neg, sy_bi_ri, sy_bi_rt, sy_bv_rv, sy_bv_rt, sy_br_rr, sy_br_rn, sy_hi_ri, sy_hi_rt, sy_bs_t, sy_bx_t, sy_bb_t, bz_bo, ite_bz0, ite_bz1, jgX11_wouldWait_17]
    rfl
def sp_rl (A : (Nat → Int32) → Nat → Int32 × Bool) (n : Nat) (f : Nat → Int32) : Nat → Int32 := fun m => sy_fo (fun p s => s ||| (bif decide ((sp_bw A n f p 20).2 < sp_gf A n f p (f (14 + 9 * p + 4)).toNatClampNeg) then (Int32.ofNat 1) <<< Int32.ofNat p else (Int32.ofNat 0))) m 0 (Int32.ofNat 0)
theorem sp_rl_s (A : (Nat → Int32) → Nat → Int32 × Bool) (n : Nat) (f : Nat → Int32) (m : Nat) : sp_rl A n f (m + 1) = sp_rl A n f m ||| (bif decide ((sp_bw A n f m 20).2 < sp_gf A n f m (f (14 + 9 * m + 4)).toNatClampNeg) then (Int32.ofNat 1) <<< Int32.ofNat m else (Int32.ofNat 0)) := by
  unfold sp_rl
  rw [sy_fo_last, Nat.zero_add]
theorem zor0 (x : Int32) : x ||| (Int32.ofNat 0) = x := Int32.or_zero
theorem c_restless {n : Nat} {f : Nat → Int32} (h : st A M n f) : ∃ M1, jfX11_restless_15 sy_F (Int32.ofNat 0) (Int32.ofNat 0) M = sy_ri (sp_rl A n f n) M1 ∧ fq M M1 := by
  have hn := h.2.1.2.1
  have h7 := h.2.1.2.2.1
  refine sy_forR (n := n) (F := sy_F) (R := fun c => ∃ M2, c = sy_ri (sp_rl A n f n) M2 ∧ fq M M2) (fun k i (a : Int32 × sy_M) => jfX11_restless_15 k a.1 (Int32.ofNat i) a.2) (fun i a => a.1 = sp_rl A n f i ∧ st A a.2 n f ∧ fp 19 M a.2) ?_ ?_ ((Int32.ofNat 0), M) ⟨rfl, h, fp_rfl⟩ (by rw [sy_F_eq]; omega)
  · intro k i ⟨x, N⟩ hi ⟨h1, h2, h3⟩
    simp only at h1 h2 h3
    obtain ⟨N1, e2, s2, f2⟩ := c_wouldWait h2 hi
    refine Or.inl ⟨(sp_rl A n f (i + 1), N1), ?_, rfl, s2, h3.trans f2⟩
    show jgX11_restless_15 (jfX11_restless_15 k) x (Int32.ofNat i) N = _
    rw [sp_rl_s, h1]
    simp (disch := omega) only [zL, zlt, zle, zeq, zadd, zmul, zin, zix, zsh1, Nat.add_zero, Nat.zero_add, Nat.mul_zero, if_true, if_false, if_pos, if_neg, sy_bi_ri, sy_bi_rt, sy_bv_rv, sy_bv_rt, sy_br_rr, sy_br_rn, sy_hi_ri, sy_hi_rt, sy_bs_t, sy_bx_t, sy_bb_t, bz_bo, ite_bz0, ite_bz1, jgX11_restless_15, jfX11_restless_40, hv_3 h2.1.1, hn, e2]
    cases decide ((sp_bw A n f i 20).2 < sp_gf A n f i (f (14 + 9 * i + 4)).toNatClampNeg)
    · simp only [cond_false, zor0]
    · rfl
  · intro k ⟨x, N⟩ ⟨h1, h2, h3⟩
    simp only at h1 h2 h3
    refine ⟨N, ?_, h2.fq h3⟩
    show jgX11_restless_15 (jfX11_restless_15 k) x (Int32.ofNat n) N = _
    rw [h1]
    simp (disch := omega) only [zL, zlt, zle, zeq, zadd, zmul, zin, zix, zsh1, Nat.add_zero, Nat.zero_add, Nat.mul_zero, if_true, if_false, if_pos, if_neg, sy_bi_ri, sy_bi_rt, sy_bv_rv, sy_bv_rt, sy_br_rr, sy_br_rn, sy_hi_ri, sy_hi_rt, sy_bs_t, sy_bx_t, sy_bb_t, bz_bo, ite_bz0, ite_bz1, jgX11_restless_15, hv_3 h2.1.1, hn]
theorem m_restless (hM : mAK A tx) {n : Nat} {f : Nat → Int32} (h : rc tx false M n f) : ∃ M1, jfX12_restless_9 sy_F (Int32.ofNat 0) (Int32.ofNat 0) M = sy_ri (sp_rl A n f n) M1 ∧ ft M M1 := by
  have hn := h.2.1.2.1
  have h7 := h.2.1.2.2.1
  refine sy_forR (n := n) (F := sy_F) (R := fun c => ∃ M2, c = sy_ri (sp_rl A n f n) M2 ∧ ft M M2) (fun k i (a : Int32 × sy_M) => jfX12_restless_9 k a.1 (Int32.ofNat i) a.2) (fun i a => a.1 = sp_rl A n f i ∧ ft M a.2) ?_ ?_ ((Int32.ofNat 0), M) ⟨rfl, ft_rfl⟩ (by rw [sy_F_eq]; omega)
  · intro k i ⟨x, N⟩ hi ⟨h1, h2⟩
    simp only at h1 h2
    have r := rc_ft h h2
    obtain ⟨w, hw0, ew⟩ := rb_waits h.2.1.1 (p := i) (by omega)
    obtain ⟨N1, e1, f1, _⟩ := m_griefOf hM r hi (w := w) hw0
    obtain ⟨N2, e2, f2⟩ := m_bestOf hM (rc_ft r f1) hi
    have b := sp_bw_le A n f i 20
    obtain ⟨N3, e3, f3, _⟩ := m_griefOf hM (rc_ft (rc_ft r f1) f2) hi (w := (sp_bw A n f i 20).1) (by omega)
    refine Or.inl ⟨(sp_rl A n f (i + 1), N3), ?_, rfl, ((h2.trans f1).trans f2).trans f3⟩
    show jgX12_restless_9 (jfX12_restless_9 k) x (Int32.ofNat i) N = _
    rw [sp_rl_s, h1, ew, zix (by omega), b.2]
    have e122 : N 122 = f := r.1
    simp (disch := omega) only [zL, zlt, zle, zeq, zadd, zmul, zin, zix, zsh1, Nat.add_zero, Nat.zero_add, Nat.mul_zero, if_true, if_false, if_pos, if_neg, sy_bi_ri, sy_bi_rt, sy_bv_rv, sy_bv_rt, sy_br_rr, sy_br_rn, sy_hi_ri, sy_hi_rt, sy_bs_t, sy_bx_t, sy_bb_t, bz_bo, ite_bz0, ite_bz1, jgX12_restless_9, jfX12_restless_51, e122, hn, m_of, ew, e1, e2, e3]
    by_cases hl : sp_gf A n f i (sp_bw A n f i 20).1 < sp_gf A n f i w
    · rw [if_pos hl, decide_eq_true hl]; rfl
    · rw [if_neg hl, decide_eq_false hl]; rfl
  · intro k ⟨x, N⟩ ⟨h1, h2⟩
    simp only at h1 h2
    have e122 : N 122 = f := (rc_ft h h2).1
    refine ⟨N, ?_, h2⟩
    show jgX12_restless_9 (jfX12_restless_9 k) x (Int32.ofNat n) N = _
    rw [h1]
    simp (disch := omega) only [zL, zlt, zle, zeq, zadd, zmul, zin, zix, zsh1, Nat.add_zero, Nat.zero_add, Nat.mul_zero, if_true, if_false, if_pos, if_neg, sy_bi_ri, sy_bi_rt, sy_bv_rv, sy_bv_rt, sy_br_rr, sy_br_rn, sy_hi_ri, sy_hi_rt, sy_bs_t, sy_bx_t, sy_bb_t, bz_bo, ite_bz0, ite_bz1, jgX12_restless_9, e122, hn]
theorem o_restless (hM : mAK A tx) (I : Inv A tx L0 S e M) : opN A tx L0 S e (jfX11_restless M) (jfX12_restless) := by
  obtain ⟨n, G, H, ht, hA, hl⟩ := id I.1
  refine opN_q I (v := sp_rl A n (M 122) n) ?_ ?_
  · obtain ⟨M1, e1, s1, f1⟩ := q_st H G hA I.2.2.2.2.1
    obtain ⟨M2, e2, f2⟩ := c_restless s1
    exact ⟨M2, by simp (disch := omega) only [zL, zlt, zle, zeq, zadd, zmul, zin, zix, zsh1, Nat.add_zero, Nat.zero_add, Nat.mul_zero, if_true, if_false, if_pos, if_neg, sy_bi_ri, sy_bi_rt, sy_bv_rv, sy_bv_rt, sy_br_rr, sy_br_rn, sy_hi_ri, sy_hi_rt, sy_bs_t, sy_bx_t, sy_bb_t, bz_bo, ite_bz0, ite_bz1, jfX11_restless, e1, e2], f1.trans f2⟩
  · intro N hN
    obtain ⟨N1, e1, f1⟩ := m_restless hM (rc_thr (c := 0) (rc_of I G ht hN))
    exact ⟨N1, by simp (disch := omega) only [zL, zlt, zle, zeq, zadd, zmul, zin, zix, zsh1, Nat.add_zero, Nat.zero_add, Nat.mul_zero, if_true, if_false, if_pos, if_neg, sy_bi_ri, sy_bi_rt, sy_bv_rv, sy_bv_rt, sy_br_rr, sy_br_rn, sy_hi_ri, sy_hi_rt, sy_bs_t, sy_bx_t, sy_bb_t, bz_bo, ite_bz0, ite_bz1, jfX12_restless, thr_up, e1], fr_thr.trans f1.fr⟩
/-! prices -/
theorem gr_price {n p : Nat} {f : Nat → Int32} (G : gr f n) (h0 : 1 ≤ p) (hp : p ≤ 99) : gr (rs f 7 (Int32.ofNat p)) n := by
  obtain ⟨h1, h2, h7, h4, h5, h6⟩ := G
  refine ⟨rb_set h1 hp, (rs_ne _ _ (by omega)).trans h2, h7, ?_, ?_, ?_⟩
  · intro h q hq
    rw [rs_ne _ _ (by omega)] at h
    rw [rs_ne _ _ (by omega)]
    exact h4 h q hq
  · intro q hq hq7
    obtain ⟨e1, e2, e3, e4⟩ := h5 q hq hq7
    refine ⟨?_, ?_, ?_, fun o ho => ⟨?_, ?_⟩⟩
    · rw [rs_ne _ _ (by omega)]; exact e1
    · rw [rs_ne _ _ (by omega)]; exact e2
    · rw [rs_ne _ _ (by omega)]; exact e3
    · rw [rs_ne _ _ (by omega)]; exact (e4 o ho).1
    · rw [rs_ne _ _ (by omega)]; exact (e4 o ho).2
  · refine ⟨?_, fun q hq => ?_⟩
    · rw [rs_at]
      intro z
      rw [zeq (by omega) (by omega)] at z
      omega
    · rw [rs_ne _ _ (by omega)]; exact h6.2 q hq
def sp_pr (A : (Nat → Int32) → Nat → Int32 × Bool) (n : Nat) (f : Nat → Int32) (p : Nat) : (Nat → Int32) × Int32 × Int32 × Int32 := sp_gs A n false false (rs f 7 (Int32.ofNat p)) 48
theorem c_earned {n p : Nat} {f : Nat → Int32} (h : st A M n f) (h0 : 1 ≤ p) (hp : p ≤ 99) : ∃ M1, jfX11_earned (Int32.ofNat p) M = sy_ri (sp_pr A n f p).2.2.1 M1 ∧ st A M1 n f ∧ hw M1 19 (sp_pr A n f p).1 ∧ fp 19 M M1 := by
  obtain ⟨N1, e1, a1, f1⟩ := q_over h.1 h.2.1 h.2.2.1 h.2.2.2.1 h.2.2.2.2
  have w2 := hw_fld a1.1 (j := 8) (i := 7) (Or.inl ⟨rfl, by omega, by omega⟩) (Int32.ofNat p)
  have a2 : ah A (syc N1 19 (rs (N1 19) 8 (Int32.ofNat p))) n (rs f 7 (Int32.ofNat p)) := by
    refine ⟨w2, gr_price h.2.1 h0 hp, cAK_cp a1.2.2.1 (lcp_of (fun c c1 c2 => syc_ne _ _ (by omega))) (tsame_rs (by omega) (by omega) (by omega)), ?_⟩
    exact nt_congr (nt_same (fun q w hq hw => rs_ne _ _ (by omega)) h.2.1.2.2.1 a1.2.2.2) (syc_ne _ _ (by omega)) (syc_ne _ _ (by omega))
  obtain ⟨N3, e3, a3, f3⟩ := c_runA (dr := false) (k := 48) a2 (by omega)
  replace e3 : jfX11_run (Int32.ofNat 48) (Int32.ofNat 0) (syc N1 19 (rs (N1 19) 8 (Int32.ofNat p))) = _ := e3
  have F : fp 19 M N3 := (f1.trans (fh_syc (h := 19) (by omega) (by omega)).fp).trans f3
  refine ⟨N3, ?_, st_fp h a3.1 F, a3.1, F⟩
  simp (disch := omega) only [zL, zlt, zle, zeq, zadd, zmul, zin, zix, zsh1, Nat.add_zero, Nat.zero_add, Nat.mul_zero, if_true, if_false, if_pos, if_neg, sy_bi_ri, sy_bi_rt, sy_bv_rv, sy_bv_rt, sy_br_rr, sy_br_rn, sy_hi_ri, sy_hi_rt, sy_bs_t, sy_bx_t, sy_bb_t, bz_bo, ite_bz0, ite_bz1, jfX11_earned, e1, sy_upd_st, e3]
  rfl
theorem m_coldOfAll {n : Nat} {f : Nat → Int32} (hf : M 122 = f) (hn : f 3 = Int32.ofNat n) (h7 : n ≤ 7) : jfX12_coldOfAll M = sy_ri (sp_sum f n 7) M := by
  unfold jfX12_coldOfAll sp_sum
  obtain ⟨k, hk⟩ := sy_for1 (n := n) (F := sy_F) (fun k i (a : Int32) => jfX12_coldOfAll_4 k a (Int32.ofNat i) M) (fun p a => a + f (14 + 9 * p + 7)) (by
    intro k i a hi
    show jgX12_coldOfAll_4 (jfX12_coldOfAll_4 k) a (Int32.ofNat i) M = _
    simp (disch := omega) only [zL, zlt, zle, zeq, zadd, zmul, zin, zix, zsh1, Nat.add_zero, Nat.zero_add, Nat.mul_zero, if_true, if_false, if_pos, if_neg, sy_bi_ri, sy_bi_rt, sy_bv_rv, sy_bv_rt, sy_br_rr, sy_br_rn, sy_hi_ri, sy_hi_rt, sy_bs_t, sy_bx_t, sy_bb_t, bz_bo, ite_bz0, ite_bz1, jgX12_coldOfAll_4, hf, hn, m_of]) 0 (by rw [sy_F_eq]; omega)
  refine hk.trans ?_
  show jgX12_coldOfAll_4 (jfX12_coldOfAll_4 k) _ (Int32.ofNat n) M = _
  simp (disch := omega) only [zL, zlt, zle, zeq, zadd, zmul, zin, zix, zsh1, Nat.add_zero, Nat.zero_add, Nat.mul_zero, if_true, if_false, if_pos, if_neg, sy_bi_ri, sy_bi_rt, sy_bv_rv, sy_bv_rt, sy_br_rr, sy_br_rn, sy_hi_ri, sy_hi_rt, sy_bs_t, sy_bx_t, sy_bb_t, bz_bo, ite_bz0, ite_bz1, jgX12_coldOfAll_4, hf, hn]
theorem m_byPrice (hM : mAK A tx) {n p : Nat} {f : Nat → Int32} {b : Bool} (h : rc tx false M n f) (h0 : 1 ≤ p) (hp : p ≤ 99) : ∃ M1, jfX12_byPrice (Int32.ofNat p) (bz b) M = sy_ri (bif b then sp_sum (sp_pr A n f p).1 n 7 else (sp_pr A n f p).2.2.1) M1 ∧ ft M M1 := by
  have r1 : rc tx false (syc (syc M 124 (sp_aside 426 f (M 124))) 122 (rs f 7 (Int32.ofNat p))) n (rs f 7 (Int32.ofNat p)) := ⟨syc_at _ _ _, gr_price h.2.1 h0 hp, hM.1 _ _ h.2.2.1 (tsame_rs (by omega) (by omega) (by omega)), by rw [syc_ne _ _ (by decide), syc_ne _ _ (by decide)]; exact h.2.2.2⟩
  obtain ⟨N1, e3, a3, g3, _, f3⟩ := m_goesA hM (dr := false) (k := 48) r1 (by omega)
  replace e3 : jfX12_goes (Int32.ofNat 48) (Int32.ofNat 0) (syc (syc M 124 (sp_aside 426 f (M 124))) 122 (rs f 7 (Int32.ofNat p))) = _ := e3
  have ts : tsame f (sp_gs A n false false (rs f 7 (Int32.ofNat p)) 48).1 := (tsame_rs (by omega) (by omega) (by omega)).trans (sp_gs_gr (A := A) (nf := false) (dr := false) (gr_price h.2.1 h0 hp) 48).2.1
  obtain ⟨e4, f4⟩ := m_lookT h.1 (fm_syc.trans f3) a3.1 ts
  have e5 := m_coldOfAll a3.1 a3.2.1.2.1 a3.2.1.2.2.1
  refine ⟨_, ?_, f4⟩
  have e6 : M 122 = f := h.1
  cases b
  · simp (disch := omega) only [zL, zlt, zle, zeq, zadd, zmul, zin, zix, zsh1, Nat.add_zero, Nat.zero_add, Nat.mul_zero, if_true, if_false, if_pos, if_neg, sy_bi_ri, sy_bi_rt, sy_bv_rv, sy_bv_rt, sy_br_rr, sy_br_rn, sy_hi_ri, sy_hi_rt, sy_bs_t, sy_bx_t, sy_bb_t, bz_bo, ite_bz0, ite_bz1, jfX12_byPrice, jfX12_byPrice_35, m_putsAside, e6, sy_upd_st, syc_ne, e3, g3, e4, cond_false]
    rfl
  · simp (disch := omega) only [zL, zlt, zle, zeq, zadd, zmul, zin, zix, zsh1, Nat.add_zero, Nat.zero_add, Nat.mul_zero, if_true, if_false, if_pos, if_neg, sy_bi_ri, sy_bi_rt, sy_bv_rv, sy_bv_rt, sy_br_rr, sy_br_rn, sy_hi_ri, sy_hi_rt, sy_bs_t, sy_bx_t, sy_bb_t, bz_bo, ite_bz0, ite_bz1, jfX12_byPrice, jfX12_byPrice_35, m_putsAside, e6, sy_upd_st, syc_ne, e3, e5, e4, cond_true]
    rfl
theorem o_earns (hM : mAK A tx) (I : Inv A tx L0 S e M) (he : e < 90000) (a : Int32) : opT A tx L0 S e (jfL_earns a M) (jfX12_earns a) := by
  obtain ⟨n, G, H, ht, hA, hl⟩ := id I.1
  have hn := G.2.1
  have h7 := G.2.2.1
  obtain ⟨xk, hxk, exk⟩ := I.2.2.2.2.2.2.2.2.1
  have hx := xok he hxk exk
  have h9 : M 9 3 = Int32.ofNat n := (hv_3 H.1).trans hn
  have D19 := I.2.2.2.2.1
  unfold jfL_earns
  rcases ck_range (lo := 1) (hi := 99) (by decide) (by decide) hx a with ⟨k, hk0, hk, ea, ck, sa⟩ | ⟨sa, ck⟩
  · subst ea
    refine opT_q I (v := (sp_pr A n (M 122) k).2.2.1) ?_ ?_
    · obtain ⟨M1, e1, s1, f1⟩ := q_st H G hA D19
      obtain ⟨M2, e2, s2, _, f2⟩ := c_earned s1 hk0 hk
      exact ⟨M2, by simp (disch := omega) only [zL, zlt, zle, zeq, zadd, zmul, zin, zix, zsh1, Nat.add_zero, Nat.zero_add, Nat.mul_zero, if_true, if_false, if_pos, if_neg, sy_bi_ri, sy_bi_rt, sy_bv_rv, sy_bv_rt, sy_br_rr, sy_br_rn, sy_hi_ri, sy_hi_rt, sy_bs_t, sy_bx_t, sy_bb_t, bz_bo, ite_bz0, ite_bz1, jfX11_earns, ck, e1, e2], f1.trans (s2.fq f2)⟩
    · intro N hN
      obtain ⟨N1, e1, f1⟩ := m_byPrice hM (b := false) (rc_thr (c := 0) (rc_of I G ht hN)) hk0 hk
      replace e1 : jfX12_byPrice (Int32.ofNat k) (Int32.ofNat 0) (thr N 0) = _ := e1
      exact ⟨N1, by simp (disch := omega) only [zL, zlt, zle, zeq, zadd, zmul, zin, zix, zsh1, Nat.add_zero, Nat.zero_add, Nat.mul_zero, if_true, if_false, if_pos, if_neg, sy_bi_ri, sy_bi_rt, sy_bv_rv, sy_bv_rt, sy_br_rr, sy_br_rn, sy_hi_ri, sy_hi_rt, sy_bs_t, sy_bx_t, sy_bb_t, bz_bo, ite_bz0, ite_bz1, jfX12_earns, jfX12_earns_16, m_isIn, sa, cond_true, thr_up, thr_0, e1, cond_false], (f1.2 0 (by omega)).trans (thr_0 _ _), fr_thr.trans f1.fr⟩
  · refine opT_x I (cl := 20) (c := 1) ?_ rfl (by decide) (by decide) ?_
    · simp (disch := omega) only [zL, zlt, zle, zeq, zadd, zmul, zin, zix, zsh1, Nat.add_zero, Nat.zero_add, Nat.mul_zero, if_true, if_false, if_pos, if_neg, sy_bi_ri, sy_bi_rt, sy_bv_rv, sy_bv_rt, sy_br_rr, sy_br_rn, sy_hi_ri, sy_hi_rt, sy_bs_t, sy_bx_t, sy_bb_t, bz_bo, ite_bz0, ite_bz1, jfX11_earns, ck]
      all_goals rfl
    · intro N hN
      have eN : N 122 3 = Int32.ofNat n := by rw [hN 122 (by omega) (by omega)]; exact hn
      exact ⟨(Int32.ofNat 0), thr N 1, by simp (disch := omega) only [zL, zlt, zle, zeq, zadd, zmul, zin, zix, zsh1, Nat.add_zero, Nat.zero_add, Nat.mul_zero, if_true, if_false, if_pos, if_neg, sy_bi_ri, sy_bi_rt, sy_bv_rv, sy_bv_rt, sy_br_rr, sy_br_rn, sy_hi_ri, sy_hi_rt, sy_bs_t, sy_bx_t, sy_bb_t, bz_bo, ite_bz0, ite_bz1, jfX12_earns, jfX12_earns_16, sa, m_isLodger, eN, m_isIn, m_isTick, cond_true, cond_false, thr_up, thr_0], thr_0 _ _, fr_thr⟩
/-! trial -/
theorem o_trial (hM : mAK A tx) (I : Inv A tx L0 S e M) (he : e < 90000) (a : Int32) (b : Bool) : opT A tx L0 S e (jfL_trial a (bz b) M) (jfX12_trial a (bz b)) := by
  obtain ⟨n, G, H, ht, hA, hl⟩ := id I.1
  have hn := G.2.1
  have h7 := G.2.2.1
  obtain ⟨xk, hxk, exk⟩ := I.2.2.2.2.2.2.2.2.1
  have hx := xok he hxk exk
  have h9 : M 9 3 = Int32.ofNat n := (hv_3 H.1).trans hn
  have D19 := I.2.2.2.2.1
  unfold jfL_trial
  rcases ck_range (lo := 0) (hi := 96) (by decide) (by decide) hx a with ⟨k, _, hk, ea, ck, sa⟩ | ⟨sa, ck⟩
  · subst ea
    have q := (sp_gs_gr (A := A) (nf := false) (dr := true) G k).1
    refine opT_q I (v := bif b then sp_sum (sp_gs A n false true (M 122) k).1 n 7 else (sp_gs A n false true (M 122) k).2.2.1) ?_ ?_
    · obtain ⟨M1, e1, a1, w1, f1⟩ := q_start H G hA D19
      obtain ⟨M2, e2, a2, f2⟩ := c_runA (dr := true) a1 hk
      replace e2 : jfX11_run (Int32.ofNat k) (Int32.ofNat 1) M1 = _ := e2
      have e3 := c_sum a2.1.1 (w := 7) (by decide) q.2.1 h7
      refine ⟨M2, ?_, f1.trans (a2.fq f2)⟩
      cases b
      · simp (disch := omega) only [zL, zlt, zle, zeq, zadd, zmul, zin, zix, zsh1, Nat.add_zero, Nat.zero_add, Nat.mul_zero, if_true, if_false, if_pos, if_neg, sy_bi_ri, sy_bi_rt, sy_bv_rv, sy_bv_rt, sy_br_rr, sy_br_rn, sy_hi_ri, sy_hi_rt, sy_bs_t, sy_bx_t, sy_bb_t, bz_bo, ite_bz0, ite_bz1, jfX11_trial, ck, e1, e2, cond_false]
      · simp (disch := omega) only [zL, zlt, zle, zeq, zadd, zmul, zin, zix, zsh1, Nat.add_zero, Nat.zero_add, Nat.mul_zero, if_true, if_false, if_pos, if_neg, sy_bi_ri, sy_bi_rt, sy_bv_rv, sy_bv_rt, sy_br_rr, sy_br_rn, sy_hi_ri, sy_hi_rt, sy_bs_t, sy_bx_t, sy_bb_t, bz_bo, ite_bz0, ite_bz1, jfX11_trial, ck, e1, e2, e3, cond_true]
    · intro N hN
      have r := rc_thr (c := 0) (rc_of I G ht hN)
      obtain ⟨N1, e1, r1, g1, _, f1⟩ := m_goesA hM (dr := true) (k := k) (rc_aside (q := sp_aside 426 (M 122) (thr N 0 124)) r) hk
      obtain ⟨e2, f2⟩ := m_lookT r.1 f1 r1.1 (sp_gs_gr G k).2.1
      replace e1 : jfX12_goes (Int32.ofNat k) (Int32.ofNat 1) (syc (thr N 0) 124 (sp_aside 426 (M 122) (thr N 0 124))) = _ := e1
      have e3 := m_coldOfAll r1.1 q.2.1 h7
      refine ⟨_, ?_, (f2.2 0 (by omega)).trans (thr_0 _ _), fr_thr.trans f2.fr⟩
      cases b
      · simp (disch := omega) only [zL, zlt, zle, zeq, zadd, zmul, zin, zix, zsh1, Nat.add_zero, Nat.zero_add, Nat.mul_zero, if_true, if_false, if_pos, if_neg, sy_bi_ri, sy_bi_rt, sy_bv_rv, sy_bv_rt, sy_br_rr, sy_br_rn, sy_hi_ri, sy_hi_rt, sy_bs_t, sy_bx_t, sy_bb_t, bz_bo, ite_bz0, ite_bz1, jfX12_trial, jfX12_trial_16, jfX12_trial_54, m_isIn, sa, cond_true, cond_false, thr_up, thr_0, m_putsAside, r.1, e1, g1, e2]
      · simp (disch := omega) only [zL, zlt, zle, zeq, zadd, zmul, zin, zix, zsh1, Nat.add_zero, Nat.zero_add, Nat.mul_zero, if_true, if_false, if_pos, if_neg, sy_bi_ri, sy_bi_rt, sy_bv_rv, sy_bv_rt, sy_br_rr, sy_br_rn, sy_hi_ri, sy_hi_rt, sy_bs_t, sy_bx_t, sy_bb_t, bz_bo, ite_bz0, ite_bz1, jfX12_trial, jfX12_trial_16, jfX12_trial_54, m_isIn, sa, cond_true, cond_false, thr_up, thr_0, m_putsAside, r.1, e1, e3, e2]
  · refine opT_x I (cl := 20) (c := 1) ?_ rfl (by decide) (by decide) ?_
    · simp (disch := omega) only [zL, zlt, zle, zeq, zadd, zmul, zin, zix, zsh1, Nat.add_zero, Nat.zero_add, Nat.mul_zero, if_true, if_false, if_pos, if_neg, sy_bi_ri, sy_bi_rt, sy_bv_rv, sy_bv_rt, sy_br_rr, sy_br_rn, sy_hi_ri, sy_hi_rt, sy_bs_t, sy_bx_t, sy_bb_t, bz_bo, ite_bz0, ite_bz1, jfX11_trial, ck]
      all_goals rfl
    · intro N hN
      have eN : N 122 3 = Int32.ofNat n := by rw [hN 122 (by omega) (by omega)]; exact hn
      exact ⟨(Int32.ofNat 0), thr N 1, by simp (disch := omega) only [zL, zlt, zle, zeq, zadd, zmul, zin, zix, zsh1, Nat.add_zero, Nat.zero_add, Nat.mul_zero, if_true, if_false, if_pos, if_neg, sy_bi_ri, sy_bi_rt, sy_bv_rv, sy_bv_rt, sy_br_rr, sy_br_rn, sy_hi_ri, sy_hi_rt, sy_bs_t, sy_bx_t, sy_bb_t, bz_bo, ite_bz0, ite_bz1, jfX12_trial, jfX12_trial_16, sa, m_isLodger, eN, m_isIn, m_isTick, cond_true, cond_false, thr_up, thr_0], thr_0 _ _, fr_thr⟩
end
