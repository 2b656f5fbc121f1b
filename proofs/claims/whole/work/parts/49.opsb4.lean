/-! ===== dear, span, saint, warmer ===== -/
section
variable {A : (Nat → Int32) → Nat → Int32 × Bool} {tx : (Nat → Int32) → Prop} {L0 : Int32} {S : Nat → Int32} {e : Nat} {M : sy_M}
theorem sp_sum_le {f : Nat → Int32} (H : rb f) : ∀ n, n ≤ 7 → ∃ k, k ≤ 999 * n ∧ sp_sum f n 7 = Int32.ofNat k := by
  intro n
  unfold sp_sum
  induction n with
  | zero => exact fun _ => ⟨0, by omega, rfl⟩
  | succ n ih =>
    intro h
    obtain ⟨k, hk, e⟩ := ih (by omega)
    obtain ⟨b, hb, e2⟩ := rb_cold H (p := n) (by omega)
    exact ⟨k + b, by omega, by rw [sy_fo_last, e, Nat.zero_add, e2, zadd]⟩
theorem sp_fed_le {n : Nat} {nf dr : Bool} {f : Nat → Int32} (k : Nat) : ∃ c, c ≤ k ∧ (sp_gs A n nf dr f k).2.2.1 = Int32.ofNat c := by
  induction k with
  | zero => exact ⟨0, Nat.le_refl _, rfl⟩
  | succ k ih =>
    obtain ⟨c, hc, e⟩ := ih
    rw [sp_gs_succ]
    dsimp only
    rw [e]
    split
    · exact ⟨c, by omega, rfl⟩
    · exact ⟨c + 1, by omega, by rw [zadd]⟩
def sp_dv (A : (Nat → Int32) → Nat → Int32 × Bool) (n : Nat) (f : Nat → Int32) (b : Bool) (p : Nat) : Int32 := bif b then sp_sum (sp_pr A n f p).1 n 7 else (sp_pr A n f p).2.2.1
theorem sp_dv_le {n p : Nat} {f : Nat → Int32} {b : Bool} (G : gr f n) (h0 : 1 ≤ p) (hp : p ≤ 99) : ∃ k, k ≤ 6993 ∧ sp_dv A n f b p = Int32.ofNat k := by
  have h7 := G.2.2.1
  unfold sp_dv sp_pr
  cases b
  · obtain ⟨c, hc, e⟩ := sp_fed_le (A := A) (n := n) (nf := false) (dr := false) (f := rs f 7 (Int32.ofNat p)) 48
    exact ⟨c, by omega, e⟩
  · obtain ⟨c, hc, e⟩ := sp_sum_le (sp_gs_gr (A := A) (nf := false) (dr := false) (gr_price G h0 hp) 48).1.1 n h7
    exact ⟨c, by omega, e⟩
/-- which is the best, and what it brings -/
def sp_de (A : (Nat → Int32) → Nat → Int32 × Bool) (n : Nat) (f : Nat → Int32) (b : Bool) : Nat → Nat × Int32
  | 0 => (0, (Int32.ofNat 0))
  | i + 1 => if i = 0 ∨ (bif b then decide (sp_dv A n f b (i + 1) < (sp_de A n f b i).2) else decide ((sp_de A n f b i).2 < sp_dv A n f b (i + 1))) = true then (i + 1, sp_dv A n f b (i + 1)) else sp_de A n f b i
theorem sp_de_s (A : (Nat → Int32) → Nat → Int32 × Bool) (n : Nat) (f : Nat → Int32) (b : Bool) (i : Nat) : sp_de A n f b (i + 1) = if i = 0 ∨ (bif b then decide (sp_dv A n f b (i + 1) < (sp_de A n f b i).2) else decide ((sp_de A n f b i).2 < sp_dv A n f b (i + 1))) = true then (i + 1, sp_dv A n f b (i + 1)) else sp_de A n f b i := rfl
theorem sp_de_is {n : Nat} {f : Nat → Int32} {b : Bool} : ∀ i, 0 < i → (sp_de A n f b i).2 = sp_dv A n f b (sp_de A n f b i).1 ∧ 1 ≤ (sp_de A n f b i).1 ∧ (sp_de A n f b i).1 ≤ i
  | 0, h => by omega
  | i + 1, _ => by
    rw [sp_de_s]
    generalize hg : sp_dv A n f b (i + 1) = v
    by_cases h : i = 0 ∨ (bif b then decide (v < (sp_de A n f b i).2) else decide ((sp_de A n f b i).2 < v)) = true
    · rw [if_pos h]
      dsimp only
      exact ⟨hg.symm, by omega, Nat.le_refl _⟩
    · rw [if_neg h]
      have := sp_de_is (n := n) (f := f) (b := b) i (by omega)
      exact ⟨this.1, this.2.1, by omega⟩
theorem c_dear {n : Nat} {f : Nat → Int32} {b : Bool} (h : st A M n f) : ∃ M1, jfX11_dear_18 sy_F (bz b) (Int32.ofNat 1) (Int32.ofNat 0) (Int32.ofNat 1) M = sy_ri (Int32.ofNat (sp_de A n f b 99).1) M1 ∧ fq M M1 := by
  refine sy_forR (n := 99) (F := sy_F) (R := fun c => ∃ M2, c = sy_ri (Int32.ofNat (sp_de A n f b 99).1) M2 ∧ fq M M2) (fun k i (a : Int32 × Int32 × sy_M) => jfX11_dear_18 k (bz b) a.1 a.2.1 (Int32.ofNat (i + 1)) a.2.2) (fun i a => (0 < i → a.1 = Int32.ofNat (sp_de A n f b i).1 ∧ a.2.1 = bif b then -(sp_de A n f b i).2 else (sp_de A n f b i).2) ∧ st A a.2.2 n f ∧ fp 19 M a.2.2) ?_ ?_ ((Int32.ofNat 1), (Int32.ofNat 0), M) ⟨fun z => absurd z (Nat.lt_irrefl 0), h, fp_rfl⟩ (by rw [sy_F_eq]; omega)
  · intro k i ⟨x, y, N⟩ hi ⟨h1, h2, h3⟩
    simp only at h1 h2 h3
    obtain ⟨N1, e1, s1, w1, f1⟩ := c_earned (p := i + 1) h2 (by omega) (by omega)
    have q := (sp_gs_gr (A := A) (nf := false) (dr := false) (gr_price h.2.1 (p := i + 1) (by omega) (by omega)) 48).1
    have e2 := c_sum w1.1 (w := 7) (by decide) (show (sp_pr A n f (i + 1)).1 3 = _ from q.2.1) h.2.1.2.2.1
    obtain ⟨v, hv, ev⟩ := sp_dv_le (A := A) (b := b) h.2.1 (p := i + 1) (by omega) (by omega)
    refine Or.inl ⟨(Int32.ofNat (sp_de A n f b (i + 1)).1, bif b then -(sp_de A n f b (i + 1)).2 else (sp_de A n f b (i + 1)).2, N1), ?_, ⟨fun _ => ⟨rfl, rfl⟩, s1, h3.trans f1⟩⟩
    show jgX11_dear_18 (jfX11_dear_18 k) (bz b) x y (Int32.ofNat (i + 1)) N = jfX11_dear_18 k (bz b) (Int32.ofNat (sp_de A n f b (i + 1)).1) (bif b then -(sp_de A n f b (i + 1)).2 else (sp_de A n f b (i + 1)).2) (Int32.ofNat (i + 1 + 1)) N1
    rw [sp_de_s]
    by_cases h0 : i = 0
    · subst h0
      rw [if_pos (Or.inl rfl)]
      unfold sp_dv
      cases b
      · simp (disch := omega) only [zL, zlt, zle, zeq, zadd, zmul, zin, zix, zsh1, Nat.add_zero, Nat.zero_add, Nat.mul_zero, if_true, if_false, if_pos, if_neg, sy_bi_ri, sy_bi_rt, sy_bv_rv, sy_bv_rt, sy_br_rr, sy_br_rn, sy_hi_ri, sy_hi_rt, sy_bs_t, sy_bx_t, sy_bb_t, bz_bo, ite_bz0, ite_bz1, jgX11_dear_18, jfX11_dear_52, jfX11_dear_66, jfX11_dear_72, e1, cond_false]
      · simp (disch := omega) only [zL, zlt, zle, zeq, zadd, zmul, zin, zix, zsh1, Nat.add_zero, Nat.zero_add, Nat.mul_zero, if_true, if_false, if_pos, if_neg, sy_bi_ri, sy_bi_rt, sy_bv_rv, sy_bv_rt, sy_br_rr, sy_br_rn, sy_hi_ri, sy_hi_rt, sy_bs_t, sy_bx_t, sy_bb_t, bz_bo, ite_bz0, ite_bz1, jgX11_dear_18, jfX11_dear_52, jfX11_dear_66, jfX11_dear_72, e1, e2, cond_true]
    · obtain ⟨hx, hy⟩ := h1 (by omega)
      obtain ⟨d1, d2, d3⟩ := sp_de_is (A := A) (n := n) (f := f) (b := b) i (by omega)
      obtain ⟨u, hu, eu⟩ := sp_dv_le (A := A) (b := b) h.2.1 (p := (sp_de A n f b i).1) d2 (by omega)
      rw [hx, hy]
      cases b
      · have ev' : (sp_pr A n f (i + 1)).2.2.1 = sp_dv A n f false (i + 1) := rfl
        simp only [cond_false, h0, false_or, decide_eq_true_eq]
        simp (disch := omega) only [zL, zlt, zle, zeq, zadd, zmul, zin, zix, zsh1, Nat.add_zero, Nat.zero_add, Nat.mul_zero, if_true, if_false, if_pos, if_neg, sy_bi_ri, sy_bi_rt, sy_bv_rv, sy_bv_rt, sy_br_rr, sy_br_rn, sy_hi_ri, sy_hi_rt, sy_bs_t, sy_bx_t, sy_bb_t, bz_bo, ite_bz0, ite_bz1, jgX11_dear_18, jfX11_dear_52, jfX11_dear_66, jfX11_dear_72, e1, ev']
        split <;> rfl
      · have ev' : sp_sum (sp_pr A n f (i + 1)).1 n 7 = sp_dv A n f true (i + 1) := rfl
        simp only [cond_true, h0, false_or, decide_eq_true_eq]
        have cm : (-(sp_de A n f true i).2 < -(sp_dv A n f true (i + 1))) ↔ (sp_dv A n f true (i + 1) < (sp_de A n f true i).2) := by
          rw [d1, eu, ev]
          simp only [zi_nat, zi_neg]
          rw [zi_lt (by omega) (by omega) (by omega) (by omega), zi_lt (by omega) (by omega) (by omega) (by omega)]
          omega
        simp (disch := omega) only [zL, zlt, zle, zeq, zadd, zmul, zin, zix, zsh1, Nat.add_zero, Nat.zero_add, Nat.mul_zero, if_true, if_false, if_pos, if_neg, sy_bi_ri, sy_bi_rt, sy_bv_rv, sy_bv_rt, sy_br_rr, sy_br_rn, sy_hi_ri, sy_hi_rt, sy_bs_t, sy_bx_t, sy_bb_t, bz_bo, ite_bz0, ite_bz1, jgX11_dear_18, jfX11_dear_52, jfX11_dear_66, jfX11_dear_72, e1, e2, ev', cm]
        split <;> rfl
  · intro k ⟨x, y, N⟩ ⟨h1, h2, h3⟩
    simp only at h1 h2 h3
    refine ⟨N, ?_, h2.fq h3⟩
    show jgX11_dear_18 (jfX11_dear_18 k) (bz b) x y (Int32.ofNat (99 + 1)) N = _
    rw [(h1 (by omega)).1]
    simp (disch := omega) only [zL, zlt, zle, zeq, zadd, zmul, zin, zix, zsh1, Nat.add_zero, Nat.zero_add, Nat.mul_zero, if_true, if_false, if_pos, if_neg, sy_bi_ri, sy_bi_rt, sy_bv_rv, sy_bv_rt, sy_br_rr, sy_br_rn, sy_hi_ri, sy_hi_rt, sy_bs_t, sy_bx_t, sy_bb_t, bz_bo, ite_bz0, ite_bz1, jgX11_dear_18]
theorem m_dear (hM : mAK A tx) {n : Nat} {f : Nat → Int32} {b : Bool} (h : rc tx false M n f) : ∃ M1, jfX12_dear_12 sy_F (bz b) (Int32.ofNat 0) (Int32.ofNat 0) (Int32.ofNat 1) M = sy_ri (Int32.ofNat (sp_de A n f b 99).1) M1 ∧ ft M M1 := by
  refine sy_forR (n := 99) (F := sy_F) (R := fun c => ∃ M2, c = sy_ri (Int32.ofNat (sp_de A n f b 99).1) M2 ∧ ft M M2) (fun k i (a : sy_M) => jfX12_dear_12 k (bz b) (Int32.ofNat (sp_de A n f b i).1) (sp_de A n f b i).2 (Int32.ofNat (i + 1)) a) (fun i a => ft M a) ?_ ?_ M ft_rfl (by rw [sy_F_eq]; omega)
  · intro k i N hi h2
    obtain ⟨N1, e1, f1⟩ := m_byPrice hM (b := b) (rc_ft h h2) (p := i + 1) (by omega) (by omega)
    replace e1 : jfX12_byPrice (Int32.ofNat (i + 1)) (bz b) N = sy_ri (sp_dv A n f b (i + 1)) N1 := e1
    refine Or.inl ⟨N1, ?_, h2.trans f1⟩
    show jgX12_dear_12 (jfX12_dear_12 k) (bz b) (Int32.ofNat (sp_de A n f b i).1) (sp_de A n f b i).2 (Int32.ofNat (i + 1)) N = _
    rw [sp_de_s]
    by_cases h0 : i = 0
    · subst h0
      rw [if_pos (Or.inl rfl)]
      have z0 : (sp_de A n f b 0).1 = 0 := rfl
      simp (disch := omega) only [zL, zlt, zle, zeq, zadd, zmul, zin, zix, zsh1, Nat.add_zero, Nat.zero_add, Nat.mul_zero, if_true, if_false, if_pos, if_neg, sy_bi_ri, sy_bi_rt, sy_bv_rv, sy_bv_rt, sy_br_rr, sy_br_rn, sy_hi_ri, sy_hi_rt, sy_bs_t, sy_bx_t, sy_bb_t, bz_bo, ite_bz0, ite_bz1, jgX12_dear_12, jfX12_dear_54, jfX12_dear_60, e1, z0]
    · obtain ⟨d1, d2, d3⟩ := sp_de_is (A := A) (n := n) (f := f) (b := b) i (by omega)
      simp only [h0, false_or]
      cases b
      · simp only [cond_false, decide_eq_true_eq]
        simp (disch := omega) only [zL, zlt, zle, zeq, zadd, zmul, zin, zix, zsh1, Nat.add_zero, Nat.zero_add, Nat.mul_zero, if_true, if_false, if_pos, if_neg, sy_bi_ri, sy_bi_rt, sy_bv_rv, sy_bv_rt, sy_br_rr, sy_br_rn, sy_hi_ri, sy_hi_rt, sy_bs_t, sy_bx_t, sy_bb_t, bz_bo, ite_bz0, ite_bz1, jgX12_dear_12, jfX12_dear_54, jfX12_dear_60, e1]
        simp only [cond_false]
        split <;> rfl
      · simp only [cond_true, decide_eq_true_eq]
        simp (disch := omega) only [zL, zlt, zle, zeq, zadd, zmul, zin, zix, zsh1, Nat.add_zero, Nat.zero_add, Nat.mul_zero, if_true, if_false, if_pos, if_neg, sy_bi_ri, sy_bi_rt, sy_bv_rv, sy_bv_rt, sy_br_rr, sy_br_rn, sy_hi_ri, sy_hi_rt, sy_bs_t, sy_bx_t, sy_bb_t, bz_bo, ite_bz0, ite_bz1, jgX12_dear_12, jfX12_dear_54, jfX12_dear_60, e1]
        simp only [cond_true]
        split <;> rfl
  · intro k N h2
    refine ⟨N, ?_, h2⟩
    show jgX12_dear_12 (jfX12_dear_12 k) (bz b) (Int32.ofNat (sp_de A n f b 99).1) (sp_de A n f b 99).2 (Int32.ofNat (99 + 1)) N = _
    simp (disch := omega) only [zL, zlt, zle, zeq, zadd, zmul, zin, zix, zsh1, Nat.add_zero, Nat.zero_add, Nat.mul_zero, if_true, if_false, if_pos, if_neg, sy_bi_ri, sy_bi_rt, sy_bv_rv, sy_bv_rt, sy_br_rr, sy_br_rn, sy_hi_ri, sy_hi_rt, sy_bs_t, sy_bx_t, sy_bb_t, bz_bo, ite_bz0, ite_bz1, jgX12_dear_12]
theorem o_dear (hM : mAK A tx) (I : Inv A tx L0 S e M) (b : Bool) : opN A tx L0 S e (jfX11_dear (bz b) M) (jfX12_dear (bz b)) := by
  obtain ⟨n, G, H, ht, hA, hl⟩ := id I.1
  refine opN_q I (v := Int32.ofNat (sp_de A n (M 122) b 99).1) ?_ ?_
  · obtain ⟨M1, e1, s1, f1⟩ := q_st H G hA I.2.2.2.2.1
    obtain ⟨M2, e2, f2⟩ := c_dear (b := b) s1
    exact ⟨M2, by simp (disch := omega) only [zL, zlt, zle, zeq, zadd, zmul, zin, zix, zsh1, Nat.add_zero, Nat.zero_add, Nat.mul_zero, if_true, if_false, if_pos, if_neg, sy_bi_ri, sy_bi_rt, sy_bv_rv, sy_bv_rt, sy_br_rr, sy_br_rn, sy_hi_ri, sy_hi_rt, sy_bs_t, sy_bx_t, sy_bb_t, bz_bo, ite_bz0, ite_bz1, jfX11_dear, e1, e2], f1.trans f2⟩
  · intro N hN
    obtain ⟨N1, e1, f1⟩ := m_dear hM (b := b) (rc_thr (c := 0) (rc_of I G ht hN))
    exact ⟨N1, by simp (disch := omega) only [zL, zlt, zle, zeq, zadd, zmul, zin, zix, zsh1, Nat.add_zero, Nat.zero_add, Nat.mul_zero, if_true, if_false, if_pos, if_neg, sy_bi_ri, sy_bi_rt, sy_bv_rv, sy_bv_rt, sy_br_rr, sy_br_rn, sy_hi_ri, sy_hi_rt, sy_bs_t, sy_bx_t, sy_bb_t, bz_bo, ite_bz0, ite_bz1, jfX12_dear, thr_up, e1], fr_thr.trans f1.fr⟩
end
