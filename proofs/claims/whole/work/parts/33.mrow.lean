/-! ===== the reference's writing methods, as functions of its row ===== -/
/-- the log's rows go one back -/
def sp_sh (m : Nat) (f : Nat → Int32) : Nat → Int32 := fun i => if 131 ≤ i ∧ i < 131 + m then f (i - 5) else f i
/-- a row of the log -/
def sp_log (f : Nat → Int32) (what p : Int32) : Nat → Int32 := rs (rs (rs (rs (rs (rs (sp_sh 295 f) 126 (f 5)) 127 (f 4)) 128 what) 129 p) 130 (f 6)) 12 (sp_min (Int32.ofNat 60) (f 12 + (Int32.ofNat 1)))
theorem m_logs_loop (w p : Int32) : ∀ (m : Nat) (k : Nat) (M : sy_M), m ≤ 295 → jfX12_logs_4 (k + m) w p (Int32.ofNat (4 + m)) M = jfX12_logs_4 k w p (Int32.ofNat 4) (syc M 122 (sp_sh m (M 122)))
  | 0, k, M, _ => by
    have : sp_sh 0 (M 122) = M 122 := by
      funext i
      unfold sp_sh
      rw [if_neg (by omega)]
    rw [this, syc_self]
    rfl
  | m + 1, k, M, hm => by
    have e1 : (126 + Int32.ofNat (4 + (m + 1)) - 5 : Int32) = Int32.ofNat (126 + m) := by
      have : (126 + Int32.ofNat (4 + (m + 1)) : Int32) = Int32.ofNat (126 + (4 + (m + 1))) := zadd 126 _
      rw [this]
      have := zsub (a := 126 + (4 + (m + 1))) (b := 5) (by omega)
      rw [show (5 : Int32) = Int32.ofNat 5 from rfl, this]
      congr 1
      omega
    have e2 : (126 + Int32.ofNat (4 + (m + 1)) : Int32) = Int32.ofNat (131 + m) := by
      have : (126 + Int32.ofNat (4 + (m + 1)) : Int32) = Int32.ofNat (126 + (4 + (m + 1))) := zadd 126 _
      rw [this]
      congr 1
      omega
    have e3 : (Int32.ofNat (4 + (m + 1)) + -1 : Int32) = Int32.ofNat (4 + m) := by
      have := zsub (a := 4 + (m + 1)) (b := 1) (by omega)
      rw [← Int32.sub_eq_add_neg, show (1 : Int32) = Int32.ofNat 1 from rfl, this]
      congr 1
    show jgX12_logs_4 (jfX12_logs_4 (k + m)) w p (Int32.ofNat (4 + (m + 1))) M = _
    unfold jgX12_logs_4
    rw [if_neg (by rw [show (5 : Int32) = Int32.ofNat 5 from rfl, zlt (by omega) (by omega)]; omega), e1, e2, e3, zin (by omega) (by decide), sy_bx_t, zin (by omega) (by decide), sy_bx_t, zix (by omega), zix (by omega), sy_upd_st]
    rw [m_logs_loop w p m k _ (by omega), syc_at, syc_st]
    have : sp_sh m (rs (M 122) (131 + m) (M 122 (126 + m))) = sp_sh (m + 1) (M 122) := by
      funext i
      unfold sp_sh rs
      by_cases h1 : 131 ≤ i ∧ i < 131 + m
      · rw [if_pos h1, if_neg (by omega), if_pos (by omega)]
      · rw [if_neg h1]
        by_cases h2 : i = 131 + m
        · rw [if_pos h2, if_pos (by omega), h2]
          congr 1
          omega
        · rw [if_neg h2, if_neg (by omega)]
    rw [this]
theorem m_logs (M : sy_M) (w p : Int32) : jfX12_logs w p M = sy_rv (syc M 122 (sp_log (M 122) w p)) := by
  unfold jfX12_logs
  have := m_logs_loop w p 295 5705 M (by omega)
  rw [show (5705 + 295 : Nat) = sy_F by rw [sy_F_eq]] at this
  refine Eq.trans this ?_
  show jgX12_logs_4 (jfX12_logs_4 5704) w p (Int32.ofNat 4) _ = _
  unfold jgX12_logs_4 jfX12_logs_94
  rw [if_pos (by decide)]
  simp only [sy_upd_st, syc_at, syc_st, m_lesser, sy_bi_ri]
  unfold sp_log sp_sh
  simp only [rs]
  rfl
theorem m_draw (M : sy_M) {n : Int32} (hn : n ≠ 0) : jfX12_draw n M = sy_ri ((((1103515245 * M 122 13 + 12345).toUInt32 >>> (Int32.toUInt32 16 &&& Int32.toUInt32 31)).toInt32 &&& 32767) - (((1103515245 * M 122 13 + 12345).toUInt32 >>> (Int32.toUInt32 16 &&& Int32.toUInt32 31)).toInt32 &&& 32767) / n * n) (syc M 122 (rs (M 122) 13 (1103515245 * M 122 13 + 12345))) := by
  unfold jfX12_draw
  simp only [sy_upd_st, syc_at, rs_at]
  rw [if_neg hn]
/-- all is put aside, and comes back -/
def sp_aside (n : Nat) (f g : Nat → Int32) : Nat → Int32 := fun i => if i < n then f i else g i
theorem sp_aside_0 (f g : Nat → Int32) : sp_aside 0 f g = g := by
  funext i
  unfold sp_aside
  rw [if_neg (by omega)]
theorem sp_aside_succ (i : Nat) (f g : Nat → Int32) : rs (sp_aside i f g) i (f i) = sp_aside (i + 1) f g := by
  funext j
  unfold rs sp_aside
  by_cases h1 : j = i
  · rw [if_pos h1, if_pos (by omega), h1]
  · rw [if_neg h1]
    by_cases h2 : j < i
    · rw [if_pos h2, if_pos (by omega)]
    · rw [if_neg h2, if_neg (by omega)]
theorem m_putsAside (M : sy_M) : jfX12_putsAside M = sy_rv (syc M 124 (sp_aside 426 (M 122) (M 124))) := by
  refine sy_forR (n := 426) (F := sy_F) (R := fun c => c = sy_rv (syc M 124 (sp_aside 426 (M 122) (M 124)))) (fun k i (N : sy_M) => jfX12_putsAside_2 k (Int32.ofNat i) N) (fun i N => N = syc M 124 (sp_aside i (M 122) (M 124))) ?_ ?_ M ?_ (by rw [sy_F_eq]; omega)
  · intro k i N hi hN
    refine Or.inl ⟨syc M 124 (sp_aside (i + 1) (M 122) (M 124)), ?_, rfl⟩
    show jgX12_putsAside_2 (jfX12_putsAside_2 k) (Int32.ofNat i) N = _
    subst hN
    simp (disch := omega) only [zL, zlt, zle, zeq, zadd, zmul, zin, zix, zsh1, Nat.add_zero, Nat.zero_add, Nat.mul_zero, if_true, if_false, if_pos, if_neg, sy_bi_ri, sy_bi_rt, sy_bv_rv, sy_bv_rt, sy_br_rr, sy_br_rn, sy_hi_ri, sy_hi_rt, sy_bs_t, sy_bx_t, sy_bb_t, bz_bo, ite_bz0, ite_bz1, jgX12_putsAside_2, sy_upd_st, syc_at, syc_st, syc_ne, sp_aside_succ]
  · intro k N hN
    show jgX12_putsAside_2 (jfX12_putsAside_2 k) (Int32.ofNat 426) N = _
    simp (disch := omega) only [zL, zlt, zle, zeq, zadd, zmul, zin, zix, zsh1, Nat.add_zero, Nat.zero_add, Nat.mul_zero, if_true, if_false, if_pos, if_neg, sy_bi_ri, sy_bi_rt, sy_bv_rv, sy_bv_rt, sy_br_rr, sy_br_rn, sy_hi_ri, sy_hi_rt, sy_bs_t, sy_bx_t, sy_bb_t, bz_bo, ite_bz0, ite_bz1, jgX12_putsAside_2, hN]
  · rw [sp_aside_0, syc_self]
theorem m_comesBack (M : sy_M) : jfX12_comesBack M = sy_rv (syc M 122 (sp_aside 426 (M 124) (M 122))) := by
  refine sy_forR (n := 426) (F := sy_F) (R := fun c => c = sy_rv (syc M 122 (sp_aside 426 (M 124) (M 122)))) (fun k i (N : sy_M) => jfX12_comesBack_2 k (Int32.ofNat i) N) (fun i N => N = syc M 122 (sp_aside i (M 124) (M 122))) ?_ ?_ M ?_ (by rw [sy_F_eq]; omega)
  · intro k i N hi hN
    refine Or.inl ⟨syc M 122 (sp_aside (i + 1) (M 124) (M 122)), ?_, rfl⟩
    show jgX12_comesBack_2 (jfX12_comesBack_2 k) (Int32.ofNat i) N = _
    subst hN
    simp (disch := omega) only [zL, zlt, zle, zeq, zadd, zmul, zin, zix, zsh1, Nat.add_zero, Nat.zero_add, Nat.mul_zero, if_true, if_false, if_pos, if_neg, sy_bi_ri, sy_bi_rt, sy_bv_rv, sy_bv_rt, sy_br_rr, sy_br_rn, sy_hi_ri, sy_hi_rt, sy_bs_t, sy_bx_t, sy_bb_t, bz_bo, ite_bz0, ite_bz1, jgX12_comesBack_2, sy_upd_st, syc_at, syc_st, syc_ne, sp_aside_succ]
  · intro k N hN
    show jgX12_comesBack_2 (jfX12_comesBack_2 k) (Int32.ofNat 426) N = _
    simp (disch := omega) only [zL, zlt, zle, zeq, zadd, zmul, zin, zix, zsh1, Nat.add_zero, Nat.zero_add, Nat.mul_zero, if_true, if_false, if_pos, if_neg, sy_bi_ri, sy_bi_rt, sy_bv_rv, sy_bv_rt, sy_br_rr, sy_br_rn, sy_hi_ri, sy_hi_rt, sy_bs_t, sy_bx_t, sy_bb_t, bz_bo, ite_bz0, ite_bz1, jgX12_comesBack_2, hN]
  · rw [sp_aside_0, syc_self]
/-- a coin is fed -/
def sp_coin (f : Nat → Int32) (p : Nat) : Nat → Int32 := rs (rs (rs (rs (rs f (14 + 9 * p + 5) (f (14 + 9 * p + 5) - (Int32.ofNat 1))) (14 + 9 * p + 8) (sp_min (Int32.ofNat 999) (f (14 + 9 * p + 8) + (Int32.ofNat 1)))) 10 (sp_min (Int32.ofNat 9999) (f 10 + (Int32.ofNat 1)))) 6 (sp_min (Int32.ofNat 9999) (f 6 + f 7))) 11 (Int32.ofNat p)
def sp_feed (f : Nat → Int32) (p : Nat) : Nat → Int32 := sp_log (sp_coin f p) (Int32.ofNat 1) (Int32.ofNat p)
theorem m_feeds {M : sy_M} {p : Nat} (hp : p < 7) : jfX12_feeds (Int32.ofNat p) M = sy_rv (syc (syc M 121 (rs (bif decide (M 121 21 = -(Int32.ofNat 1)) then rs (M 121) 21 (Int32.ofNat p) else M 121) 20 (M 121 20 + (Int32.ofNat 1)))) 122 (sp_feed (M 122) p)) := by
  unfold sp_feed sp_coin
  simp (disch := omega) only [zL, zlt, zle, zeq, zadd, zmul, zin, zix, zsh1, Nat.add_zero, Nat.zero_add, Nat.mul_zero, if_true, if_false, if_pos, if_neg, sy_bi_ri, sy_bi_rt, sy_bv_rv, sy_bv_rt, sy_br_rr, sy_br_rn, sy_hi_ri, sy_hi_rt, sy_bs_t, sy_bx_t, sy_bb_t, bz_bo, ite_bz0, ite_bz1, jfX12_feeds, jfX12_feeds_86, jfX12_feeds_107, m_of, m_lays, m_lesser, m_logs, sy_upd_st, syc_at, syc_st, syc_ne, rs_at, rs_ne, syc_comm M (a := 122) (b := 121) _ _ (by decide)]
  by_cases h : M 121 21 = -(Int32.ofNat 1)
  · rw [if_pos h, decide_eq_true h, cond_true]
  · rw [if_neg h, decide_eq_false h, cond_false]
