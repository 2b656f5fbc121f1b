/-! ===== the reference's ticks ===== -/
def sp_lit (f : Nat → Int32) (n : Nat) (a : Int32) : Nat → Int32 := sy_fo (fun p g => rs g (14 + 9 * p + 6) (Int32.ofNat 0)) n 0 (rs (rs f 6 (f 6 - a)) 8 (Int32.ofNat 0))
/-- an invariant of a fold, of so many rounds -/
theorem sy_fo_P {α : Type} {f : Nat → α → α} {P : α → Prop} {n : Nat} (hp : ∀ i a, i < n → P a → P (f i a)) : ∀ (m i : Nat) (a : α), i + m ≤ n → P a → P (sy_fo f m i a)
  | 0, _, _, _, p => p
  | m + 1, i, a, h, p => sy_fo_P hp m (i + 1) _ (by omega) (hp i a (by omega) p)
theorem m_isLit {M : sy_M} {n : Nat} {a : Int32} (hn : M 122 3 = Int32.ofNat n) (h7 : n ≤ 7) : jfX12_isLit a M = sy_rv (syc M 122 (sp_lit (M 122) n a)) := by
  unfold jfX12_isLit sp_lit
  obtain ⟨k, hk, h3⟩ := sy_for2 (n := n) (F := sy_F) (fun k i (g : Nat → Int32) => jfX12_isLit_21 k (Int32.ofNat i) (syc M 122 g)) (fun p g => rs g (14 + 9 * p + 6) (Int32.ofNat 0)) (fun _ g => g 3 = Int32.ofNat n) (by
    intro k i g hi h3
    show jgX12_isLit_21 (jfX12_isLit_21 k) (Int32.ofNat i) (syc M 122 g) = _
    simp (disch := omega) only [zL, zlt, zle, zeq, zadd, zmul, zin, zix, zsh1, Nat.add_zero, Nat.zero_add, Nat.mul_zero, if_true, if_false, if_pos, if_neg, sy_bi_ri, sy_bi_rt, sy_bv_rv, sy_bv_rt, sy_br_rr, sy_br_rn, sy_hi_ri, sy_hi_rt, sy_bs_t, sy_bx_t, sy_bb_t, bz_bo, ite_bz0, ite_bz1, jgX12_isLit_21, syc_at, h3, m_lays, syc_st]) (by
    intro i g hi h3
    rw [rs_ne _ _ (by omega)]
    exact h3) (rs (rs (M 122) 6 (M 122 6 - a)) 8 (Int32.ofNat 0)) (by rw [rs_ne _ _ (by omega), rs_ne _ _ (by omega)]; exact hn) (by rw [sy_F_eq]; omega)
  simp (disch := omega) only [zL, zlt, zle, zeq, zadd, zmul, zin, zix, zsh1, Nat.add_zero, Nat.zero_add, Nat.mul_zero, if_true, if_false, if_pos, if_neg, sy_bi_ri, sy_bi_rt, sy_bv_rv, sy_bv_rt, sy_br_rr, sy_br_rn, sy_hi_ri, sy_hi_rt, sy_bs_t, sy_bx_t, sy_bb_t, bz_bo, ite_bz0, ite_bz1, sy_upd_st, syc_at, syc_st]
  refine hk.trans ?_
  show jgX12_isLit_21 (jfX12_isLit_21 k) (Int32.ofNat n) _ = _
  simp (disch := omega) only [zL, zlt, zle, zeq, zadd, zmul, zin, zix, zsh1, Nat.add_zero, Nat.zero_add, Nat.mul_zero, if_true, if_false, if_pos, if_neg, sy_bi_ri, sy_bi_rt, sy_bv_rv, sy_bv_rt, sy_br_rr, sy_br_rn, sy_hi_ri, sy_hi_rt, sy_bs_t, sy_bx_t, sy_bb_t, bz_bo, ite_bz0, ite_bz1, jgX12_isLit_21, syc_at, h3]
/-- a lodger in the dark -/
def sp_dk2 (p : Nat) (f : Nat → Int32) (c : Int32) : Nat → Int32 :=
  if c = f (14 + 9 * p + 3) + (Int32.ofNat 1) then sp_log (if f (14 + 9 * p + 3) < c then rs (rs f (14 + 9 * p + 6) c) (14 + 9 * p + 7) (sp_min (Int32.ofNat 999) (f (14 + 9 * p + 7) + (Int32.ofNat 1))) else rs f (14 + 9 * p + 6) c) (Int32.ofNat 2) (Int32.ofNat p)
  else (if f (14 + 9 * p + 3) < c then rs (rs f (14 + 9 * p + 6) c) (14 + 9 * p + 7) (sp_min (Int32.ofNat 999) (f (14 + 9 * p + 7) + (Int32.ofNat 1))) else rs f (14 + 9 * p + 6) c)
def sp_dk (s : Int32) (p : Nat) (f : Nat → Int32) : Nat → Int32 :=
  bif sp_bit s p then sp_dk2 p f (sp_min (Int32.ofNat 99) (f (14 + 9 * p + 6) + (Int32.ofNat 1))) else rs f (14 + 9 * p + 6) (Int32.ofNat 0)
theorem m_dark_step {M : sy_M} {n i k : Nat} {s : Int32} (hb : rb (M 122)) (hn : M 122 3 = Int32.ofNat n) (h7 : n ≤ 7) (hi : i < n) : jfX12_isDark_40 (k + 1) s (Int32.ofNat i) M = jfX12_isDark_40 k s (Int32.ofNat (i + 1)) (syc M 122 (sp_dk s i (M 122))) := by
  show jgX12_isDark_40 (jfX12_isDark_40 k) s (Int32.ofNat i) M = _
  obtain ⟨b, hb1, hb2⟩ := rb_bears hb (p := i) (by omega)
  obtain ⟨c, hc1, hc2⟩ := rb_chill hb (p := i) (by omega)
  unfold sp_dk sp_dk2
  simp (disch := omega) only [zL, zlt, zle, zeq, zadd, zmul, zin, zix, zsh1, Nat.add_zero, Nat.zero_add, Nat.mul_zero, if_true, if_false, if_pos, if_neg, sy_bi_ri, sy_bi_rt, sy_bv_rv, sy_bv_rt, sy_br_rr, sy_br_rn, sy_hi_ri, sy_hi_rt, sy_bs_t, sy_bx_t, sy_bb_t, bz_bo, ite_bz0, ite_bz1, jgX12_isDark_40, jfX12_isDark_82, jfX12_isDark_152, jfX12_isDark_168, hn, m_of, m_isOf, m_lesser, m_lays, m_logs, syc_at, syc_st, rs_at, rs_ne, hb2, hc2, zmin]
  cases sp_bit s i
  · rfl
  · simp only [cond_true]
    by_cases h1 : min 99 (c + 1) = b + 1
    · simp (disch := omega) only [if_pos, if_neg]
    · rw [if_neg h1]
      by_cases h2 : b < min 99 (c + 1)
      · simp (disch := omega) only [if_pos, if_neg]
      · simp (disch := omega) only [if_pos, if_neg]
theorem sp_dk2_rb {p : Nat} {f : Nat → Int32} {c : Nat} (H : rb f) (hp : p < 7) (hc : c ≤ 99) : rb (sp_dk2 p f (Int32.ofNat c)) := by
  obtain ⟨k, hk, e⟩ := rb_cold H hp
  have h1 : rb (rs f (14 + 9 * p + 6) (Int32.ofNat c)) := rb_set H (by rw [tbl_u hp (by decide)]; exact hc)
  have h2 : rb (if f (14 + 9 * p + 3) < Int32.ofNat c then rs (rs f (14 + 9 * p + 6) (Int32.ofNat c)) (14 + 9 * p + 7) (sp_min (Int32.ofNat 999) (f (14 + 9 * p + 7) + (Int32.ofNat 1))) else rs f (14 + 9 * p + 6) (Int32.ofNat c)) := by
    split
    · rw [e, zadd, zmin (by omega) (by omega)]
      exact rb_set h1 (by rw [tbl_u hp (by decide)]; exact Nat.min_le_left _ _)
    · exact h1
  unfold sp_dk2
  split
  · exact rb_log h2 _ _
  · exact h2
theorem sp_dk_rb {s : Int32} {p : Nat} {f : Nat → Int32} (H : rb f) (hp : p < 7) : rb (sp_dk s p f) := by
  obtain ⟨c, hc, e⟩ := rb_chill H hp
  unfold sp_dk
  cases sp_bit s p
  · exact rb_set H (k := 0) (Nat.zero_le _)
  · rw [cond_true, e, zadd, zmin (by omega) (by omega)]
    exact sp_dk2_rb H hp (Nat.min_le_left _ _)
/-- what ticks leave as it was: how many, the price, the frost, the texts, the burners, hours, bears, waits, debts; the law's text -/
def hsame (f g : Nat → Int32) : Prop := tsame f g ∧ g 0 = f 0 ∧ g 3 = f 3 ∧ g 7 = f 7 ∧ g 9 = f 9 ∧ (∀ p w, p < 7 → w < 5 → g (14 + 9 * p + w) = f (14 + 9 * p + w)) ∧ (∀ i, i < 49 → g (77 + i) = f (77 + i))
theorem hsame.trans {f g h : Nat → Int32} (a : hsame f g) (b : hsame g h) : hsame f h :=
  ⟨a.1.trans b.1, b.2.1.trans a.2.1, b.2.2.1.trans a.2.2.1, b.2.2.2.1.trans a.2.2.2.1, b.2.2.2.2.1.trans a.2.2.2.2.1, fun p w hp hw => (b.2.2.2.2.2.1 p w hp hw).trans (a.2.2.2.2.2.1 p w hp hw), fun i hi => (b.2.2.2.2.2.2 i hi).trans (a.2.2.2.2.2.2 i hi)⟩
theorem hsame_rfl {f : Nat → Int32} : hsame f f := ⟨tsame_rfl, rfl, rfl, rfl, rfl, fun _ _ _ _ => rfl, fun _ _ => rfl⟩
theorem hsame_rs {f : Nat → Int32} {i : Nat} {v : Int32} (h : i = 4 ∨ i = 5 ∨ i = 6 ∨ i = 8 ∨ i = 10 ∨ i = 11 ∨ i = 12 ∨ i = 13) : hsame f (rs f i v) :=
  ⟨tsame_rs (by omega) (by omega) (by omega), rs_ne _ _ (by omega), rs_ne _ _ (by omega), rs_ne _ _ (by omega), rs_ne _ _ (by omega), fun p w hp hw => rs_ne _ _ (by omega), fun i hi => rs_ne _ _ (by omega)⟩
theorem hsame_rsu {f : Nat → Int32} {p w : Nat} {v : Int32} (hp : p < 7) (hw : 5 ≤ w) (hw2 : w < 9) : hsame f (rs f (14 + 9 * p + w) v) :=
  ⟨tsame_rs (by omega) (by omega) (by omega), rs_ne _ _ (by omega), rs_ne _ _ (by omega), rs_ne _ _ (by omega), rs_ne _ _ (by omega), fun p w hp hw => rs_ne _ _ (by omega), fun i hi => rs_ne _ _ (by omega)⟩
theorem hsame_log {f : Nat → Int32} {w p : Int32} : hsame f (sp_log f w p) :=
  ⟨tsame_log, sp_log_lo _ _ _ (by omega) (by omega), sp_log_lo _ _ _ (by omega) (by omega), sp_log_lo _ _ _ (by omega) (by omega), sp_log_lo _ _ _ (by omega) (by omega), fun p w hp hw => sp_log_lo _ _ _ (by omega) (by omega), fun i hi => sp_log_lo _ _ _ (by omega) (by omega)⟩
theorem sp_dk_hs {s : Int32} {p : Nat} {f : Nat → Int32} (hp : p < 7) : hsame f (sp_dk s p f) := by
  unfold sp_dk
  cases sp_bit s p
  · exact hsame_rsu hp (by decide) (by decide)
  · rw [cond_true]
    have h2 : ∀ c, hsame f (if f (14 + 9 * p + 3) < c then rs (rs f (14 + 9 * p + 6) c) (14 + 9 * p + 7) (sp_min (Int32.ofNat 999) (f (14 + 9 * p + 7) + (Int32.ofNat 1))) else rs f (14 + 9 * p + 6) c) := by
      intro c
      split
      · exact (hsame_rsu hp (by decide) (by decide)).trans (hsame_rsu hp (by decide) (by decide))
      · exact hsame_rsu hp (by decide) (by decide)
    unfold sp_dk2
    split
    · exact (h2 _).trans hsame_log
    · exact h2 _
def sp_chill (f : Nat → Int32) (n : Nat) (s : Int32) : Nat → Int32 := sy_fo (fun p g => sp_dk s p g) n 0 f
def sp_dark (f : Nat → Int32) : Nat → Int32 := if sp_min (Int32.ofNat 99) (f 8 + (Int32.ofNat 1)) = (Int32.ofNat 1) then sp_log (rs f 8 (sp_min (Int32.ofNat 99) (f 8 + (Int32.ofNat 1)))) (Int32.ofNat 0) (-(Int32.ofNat 1)) else rs f 8 (sp_min (Int32.ofNat 99) (f 8 + (Int32.ofNat 1)))
theorem sp_chill_rb {f : Nat → Int32} {n : Nat} {s : Int32} (H : rb f) (h7 : n ≤ 7) : rb (sp_chill f n s) := sy_fo_P (n := n) (P := rb) (fun i a hi h => sp_dk_rb h (by omega)) n 0 f (by omega) H
theorem sp_chill_hs {f : Nat → Int32} {n : Nat} {s : Int32} (h7 : n ≤ 7) : hsame f (sp_chill f n s) := sy_fo_P (n := n) (P := hsame f) (fun i a hi h => h.trans (sp_dk_hs (by omega))) n 0 f (by omega) hsame_rfl
theorem sp_dark_rb {f : Nat → Int32} (H : rb f) : rb (sp_dark f) := by
  obtain ⟨k, hk, e⟩ := rb_dark H
  have h1 : rb (rs f 8 (sp_min (Int32.ofNat 99) (f 8 + (Int32.ofNat 1)))) := by
    rw [e, zadd, zmin (by omega) (by omega)]
    exact rb_set H (Nat.min_le_left _ _)
  unfold sp_dark
  split
  · exact rb_log h1 _ _
  · exact h1
theorem sp_dark_hs {f : Nat → Int32} : hsame f (sp_dark f) := by
  unfold sp_dark
  split
  · exact (hsame_rs (by omega)).trans hsame_log
  · exact hsame_rs (by omega)
theorem m_isDark {M : sy_M} {n : Nat} {s : Int32} (hb : rb (M 122)) (hn : M 122 3 = Int32.ofNat n) (h7 : n ≤ 7) : jfX12_isDark s M = sy_rv (syc M 122 (sp_chill (sp_dark (M 122)) n s)) := by
  have key : ∀ N : sy_M, rb (N 122) → N 122 3 = Int32.ofNat n → jfX12_isDark_38 s N = sy_rv (syc N 122 (sp_chill (N 122) n s)) := by
    intro N hb hn
    unfold jfX12_isDark_38 sp_chill
    obtain ⟨k, hk, h3⟩ := sy_for2 (n := n) (F := sy_F) (fun k i (g : Nat → Int32) => jfX12_isDark_40 k s (Int32.ofNat i) (syc N 122 g)) (fun p g => sp_dk s p g) (fun _ g => rb g ∧ g 3 = Int32.ofNat n) (by
      intro k i g hi h3
      have := m_dark_step (M := syc N 122 g) (i := i) (k := k) (s := s) (n := n) (by rw [syc_at]; exact h3.1) (by rw [syc_at]; exact h3.2) h7 hi
      rw [syc_at, syc_st] at this
      exact this) (by
      intro i g hi h3
      exact ⟨sp_dk_rb h3.1 (by omega), (sp_dk_hs (by omega)).2.2.1.trans h3.2⟩) (N 122) ⟨hb, hn⟩ (by rw [sy_F_eq]; omega)
    rw [syc_self] at hk
    refine hk.trans ?_
    show jgX12_isDark_40 (jfX12_isDark_40 k) s (Int32.ofNat n) _ = _
    simp (disch := omega) only [zL, zlt, zle, zeq, zadd, zmul, zin, zix, zsh1, Nat.add_zero, Nat.zero_add, Nat.mul_zero, if_true, if_false, if_pos, if_neg, sy_bi_ri, sy_bi_rt, sy_bv_rv, sy_bv_rt, sy_br_rr, sy_br_rn, sy_hi_ri, sy_hi_rt, sy_bs_t, sy_bx_t, sy_bb_t, bz_bo, ite_bz0, ite_bz1, jgX12_isDark_40, syc_at, h3.2]
  have h1 := sp_dark_rb hb
  have h2 := sp_dark_hs (f := M 122)
  unfold sp_dark at h1 h2 ⊢
  simp (disch := omega) only [zL, zlt, zle, zeq, zadd, zmul, zin, zix, zsh1, Nat.add_zero, Nat.zero_add, Nat.mul_zero, if_true, if_false, if_pos, if_neg, sy_bi_ri, sy_bi_rt, sy_bv_rv, sy_bv_rt, sy_br_rr, sy_br_rn, sy_hi_ri, sy_hi_rt, sy_bs_t, sy_bx_t, sy_bb_t, bz_bo, ite_bz0, ite_bz1, jfX12_isDark, m_lesser, sy_upd_st, syc_at, rs_at, m_logs, syc_st]
  split
  · rename_i h
    rw [if_pos h] at h1 h2
    rw [key _ (by rw [syc_at]; exact h1) (by rw [syc_at]; exact h2.2.2.1.trans hn), syc_at, syc_st]
  · rename_i h
    rw [if_neg h] at h1 h2
    rw [key _ (by rw [syc_at]; exact h1) (by rw [syc_at]; exact h2.2.2.1.trans hn), syc_at, syc_st]
