/-! ===== checks; cold and grief ===== -/
theorem sp_in_n {k n : Nat} (hk : k < 2147483648) (hn : n < 1000) : sp_in (Int32.ofNat k) (Int32.ofNat 0) (Int32.ofNat n - (Int32.ofNat 1)) = decide (k < n) := by
  unfold sp_in
  rw [decide_eq_false (znn k hk)]
  rcases Nat.eq_zero_or_pos n with h | h
  · subst h
    have : (Int32.ofNat 0 - (Int32.ofNat 1)) < Int32.ofNat k := by
      rw [Int32.lt_iff_toInt_lt, Int32.toInt_ofNat_of_lt hk]
      have : (Int32.ofNat 0 - (Int32.ofNat 1)).toInt = -1 := by decide
      omega
    rw [decide_eq_true this, decide_eq_false (by omega)]
    rfl
  · rw [zsub_1 h]
    by_cases h1 : k < n
    · rw [decide_eq_true h1, decide_eq_false (by rw [zlt (by omega) hk]; omega)]
      rfl
    · rw [decide_eq_false h1, decide_eq_true (by rw [zlt (by omega) hk]; omega)]
      rfl
theorem sp_in_z {k lo hi : Nat} (hk : k < 2147483648) (hl : lo < 2147483648) (hh : hi < 2147483648) : sp_in (Int32.ofNat k) (Int32.ofNat lo) (Int32.ofNat hi) = decide (lo ≤ k ∧ k ≤ hi) := by
  unfold sp_in
  by_cases h1 : k < lo
  · rw [decide_eq_true ((zlt hk hl).mpr h1), decide_eq_false (p := lo ≤ k ∧ k ≤ hi) (by omega)]; rfl
  · rw [decide_eq_false (fun z => h1 ((zlt hk hl).mp z))]
    by_cases h2 : hi < k
    · rw [decide_eq_true ((zlt hh hk).mpr h2), decide_eq_false (by omega)]; rfl
    · rw [decide_eq_false (fun z => h2 ((zlt hh hk).mp z)), decide_eq_true (by omega)]; rfl
theorem sp_in_neg {a lo hi : Int32} (h : a < lo) : sp_in a lo hi = false := by
  unfold sp_in
  rw [decide_eq_true h]
  rfl
theorem xok {M : sy_M} {e k : Nat} (he : e < 90000) (h : k ≤ e) (hk : M 133 0 = Int32.ofNat k) : xe_in (M 133 0) 100000 = true := by rw [hk]; exact zin (by omega) (by decide)
theorem zex_nat (a : Int32) (h : ¬ a < (Int32.ofNat 0)) : ∃ k, k < 2147483648 ∧ a = Int32.ofNat k := ⟨a.toNatClampNeg, a.toNatClampNeg_lt, zex (Int32.not_lt.mp h)⟩
theorem ck_lodger {M : sy_M} {n : Nat} (h7 : n ≤ 7) (h9 : M 9 3 = Int32.ofNat n) (hx : xe_in (M 133 0) 100000 = true) (a : Int32) : (∃ p, p < n ∧ a = Int32.ofNat p ∧ jfX11_checkLodger a M = sy_rv M ∧ sp_in a (Int32.ofNat 0) (Int32.ofNat n - (Int32.ofNat 1)) = true) ∨ (sp_in a (Int32.ofNat 0) (Int32.ofNat n - (Int32.ofNat 1)) = false ∧ jfX11_checkLodger a M = sy_rt 22 (sx M)) := by
  by_cases h : a < (Int32.ofNat 0)
  · refine Or.inr ⟨sp_in_neg h, ?_⟩
    unfold jfX11_checkLodger
    rw [if_pos (show a < 0 from h), hx, sy_bx_t]
    rfl
  · obtain ⟨k, hk, e⟩ := zex_nat a h
    subst e
    rw [sp_in_n hk (by omega)]
    by_cases h1 : k < n
    · refine Or.inl ⟨k, h1, rfl, ?_, decide_eq_true h1⟩
      simp (disch := omega) only [zL, zlt, zle, zeq, zadd, zmul, zin, zix, zsh1, Nat.add_zero, Nat.zero_add, Nat.mul_zero, if_true, if_false, if_pos, if_neg, sy_bi_ri, sy_bi_rt, sy_bv_rv, sy_bv_rt, sy_br_rr, sy_br_rn, sy_hi_ri, sy_hi_rt, sy_bs_t, sy_bx_t, sy_bb_t, bz_bo, ite_bz0, ite_bz1, jfX11_checkLodger, h9]
    · refine Or.inr ⟨decide_eq_false h1, ?_⟩
      simp (disch := omega) only [zL, zlt, zle, zeq, zadd, zmul, zin, zix, zsh1, Nat.add_zero, Nat.zero_add, Nat.mul_zero, if_true, if_false, if_pos, if_neg, sy_bi_ri, sy_bi_rt, sy_bv_rv, sy_bv_rt, sy_br_rr, sy_br_rn, sy_hi_ri, sy_hi_rt, sy_bs_t, sy_bx_t, sy_bb_t, bz_bo, ite_bz0, ite_bz1, jfX11_checkLodger, h9, hx]
      rfl
theorem ck_range {M : sy_M} {lo hi : Nat} (hl : lo < 2147483648) (hh : hi < 2147483648) (hx : xe_in (M 133 0) 100000 = true) (a : Int32) : (∃ k, lo ≤ k ∧ k ≤ hi ∧ a = Int32.ofNat k ∧ jfX11_checkRange a (Int32.ofNat lo) (Int32.ofNat hi) M = sy_rv M ∧ sp_in a (Int32.ofNat lo) (Int32.ofNat hi) = true) ∨ (sp_in a (Int32.ofNat lo) (Int32.ofNat hi) = false ∧ jfX11_checkRange a (Int32.ofNat lo) (Int32.ofNat hi) M = sy_rt 20 (sx M)) := by
  by_cases h : a < Int32.ofNat lo
  · refine Or.inr ⟨sp_in_neg h, ?_⟩
    unfold jfX11_checkRange
    rw [if_pos h, hx, sy_bx_t]
    rfl
  · have h0 : ¬ a < (Int32.ofNat 0) := fun z => h (Int32.lt_of_lt_of_le z ((zle (by decide) hl).mpr (Nat.zero_le _)))
    obtain ⟨k, hk, e⟩ := zex_nat a h0
    subst e
    rw [zlt hk hl] at h
    rw [sp_in_z hk hl hh]
    by_cases h1 : k ≤ hi
    · refine Or.inl ⟨k, by omega, h1, rfl, ?_, decide_eq_true (by omega)⟩
      simp (disch := omega) only [zL, zlt, zle, zeq, zadd, zmul, zin, zix, zsh1, Nat.add_zero, Nat.zero_add, Nat.mul_zero, if_true, if_false, if_pos, if_neg, sy_bi_ri, sy_bi_rt, sy_bv_rv, sy_bv_rt, sy_br_rr, sy_br_rn, sy_hi_ri, sy_hi_rt, sy_bs_t, sy_bx_t, sy_bb_t, bz_bo, ite_bz0, ite_bz1, jfX11_checkRange]
    · refine Or.inr ⟨decide_eq_false (by omega), ?_⟩
      simp (disch := omega) only [zL, zlt, zle, zeq, zadd, zmul, zin, zix, zsh1, Nat.add_zero, Nat.zero_add, Nat.mul_zero, if_true, if_false, if_pos, if_neg, sy_bi_ri, sy_bi_rt, sy_bv_rv, sy_bv_rt, sy_br_rr, sy_br_rn, sy_hi_ri, sy_hi_rt, sy_bs_t, sy_bx_t, sy_bb_t, bz_bo, ite_bz0, ite_bz1, jfX11_checkRange, hx]
      rfl
theorem ck_tick {M : sy_M} (hx : xe_in (M 133 0) 100000 = true) (a : Int32) : (∃ k, k < 48 ∧ a = Int32.ofNat k ∧ jfX11_checkTick a M = sy_rv M ∧ sp_in a (Int32.ofNat 0) (Int32.ofNat 47) = true) ∨ (sp_in a (Int32.ofNat 0) (Int32.ofNat 47) = false ∧ jfX11_checkTick a M = sy_rt 22 (sx M)) := by
  by_cases h : a < (Int32.ofNat 0)
  · refine Or.inr ⟨sp_in_neg h, ?_⟩
    unfold jfX11_checkTick
    rw [if_pos (show a < 0 from h), hx, sy_bx_t]
    rfl
  · obtain ⟨k, hk, e⟩ := zex_nat a h
    subst e
    rw [sp_in_z hk (by decide) (by decide)]
    by_cases h1 : k < 48
    · refine Or.inl ⟨k, h1, rfl, ?_, decide_eq_true (by omega)⟩
      simp (disch := omega) only [zL, zlt, zle, zeq, zadd, zmul, zin, zix, zsh1, Nat.add_zero, Nat.zero_add, Nat.mul_zero, if_true, if_false, if_pos, if_neg, sy_bi_ri, sy_bi_rt, sy_bv_rv, sy_bv_rt, sy_br_rr, sy_br_rn, sy_hi_ri, sy_hi_rt, sy_bs_t, sy_bx_t, sy_bb_t, bz_bo, ite_bz0, ite_bz1, jfX11_checkTick]
    · refine Or.inr ⟨decide_eq_false (by omega), ?_⟩
      simp (disch := omega) only [zL, zlt, zle, zeq, zadd, zmul, zin, zix, zsh1, Nat.add_zero, Nat.zero_add, Nat.mul_zero, if_true, if_false, if_pos, if_neg, sy_bi_ri, sy_bi_rt, sy_bv_rv, sy_bv_rt, sy_br_rr, sy_br_rn, sy_hi_ri, sy_hi_rt, sy_bs_t, sy_bx_t, sy_bb_t, bz_bo, ite_bz0, ite_bz1, jfX11_checkTick, hx]
      rfl
/-- what a part of a query of the reference leaves as it was -/
def ft (M M1 : sy_M) : Prop := (∀ a, ¬ rx a → M1 a = M a) ∧ (∀ j, j < 9 ∨ j = 12 ∨ j = 19 → M1 121 j = M 121 j)
theorem ft.trans {M M1 M2 : sy_M} (a : ft M M1) (b : ft M1 M2) : ft M M2 := ⟨fun c hc => (b.1 c hc).trans (a.1 c hc), fun j hj => (b.2 j hj).trans (a.2 j hj)⟩
theorem ft_rfl {M : sy_M} : ft M M := ⟨fun _ _ => rfl, fun _ _ => rfl⟩
theorem ft.fr {M M1 : sy_M} (a : ft M M1) : fr M M1 := ⟨a.1, fun j hj => a.2 j (by omega)⟩
theorem ft_syc {M : sy_M} {a : Nat} {g : Nat → Int32} (h : rx a) (h1 : a ≠ 121) : ft M (syc M a g) := ⟨fun c hc => syc_ne _ _ (fun z => hc (z ▸ h)), fun j hj => by rw [syc_ne _ _ (fun z => h1 z.symm)]⟩
theorem rc_ft {tx : (Nat → Int32) → Prop} {n : Nat} {nf : Bool} {g : Nat → Int32} {N N1 : sy_M} (h : rc tx nf N n g) (f : ft N N1) : rc tx nf N1 n g := ⟨(f.1 122 (by unfold rx; omega)).trans h.1, h.2.1, h.2.2.1, (f.2 19 (by omega)).trans h.2.2.2⟩
theorem m_lookT {N N1 : sy_M} {f g : Nat → Int32} (h1 : N 122 = f) (h3 : fm (syc N 124 (sp_aside 426 f (N 124))) N1) (hr : N1 122 = g) (ht : tsame f g) : jfX12_comesBack N1 = sy_rv (syc N1 122 f) ∧ ft N (syc N1 122 f) := by
  refine ⟨m_back (N := N1) (N0 := N) (f := f) (by rw [h3.1 124 (by decide) (by decide) (by decide), syc_at]) (fun i hi => by rw [hr]; exact ht.2.2 i hi), ⟨fun a ha => ?_, fun j hj => ?_⟩⟩
  · unfold rx at ha
    by_cases e : a = 122
    · subst e
      rw [syc_at, h1]
    · rw [syc_ne _ _ e, h3.1 a (by omega) e (by omega), syc_ne _ _ (by omega)]
  · rw [syc_ne _ _ (by decide), h3.2 j (by omega), syc_ne _ _ (by decide)]
/-! who is colder -/
def sp_cd (f g : Nat → Int32) : Nat → Nat → Int32
  | 0, _ => -(Int32.ofNat 1)
  | m + 1, p => if f (14 + 9 * p + 7) < g (14 + 9 * p + 7) then Int32.ofNat p else sp_cd f g m (p + 1)
theorem sp_cd_s (f g : Nat → Int32) (m p : Nat) : sp_cd f g (m + 1) p = if f (14 + 9 * p + 7) < g (14 + 9 * p + 7) then Int32.ofNat p else sp_cd f g m (p + 1) := rfl
theorem c_firstColder {M : sy_M} {n : Nat} {f g : Nat → Int32} (H : hv M 9 f) (H2 : hv M 19 g) (hn : f 3 = Int32.ofNat n) (h7 : n ≤ 7) : jfX11_firstColder M = sy_ri (sp_cd f g n 0) M := by
  unfold jfX11_firstColder
  refine sy_ind (n := n) (F := sy_F) (fun k i (_ : Unit) => jfX11_firstColder_2 k (Int32.ofNat i) M) (fun _ _ => True) (fun m i _ c => c = sy_ri (sp_cd f g m i) M) ?_ ?_ () trivial (by rw [sy_F_eq]; omega)
  · intro k _ _
    show jgX11_firstColder_2 (jfX11_firstColder_2 k) (Int32.ofNat n) M = _
    simp (disch := omega) only [zL, zlt, zle, zeq, zadd, zmul, zin, zix, zsh1, Nat.add_zero, Nat.zero_add, Nat.mul_zero, if_true, if_false, if_pos, if_neg, sy_bi_ri, sy_bi_rt, sy_bv_rv, sy_bv_rt, sy_br_rr, sy_br_rn, sy_hi_ri, sy_hi_rt, sy_bs_t, sy_bx_t, sy_bb_t, bz_bo, ite_bz0, ite_bz1, jgX11_firstColder_2, hv_3 H, hn]
    rfl
  · intro m k i _ hi _
    show (∃ _ : Unit, jgX11_firstColder_2 (jfX11_firstColder_2 (k + 1)) (Int32.ofNat i) M = _ ∧ _) ∨ jgX11_firstColder_2 (jfX11_firstColder_2 (k + 1)) (Int32.ofNat i) M = _
    simp (disch := omega) only [zL, zlt, zle, zeq, zadd, zmul, zin, zix, zsh1, Nat.add_zero, Nat.zero_add, Nat.mul_zero, if_true, if_false, if_pos, if_neg, sy_bi_ri, sy_bi_rt, sy_bv_rv, sy_bv_rt, sy_br_rr, sy_br_rn, sy_hi_ri, sy_hi_rt, sy_bs_t, sy_bx_t, sy_bb_t, bz_bo, ite_bz0, ite_bz1, jgX11_firstColder_2, hv_3 H, hn, c_get H, c_get H2, sp_cd_s]
    by_cases h : f (14 + 9 * i + 7) < g (14 + 9 * i + 7)
    · right
      rw [if_pos h, if_pos h]
    · left
      refine ⟨(), by rw [if_neg h], trivial, fun c hc => ?_⟩
      rw [hc, if_neg h]
theorem m_colder {M : sy_M} {n : Nat} {f g : Nat → Int32} (hg : M 122 = g) (hn : g 3 = Int32.ofNat n) (h7 : n ≤ 7) (hc : ∀ p, p < n → M 128 p = f (14 + 9 * p + 7)) : jfX12_colder M = sy_ri (sp_cd f g n 0) M := by
  unfold jfX12_colder
  refine sy_ind (n := n) (F := sy_F) (fun k i (_ : Unit) => jfX12_colder_2 k (Int32.ofNat i) M) (fun _ _ => True) (fun m i _ c => c = sy_ri (sp_cd f g m i) M) ?_ ?_ () trivial (by rw [sy_F_eq]; omega)
  · intro k _ _
    show jgX12_colder_2 (jfX12_colder_2 k) (Int32.ofNat n) M = _
    simp (disch := omega) only [zL, zlt, zle, zeq, zadd, zmul, zin, zix, zsh1, Nat.add_zero, Nat.zero_add, Nat.mul_zero, if_true, if_false, if_pos, if_neg, sy_bi_ri, sy_bi_rt, sy_bv_rv, sy_bv_rt, sy_br_rr, sy_br_rn, sy_hi_ri, sy_hi_rt, sy_bs_t, sy_bx_t, sy_bb_t, bz_bo, ite_bz0, ite_bz1, jgX12_colder_2, hg, hn]
    rfl
  · intro m k i _ hi _
    show (∃ _ : Unit, jgX12_colder_2 (jfX12_colder_2 (k + 1)) (Int32.ofNat i) M = _ ∧ _) ∨ jgX12_colder_2 (jfX12_colder_2 (k + 1)) (Int32.ofNat i) M = _
    simp (disch := omega) only [zL, zlt, zle, zeq, zadd, zmul, zin, zix, zsh1, Nat.add_zero, Nat.zero_add, Nat.mul_zero, if_true, if_false, if_pos, if_neg, sy_bi_ri, sy_bi_rt, sy_bv_rv, sy_bv_rt, sy_br_rr, sy_br_rn, sy_hi_ri, sy_hi_rt, sy_bs_t, sy_bx_t, sy_bb_t, bz_bo, ite_bz0, ite_bz1, jgX12_colder_2, hg, hn, m_of, hc, sp_cd_s]
    by_cases h : f (14 + 9 * i + 7) < g (14 + 9 * i + 7)
    · right
      rw [if_pos h, if_pos h]
    · left
      refine ⟨(), by rw [if_neg h], trivial, fun c hc => ?_⟩
      rw [hc, if_neg h]
theorem m_keepsColds {M : sy_M} {n : Nat} {f : Nat → Int32} (hf : M 122 = f) (hn : f 3 = Int32.ofNat n) (h7 : n ≤ 7) : ∃ M1, jfX12_keepsColds M = sy_rv M1 ∧ (∀ p, p < n → M1 128 p = f (14 + 9 * p + 7)) ∧ (∀ a, a ≠ 128 → M1 a = M a) := by
  unfold jfX12_keepsColds
  refine sy_forR (n := n) (F := sy_F) (R := fun c => ∃ M1, c = sy_rv M1 ∧ (∀ p, p < n → M1 128 p = f (14 + 9 * p + 7)) ∧ (∀ a, a ≠ 128 → M1 a = M a)) (fun k i (N : sy_M) => jfX12_keepsColds_2 k (Int32.ofNat i) N) (fun i N => (∀ p, p < i → N 128 p = f (14 + 9 * p + 7)) ∧ (∀ a, a ≠ 128 → N a = M a)) ?_ ?_ M ⟨fun p hp => absurd hp (Nat.not_lt_zero p), fun _ _ => rfl⟩ (by rw [sy_F_eq]; omega)
  · intro k i N hi ⟨h1, h2⟩
    have e : N 122 = f := (h2 122 (by decide)).trans hf
    refine Or.inl ⟨syc N 128 (rs (N 128) i (f (14 + 9 * i + 7))), ?_, ?_, ?_⟩
    · show jgX12_keepsColds_2 (jfX12_keepsColds_2 k) (Int32.ofNat i) N = _
      simp (disch := omega) only [zL, zlt, zle, zeq, zadd, zmul, zin, zix, zsh1, Nat.add_zero, Nat.zero_add, Nat.mul_zero, if_true, if_false, if_pos, if_neg, sy_bi_ri, sy_bi_rt, sy_bv_rv, sy_bv_rt, sy_br_rr, sy_br_rn, sy_hi_ri, sy_hi_rt, sy_bs_t, sy_bx_t, sy_bb_t, bz_bo, ite_bz0, ite_bz1, jgX12_keepsColds_2, e, hn, m_of, sy_upd_st]
    · intro p hp
      rw [syc_at]
      by_cases h : p = i
      · subst h; exact rs_at _ _ _
      · rw [rs_ne _ _ h]; exact h1 p (by omega)
    · intro a ha
      rw [syc_ne _ _ ha]; exact h2 a ha
  · intro k N ⟨h1, h2⟩
    have e : N 122 = f := (h2 122 (by decide)).trans hf
    refine ⟨N, ?_, h1, h2⟩
    show jgX12_keepsColds_2 (jfX12_keepsColds_2 k) (Int32.ofNat n) N = _
    simp (disch := omega) only [zL, zlt, zle, zeq, zadd, zmul, zin, zix, zsh1, Nat.add_zero, Nat.zero_add, Nat.mul_zero, if_true, if_false, if_pos, if_neg, sy_bi_ri, sy_bi_rt, sy_bv_rv, sy_bv_rt, sy_br_rr, sy_br_rn, sy_hi_ri, sy_hi_rt, sy_bs_t, sy_bx_t, sy_bb_t, bz_bo, ite_bz0, ite_bz1, jgX12_keepsColds_2, e, hn]
/-! grief -/
def sp_gv (f g : Nat → Int32) (p : Nat) : Int32 := (g (14 + 9 * p + 7) - f (14 + 9 * p + 7)) + (Int32.ofNat 3) * (g (14 + 9 * p + 8) - f (14 + 9 * p + 8))
theorem gv_ring (a b c d : Int32) : (-a - (Int32.ofNat 3) * b) + (c + (Int32.ofNat 3) * d) = (c - a) + (Int32.ofNat 3) * (d - b) := by
  rw [show ((Int32.ofNat 3) : Int32) = 3 from rfl]
  grind
theorem c_griefAhead {M : sy_M} {p : Nat} {f g : Nat → Int32} (H : hv M 9 f) (H2 : hv M 19 g) (hp : p < 7) : jfX11_griefAhead (Int32.ofNat p) M = sy_ri (sp_gv f g p) M := by
  unfold sp_gv
  simp (disch := omega) only [zL, zlt, zle, zeq, zadd, zmul, zin, zix, zsh1, Nat.add_zero, Nat.zero_add, Nat.mul_zero, if_true, if_false, if_pos, if_neg, sy_bi_ri, sy_bi_rt, sy_bv_rv, sy_bv_rt, sy_br_rr, sy_br_rn, sy_hi_ri, sy_hi_rt, sy_bs_t, sy_bx_t, sy_bb_t, bz_bo, ite_bz0, ite_bz1, jfX11_griefAhead, c_get H, c_get H2]
theorem m_grieves {A : (Nat → Int32) → Nat → Int32 × Bool} {tx : (Nat → Int32) → Prop} (hA : mAK A tx) {M : sy_M} {n : Nat} {f : Nat → Int32} (h : rc tx false M n f) : ∃ M1, jfX12_grieves M = sy_rv M1 ∧ ft M M1 ∧ (∀ i, i < n → M1 129 i = sp_gv f (sp_gs A n false false f 48).1 i) ∧ M1 128 = M 128 := by
  have hn := h.2.1.2.1
  have h7 := h.2.1.2.2.1
  unfold jfX12_grieves
  refine sy_forR (n := n) (F := sy_F) (R := fun c => ∃ M1, c = sy_rv M1 ∧ ft M M1 ∧ (∀ i, i < n → M1 129 i = sp_gv f (sp_gs A n false false f 48).1 i) ∧ M1 128 = M 128) (fun k i (N : sy_M) => jfX12_grieves_2 k (Int32.ofNat i) N) (fun i N => (∀ p, p < i → N 129 p = -f (14 + 9 * p + 7) - (Int32.ofNat 3) * f (14 + 9 * p + 8)) ∧ (∀ a, a ≠ 129 → N a = M a)) ?_ ?_ M ⟨fun p hp => absurd hp (Nat.not_lt_zero p), fun _ _ => rfl⟩ (by rw [sy_F_eq]; omega)
  · intro k i N hi ⟨h1, h2⟩
    have e : N 122 = f := (h2 122 (by decide)).trans h.1
    refine Or.inl ⟨syc N 129 (rs (N 129) i (-f (14 + 9 * i + 7) - (Int32.ofNat 3) * f (14 + 9 * i + 8))), ?_, ?_, ?_⟩
    · show jgX12_grieves_2 (jfX12_grieves_2 k) (Int32.ofNat i) N = _
      simp (disch := omega) only [zL, zlt, zle, zeq, zadd, zmul, zin, zix, zsh1, Nat.add_zero, Nat.zero_add, Nat.mul_zero, if_true, if_false, if_pos, if_neg, sy_bi_ri, sy_bi_rt, sy_bv_rv, sy_bv_rt, sy_br_rr, sy_br_rn, sy_hi_ri, sy_hi_rt, sy_bs_t, sy_bx_t, sy_bb_t, bz_bo, ite_bz0, ite_bz1, jgX12_grieves_2, e, hn, m_of, sy_upd_st]
    · intro p hp
      rw [syc_at]
      by_cases hq : p = i
      · subst hq; exact rs_at _ _ _
      · rw [rs_ne _ _ hq]; exact h1 p (by omega)
    · intro a ha
      rw [syc_ne _ _ ha]; exact h2 a ha
  · intro k N ⟨h1, h2⟩
    have fN : ft M N := ⟨fun a ha => h2 a (by unfold rx at ha; omega), fun j hj => by rw [h2 121 (by decide)]⟩
    have rN := rc_ft h fN
    obtain ⟨N1, e1, r1, _, _, f1⟩ := m_goesA hA (dr := false) (k := 48) (rc_aside (q := sp_aside 426 f (N 124)) rN) (by decide)
    have q := sp_gs_gr (A := A) (nf := false) (dr := false) h.2.1 48
    show ∃ M1, jgX12_grieves_2 (jfX12_grieves_2 k) (Int32.ofNat n) N = sy_rv M1 ∧ _
    replace e1 : jfX12_goes (Int32.ofNat 48) (Int32.ofNat 0) (syc N 124 (sp_aside 426 f (N 124))) = _ := e1
    simp (disch := omega) only [zL, zlt, zle, zeq, zadd, zmul, zin, zix, zsh1, Nat.add_zero, Nat.zero_add, Nat.mul_zero, if_true, if_false, if_pos, if_neg, sy_bi_ri, sy_bi_rt, sy_bv_rv, sy_bv_rt, sy_br_rr, sy_br_rn, sy_hi_ri, sy_hi_rt, sy_bs_t, sy_bx_t, sy_bb_t, bz_bo, ite_bz0, ite_bz1, jgX12_grieves_2, rN.1, hn, m_putsAside, e1]
    refine sy_forR (n := n) (F := sy_F) (R := fun c => ∃ M1, c = sy_rv M1 ∧ ft M M1 ∧ (∀ i, i < n → M1 129 i = sp_gv f (sp_gs A n false false f 48).1 i) ∧ M1 128 = M 128) (fun k i (K : sy_M) => jfX12_grieves_56 k (Int32.ofNat i) K) (fun i K => (∀ p, p < i → K 129 p = sp_gv f (sp_gs A n false false f 48).1 p) ∧ (∀ p, i ≤ p → p < n → K 129 p = -f (14 + 9 * p + 7) - (Int32.ofNat 3) * f (14 + 9 * p + 8)) ∧ (∀ a, a ≠ 129 → K a = N1 a)) ?_ ?_ N1 ⟨fun p hp => absurd hp (Nat.not_lt_zero p), fun p _ hp => ?_, fun _ _ => rfl⟩ (by rw [sy_F_eq]; omega)
    · intro k i K hi ⟨g1, g2, g3⟩
      have e : K 122 = (sp_gs A n false false f 48).1 := (g3 122 (by decide)).trans r1.1
      have en : (sp_gs A n false false f 48).1 3 = Int32.ofNat n := q.1.2.1
      refine Or.inl ⟨syc K 129 (rs (K 129) i (sp_gv f (sp_gs A n false false f 48).1 i)), ?_, ?_, ?_, ?_⟩
      · show jgX12_grieves_56 (jfX12_grieves_56 k) (Int32.ofNat i) K = _
        simp (disch := omega) only [zL, zlt, zle, zeq, zadd, zmul, zin, zix, zsh1, Nat.add_zero, Nat.zero_add, Nat.mul_zero, if_true, if_false, if_pos, if_neg, sy_bi_ri, sy_bi_rt, sy_bv_rv, sy_bv_rt, sy_br_rr, sy_br_rn, sy_hi_ri, sy_hi_rt, sy_bs_t, sy_bx_t, sy_bb_t, bz_bo, ite_bz0, ite_bz1, jgX12_grieves_56, e, en, m_of, sy_upd_st, g2, gv_ring]
        rfl
      · intro p hp
        rw [syc_at]
        by_cases hq : p = i
        · subst hq; exact rs_at _ _ _
        · rw [rs_ne _ _ hq]; exact g1 p (by omega)
      · intro p hp hp2
        rw [syc_at, rs_ne _ _ (by omega)]
        exact g2 p (by omega) hp2
      · intro a ha
        rw [syc_ne _ _ ha]; exact g3 a ha
    · intro k K ⟨g1, g2, g3⟩
      have e : K 122 = (sp_gs A n false false f 48).1 := (g3 122 (by decide)).trans r1.1
      have en : (sp_gs A n false false f 48).1 3 = Int32.ofNat n := q.1.2.1
      have eb := m_back (N := K) (N0 := N) (f := f) (by rw [g3 124 (by decide), f1.1 124 (by decide) (by decide) (by decide), syc_at]) (fun i hi => by rw [e]; exact q.2.1.2.2 i hi)
      refine ⟨syc K 122 f, ?_, fN.trans ⟨fun a ha => ?_, fun j hj => ?_⟩, ?_, ?_⟩
      · show jgX12_grieves_56 (jfX12_grieves_56 k) (Int32.ofNat n) K = _
        simp (disch := omega) only [zL, zlt, zle, zeq, zadd, zmul, zin, zix, zsh1, Nat.add_zero, Nat.zero_add, Nat.mul_zero, if_true, if_false, if_pos, if_neg, sy_bi_ri, sy_bi_rt, sy_bv_rv, sy_bv_rt, sy_br_rr, sy_br_rn, sy_hi_ri, sy_hi_rt, sy_bs_t, sy_bx_t, sy_bb_t, bz_bo, ite_bz0, ite_bz1, jgX12_grieves_56, e, en, eb]
      · unfold rx at ha
        by_cases h2 : a = 122
        · subst h2
          rw [syc_at, rN.1]
        · rw [syc_ne _ _ h2, g3 a (by omega), f1.1 a (by omega) h2 (by omega), syc_ne _ _ (by omega)]
      · rw [syc_ne _ _ (by decide), g3 121 (by decide), f1.2 j (by omega), syc_ne _ _ (by decide)]
      · intro i hi
        rw [syc_ne _ _ (by decide)]; exact g1 i hi
      · rw [syc_ne _ _ (by decide), g3 128 (by decide), f1.1 128 (by decide) (by decide) (by decide), syc_ne _ _ (by decide), h2 128 (by decide)]
    · rw [f1.1 129 (by decide) (by decide) (by decide), syc_ne _ _ (by decide)]
      exact h1 p hp
/-- a good row with another patience -/
theorem gr_waits {n p w : Nat} {f : Nat → Int32} (G : gr f n) (hp : p < 7) (hw : w ≤ 20) : gr (rs f (14 + 9 * p + 4) (Int32.ofNat w)) n := by
  obtain ⟨h1, h2, h7, h4, h5, h6⟩ := G
  refine ⟨rb_set h1 (by rw [tbl_u hp (by decide)]; exact hw), (rs_ne _ _ (by omega)).trans h2, h7, ?_, ?_, ?_⟩
  · intro h q hq
    rw [rs_ne _ _ (by omega)] at h
    rw [rs_ne _ _ (by omega)]
    exact h4 h q hq
  · intro q hq hq7
    obtain ⟨e1, e2, e3, e4⟩ := h5 q hq hq7
    refine ⟨?_, ?_, ?_, fun o ho => ⟨?_, ?_⟩⟩
    · rw [rs_ne _ _ (by omega)]; exact e1
    · rw [rs_ne _ _ (by omega)]; exact e2
    · rw [rs_ne _ _ (by omega)]; exact e3
    · rw [rs_ne _ _ (by omega)]; exact (e4 o ho).1
    · rw [rs_ne _ _ (by omega)]; exact (e4 o ho).2
  · refine ⟨?_, fun q hq => ?_⟩
    · rw [rs_ne _ _ (by omega)]; exact h6.1
    · rw [rs_ne _ _ (by omega)]; exact h6.2 q hq
/-- the row behind a night, by a patience; grief -/
def sp_gw (A : (Nat → Int32) → Nat → Int32 × Bool) (n : Nat) (f : Nat → Int32) (p w : Nat) : Nat → Int32 := (sp_gs A n false false (rs f (14 + 9 * p + 4) (Int32.ofNat w)) 48).1
def sp_gf (A : (Nat → Int32) → Nat → Int32 × Bool) (n : Nat) (f : Nat → Int32) (p w : Nat) : Int32 := sp_gv f (sp_gw A n f p w) p
theorem sp_gv_w {f g : Nat → Int32} {p w i : Nat} : sp_gv (rs f (14 + 9 * p + 4) (Int32.ofNat w)) g i = sp_gv f g i := by
  unfold sp_gv
  rw [rs_ne _ _ (by omega), rs_ne _ _ (by omega)]
theorem m_griefOf {A : (Nat → Int32) → Nat → Int32 × Bool} {tx : (Nat → Int32) → Prop} (hA : mAK A tx) {M : sy_M} {n p w : Nat} {f : Nat → Int32} (h : rc tx false M n f) (hp : p < n) (hw : w ≤ 20) : ∃ M1, jfX12_griefOf (Int32.ofNat p) (Int32.ofNat w) M = sy_ri (sp_gf A n f p w) M1 ∧ ft M M1 ∧ (∀ i, i < n → M1 129 i = sp_gv f (sp_gw A n f p w) i) ∧ M1 128 = M 128 := by
  have h7 := h.2.1.2.2.1
  have r2 : rc tx false (syc M 122 (rs f (14 + 9 * p + 4) (Int32.ofNat w))) n (rs f (14 + 9 * p + 4) (Int32.ofNat w)) := ⟨syc_at _ _ _, gr_waits h.2.1 (by omega) hw, hA.1 _ _ h.2.2.1 (tsame_rs (by omega) (by omega) (by omega)), by rw [syc_ne _ _ (by decide)]; exact h.2.2.2⟩
  obtain ⟨N1, e1, f1, g1, c1⟩ := m_grieves hA r2
  have e122 : N1 122 = rs f (14 + 9 * p + 4) (Int32.ofNat w) := (rc_ft r2 f1).1
  have er : rs (rs f (14 + 9 * p + 4) (Int32.ofNat w)) (14 + 9 * p + 4) (f (14 + 9 * p + 4)) = f := by rw [rs_rs, rs_self]
  have g2 : ∀ i, i < n → N1 129 i = sp_gv f (sp_gw A n f p w) i := by
    intro i hi
    rw [g1 i hi, sp_gv_w]
    rfl
  refine ⟨syc N1 122 f, ?_, ⟨fun a ha => ?_, fun j hj => ?_⟩, fun i hi => ?_, ?_⟩
  · have e2 : M 122 = f := h.1
    simp (disch := omega) only [zL, zlt, zle, zeq, zadd, zmul, zin, zix, zsh1, Nat.add_zero, Nat.zero_add, Nat.mul_zero, if_true, if_false, if_pos, if_neg, sy_bi_ri, sy_bi_rt, sy_bv_rv, sy_bv_rt, sy_br_rr, sy_br_rn, sy_hi_ri, sy_hi_rt, sy_bs_t, sy_bx_t, sy_bb_t, bz_bo, ite_bz0, ite_bz1, jfX12_griefOf, m_of, e2, m_lays, e1, e122, er, syc_ne, g2]
    rfl
  · by_cases h2 : a = 122
    · subst h2; rw [syc_at, h.1]
    · rw [syc_ne _ _ h2, f1.1 a ha, syc_ne _ _ h2]
  · rw [syc_ne _ _ (by decide), f1.2 j hj, syc_ne _ _ (by decide)]
  · rw [syc_ne _ _ (by decide)]; exact g2 i hi
  · rw [syc_ne _ _ (by decide), c1, syc_ne _ _ (by decide)]
/-- the class has learnt, and may go ahead from now -/
def st (A : (Nat → Int32) → Nat → Int32 × Bool) (M : sy_M) (n : Nat) (f : Nat → Int32) : Prop := hw M 9 f ∧ gr f n ∧ cAK A 29 M f ∧ nt M n f ∧ dk M 19
theorem st_fp {A : (Nat → Int32) → Nat → Int32 × Bool} {M M1 : sy_M} {n : Nat} {f g : Nat → Int32} (h : st A M n f) (k : hw M1 19 g) (p : fp 19 M M1) : st A M1 n f :=
  ⟨hw_congr h.1 (fun a c1 c2 => p a (by omega) (by omega)), h.2.1, cAK_cp h.2.2.1 (lcp_of (fun c c1 c2 => p c (by omega) (by omega))) tsame_rfl, nt_congr h.2.2.2.1 (p _ (by omega) (by omega)) (p _ (by omega) (by omega)), k.dk⟩
theorem q_st {A : (Nat → Int32) → Nat → Int32 × Bool} {M : sy_M} {n : Nat} {f : Nat → Int32} (H : hw M 9 f) (G : gr f n) (hA : cAK A 29 M f) (D : dk M 19) : ∃ M1, jfX8_learn 9 M = sy_rv M1 ∧ st A M1 n f ∧ fq M M1 := by
  obtain ⟨M1, e1, n1, w1, f1⟩ := q_learn H G
  exact ⟨M1, e1, ⟨w1, G, cAK_cp hA (lcp_of (fun c c1 c2 => f1.1 c (by unfold qs; omega))) tsame_rfl, n1, f1.2 D⟩, f1⟩
/-- ahead, with another patience -/
theorem c_griefBy {A : (Nat → Int32) → Nat → Int32 × Bool} {M : sy_M} {n p w : Nat} {f : Nat → Int32} (h : st A M n f) (hp : p < n) (hw0 : w ≤ 20) : ∃ M1, jfX11_griefBy (Int32.ofNat p) (Int32.ofNat w) M = sy_ri (sp_gf A n f p w) M1 ∧ st A M1 n f ∧ hw M1 19 (sp_gw A n f p w) ∧ fp 19 M M1 := by
  obtain ⟨h1, h2, h3, h4, h5⟩ := h
  have h7 := h2.2.2.1
  obtain ⟨M1, e1, a1, f1⟩ := q_over h1 h2 h3 h4 h5
  obtain ⟨M2, e2, w2, f2⟩ := c_setw a1.1 (p := p) (w := 4) (Int32.ofNat w) (by omega) (by decide)
  have a2 : ah A M2 n (rs f (14 + 9 * p + 4) (Int32.ofNat w)) := by
    refine ⟨w2, gr_waits h2 (by omega) hw0, cAK_cp a1.2.2.1 (lcp_of (fun c c1 c2 => f2 c (by omega))) (tsame_rs (by omega) (by omega) (by omega)), ?_⟩
    intro t ht
    rw [f2 50 (by omega), f2 51 (by omega)]
    have := a1.2.2.2 t ht
    have e1 : sp_home (rs f (14 + 9 * p + 4) (Int32.ofNat w)) n (Int32.ofNat t) = sp_home f n (Int32.ofNat t) := by
      unfold sp_home sp_at
      exact sy_fo_congr n 0 _ (fun j b q1 q2 => by rw [rs_ne _ _ (by omega), rs_ne _ _ (by omega)])
    have e2 : ∀ s, sp_burn (rs f (14 + 9 * p + 4) (Int32.ofNat w)) n s = sp_burn f n s := by
      intro s
      unfold sp_burn
      exact sy_fo_congr n 0 _ (fun j b q1 q2 => by rw [rs_ne _ _ (by omega)])
    rw [e1, e2]
    exact this
  obtain ⟨M3, e3, a3, f3⟩ := c_runA (dr := false) (k := 48) a2 (by decide)
  have F := (f1.trans f2.fp).trans f3
  have s3 : st A M3 n f := st_fp ⟨h1, h2, h3, h4, h5⟩ a3.1 F
  refine ⟨M3, ?_, s3, a3.1, F⟩
  replace e3 : jfX11_run (Int32.ofNat 48) (Int32.ofNat 0) M2 = _ := e3
  simp (disch := omega) only [zL, zlt, zle, zeq, zadd, zmul, zin, zix, zsh1, Nat.add_zero, Nat.zero_add, Nat.mul_zero, if_true, if_false, if_pos, if_neg, sy_bi_ri, sy_bi_rt, sy_bv_rv, sy_bv_rt, sy_br_rr, sy_br_rn, sy_hi_ri, sy_hi_rt, sy_bs_t, sy_bx_t, sy_bb_t, bz_bo, ite_bz0, ite_bz1, jfX11_griefBy, e1, e2, e3, c_griefAhead s3.1.1 a3.1.1]
  rfl
theorem st.fq {A : (Nat → Int32) → Nat → Int32 × Bool} {M M1 : sy_M} {n : Nat} {f : Nat → Int32} (h : st A M1 n f) (p : fp 19 M M1) : fq M M1 := ⟨fun a ha => p a (by unfold qs at ha; omega) (by unfold qs at ha; omega), fun _ => h.2.2.2.2⟩
