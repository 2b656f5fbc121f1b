/-! ===== the class: a house taken over; the night learnt ===== -/
theorem sy_cpy_c (M : sy_M) (b a n : Nat) : sy_cpy M b 0 a 0 n = syc M a (sp_aside n (M b) (M a)) := by
  funext c i
  unfold sy_cpy syc sp_aside
  by_cases h : c = a
  · subst h
    rw [if_pos rfl, if_pos rfl]
    by_cases h2 : i < n
    · rw [if_pos h2, if_pos (by omega), Nat.sub_zero, Nat.zero_add]
    · rw [if_neg h2, if_neg (by omega)]
  · rw [if_neg h, if_neg h]
theorem sy_cok_t {b a n : Nat} (ha : sy_ia a = true) (hb : sy_ia b = true) (hn : n < 2147483648) (h1 : n ≤ sy_li b) (h2 : n ≤ sy_li a) : sy_cok b a 0 0 (Int32.ofNat n) = true := by
  unfold sy_cok
  rw [ha, hb, decide_eq_true (show (0 : Int32) ≤ Int32.ofNat n from (zle (a := 0) (by decide) hn).mpr (Nat.zero_le _)), zix hn]
  have e0 : (0 : Int32).toNatClampNeg = 0 := rfl
  rw [e0, Nat.zero_add, decide_eq_true h1, decide_eq_true h2]
  rfl
/-- a house that may be written over -/
def dk (M : sy_M) (h : Nat) : Prop := sy_is 2 h = true ∧ ((h = 19 ∧ M (h + 3) 0 = (Int32.ofNat 0) ∧ M (h + 3) 3 = (Int32.ofNat 0)) ∨ (h ≠ 19 ∧ M (h + 3) 0 = (Int32.ofNat 60)))
theorem hw.dk {M : sy_M} {h : Nat} {f : Nat → Int32} (H : hw M h f) : dk M h := by
  refine ⟨H.1.1, ?_⟩
  rcases H.2 with a | ⟨a, b, _⟩
  · exact Or.inl a
  · exact Or.inr ⟨a, b⟩
theorem dk_congr {M M1 : sy_M} {h : Nat} (H : dk M h) (e : M1 (h + 3) = M (h + 3)) : dk M1 h := by
  unfold dk
  rw [e]
  exact H
theorem h_apart {h g : Nat} (hh : sy_is 2 h = true) (hg : sy_is 2 g = true) (hne : h ≠ g) : h + 4 < g ∨ g + 4 < h := by
  have := h_lt hh
  have := h_lt hg
  omega
theorem c_logOver {M : sy_M} {h g : Nat} {f : Nat → Int32} (H : lv M g f) (gi : sy_is 2 g = true) (D : dk M h) (hne : h ≠ g) (hg : g ≠ 19) : ∃ M1, jfX7_takeOver (h + 3) (g + 3) M = sy_rv M1 ∧ lv M1 h f ∧ (∀ a, a ≠ h + 3 → a ≠ h + 4 → M1 a = M a) := by
  have hl := h_lt D.1
  have gl := h_lt gi
  have hap := h_apart D.1 gi hne
  rcases H with ⟨e, _⟩ | ⟨e, k0, r, nx, hr, hx, f12, k2, k3, kc⟩
  · exact absurd e hg
  rcases D with ⟨di, ⟨e1, d0, d3⟩ | ⟨e1, d0⟩⟩
  · refine ⟨M, ?_, Or.inl ⟨e1, d0, d3⟩, fun _ _ _ => rfl⟩
    simp (disch := omega) only [jfX7_takeOver, h_6 di, sy_bs_t, d0, zL, if_true]
  · have h4 := h_300 di
    have g4 := h_300 gi
    rw [if_neg e1] at h4
    rw [if_neg e] at g4
    have ck : sy_cok (g + 4) (h + 4) 0 0 (Int32.ofNat 300) = true := sy_cok_t (h_a4 di) (h_a4 gi) (by decide) (by omega) (by omega)
    refine ⟨syc (syc M (h + 4) (sp_aside 300 (M (g + 4)) (M (h + 4)))) (h + 3) (rs (rs (M (h + 3)) 2 (M (g + 3) 2)) 3 (M (g + 3) 3)), ?_, Or.inr ⟨e1, ?_, r, nx, hr, hx, f12, ?_, ?_, ?_⟩, ?_⟩
    · have l1 : ∀ N : sy_M, sy_len N (h + 4) = 300 := fun N => by rw [sy_len_li (by omega), h4]
      have ck' : sy_cok (g + 4) (h + 4) (Int32.ofNat 0) (Int32.ofNat 0) (Int32.ofNat 300) = true := ck
      simp (disch := omega) only [jfX7_takeOver, h_6 di, h_6 gi, sy_bs_t, d0, k0, zL, zeq, if_neg, if_pos, h_31, h_a4 di, Bool.true_or, sy_bb_t, l1, zto, ck', sy_cpy_c, zix, sy_upd_st, syc_ne, syc_at, syc_st, rs_ne, if_true]
    · rw [syc_at, rs_ne _ _ (by decide), rs_ne _ _ (by decide)]; exact d0
    · rw [syc_at, rs_ne _ _ (by decide), rs_at]; exact k2
    · rw [syc_at, rs_at]; exact k3
    · intro a w ha hw
      rw [syc_ne _ _ (by omega), syc_at]
      unfold sp_aside
      rw [if_pos (by omega)]
      exact kc a w ha hw
    · intro a a1 a2
      rw [syc_ne _ _ a1, syc_ne _ _ a2]
theorem c_takeOver {M : sy_M} {h g : Nat} {f : Nat → Int32} (H : hw M g f) (D : dk M h) (hne : h ≠ g) (hg : g ≠ 19) : ∃ M1, jfX2_takeOver h g M = sy_rv M1 ∧ hw M1 h f ∧ fh h M M1 := by
  obtain ⟨⟨gi, b, c, d1, d2, d3, d4⟩, L⟩ := H
  have di := D.1
  have hl := h_lt di
  have gl := h_lt gi
  have hap := h_apart di gi hne
  have ck1 : sy_cok (g + 1) (h + 1) (Int32.ofNat 0) (Int32.ofNat 0) (Int32.ofNat 63) = true := sy_cok_t (h_a1 di) (h_a1 gi) (by decide) (by rw [h_63 gi]; decide) (by rw [h_63 di]; decide)
  have ck2 : sy_cok (g + 2) (h + 2) (Int32.ofNat 0) (Int32.ofNat 0) (Int32.ofNat 49) = true := sy_cok_t (h_a2 di) (h_a2 gi) (by decide) (by rw [h_49 gi]; decide) (by rw [h_49 di]; decide)
  obtain ⟨M3, e3, l3, f3⟩ := c_logOver (M := syc (syc M (h + 1) (sp_aside 63 (M (g + 1)) (M (h + 1)))) (h + 2) (sp_aside 49 (M (g + 2)) (M (h + 2)))) (f := f) (g := g) (h := h) (lv_congr (lv_congr L (syc_ne _ _ (by omega)) (syc_ne _ _ (by omega))) (syc_ne _ _ (by omega)) (syc_ne _ _ (by omega))) gi (dk_congr (dk_congr D (syc_ne _ _ (by omega))) (syc_ne _ _ (by omega))) hne hg
  have E : ∀ a, a ≠ h + 1 → a ≠ h + 2 → a ≠ h + 3 → a ≠ h + 4 → M3 a = M a := by
    intro a a1 a2 a3 a4
    rw [f3 a a3 a4, syc_ne _ _ a2, syc_ne _ _ a1]
  have E1 : M3 (h + 1) = sp_aside 63 (M (g + 1)) (M (h + 1)) := by rw [f3 _ (by omega) (by omega), syc_ne _ _ (by omega), syc_at]
  have E2 : M3 (h + 2) = sp_aside 49 (M (g + 2)) (M (h + 2)) := by rw [f3 _ (by omega) (by omega), syc_at]
  have Eg : M3 g = M g := E g (by omega) (by omega) (by omega) (by omega)
  have Eh : M3 h = M h := E h (by omega) (by omega) (by omega) (by omega)
  refine ⟨syc M3 h (rs (rs (rs (rs (rs (rs (rs (rs (rs (rs (rs (M h) 3 (M g 3)) 4 (M g 4)) 5 (M g 5)) 6 (M g 6)) 7 (M g 7)) 8 (M g 8)) 9 (M g 9)) 10 (M g 10)) 11 (M g 11)) 12 (M g 12)) 13 (M g 13)), ?_, ⟨⟨di, ?_, ?_, ?_, ?_, ?_, ?_⟩, lv_congr l3 (syc_ne _ _ (by omega)) (syc_ne _ _ (by omega))⟩, ?_⟩
  · simp (disch := omega) only [jfX2_takeOver, jfX2_takeOver_73, di, gi, sy_bs_t, zL, ck1, ck2, sy_bb_t, sy_cpy_c, syc_ne, h_6 di, e3, sy_bv_rv, sy_upd_st, Eg, Eh, syc_at, syc_st]
  · intro i hi
    rw [syc_ne _ _ (by omega), E1]
    unfold sp_aside
    rw [if_pos hi]; exact b i hi
  · intro i hi
    rw [syc_ne _ _ (by omega), E2]
    unfold sp_aside
    rw [if_pos hi]; exact c i hi
  · simp (disch := omega) only [syc_at, rs_ne, rs_at]; exact d1
  · simp (disch := omega) only [syc_at, rs_ne, rs_at]; exact d2
  · intro i h1 h2
    rw [← d3 i h1 h2]
    rcases (show i = 4 ∨ i = 5 ∨ i = 6 ∨ i = 7 ∨ i = 8 ∨ i = 9 ∨ i = 10 ∨ i = 11 by omega) with e | e | e | e | e | e | e | e <;> subst e <;> simp (disch := omega) only [syc_at, rs_ne, rs_at]
  · simp (disch := omega) only [syc_at, rs_ne, rs_at]; exact d4
  · intro a ha
    rw [syc_ne _ _ (by omega)]
    exact E a (by omega) (by omega) (by omega) (by omega)
/-! the class's reading methods of a house -/
theorem c_isIn {M : sy_M} {h : Nat} {f : Nat → Int32} (H : hv M h f) {p : Nat} {t : Int32} (hp : p < 7) : jfX2_isIn h (Int32.ofNat p) t M = sy_ri (bz (sp_at f p t)) M := by
  unfold sp_at sp_in
  simp (disch := omega) only [jfX2_isIn, H.1, sy_bs_t, zL, c_get H, sy_bi_ri]
  by_cases h0 : f (14 + 9 * p + 2) < f (14 + 9 * p + 1)
  · rw [if_pos h0, decide_eq_true h0, cond_true]
    by_cases h1 : t < f (14 + 9 * p + 1)
    · rw [if_pos h1, decide_eq_true h1]
      by_cases h2 : f (14 + 9 * p + 2) < t
      · rw [if_pos h2, decide_eq_true h2]; rfl
      · rw [if_neg h2, decide_eq_false h2]; rfl
    · rw [if_neg h1, decide_eq_false h1]; rfl
  · rw [if_neg h0, decide_eq_false h0, cond_false]
    by_cases h1 : t < f (14 + 9 * p + 1)
    · rw [if_pos h1, decide_eq_true h1]; rfl
    · rw [if_neg h1, decide_eq_false h1]
      by_cases h2 : f (14 + 9 * p + 2) < t
      · rw [if_pos h2, decide_eq_true h2]; rfl
      · rw [if_neg h2, decide_eq_false h2]; rfl
theorem c_burnt {M : sy_M} {h : Nat} {f : Nat → Int32} (H : hv M h f) {n : Nat} {s : Int32} (hn : f 3 = Int32.ofNat n) (h7 : n ≤ 7) : jfX2_burnt h s M = sy_ri (sp_burn f n s) M := by
  unfold jfX2_burnt sp_burn
  obtain ⟨k, hk⟩ := sy_for1 (n := n) (F := sy_F) (fun k i (a : Int32) => jfX2_burnt_4 k h s a (Int32.ofNat i) M) (fun p a => a + (bif sp_bit s p then f (14 + 9 * p) else (Int32.ofNat 0))) (by
    intro k i a hi
    show jgX2_burnt_4 (jfX2_burnt_4 k) h s a (Int32.ofNat i) M = _
    simp (disch := omega) only [zL, zlt, zle, zeq, zadd, zmul, zin, zix, zsh1, Nat.add_zero, Nat.zero_add, Nat.mul_zero, if_true, if_false, if_pos, if_neg, sy_bi_ri, sy_bi_rt, sy_bv_rv, sy_bv_rt, sy_br_rr, sy_br_rn, sy_hi_ri, sy_hi_rt, sy_bs_t, sy_bx_t, sy_bb_t, bz_bo, ite_bz0, ite_bz1, jgX2_burnt_4, jfX2_burnt_31, H.1, hv_3 H, hn, c_get H, sp_bit_it0]
    cases sp_bit s i <;> rfl) 0 (by rw [sy_F_eq]; omega)
  refine hk.trans ?_
  show jgX2_burnt_4 (jfX2_burnt_4 k) h s _ (Int32.ofNat n) M = _
  simp (disch := omega) only [zL, zlt, zle, zeq, zadd, zmul, zin, zix, zsh1, Nat.add_zero, Nat.zero_add, Nat.mul_zero, if_true, if_false, if_pos, if_neg, sy_bi_ri, sy_bi_rt, sy_bv_rv, sy_bv_rt, sy_br_rr, sy_br_rn, sy_hi_ri, sy_hi_rt, sy_bs_t, sy_bx_t, sy_bb_t, bz_bo, ite_bz0, ite_bz1, jgX2_burnt_4, H.1, hv_3 H, hn]
def sp_sum (f : Nat → Int32) (n w : Nat) : Int32 := sy_fo (fun p a => a + f (14 + 9 * p + w)) n 0 (Int32.ofNat 0)
theorem c_sum {M : sy_M} {h : Nat} {f : Nat → Int32} (H : hv M h f) {n w : Nat} (hw : w < 9) (hn : f 3 = Int32.ofNat n) (h7 : n ≤ 7) : jfX2_sum h (Int32.ofNat w) M = sy_ri (sp_sum f n w) M := by
  unfold jfX2_sum sp_sum
  obtain ⟨k, hk⟩ := sy_for1 (n := n) (F := sy_F) (fun k i (a : Int32) => jfX2_sum_4 k h (Int32.ofNat w) a (Int32.ofNat i) M) (fun p a => a + f (14 + 9 * p + w)) (by
    intro k i a hi
    show jgX2_sum_4 (jfX2_sum_4 k) h (Int32.ofNat w) a (Int32.ofNat i) M = _
    simp (disch := omega) only [zL, zlt, zle, zeq, zadd, zmul, zin, zix, zsh1, Nat.add_zero, Nat.zero_add, Nat.mul_zero, if_true, if_false, if_pos, if_neg, sy_bi_ri, sy_bi_rt, sy_bv_rv, sy_bv_rt, sy_br_rr, sy_br_rn, sy_hi_ri, sy_hi_rt, sy_bs_t, sy_bx_t, sy_bb_t, bz_bo, ite_bz0, ite_bz1, jgX2_sum_4, H.1, hv_3 H, hn, c_get H]) 0 (by rw [sy_F_eq]; omega)
  refine hk.trans ?_
  show jgX2_sum_4 (jfX2_sum_4 k) h (Int32.ofNat w) _ (Int32.ofNat n) M = _
  simp (disch := omega) only [zL, zlt, zle, zeq, zadd, zmul, zin, zix, zsh1, Nat.add_zero, Nat.zero_add, Nat.mul_zero, if_true, if_false, if_pos, if_neg, sy_bi_ri, sy_bi_rt, sy_bv_rv, sy_bv_rt, sy_br_rr, sy_br_rn, sy_hi_ri, sy_hi_rt, sy_bs_t, sy_bx_t, sy_bb_t, bz_bo, ite_bz0, ite_bz1, jgX2_sum_4, H.1, hv_3 H, hn]
theorem sp_home_succ (f : Nat → Int32) (n : Nat) (t : Int32) : sp_home f (n + 1) t = sp_home f n t ||| (bif sp_at f n t then (Int32.ofNat 1) <<< Int32.ofNat n else (Int32.ofNat 0)) := by
  unfold sp_home
  rw [sy_fo_last, Nat.zero_add]
theorem c_learn_in {M : sy_M} {h n t : Nat} {f : Nat → Int32} (H : hv M h f) (hn : f 3 = Int32.ofNat n) (h7 : n ≤ 7) (ht : t < 48) (k2 : Nat → Int32 → sy_M → sy_O) : jfX8_learn_17 k2 sy_F h (Int32.ofNat t) 0 (syc M 50 (rs (M 50) t (Int32.ofNat 0))) = k2 h (Int32.ofNat (t + 1)) (syc (syc M 50 (rs (M 50) t (sp_home f n (Int32.ofNat t)))) 51 (rs (M 51) t (sp_burn f n (sp_home f n (Int32.ofNat t))))) := by
  have hl := h_lt H.1
  have hq : ∀ g, hv (syc M 50 g) h f := fun g => hv_congr H (syc_ne _ _ (by omega)) (syc_ne _ _ (by omega)) (syc_ne _ _ (by omega))
  refine sy_forR (n := n) (F := sy_F) (R := fun c => c = k2 h (Int32.ofNat (t + 1)) (syc (syc M 50 (rs (M 50) t (sp_home f n (Int32.ofNat t)))) 51 (rs (M 51) t (sp_burn f n (sp_home f n (Int32.ofNat t)))))) (fun k i (N : sy_M) => jfX8_learn_17 k2 k h (Int32.ofNat t) (Int32.ofNat i) N) (fun i N => N = syc M 50 (rs (M 50) t (sp_home f i (Int32.ofNat t)))) ?_ ?_ _ rfl (by rw [sy_F_eq]; omega)
  · intro k i N hi hN
    refine Or.inl ⟨syc M 50 (rs (M 50) t (sp_home f (i + 1) (Int32.ofNat t))), ?_, rfl⟩
    subst hN
    show jgX8_learn_17 k2 (jfX8_learn_17 k2 k) h (Int32.ofNat t) (Int32.ofNat i) _ = _
    rw [sp_home_succ]
    simp (disch := omega) only [zL, zlt, zle, zeq, zadd, zmul, zin, zix, zsh1, Nat.add_zero, Nat.zero_add, Nat.mul_zero, if_true, if_false, if_pos, if_neg, sy_bi_ri, sy_bi_rt, sy_bv_rv, sy_bv_rt, sy_br_rr, sy_br_rn, sy_hi_ri, sy_hi_rt, sy_bs_t, sy_bx_t, sy_bb_t, bz_bo, ite_bz0, ite_bz1, jgX8_learn_17, jfX8_learn_48, H.1, hv_3 (hq _), hn, c_isIn (hq _), syc_at, rs_at, sy_upd_st, syc_st, rs_rs]
    cases sp_at f i (Int32.ofNat t) <;> rfl
  · intro k N hN
    subst hN
    show jgX8_learn_17 k2 (jfX8_learn_17 k2 k) h (Int32.ofNat t) (Int32.ofNat n) _ = _
    simp (disch := omega) only [zL, zlt, zle, zeq, zadd, zmul, zin, zix, zsh1, Nat.add_zero, Nat.zero_add, Nat.mul_zero, if_true, if_false, if_pos, if_neg, sy_bi_ri, sy_bi_rt, sy_bv_rv, sy_bv_rt, sy_br_rr, sy_br_rn, sy_hi_ri, sy_hi_rt, sy_bs_t, sy_bx_t, sy_bb_t, bz_bo, ite_bz0, ite_bz1, jgX8_learn_17, H.1, hv_3 (hq _), hn, c_burnt (hq _) hn h7, syc_at, rs_at, sy_upd_st, syc_ne]
theorem c_learn {M : sy_M} {h n : Nat} {f : Nat → Int32} (H : hv M h f) (hn : f 3 = Int32.ofNat n) (h7 : n ≤ 7) : ∃ M1, jfX8_learn h M = sy_rv M1 ∧ nt M1 n f ∧ (∀ a, a ≠ 50 → a ≠ 51 → M1 a = M a) := by
  have hl := h_lt H.1
  unfold jfX8_learn
  refine sy_forR (n := 48) (F := sy_F) (R := fun c => ∃ M1, c = sy_rv M1 ∧ nt M1 n f ∧ (∀ a, a ≠ 50 → a ≠ 51 → M1 a = M a)) (fun k i (N : sy_M) => jfX8_learn_2 k h (Int32.ofNat i) N) (fun i N => (∀ t, t < i → N 50 t = sp_home f n (Int32.ofNat t) ∧ N 51 t = sp_burn f n (sp_home f n (Int32.ofNat t))) ∧ (∀ a, a ≠ 50 → a ≠ 51 → N a = M a)) ?_ ?_ M ⟨fun t ht => absurd ht (Nat.not_lt_zero t), fun _ _ _ => rfl⟩ (by rw [sy_F_eq]; omega)
  · intro k i N hi ⟨h1, h2⟩
    have HN : hv N h f := hv_congr H (h2 _ (by omega) (by omega)) (h2 _ (by omega) (by omega)) (h2 _ (by omega) (by omega))
    refine Or.inl ⟨syc (syc N 50 (rs (N 50) i (sp_home f n (Int32.ofNat i)))) 51 (rs (N 51) i (sp_burn f n (sp_home f n (Int32.ofNat i)))), ?_, ?_, ?_⟩
    · show jgX8_learn_2 (jfX8_learn_2 k) h (Int32.ofNat i) N = _
      have e0 := c_learn_in HN hn h7 hi (jfX8_learn_2 k)
      have e1 : jfX8_learn_17 (jfX8_learn_2 k) sy_F h (Int32.ofNat i) (Int32.ofNat 0) (syc N 50 (rs (N 50) i (Int32.ofNat 0))) = _ := e0
      simp (disch := omega) only [zL, zlt, zle, zeq, zadd, zmul, zin, zix, zsh1, Nat.add_zero, Nat.zero_add, Nat.mul_zero, if_true, if_false, if_pos, if_neg, sy_bi_ri, sy_bi_rt, sy_bv_rv, sy_bv_rt, sy_br_rr, sy_br_rn, sy_hi_ri, sy_hi_rt, sy_bs_t, sy_bx_t, sy_bb_t, bz_bo, ite_bz0, ite_bz1, jgX8_learn_2, sy_upd_st, e1]
    · intro t ht
      rw [syc_ne _ _ (by decide), syc_at, syc_at]
      by_cases e : t = i
      · subst e
        exact ⟨rs_at _ _ _, rs_at _ _ _⟩
      · rw [rs_ne _ _ e, rs_ne _ _ e]
        exact h1 t (by omega)
    · intro a a1 a2
      rw [syc_ne _ _ a2, syc_ne _ _ a1]
      exact h2 a a1 a2
  · intro k N ⟨h1, h2⟩
    refine ⟨N, ?_, h1, h2⟩
    show jgX8_learn_2 (jfX8_learn_2 k) h (Int32.ofNat 48) N = _
    simp (disch := omega) only [zL, zlt, zle, zeq, zadd, zmul, zin, zix, zsh1, Nat.add_zero, Nat.zero_add, Nat.mul_zero, if_true, if_false, if_pos, if_neg, sy_bi_ri, sy_bi_rt, sy_bv_rv, sy_bv_rt, sy_br_rr, sy_br_rn, sy_hi_ri, sy_hi_rt, sy_bs_t, sy_bx_t, sy_bb_t, bz_bo, ite_bz0, ite_bz1, jgX8_learn_2]
