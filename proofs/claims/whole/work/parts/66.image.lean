/-! ===== image, back ===== -/
section
variable {A : (Nat → Int32) → Nat → Int32 × Bool} {tx : (Nat → Int32) → Prop} {L0 : Int32} {S : Nat → Int32} {e : Nat} {M : sy_M}
theorem o_image (I : Inv A tx L0 S e M) : ∃ M1 M3, jfX11_image M = sy_rv M1 ∧ jfX12_image M1 = sy_rv M3 ∧ Inv A tx L0 S (e + 1) M3 ∧ M1 134 0 = L0 ∧ M1 1000000 = S := by
  obtain ⟨i1, i2, i3, i4, i5, i6, i7, i8, ⟨k, hk, ek⟩, i10, i11⟩ := I
  obtain ⟨n, G, H, ht, hA, hl⟩ := id i1
  obtain ⟨M1, e1, w1, f1⟩ := c_takeOver H i4.2.1 (by decide) (by decide)
  obtain ⟨M2, e2, l2, f2⟩ := c_lawOver (M := M1) (a := 41) (b := 29) (by decide) (by decide) (by decide)
  have E : ∀ a, (a < 24 ∨ 28 < a) → (a < 41 ∨ 46 < a) → M2 a = M a := fun a h1 h2 => (f2 a (by omega)).trans (f1 a (by omega))
  generalize hM4 : syc M2 0 (rs (M2 0) 16 (Int32.ofNat 1)) = M4
  have E4 : ∀ a, a ≠ 0 → M4 a = M2 a := fun a h => by rw [← hM4, syc_ne _ _ h]
  have t122 : thr M4 0 122 = M 122 := by rw [thr_ne _ _ (by decide), E4 122 (by omega), E 122 (by omega) (by omega)]
  have t123 : thr M4 0 123 = M 123 := by rw [thr_ne _ _ (by decide), E4 123 (by omega), E 123 (by omega) (by omega)]
  have full : sp_aside 826 (M 122) (M 123) = M 122 := by
    funext i
    unfold sp_aside
    by_cases h : i < 826
    · rw [if_pos h]
    · rw [if_neg h]; exact i2.2.2.2 i (by omega)
  generalize hM3 : syc (syc (thr M4 0) 123 (M 122)) 121 (rs (thr M4 0 121) 3 (Int32.ofNat 1)) = M3
  have R : jfX12_image M4 = sy_rv M3 := by
    show jfX12_image_7 sy_F 0 (sy_upd M4 121 0 (Int32.ofNat 0)) = _
    rw [thr_up, ← hM3]
    refine sy_forR (n := 826) (F := sy_F) (R := fun c => c = sy_rv (syc (syc (thr M4 0) 123 (M 122)) 121 (rs (thr M4 0 121) 3 (Int32.ofNat 1)))) (fun q i (K : sy_M) => jfX12_image_7 q (Int32.ofNat i) K) (fun i K => K = syc (thr M4 0) 123 (sp_aside i (M 122) (M 123))) ?_ ?_ _ (by rw [sp_aside_0, ← t123, syc_self]) (by rw [sy_F_eq]; omega)
    · intro q i K hi hK
      refine Or.inl ⟨_, ?_, rfl⟩
      subst hK
      show jgX12_image_7 (jfX12_image_7 q) (Int32.ofNat i) _ = _
      rw [← sp_aside_succ]
      simp (disch := omega) only [zL, zlt, zle, zeq, zadd, zmul, zin, zix, zsh1, Nat.add_zero, Nat.zero_add, Nat.mul_zero, if_true, if_false, if_pos, if_neg, sy_bi_ri, sy_bi_rt, sy_bv_rv, sy_bv_rt, sy_br_rr, sy_br_rn, sy_hi_ri, sy_hi_rt, sy_bs_t, sy_bx_t, sy_bb_t, bz_bo, ite_bz0, ite_bz1, jgX12_image_7, syc_ne, t122, sy_upd_st, syc_at, syc_st]
    · intro q K hK
      subst hK
      show jgX12_image_7 (jfX12_image_7 q) (Int32.ofNat 826) _ = _
      rw [full]
      simp (disch := omega) only [zL, zlt, zle, zeq, zadd, zmul, zin, zix, zsh1, Nat.add_zero, Nat.zero_add, Nat.mul_zero, if_true, if_false, if_pos, if_neg, sy_bi_ri, sy_bi_rt, sy_bv_rv, sy_bv_rt, sy_br_rr, sy_br_rn, sy_hi_ri, sy_hi_rt, sy_bs_t, sy_bx_t, sy_bb_t, bz_bo, ite_bz0, ite_bz1, jgX12_image_7, sy_upd_st, syc_ne]
  have A3 : ∀ a, a ≠ 121 → a ≠ 123 → M3 a = M4 a := fun a h1 h2 => by rw [← hM3, syc_ne _ _ h1, syc_ne _ _ h2, thr_ne _ _ h1]
  have A4 : ∀ j, j ≠ 0 → j ≠ 3 → M3 121 j = M 121 j := fun j h1 h2 => by rw [← hM3, syc_at, rs_ne _ _ h2, thr_j _ _ h1, E4 121 (by omega), E 121 (by omega) (by omega)]
  have A5 : M3 123 = M 122 := by rw [← hM3, syc_ne _ _ (by decide), syc_at]
  have A6 : M3 121 3 = (Int32.ofNat 1) := by rw [← hM3, syc_at, rs_at]
  have EE : ∀ a, a ≠ 0 → a ≠ 121 → a ≠ 123 → (a < 24 ∨ 28 < a) → (a < 41 ∨ 46 < a) → M3 a = M a := fun a h0 h1 h2 h3 h4 => ((A3 a h1 h2).trans (E4 a h0)).trans (E a h3 h4)
  have M30 : M3 0 = rs (M 0) 16 (Int32.ofNat 1) := by rw [A3 0 (by omega) (by omega), ← hM4, syc_at, E 0 (by omega) (by omega)]
  have M3122 : M3 122 = M 122 := EE 122 (by omega) (by omega) (by omega) (by omega) (by omega)
  refine ⟨M4, M3, ?_, R, ⟨?_, ?_, ?_, ?_, ?_, ?_, ?_, ?_, ⟨k, by omega, ?_⟩, ?_, ?_⟩, ?_, ?_⟩
  · rw [← hM4]
    simp (disch := omega) only [zL, zlt, zle, zeq, zadd, zmul, zin, zix, zsh1, Nat.add_zero, Nat.zero_add, Nat.mul_zero, if_true, if_false, if_pos, if_neg, sy_bi_ri, sy_bi_rt, sy_bv_rv, sy_bv_rt, sy_br_rr, sy_br_rn, sy_hi_ri, sy_hi_rt, sy_bs_t, sy_bx_t, sy_bb_t, bz_bo, ite_bz0, ite_bz1, jfX11_image, e1, e2, sy_upd_st]
  · exact IA_congr i1 (fun a h1 h2 => EE a (by omega) (by omega) (by omega) (by omega) (by omega)) (fun a h1 h2 => EE a (by omega) (by omega) (by omega) (by omega) (by omega)) M3122
  · refine ⟨?_, Or.inr A6, fun _ => ⟨n, ?_, ?_, ?_, ?_, ?_⟩, fun i hi => ?_⟩
    · rw [M30, rs_at, A6]
    · rw [A5]; exact G
    · rw [A5]; exact hw_congr w1 (fun a h1 h2 => by rw [A3 a (by omega) (by omega), E4 a (by omega), f2 a (by omega)])
    · rw [A5]; exact ht
    · rw [A5]
      refine cAK_cp hA (lcp.trans (lcp_of (fun a h1 h2 => f1 a (by omega))) (lcp_of2 l2 (fun a h1 h2 => by rw [A3 a (by omega) (by omega), E4 a (by omega)]))) tsame_rfl
    · rw [A5, A3 41 (by omega) (by omega), E4 41 (by omega), l2.2.2.2, f1 29 (by omega)]; exact hl
    · rw [A5, M3122]
  · exact IT_congr i3 (fun a h1 h2 => EE a (by omega) (by omega) (by omega) (by omega) (by omega)) (by rw [M3122]; exact tsame_rfl) (A4 6 (by omega) (by omega)) (EE _ (by omega) (by omega) (by omega) (by omega) (by omega))
  · refine ⟨dk_congr i4.1 (EE _ (by omega) (by omega) (by omega) (by omega) (by omega)), ?_, fun k hk => dk_congr (i4.2.2 k hk) (EE _ (by omega) (by omega) (by omega) (by omega) (by omega))⟩
    exact (hw_congr w1 (fun a h1 h2 => by rw [A3 a (by omega) (by omega), E4 a (by omega), f2 a (by omega)])).dk
  · exact dk_congr i5 (EE _ (by omega) (by omega) (by omega) (by omega) (by omega))
  · exact IP_congr i6 (by rw [EE 1 (by omega) (by omega) (by omega) (by omega) (by omega)]) (EE _ (by omega) (by omega) (by omega) (by omega) (by omega)) (A4 8 (by omega) (by omega)) (EE _ (by omega) (by omega) (by omega) (by omega) (by omega))
  · rw [M30, rs_ne _ _ (by decide), A4 12 (by omega) (by omega)]; exact i7
  · rw [A4 19 (by omega) (by omega)]; exact i8
  · rw [EE 133 (by omega) (by omega) (by omega) (by omega) (by omega)]; exact ek
  · rw [EE 134 (by omega) (by omega) (by omega) (by omega) (by omega)]; exact i10
  · rw [EE 1000000 (by omega) (by omega) (by omega) (by omega) (by omega)]; exact i11
  · rw [E4 134 (by omega), E 134 (by omega) (by omega)]; exact i10
  · rw [E4 1000000 (by omega), E 1000000 (by omega) (by omega)]; exact i11
theorem o_back (I : Inv A tx L0 S e M) : opN A tx L0 S e (jfX11_back M) (jfX12_back) := by
  have I0 := I
  obtain ⟨i1, i2, i3, i4, i5, i6, i7, i8, ⟨k, hk, ek⟩, i10, i11⟩ := I
  obtain ⟨n0, G0, H0, ht0, hA0, hl0⟩ := id i1
  obtain ⟨s, nx, hs, hnx, t1, t2, t3, t6⟩ := id i3
  rcases i2.2.1 with z | z
  · refine opN_q I0 (v := (Int32.ofNat 0)) ⟨M, ?_, fq_rfl⟩ (fun N hN => ⟨thr N 0, ?_, fr_thr⟩)
    · have z0 : M 0 16 = (Int32.ofNat 0) := i2.1.trans z
      simp (disch := omega) only [zL, zlt, zle, zeq, zadd, zmul, zin, zix, zsh1, Nat.add_zero, Nat.zero_add, Nat.mul_zero, if_true, if_false, if_pos, if_neg, sy_bi_ri, sy_bi_rt, sy_bv_rv, sy_bv_rt, sy_br_rr, sy_br_rn, sy_hi_ri, sy_hi_rt, sy_bs_t, sy_bx_t, sy_bb_t, bz_bo, ite_bz0, ite_bz1, jfX11_back, z0]
    · have e3 : thr N 0 121 3 = (Int32.ofNat 0) := by rw [thr_j _ _ (by decide), hN 121 (by omega) (by omega)]; exact z
      simp (disch := omega) only [zL, zlt, zle, zeq, zadd, zmul, zin, zix, zsh1, Nat.add_zero, Nat.zero_add, Nat.mul_zero, if_true, if_false, if_pos, if_neg, sy_bi_ri, sy_bi_rt, sy_bv_rv, sy_bv_rt, sy_br_rr, sy_br_rn, sy_hi_ri, sy_hi_rt, sy_bs_t, sy_bx_t, sy_bb_t, bz_bo, ite_bz0, ite_bz1, jfX12_back, thr_up, e3]
  · obtain ⟨n, G, H, ht, hA, hl⟩ := i2.2.2.1 z
    have z0 : M 0 16 = (Int32.ofNat 1) := i2.1.trans z
    obtain ⟨M1, e1, w1, f1⟩ := c_takeOver H H0.dk (by decide) (by decide)
    obtain ⟨M2, e2, l2, f2⟩ := c_lawOver (M := M1) (a := 29) (b := 41) (by decide) (by decide) (by decide)
    have E : ∀ a, (a < 9 ∨ 13 < a) → (a < 29 ∨ 34 < a) → M2 a = M a := fun a h1 h2 => (f2 a (by omega)).trans (f1 a (by omega))
    generalize hM4 : syc M2 57 (rs (M2 57) 1 (Int32.ofNat 0)) = M4
    have E4 : ∀ a, a ≠ 57 → M4 a = M2 a := fun a h => by rw [← hM4, syc_ne _ _ h]
    have t122 : thr M4 0 122 = M 122 := by rw [thr_ne _ _ (by decide), E4 122 (by omega), E 122 (by omega) (by omega)]
    have t123 : thr M4 0 123 = M 123 := by rw [thr_ne _ _ (by decide), E4 123 (by omega), E 123 (by omega) (by omega)]
    have full : sp_aside 826 (M 123) (M 122) = M 123 := by
      funext i
      unfold sp_aside
      by_cases h : i < 826
      · rw [if_pos h]
      · rw [if_neg h]; exact (i2.2.2.2 i (by omega)).symm
    generalize hM3 : syc (syc (thr M4 0) 122 (M 123)) 121 (rs (thr M4 0 121) 6 (Int32.ofNat 0)) = M3
    have R : jfX12_back M4 = sy_ri (Int32.ofNat 1) M3 := by
      have e3 : thr M4 0 121 3 = (Int32.ofNat 1) := by rw [thr_j _ _ (by decide), E4 121 (by omega), E 121 (by omega) (by omega)]; exact z
      have e0 : jfX12_back M4 = jfX12_back_16 sy_F (Int32.ofNat 0) (thr M4 0) := by
        simp (disch := omega) only [zL, zlt, zle, zeq, zadd, zmul, zin, zix, zsh1, Nat.add_zero, Nat.zero_add, Nat.mul_zero, if_true, if_false, if_pos, if_neg, sy_bi_ri, sy_bi_rt, sy_bv_rv, sy_bv_rt, sy_br_rr, sy_br_rn, sy_hi_ri, sy_hi_rt, sy_bs_t, sy_bx_t, sy_bb_t, bz_bo, ite_bz0, ite_bz1, jfX12_back, thr_up, e3]
      rw [e0, ← hM3]
      refine sy_forR (n := 826) (F := sy_F) (R := fun c => c = sy_ri (Int32.ofNat 1) (syc (syc (thr M4 0) 122 (M 123)) 121 (rs (thr M4 0 121) 6 (Int32.ofNat 0)))) (fun q i (K : sy_M) => jfX12_back_16 q (Int32.ofNat i) K) (fun i K => K = syc (thr M4 0) 122 (sp_aside i (M 123) (M 122))) ?_ ?_ _ (by rw [sp_aside_0, ← t122, syc_self]) (by rw [sy_F_eq]; omega)
      · intro q i K hi hK
        refine Or.inl ⟨_, ?_, rfl⟩
        subst hK
        show jgX12_back_16 (jfX12_back_16 q) (Int32.ofNat i) _ = _
        rw [← sp_aside_succ]
        simp (disch := omega) only [zL, zlt, zle, zeq, zadd, zmul, zin, zix, zsh1, Nat.add_zero, Nat.zero_add, Nat.mul_zero, if_true, if_false, if_pos, if_neg, sy_bi_ri, sy_bi_rt, sy_bv_rv, sy_bv_rt, sy_br_rr, sy_br_rn, sy_hi_ri, sy_hi_rt, sy_bs_t, sy_bx_t, sy_bb_t, bz_bo, ite_bz0, ite_bz1, jgX12_back_16, syc_ne, t123, sy_upd_st, syc_at, syc_st]
      · intro q K hK
        subst hK
        show jgX12_back_16 (jfX12_back_16 q) (Int32.ofNat 826) _ = _
        rw [full]
        simp (disch := omega) only [zL, zlt, zle, zeq, zadd, zmul, zin, zix, zsh1, Nat.add_zero, Nat.zero_add, Nat.mul_zero, if_true, if_false, if_pos, if_neg, sy_bi_ri, sy_bi_rt, sy_bv_rv, sy_bv_rt, sy_br_rr, sy_br_rn, sy_hi_ri, sy_hi_rt, sy_bs_t, sy_bx_t, sy_bb_t, bz_bo, ite_bz0, ite_bz1, jgX12_back_16, sy_upd_st, syc_ne]
    have A3 : ∀ a, a ≠ 121 → a ≠ 122 → M3 a = M4 a := fun a h1 h2 => by rw [← hM3, syc_ne _ _ h1, syc_ne _ _ h2, thr_ne _ _ h1]
    have A4 : ∀ j, j ≠ 0 → j ≠ 6 → M3 121 j = M 121 j := fun j h1 h2 => by rw [← hM3, syc_at, rs_ne _ _ h2, thr_j _ _ h1, E4 121 (by omega), E 121 (by omega) (by omega)]
    have A5 : M3 122 = M 123 := by rw [← hM3, syc_ne _ _ (by decide), syc_at]
    have A6 : M3 121 6 = (Int32.ofNat 0) := by rw [← hM3, syc_at, rs_at]
    have EE : ∀ a, a ≠ 57 → a ≠ 121 → a ≠ 122 → (a < 9 ∨ 13 < a) → (a < 29 ∨ 34 < a) → M3 a = M a := fun a h0 h1 h2 h3 h4 => ((A3 a h1 h2).trans (E4 a h0)).trans (E a h3 h4)
    have M357 : M3 57 = rs (M 57) 1 (Int32.ofNat 0) := by rw [A3 57 (by omega) (by omega), ← hM4, syc_at, E 57 (by omega) (by omega)]
    refine ⟨(Int32.ofNat 1), M4, M3, ?_, R, ⟨⟨n, ?_, ?_, ?_, ?_, ?_⟩, ?_, ?_, ?_, ?_, ?_, ?_, ?_, ⟨k, by omega, ?_⟩, ?_, ?_⟩, ?_, ?_⟩
    · rw [← hM4]
      simp (disch := omega) only [zL, zlt, zle, zeq, zadd, zmul, zin, zix, zsh1, Nat.add_zero, Nat.zero_add, Nat.mul_zero, if_true, if_false, if_pos, if_neg, sy_bi_ri, sy_bi_rt, sy_bv_rv, sy_bv_rt, sy_br_rr, sy_br_rn, sy_hi_ri, sy_hi_rt, sy_bs_t, sy_bx_t, sy_bb_t, bz_bo, ite_bz0, ite_bz1, jfX11_back, jfX0_forget, z0, e1, e2, sy_upd_st]
    · rw [A5]; exact G
    · rw [A5]; exact hw_congr w1 (fun a h1 h2 => by rw [A3 a (by omega) (by omega), E4 a (by omega), f2 a (by omega)])
    · rw [A5]; exact ht
    · rw [A5]
      exact cAK_cp hA (lcp.trans (lcp_of (fun a h1 h2 => f1 a (by omega))) (lcp_of2 l2 (fun a h1 h2 => by rw [A3 a (by omega) (by omega), E4 a (by omega)]))) tsame_rfl
    · rw [A5, A3 29 (by omega) (by omega), E4 29 (by omega), l2.2.2.2, f1 41 (by omega)]; exact hl
    · refine IK_congr i2 (by rw [EE 0 (by omega) (by omega) (by omega) (by omega) (by omega)]) (fun a h1 h2 => EE a (by omega) (by omega) (by omega) (by omega) (by omega)) (fun a h1 h2 => EE a (by omega) (by omega) (by omega) (by omega) (by omega)) (EE _ (by omega) (by omega) (by omega) (by omega) (by omega)) (A4 3 (by omega) (by omega)) (fun i hi => ?_)
      rw [A5]; exact i2.2.2.2 i hi
    · refine ⟨0, nx, by omega, hnx, ?_, A6, ?_, fun j hj => absurd hj (Nat.not_lt_zero j)⟩
      · rw [M357, rs_at]
      · rw [M357, rs_ne _ _ (by decide)]; exact t3
    · exact ⟨dk_congr i4.1 (EE _ (by omega) (by omega) (by omega) (by omega) (by omega)), dk_congr i4.2.1 (EE _ (by omega) (by omega) (by omega) (by omega) (by omega)), fun k hk => dk_congr (i4.2.2 k hk) (EE _ (by omega) (by omega) (by omega) (by omega) (by omega))⟩
    · exact dk_congr i5 (EE _ (by omega) (by omega) (by omega) (by omega) (by omega))
    · exact IP_congr i6 (by rw [EE 1 (by omega) (by omega) (by omega) (by omega) (by omega)]) (EE _ (by omega) (by omega) (by omega) (by omega) (by omega)) (A4 8 (by omega) (by omega)) (EE _ (by omega) (by omega) (by omega) (by omega) (by omega))
    · rw [EE 0 (by omega) (by omega) (by omega) (by omega) (by omega), A4 12 (by omega) (by omega)]; exact i7
    · rw [A4 19 (by omega) (by omega)]; exact i8
    · rw [EE 133 (by omega) (by omega) (by omega) (by omega) (by omega)]; exact ek
    · rw [EE 134 (by omega) (by omega) (by omega) (by omega) (by omega)]; exact i10
    · rw [EE 1000000 (by omega) (by omega) (by omega) (by omega) (by omega)]; exact i11
    · rw [E4 134 (by omega), E 134 (by omega) (by omega)]; exact i10
    · rw [E4 1000000 (by omega), E 1000000 (by omega) (by omega)]; exact i11
end
