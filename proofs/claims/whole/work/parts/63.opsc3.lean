/-! ===== ticks, seed, feed, end ===== -/
section
variable {A : (Nat → Int32) → Nat → Int32 × Bool} {tx : (Nat → Int32) → Prop} {L0 : Int32} {S : Nat → Int32} {e : Nat} {M : sy_M}
theorem c_ticks {n k : Nat} {f : Nat → Int32} (H : hw M 9 f) (G : gr f n) (hA : cAK A 29 M f) (hN : nt M n f) (hk : k ≤ 96) : ∃ M1, jfX11_ticks_33 sy_F (Int32.ofNat k) (Int32.ofNat 0) (Int32.ofNat 0) M = sy_ri (sp_gs A n false true f k).2.1 M1 ∧ hw M1 9 (sp_gs A n false true f k).1 ∧ fp 9 M M1 := by
  refine sy_forR (n := k) (F := sy_F) (R := fun c => ∃ M1, c = sy_ri (sp_gs A n false true f k).2.1 M1 ∧ hw M1 9 (sp_gs A n false true f k).1 ∧ fp 9 M M1) (fun q i (a : Int32 × sy_M) => jfX11_ticks_33 q (Int32.ofNat k) a.1 (Int32.ofNat i) a.2) (fun i a => a.1 = (sp_gs A n false true f i).2.1 ∧ hw a.2 9 (sp_gs A n false true f i).1 ∧ fp 9 M a.2) ?_ ?_ ((Int32.ofNat 0), M) ⟨rfl, H, fp_rfl⟩ (by rw [sy_F_eq]; omega)
  · intro q i ⟨c, N⟩ hi ⟨h1, h2, h3⟩
    have g := sp_gs_gr (A := A) (nf := false) (dr := true) G i
    simp only at h1 h2 h3
    obtain ⟨N1, e1, w1, f1⟩ := c_pass (dr := true) h2 g.1 (cAK_cp hA (lcp_of (fun c c1 c2 => h3 c (by omega) (by omega))) g.2.1) (nt_congr (nt_same g.2.2.2.2.2.2.1 G.2.2.1 hN) (h3 _ (by omega) (by omega)) (h3 _ (by omega) (by omega)))
    replace e1 : jfX8_pass 9 29 (Int32.ofNat 1) N = _ := e1
    refine Or.inl ⟨((sp_gs A n false true f (i + 1)).2.1, N1), ?_, rfl, ?_, h3.trans f1⟩
    · show jgX11_ticks_33 (jfX11_ticks_33 q) (Int32.ofNat k) c (Int32.ofNat i) N = _
      rw [sp_gs_succ, h1]
      simp (disch := omega) only [zL, zlt, zle, zeq, zadd, zmul, zin, zix, zsh1, Nat.add_zero, Nat.zero_add, Nat.mul_zero, if_true, if_false, if_pos, if_neg, sy_bi_ri, sy_bi_rt, sy_bv_rv, sy_bv_rt, sy_br_rr, sy_br_rn, sy_hi_ri, sy_hi_rt, sy_bs_t, sy_bx_t, sy_bb_t, bz_bo, ite_bz0, ite_bz1, jgX11_ticks_33, jfX11_ticks_62, e1]
      by_cases hl : (sp_pass A n false true (sp_gs A n false true f i).1).2 = -(Int32.ofNat 2)
      · rw [if_pos hl, decide_eq_false (fun z => z hl), show bz false = (Int32.ofNat 0) from rfl, zadd0]
      · rw [if_neg hl, decide_eq_true hl]
        rfl
    · rw [sp_gs_succ]; exact w1
  · intro q ⟨c, N⟩ ⟨h1, h2, h3⟩
    refine ⟨N, ?_, h2, h3⟩
    show jgX11_ticks_33 (jfX11_ticks_33 q) (Int32.ofNat k) c (Int32.ofNat k) N = _
    simp only at h1
    rw [← h1]
    simp (disch := omega) only [zL, zlt, zle, zeq, zadd, zmul, zin, zix, zsh1, Nat.add_zero, Nat.zero_add, Nat.mul_zero, if_true, if_false, if_pos, if_neg, sy_bi_ri, sy_bi_rt, sy_bv_rv, sy_bv_rt, sy_br_rr, sy_br_rn, sy_hi_ri, sy_hi_rt, sy_bs_t, sy_bx_t, sy_bb_t, bz_bo, ite_bz0, ite_bz1, jgX11_ticks_33]
theorem o_ticks (hM : mAK A tx) (I : Inv A tx L0 S e M) (he : e < 90000) (a : Int32) : opT A tx L0 S e (jfL_ticks a M) (jfX12_ticks a) := by
  obtain ⟨n, G, H, ht, hA, hl⟩ := id I.1
  have hn := G.2.1
  have h7 := G.2.2.1
  obtain ⟨xk, hxk, exk⟩ := I.2.2.2.2.2.2.2.2.1
  have hx := xok he hxk exk
  have h9 : M 9 3 = Int32.ofNat n := (hv_3 H.1).trans hn
  have D19 := I.2.2.2.2.1
  unfold jfL_ticks
  rcases ck_range (lo := 1) (hi := 96) (by decide) (by decide) hx a with ⟨k, hk0, hk, eb, ck2, sb⟩ | ⟨sb, ck2⟩
  · subst eb
    have g := sp_gs_gr (A := A) (nf := false) (dr := true) G k
    refine opT_a I hM (v := (sp_gs A n false true (M 122) k).2.1) (f1 := (sp_gs A n false true (M 122) k).1) g.1 g.2.1 (fun s nx hs hnx t1 t2 t3 => ⟨?_, fun N hN => ?_⟩)
    · obtain ⟨M1, e1, w1, w2, a1, a2, E⟩ := c_remember H I.2.2.2.1.2.2 hs hnx t1 t3
      obtain ⟨M2, e2, n2, w3, f2⟩ := q_learn w1 G
      have hA2 : cAK A 29 M2 (M 122) := cAK_cp hA (lcp_of (fun c c1 c2 => (f2.1 c (by unfold qs; omega)).trans (E c (by omega) (by omega)))) tsame_rfl
      obtain ⟨M3, e3, w4, f3⟩ := c_ticks w3 G hA2 n2 hk
      refine ⟨M3, by simp (disch := omega) only [zL, zlt, zle, zeq, zadd, zmul, zin, zix, zsh1, Nat.add_zero, Nat.zero_add, Nat.mul_zero, if_true, if_false, if_pos, if_neg, sy_bi_ri, sy_bi_rt, sy_bv_rv, sy_bv_rt, sy_br_rr, sy_br_rn, sy_hi_ri, sy_hi_rt, sy_bs_t, sy_bx_t, sy_bb_t, bz_bo, ite_bz0, ite_bz1, jfX11_ticks, ck2, e1, e2, e3], CA_of hnx w4 w2 a1 a2 E (fun a h1 h2 => (f3 a (by omega) (by unfold qs at h1; omega)).trans (f2.1 a h1)) (fun d => dk_congr (f2.2 (dk_congr d (E 22 (by omega) (by omega)))) (f3 22 (by omega) (by omega)))⟩
    · have e122 : N 122 = M 122 := hN 122 (by omega) (by omega)
      have t2' : N 121 6 = Int32.ofNat s := by rw [hN 121 (by omega) (by omega)]; exact t2
      have rm := m_rem t2' hs
      have k0 : nr N s 121 = rs (thr N 0 121) 6 (Int32.ofNat (min 12 (s + 1))) := syc_at _ _ _
      have rr : rc tx false (nr N s) n (M 122) := ⟨(nr_122 N s).trans e122, G, ht, by rw [k0, rs_ne _ _ (by decide), thr_j _ _ (by decide), hN 121 (by omega) (by omega)]; exact I.2.2.2.2.2.2.2.1⟩
      obtain ⟨N1, e1, r1, _, _, f1⟩ := m_goesA hM (dr := true) (k := k) rr hk
      replace e1 : jfX12_goes (Int32.ofNat k) (Int32.ofNat 1) (nr N s) = _ := e1
      refine ⟨N1, ?_, RA_fm f1 r1.1⟩
      simp (disch := omega) only [zL, zlt, zle, zeq, zadd, zmul, zin, zix, zsh1, Nat.add_zero, Nat.zero_add, Nat.mul_zero, if_true, if_false, if_pos, if_neg, sy_bi_ri, sy_bi_rt, sy_bv_rv, sy_bv_rt, sy_br_rr, sy_br_rn, sy_hi_ri, sy_hi_rt, sy_bs_t, sy_bx_t, sy_bb_t, bz_bo, ite_bz0, ite_bz1, jfX12_ticks, jfX12_ticks_16, m_isIn, sb, cond_true, thr_up, thr_0, rm, e1]
  · refine opT_x I (cl := 20) (c := 1) ?_ rfl (by decide) (by decide) ?_
    · simp (disch := omega) only [zL, zlt, zle, zeq, zadd, zmul, zin, zix, zsh1, Nat.add_zero, Nat.zero_add, Nat.mul_zero, if_true, if_false, if_pos, if_neg, sy_bi_ri, sy_bi_rt, sy_bv_rv, sy_bv_rt, sy_br_rr, sy_br_rn, sy_hi_ri, sy_hi_rt, sy_bs_t, sy_bx_t, sy_bb_t, bz_bo, ite_bz0, ite_bz1, jfX11_ticks, ck2]
      all_goals rfl
    · intro N hN
      have eN : N 122 3 = Int32.ofNat n := by rw [hN 122 (by omega) (by omega)]; exact hn
      exact ⟨(Int32.ofNat 0), thr N 1, by simp (disch := omega) only [zL, zlt, zle, zeq, zadd, zmul, zin, zix, zsh1, Nat.add_zero, Nat.zero_add, Nat.mul_zero, if_true, if_false, if_pos, if_neg, sy_bi_ri, sy_bi_rt, sy_bv_rv, sy_bv_rt, sy_br_rr, sy_br_rn, sy_hi_ri, sy_hi_rt, sy_bs_t, sy_bx_t, sy_bb_t, bz_bo, ite_bz0, ite_bz1, jfX12_ticks, jfX12_ticks_16, sb, m_isLodger, eN, m_isIn, m_isTick, cond_true, cond_false, thr_up, thr_0], thr_0 _ _, fr_thr⟩
/-! a change of the row that is no act -/
theorem Inv_row {M1 M3 : sy_M} {n : Nat} {f1 : Nat → Int32} (I : Inv A tx L0 S e M) (hM : mAK A tx) (w : hw M1 9 f1) (c : ∀ a, (a < 9 ∨ 13 < a) → M1 a = M a) (r1 : M3 122 = f1) (r2 : ∀ a, a ≠ 121 → a ≠ 122 → M3 a = M1 a) (r3 : ∀ j, j ≠ 0 → M3 121 j = M1 121 j) (G : gr f1 n) (T : tsame (M 122) f1) : Inv A tx L0 S (e + 1) M3 := by
  obtain ⟨i1, i2, i3, i4, i5, i6, i7, i8, ⟨k, hk, ek⟩, i10, i11⟩ := I
  obtain ⟨n0, G0, H0, ht, hA, hl⟩ := i1
  have E : ∀ a, a ≠ 121 → a ≠ 122 → (a < 9 ∨ 13 < a) → M3 a = M a := fun a h1 h2 h3 => (r2 a h1 h2).trans (c a h3)
  have F : ∀ j, j ≠ 0 → M3 121 j = M 121 j := fun j hj => (r3 j hj).trans (by rw [c 121 (by omega)])
  refine ⟨⟨n, ?_, ?_, ?_, ?_, ?_⟩, ?_, ?_, ?_, ?_, ?_, ?_, ?_, ⟨k, by omega, ?_⟩, ?_, ?_⟩
  · rw [r1]; exact G
  · rw [r1]; exact hw_congr w (fun a h1 h2 => r2 a (by omega) (by omega))
  · rw [r1]; exact hM.1 _ _ ht T
  · rw [r1]; exact cAK_cp hA (lcp_of (fun a h1 h2 => E a (by omega) (by omega) (by omega))) T
  · rw [r1, E 29 (by omega) (by omega) (by omega), hl]; exact T.1.symm
  · exact IK_congr i2 (by rw [E 0 (by omega) (by omega) (by omega)]) (fun a h1 h2 => E a (by omega) (by omega) (by omega)) (fun a h1 h2 => E a (by omega) (by omega) (by omega)) (E _ (by omega) (by omega) (by omega)) (F 3 (by omega)) (fun i hi => by rw [r1]; exact T.2.2 i (by omega))
  · exact IT_congr i3 (fun a h1 h2 => E a (by omega) (by omega) (by omega)) (by rw [r1]; exact T) (F 6 (by omega)) (E _ (by omega) (by omega) (by omega))
  · exact ID_congr i4 (E _ (by omega) (by omega) (by omega)) (E _ (by omega) (by omega) (by omega)) (fun a h1 h2 => E a (by omega) (by omega) (by omega))
  · exact dk_congr i5 (E _ (by omega) (by omega) (by omega))
  · exact IP_congr i6 (by rw [E 1 (by omega) (by omega) (by omega)]) (E _ (by omega) (by omega) (by omega)) (F 8 (by omega)) (E _ (by omega) (by omega) (by omega))
  · rw [E 0 (by omega) (by omega) (by omega), F 12 (by omega)]; exact i7
  · rw [F 19 (by omega)]; exact i8
  · rw [E 133 (by omega) (by omega) (by omega)]; exact ek
  · rw [E 134 (by omega) (by omega) (by omega)]; exact i10
  · rw [E 1000000 (by omega) (by omega) (by omega)]; exact i11
theorem o_seed (hM : mAK A tx) (I : Inv A tx L0 S e M) (a : Int32) : opN A tx L0 S e (jfX11_seed a M) (jfX12_seed a) := by
  obtain ⟨n, G, H, ht, hA, hl⟩ := id I.1
  have w := hw_fld H (j := 13) (i := 13) (Or.inr (Or.inr (Or.inr ⟨rfl, rfl⟩))) a
  have e122 : syc M 9 (rs (M 9) 13 a) 122 = M 122 := syc_ne _ _ (by decide)
  have e122' : thr (syc M 9 (rs (M 9) 13 a)) 0 122 = M 122 := (thr_ne _ _ (by decide)).trans e122
  refine ⟨M 122 13, syc M 9 (rs (M 9) 13 a), syc (thr (syc M 9 (rs (M 9) 13 a)) 0) 122 (rs (M 122) 13 a), ?_, ?_, Inv_row I hM w (fun c hc => syc_ne _ _ (by omega)) (syc_at _ _ _) (fun c h1 h2 => by rw [syc_ne _ _ h2, thr_ne _ _ h1]) (fun j hj => by rw [syc_ne _ _ (by decide), thr_j _ _ hj]) (gr_seed G) (tsame_rs (by omega) (by omega) (by omega)), ?_, ?_⟩
  · simp (disch := omega) only [zL, zlt, zle, zeq, zadd, zmul, zin, zix, zsh1, Nat.add_zero, Nat.zero_add, Nat.mul_zero, if_true, if_false, if_pos, if_neg, sy_bi_ri, sy_bi_rt, sy_bv_rv, sy_bv_rt, sy_br_rr, sy_br_rn, sy_hi_ri, sy_hi_rt, sy_bs_t, sy_bx_t, sy_bb_t, bz_bo, ite_bz0, ite_bz1, jfX11_seed, hv_13 H.1, sy_upd_st]
  · simp (disch := omega) only [zL, zlt, zle, zeq, zadd, zmul, zin, zix, zsh1, Nat.add_zero, Nat.zero_add, Nat.mul_zero, if_true, if_false, if_pos, if_neg, sy_bi_ri, sy_bi_rt, sy_bv_rv, sy_bv_rt, sy_br_rr, sy_br_rn, sy_hi_ri, sy_hi_rt, sy_bs_t, sy_bx_t, sy_bb_t, bz_bo, ite_bz0, ite_bz1, jfX12_seed, thr_up, e122', sy_upd_st (thr (syc M 9 (rs (M 9) 13 a)) 0)]
  · rw [syc_ne _ _ (by decide)]; exact I.2.2.2.2.2.2.2.2.2.1
  · rw [syc_ne _ _ (by decide)]; exact I.2.2.2.2.2.2.2.2.2.2
/-! the tape -/
theorem Inv_tape {M3 : sy_M} (I : Inv A tx L0 S e M) (r2 : ∀ a, a ≠ 1 → a ≠ 2 → a ≠ 121 → a ≠ 126 → M3 a = M a) (r3 : ∀ j, j ≠ 0 → j ≠ 8 → M3 121 j = M 121 j) (P : IP M3) : Inv A tx L0 S (e + 1) M3 := by
  obtain ⟨i1, i2, i3, i4, i5, i6, i7, i8, ⟨k, hk, ek⟩, i10, i11⟩ := I
  refine ⟨IA_congr i1 (fun a h1 h2 => r2 a (by omega) (by omega) (by omega) (by omega)) (fun a h1 h2 => r2 a (by omega) (by omega) (by omega) (by omega)) (r2 _ (by omega) (by omega) (by omega) (by omega)), IK_congr i2 (by rw [r2 0 (by omega) (by omega) (by omega) (by omega)]) (fun a h1 h2 => r2 a (by omega) (by omega) (by omega) (by omega)) (fun a h1 h2 => r2 a (by omega) (by omega) (by omega) (by omega)) (r2 _ (by omega) (by omega) (by omega) (by omega)) (r3 _ (by omega) (by omega)) (fun i _ => by rw [r2 122 (by omega) (by omega) (by omega) (by omega)]), IT_congr i3 (fun a h1 h2 => r2 a (by omega) (by omega) (by omega) (by omega)) (by rw [r2 122 (by omega) (by omega) (by omega) (by omega)]; exact tsame_rfl) (r3 _ (by omega) (by omega)) (r2 _ (by omega) (by omega) (by omega) (by omega)), ID_congr i4 (r2 _ (by omega) (by omega) (by omega) (by omega)) (r2 _ (by omega) (by omega) (by omega) (by omega)) (fun a h1 h2 => r2 a (by omega) (by omega) (by omega) (by omega)), dk_congr i5 (r2 _ (by omega) (by omega) (by omega) (by omega)), P, ?_, ?_, ⟨k, by omega, ?_⟩, ?_, ?_⟩
  · rw [r2 0 (by omega) (by omega) (by omega) (by omega), r3 12 (by omega) (by omega)]; exact i7
  · rw [r3 19 (by omega) (by omega)]; exact i8
  · rw [r2 133 (by omega) (by omega) (by omega) (by omega)]; exact ek
  · rw [r2 134 (by omega) (by omega) (by omega) (by omega)]; exact i10
  · rw [r2 1000000 (by omega) (by omega) (by omega) (by omega)]; exact i11
theorem o_end (I : Inv A tx L0 S e M) (a : Int32) : opN A tx L0 S e (jfX11_end a M) (jfX12_end a) := by
  obtain ⟨L, hL, p1, p2, p3⟩ := I.2.2.2.2.2.1
  have no : sp_in a (Int32.ofNat 0) (Int32.ofNat L) = false → jfX11_end a M = sy_ri (Int32.ofNat 0) M → opN A tx L0 S e (jfX11_end a M) (jfX12_end a) := by
    intro h1 h2
    refine opN_q I (v := (Int32.ofNat 0)) ⟨M, h2, fq_rfl⟩ (fun N hN => ⟨thr N 0, ?_, fr_thr⟩)
    have e8 : thr N 0 121 8 = Int32.ofNat L := by rw [thr_j _ _ (by decide), hN 121 (by omega) (by omega)]; exact p2
    simp (disch := omega) only [zL, zlt, zle, zeq, zadd, zmul, zin, zix, zsh1, Nat.add_zero, Nat.zero_add, Nat.mul_zero, if_true, if_false, if_pos, if_neg, sy_bi_ri, sy_bi_rt, sy_bv_rv, sy_bv_rt, sy_br_rr, sy_br_rn, sy_hi_ri, sy_hi_rt, sy_bs_t, sy_bx_t, sy_bb_t, bz_bo, ite_bz0, ite_bz1, jfX12_end, thr_up, e8, m_isIn, h1, cond_false]
  by_cases h0 : a < (Int32.ofNat 0)
  · refine no (sp_in_neg h0) ?_
    unfold jfX11_end
    rw [if_pos (show a < 0 from h0)]
    rfl
  · obtain ⟨k, hk, ea⟩ := zex_nat a h0
    subst ea
    by_cases hkL : k ≤ L
    · have si : sp_in (Int32.ofNat k) (Int32.ofNat 0) (Int32.ofNat L) = true := by rw [sp_in_z hk (by omega) (by omega)]; exact decide_eq_true (by omega)
      have e8 : thr (syc M 1 (rs (M 1) 4 (Int32.ofNat k))) 0 121 8 = Int32.ofNat L := by rw [thr_j _ _ (by decide), syc_ne _ _ (by decide)]; exact p2
      refine ⟨(Int32.ofNat 1), syc M 1 (rs (M 1) 4 (Int32.ofNat k)), syc (thr (syc M 1 (rs (M 1) 4 (Int32.ofNat k))) 0) 121 (rs (thr (syc M 1 (rs (M 1) 4 (Int32.ofNat k))) 0 121) 8 (Int32.ofNat k)), ?_, ?_, Inv_tape I (fun c h1 h2 h3 h4 => by rw [syc_ne _ _ h3, thr_ne _ _ h3, syc_ne _ _ h1]) (fun j h1 h2 => by rw [syc_at, rs_ne _ _ h2, thr_j _ _ h1, syc_ne _ _ (by decide)]) ⟨k, by omega, ?_, ?_, fun i hi => ?_⟩, ?_, ?_⟩
      · simp (disch := omega) only [zL, zlt, zle, zeq, zadd, zmul, zin, zix, zsh1, Nat.add_zero, Nat.zero_add, Nat.mul_zero, if_true, if_false, if_pos, if_neg, sy_bi_ri, sy_bi_rt, sy_bv_rv, sy_bv_rt, sy_br_rr, sy_br_rn, sy_hi_ri, sy_hi_rt, sy_bs_t, sy_bx_t, sy_bb_t, bz_bo, ite_bz0, ite_bz1, jfX11_end, p1, sy_upd_st]
      · simp (disch := omega) only [zL, zlt, zle, zeq, zadd, zmul, zin, zix, zsh1, Nat.add_zero, Nat.zero_add, Nat.mul_zero, if_true, if_false, if_pos, if_neg, sy_bi_ri, sy_bi_rt, sy_bv_rv, sy_bv_rt, sy_br_rr, sy_br_rn, sy_hi_ri, sy_hi_rt, sy_bs_t, sy_bx_t, sy_bb_t, bz_bo, ite_bz0, ite_bz1, jfX12_end, thr_up, e8, m_isIn, si, cond_true, sy_upd_st (thr (syc M 1 (rs (M 1) 4 (Int32.ofNat k))) 0)]
      · rw [syc_ne _ _ (by decide), thr_ne _ _ (by decide), syc_at, rs_at]
      · rw [syc_at, rs_at]
      · have := p3 i (by omega)
        rw [syc_ne _ _ (by decide), thr_ne _ _ (by decide), syc_ne _ _ (by decide), syc_ne _ _ (by decide), thr_ne _ _ (by decide), syc_ne _ _ (by decide)]
        exact this
      · rw [syc_ne _ _ (by decide)]; exact I.2.2.2.2.2.2.2.2.2.1
      · rw [syc_ne _ _ (by decide)]; exact I.2.2.2.2.2.2.2.2.2.2
    · refine no (by rw [sp_in_z hk (by omega) (by omega)]; exact decide_eq_false (by omega)) ?_
      simp (disch := omega) only [zL, zlt, zle, zeq, zadd, zmul, zin, zix, zsh1, Nat.add_zero, Nat.zero_add, Nat.mul_zero, if_true, if_false, if_pos, if_neg, sy_bi_ri, sy_bi_rt, sy_bv_rv, sy_bv_rt, sy_br_rr, sy_br_rn, sy_hi_ri, sy_hi_rt, sy_bs_t, sy_bx_t, sy_bb_t, bz_bo, ite_bz0, ite_bz1, jfX11_end, p1]
end
