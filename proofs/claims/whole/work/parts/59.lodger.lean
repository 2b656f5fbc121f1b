/-! ===== a lodger ===== -/
section
variable {A : (Nat → Int32) → Nat → Int32 × Bool} {tx : (Nat → Int32) → Prop} {L0 : Int32} {S : Nat → Int32} {e : Nat} {M : sy_M}
theorem sum_fed {n : Nat} {f : Nat → Int32} (h7 : n ≤ 7) : sp_fed f n (sp_all n) = sp_sum f n 8 := by
  unfold sp_fed sp_sum
  exact sy_fo_congr n 0 _ (fun j b h1 h2 => by rw [all_bit h7 (by omega), cond_true])
theorem fed_le {f : Nat → Int32} (H : rb f) : ∀ n, n ≤ 7 → ∃ k, k ≤ 999 * n ∧ sp_sum f n 8 = Int32.ofNat k := by
  intro n
  unfold sp_sum
  induction n with
  | zero => exact fun _ => ⟨0, by omega, rfl⟩
  | succ n ih =>
    intro h
    obtain ⟨k, hk, e⟩ := ih (by omega)
    obtain ⟨b, hb, e2⟩ := rb_fed H (p := n) (by omega)
    exact ⟨k + b, by omega, by rw [sy_fo_last, e, Nat.zero_add, e2, zadd]⟩
theorem fa_fr {N N1 : sy_M} (h : fa N N1) : fr N N1 := ⟨fun a ha => h.1 a (by unfold rx at ha; omega) (by unfold rx at ha; omega), fun j hj => h.2 j (by omega)⟩
theorem o_lodger (hM : mAK A tx) (I : Inv A tx L0 S e M) (he : e < 90000) (a b : Int32) : opT A tx L0 S e (jfL_lodger a b M) (jfX12_lodger a b) := by
  obtain ⟨n, G, H, ht, hA, hl⟩ := id I.1
  have hn := G.2.1
  have h7 := G.2.2.1
  obtain ⟨xk, hxk, exk⟩ := I.2.2.2.2.2.2.2.2.1
  have hx := xok he hxk exk
  have h9 : M 9 3 = Int32.ofNat n := (hv_3 H.1).trans hn
  have D19 := I.2.2.2.2.1
  unfold jfL_lodger
  rcases ck_lodger h7 h9 hx a with ⟨p, hp, ea, ck, sa⟩ | ⟨sa, ck⟩
  · subst ea
    have bad : sp_in b (Int32.ofNat 0) (Int32.ofNat 13) = false → jfX11_lodger (Int32.ofNat p) b M = sy_rt 23 (sx M) → opT A tx L0 S e (jfL_lodger (Int32.ofNat p) b M) (jfX12_lodger (Int32.ofNat p) b) := by
      intro sb ec
      refine opT_x I (cl := 23) (c := 2) ec rfl (by decide) (by decide) (fun N hN => ⟨(Int32.ofNat 0), thr N 2, ?_, thr_0 _ _, fr_thr⟩)
      have eN : N 122 3 = Int32.ofNat n := by rw [hN 122 (by omega) (by omega)]; exact hn
      simp (disch := omega) only [zL, zlt, zle, zeq, zadd, zmul, zin, zix, zsh1, Nat.add_zero, Nat.zero_add, Nat.mul_zero, if_true, if_false, if_pos, if_neg, sy_bi_ri, sy_bi_rt, sy_bv_rv, sy_bv_rt, sy_br_rr, sy_br_rn, sy_hi_ri, sy_hi_rt, sy_bs_t, sy_bx_t, sy_bb_t, bz_bo, ite_bz0, ite_bz1, jfX12_lodger, jfX12_lodger_28, m_isLodger, eN, sa, m_isIn, sb, cond_true, cond_false, thr_up, thr_0]
    by_cases h0 : b < (Int32.ofNat 0)
    · refine bad (sp_in_neg h0) ?_
      have ne : ∀ k : Nat, k < 100 → ¬ b = Int32.ofNat k := fun k hk z => znn k (by omega) (z ▸ h0)
      unfold jfX11_lodger jfX11_lodger_25
      rw [ck, sy_bv_rv, if_pos (show b < 0 from h0), if_neg (show ¬ b = 9 from ne 9 (by decide)), if_neg (show ¬ b = 10 from ne 10 (by decide)), if_neg (show ¬ b = 11 from ne 11 (by decide)), if_neg (show ¬ b = 12 from ne 12 (by decide)), if_neg (show ¬ b = 13 from ne 13 (by decide)), hx, sy_bx_t]
      rfl
    · obtain ⟨u, hu, eb⟩ := zex_nat b h0
      subst eb
      by_cases h14 : u < 14
      · have sb : sp_in (Int32.ofNat u) (Int32.ofNat 0) (Int32.ofNat 13) = true := by rw [sp_in_z hu (by omega) (by omega)]; exact decide_eq_true (by omega)
        have ref : ∀ (N : sy_M), rq M N → jfX12_lodger (Int32.ofNat p) (Int32.ofNat u) N = jfX12_lodger_28 (Int32.ofNat p) (Int32.ofNat u) (Int32.ofNat 0) N := by
          intro N hN
          have eN : N 122 3 = Int32.ofNat n := by rw [hN 122 (by omega) (by omega)]; exact hn
          simp (disch := omega) only [zL, zlt, zle, zeq, zadd, zmul, zin, zix, zsh1, Nat.add_zero, Nat.zero_add, Nat.mul_zero, if_true, if_false, if_pos, if_neg, sy_bi_ri, sy_bi_rt, sy_bv_rv, sy_bv_rt, sy_br_rr, sy_br_rn, sy_hi_ri, sy_hi_rt, sy_bs_t, sy_bx_t, sy_bb_t, bz_bo, ite_bz0, ite_bz1, jfX12_lodger, m_isLodger, eN, sa, m_isIn, sb, cond_true]
        have ask : ∀ (N : sy_M), rq M N → ∃ N1, jfX12_asks (Int32.ofNat p) (thr N 0) = sy_rv N1 ∧ N1 121 17 = (A (M 122) p).1 ∧ N1 121 18 = bz (A (M 122) p).2 ∧ fa (thr N 0) N1 ∧ N1 122 = M 122 ∧ N1 121 0 = (Int32.ofNat 0) := by
          intro N hN
          have e122 : thr N 0 122 = M 122 := (thr_ne _ _ (by decide)).trans (hN 122 (by omega) (by omega))
          obtain ⟨N1, k1, k2, k3, k4⟩ := hM.2 (thr N 0) p (by rw [e122]; exact ht) (by omega)
          rw [e122] at k2 k3
          exact ⟨N1, k1, k2, k3, k4, (k4.1 122 (by decide) (by decide)).trans e122, (k4.2 0 (by omega)).trans (thr_0 _ _)⟩
        by_cases h9b : u < 9
        · refine opT_q I (v := M 122 (14 + 9 * p + u)) ⟨M, by simp (disch := omega) only [zL, zlt, zle, zeq, zadd, zmul, zin, zix, zsh1, Nat.add_zero, Nat.zero_add, Nat.mul_zero, if_true, if_false, if_pos, if_neg, sy_bi_ri, sy_bi_rt, sy_bv_rv, sy_bv_rt, sy_br_rr, sy_br_rn, sy_hi_ri, sy_hi_rt, sy_bs_t, sy_bx_t, sy_bb_t, bz_bo, ite_bz0, ite_bz1, jfX11_lodger, ck, c_get H.1], fq_rfl⟩ (fun N hN => ⟨thr N 0, ?_, thr_0 _ _, fr_thr⟩)
          have e122 : thr N 0 122 = M 122 := (thr_ne _ _ (by decide)).trans (hN 122 (by omega) (by omega))
          rw [ref N hN]
          simp (disch := omega) only [zL, zlt, zle, zeq, zadd, zmul, zin, zix, zsh1, Nat.add_zero, Nat.zero_add, Nat.mul_zero, if_true, if_false, if_pos, if_neg, sy_bi_ri, sy_bi_rt, sy_bv_rv, sy_bv_rt, sy_br_rr, sy_br_rn, sy_hi_ri, sy_hi_rt, sy_bs_t, sy_bx_t, sy_bb_t, bz_bo, ite_bz0, ite_bz1, jfX12_lodger_28, thr_up, thr_0, m_of, e122]
        · rcases (show u = 9 ∨ u = 10 ∨ u = 11 ∨ u = 12 ∨ u = 13 by omega) with h | h | h | h | h <;> subst h
          · refine opT_q I (v := (A (M 122) p).1) ?_ (fun N hN => ?_)
            · obtain ⟨M1, e1, t1, f1⟩ := c_tell H.1 (p := p) (by omega)
              have a1 := hA M1 (M 122) p (lcp_of (fun c c1 c2 => f1 c (by omega))) tsame_rfl (by omega) t1
              exact ⟨M1, by simp (disch := omega) only [zL, zlt, zle, zeq, zadd, zmul, zin, zix, zsh1, Nat.add_zero, Nat.zero_add, Nat.mul_zero, if_true, if_false, if_pos, if_neg, sy_bi_ri, sy_bi_rt, sy_bv_rv, sy_bv_rt, sy_br_rr, sy_br_rn, sy_hi_ri, sy_hi_rt, sy_bs_t, sy_bx_t, sy_bb_t, bz_bo, ite_bz0, ite_bz1, jfX11_lodger, jfX11_lodger_25, jfX11_lodger_60, ck, e1, a1.2], ⟨fun c hc => f1 c (by unfold qs at hc; omega), fun d => dk_congr d (f1 _ (by omega))⟩⟩
            · obtain ⟨N1, k1, k2, k3, k4, k5, k6⟩ := ask N hN
              exact ⟨N1, by rw [ref N hN]; simp (disch := omega) only [zL, zlt, zle, zeq, zadd, zmul, zin, zix, zsh1, Nat.add_zero, Nat.zero_add, Nat.mul_zero, if_true, if_false, if_pos, if_neg, sy_bi_ri, sy_bi_rt, sy_bv_rv, sy_bv_rt, sy_br_rr, sy_br_rn, sy_hi_ri, sy_hi_rt, sy_bs_t, sy_bx_t, sy_bb_t, bz_bo, ite_bz0, ite_bz1, jfX12_lodger_28, thr_up, thr_0, k1, k2], k6, fr_thr.trans (fa_fr k4)⟩
          · refine opT_q I (v := bz (A (M 122) p).2) ?_ (fun N hN => ?_)
            · obtain ⟨M1, e1, t1, f1⟩ := c_tell H.1 (p := p) (by omega)
              have a1 := hA M1 (M 122) p (lcp_of (fun c c1 c2 => f1 c (by omega))) tsame_rfl (by omega) t1
              exact ⟨M1, by simp (disch := omega) only [zL, zlt, zle, zeq, zadd, zmul, zin, zix, zsh1, Nat.add_zero, Nat.zero_add, Nat.mul_zero, if_true, if_false, if_pos, if_neg, sy_bi_ri, sy_bi_rt, sy_bv_rv, sy_bv_rt, sy_br_rr, sy_br_rn, sy_hi_ri, sy_hi_rt, sy_bs_t, sy_bx_t, sy_bb_t, bz_bo, ite_bz0, ite_bz1, jfX11_lodger, jfX11_lodger_25, jfX11_lodger_87, ck, e1, a1.1, ri_bz], ⟨fun c hc => f1 c (by unfold qs at hc; omega), fun d => dk_congr d (f1 _ (by omega))⟩⟩
            · obtain ⟨N1, k1, k2, k3, k4, k5, k6⟩ := ask N hN
              exact ⟨N1, by rw [ref N hN]; simp (disch := omega) only [zL, zlt, zle, zeq, zadd, zmul, zin, zix, zsh1, Nat.add_zero, Nat.zero_add, Nat.mul_zero, if_true, if_false, if_pos, if_neg, sy_bi_ri, sy_bi_rt, sy_bv_rv, sy_bv_rt, sy_br_rr, sy_br_rn, sy_hi_ri, sy_hi_rt, sy_bs_t, sy_bx_t, sy_bb_t, bz_bo, ite_bz0, ite_bz1, jfX12_lodger_28, thr_up, thr_0, k1, k3, ri_bz], k6, fr_thr.trans (fa_fr k4)⟩
          · obtain ⟨s, hs, es⟩ := fed_le G.1 n h7
            refine opT_q I (v := if s = 0 then (Int32.ofNat 0) else (Int32.ofNat 100) * M 122 (14 + 9 * p + 8) / Int32.ofNat s) ⟨M, ?_, fq_rfl⟩ (fun N hN => ?_)
            · have e2 := c_sum H.1 (w := 8) (by decide) hn h7
              rw [es] at e2
              have e0 : jfX11_lodger (Int32.ofNat p) (Int32.ofNat 11) M = sy_bi (jfX11_hundredths (M 122 (14 + 9 * p + 8)) (Int32.ofNat s) M) fun v6 M5 => sy_ri v6 M5 := by
                simp (disch := omega) only [zL, zlt, zle, zeq, zadd, zmul, zin, zix, zsh1, Nat.add_zero, Nat.zero_add, Nat.mul_zero, if_true, if_false, if_pos, if_neg, sy_bi_ri, sy_bi_rt, sy_bv_rv, sy_bv_rt, sy_br_rr, sy_br_rn, sy_hi_ri, sy_hi_rt, sy_bs_t, sy_bx_t, sy_bb_t, bz_bo, ite_bz0, ite_bz1, jfX11_lodger, jfX11_lodger_25, jfX11_lodger_122, ck, c_get H.1, e2]
              rw [e0]
              unfold jfX11_hundredths jfX11_share
              by_cases hs0 : s = 0
              · subst hs0
                rw [if_pos rfl, if_neg (show ¬ (0 : Int32) < Int32.ofNat 0 by decide)]
                rfl
              · rw [if_neg hs0, if_pos (show (0 : Int32) < Int32.ofNat s from (zlt (a := 0) (by decide) (by omega)).mpr (by omega)), if_neg (show ¬ Int32.ofNat s = 0 from fun z => hs0 ((zeq (b := 0) (by omega) (by decide)).mp z))]
                rfl
            · obtain ⟨N1, k1, k2, k3, k4, k5, k6⟩ := ask N hN
              refine ⟨N1, ?_, k6, fr_thr.trans (fa_fr k4)⟩
              have al := m_all (M := N1) (n := n) (by rw [k5]; exact hn) h7
              have fd := m_fedOf (M := N1) (s := sp_all n) k5 hn h7
              rw [sum_fed h7, es] at fd
              have e0 : jfX12_lodger_28 (Int32.ofNat p) (Int32.ofNat 11) (Int32.ofNat 0) N = if Int32.ofNat s = 0 then sy_ri 0 N1 else sy_bi (jfX12_of (Int32.ofNat p) 8 N1) fun v12 M11 => sy_bi (jfX12_all M11) fun v14 M13 => sy_bi (jfX12_fedOf v14 M13) fun v16 M15 => if v16 = 0 then none else sy_ri ((100 * v12) / v16) M15 := by
                unfold jfX12_lodger_28
                rw [thr_up]
                show (if 0 < thr N 0 121 0 then _ else _) = _
                rw [thr_0, if_neg (show ¬ (0 : Int32) < (Int32.ofNat 0) by decide), if_neg (show ¬ (Int32.ofNat 11 < 9) by decide), k1, sy_bv_rv, if_neg (show ¬ (Int32.ofNat 11 = 9) by decide), if_neg (show ¬ (Int32.ofNat 11 = 10) by decide), if_pos (show Int32.ofNat 11 = 11 from rfl), al, sy_bi_ri, fd, sy_bi_ri]
              rw [ref N hN, e0]
              by_cases hs0 : s = 0
              · subst hs0
                rw [if_pos rfl, if_pos (show (Int32.ofNat 0 : Int32) = 0 from rfl)]
                rfl
              · have q0 : ¬ Int32.ofNat s = 0 := fun z => hs0 ((zeq (b := 0) (by omega) (by decide)).mp z)
                rw [if_neg q0, if_neg hs0, show (8 : Int32) = (Int32.ofNat 8) from rfl, m_of (by omega) (by decide), sy_bi_ri, al, sy_bi_ri, fd, sy_bi_ri, if_neg q0, k5]
                rfl
          · refine opT_q I (v := sp_mt (M 122) p) ⟨M, by simp (disch := omega) only [zL, zlt, zle, zeq, zadd, zmul, zin, zix, zsh1, Nat.add_zero, Nat.zero_add, Nat.mul_zero, if_true, if_false, if_pos, if_neg, sy_bi_ri, sy_bi_rt, sy_bv_rv, sy_bv_rt, sy_br_rr, sy_br_rn, sy_hi_ri, sy_hi_rt, sy_bs_t, sy_bx_t, sy_bb_t, bz_bo, ite_bz0, ite_bz1, jfX11_lodger, jfX11_lodger_25, jfX11_lodger_145, ck, c_metered H.1 G.1], fq_rfl⟩ (fun N hN => ?_)
            obtain ⟨N1, k1, k2, k3, k4, k5, k6⟩ := ask N hN
            exact ⟨N1, by rw [ref N hN]; simp (disch := omega) only [zL, zlt, zle, zeq, zadd, zmul, zin, zix, zsh1, Nat.add_zero, Nat.zero_add, Nat.mul_zero, if_true, if_false, if_pos, if_neg, sy_bi_ri, sy_bi_rt, sy_bv_rv, sy_bv_rt, sy_br_rr, sy_br_rn, sy_hi_ri, sy_hi_rt, sy_bs_t, sy_bx_t, sy_bb_t, bz_bo, ite_bz0, ite_bz1, jfX12_lodger_28, thr_up, thr_0, k1, m_metered k5], k6, fr_thr.trans (fa_fr k4)⟩
          · refine opT_q I (v := Int32.ofNat (sp_bw A n (M 122) p 20).1) ?_ (fun N hN => ?_)
            · obtain ⟨M1, e1, s1, f1⟩ := q_st H G hA D19
              obtain ⟨M2, e2, s2, f2⟩ := c_bestWait s1 hp
              exact ⟨M2, by simp (disch := omega) only [zL, zlt, zle, zeq, zadd, zmul, zin, zix, zsh1, Nat.add_zero, Nat.zero_add, Nat.mul_zero, if_true, if_false, if_pos, if_neg, sy_bi_ri, sy_bi_rt, sy_bv_rv, sy_bv_rt, sy_br_rr, sy_br_rn, sy_hi_ri, sy_hi_rt, sy_bs_t, sy_bx_t, sy_bb_t, bz_bo, ite_bz0, ite_bz1, jfX11_lodger, jfX11_lodger_25, jfX11_lodger_154, ck, e1, e2], f1.trans (s2.fq f2)⟩
            · obtain ⟨N1, k1, k2, k3, k4, k5, k6⟩ := ask N hN
              have r1 : rc tx false N1 n (M 122) := ⟨k5, G, ht, by rw [k4.2 19 (by omega), thr_j _ _ (by decide), hN 121 (by omega) (by omega)]; exact I.2.2.2.2.2.2.2.1⟩
              obtain ⟨N2, e2, f2⟩ := m_bestOf hM r1 hp
              exact ⟨N2, by rw [ref N hN]; simp (disch := omega) only [zL, zlt, zle, zeq, zadd, zmul, zin, zix, zsh1, Nat.add_zero, Nat.zero_add, Nat.mul_zero, if_true, if_false, if_pos, if_neg, sy_bi_ri, sy_bi_rt, sy_bv_rv, sy_bv_rt, sy_br_rr, sy_br_rn, sy_hi_ri, sy_hi_rt, sy_bs_t, sy_bx_t, sy_bb_t, bz_bo, ite_bz0, ite_bz1, jfX12_lodger_28, thr_up, thr_0, k1, e2], (f2.2 0 (by omega)).trans k6, (fr_thr.trans (fa_fr k4)).trans f2.fr⟩
      · have sb : sp_in (Int32.ofNat u) (Int32.ofNat 0) (Int32.ofNat 13) = false := by rw [sp_in_z hu (by omega) (by omega)]; exact decide_eq_false (by omega)
        refine bad sb ?_
        simp (disch := omega) only [zL, zlt, zle, zeq, zadd, zmul, zin, zix, zsh1, Nat.add_zero, Nat.zero_add, Nat.mul_zero, if_true, if_false, if_pos, if_neg, sy_bi_ri, sy_bi_rt, sy_bv_rv, sy_bv_rt, sy_br_rr, sy_br_rn, sy_hi_ri, sy_hi_rt, sy_bs_t, sy_bx_t, sy_bb_t, bz_bo, ite_bz0, ite_bz1, jfX11_lodger, jfX11_lodger_25, ck, hx]
        rfl
  · refine opT_x I (cl := 22) (c := 1) ?_ rfl (by decide) (by decide) ?_
    · simp (disch := omega) only [zL, zlt, zle, zeq, zadd, zmul, zin, zix, zsh1, Nat.add_zero, Nat.zero_add, Nat.mul_zero, if_true, if_false, if_pos, if_neg, sy_bi_ri, sy_bi_rt, sy_bv_rv, sy_bv_rt, sy_br_rr, sy_br_rn, sy_hi_ri, sy_hi_rt, sy_bs_t, sy_bx_t, sy_bb_t, bz_bo, ite_bz0, ite_bz1, jfX11_lodger, ck]
      all_goals rfl
    · intro N hN
      have eN : N 122 3 = Int32.ofNat n := by rw [hN 122 (by omega) (by omega)]; exact hn
      exact ⟨(Int32.ofNat 0), thr N 1, by simp (disch := omega) only [zL, zlt, zle, zeq, zadd, zmul, zin, zix, zsh1, Nat.add_zero, Nat.zero_add, Nat.mul_zero, if_true, if_false, if_pos, if_neg, sy_bi_ri, sy_bi_rt, sy_bv_rv, sy_bv_rt, sy_br_rr, sy_br_rn, sy_hi_ri, sy_hi_rt, sy_bs_t, sy_bx_t, sy_bb_t, bz_bo, ite_bz0, ite_bz1, jfX12_lodger, jfX12_lodger_28, sa, m_isLodger, eN, m_isIn, m_isTick, cond_true, cond_false, thr_up, thr_0], thr_0 _ _, fr_thr⟩
end
