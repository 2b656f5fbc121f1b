/-! ===== the acts: put, lend, repay, home, empty, ticks ===== -/
section
variable {A : (Nat → Int32) → Nat → Int32 × Bool} {tx : (Nat → Int32) → Prop} {L0 : Int32} {S : Nat → Int32} {e : Nat} {M : sy_M}
theorem opN_a (I : Inv A tx L0 S e M) (hM : mAK A tx) {x : sy_O} {y : sy_M → sy_O} {v : Int32} {n : Nat} {f1 : Nat → Int32} (G : gr f1 n) (T : tsame (M 122) f1) (h : ∀ s nx, s ≤ 12 → nx < 12 → M 57 1 = Int32.ofNat s → M 121 6 = Int32.ofNat s → M 57 2 = Int32.ofNat nx → (∃ M1, x = sy_ri v M1 ∧ CA M s nx f1 M1) ∧ (∀ N, rq M N → ∃ N1, y N = sy_ri v N1 ∧ N1 121 0 = (Int32.ofNat 0) ∧ RA s f1 N N1)) : opN A tx L0 S e x y := by
  obtain ⟨s, nx, hs, hnx, t1, t2, t3, t6⟩ := I.2.2.1
  obtain ⟨⟨M1, e1, c1⟩, hr⟩ := h s nx hs hnx t1 t2 t3
  obtain ⟨M3, e3, t, r3⟩ := hr M1 (fun a h1 h2 => c1.2.1 a (by unfold qs; omega) (by omega) (by omega))
  refine ⟨v, M1, M3, e1, e3, Inv_act I hM hs hnx t2 t6 c1 r3 G T, ?_, ?_⟩
  · rw [c1.2.1 134 (by unfold qs; omega) (by omega) (by omega)]; exact I.2.2.2.2.2.2.2.2.2.1
  · rw [c1.2.1 1000000 (by unfold qs; omega) (by omega) (by omega)]; exact I.2.2.2.2.2.2.2.2.2.2
theorem o_empty (hM : mAK A tx) (I : Inv A tx L0 S e M) : opN A tx L0 S e (jfX11_empty M) (jfX12_empty) := by
  obtain ⟨n, G, H, ht, hA, hl⟩ := id I.1
  refine opN_a I hM (v := M 122 10) (f1 := rs (M 122) 10 (Int32.ofNat 0)) (gr_box G (by omega)) (tsame_rs (by omega) (by omega) (by omega)) (fun s nx hs hnx t1 t2 t3 => ⟨?_, fun N hN => ?_⟩)
  · obtain ⟨M1, e1, w1, w2, a1, a2, E⟩ := c_remember H I.2.2.2.1.2.2 hs hnx t1 t3
    have w3 := hw_fld w1 (j := 11) (i := 10) (Or.inl ⟨rfl, by omega, by omega⟩) (Int32.ofNat 0)
    exact ⟨_, by simp (disch := omega) only [zL, zlt, zle, zeq, zadd, zmul, zin, zix, zsh1, Nat.add_zero, Nat.zero_add, Nat.mul_zero, if_true, if_false, if_pos, if_neg, sy_bi_ri, sy_bi_rt, sy_bv_rv, sy_bv_rt, sy_br_rr, sy_br_rn, sy_hi_ri, sy_hi_rt, sy_bs_t, sy_bx_t, sy_bb_t, bz_bo, ite_bz0, ite_bz1, jfX11_empty, e1, hv_11 w1.1, sy_upd_st], CA_of hnx w3 w2 a1 a2 E (fun a h1 h2 => syc_ne _ _ (by omega)) (fun d => dk_congr d ((syc_ne _ _ (by omega)).trans (E 22 (by omega) (by omega))))⟩
  · have e122 : N 122 = M 122 := hN 122 (by omega) (by omega)
    have t2' : N 121 6 = Int32.ofNat s := by rw [hN 121 (by omega) (by omega)]; exact t2
    have rm := m_rem t2' hs
    refine ⟨syc (nr N s) 122 (rs (M 122) 10 (Int32.ofNat 0)), ?_, RA_fm fm_syc (syc_at _ _ _)⟩
    simp (disch := omega) only [zL, zlt, zle, zeq, zadd, zmul, zin, zix, zsh1, Nat.add_zero, Nat.zero_add, Nat.mul_zero, if_true, if_false, if_pos, if_neg, sy_bi_ri, sy_bi_rt, sy_bv_rv, sy_bv_rt, sy_br_rr, sy_br_rn, sy_hi_ri, sy_hi_rt, sy_bs_t, sy_bx_t, sy_bb_t, bz_bo, ite_bz0, ite_bz1, jfX12_empty, jfX12_sets, thr_up, rm, nr_122, e122, sy_upd_st (nr N s)]
theorem o_home (hM : mAK A tx) (I : Inv A tx L0 S e M) (he : e < 90000) (a b c : Int32) : opT A tx L0 S e (jfL_home a b c M) (jfX12_home a b c) := by
  obtain ⟨n, G, H, ht, hA, hl⟩ := id I.1
  have hn := G.2.1
  have h7 := G.2.2.1
  obtain ⟨xk, hxk, exk⟩ := I.2.2.2.2.2.2.2.2.1
  have hx := xok he hxk exk
  have h9 : M 9 3 = Int32.ofNat n := (hv_3 H.1).trans hn
  have D19 := I.2.2.2.2.1
  unfold jfL_home
  rcases ck_lodger h7 h9 hx a with ⟨p, hp, ea, ck, sa⟩ | ⟨sa, ck⟩
  · rcases ck_tick hx b with ⟨u, hu, eb, ck2, sb⟩ | ⟨sb, ck2⟩
    · rcases ck_tick hx c with ⟨w, hw0, ec, ck3, sc⟩ | ⟨sc, ck3⟩
      · subst ea eb ec
        have g1 := gr_u (w := 1) (k := u) G hp (by omega) (show u ≤ 47 by omega)
        have g2 := gr_u (w := 2) (k := w) g1 hp (by omega) (show w ≤ 47 by omega)
        refine opT_a I hM (v := sp_hours (rs (rs (M 122) (14 + 9 * p + 1) (Int32.ofNat u)) (14 + 9 * p + 2) (Int32.ofNat w)) p) (f1 := rs (rs (M 122) (14 + 9 * p + 1) (Int32.ofNat u)) (14 + 9 * p + 2) (Int32.ofNat w)) g2 ((tsame_rs (by omega) (by omega) (by omega)).trans (tsame_rs (by omega) (by omega) (by omega))) (fun s nx hs hnx t1 t2 t3 => ⟨?_, fun N hN => ?_⟩)
        · obtain ⟨M1, e1, w1, w2, a1, a2, E⟩ := c_remember H I.2.2.2.1.2.2 hs hnx t1 t3
          obtain ⟨M2, e2, w3, f2⟩ := c_setw w1 (p := p) (w := 1) (Int32.ofNat u) (by omega) (by decide)
          obtain ⟨M3, e3, w4, f3⟩ := c_setw w3 (p := p) (w := 2) (Int32.ofNat w) (by omega) (by decide)
          exact ⟨M3, by simp (disch := omega) only [zL, zlt, zle, zeq, zadd, zmul, zin, zix, zsh1, Nat.add_zero, Nat.zero_add, Nat.mul_zero, if_true, if_false, if_pos, if_neg, sy_bi_ri, sy_bi_rt, sy_bv_rv, sy_bv_rt, sy_br_rr, sy_br_rn, sy_hi_ri, sy_hi_rt, sy_bs_t, sy_bx_t, sy_bb_t, bz_bo, ite_bz0, ite_bz1, jfX11_home, ck, ck2, ck3, e1, e2, e3, c_hours w4.1 g2.1], CA_of hnx w4 w2 a1 a2 E (fun a h1 h2 => (f2.trans f3) a (by omega)) (fun d => dk_congr d (((f2.trans f3) 22 (by omega)).trans (E 22 (by omega) (by omega))))⟩
        · have e122 : N 122 = M 122 := hN 122 (by omega) (by omega)
          have eN : N 122 3 = Int32.ofNat n := by rw [e122]; exact hn
          have t2' : N 121 6 = Int32.ofNat s := by rw [hN 121 (by omega) (by omega)]; exact t2
          have rm := m_rem t2' hs
          refine ⟨syc (nr N s) 122 (rs (rs (M 122) (14 + 9 * p + 1) (Int32.ofNat u)) (14 + 9 * p + 2) (Int32.ofNat w)), ?_, RA_fm fm_syc (syc_at _ _ _)⟩
          simp (disch := omega) only [zL, zlt, zle, zeq, zadd, zmul, zin, zix, zsh1, Nat.add_zero, Nat.zero_add, Nat.mul_zero, if_true, if_false, if_pos, if_neg, sy_bi_ri, sy_bi_rt, sy_bv_rv, sy_bv_rt, sy_br_rr, sy_br_rn, sy_hi_ri, sy_hi_rt, sy_bs_t, sy_bx_t, sy_bb_t, bz_bo, ite_bz0, ite_bz1, jfX12_home, jfX12_home_28, jfX12_home_23, jfX12_sets, m_isLodger, eN, sa, m_isTick, sb, sc, cond_true, thr_up, thr_0, rm, nr_122, e122, sy_upd_st (nr N s), m_lays, syc_at, syc_st, m_hoursOf]
      · refine opT_x I (cl := 22) (c := 1) ?_ rfl (by decide) (by decide) ?_
        · simp (disch := omega) only [zL, zlt, zle, zeq, zadd, zmul, zin, zix, zsh1, Nat.add_zero, Nat.zero_add, Nat.mul_zero, if_true, if_false, if_pos, if_neg, sy_bi_ri, sy_bi_rt, sy_bv_rv, sy_bv_rt, sy_br_rr, sy_br_rn, sy_hi_ri, sy_hi_rt, sy_bs_t, sy_bx_t, sy_bb_t, bz_bo, ite_bz0, ite_bz1, jfX11_home, ck, ck2, ck3]
          all_goals rfl
        · intro N hN
          have eN : N 122 3 = Int32.ofNat n := by rw [hN 122 (by omega) (by omega)]; exact hn
          exact ⟨(Int32.ofNat 0), thr N 1, by simp (disch := omega) only [zL, zlt, zle, zeq, zadd, zmul, zin, zix, zsh1, Nat.add_zero, Nat.zero_add, Nat.mul_zero, if_true, if_false, if_pos, if_neg, sy_bi_ri, sy_bi_rt, sy_bv_rv, sy_bv_rt, sy_br_rr, sy_br_rn, sy_hi_ri, sy_hi_rt, sy_bs_t, sy_bx_t, sy_bb_t, bz_bo, ite_bz0, ite_bz1, jfX12_home, jfX12_home_23, jfX12_home_28, sa, sb, sc, m_isLodger, eN, m_isIn, m_isTick, cond_true, cond_false, thr_up, thr_0], thr_0 _ _, fr_thr⟩
    · refine opT_x I (cl := 22) (c := 1) ?_ rfl (by decide) (by decide) ?_
      · simp (disch := omega) only [zL, zlt, zle, zeq, zadd, zmul, zin, zix, zsh1, Nat.add_zero, Nat.zero_add, Nat.mul_zero, if_true, if_false, if_pos, if_neg, sy_bi_ri, sy_bi_rt, sy_bv_rv, sy_bv_rt, sy_br_rr, sy_br_rn, sy_hi_ri, sy_hi_rt, sy_bs_t, sy_bx_t, sy_bb_t, bz_bo, ite_bz0, ite_bz1, jfX11_home, ck, ck2]
        all_goals rfl
      · intro N hN
        have eN : N 122 3 = Int32.ofNat n := by rw [hN 122 (by omega) (by omega)]; exact hn
        exact ⟨(Int32.ofNat 0), thr N 1, by simp (disch := omega) only [zL, zlt, zle, zeq, zadd, zmul, zin, zix, zsh1, Nat.add_zero, Nat.zero_add, Nat.mul_zero, if_true, if_false, if_pos, if_neg, sy_bi_ri, sy_bi_rt, sy_bv_rv, sy_bv_rt, sy_br_rr, sy_br_rn, sy_hi_ri, sy_hi_rt, sy_bs_t, sy_bx_t, sy_bb_t, bz_bo, ite_bz0, ite_bz1, jfX12_home, jfX12_home_23, jfX12_home_28, sa, sb, m_isLodger, eN, m_isIn, m_isTick, cond_true, cond_false, thr_up, thr_0], thr_0 _ _, fr_thr⟩
  · refine opT_x I (cl := 22) (c := 1) ?_ rfl (by decide) (by decide) ?_
    · simp (disch := omega) only [zL, zlt, zle, zeq, zadd, zmul, zin, zix, zsh1, Nat.add_zero, Nat.zero_add, Nat.mul_zero, if_true, if_false, if_pos, if_neg, sy_bi_ri, sy_bi_rt, sy_bv_rv, sy_bv_rt, sy_br_rr, sy_br_rn, sy_hi_ri, sy_hi_rt, sy_bs_t, sy_bx_t, sy_bb_t, bz_bo, ite_bz0, ite_bz1, jfX11_home, ck]
      all_goals rfl
    · intro N hN
      have eN : N 122 3 = Int32.ofNat n := by rw [hN 122 (by omega) (by omega)]; exact hn
      exact ⟨(Int32.ofNat 0), thr N 1, by simp (disch := omega) only [zL, zlt, zle, zeq, zadd, zmul, zin, zix, zsh1, Nat.add_zero, Nat.zero_add, Nat.mul_zero, if_true, if_false, if_pos, if_neg, sy_bi_ri, sy_bi_rt, sy_bv_rv, sy_bv_rt, sy_br_rr, sy_br_rn, sy_hi_ri, sy_hi_rt, sy_bs_t, sy_bx_t, sy_bb_t, bz_bo, ite_bz0, ite_bz1, jfX12_home, jfX12_home_23, jfX12_home_28, sa, m_isLodger, eN, m_isIn, m_isTick, cond_true, cond_false, thr_up, thr_0], thr_0 _ _, fr_thr⟩
theorem o_put (hM : mAK A tx) (I : Inv A tx L0 S e M) (he : e < 90000) (a : Int32) : opT A tx L0 S e (jfL_put a M) (jfX12_put a) := by
  obtain ⟨n, G, H, ht, hA, hl⟩ := id I.1
  have hn := G.2.1
  have h7 := G.2.2.1
  obtain ⟨xk, hxk, exk⟩ := I.2.2.2.2.2.2.2.2.1
  have hx := xok he hxk exk
  have h9 : M 9 3 = Int32.ofNat n := (hv_3 H.1).trans hn
  have D19 := I.2.2.2.2.1
  unfold jfL_put
  rcases ck_lodger h7 h9 hx a with ⟨p, hp, ea, ck, sa⟩ | ⟨sa, ck⟩
  · subst ea
    obtain ⟨c, hc, ec⟩ := rb_coins G.1 (p := p) (by omega)
    by_cases h0 : c = 0
    · subst h0
      refine opT_x I (cl := 24) (c := 2) ?_ rfl (by decide) (by decide) (fun N hN => ⟨(Int32.ofNat 0), thr (thr N 0) 2, ?_, thr_0 _ _, fr_thr.trans fr_thr⟩)
      · simp (disch := omega) only [zL, zlt, zle, zeq, zadd, zmul, zin, zix, zsh1, Nat.add_zero, Nat.zero_add, Nat.mul_zero, if_true, if_false, if_pos, if_neg, sy_bi_ri, sy_bi_rt, sy_bv_rv, sy_bv_rt, sy_br_rr, sy_br_rn, sy_hi_ri, sy_hi_rt, sy_bs_t, sy_bx_t, sy_bb_t, bz_bo, ite_bz0, ite_bz1, jfX11_put, ck, c_get H.1, ec, hx]
        rfl
      · have e122 : N 122 = M 122 := hN 122 (by omega) (by omega)
        have eN : N 122 3 = Int32.ofNat n := by rw [e122]; exact hn
        simp (disch := omega) only [zL, zlt, zle, zeq, zadd, zmul, zin, zix, zsh1, Nat.add_zero, Nat.zero_add, Nat.mul_zero, if_true, if_false, if_pos, if_neg, sy_bi_ri, sy_bi_rt, sy_bv_rv, sy_bv_rt, sy_br_rr, sy_br_rn, sy_hi_ri, sy_hi_rt, sy_bs_t, sy_bx_t, sy_bb_t, bz_bo, ite_bz0, ite_bz1, jfX12_put, jfX12_put_14, jfX12_put_41, m_isLodger, eN, sa, cond_true, thr_up, thr_0, m_of, thr_ne, e122, ec]
    · have hc0 : M 122 (14 + 9 * p + 5) ≠ (Int32.ofNat 0) := by rw [ec]; intro z; rw [zeq (by omega) (by omega)] at z; exact h0 z
      refine opT_a I hM (v := sp_feed (M 122) p 6) (f1 := sp_feed (M 122) p) (gr_feed G hp hc0) (sp_feed_hs (by omega)).1 (fun s nx hs hnx t1 t2 t3 => ⟨?_, fun N hN => ?_⟩)
      · obtain ⟨M1, e1, w1, w2, a1, a2, E⟩ := c_remember H I.2.2.2.1.2.2 hs hnx t1 t3
        obtain ⟨M2, e2, w3, f2⟩ := c_takeCoin w1 (q := p) (by omega)
        exact ⟨M2, by simp (disch := omega) only [zL, zlt, zle, zeq, zadd, zmul, zin, zix, zsh1, Nat.add_zero, Nat.zero_add, Nat.mul_zero, if_true, if_false, if_pos, if_neg, sy_bi_ri, sy_bi_rt, sy_bv_rv, sy_bv_rt, sy_br_rr, sy_br_rn, sy_hi_ri, sy_hi_rt, sy_bs_t, sy_bx_t, sy_bb_t, bz_bo, ite_bz0, ite_bz1, jfX11_put, ck, c_get H.1, ec, e1, e2, hv_7 w3.1], CA_of hnx w3 w2 a1 a2 E (fun a h1 h2 => f2 a (by omega)) (fun d => dk_congr d ((f2 22 (by omega)).trans (E 22 (by omega) (by omega))))⟩
      · have e122 : N 122 = M 122 := hN 122 (by omega) (by omega)
        have eN : N 122 3 = Int32.ofNat n := by rw [e122]; exact hn
        have t2' : thr N 0 121 6 = Int32.ofNat s := by rw [thr_j _ _ (by decide), hN 121 (by omega) (by omega)]; exact t2
        have rm := m_rem t2' hs
        refine ⟨syc (syc (nr (thr N 0) s) 121 (rs (bif decide (nr (thr N 0) s 121 21 = -(Int32.ofNat 1)) then rs (nr (thr N 0) s 121) 21 (Int32.ofNat p) else nr (thr N 0) s 121) 20 (nr (thr N 0) s 121 20 + (Int32.ofNat 1)))) 122 (sp_feed (M 122) p), ?_, ?_⟩
        · have mf := m_feeds (M := nr (thr N 0) s) (p := p) (by omega)
          rw [nr_122, thr_ne _ _ (by decide), e122] at mf
          simp (disch := omega) only [zL, zlt, zle, zeq, zadd, zmul, zin, zix, zsh1, Nat.add_zero, Nat.zero_add, Nat.mul_zero, if_true, if_false, if_pos, if_neg, sy_bi_ri, sy_bi_rt, sy_bv_rv, sy_bv_rt, sy_br_rr, sy_br_rn, sy_hi_ri, sy_hi_rt, sy_bs_t, sy_bx_t, sy_bb_t, bz_bo, ite_bz0, ite_bz1, jfX12_put, jfX12_put_14, jfX12_put_41, m_isLodger, eN, sa, cond_true, thr_up, thr_0, m_of, thr_ne, e122, ec, rm, mf, syc_at]
        · have r := RA_fm (N := thr N 0) (s := s) (f1 := sp_feed (M 122) p) (N1 := syc (syc (nr (thr N 0) s) 121 (rs (bif decide (nr (thr N 0) s 121 21 = -(Int32.ofNat 1)) then rs (nr (thr N 0) s 121) 21 (Int32.ofNat p) else nr (thr N 0) s 121) 20 (nr (thr N 0) s 121 20 + (Int32.ofNat 1)))) 122 (sp_feed (M 122) p)) ⟨fun a h1 h2 h3 => ?_, fun j hj => ?_⟩ (syc_at _ _ _)
          · refine ⟨r.1, r.2.1, fun a h1 h2 h3 => (r.2.2.1 a h1 h2 h3).trans (thr_ne _ _ (by unfold rx at h1; omega)), fun j hj => (r.2.2.2.1 j hj).trans (thr_j _ _ (by omega)), r.2.2.2.2.1, ?_⟩
            have := r.2.2.2.2.2
            rwa [thr_ne _ _ (by decide), thr_ne _ _ (by decide)] at this
          · rw [syc_ne _ _ h2, syc_ne _ _ h1]
          · rw [syc_ne _ _ (by decide), syc_at, rs_ne _ _ (by omega)]
            cases decide (nr (thr N 0) s 121 21 = -(Int32.ofNat 1))
            · rfl
            · rw [cond_true, rs_ne _ _ (by omega)]
  · refine opT_x I (cl := 22) (c := 1) ?_ rfl (by decide) (by decide) ?_
    · simp (disch := omega) only [zL, zlt, zle, zeq, zadd, zmul, zin, zix, zsh1, Nat.add_zero, Nat.zero_add, Nat.mul_zero, if_true, if_false, if_pos, if_neg, sy_bi_ri, sy_bi_rt, sy_bv_rv, sy_bv_rt, sy_br_rr, sy_br_rn, sy_hi_ri, sy_hi_rt, sy_bs_t, sy_bx_t, sy_bb_t, bz_bo, ite_bz0, ite_bz1, jfX11_put, ck]
      all_goals rfl
    · intro N hN
      have eN : N 122 3 = Int32.ofNat n := by rw [hN 122 (by omega) (by omega)]; exact hn
      exact ⟨(Int32.ofNat 0), thr N 1, by simp (disch := omega) only [zL, zlt, zle, zeq, zadd, zmul, zin, zix, zsh1, Nat.add_zero, Nat.zero_add, Nat.mul_zero, if_true, if_false, if_pos, if_neg, sy_bi_ri, sy_bi_rt, sy_bv_rv, sy_bv_rt, sy_br_rr, sy_br_rn, sy_hi_ri, sy_hi_rt, sy_bs_t, sy_bx_t, sy_bb_t, bz_bo, ite_bz0, ite_bz1, jfX12_put, jfX12_put_14, sa, m_isLodger, eN, m_isIn, m_isTick, cond_true, cond_false, thr_up, thr_0], thr_0 _ _, fr_thr⟩
/-! lend, repay -/
def sp_mc (f : Nat → Int32) (p o : Nat) (k : Int32) : Nat → Int32 := rs (rs f (14 + 9 * p + 5) (f (14 + 9 * p + 5) - k)) (14 + 9 * o + 5) (f (14 + 9 * o + 5) + k)
theorem c_moveCoins {h p o : Nat} {f : Nat → Int32} {k : Int32} (H : hw M h f) (hp : p < 7) (ho : o < 7) (hne : p ≠ o) : ∃ M1, jfX2_moveCoins h (Int32.ofNat p) (Int32.ofNat o) k M = sy_rv M1 ∧ hw M1 h (sp_mc f p o k) ∧ fh h M M1 := by
  obtain ⟨N1, e1, w1, f1⟩ := c_setw H (p := p) (w := 5) (f (14 + 9 * p + 5) - k) hp (by decide)
  obtain ⟨N2, e2, w2, f2⟩ := c_setw w1 (p := o) (w := 5) (f (14 + 9 * o + 5) + k) ho (by decide)
  refine ⟨N2, ?_, w2, f1.trans f2⟩
  have r3 : rs f (14 + 9 * p + 5) (f (14 + 9 * p + 5) - k) (14 + 9 * o + 5) = f (14 + 9 * o + 5) := rs_ne _ _ (by omega)
  simp (disch := omega) only [jfX2_moveCoins, H.1.1, sy_bs_t, zL, c_get H.1, sy_bi_ri, e1, sy_bv_rv, c_get w1.1, r3, e2]
theorem rs_mc {f : Nat → Int32} {p o i : Nat} {k v : Int32} (h : 77 ≤ i) (hp : p < 7) (ho : o < 7) (hne : p ≠ o) : rs (sp_mc f p o k) i v = rs (rs (rs f i v) (14 + 9 * p + 5) (f (14 + 9 * p + 5) - k)) (14 + 9 * o + 5) (f (14 + 9 * o + 5) + k) := by
  unfold sp_mc
  rw [rs_comm _ _ _ (show 14 + 9 * o + 5 ≠ i by omega), rs_comm _ _ _ (show 14 + 9 * p + 5 ≠ i by omega)]
theorem o_lend (hM : mAK A tx) (I : Inv A tx L0 S e M) (he : e < 90000) (a b : Int32) : opT A tx L0 S e (jfL_lend a b M) (jfX12_lend a b) := by
  obtain ⟨n, G, H, ht, hA, hl⟩ := id I.1
  have hn := G.2.1
  have h7 := G.2.2.1
  obtain ⟨xk, hxk, exk⟩ := I.2.2.2.2.2.2.2.2.1
  have hx := xok he hxk exk
  have h9 : M 9 3 = Int32.ofNat n := (hv_3 H.1).trans hn
  have D19 := I.2.2.2.2.1
  unfold jfL_lend
  rcases ck_two h7 h9 hx a b with ⟨p, o, hp, ho, hne, ea, eb, ck, mk⟩ | ⟨cl, c, hcc, ck, mk⟩
  · subst ea eb
    obtain ⟨c, hc, ec⟩ := rb_coins G.1 (p := p) (by omega)
    obtain ⟨d, hd, ed⟩ := rb_coins G.1 (p := o) (by omega)
    obtain ⟨w, hw0, ew⟩ := rb_owed G.1 (p := o) (o := p) (by omega) (by omega)
    by_cases h0 : c = 0 ∨ d = 999 ∨ w = 99
    · refine opT_x I (cl := 24) (c := 3) ?_ rfl (by decide) (by decide) (fun N hN => ⟨(Int32.ofNat 0), thr (thr N 0) 3, ?_, thr_0 _ _, fr_thr.trans fr_thr⟩)
      · simp (disch := omega) only [zL, zlt, zle, zeq, zadd, zmul, zin, zix, zsh1, Nat.add_zero, Nat.zero_add, Nat.mul_zero, if_true, if_false, if_pos, if_neg, sy_bi_ri, sy_bi_rt, sy_bv_rv, sy_bv_rt, sy_br_rr, sy_br_rn, sy_hi_ri, sy_hi_rt, sy_bs_t, sy_bx_t, sy_bb_t, bz_bo, ite_bz0, ite_bz1, jfX11_lend, ck, c_get H.1, c_owed H.1, ec, ed, ew, hx]
        by_cases q1 : c < 1
        · rw [if_pos q1]; rfl
        · rw [if_neg q1]
          by_cases q2 : d < 999
          · rw [if_pos q2]; rfl
          · rw [if_neg q2]; rfl
      · have e122 : N 122 = M 122 := hN 122 (by omega) (by omega)
        have eN : N 122 3 = Int32.ofNat n := by rw [e122]; exact hn
        simp (disch := omega) only [zL, zlt, zle, zeq, zadd, zmul, zin, zix, zsh1, Nat.add_zero, Nat.zero_add, Nat.mul_zero, if_true, if_false, if_pos, if_neg, sy_bi_ri, sy_bi_rt, sy_bv_rv, sy_bv_rt, sy_br_rr, sy_br_rn, sy_hi_ri, sy_hi_rt, sy_bs_t, sy_bx_t, sy_bb_t, bz_bo, ite_bz0, ite_bz1, jfX12_lend, jfX12_lend_48, jfX12_lend_53, mk N eN, thr_0, m_of, m_owed, thr_ne, e122, ec, ed, ew, thr_up]
        by_cases q1 : c = 0
        · rw [if_pos q1]
        · rw [if_neg q1]
          by_cases q2 : d = 999
          · rw [if_pos q2]
          · rw [if_neg q2]
    · have hc1 : Int32.ofNat c - (Int32.ofNat 1) = Int32.ofNat (c - 1) := zsub_1 (by omega)
      have g1 := gr_owed (k := w + 1) G ho hp (by omega)
      have g2 := gr_u (w := 5) (k := c - 1) g1 hp (by omega) (show c - 1 ≤ 999 by omega)
      have g3 := gr_u (w := 5) (k := d + 1) g2 ho (by omega) (show d + 1 ≤ 999 by omega)
      have fe : rs (sp_mc (M 122) p o (Int32.ofNat 1)) (77 + 7 * o + p) (M 122 (77 + 7 * o + p) + (Int32.ofNat 1)) = rs (rs (rs (M 122) (77 + 7 * o + p) (Int32.ofNat (w + 1))) (14 + 9 * p + 5) (Int32.ofNat (c - 1))) (14 + 9 * o + 5) (Int32.ofNat (d + 1)) := by
        rw [rs_mc (by omega) (by omega) (by omega) hne, ec, ed, ew, hc1, zadd, zadd]
      refine opT_a I hM (v := Int32.ofNat (c - 1)) (f1 := rs (rs (rs (M 122) (77 + 7 * o + p) (Int32.ofNat (w + 1))) (14 + 9 * p + 5) (Int32.ofNat (c - 1))) (14 + 9 * o + 5) (Int32.ofNat (d + 1))) g3 (((tsame_rs (by omega) (by omega) (by omega)).trans (tsame_rs (by omega) (by omega) (by omega))).trans (tsame_rs (by omega) (by omega) (by omega))) (fun s nx hs hnx t1 t2 t3 => ⟨?_, fun N hN => ?_⟩)
      · obtain ⟨M1, e1, w1, w2, a1, a2, E⟩ := c_remember H I.2.2.2.1.2.2 hs hnx t1 t3
        obtain ⟨M2, e2, w3, f2⟩ := c_moveCoins (k := (Int32.ofNat 1)) w1 (p := p) (o := o) (by omega) (by omega) hne
        obtain ⟨M3, e3, w4, f3⟩ := c_setOwed w3 (p := o) (o := p) (M 122 (77 + 7 * o + p) + (Int32.ofNat 1)) (by omega) (by omega)
        have ow : sp_mc (M 122) p o (Int32.ofNat 1) (77 + 7 * o + p) = M 122 (77 + 7 * o + p) := by
          unfold sp_mc
          rw [rs_ne _ _ (by omega), rs_ne _ _ (by omega)]
        rw [fe] at w4
        refine ⟨M3, ?_, CA_of hnx w4 w2 a1 a2 E (fun a h1 h2 => (f2.trans f3) a (by omega)) (fun d => dk_congr d (((f2.trans f3) 22 (by omega)).trans (E 22 (by omega) (by omega))))⟩
        simp (disch := omega) only [zL, zlt, zle, zeq, zadd, zmul, zin, zix, zsh1, Nat.add_zero, Nat.zero_add, Nat.mul_zero, if_true, if_false, if_pos, if_neg, sy_bi_ri, sy_bi_rt, sy_bv_rv, sy_bv_rt, sy_br_rr, sy_br_rn, sy_hi_ri, sy_hi_rt, sy_bs_t, sy_bx_t, sy_bb_t, bz_bo, ite_bz0, ite_bz1, jfX11_lend, jfX11_lend_77, ck, c_get H.1, c_owed H.1, ec, ed, ew, e1, e2, c_owed w3.1, ow]
        rw [ew, zadd] at e3
        rw [e3, sy_bv_rv, c_get w4.1 (by omega) (by decide), sy_bi_ri, rs_ne _ _ (by omega), rs_at]
      · have e122 : N 122 = M 122 := hN 122 (by omega) (by omega)
        have eN : N 122 3 = Int32.ofNat n := by rw [e122]; exact hn
        have t2' : thr N 0 121 6 = Int32.ofNat s := by rw [thr_j _ _ (by decide), hN 121 (by omega) (by omega)]; exact t2
        have rm := m_rem t2' hs
        refine ⟨syc (nr (thr N 0) s) 122 (rs (rs (rs (M 122) (77 + 7 * o + p) (Int32.ofNat (w + 1))) (14 + 9 * p + 5) (Int32.ofNat (c - 1))) (14 + 9 * o + 5) (Int32.ofNat (d + 1))), ?_, ?_⟩
        · simp (disch := omega) only [zL, zlt, zle, zeq, zadd, zmul, zin, zix, zsh1, Nat.add_zero, Nat.zero_add, Nat.mul_zero, if_true, if_false, if_pos, if_neg, sy_bi_ri, sy_bi_rt, sy_bv_rv, sy_bv_rt, sy_br_rr, sy_br_rn, sy_hi_ri, sy_hi_rt, sy_bs_t, sy_bx_t, sy_bb_t, bz_bo, ite_bz0, ite_bz1, jfX12_lend, jfX12_lend_53, jfX12_lend_115, jfX12_sets, mk N eN, thr_0, m_of, m_owed, thr_ne, e122, ec, ed, ew, thr_up, rm, nr_122, sy_upd_st (nr (thr N 0) s), syc_at, rs_ne, rs_at, hc1, m_lays, syc_st]
        · have r := RA_fm (N := thr N 0) (s := s) (fm_syc (g := rs (rs (rs (M 122) (77 + 7 * o + p) (Int32.ofNat (w + 1))) (14 + 9 * p + 5) (Int32.ofNat (c - 1))) (14 + 9 * o + 5) (Int32.ofNat (d + 1)))) (syc_at _ _ _)
          refine ⟨r.1, r.2.1, fun a h1 h2 h3 => (r.2.2.1 a h1 h2 h3).trans (thr_ne _ _ (by unfold rx at h1; omega)), fun j hj => (r.2.2.2.1 j hj).trans (thr_j _ _ (by omega)), r.2.2.2.2.1, ?_⟩
          have := r.2.2.2.2.2
          rwa [thr_ne _ _ (by decide), thr_ne _ _ (by decide)] at this
  · have hc0 : c ≠ 0 ∧ c < 4 := by omega
    refine opT_x I (cl := cl) (c := c) (by simp only [jfX11_lend, ck, sy_bv_rt]) (by rcases hcc with ⟨h1, h2⟩ | ⟨h1, h2⟩ <;> subst h1 h2 <;> rfl) hc0.1 hc0.2 (fun N hN => ⟨(Int32.ofNat 0), thr N c, ?_, thr_0 _ _, fr_thr⟩)
    have eN : N 122 3 = Int32.ofNat n := by rw [hN 122 (by omega) (by omega)]; exact hn
    simp (disch := omega) only [zL, zlt, zle, zeq, zadd, zmul, zin, zix, zsh1, Nat.add_zero, Nat.zero_add, Nat.mul_zero, if_true, if_false, if_pos, if_neg, sy_bi_ri, sy_bi_rt, sy_bv_rv, sy_bv_rt, sy_br_rr, sy_br_rn, sy_hi_ri, sy_hi_rt, sy_bs_t, sy_bx_t, sy_bb_t, bz_bo, ite_bz0, ite_bz1, jfX12_lend, mk N eN, thr_0]
theorem o_repay (hM : mAK A tx) (I : Inv A tx L0 S e M) (he : e < 90000) (a b : Int32) : opT A tx L0 S e (jfL_repay a b M) (jfX12_repay a b) := by
  obtain ⟨n, G, H, ht, hA, hl⟩ := id I.1
  have hn := G.2.1
  have h7 := G.2.2.1
  obtain ⟨xk, hxk, exk⟩ := I.2.2.2.2.2.2.2.2.1
  have hx := xok he hxk exk
  have h9 : M 9 3 = Int32.ofNat n := (hv_3 H.1).trans hn
  have D19 := I.2.2.2.2.1
  unfold jfL_repay
  rcases ck_two h7 h9 hx a b with ⟨p, o, hp, ho, hne, ea, eb, ck, mk⟩ | ⟨cl, c, hcc, ck, mk⟩
  · subst ea eb
    obtain ⟨c, hc, ec⟩ := rb_coins G.1 (p := p) (by omega)
    obtain ⟨d, hd, ed⟩ := rb_coins G.1 (p := o) (by omega)
    obtain ⟨w, hw0, ew⟩ := rb_owed G.1 (p := p) (o := o) (by omega) (by omega)
    have s9 : (Int32.ofNat 999) - Int32.ofNat d = Int32.ofNat (999 - d) := zsub (by omega)
    have mn : min (min w c) (999 - d) = min w (min c (999 - d)) := by omega
    generalize hk : min w (min c (999 - d)) = k at mn
    have k1 : k ≤ w ∧ k ≤ c ∧ k + d ≤ 999 := by omega
    by_cases h0 : k = 0
    · refine opT_x I (cl := 24) (c := 3) ?_ rfl (by decide) (by decide) (fun N hN => ⟨(Int32.ofNat 0), thr (thr N 0) 3, ?_, thr_0 _ _, fr_thr.trans fr_thr⟩)
      · simp (disch := omega) only [zL, zlt, zle, zeq, zadd, zmul, zin, zix, zsh1, Nat.add_zero, Nat.zero_add, Nat.mul_zero, if_true, if_false, if_pos, if_neg, sy_bi_ri, sy_bi_rt, sy_bv_rv, sy_bv_rt, sy_br_rr, sy_br_rn, sy_hi_ri, sy_hi_rt, sy_bs_t, sy_bx_t, sy_bb_t, bz_bo, ite_bz0, ite_bz1, jfX11_repay, ck, c_get H.1, c_owed H.1, ec, ed, ew, c_lesser, s9, zmin, mn, hx]
        rfl
      · have e122 : N 122 = M 122 := hN 122 (by omega) (by omega)
        have eN : N 122 3 = Int32.ofNat n := by rw [e122]; exact hn
        simp (disch := omega) only [zL, zlt, zle, zeq, zadd, zmul, zin, zix, zsh1, Nat.add_zero, Nat.zero_add, Nat.mul_zero, if_true, if_false, if_pos, if_neg, sy_bi_ri, sy_bi_rt, sy_bv_rv, sy_bv_rt, sy_br_rr, sy_br_rn, sy_hi_ri, sy_hi_rt, sy_bs_t, sy_bx_t, sy_bb_t, bz_bo, ite_bz0, ite_bz1, jfX12_repay, jfX12_repay_54, mk N eN, thr_0, m_of, m_owed, thr_ne, e122, ec, ed, ew, m_lesser, s9, zmin, hk, thr_up]
    · have hc1 : Int32.ofNat c - Int32.ofNat k = Int32.ofNat (c - k) := zsub (by omega)
      have hw1 : Int32.ofNat w - Int32.ofNat k = Int32.ofNat (w - k) := zsub (by omega)
      have g1 := gr_owed (k := w - k) G hp ho (by omega)
      have g2 := gr_u (w := 5) (k := c - k) g1 hp (by omega) (show c - k ≤ 999 by omega)
      have g3 := gr_u (w := 5) (k := d + k) g2 ho (by omega) (show d + k ≤ 999 by omega)
      have fe : rs (sp_mc (M 122) p o (Int32.ofNat k)) (77 + 7 * p + o) (Int32.ofNat (w - k)) = rs (rs (rs (M 122) (77 + 7 * p + o) (Int32.ofNat (w - k))) (14 + 9 * p + 5) (Int32.ofNat (c - k))) (14 + 9 * o + 5) (Int32.ofNat (d + k)) := by
        rw [rs_mc (by omega) (by omega) (by omega) hne, ec, ed, hc1, zadd]
      refine opT_a I hM (v := Int32.ofNat k) (f1 := rs (rs (rs (M 122) (77 + 7 * p + o) (Int32.ofNat (w - k))) (14 + 9 * p + 5) (Int32.ofNat (c - k))) (14 + 9 * o + 5) (Int32.ofNat (d + k))) g3 (((tsame_rs (by omega) (by omega) (by omega)).trans (tsame_rs (by omega) (by omega) (by omega))).trans (tsame_rs (by omega) (by omega) (by omega))) (fun s nx hs hnx t1 t2 t3 => ⟨?_, fun N hN => ?_⟩)
      · obtain ⟨M1, e1, w1, w2, a1, a2, E⟩ := c_remember H I.2.2.2.1.2.2 hs hnx t1 t3
        obtain ⟨M2, e2, w3, f2⟩ := c_moveCoins (k := Int32.ofNat k) w1 (p := p) (o := o) (by omega) (by omega) hne
        obtain ⟨M3, e3, w4, f3⟩ := c_setOwed w3 (p := p) (o := o) (Int32.ofNat (w - k)) (by omega) (by omega)
        have ow : sp_mc (M 122) p o (Int32.ofNat k) (77 + 7 * p + o) = Int32.ofNat w := by
          unfold sp_mc
          rw [rs_ne _ _ (by omega), rs_ne _ _ (by omega)]
          exact ew
        rw [fe] at w4
        refine ⟨M3, ?_, CA_of hnx w4 w2 a1 a2 E (fun a h1 h2 => (f2.trans f3) a (by omega)) (fun d => dk_congr d (((f2.trans f3) 22 (by omega)).trans (E 22 (by omega) (by omega))))⟩
        simp (disch := omega) only [zL, zlt, zle, zeq, zadd, zmul, zin, zix, zsh1, Nat.add_zero, Nat.zero_add, Nat.mul_zero, if_true, if_false, if_pos, if_neg, sy_bi_ri, sy_bi_rt, sy_bv_rv, sy_bv_rt, sy_br_rr, sy_br_rn, sy_hi_ri, sy_hi_rt, sy_bs_t, sy_bx_t, sy_bb_t, bz_bo, ite_bz0, ite_bz1, jfX11_repay, jfX11_repay_80, ck, c_get H.1, c_owed H.1, ec, ed, ew, c_lesser, s9, zmin, mn, e1, e2, c_owed w3.1, ow, hw1, e3]
      · have e122 : N 122 = M 122 := hN 122 (by omega) (by omega)
        have eN : N 122 3 = Int32.ofNat n := by rw [e122]; exact hn
        have t2' : thr N 0 121 6 = Int32.ofNat s := by rw [thr_j _ _ (by decide), hN 121 (by omega) (by omega)]; exact t2
        have rm := m_rem t2' hs
        refine ⟨syc (nr (thr N 0) s) 122 (rs (rs (rs (M 122) (77 + 7 * p + o) (Int32.ofNat (w - k))) (14 + 9 * p + 5) (Int32.ofNat (c - k))) (14 + 9 * o + 5) (Int32.ofNat (d + k))), ?_, ?_⟩
        · simp (disch := omega) only [zL, zlt, zle, zeq, zadd, zmul, zin, zix, zsh1, Nat.add_zero, Nat.zero_add, Nat.mul_zero, if_true, if_false, if_pos, if_neg, sy_bi_ri, sy_bi_rt, sy_bv_rv, sy_bv_rt, sy_br_rr, sy_br_rn, sy_hi_ri, sy_hi_rt, sy_bs_t, sy_bx_t, sy_bb_t, bz_bo, ite_bz0, ite_bz1, jfX12_repay, jfX12_repay_54, jfX12_sets, mk N eN, thr_0, m_of, m_owed, thr_ne, e122, ec, ed, ew, m_lesser, s9, zmin, hk, thr_up, rm, nr_122, sy_upd_st (nr (thr N 0) s), syc_at, rs_ne, rs_at, hc1, hw1, m_lays, syc_st]
        · have r := RA_fm (N := thr N 0) (s := s) (fm_syc (g := rs (rs (rs (M 122) (77 + 7 * p + o) (Int32.ofNat (w - k))) (14 + 9 * p + 5) (Int32.ofNat (c - k))) (14 + 9 * o + 5) (Int32.ofNat (d + k)))) (syc_at _ _ _)
          refine ⟨r.1, r.2.1, fun a h1 h2 h3 => (r.2.2.1 a h1 h2 h3).trans (thr_ne _ _ (by unfold rx at h1; omega)), fun j hj => (r.2.2.2.1 j hj).trans (thr_j _ _ (by omega)), r.2.2.2.2.1, ?_⟩
          have := r.2.2.2.2.2
          rwa [thr_ne _ _ (by decide), thr_ne _ _ (by decide)] at this
  · have hc0 : c ≠ 0 ∧ c < 4 := by omega
    refine opT_x I (cl := cl) (c := c) (by simp only [jfX11_repay, ck, sy_bv_rt]) (by rcases hcc with ⟨h1, h2⟩ | ⟨h1, h2⟩ <;> subst h1 h2 <;> rfl) hc0.1 hc0.2 (fun N hN => ⟨(Int32.ofNat 0), thr N c, ?_, thr_0 _ _, fr_thr⟩)
    have eN : N 122 3 = Int32.ofNat n := by rw [hN 122 (by omega) (by omega)]; exact hn
    simp (disch := omega) only [zL, zlt, zle, zeq, zadd, zmul, zin, zix, zsh1, Nat.add_zero, Nat.zero_add, Nat.mul_zero, if_true, if_false, if_pos, if_neg, sy_bi_ri, sy_bi_rt, sy_bv_rv, sy_bv_rt, sy_br_rr, sy_br_rn, sy_hi_ri, sy_hi_rt, sy_bs_t, sy_bx_t, sy_bb_t, bz_bo, ite_bz0, ite_bz1, jfX12_repay, mk N eN, thr_0]
end
