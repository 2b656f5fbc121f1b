/-! ===== calls that look ahead, with checks ===== -/
section
variable {A : (Nat → Int32) → Nat → Int32 × Bool} {tx : (Nat → Int32) → Prop} {L0 : Int32} {S : Nat → Int32} {e : Nat} {M : sy_M}
/-! shiver -/
def sp_sv (A : (Nat → Int32) → Nat → Int32 × Bool) (n : Nat) (f : Nat → Int32) : Nat → (Nat → Int32) → Int32
  | 0, _ => -(Int32.ofNat 1)
  | m + 1, g => if sp_cd f (sp_pass A n false false g).1 n 0 = -(Int32.ofNat 1) then sp_sv A n f m (sp_pass A n false false g).1 else sp_cd f (sp_pass A n false false g).1 n 0
theorem sp_sv_s (A : (Nat → Int32) → Nat → Int32 × Bool) (n : Nat) (f : Nat → Int32) (m : Nat) (g : Nat → Int32) : sp_sv A n f (m + 1) g = if sp_cd f (sp_pass A n false false g).1 n 0 = -(Int32.ofNat 1) then sp_sv A n f m (sp_pass A n false false g).1 else sp_cd f (sp_pass A n false false g).1 n 0 := rfl
theorem c_shiver {n : Nat} {f : Nat → Int32} (H : hw M 9 f) (G : gr f n) (hA : cAK A 29 M f) (D : dk M 19) : ∃ M1, jfX11_shiver M = sy_ri (sp_sv A n f 96 f) M1 ∧ fq M M1 := by
  obtain ⟨M1, e1, a1, w1, f1⟩ := q_start H G hA D
  unfold jfX11_shiver
  rw [e1, sy_bv_rv]
  have key := sy_ind (n := 96) (F := sy_F) (fun k i (a : (Nat → Int32) × sy_M) => jfX11_shiver_6 k (Int32.ofNat (i + 1)) a.2) (fun i a => ah A a.2 n a.1 ∧ fp 19 M1 a.2) (fun m i a c => ∃ M2, c = sy_ri (sp_sv A n f m a.1) M2 ∧ fq M1 M2) ?_ ?_ (f, M1) ⟨a1, fp_rfl⟩ (by rw [sy_F_eq]; omega)
  · obtain ⟨M2, e2, f2⟩ := key
    exact ⟨M2, e2, f1.trans f2⟩
  · intro k ⟨g, N⟩ ⟨h1, h2⟩
    refine ⟨N, ?_, h1.fq h2⟩
    show jgX11_shiver_6 (jfX11_shiver_6 k) (Int32.ofNat (96 + 1)) N = _
    simp (disch := omega) only [zL, zlt, zle, zeq, zadd, zmul, zin, zix, zsh1, Nat.add_zero, Nat.zero_add, Nat.mul_zero, if_true, if_false, if_pos, if_neg, sy_bi_ri, sy_bi_rt, sy_bv_rv, sy_bv_rt, sy_br_rr, sy_br_rn, sy_hi_ri, sy_hi_rt, sy_bs_t, sy_bx_t, sy_bb_t, bz_bo, ite_bz0, ite_bz1, jgX11_shiver_6]
    rfl
  · intro m k i ⟨g, N⟩ hi ⟨h1, h2⟩
    obtain ⟨N1, e3, a3, f3⟩ := c_passA (dr := false) h1
    replace e3 : jfX8_pass 19 29 (Int32.ofNat 0) N = _ := e3
    have w3 : hw N1 9 f := hw_congr w1 (fun a c1 c2 => (h2.trans f3) a (by omega) (by omega))
    have e4 := c_firstColder w3.1 a3.1.1 G.2.1 G.2.2.1
    show (∃ a' : (Nat → Int32) × sy_M, jgX11_shiver_6 (jfX11_shiver_6 (k + 1)) (Int32.ofNat (i + 1)) N = _ ∧ _) ∨ (∃ M2, jgX11_shiver_6 (jfX11_shiver_6 (k + 1)) (Int32.ofNat (i + 1)) N = _ ∧ _)
    simp (disch := omega) only [zL, zlt, zle, zeq, zadd, zmul, zin, zix, zsh1, Nat.add_zero, Nat.zero_add, Nat.mul_zero, if_true, if_false, if_pos, if_neg, sy_bi_ri, sy_bi_rt, sy_bv_rv, sy_bv_rt, sy_br_rr, sy_br_rn, sy_hi_ri, sy_hi_rt, sy_bs_t, sy_bx_t, sy_bb_t, bz_bo, ite_bz0, ite_bz1, jgX11_shiver_6, e3, e4, sp_sv_s]
    by_cases hl : sp_cd f (sp_pass A n false false g).1 n 0 = -(Int32.ofNat 1)
    · refine Or.inl ⟨((sp_pass A n false false g).1, N1), by rw [if_pos hl], ⟨a3, h2.trans f3⟩, ?_⟩
      rintro c ⟨M2, e4, f4⟩
      exact ⟨M2, by rw [e4, if_pos hl], f4⟩
    · exact Or.inr ⟨N1, by rw [if_neg hl, if_neg hl], a3.fq (h2.trans f3)⟩
theorem m_shiver (hM : mAK A tx) {n : Nat} {f : Nat → Int32} (h : rc tx false M n f) : ∃ M1, jfX12_shiver M = sy_ri (sp_sv A n f 96 f) M1 ∧ fr M M1 := by
  have h0 := rc_thr (c := 0) h
  obtain ⟨M1, e1, c1, f1⟩ := m_keepsColds h0.1 h0.2.1.2.1 h0.2.1.2.2.1
  have F1 : ft (thr M 0) M1 := ⟨fun a ha => f1 a (by unfold rx at ha; omega), fun j hj => by rw [f1 121 (by decide)]⟩
  have r1 := rc_ft h0 F1
  have hb : ∀ (a : Int32) (g : Nat → Int32) (N : sy_M), N 122 = g → tsame f g → fm (syc M1 124 (sp_aside 426 f (M1 124))) N → ∃ M2, jfX12_shiver_45 a N = sy_ri a M2 ∧ fr M M2 := by
    intro a g N k1 k2 k3
    obtain ⟨e2, f2⟩ := m_lookT r1.1 k3 k1 k2
    exact ⟨_, by simp only [jfX12_shiver_45, e2, sy_bv_rv], fr_thr.trans (F1.trans f2).fr⟩
  simp (disch := omega) only [zL, zlt, zle, zeq, zadd, zmul, zin, zix, zsh1, Nat.add_zero, Nat.zero_add, Nat.mul_zero, if_true, if_false, if_pos, if_neg, sy_bi_ri, sy_bi_rt, sy_bv_rv, sy_bv_rt, sy_br_rr, sy_br_rn, sy_hi_ri, sy_hi_rt, sy_bs_t, sy_bx_t, sy_bb_t, bz_bo, ite_bz0, ite_bz1, jfX12_shiver, thr_up, e1, m_putsAside, r1.1]
  refine sy_ind (n := 96) (F := sy_F) (fun k i (a : (Nat → Int32) × sy_M) => jfX12_shiver_17 k (-(Int32.ofNat 1)) (Int32.ofNat i) a.2) (fun i a => rc tx false a.2 n a.1 ∧ tsame f a.1 ∧ fm (syc M1 124 (sp_aside 426 f (M1 124))) a.2) (fun m i a c => ∃ M2, c = sy_ri (sp_sv A n f m a.1) M2 ∧ fr M M2) ?_ ?_ (f, syc M1 124 (sp_aside 426 f (M1 124))) ⟨rc_aside r1, tsame_rfl, fm_rfl⟩ (by rw [sy_F_eq]; omega)
  · intro k ⟨g, N⟩ ⟨k1, k2, k3⟩
    obtain ⟨M2, e2, f2⟩ := hb (-(Int32.ofNat 1)) g N k1.1 k2 k3
    refine ⟨M2, ?_, f2⟩
    show jgX12_shiver_17 (jfX12_shiver_17 k) (-(Int32.ofNat 1)) (Int32.ofNat 96) N = _
    simp (disch := omega) only [zL, zlt, zle, zeq, zadd, zmul, zin, zix, zsh1, Nat.add_zero, Nat.zero_add, Nat.mul_zero, if_true, if_false, if_pos, if_neg, sy_bi_ri, sy_bi_rt, sy_bv_rv, sy_bv_rt, sy_br_rr, sy_br_rn, sy_hi_ri, sy_hi_rt, sy_bs_t, sy_bx_t, sy_bb_t, bz_bo, ite_bz0, ite_bz1, jgX12_shiver_17, e2]
    rfl
  · intro m k i ⟨g, N⟩ hi ⟨k1, k2, k3⟩
    obtain ⟨N1, e3, a3, f3⟩ := m_passA hM (dr := false) k1
    have ts := k2.trans (sp_pass_rb (A := A) (nf := false) (dr := false) k1.2.1.1 k1.2.1.2.2.1).2.1
    replace e3 : jfX12_passes (Int32.ofNat 0) N = _ := e3
    have e4 := m_colder (f := f) a3.1 a3.2.1.2.1 a3.2.1.2.2.1 (fun p hp => by rw [(k3.trans f3).1 128 (by decide) (by decide) (by decide), syc_ne _ _ (by decide)]; exact c1 p hp)
    have s1 : jgX12_shiver_17 (jfX12_shiver_17 (k + 1)) (-(Int32.ofNat 1)) (Int32.ofNat i) N = jfX12_shiver_17 (k + 1) (sp_cd f (sp_pass A n false false g).1 n 0) (Int32.ofNat (i + 1)) N1 := by
      simp (disch := omega) only [zL, zlt, zle, zeq, zadd, zmul, zin, zix, zsh1, Nat.add_zero, Nat.zero_add, Nat.mul_zero, if_true, if_false, if_pos, if_neg, sy_bi_ri, sy_bi_rt, sy_bv_rv, sy_bv_rt, sy_br_rr, sy_br_rn, sy_hi_ri, sy_hi_rt, sy_bs_t, sy_bx_t, sy_bb_t, bz_bo, ite_bz0, ite_bz1, jgX12_shiver_17, e3, e4]
    by_cases hl : sp_cd f (sp_pass A n false false g).1 n 0 = -(Int32.ofNat 1)
    · refine Or.inl ⟨((sp_pass A n false false g).1, N1), ?_, ⟨a3, ts, k3.trans f3⟩, ?_⟩
      · rw [hl] at s1; exact s1
      · rintro c ⟨M2, e5, f5⟩
        exact ⟨M2, by rw [e5, sp_sv_s, if_pos hl], f5⟩
    · obtain ⟨M2, e2, f2⟩ := hb (sp_cd f (sp_pass A n false false g).1 n 0) _ N1 a3.1 ts (k3.trans f3)
      refine Or.inr ⟨M2, ?_, f2⟩
      refine (show _ = _ from s1).trans ?_
      show jgX12_shiver_17 (jfX12_shiver_17 k) _ _ N1 = _
      unfold jgX12_shiver_17
      rw [if_neg (show ¬ (sp_cd f (sp_pass A n false false g).1 n 0 = -1) from hl), e2, sp_sv_s, if_neg hl]
      split <;> rfl
theorem o_shiver (hM : mAK A tx) (I : Inv A tx L0 S e M) : opN A tx L0 S e (jfX11_shiver M) (jfX12_shiver) := by
  obtain ⟨n, G, H, ht, hA, hl⟩ := id I.1
  exact opN_q I (c_shiver H G hA I.2.2.2.2.1) (fun N hN => m_shiver hM (rc_of I G ht hN))
/-! after -/
theorem o_after (hM : mAK A tx) (I : Inv A tx L0 S e M) (he : e < 90000) (a b w : Int32) : opT A tx L0 S e (jfL_after a b w M) (jfX12_after a b w) := by
  obtain ⟨n, G, H, ht, hA, hl⟩ := id I.1
  have hn := G.2.1
  have h7 := G.2.2.1
  obtain ⟨xk, hxk, exk⟩ := I.2.2.2.2.2.2.2.2.1
  have hx := xok he hxk exk
  have h9 : M 9 3 = Int32.ofNat n := (hv_3 H.1).trans hn
  have D19 := I.2.2.2.2.1
  unfold jfL_after
  rcases ck_lodger h7 h9 hx a with ⟨p, hp, ea, ck, sa⟩ | ⟨sa, ck⟩
  · rcases ck_range (lo := 0) (hi := 96) (by decide) (by decide) hx b with ⟨k, _, hk, eb, ck2, sb⟩ | ⟨sb, ck2⟩
    · subst ea eb
      have key : ∀ u : Nat, u ≤ 2 → w = Int32.ofNat u → opT A tx L0 S e (jfL_after (Int32.ofNat p) (Int32.ofNat k) w M) (jfX12_after (Int32.ofNat p) (Int32.ofNat k) w) := by
        intro u hu ew
        subst ew
        have sw : sp_in (Int32.ofNat u) (Int32.ofNat 0) (Int32.ofNat 2) = true := by rw [sp_in_z (by omega) (by omega) (by omega)]; exact decide_eq_true (by omega)
        refine opT_q I (v := (sp_gs A n false false (M 122) k).1 (14 + 9 * p + (if u = 0 then 5 else if u = 1 then 7 else 8))) ?_ ?_
        · obtain ⟨M1, e1, a1, w1, f1⟩ := q_start H G hA D19
          obtain ⟨M2, e2, a2, f2⟩ := c_runA (dr := false) a1 hk
          replace e2 : jfX11_run (Int32.ofNat k) (Int32.ofNat 0) M1 = _ := e2
          refine ⟨M2, ?_, f1.trans (a2.fq f2)⟩
          rcases (show u = 0 ∨ u = 1 ∨ u = 2 by omega) with h | h | h <;> subst h <;> simp (disch := omega) only [zL, zlt, zle, zeq, zadd, zmul, zin, zix, zsh1, Nat.add_zero, Nat.zero_add, Nat.mul_zero, if_true, if_false, if_pos, if_neg, sy_bi_ri, sy_bi_rt, sy_bv_rv, sy_bv_rt, sy_br_rr, sy_br_rn, sy_hi_ri, sy_hi_rt, sy_bs_t, sy_bx_t, sy_bb_t, bz_bo, ite_bz0, ite_bz1, jfX11_after, jfX11_after_71, ck, ck2, e1, e2, c_get a2.1.1]
        · intro N hN
          have r := rc_thr (c := 0) (rc_of I G ht hN)
          have eN : N 122 3 = Int32.ofNat n := by rw [hN 122 (by omega) (by omega)]; exact hn
          obtain ⟨N1, e1, r1, _, _, f1⟩ := m_goesA hM (dr := false) (k := k) (rc_aside (q := sp_aside 426 (M 122) (thr N 0 124)) r) hk
          obtain ⟨e2, f2⟩ := m_lookT r.1 f1 r1.1 (sp_gs_gr G k).2.1
          replace e1 : jfX12_goes (Int32.ofNat k) (Int32.ofNat 0) (syc (thr N 0) 124 (sp_aside 426 (M 122) (thr N 0 124))) = _ := e1
          refine ⟨_, ?_, (f2.2 0 (by omega)).trans (thr_0 _ _), fr_thr.trans f2.fr⟩
          rcases (show u = 0 ∨ u = 1 ∨ u = 2 by omega) with h | h | h <;> subst h <;> simp (disch := omega) only [zL, zlt, zle, zeq, zadd, zmul, zin, zix, zsh1, Nat.add_zero, Nat.zero_add, Nat.mul_zero, if_true, if_false, if_pos, if_neg, sy_bi_ri, sy_bi_rt, sy_bv_rv, sy_bv_rt, sy_br_rr, sy_br_rn, sy_hi_ri, sy_hi_rt, sy_bs_t, sy_bx_t, sy_bb_t, bz_bo, ite_bz0, ite_bz1, jfX12_after, jfX12_after_41, jfX12_after_87, m_isLodger, eN, sa, m_isIn, sb, sw, cond_true, thr_up, thr_0, m_putsAside, r.1, e1, m_of, r1.1, e2]
      by_cases h0 : w < (Int32.ofNat 0)
      · have sw : sp_in w (Int32.ofNat 0) (Int32.ofNat 2) = false := sp_in_neg h0
        refine opT_x I (cl := 23) (c := 3) ?_ rfl (by decide) (by decide) ?_
        · simp only [jfX11_after, ck, sy_bv_rv]
          rw [show jfX11_checkRange (Int32.ofNat k) 0 96 M = sy_rv M from ck2, sy_bv_rv, if_pos (show w < 0 from h0), hx, sy_bx_t]; rfl
        · intro N hN
          have eN : N 122 3 = Int32.ofNat n := by rw [hN 122 (by omega) (by omega)]; exact hn
          exact ⟨(Int32.ofNat 0), thr N 3, by simp (disch := omega) only [zL, zlt, zle, zeq, zadd, zmul, zin, zix, zsh1, Nat.add_zero, Nat.zero_add, Nat.mul_zero, if_true, if_false, if_pos, if_neg, sy_bi_ri, sy_bi_rt, sy_bv_rv, sy_bv_rt, sy_br_rr, sy_br_rn, sy_hi_ri, sy_hi_rt, sy_bs_t, sy_bx_t, sy_bb_t, bz_bo, ite_bz0, ite_bz1, jfX12_after, jfX12_after_41, m_isLodger, eN, sa, m_isIn, sb, sw, cond_true, cond_false, thr_up, thr_0], thr_0 _ _, fr_thr⟩
      · obtain ⟨u, hu, ew⟩ := zex_nat w h0
        by_cases h2 : u ≤ 2
        · exact key u h2 ew
        · subst ew
          have sw : sp_in (Int32.ofNat u) (Int32.ofNat 0) (Int32.ofNat 2) = false := by rw [sp_in_z (by omega) (by omega) (by omega)]; exact decide_eq_false (by omega)
          refine opT_x I (cl := 23) (c := 3) ?_ rfl (by decide) (by decide) ?_
          · simp (disch := omega) only [zL, zlt, zle, zeq, zadd, zmul, zin, zix, zsh1, Nat.add_zero, Nat.zero_add, Nat.mul_zero, if_true, if_false, if_pos, if_neg, sy_bi_ri, sy_bi_rt, sy_bv_rv, sy_bv_rt, sy_br_rr, sy_br_rn, sy_hi_ri, sy_hi_rt, sy_bs_t, sy_bx_t, sy_bb_t, bz_bo, ite_bz0, ite_bz1, jfX11_after, ck, ck2, hx]; rfl
          · intro N hN
            have eN : N 122 3 = Int32.ofNat n := by rw [hN 122 (by omega) (by omega)]; exact hn
            exact ⟨(Int32.ofNat 0), thr N 3, by simp (disch := omega) only [zL, zlt, zle, zeq, zadd, zmul, zin, zix, zsh1, Nat.add_zero, Nat.zero_add, Nat.mul_zero, if_true, if_false, if_pos, if_neg, sy_bi_ri, sy_bi_rt, sy_bv_rv, sy_bv_rt, sy_br_rr, sy_br_rn, sy_hi_ri, sy_hi_rt, sy_bs_t, sy_bx_t, sy_bb_t, bz_bo, ite_bz0, ite_bz1, jfX12_after, jfX12_after_41, m_isLodger, eN, sa, m_isIn, sb, sw, cond_true, cond_false, thr_up, thr_0], thr_0 _ _, fr_thr⟩
    · refine opT_x I (cl := 20) (c := 2) ?_ rfl (by decide) (by decide) ?_
      · simp (disch := omega) only [zL, zlt, zle, zeq, zadd, zmul, zin, zix, zsh1, Nat.add_zero, Nat.zero_add, Nat.mul_zero, if_true, if_false, if_pos, if_neg, sy_bi_ri, sy_bi_rt, sy_bv_rv, sy_bv_rt, sy_br_rr, sy_br_rn, sy_hi_ri, sy_hi_rt, sy_bs_t, sy_bx_t, sy_bb_t, bz_bo, ite_bz0, ite_bz1, jfX11_after, ck, ck2]
      · intro N hN
        have eN : N 122 3 = Int32.ofNat n := by rw [hN 122 (by omega) (by omega)]; exact hn
        exact ⟨(Int32.ofNat 0), thr N 2, by simp (disch := omega) only [zL, zlt, zle, zeq, zadd, zmul, zin, zix, zsh1, Nat.add_zero, Nat.zero_add, Nat.mul_zero, if_true, if_false, if_pos, if_neg, sy_bi_ri, sy_bi_rt, sy_bv_rv, sy_bv_rt, sy_br_rr, sy_br_rn, sy_hi_ri, sy_hi_rt, sy_bs_t, sy_bx_t, sy_bb_t, bz_bo, ite_bz0, ite_bz1, jfX12_after, jfX12_after_41, m_isLodger, eN, sa, m_isIn, sb, cond_true, cond_false, thr_up, thr_0], thr_0 _ _, fr_thr⟩
  · refine opT_x I (cl := 22) (c := 1) ?_ rfl (by decide) (by decide) ?_
    · simp (disch := omega) only [zL, zlt, zle, zeq, zadd, zmul, zin, zix, zsh1, Nat.add_zero, Nat.zero_add, Nat.mul_zero, if_true, if_false, if_pos, if_neg, sy_bi_ri, sy_bi_rt, sy_bv_rv, sy_bv_rt, sy_br_rr, sy_br_rn, sy_hi_ri, sy_hi_rt, sy_bs_t, sy_bx_t, sy_bb_t, bz_bo, ite_bz0, ite_bz1, jfX11_after, ck]
    · intro N hN
      have eN : N 122 3 = Int32.ofNat n := by rw [hN 122 (by omega) (by omega)]; exact hn
      exact ⟨(Int32.ofNat 0), thr N 1, by simp (disch := omega) only [zL, zlt, zle, zeq, zadd, zmul, zin, zix, zsh1, Nat.add_zero, Nat.zero_add, Nat.mul_zero, if_true, if_false, if_pos, if_neg, sy_bi_ri, sy_bi_rt, sy_bv_rv, sy_bv_rt, sy_br_rr, sy_br_rn, sy_hi_ri, sy_hi_rt, sy_bs_t, sy_bx_t, sy_bb_t, bz_bo, ite_bz0, ite_bz1, jfX12_after, jfX12_after_41, m_isLodger, eN, sa, cond_true, cond_false, thr_up, thr_0], thr_0 _ _, fr_thr⟩
/-! ease -/
theorem gr_gas {n g : Nat} {f : Nat → Int32} (G : gr f n) (hg : g ≤ 9999) : gr (rs f 6 (Int32.ofNat g)) n := by
  obtain ⟨h1, h2, h7, h4, h5, h6⟩ := G
  refine ⟨rb_set h1 hg, (rs_ne _ _ (by omega)).trans h2, h7, ?_, ?_, ?_⟩
  · intro h q hq
    rw [rs_ne _ _ (by omega)] at h
    rw [rs_ne _ _ (by omega)]
    exact h4 h q hq
  · intro q hq hq7
    obtain ⟨e1, e2, e3, e4⟩ := h5 q hq hq7
    refine ⟨?_, ?_, ?_, fun o ho => ⟨?_, ?_⟩⟩
    · rw [rs_ne _ _ (by omega)]; exact e1
    · rw [rs_ne _ _ (by omega)]; exact e2
    · rw [rs_ne _ _ (by omega)]; exact e3
    · rw [rs_ne _ _ (by omega)]; exact (e4 o ho).1
    · rw [rs_ne _ _ (by omega)]; exact (e4 o ho).2
  · refine ⟨?_, fun q hq => ?_⟩
    · rw [rs_ne _ _ (by omega)]; exact h6.1
    · rw [rs_ne _ _ (by omega)]; exact h6.2 q hq
def sp_eg (f : Nat → Int32) (c : Nat) : Nat → Int32 := rs f 6 (sp_min (Int32.ofNat 9999) (f 6 + Int32.ofNat c * f 7))
theorem gr_eg {n c : Nat} {f : Nat → Int32} (G : gr f n) (hc : c ≤ 99) : gr (sp_eg f c) n := by
  obtain ⟨g, hg, e1⟩ := rb_gas G.1
  obtain ⟨p, hp, e2⟩ := rb_price G.1
  have hm : c * p ≤ 99 * 99 := Nat.mul_le_mul hc hp
  unfold sp_eg
  rw [e1, e2, zmul, zadd, zmin (by omega) (by omega)]
  exact gr_gas G (Nat.min_le_left _ _)
def sp_es (A : (Nat → Int32) → Nat → Int32 × Bool) (n : Nat) (f : Nat → Int32) (k : Nat) : Nat → Nat → Int32
  | 0, _ => -(Int32.ofNat 1)
  | m + 1, c => if sp_cd f (sp_gs A n false false (sp_eg f c) k).1 n 0 = -(Int32.ofNat 1) then Int32.ofNat c else sp_es A n f k m (c + 1)
theorem sp_es_s (A : (Nat → Int32) → Nat → Int32 × Bool) (n : Nat) (f : Nat → Int32) (k m c : Nat) : sp_es A n f k (m + 1) c = if sp_cd f (sp_gs A n false false (sp_eg f c) k).1 n 0 = -(Int32.ofNat 1) then Int32.ofNat c else sp_es A n f k m (c + 1) := rfl
theorem ah_gas {n g : Nat} {f : Nat → Int32} {M M1 : sy_M} (h : ah A M n f) (w : hw M1 19 (rs f 6 (Int32.ofNat g))) (hg : g ≤ 9999) (p : fp 19 M M1) : ah A M1 n (rs f 6 (Int32.ofNat g)) := by
  refine ⟨w, gr_gas h.2.1 hg, cAK_cp h.2.2.1 (lcp_of (fun c c1 c2 => p c (by omega) (by omega))) (tsame_rs (by omega) (by omega) (by omega)), ?_⟩
  exact nt_congr (nt_same (fun q w hq hw => rs_ne _ _ (by omega)) h.2.1.2.2.1 h.2.2.2) (p _ (by omega) (by omega)) (p _ (by omega) (by omega))
theorem c_ease {n k : Nat} {f : Nat → Int32} (h : st A M n f) (hk : k ≤ 48) : ∃ M1, jfX11_ease_20 sy_F (Int32.ofNat k) (Int32.ofNat 0) M = sy_ri (sp_es A n f k 100 0) M1 ∧ fq M M1 := by
  refine sy_ind (n := 100) (F := sy_F) (fun q i (N : sy_M) => jfX11_ease_20 q (Int32.ofNat k) (Int32.ofNat i) N) (fun i N => st A N n f ∧ fp 19 M N) (fun m i _ c => ∃ M2, c = sy_ri (sp_es A n f k m i) M2 ∧ fq M M2) ?_ ?_ M ⟨h, fp_rfl⟩ (by rw [sy_F_eq]; omega)
  · intro q N ⟨h1, h2⟩
    refine ⟨N, ?_, h1.fq h2⟩
    show jgX11_ease_20 (jfX11_ease_20 q) (Int32.ofNat k) (Int32.ofNat 100) N = _
    simp (disch := omega) only [zL, zlt, zle, zeq, zadd, zmul, zin, zix, zsh1, Nat.add_zero, Nat.zero_add, Nat.mul_zero, if_true, if_false, if_pos, if_neg, sy_bi_ri, sy_bi_rt, sy_bv_rv, sy_bv_rt, sy_br_rr, sy_br_rn, sy_hi_ri, sy_hi_rt, sy_bs_t, sy_bx_t, sy_bb_t, bz_bo, ite_bz0, ite_bz1, jgX11_ease_20]
    rfl
  · intro m q i N hi ⟨h1, h2⟩
    obtain ⟨N1, e1, a1, f1⟩ := q_over h1.1 h1.2.1 h1.2.2.1 h1.2.2.2.1 h1.2.2.2.2
    obtain ⟨N2, e2, w2, f2⟩ := c_addGas a1.1 (Int32.ofNat i * f 7)
    obtain ⟨g, hg, g1⟩ := rb_gas h.2.1.1
    obtain ⟨p, hp, g2⟩ := rb_price h.2.1.1
    have hm : i * p ≤ 99 * 99 := Nat.mul_le_mul (by omega) hp
    have e6 : sp_min (Int32.ofNat 9999) (f 6 + Int32.ofNat i * f 7) = Int32.ofNat (min 9999 (g + i * p)) := by rw [g1, g2, zmul, zadd, zmin (by omega) (by omega)]
    have a2 : ah A N2 n (sp_eg f i) := by
      unfold sp_eg
      rw [e6] at w2 ⊢
      exact ah_gas a1 w2 (Nat.min_le_left _ _) f2.fp
    obtain ⟨N3, e3, a3, f3⟩ := c_runA (dr := false) (k := k) a2 (by omega)
    replace e3 : jfX11_run (Int32.ofNat k) (Int32.ofNat 0) N2 = _ := e3
    have F := (f1.trans f2.fp).trans f3
    have s3 := st_fp h1 a3.1 F
    have e4 := c_firstColder s3.1.1 a3.1.1 h.2.1.2.1 h.2.1.2.2.1
    have e8 : N1 9 8 = f 7 := by rw [f1 9 (by omega) (by omega)]; exact hv_8 h1.1.1
    show (∃ a' : sy_M, jgX11_ease_20 (jfX11_ease_20 (q + 1)) (Int32.ofNat k) (Int32.ofNat i) N = _ ∧ _) ∨ (∃ M2, jgX11_ease_20 (jfX11_ease_20 (q + 1)) (Int32.ofNat k) (Int32.ofNat i) N = _ ∧ _)
    simp (disch := omega) only [zL, zlt, zle, zeq, zadd, zmul, zin, zix, zsh1, Nat.add_zero, Nat.zero_add, Nat.mul_zero, if_true, if_false, if_pos, if_neg, sy_bi_ri, sy_bi_rt, sy_bv_rv, sy_bv_rt, sy_br_rr, sy_br_rn, sy_hi_ri, sy_hi_rt, sy_bs_t, sy_bx_t, sy_bb_t, bz_bo, ite_bz0, ite_bz1, jgX11_ease_20, e1, e8, e2, e3, e4, sp_es_s]
    by_cases hl : sp_cd f (sp_gs A n false false (sp_eg f i) k).1 n 0 = -(Int32.ofNat 1)
    · exact Or.inr ⟨N3, by rw [if_pos hl, if_pos hl], s3.fq (h2.trans F)⟩
    · refine Or.inl ⟨N3, by rw [if_neg hl], ⟨s3, h2.trans F⟩, ?_⟩
      rintro c ⟨M2, e5, f5⟩
      exact ⟨M2, by rw [e5, if_neg hl], f5⟩
theorem m_ease (hM : mAK A tx) {n k : Nat} {f : Nat → Int32} (h : rc tx false M n f) (hk : k ≤ 48) : ∃ M1, jfX12_ease_16 (Int32.ofNat k) (Int32.ofNat 0) M = sy_ri (sp_es A n f k 100 0) M1 ∧ M1 121 0 = (Int32.ofNat 0) ∧ fr M M1 := by
  have h0 := rc_thr (c := 0) h
  obtain ⟨M1, e1, c1, f1⟩ := m_keepsColds h0.1 h0.2.1.2.1 h0.2.1.2.2.1
  have F1 : ft (thr M 0) M1 := ⟨fun a ha => f1 a (by unfold rx at ha; omega), fun j hj => by rw [f1 121 (by decide)]⟩
  have r1 := rc_ft h0 F1
  have F2 : ft (thr M 0) (syc M1 124 (sp_aside 426 f (M1 124))) := F1.trans (ft_syc (by unfold rx; omega) (by decide))
  have key : ∃ M2, jfX12_ease_40 sy_F (Int32.ofNat k) (-(Int32.ofNat 1)) (Int32.ofNat 0) (syc M1 124 (sp_aside 426 f (M1 124))) = sy_ri (sp_es A n f k 100 0) M2 ∧ ft (thr M 0) M2 := by
    refine sy_ind (n := 100) (F := sy_F) (fun q i (N : sy_M) => jfX12_ease_40 q (Int32.ofNat k) (-(Int32.ofNat 1)) (Int32.ofNat i) N) (fun i N => rc tx false N n f ∧ N 124 = sp_aside 426 f (M1 124) ∧ (∀ p, p < n → N 128 p = f (14 + 9 * p + 7)) ∧ ft (thr M 0) N) (fun m i _ c => ∃ M2, c = sy_ri (sp_es A n f k m i) M2 ∧ ft (thr M 0) M2) ?_ ?_ _ ⟨rc_aside r1, syc_at _ _ _, fun p hp => by rw [syc_ne _ _ (by decide)]; exact c1 p hp, F2⟩ (by rw [sy_F_eq]; omega)
    · intro q N ⟨k1, k2, k3, k4⟩
      refine ⟨N, ?_, k4⟩
      show jgX12_ease_40 (jfX12_ease_40 q) (Int32.ofNat k) (-(Int32.ofNat 1)) (Int32.ofNat 100) N = _
      simp (disch := omega) only [zL, zlt, zle, zeq, zadd, zmul, zin, zix, zsh1, Nat.add_zero, Nat.zero_add, Nat.mul_zero, if_true, if_false, if_pos, if_neg, sy_bi_ri, sy_bi_rt, sy_bv_rv, sy_bv_rt, sy_br_rr, sy_br_rn, sy_hi_ri, sy_hi_rt, sy_bs_t, sy_bx_t, sy_bb_t, bz_bo, ite_bz0, ite_bz1, jgX12_ease_40]
      rfl
    · intro m q i N hi ⟨k1, k2, k3, k4⟩
      have r2 : rc tx false (syc N 122 (sp_eg f i)) n (sp_eg f i) := ⟨syc_at _ _ _, gr_eg k1.2.1 (by omega), hM.1 _ _ k1.2.2.1 (tsame_rs (by omega) (by omega) (by omega)), by rw [syc_ne _ _ (by decide)]; exact k1.2.2.2⟩
      obtain ⟨N1, e3, a3, _, _, f3⟩ := m_goesA hM (dr := false) (k := k) r2 (by omega)
      replace e3 : jfX12_goes (Int32.ofNat k) (Int32.ofNat 0) (syc N 122 (sp_eg f i)) = _ := e3
      have q1 := sp_gs_gr (A := A) (nf := false) (dr := false) (gr_eg k1.2.1 (c := i) (by omega)) k
      have ts : tsame f (sp_gs A n false false (sp_eg f i) k).1 := (tsame_rs (by omega) (by omega) (by omega)).trans q1.2.1
      have e4 := m_colder (f := f) a3.1 a3.2.1.2.1 a3.2.1.2.2.1 (fun p hp => by rw [f3.1 128 (by decide) (by decide) (by decide), syc_ne _ _ (by decide)]; exact k3 p hp)
      have eb := m_back (N := N1) (N0 := M1) (f := f) (by rw [f3.1 124 (by decide) (by decide) (by decide), syc_ne _ _ (by decide)]; exact k2) (fun i hi => by rw [a3.1]; exact ts.2.2 i hi)
      have F4 : ft N (syc N1 122 f) := by
        refine ⟨fun a ha => ?_, fun j hj => ?_⟩
        · unfold rx at ha
          by_cases ea : a = 122
          · subst ea; rw [syc_at, k1.1]
          · rw [syc_ne _ _ ea, f3.1 a (by omega) ea (by omega), syc_ne _ _ ea]
        · rw [syc_ne _ _ (by decide), f3.2 j (by omega), syc_ne _ _ (by decide)]
      have e6 : sp_min (Int32.ofNat 9999) (N 122 6 + Int32.ofNat i * N 122 7) = sp_min (Int32.ofNat 9999) (f 6 + Int32.ofNat i * f 7) := by rw [k1.1]
      have s1 : jgX12_ease_40 (jfX12_ease_40 (q + 1)) (Int32.ofNat k) (-(Int32.ofNat 1)) (Int32.ofNat i) N = jfX12_ease_40 (q + 1) (Int32.ofNat k) (if sp_cd f (sp_gs A n false false (sp_eg f i) k).1 n 0 = -(Int32.ofNat 1) then Int32.ofNat i else -(Int32.ofNat 1)) (Int32.ofNat (i + 1)) (syc N1 122 f) := by
        have e7 : rs f 6 (sp_min (Int32.ofNat 9999) (f 6 + Int32.ofNat i * f 7)) = sp_eg f i := rfl
        simp (disch := omega) only [zL, zlt, zle, zeq, zadd, zmul, zin, zix, zsh1, Nat.add_zero, Nat.zero_add, Nat.mul_zero, if_true, if_false, if_pos, if_neg, sy_bi_ri, sy_bi_rt, sy_bv_rv, sy_bv_rt, sy_br_rr, sy_br_rn, sy_hi_ri, sy_hi_rt, sy_bs_t, sy_bx_t, sy_bb_t, bz_bo, ite_bz0, ite_bz1, jgX12_ease_40, jfX12_ease_99, m_lesser, k1.1, sy_upd_st, e7, e3, e4, eb]
        split <;> rfl
      by_cases hl : sp_cd f (sp_gs A n false false (sp_eg f i) k).1 n 0 = -(Int32.ofNat 1)
      · rw [if_pos hl] at s1
        refine Or.inr ⟨syc N1 122 f, ?_, k4.trans F4⟩
        refine (show _ = _ from s1).trans ?_
        show jgX12_ease_40 (jfX12_ease_40 q) (Int32.ofNat k) (Int32.ofNat i) (Int32.ofNat (i + 1)) _ = _
        have hne : Int32.ofNat i ≠ -(Int32.ofNat 1) := by
          intro z
          have : ¬ (Int32.ofNat i < (Int32.ofNat 0)) := znn _ (by omega)
          rw [z] at this
          exact this (by decide)
        unfold jgX12_ease_40
        rw [if_neg (show ¬ (Int32.ofNat i = -1) from hne), sp_es_s, if_pos hl]
        split <;> rfl
      · rw [if_neg hl] at s1
        refine Or.inl ⟨syc N1 122 f, s1, ⟨rc_ft k1 F4, ?_, fun p hp => ?_, k4.trans F4⟩, ?_⟩
        · rw [syc_ne _ _ (by decide), f3.1 124 (by decide) (by decide) (by decide), syc_ne _ _ (by decide)]; exact k2
        · rw [syc_ne _ _ (by decide), f3.1 128 (by decide) (by decide) (by decide), syc_ne _ _ (by decide)]; exact k3 p hp
        · rintro c ⟨M2, e5, f5⟩
          exact ⟨M2, by rw [e5, sp_es_s, if_neg hl], f5⟩
  obtain ⟨M2, e2, f2⟩ := key
  refine ⟨M2, ?_, (f2.2 0 (by omega)).trans (thr_0 _ _), fr_thr.trans f2.fr⟩
  simp (disch := omega) only [zL, zlt, zle, zeq, zadd, zmul, zin, zix, zsh1, Nat.add_zero, Nat.zero_add, Nat.mul_zero, if_true, if_false, if_pos, if_neg, sy_bi_ri, sy_bi_rt, sy_bv_rv, sy_bv_rt, sy_br_rr, sy_br_rn, sy_hi_ri, sy_hi_rt, sy_bs_t, sy_bx_t, sy_bb_t, bz_bo, ite_bz0, ite_bz1, jfX12_ease_16, thr_up, thr_0, e1, m_putsAside, r1.1, e2]
theorem o_ease (hM : mAK A tx) (I : Inv A tx L0 S e M) (he : e < 90000) (a : Int32) : opT A tx L0 S e (jfL_ease a M) (jfX12_ease a) := by
  obtain ⟨n, G, H, ht, hA, hl⟩ := id I.1
  have hn := G.2.1
  have h7 := G.2.2.1
  obtain ⟨xk, hxk, exk⟩ := I.2.2.2.2.2.2.2.2.1
  have hx := xok he hxk exk
  have h9 : M 9 3 = Int32.ofNat n := (hv_3 H.1).trans hn
  have D19 := I.2.2.2.2.1
  unfold jfL_ease
  rcases ck_range (lo := 0) (hi := 48) (by decide) (by decide) hx a with ⟨k, _, hk, ea, ck, sa⟩ | ⟨sa, ck⟩
  · subst ea
    refine opT_q I (v := sp_es A n (M 122) k 100 0) ?_ ?_
    · obtain ⟨M1, e1, s1, f1⟩ := q_st H G hA D19
      obtain ⟨M2, e2, f2⟩ := c_ease s1 hk
      exact ⟨M2, by simp (disch := omega) only [zL, zlt, zle, zeq, zadd, zmul, zin, zix, zsh1, Nat.add_zero, Nat.zero_add, Nat.mul_zero, if_true, if_false, if_pos, if_neg, sy_bi_ri, sy_bi_rt, sy_bv_rv, sy_bv_rt, sy_br_rr, sy_br_rn, sy_hi_ri, sy_hi_rt, sy_bs_t, sy_bx_t, sy_bb_t, bz_bo, ite_bz0, ite_bz1, jfX11_ease, ck, e1, e2], f1.trans f2⟩
    · intro N hN
      obtain ⟨N1, e1, t1, f1⟩ := m_ease hM (rc_of I G ht hN) hk
      exact ⟨N1, by simp (disch := omega) only [zL, zlt, zle, zeq, zadd, zmul, zin, zix, zsh1, Nat.add_zero, Nat.zero_add, Nat.mul_zero, if_true, if_false, if_pos, if_neg, sy_bi_ri, sy_bi_rt, sy_bv_rv, sy_bv_rt, sy_br_rr, sy_br_rn, sy_hi_ri, sy_hi_rt, sy_bs_t, sy_bx_t, sy_bb_t, bz_bo, ite_bz0, ite_bz1, jfX12_ease, m_isIn, sa, cond_true, e1], t1, f1⟩
  · refine opT_x I (cl := 20) (c := 1) ?_ rfl (by decide) (by decide) ?_
    · simp (disch := omega) only [zL, zlt, zle, zeq, zadd, zmul, zin, zix, zsh1, Nat.add_zero, Nat.zero_add, Nat.mul_zero, if_true, if_false, if_pos, if_neg, sy_bi_ri, sy_bi_rt, sy_bv_rv, sy_bv_rt, sy_br_rr, sy_br_rn, sy_hi_ri, sy_hi_rt, sy_bs_t, sy_bx_t, sy_bb_t, bz_bo, ite_bz0, ite_bz1, jfX11_ease, ck]
      all_goals rfl
    · intro N hN
      have eN : N 122 3 = Int32.ofNat n := by rw [hN 122 (by omega) (by omega)]; exact hn
      exact ⟨(Int32.ofNat 0), thr N 1, by simp (disch := omega) only [zL, zlt, zle, zeq, zadd, zmul, zin, zix, zsh1, Nat.add_zero, Nat.zero_add, Nat.mul_zero, if_true, if_false, if_pos, if_neg, sy_bi_ri, sy_bi_rt, sy_bv_rv, sy_bv_rt, sy_br_rr, sy_br_rn, sy_hi_ri, sy_hi_rt, sy_bs_t, sy_bx_t, sy_bb_t, bz_bo, ite_bz0, ite_bz1, jfX12_ease, jfX12_ease_16, sa, m_isLodger, eN, m_isIn, m_isTick, cond_true, cond_false, thr_up, thr_0], thr_0 _ _, fr_thr⟩
end
