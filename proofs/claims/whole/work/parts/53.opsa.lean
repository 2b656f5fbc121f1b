/-! ===== calls that only read ===== -/
section
variable {A : (Nat → Int32) → Nat → Int32 × Bool} {tx : (Nat → Int32) → Prop} {L0 : Int32} {S : Nat → Int32} {e : Nat} {M : sy_M}
theorem o_fault (I : Inv A tx L0 S e M) : opN A tx L0 S e (jfX11_fault M) (jfX12_fault) := by
  refine opN_q I (v := M 0 17) ⟨M, by simp only [jfX11_fault], fq_rfl⟩ (fun N hN => ⟨thr N 0, ?_, fr_thr⟩)
  simp (disch := omega) only [zL, zlt, zle, zeq, zadd, zmul, zin, zix, zsh1, Nat.add_zero, Nat.zero_add, Nat.mul_zero, if_true, if_false, if_pos, if_neg, sy_bi_ri, sy_bi_rt, sy_bv_rv, sy_bv_rt, sy_br_rr, sy_br_rn, sy_hi_ri, sy_hi_rt, sy_bs_t, sy_bx_t, sy_bb_t, bz_bo, ite_bz0, ite_bz1, jfX12_fault, thr_up]
  rw [thr_j _ _ (by decide), hN 121 (by omega) (by omega), I.2.2.2.2.2.2.1]
theorem o_owes (I : Inv A tx L0 S e M) (he : e < 90000) (a b : Int32) : opT A tx L0 S e (jfL_owes a b M) (jfX12_owes a b) := by
  obtain ⟨n, G, H, ht, hA, hl⟩ := id I.1
  have hn := G.2.1
  have h7 := G.2.2.1
  obtain ⟨xk, hxk, exk⟩ := I.2.2.2.2.2.2.2.2.1
  have hx := xok he hxk exk
  have h9 : M 9 3 = Int32.ofNat n := (hv_3 H.1).trans hn
  have D19 := I.2.2.2.2.1
  unfold jfL_owes
  rcases ck_two h7 h9 hx a b with ⟨p, o, hp, ho, hne, ea, eb, ck, mk⟩ | ⟨cl, c, hcc, ck, mk⟩
  · subst ea eb
    refine opT_q I (v := M 122 (77 + 7 * p + o)) ⟨M, by simp (disch := omega) only [zL, zlt, zle, zeq, zadd, zmul, zin, zix, zsh1, Nat.add_zero, Nat.zero_add, Nat.mul_zero, if_true, if_false, if_pos, if_neg, sy_bi_ri, sy_bi_rt, sy_bv_rv, sy_bv_rt, sy_br_rr, sy_br_rn, sy_hi_ri, sy_hi_rt, sy_bs_t, sy_bx_t, sy_bb_t, bz_bo, ite_bz0, ite_bz1, jfX11_owes, ck, c_owed H.1], fq_rfl⟩ (fun N hN => ⟨thr N 0, ?_, thr_0 _ _, fr_thr⟩)
    have e122 : N 122 = M 122 := hN 122 (by omega) (by omega)
    have eN : N 122 3 = Int32.ofNat n := by rw [e122]; exact hn
    simp (disch := omega) only [zL, zlt, zle, zeq, zadd, zmul, zin, zix, zsh1, Nat.add_zero, Nat.zero_add, Nat.mul_zero, if_true, if_false, if_pos, if_neg, sy_bi_ri, sy_bi_rt, sy_bv_rv, sy_bv_rt, sy_br_rr, sy_br_rn, sy_hi_ri, sy_hi_rt, sy_bs_t, sy_bx_t, sy_bb_t, bz_bo, ite_bz0, ite_bz1, jfX12_owes, mk N eN, thr_0, m_owed, thr_ne, e122]
  · have hc0 : c ≠ 0 ∧ c < 4 := by omega
    refine opT_x I (cl := cl) (c := c) (by simp only [jfX11_owes, ck, sy_bv_rt]) (by rcases hcc with ⟨h1, h2⟩ | ⟨h1, h2⟩ <;> subst h1 h2 <;> rfl) hc0.1 hc0.2 (fun N hN => ⟨(Int32.ofNat 0), thr N c, ?_, thr_0 _ _, fr_thr⟩)
    have eN : N 122 3 = Int32.ofNat n := by rw [hN 122 (by omega) (by omega)]; exact hn
    simp (disch := omega) only [zL, zlt, zle, zeq, zadd, zmul, zin, zix, zsh1, Nat.add_zero, Nat.zero_add, Nat.mul_zero, if_true, if_false, if_pos, if_neg, sy_bi_ri, sy_bi_rt, sy_bv_rv, sy_bv_rt, sy_br_rr, sy_br_rn, sy_hi_ri, sy_hi_rt, sy_bs_t, sy_bx_t, sy_bb_t, bz_bo, ite_bz0, ite_bz1, jfX12_owes, mk N eN, thr_0]
theorem c_max (M : sy_M) (a b : Int32) : jfJ9_max_7cf53 a b M = sy_ri (sp_max a b) M := by
  rw [← sp_max_c]
  unfold jfJ9_max_7cf53
  split <;> rfl
theorem o_net (I : Inv A tx L0 S e M) (he : e < 90000) (a b : Int32) : opT A tx L0 S e (jfL_net a b M) (jfX12_net a b) := by
  obtain ⟨n, G, H, ht, hA, hl⟩ := id I.1
  have hn := G.2.1
  have h7 := G.2.2.1
  obtain ⟨xk, hxk, exk⟩ := I.2.2.2.2.2.2.2.2.1
  have hx := xok he hxk exk
  have h9 : M 9 3 = Int32.ofNat n := (hv_3 H.1).trans hn
  have D19 := I.2.2.2.2.1
  unfold jfL_net
  rcases ck_two h7 h9 hx a b with ⟨p, o, hp, ho, hne, ea, eb, ck, mk⟩ | ⟨cl, c, hcc, ck, mk⟩
  · subst ea eb
    refine opT_q I (v := sp_max (Int32.ofNat 0) (M 122 (77 + 7 * p + o) - M 122 (77 + 7 * o + p))) ⟨M, by simp (disch := omega) only [zL, zlt, zle, zeq, zadd, zmul, zin, zix, zsh1, Nat.add_zero, Nat.zero_add, Nat.mul_zero, if_true, if_false, if_pos, if_neg, sy_bi_ri, sy_bi_rt, sy_bv_rv, sy_bv_rt, sy_br_rr, sy_br_rn, sy_hi_ri, sy_hi_rt, sy_bs_t, sy_bx_t, sy_bb_t, bz_bo, ite_bz0, ite_bz1, jfX11_net, ck, c_owed H.1, c_max], fq_rfl⟩ (fun N hN => ⟨thr N 0, ?_, thr_0 _ _, fr_thr⟩)
    have e122 : N 122 = M 122 := hN 122 (by omega) (by omega)
    have eN : N 122 3 = Int32.ofNat n := by rw [e122]; exact hn
    simp (disch := omega) only [zL, zlt, zle, zeq, zadd, zmul, zin, zix, zsh1, Nat.add_zero, Nat.zero_add, Nat.mul_zero, if_true, if_false, if_pos, if_neg, sy_bi_ri, sy_bi_rt, sy_bv_rv, sy_bv_rt, sy_br_rr, sy_br_rn, sy_hi_ri, sy_hi_rt, sy_bs_t, sy_bx_t, sy_bb_t, bz_bo, ite_bz0, ite_bz1, jfX12_net, mk N eN, thr_0, m_owed, thr_ne, e122, m_greater]
  · have hc0 : c ≠ 0 ∧ c < 4 := by omega
    refine opT_x I (cl := cl) (c := c) (by simp only [jfX11_net, ck, sy_bv_rt]) (by rcases hcc with ⟨h1, h2⟩ | ⟨h1, h2⟩ <;> subst h1 h2 <;> rfl) hc0.1 hc0.2 (fun N hN => ⟨(Int32.ofNat 0), thr N c, ?_, thr_0 _ _, fr_thr⟩)
    have eN : N 122 3 = Int32.ofNat n := by rw [hN 122 (by omega) (by omega)]; exact hn
    simp (disch := omega) only [zL, zlt, zle, zeq, zadd, zmul, zin, zix, zsh1, Nat.add_zero, Nat.zero_add, Nat.mul_zero, if_true, if_false, if_pos, if_neg, sy_bi_ri, sy_bi_rt, sy_bv_rv, sy_bv_rt, sy_br_rr, sy_br_rn, sy_hi_ri, sy_hi_rt, sy_bs_t, sy_bx_t, sy_bb_t, bz_bo, ite_bz0, ite_bz1, jfX12_net, mk N eN, thr_0]
theorem o_isHome (I : Inv A tx L0 S e M) (he : e < 90000) (a b : Int32) : opB A tx L0 S e (jfL_isHome a b M) (jfX12_isHome a b) := by
  obtain ⟨n, G, H, ht, hA, hl⟩ := id I.1
  have hn := G.2.1
  have h7 := G.2.2.1
  obtain ⟨xk, hxk, exk⟩ := I.2.2.2.2.2.2.2.2.1
  have hx := xok he hxk exk
  have h9 : M 9 3 = Int32.ofNat n := (hv_3 H.1).trans hn
  have D19 := I.2.2.2.2.1
  unfold jfL_isHome
  rcases ck_lodger h7 h9 hx a with ⟨p, hp, ea, ck, sa⟩ | ⟨sa, ck⟩
  · rcases ck_tick hx b with ⟨t, ht2, eb, ck2, sb⟩ | ⟨sb, ck2⟩
    · subst ea eb
      refine opB_q I (b := sp_at (M 122) p (Int32.ofNat t)) ⟨M, by simp (disch := omega) only [zL, zlt, zle, zeq, zadd, zmul, zin, zix, zsh1, Nat.add_zero, Nat.zero_add, Nat.mul_zero, if_true, if_false, if_pos, if_neg, sy_bi_ri, sy_bi_rt, sy_bv_rv, sy_bv_rt, sy_br_rr, sy_br_rn, sy_hi_ri, sy_hi_rt, sy_bs_t, sy_bx_t, sy_bb_t, bz_bo, ite_bz0, ite_bz1, jfX11_isHome, ck, ck2, c_isIn H.1], fq_rfl⟩ (fun M1 => by cases sp_at (M 122) p (Int32.ofNat t) <;> rfl) (fun N hN => ⟨thr N 0, ?_, thr_0 _ _, fr_thr⟩)
      have e122 : N 122 = M 122 := hN 122 (by omega) (by omega)
      have eN : N 122 3 = Int32.ofNat n := by rw [e122]; exact hn
      simp (disch := omega) only [zL, zlt, zle, zeq, zadd, zmul, zin, zix, zsh1, Nat.add_zero, Nat.zero_add, Nat.mul_zero, if_true, if_false, if_pos, if_neg, sy_bi_ri, sy_bi_rt, sy_bv_rv, sy_bv_rt, sy_br_rr, sy_br_rn, sy_hi_ri, sy_hi_rt, sy_bs_t, sy_bx_t, sy_bb_t, bz_bo, ite_bz0, ite_bz1, jfX12_isHome, jfX12_isHome_16, jfX12_isHome_21, m_isLodger, eN, sa, m_isTick, sb, cond_true, thr_up, thr_0, m_atHome, thr_ne, e122, ri_bz]
    · refine opB_x I (cl := 22) (c := 1) (by simp (disch := omega) only [zL, zlt, zle, zeq, zadd, zmul, zin, zix, zsh1, Nat.add_zero, Nat.zero_add, Nat.mul_zero, if_true, if_false, if_pos, if_neg, sy_bi_ri, sy_bi_rt, sy_bv_rv, sy_bv_rt, sy_br_rr, sy_br_rn, sy_hi_ri, sy_hi_rt, sy_bs_t, sy_bx_t, sy_bb_t, bz_bo, ite_bz0, ite_bz1, jfX11_isHome, ck, ck2]) rfl (by decide) (by decide) (fun N hN => ⟨thr N 1, ?_, thr_0 _ _, fr_thr⟩)
      have eN : N 122 3 = Int32.ofNat n := by rw [hN 122 (by omega) (by omega)]; exact hn
      simp (disch := omega) only [zL, zlt, zle, zeq, zadd, zmul, zin, zix, zsh1, Nat.add_zero, Nat.zero_add, Nat.mul_zero, if_true, if_false, if_pos, if_neg, sy_bi_ri, sy_bi_rt, sy_bv_rv, sy_bv_rt, sy_br_rr, sy_br_rn, sy_hi_ri, sy_hi_rt, sy_bs_t, sy_bx_t, sy_bb_t, bz_bo, ite_bz0, ite_bz1, jfX12_isHome, jfX12_isHome_16, jfX12_isHome_21, m_isLodger, eN, sa, m_isTick, sb, cond_true, cond_false, thr_up, thr_0]
      rfl
  · refine opB_x I (cl := 22) (c := 1) (by simp (disch := omega) only [zL, zlt, zle, zeq, zadd, zmul, zin, zix, zsh1, Nat.add_zero, Nat.zero_add, Nat.mul_zero, if_true, if_false, if_pos, if_neg, sy_bi_ri, sy_bi_rt, sy_bv_rv, sy_bv_rt, sy_br_rr, sy_br_rn, sy_hi_ri, sy_hi_rt, sy_bs_t, sy_bx_t, sy_bb_t, bz_bo, ite_bz0, ite_bz1, jfX11_isHome, ck]) rfl (by decide) (by decide) (fun N hN => ⟨thr N 1, ?_, thr_0 _ _, fr_thr⟩)
    have eN : N 122 3 = Int32.ofNat n := by rw [hN 122 (by omega) (by omega)]; exact hn
    simp (disch := omega) only [zL, zlt, zle, zeq, zadd, zmul, zin, zix, zsh1, Nat.add_zero, Nat.zero_add, Nat.mul_zero, if_true, if_false, if_pos, if_neg, sy_bi_ri, sy_bi_rt, sy_bv_rv, sy_bv_rt, sy_br_rr, sy_br_rn, sy_hi_ri, sy_hi_rt, sy_bs_t, sy_bx_t, sy_bb_t, bz_bo, ite_bz0, ite_bz1, jfX12_isHome, jfX12_isHome_16, jfX12_isHome_21, m_isLodger, eN, sa, cond_true, cond_false, thr_up, thr_0]
    rfl
theorem o_needs (I : Inv A tx L0 S e M) (he : e < 90000) (a : Int32) : opT A tx L0 S e (jfL_needs a M) (jfX12_needs a) := by
  obtain ⟨n, G, H, ht, hA, hl⟩ := id I.1
  have hn := G.2.1
  have h7 := G.2.2.1
  obtain ⟨xk, hxk, exk⟩ := I.2.2.2.2.2.2.2.2.1
  have hx := xok he hxk exk
  have h9 : M 9 3 = Int32.ofNat n := (hv_3 H.1).trans hn
  have D19 := I.2.2.2.2.1
  unfold jfL_needs
  rcases ck_tick hx a with ⟨t, ht2, eb, ck2, sb⟩ | ⟨sb, ck2⟩
  · subst eb
    refine opT_q I (v := sp_burn (M 122) n (sp_home (M 122) n (Int32.ofNat t))) ?_ (fun N hN => ⟨thr N 0, ?_, thr_0 _ _, fr_thr⟩)
    · obtain ⟨M1, e1, n1, w1, f1⟩ := q_learn H G
      exact ⟨M1, by simp (disch := omega) only [zL, zlt, zle, zeq, zadd, zmul, zin, zix, zsh1, Nat.add_zero, Nat.zero_add, Nat.mul_zero, if_true, if_false, if_pos, if_neg, sy_bi_ri, sy_bi_rt, sy_bv_rv, sy_bv_rt, sy_br_rr, sy_br_rn, sy_hi_ri, sy_hi_rt, sy_bs_t, sy_bx_t, sy_bb_t, bz_bo, ite_bz0, ite_bz1, jfX11_needs, ck2, e1, c_needsAt n1 ht2], f1⟩
    · have e122 : N 122 = M 122 := hN 122 (by omega) (by omega)
      have e3 := m_needsIn (M := thr N 0) (n := n) (t := Int32.ofNat t) (by rw [thr_ne _ _ (by decide), e122]; exact hn) h7
      rw [thr_ne _ _ (by decide), e122] at e3
      unfold sp_needs at e3
      simp (disch := omega) only [zL, zlt, zle, zeq, zadd, zmul, zin, zix, zsh1, Nat.add_zero, Nat.zero_add, Nat.mul_zero, if_true, if_false, if_pos, if_neg, sy_bi_ri, sy_bi_rt, sy_bv_rv, sy_bv_rt, sy_br_rr, sy_br_rn, sy_hi_ri, sy_hi_rt, sy_bs_t, sy_bx_t, sy_bb_t, bz_bo, ite_bz0, ite_bz1, jfX12_needs, jfX12_needs_13, m_isTick, sb, cond_true, thr_up, thr_0, e3]
  · refine opT_x I (cl := 22) (c := 1) ?_ rfl (by decide) (by decide) ?_
    · simp (disch := omega) only [zL, zlt, zle, zeq, zadd, zmul, zin, zix, zsh1, Nat.add_zero, Nat.zero_add, Nat.mul_zero, if_true, if_false, if_pos, if_neg, sy_bi_ri, sy_bi_rt, sy_bv_rv, sy_bv_rt, sy_br_rr, sy_br_rn, sy_hi_ri, sy_hi_rt, sy_bs_t, sy_bx_t, sy_bb_t, bz_bo, ite_bz0, ite_bz1, jfX11_needs, ck2]
      all_goals rfl
    · intro N hN
      have eN : N 122 3 = Int32.ofNat n := by rw [hN 122 (by omega) (by omega)]; exact hn
      exact ⟨(Int32.ofNat 0), thr N 1, by simp (disch := omega) only [zL, zlt, zle, zeq, zadd, zmul, zin, zix, zsh1, Nat.add_zero, Nat.zero_add, Nat.mul_zero, if_true, if_false, if_pos, if_neg, sy_bi_ri, sy_bi_rt, sy_bv_rv, sy_bv_rt, sy_br_rr, sy_br_rn, sy_hi_ri, sy_hi_rt, sy_bs_t, sy_bx_t, sy_bb_t, bz_bo, ite_bz0, ite_bz1, jfX12_needs, jfX12_needs_13, sb, m_isLodger, eN, m_isIn, m_isTick, cond_true, cond_false, thr_up, thr_0], thr_0 _ _, fr_thr⟩
theorem o_inside (I : Inv A tx L0 S e M) : opN A tx L0 S e (jfX11_inside M) (jfX12_inside) := by
  obtain ⟨n, G, H, ht, hA, hl⟩ := id I.1
  obtain ⟨t, ht2, e4⟩ := rb_tick G.1
  refine opN_q I (v := sp_home (M 122) n (Int32.ofNat t)) ?_ (fun N hN => ⟨thr N 0, ?_, fr_thr⟩)
  · obtain ⟨M1, e1, n1, w1, f1⟩ := q_learn H G
    have e5 : M1 9 5 = Int32.ofNat t := (hv_5 w1.1).trans e4
    exact ⟨M1, by simp (disch := omega) only [zL, zlt, zle, zeq, zadd, zmul, zin, zix, zsh1, Nat.add_zero, Nat.zero_add, Nat.mul_zero, if_true, if_false, if_pos, if_neg, sy_bi_ri, sy_bi_rt, sy_bv_rv, sy_bv_rt, sy_br_rr, sy_br_rn, sy_hi_ri, sy_hi_rt, sy_bs_t, sy_bx_t, sy_bb_t, bz_bo, ite_bz0, ite_bz1, jfX11_inside, e1, e5, c_presentAt n1 (show t < 48 by omega)], f1⟩
  · have e122 : N 122 = M 122 := hN 122 (by omega) (by omega)
    have e3 := m_homeIn (M := thr N 0) (n := n) (t := Int32.ofNat t) (by rw [thr_ne _ _ (by decide), e122]; exact G.2.1) G.2.2.1
    rw [thr_ne _ _ (by decide), e122] at e3
    simp (disch := omega) only [zL, zlt, zle, zeq, zadd, zmul, zin, zix, zsh1, Nat.add_zero, Nat.zero_add, Nat.mul_zero, if_true, if_false, if_pos, if_neg, sy_bi_ri, sy_bi_rt, sy_bv_rv, sy_bv_rt, sy_br_rr, sy_br_rn, sy_hi_ri, sy_hi_rt, sy_bs_t, sy_bx_t, sy_bb_t, bz_bo, ite_bz0, ite_bz1, jfX12_inside, thr_up, thr_ne, e122, e4, e3]
/-! busy, alone -/
def sp_nd (f : Nat → Int32) (n t : Nat) : Int32 := sp_burn f n (sp_home f n (Int32.ofNat t))
def sp_by (f : Nat → Int32) (n m : Nat) : Nat := sy_fo (fun i x => if sp_nd f n x < sp_nd f n (i + 1) then i + 1 else x) m 0 0
theorem sp_by_s (f : Nat → Int32) (n m : Nat) : sp_by f n (m + 1) = if sp_nd f n (sp_by f n m) < sp_nd f n (m + 1) then m + 1 else sp_by f n m := by
  unfold sp_by
  rw [sy_fo_last, Nat.zero_add]
theorem sp_by_le (f : Nat → Int32) (n : Nat) : ∀ m, sp_by f n m ≤ m
  | 0 => Nat.le_refl _
  | m + 1 => by
    have := sp_by_le f n m
    rw [sp_by_s]
    split <;> omega
theorem o_busy (I : Inv A tx L0 S e M) : opN A tx L0 S e (jfX11_busy M) (jfX12_busy) := by
  obtain ⟨n, G, H, ht, hA, hl⟩ := id I.1
  refine opN_q I (v := Int32.ofNat (sp_by (M 122) n 47)) ?_ (fun N hN => ⟨thr N 0, ?_, fr_thr⟩)
  · obtain ⟨M1, e1, n1, w1, f1⟩ := q_learn H G
    refine ⟨M1, ?_, f1⟩
    have nd : ∀ t, t < 48 → jfX8_needsAt (Int32.ofNat t) M1 = sy_ri (sp_nd (M 122) n t) M1 := fun t ht => c_needsAt n1 ht
    unfold jfX11_busy
    rw [e1, sy_bv_rv]
    refine sy_forR (n := 47) (F := sy_F) (R := fun c => c = sy_ri (Int32.ofNat (sp_by (M 122) n 47)) M1) (fun k i (_ : Unit) => jfX11_busy_15 k (Int32.ofNat (sp_by (M 122) n i)) (Int32.ofNat (i + 1)) M1) (fun _ _ => True) ?_ ?_ () trivial (by rw [sy_F_eq]; omega)
    · intro k i _ hi _
      refine Or.inl ⟨(), ?_, trivial⟩
      have := sp_by_le (M 122) n i
      show jgX11_busy_15 (jfX11_busy_15 k) (Int32.ofNat (sp_by (M 122) n i)) (Int32.ofNat (i + 1)) M1 = _
      rw [sp_by_s]
      simp (disch := omega) only [zL, zlt, zle, zeq, zadd, zmul, zin, zix, zsh1, Nat.add_zero, Nat.zero_add, Nat.mul_zero, if_true, if_false, if_pos, if_neg, sy_bi_ri, sy_bi_rt, sy_bv_rv, sy_bv_rt, sy_br_rr, sy_br_rn, sy_hi_ri, sy_hi_rt, sy_bs_t, sy_bx_t, sy_bb_t, bz_bo, ite_bz0, ite_bz1, jgX11_busy_15, jfX11_busy_42, nd]
      split <;> rfl
    · intro k _ _
      show jgX11_busy_15 (jfX11_busy_15 k) (Int32.ofNat (sp_by (M 122) n 47)) (Int32.ofNat (47 + 1)) M1 = _
      simp (disch := omega) only [zL, zlt, zle, zeq, zadd, zmul, zin, zix, zsh1, Nat.add_zero, Nat.zero_add, Nat.mul_zero, if_true, if_false, if_pos, if_neg, sy_bi_ri, sy_bi_rt, sy_bv_rv, sy_bv_rt, sy_br_rr, sy_br_rn, sy_hi_ri, sy_hi_rt, sy_bs_t, sy_bx_t, sy_bb_t, bz_bo, ite_bz0, ite_bz1, jgX11_busy_15]
  · have e122 : thr N 0 122 = M 122 := (thr_ne _ _ (by decide)).trans (hN 122 (by omega) (by omega))
    have nd : ∀ t, jfX12_needsIn (Int32.ofNat t) (thr N 0) = sy_ri (sp_nd (M 122) n t) (thr N 0) := by
      intro t
      have e3 := m_needsIn (M := thr N 0) (n := n) (t := Int32.ofNat t) (by rw [e122]; exact G.2.1) G.2.2.1
      rw [e122] at e3
      exact e3
    show (jfX12_busy_9 sy_F 0 1 (sy_upd N 121 0 (Int32.ofNat 0))) = _
    rw [thr_up]
    refine sy_forR (n := 47) (F := sy_F) (R := fun c => c = sy_ri (Int32.ofNat (sp_by (M 122) n 47)) (thr N 0)) (fun k i (_ : Unit) => jfX12_busy_9 k (Int32.ofNat (sp_by (M 122) n i)) (Int32.ofNat (i + 1)) (thr N 0)) (fun _ _ => True) ?_ ?_ () trivial (by rw [sy_F_eq]; omega)
    · intro k i _ hi _
      refine Or.inl ⟨(), ?_, trivial⟩
      have := sp_by_le (M 122) n i
      show jgX12_busy_9 (jfX12_busy_9 k) (Int32.ofNat (sp_by (M 122) n i)) (Int32.ofNat (i + 1)) (thr N 0) = _
      rw [sp_by_s]
      simp (disch := omega) only [zL, zlt, zle, zeq, zadd, zmul, zin, zix, zsh1, Nat.add_zero, Nat.zero_add, Nat.mul_zero, if_true, if_false, if_pos, if_neg, sy_bi_ri, sy_bi_rt, sy_bv_rv, sy_bv_rt, sy_br_rr, sy_br_rn, sy_hi_ri, sy_hi_rt, sy_bs_t, sy_bx_t, sy_bb_t, bz_bo, ite_bz0, ite_bz1, jgX12_busy_9, jfX12_busy_30, nd]
      split <;> rfl
    · intro k _ _
      show jgX12_busy_9 (jfX12_busy_9 k) (Int32.ofNat (sp_by (M 122) n 47)) (Int32.ofNat (47 + 1)) (thr N 0) = _
      simp (disch := omega) only [zL, zlt, zle, zeq, zadd, zmul, zin, zix, zsh1, Nat.add_zero, Nat.zero_add, Nat.mul_zero, if_true, if_false, if_pos, if_neg, sy_bi_ri, sy_bi_rt, sy_bv_rv, sy_bv_rt, sy_br_rr, sy_br_rn, sy_hi_ri, sy_hi_rt, sy_bs_t, sy_bx_t, sy_bb_t, bz_bo, ite_bz0, ite_bz1, jgX12_busy_9]
theorem o_alone (I : Inv A tx L0 S e M) : opN A tx L0 S e (jfX11_alone M) (jfX12_alone) := by
  obtain ⟨n, G, H, ht, hA, hl⟩ := id I.1
  refine opN_q I (v := sy_fo (fun t a => if sp_home (M 122) n (Int32.ofNat t) = (Int32.ofNat 0) then a + (Int32.ofNat 1) else a) 48 0 (Int32.ofNat 0)) ?_ (fun N hN => ⟨thr N 0, ?_, fr_thr⟩)
  · obtain ⟨M1, e1, n1, w1, f1⟩ := q_learn H G
    refine ⟨M1, ?_, f1⟩
    unfold jfX11_alone
    rw [e1, sy_bv_rv]
    obtain ⟨k, hk⟩ := sy_for1 (n := 48) (F := sy_F) (fun k i (a : Int32) => jfX11_alone_15 k a (Int32.ofNat i) M1) (fun t a => if sp_home (M 122) n (Int32.ofNat t) = (Int32.ofNat 0) then a + (Int32.ofNat 1) else a) (by
      intro k i a hi
      show jgX11_alone_15 (jfX11_alone_15 k) a (Int32.ofNat i) M1 = _
      simp (disch := omega) only [zL, zlt, zle, zeq, zadd, zmul, zin, zix, zsh1, Nat.add_zero, Nat.zero_add, Nat.mul_zero, if_true, if_false, if_pos, if_neg, sy_bi_ri, sy_bi_rt, sy_bv_rv, sy_bv_rt, sy_br_rr, sy_br_rn, sy_hi_ri, sy_hi_rt, sy_bs_t, sy_bx_t, sy_bb_t, bz_bo, ite_bz0, ite_bz1, jgX11_alone_15, jfX11_alone_35, c_presentAt n1]
      split <;> rfl) (Int32.ofNat 0) (by rw [sy_F_eq]; omega)
    refine hk.trans ?_
    show jgX11_alone_15 (jfX11_alone_15 k) _ (Int32.ofNat 48) M1 = _
    simp (disch := omega) only [zL, zlt, zle, zeq, zadd, zmul, zin, zix, zsh1, Nat.add_zero, Nat.zero_add, Nat.mul_zero, if_true, if_false, if_pos, if_neg, sy_bi_ri, sy_bi_rt, sy_bv_rv, sy_bv_rt, sy_br_rr, sy_br_rn, sy_hi_ri, sy_hi_rt, sy_bs_t, sy_bx_t, sy_bb_t, bz_bo, ite_bz0, ite_bz1, jgX11_alone_15]
  · have e122 : thr N 0 122 = M 122 := (thr_ne _ _ (by decide)).trans (hN 122 (by omega) (by omega))
    have nd : ∀ t, jfX12_homeIn (Int32.ofNat t) (thr N 0) = sy_ri (sp_home (M 122) n (Int32.ofNat t)) (thr N 0) := by
      intro t
      have e3 := m_homeIn (M := thr N 0) (n := n) (t := Int32.ofNat t) (by rw [e122]; exact G.2.1) G.2.2.1
      rw [e122] at e3
      exact e3
    show (jfX12_alone_9 sy_F 0 0 (sy_upd N 121 0 (Int32.ofNat 0))) = _
    rw [thr_up]
    have z0 : ∀ a : Int32, a + (Int32.ofNat 0) = a := fun a => Int32.add_zero a
    obtain ⟨k, hk⟩ := sy_for1 (n := 48) (F := sy_F) (fun k i (a : Int32) => jfX12_alone_9 k a (Int32.ofNat i) (thr N 0)) (fun t a => if sp_home (M 122) n (Int32.ofNat t) = (Int32.ofNat 0) then a + (Int32.ofNat 1) else a) (by
      intro k i a hi
      show jgX12_alone_9 (jfX12_alone_9 k) a (Int32.ofNat i) (thr N 0) = _
      simp (disch := omega) only [zL, zlt, zle, zeq, zadd, zmul, zin, zix, zsh1, Nat.add_zero, Nat.zero_add, Nat.mul_zero, if_true, if_false, if_pos, if_neg, sy_bi_ri, sy_bi_rt, sy_bv_rv, sy_bv_rt, sy_br_rr, sy_br_rn, sy_hi_ri, sy_hi_rt, sy_bs_t, sy_bx_t, sy_bb_t, bz_bo, ite_bz0, ite_bz1, jgX12_alone_9, jfX12_alone_29, nd, z0]
      split <;> rfl) (Int32.ofNat 0) (by rw [sy_F_eq]; omega)
    refine hk.trans ?_
    show jgX12_alone_9 (jfX12_alone_9 k) _ (Int32.ofNat 48) (thr N 0) = _
    simp (disch := omega) only [zL, zlt, zle, zeq, zadd, zmul, zin, zix, zsh1, Nat.add_zero, Nat.zero_add, Nat.mul_zero, if_true, if_false, if_pos, if_neg, sy_bi_ri, sy_bi_rt, sy_bv_rv, sy_bv_rt, sy_br_rr, sy_br_rn, sy_hi_ri, sy_hi_rt, sy_bs_t, sy_bx_t, sy_bb_t, bz_bo, ite_bz0, ite_bz1, jgX12_alone_9]
/-! debts -/
def sp_ow (f : Nat → Int32) (n p : Nat) : Int32 := sy_fo (fun o a => a + (f (77 + 7 * p + o) - f (77 + 7 * o + p))) n 0 (Int32.ofNat 0)
theorem c_owesMore {h n p : Nat} {f : Nat → Int32} (H : hv M h f) (hn : f 3 = Int32.ofNat n) (h7 : n ≤ 7) (hp : p < 7) : jfX2_owesMore h (Int32.ofNat p) M = sy_ri (sp_ow f n p) M := by
  unfold jfX2_owesMore sp_ow
  obtain ⟨k, hk⟩ := sy_for1 (n := n) (F := sy_F) (fun k i (a : Int32) => jfX2_owesMore_4 k h (Int32.ofNat p) a (Int32.ofNat i) M) (fun o a => a + (f (77 + 7 * p + o) - f (77 + 7 * o + p))) (by
    intro k i a hi
    show jgX2_owesMore_4 (jfX2_owesMore_4 k) h (Int32.ofNat p) a (Int32.ofNat i) M = _
    simp (disch := omega) only [zL, zlt, zle, zeq, zadd, zmul, zin, zix, zsh1, Nat.add_zero, Nat.zero_add, Nat.mul_zero, if_true, if_false, if_pos, if_neg, sy_bi_ri, sy_bi_rt, sy_bv_rv, sy_bv_rt, sy_br_rr, sy_br_rn, sy_hi_ri, sy_hi_rt, sy_bs_t, sy_bx_t, sy_bb_t, bz_bo, ite_bz0, ite_bz1, jgX2_owesMore_4, H.1, hv_3 H, hn, c_owed H]) (Int32.ofNat 0) (by rw [sy_F_eq]; omega)
  refine hk.trans ?_
  show jgX2_owesMore_4 (jfX2_owesMore_4 k) h (Int32.ofNat p) _ (Int32.ofNat n) M = _
  simp (disch := omega) only [zL, zlt, zle, zeq, zadd, zmul, zin, zix, zsh1, Nat.add_zero, Nat.zero_add, Nat.mul_zero, if_true, if_false, if_pos, if_neg, sy_bi_ri, sy_bi_rt, sy_bv_rv, sy_bv_rt, sy_br_rr, sy_br_rn, sy_hi_ri, sy_hi_rt, sy_bs_t, sy_bx_t, sy_bb_t, bz_bo, ite_bz0, ite_bz1, jgX2_owesMore_4, H.1, hv_3 H, hn]
theorem m_owesOf {n p : Nat} {f : Nat → Int32} (hf : M 122 = f) (hn : f 3 = Int32.ofNat n) (h7 : n ≤ 7) (hp : p < 7) : jfX12_owesOf (Int32.ofNat p) M = sy_ri (sp_ow f n p) M := by
  unfold jfX12_owesOf sp_ow
  obtain ⟨k, hk⟩ := sy_for1 (n := n) (F := sy_F) (fun k i (a : Int32) => jfX12_owesOf_4 k (Int32.ofNat p) a (Int32.ofNat i) M) (fun o a => a + (f (77 + 7 * p + o) - f (77 + 7 * o + p))) (by
    intro k i a hi
    show jgX12_owesOf_4 (jfX12_owesOf_4 k) (Int32.ofNat p) a (Int32.ofNat i) M = _
    simp (disch := omega) only [zL, zlt, zle, zeq, zadd, zmul, zin, zix, zsh1, Nat.add_zero, Nat.zero_add, Nat.mul_zero, if_true, if_false, if_pos, if_neg, sy_bi_ri, sy_bi_rt, sy_bv_rv, sy_bv_rt, sy_br_rr, sy_br_rn, sy_hi_ri, sy_hi_rt, sy_bs_t, sy_bx_t, sy_bb_t, bz_bo, ite_bz0, ite_bz1, jgX12_owesOf_4, hf, hn, m_owed]) (Int32.ofNat 0) (by rw [sy_F_eq]; omega)
  refine hk.trans ?_
  show jgX12_owesOf_4 (jfX12_owesOf_4 k) (Int32.ofNat p) _ (Int32.ofNat n) M = _
  simp (disch := omega) only [zL, zlt, zle, zeq, zadd, zmul, zin, zix, zsh1, Nat.add_zero, Nat.zero_add, Nat.mul_zero, if_true, if_false, if_pos, if_neg, sy_bi_ri, sy_bi_rt, sy_bv_rv, sy_bv_rt, sy_br_rr, sy_br_rn, sy_hi_ri, sy_hi_rt, sy_bs_t, sy_bx_t, sy_bb_t, bz_bo, ite_bz0, ite_bz1, jgX12_owesOf_4, hf, hn]
theorem o_debt (I : Inv A tx L0 S e M) : opN A tx L0 S e (jfX11_debt M) (jfX12_debt) := by
  obtain ⟨n, G, H, ht, hA, hl⟩ := id I.1
  have hn := G.2.1
  have h7 := G.2.2.1
  refine opN_q I (v := sy_fo (fun p a => a + sp_max (Int32.ofNat 0) (sp_ow (M 122) n p)) n 0 (Int32.ofNat 0)) ⟨M, ?_, fq_rfl⟩ (fun N hN => ⟨thr N 0, ?_, fr_thr⟩)
  · unfold jfX11_debt
    obtain ⟨k, hk⟩ := sy_for1 (n := n) (F := sy_F) (fun k i (a : Int32) => jfX11_debt_4 k a (Int32.ofNat i) M) (fun p a => a + sp_max (Int32.ofNat 0) (sp_ow (M 122) n p)) (by
      intro k i a hi
      show jgX11_debt_4 (jfX11_debt_4 k) a (Int32.ofNat i) M = _
      simp (disch := omega) only [zL, zlt, zle, zeq, zadd, zmul, zin, zix, zsh1, Nat.add_zero, Nat.zero_add, Nat.mul_zero, if_true, if_false, if_pos, if_neg, sy_bi_ri, sy_bi_rt, sy_bv_rv, sy_bv_rt, sy_br_rr, sy_br_rn, sy_hi_ri, sy_hi_rt, sy_bs_t, sy_bx_t, sy_bb_t, bz_bo, ite_bz0, ite_bz1, jgX11_debt_4, hv_3 H.1, hn, c_owesMore H.1 hn h7, c_max]) (Int32.ofNat 0) (by rw [sy_F_eq]; omega)
    refine hk.trans ?_
    show jgX11_debt_4 (jfX11_debt_4 k) _ (Int32.ofNat n) M = _
    simp (disch := omega) only [zL, zlt, zle, zeq, zadd, zmul, zin, zix, zsh1, Nat.add_zero, Nat.zero_add, Nat.mul_zero, if_true, if_false, if_pos, if_neg, sy_bi_ri, sy_bi_rt, sy_bv_rv, sy_bv_rt, sy_br_rr, sy_br_rn, sy_hi_ri, sy_hi_rt, sy_bs_t, sy_bx_t, sy_bb_t, bz_bo, ite_bz0, ite_bz1, jgX11_debt_4, hv_3 H.1, hn]
  · have e122 : thr N 0 122 = M 122 := (thr_ne _ _ (by decide)).trans (hN 122 (by omega) (by omega))
    show (jfX12_debt_9 sy_F 0 0 (sy_upd N 121 0 (Int32.ofNat 0))) = _
    rw [thr_up]
    obtain ⟨k, hk⟩ := sy_for1 (n := n) (F := sy_F) (fun k i (a : Int32) => jfX12_debt_9 k a (Int32.ofNat i) (thr N 0)) (fun p a => a + sp_max (Int32.ofNat 0) (sp_ow (M 122) n p)) (by
      intro k i a hi
      show jgX12_debt_9 (jfX12_debt_9 k) a (Int32.ofNat i) (thr N 0) = _
      simp (disch := omega) only [zL, zlt, zle, zeq, zadd, zmul, zin, zix, zsh1, Nat.add_zero, Nat.zero_add, Nat.mul_zero, if_true, if_false, if_pos, if_neg, sy_bi_ri, sy_bi_rt, sy_bv_rv, sy_bv_rt, sy_br_rr, sy_br_rn, sy_hi_ri, sy_hi_rt, sy_bs_t, sy_bx_t, sy_bb_t, bz_bo, ite_bz0, ite_bz1, jgX12_debt_9, e122, hn, m_owesOf e122 hn h7, m_greater]) (Int32.ofNat 0) (by rw [sy_F_eq]; omega)
    refine hk.trans ?_
    show jgX12_debt_9 (jfX12_debt_9 k) _ (Int32.ofNat n) (thr N 0) = _
    simp (disch := omega) only [zL, zlt, zle, zeq, zadd, zmul, zin, zix, zsh1, Nat.add_zero, Nat.zero_add, Nat.mul_zero, if_true, if_false, if_pos, if_neg, sy_bi_ri, sy_bi_rt, sy_bv_rv, sy_bv_rt, sy_br_rr, sy_br_rn, sy_hi_ri, sy_hi_rt, sy_bs_t, sy_bx_t, sy_bb_t, bz_bo, ite_bz0, ite_bz1, jgX12_debt_9, e122, hn]
end
