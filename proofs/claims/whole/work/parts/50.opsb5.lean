/-! ===== span, saint, warmer ===== -/
section
variable {A : (Nat → Int32) → Nat → Int32 × Bool} {tx : (Nat → Int32) → Prop} {L0 : Int32} {S : Nat → Int32} {e : Nat} {M : sy_M}
theorem sp_max_c (a b : Int32) : (if a < b then b else a) = sp_max a b := by
  unfold sp_max
  by_cases h1 : a < b
  · rw [if_pos h1, if_neg (fun h => Int32.lt_irrefl (Int32.lt_trans h h1))]
  · rw [if_neg h1]
    by_cases h2 : b < a
    · rw [if_pos h2]
    · rw [if_neg h2]
      exact Int32.le_antisymm (Int32.not_lt.mp h2) (Int32.not_lt.mp h1)
/-- what is fed from a seed -/
def sp_sd (A : (Nat → Int32) → Nat → Int32 × Bool) (n : Nat) (f : Nat → Int32) (k s : Nat) : Int32 := (sp_gs A n false true (rs f 13 (Int32.ofNat s)) k).2.2.1
def sp_sn (A : (Nat → Int32) → Nat → Int32 × Bool) (n : Nat) (f : Nat → Int32) (k : Nat) (b : Bool) : Nat → Int32
  | 0 => (Int32.ofNat 0)
  | i + 1 => if i = 0 then sp_sd A n f k 1 else bif b then sp_max (sp_sn A n f k b i) (sp_sd A n f k (i + 1)) else sp_min (sp_sn A n f k b i) (sp_sd A n f k (i + 1))
theorem sp_sn_s (A : (Nat → Int32) → Nat → Int32 × Bool) (n : Nat) (f : Nat → Int32) (k : Nat) (b : Bool) (i : Nat) : sp_sn A n f k b (i + 1) = if i = 0 then sp_sd A n f k 1 else bif b then sp_max (sp_sn A n f k b i) (sp_sd A n f k (i + 1)) else sp_min (sp_sn A n f k b i) (sp_sd A n f k (i + 1)) := rfl
theorem gr_seed {n : Nat} {f : Nat → Int32} {v : Int32} (G : gr f n) : gr (rs f 13 v) n := by
  obtain ⟨h1, h2, h7, h4, h5, h6⟩ := G
  refine ⟨rb_row h1 (fun i _ _ _ _ h => rs_ne _ _ h), (rs_ne _ _ (by omega)).trans h2, h7, ?_, ?_, ?_⟩
  · intro h q hq
    rw [rs_ne _ _ (by omega)] at h
    rw [rs_ne _ _ (by omega)]
    exact h4 h q hq
  · intro q hq hq7
    obtain ⟨e1, e2, e3, e4⟩ := h5 q hq hq7
    refine ⟨?_, ?_, ?_, fun o ho => ⟨?_, ?_⟩⟩
    · rw [rs_ne _ _ (by omega)]; exact e1
    · rw [rs_ne _ _ (by omega)]; exact e2
    · rw [rs_ne _ _ (by omega)]; exact e3
    · rw [rs_ne _ _ (by omega)]; exact (e4 o ho).1
    · rw [rs_ne _ _ (by omega)]; exact (e4 o ho).2
  · refine ⟨?_, fun q hq => ?_⟩
    · rw [rs_ne _ _ (by omega)]; exact h6.1
    · rw [rs_ne _ _ (by omega)]; exact h6.2 q hq
theorem c_span {n k : Nat} {f : Nat → Int32} {b : Bool} (h : st A M n f) (hk : k ≤ 96) : ∃ M1, jfX11_span_23 sy_F (Int32.ofNat k) (bz b) (Int32.ofNat 0) (Int32.ofNat 1) M = sy_ri (sp_sn A n f k b 6) M1 ∧ fq M M1 := by
  refine sy_forR (n := 6) (F := sy_F) (R := fun c => ∃ M2, c = sy_ri (sp_sn A n f k b 6) M2 ∧ fq M M2) (fun q i (a : sy_M) => jfX11_span_23 q (Int32.ofNat k) (bz b) (sp_sn A n f k b i) (Int32.ofNat (i + 1)) a) (fun i a => st A a n f ∧ fp 19 M a) ?_ ?_ M ⟨h, fp_rfl⟩ (by rw [sy_F_eq]; omega)
  · intro q i N hi ⟨h2, h3⟩
    obtain ⟨N1, e1, a1, f1⟩ := q_over h2.1 h2.2.1 h2.2.2.1 h2.2.2.2.1 h2.2.2.2.2
    have w2 := hw_fld a1.1 (j := 13) (i := 13) (Or.inr (Or.inr (Or.inr ⟨rfl, rfl⟩))) (Int32.ofNat (i + 1))
    have a2 : ah A (syc N1 19 (rs (N1 19) 13 (Int32.ofNat (i + 1)))) n (rs f 13 (Int32.ofNat (i + 1))) := by
      refine ⟨w2, gr_seed h.2.1, cAK_cp a1.2.2.1 (lcp_of (fun c c1 c2 => syc_ne _ _ (by omega))) (tsame_rs (by omega) (by omega) (by omega)), ?_⟩
      exact nt_congr (nt_same (fun q w hq hw => rs_ne _ _ (by omega)) h.2.1.2.2.1 a1.2.2.2) (syc_ne _ _ (by omega)) (syc_ne _ _ (by omega))
    obtain ⟨N3, e3, a3, f3⟩ := c_runA (dr := true) (k := k) a2 hk
    replace e3 : jfX11_run (Int32.ofNat k) (Int32.ofNat 1) (syc N1 19 (rs (N1 19) 13 (Int32.ofNat (i + 1)))) = sy_ri (sp_sd A n f k (i + 1)) N3 := e3
    have F : fp 19 N N3 := (f1.trans (fh_syc (h := 19) (by omega) (by omega)).fp).trans f3
    refine Or.inl ⟨N3, ?_, st_fp h2 a3.1 F, h3.trans F⟩
    show jgX11_span_23 (jfX11_span_23 q) (Int32.ofNat k) (bz b) (sp_sn A n f k b i) (Int32.ofNat (i + 1)) N = _
    rw [sp_sn_s]
    by_cases h0 : i = 0
    · subst h0
      simp (disch := omega) only [zL, zlt, zle, zeq, zadd, zmul, zin, zix, zsh1, Nat.add_zero, Nat.zero_add, Nat.mul_zero, if_true, if_false, if_pos, if_neg, sy_bi_ri, sy_bi_rt, sy_bv_rv, sy_bv_rt, sy_br_rr, sy_br_rn, sy_hi_ri, sy_hi_rt, sy_bs_t, sy_bx_t, sy_bb_t, bz_bo, ite_bz0, ite_bz1, jgX11_span_23, jfX11_span_83, jfX11_span_86, e1, sy_upd_st, e3]
    · rw [if_neg h0]
      cases b
      · rw [cond_false, ← sp_min_c]
        simp (disch := omega) only [zL, zlt, zle, zeq, zadd, zmul, zin, zix, zsh1, Nat.add_zero, Nat.zero_add, Nat.mul_zero, if_true, if_false, if_pos, if_neg, sy_bi_ri, sy_bi_rt, sy_bv_rv, sy_bv_rt, sy_br_rr, sy_br_rn, sy_hi_ri, sy_hi_rt, sy_bs_t, sy_bx_t, sy_bb_t, bz_bo, ite_bz0, ite_bz1, jgX11_span_23, jfX11_span_83, jfX11_span_86, e1, sy_upd_st, e3, cond_false]
        split <;> rfl
      · rw [cond_true, ← sp_max_c]
        simp (disch := omega) only [zL, zlt, zle, zeq, zadd, zmul, zin, zix, zsh1, Nat.add_zero, Nat.zero_add, Nat.mul_zero, if_true, if_false, if_pos, if_neg, sy_bi_ri, sy_bi_rt, sy_bv_rv, sy_bv_rt, sy_br_rr, sy_br_rn, sy_hi_ri, sy_hi_rt, sy_bs_t, sy_bx_t, sy_bb_t, bz_bo, ite_bz0, ite_bz1, jgX11_span_23, jfX11_span_83, jfX11_span_86, e1, sy_upd_st, e3, cond_true]
        split <;> rfl
  · intro q N ⟨h2, h3⟩
    refine ⟨N, ?_, h2.fq h3⟩
    show jgX11_span_23 (jfX11_span_23 q) (Int32.ofNat k) (bz b) (sp_sn A n f k b 6) (Int32.ofNat (6 + 1)) N = _
    simp (disch := omega) only [zL, zlt, zle, zeq, zadd, zmul, zin, zix, zsh1, Nat.add_zero, Nat.zero_add, Nat.mul_zero, if_true, if_false, if_pos, if_neg, sy_bi_ri, sy_bi_rt, sy_bv_rv, sy_bv_rt, sy_br_rr, sy_br_rn, sy_hi_ri, sy_hi_rt, sy_bs_t, sy_bx_t, sy_bb_t, bz_bo, ite_bz0, ite_bz1, jgX11_span_23]
theorem sp_sn_ne {n k : Nat} {f : Nat → Int32} {b : Bool} (hk : k ≤ 96) : ∀ i, 0 < i → ∃ c, c ≤ 96 ∧ sp_sn A n f k b i = Int32.ofNat c
  | 0, h => by omega
  | i + 1, _ => by
    have sd : ∀ s, ∃ c, c ≤ 96 ∧ sp_sd A n f k s = Int32.ofNat c := by
      intro s
      obtain ⟨c, hc, e⟩ := sp_fed_le (A := A) (n := n) (nf := false) (dr := true) (f := rs f 13 (Int32.ofNat s)) k
      exact ⟨c, by omega, e⟩
    rw [sp_sn_s]
    by_cases h0 : i = 0
    · rw [if_pos h0]; exact sd 1
    · rw [if_neg h0]
      obtain ⟨c, hc, e1⟩ := sp_sn_ne (n := n) (f := f) (b := b) hk i (by omega)
      obtain ⟨d, hd, e2⟩ := sd (i + 1)
      rw [e1, e2, zmin (by omega) (by omega), zmax (by omega) (by omega)]
      cases b
      · exact ⟨min c d, by omega, rfl⟩
      · exact ⟨max c d, by omega, rfl⟩
theorem m_span (hM : mAK A tx) {n k : Nat} {f : Nat → Int32} {b : Bool} (h : rc tx false M n f) (hk : k ≤ 96) : ∃ M1, jfX12_span_37 sy_F (Int32.ofNat k) (bz b) (-(Int32.ofNat 1)) (Int32.ofNat 1) (syc M 124 (sp_aside 426 f (M 124))) = sy_ri (sp_sn A n f k b 6) M1 ∧ ft M M1 := by
  refine sy_forR (n := 6) (F := sy_F) (R := fun c => ∃ M2, c = sy_ri (sp_sn A n f k b 6) M2 ∧ ft M M2) (fun q i (a : sy_M) => jfX12_span_37 q (Int32.ofNat k) (bz b) (if i = 0 then -(Int32.ofNat 1) else sp_sn A n f k b i) (Int32.ofNat (i + 1)) a) (fun i a => ft M a ∧ a 124 = sp_aside 426 f (M 124)) ?_ ?_ _ ⟨ft_syc (by unfold rx; omega) (by decide), syc_at _ _ _⟩ (by rw [sy_F_eq]; omega)
  · intro q i N hi ⟨h2, h3⟩
    have r := rc_ft h h2
    have r1 : rc tx false (syc N 122 (rs f 13 (Int32.ofNat (i + 1)))) n (rs f 13 (Int32.ofNat (i + 1))) := ⟨syc_at _ _ _, gr_seed h.2.1, hM.1 _ _ h.2.2.1 (tsame_rs (by omega) (by omega) (by omega)), by rw [syc_ne _ _ (by decide)]; exact r.2.2.2⟩
    obtain ⟨N1, e3, a3, g3, _, f3⟩ := m_goesA hM (dr := true) (k := k) r1 hk
    replace e3 : jfX12_goes (Int32.ofNat k) (Int32.ofNat 1) (syc N 122 (rs f 13 (Int32.ofNat (i + 1)))) = _ := e3
    replace g3 : N1 121 20 = sp_sd A n f k (i + 1) := g3
    have ts : tsame f (sp_gs A n false true (rs f 13 (Int32.ofNat (i + 1))) k).1 := (tsame_rs (by omega) (by omega) (by omega)).trans (sp_gs_gr (A := A) (nf := false) (dr := true) (gr_seed h.2.1) k).2.1
    have eb := m_back (N := N1) (N0 := M) (f := f) (by rw [f3.1 124 (by decide) (by decide) (by decide), syc_ne _ _ (by decide)]; exact h3) (fun i hi => by rw [a3.1]; exact ts.2.2 i hi)
    have F4 : ft N (syc N1 122 f) := by
      refine ⟨fun a ha => ?_, fun j hj => ?_⟩
      · unfold rx at ha
        by_cases ea : a = 122
        · subst ea; rw [syc_at, r.1]
        · rw [syc_ne _ _ ea, f3.1 a (by omega) ea (by omega), syc_ne _ _ ea]
      · rw [syc_ne _ _ (by decide), f3.2 j (by omega), syc_ne _ _ (by decide)]
    refine Or.inl ⟨syc N1 122 f, ?_, h2.trans F4, ?_⟩
    · show jgX12_span_37 (jfX12_span_37 q) (Int32.ofNat k) (bz b) (if i = 0 then -(Int32.ofNat 1) else sp_sn A n f k b i) (Int32.ofNat (i + 1)) N = _
      rw [if_neg (show ¬ i + 1 = 0 by omega), sp_sn_s]
      have e122 : N 122 = f := r.1
      by_cases h0 : i = 0
      · subst h0
        simp (disch := omega) only [zL, zlt, zle, zeq, zadd, zmul, zin, zix, zsh1, Nat.add_zero, Nat.zero_add, Nat.mul_zero, if_true, if_false, if_pos, if_neg, sy_bi_ri, sy_bi_rt, sy_bv_rv, sy_bv_rt, sy_br_rr, sy_br_rn, sy_hi_ri, sy_hi_rt, sy_bs_t, sy_bx_t, sy_bb_t, bz_bo, ite_bz0, ite_bz1, jgX12_span_37, jfX12_span_100, sy_upd_st, e122, e3, eb, syc_ne, g3]
      · rw [if_neg h0, if_neg h0]
        obtain ⟨c, hc, ec⟩ := sp_sn_ne (A := A) (n := n) (f := f) (b := b) hk i (by omega)
        have hne : sp_sn A n f k b i ≠ -(Int32.ofNat 1) := by
          rw [ec]
          intro z
          have : ¬ (Int32.ofNat c < (Int32.ofNat 0)) := znn _ (by omega)
          rw [z] at this
          exact this (by decide)
        cases b
        · rw [cond_false]
          simp (disch := omega) only [zL, zlt, zle, zeq, zadd, zmul, zin, zix, zsh1, Nat.add_zero, Nat.zero_add, Nat.mul_zero, if_true, if_false, if_pos, if_neg, sy_bi_ri, sy_bi_rt, sy_bv_rv, sy_bv_rt, sy_br_rr, sy_br_rn, sy_hi_ri, sy_hi_rt, sy_bs_t, sy_bx_t, sy_bb_t, bz_bo, ite_bz0, ite_bz1, jgX12_span_37, jfX12_span_100, sy_upd_st, e122, e3, eb, syc_ne, g3, m_lesser, m_greater, cond_false]
        · rw [cond_true]
          simp (disch := omega) only [zL, zlt, zle, zeq, zadd, zmul, zin, zix, zsh1, Nat.add_zero, Nat.zero_add, Nat.mul_zero, if_true, if_false, if_pos, if_neg, sy_bi_ri, sy_bi_rt, sy_bv_rv, sy_bv_rt, sy_br_rr, sy_br_rn, sy_hi_ri, sy_hi_rt, sy_bs_t, sy_bx_t, sy_bb_t, bz_bo, ite_bz0, ite_bz1, jgX12_span_37, jfX12_span_100, sy_upd_st, e122, e3, eb, syc_ne, g3, m_lesser, m_greater, cond_true]
    · rw [syc_ne _ _ (by decide), f3.1 124 (by decide) (by decide) (by decide), syc_ne _ _ (by decide)]; exact h3
  · intro q N ⟨h2, h3⟩
    refine ⟨N, ?_, h2⟩
    show jgX12_span_37 (jfX12_span_37 q) (Int32.ofNat k) (bz b) (if 6 = 0 then -(Int32.ofNat 1) else sp_sn A n f k b 6) (Int32.ofNat (6 + 1)) N = _
    simp (disch := omega) only [zL, zlt, zle, zeq, zadd, zmul, zin, zix, zsh1, Nat.add_zero, Nat.zero_add, Nat.mul_zero, if_true, if_false, if_pos, if_neg, sy_bi_ri, sy_bi_rt, sy_bv_rv, sy_bv_rt, sy_br_rr, sy_br_rn, sy_hi_ri, sy_hi_rt, sy_bs_t, sy_bx_t, sy_bb_t, bz_bo, ite_bz0, ite_bz1, jgX12_span_37]
theorem o_span (hM : mAK A tx) (I : Inv A tx L0 S e M) (he : e < 90000) (a : Int32) (b : Bool) : opT A tx L0 S e (jfL_span a (bz b) M) (jfX12_span a (bz b)) := by
  obtain ⟨n, G, H, ht, hA, hl⟩ := id I.1
  have hn := G.2.1
  have h7 := G.2.2.1
  obtain ⟨xk, hxk, exk⟩ := I.2.2.2.2.2.2.2.2.1
  have hx := xok he hxk exk
  have h9 : M 9 3 = Int32.ofNat n := (hv_3 H.1).trans hn
  have D19 := I.2.2.2.2.1
  unfold jfL_span
  rcases ck_range (lo := 0) (hi := 96) (by decide) (by decide) hx a with ⟨k, _, hk, ea, ck, sa⟩ | ⟨sa, ck⟩
  · subst ea
    refine opT_q I (v := sp_sn A n (M 122) k b 6) ?_ ?_
    · obtain ⟨M1, e1, s1, f1⟩ := q_st H G hA D19
      obtain ⟨M2, e2, f2⟩ := c_span (b := b) s1 hk
      exact ⟨M2, by simp (disch := omega) only [zL, zlt, zle, zeq, zadd, zmul, zin, zix, zsh1, Nat.add_zero, Nat.zero_add, Nat.mul_zero, if_true, if_false, if_pos, if_neg, sy_bi_ri, sy_bi_rt, sy_bv_rv, sy_bv_rt, sy_br_rr, sy_br_rn, sy_hi_ri, sy_hi_rt, sy_bs_t, sy_bx_t, sy_bb_t, bz_bo, ite_bz0, ite_bz1, jfX11_span, ck, e1, e2], f1.trans f2⟩
    · intro N hN
      have r := rc_thr (c := 0) (rc_of I G ht hN)
      obtain ⟨N1, e1, f1⟩ := m_span hM (b := b) r hk
      exact ⟨N1, by simp (disch := omega) only [zL, zlt, zle, zeq, zadd, zmul, zin, zix, zsh1, Nat.add_zero, Nat.zero_add, Nat.mul_zero, if_true, if_false, if_pos, if_neg, sy_bi_ri, sy_bi_rt, sy_bv_rv, sy_bv_rt, sy_br_rr, sy_br_rn, sy_hi_ri, sy_hi_rt, sy_bs_t, sy_bx_t, sy_bb_t, bz_bo, ite_bz0, ite_bz1, jfX12_span, jfX12_span_16, m_isIn, sa, cond_true, thr_up, thr_0, m_putsAside, r.1, e1], (f1.2 0 (by omega)).trans (thr_0 _ _), fr_thr.trans f1.fr⟩
  · refine opT_x I (cl := 20) (c := 1) ?_ rfl (by decide) (by decide) ?_
    · simp (disch := omega) only [zL, zlt, zle, zeq, zadd, zmul, zin, zix, zsh1, Nat.add_zero, Nat.zero_add, Nat.mul_zero, if_true, if_false, if_pos, if_neg, sy_bi_ri, sy_bi_rt, sy_bv_rv, sy_bv_rt, sy_br_rr, sy_br_rn, sy_hi_ri, sy_hi_rt, sy_bs_t, sy_bx_t, sy_bb_t, bz_bo, ite_bz0, ite_bz1, jfX11_span, ck]
      all_goals rfl
    · intro N hN
      have eN : N 122 3 = Int32.ofNat n := by rw [hN 122 (by omega) (by omega)]; exact hn
      exact ⟨(Int32.ofNat 0), thr N 1, by simp (disch := omega) only [zL, zlt, zle, zeq, zadd, zmul, zin, zix, zsh1, Nat.add_zero, Nat.zero_add, Nat.mul_zero, if_true, if_false, if_pos, if_neg, sy_bi_ri, sy_bi_rt, sy_bv_rv, sy_bv_rt, sy_br_rr, sy_br_rn, sy_hi_ri, sy_hi_rt, sy_bs_t, sy_bx_t, sy_bb_t, bz_bo, ite_bz0, ite_bz1, jfX12_span, jfX12_span_16, sa, m_isLodger, eN, m_isIn, m_isTick, cond_true, cond_false, thr_up, thr_0], thr_0 _ _, fr_thr⟩
/-! saint -/
def sp_sa (f g0 g1 : Nat → Int32) (p : Nat) (b : Bool) (m : Nat) : Int32 := sy_fo (fun o s => s ||| (if o ≠ p ∧ (bif b then decide (sp_gv f g0 o < sp_gv f g1 o) else decide (sp_gv f g1 o < sp_gv f g0 o)) = true then (Int32.ofNat 1) <<< Int32.ofNat o else (Int32.ofNat 0))) m 0 (Int32.ofNat 0)
theorem sp_sa_s (f g0 g1 : Nat → Int32) (p : Nat) (b : Bool) (m : Nat) : sp_sa f g0 g1 p b (m + 1) = sp_sa f g0 g1 p b m ||| (if m ≠ p ∧ (bif b then decide (sp_gv f g0 m < sp_gv f g1 m) else decide (sp_gv f g1 m < sp_gv f g0 m)) = true then (Int32.ofNat 1) <<< Int32.ofNat m else (Int32.ofNat 0)) := by
  unfold sp_sa
  rw [sy_fo_last, Nat.zero_add]
theorem c_saint_2 {n p : Nat} {f g0 g1 : Nat → Int32} {b : Bool} (H : hv M 9 f) (H1 : hv M 19 g1) (hn : f 3 = Int32.ofNat n) (h7 : n ≤ 7) (hp : p < n) (hc : ∀ i, i < 7 → M 120 i = sp_gv f g0 i) : jfX11_saint_68 sy_F (Int32.ofNat p) (bz b) (Int32.ofNat 0) (Int32.ofNat 0) M = sy_ri (sp_sa f g0 g1 p b n) M := by
  refine sy_forR (n := n) (F := sy_F) (R := fun c => c = sy_ri (sp_sa f g0 g1 p b n) M) (fun q i (_ : Unit) => jfX11_saint_68 q (Int32.ofNat p) (bz b) (sp_sa f g0 g1 p b i) (Int32.ofNat i) M) (fun _ _ => True) ?_ ?_ () trivial (by rw [sy_F_eq]; omega)
  · intro q i _ hi _
    refine Or.inl ⟨(), ?_, trivial⟩
    show jgX11_saint_68 (jfX11_saint_68 q) (Int32.ofNat p) (bz b) (sp_sa f g0 g1 p b i) (Int32.ofNat i) M = _
    rw [sp_sa_s]
    simp (disch := omega) only [zL, zlt, zle, zeq, zadd, zmul, zin, zix, zsh1, Nat.add_zero, Nat.zero_add, Nat.mul_zero, if_true, if_false, if_pos, if_neg, sy_bi_ri, sy_bi_rt, sy_bv_rv, sy_bv_rt, sy_br_rr, sy_br_rn, sy_hi_ri, sy_hi_rt, sy_bs_t, sy_bx_t, sy_bb_t, bz_bo, ite_bz0, ite_bz1, jgX11_saint_68, jfX11_saint_132, jfX11_saint_139, hv_3 H, hn, c_griefAhead H H1, hc]
    by_cases h0 : i = p
    · rw [if_pos h0, if_neg (fun z => z.1 h0), zor0]
    · rw [if_neg h0]
      simp only [h0, ne_eq, not_false_eq_true, true_and]
      cases b
      · simp only [cond_false, decide_eq_true_eq]
        split
        · rfl
        · rw [zor0]
      · simp only [cond_true, decide_eq_true_eq]
        split
        · rfl
        · rw [zor0]
  · intro q _ _
    show jgX11_saint_68 (jfX11_saint_68 q) (Int32.ofNat p) (bz b) (sp_sa f g0 g1 p b n) (Int32.ofNat n) M = _
    simp (disch := omega) only [zL, zlt, zle, zeq, zadd, zmul, zin, zix, zsh1, Nat.add_zero, Nat.zero_add, Nat.mul_zero, if_true, if_false, if_pos, if_neg, sy_bi_ri, sy_bi_rt, sy_bv_rv, sy_bv_rt, sy_br_rr, sy_br_rn, sy_hi_ri, sy_hi_rt, sy_bs_t, sy_bx_t, sy_bb_t, bz_bo, ite_bz0, ite_bz1, jgX11_saint_68, hv_3 H, hn]
theorem c_saint {n p : Nat} {f : Nat → Int32} {b : Bool} (h : st A M n f) (hp : p < n) : ∃ M1, (sy_bi (jfX2_get 9 (Int32.ofNat p) (Int32.ofNat 4) M) fun v4 M3 => sy_bi (jfX11_griefBy (Int32.ofNat p) v4 M3) fun v6 M5 => jfX11_saint_33 sy_F (Int32.ofNat p) (bz b) (Int32.ofNat 0) M5) = sy_ri (sp_sa f (sp_gs A n false false f 48).1 (sp_gw A n f p 0) p b n) M1 ∧ fq M M1 := by
  have hn := h.2.1.2.1
  have h7 := h.2.1.2.2.1
  obtain ⟨w, hw0, ew⟩ := rb_waits h.2.1.1 (p := p) (by omega)
  obtain ⟨M1, e1, s1, w1, f1⟩ := c_griefBy (w := w) h hp hw0
  have eg : sp_gw A n f p w = (sp_gs A n false false f 48).1 := by
    unfold sp_gw
    rw [← ew, rs_self]
  rw [eg] at w1
  rw [c_get h.1.1 (by omega) (by decide), sy_bi_ri, ew, e1, sy_bi_ri]
  refine sy_forR (n := 7) (F := sy_F) (R := fun c => ∃ M1, c = sy_ri (sp_sa f (sp_gs A n false false f 48).1 (sp_gw A n f p 0) p b n) M1 ∧ fq M M1) (fun q i (N : sy_M) => jfX11_saint_33 q (Int32.ofNat p) (bz b) (Int32.ofNat i) N) (fun i N => (∀ o, o < i → N 120 o = sp_gv f (sp_gs A n false false f 48).1 o) ∧ (∀ a, a ≠ 120 → N a = M1 a)) ?_ ?_ M1 ⟨fun o ho => absurd ho (Nat.not_lt_zero o), fun _ _ => rfl⟩ (by rw [sy_F_eq]; omega)
  · intro q i N hi ⟨k1, k2⟩
    have H9 : hv N 9 f := hv_congr s1.1.1 (k2 _ (by decide)) (k2 _ (by decide)) (k2 _ (by decide))
    have H19 : hv N 19 (sp_gs A n false false f 48).1 := hv_congr w1.1 (k2 _ (by decide)) (k2 _ (by decide)) (k2 _ (by decide))
    refine Or.inl ⟨syc N 120 (rs (N 120) i (sp_gv f (sp_gs A n false false f 48).1 i)), ?_, ?_, ?_⟩
    · show jgX11_saint_33 (jfX11_saint_33 q) (Int32.ofNat p) (bz b) (Int32.ofNat i) N = _
      simp (disch := omega) only [zL, zlt, zle, zeq, zadd, zmul, zin, zix, zsh1, Nat.add_zero, Nat.zero_add, Nat.mul_zero, if_true, if_false, if_pos, if_neg, sy_bi_ri, sy_bi_rt, sy_bv_rv, sy_bv_rt, sy_br_rr, sy_br_rn, sy_hi_ri, sy_hi_rt, sy_bs_t, sy_bx_t, sy_bb_t, bz_bo, ite_bz0, ite_bz1, jgX11_saint_33, c_griefAhead H9 H19, sy_upd_st]
    · intro o ho
      rw [syc_at]
      by_cases ho2 : o = i
      · subst ho2; exact rs_at _ _ _
      · rw [rs_ne _ _ ho2]; exact k1 o (by omega)
    · intro a ha
      rw [syc_ne _ _ ha]; exact k2 a ha
  · intro q N ⟨k1, k2⟩
    have sN : st A N n f := ⟨hw_congr s1.1 (fun a c1 c2 => k2 a (by omega)), s1.2.1, cAK_cp s1.2.2.1 (lcp_of (fun a c1 c2 => k2 a (by omega))) tsame_rfl, nt_congr s1.2.2.2.1 (k2 _ (by decide)) (k2 _ (by decide)), dk_congr s1.2.2.2.2 (k2 _ (by decide))⟩
    obtain ⟨N1, e2, s2, w2, f2⟩ := c_griefBy (w := 0) sN hp (by decide)
    have e3 := c_saint_2 (b := b) (p := p) (g0 := (sp_gs A n false false f 48).1) s2.1.1 w2.1 hn h7 hp (fun i hi => by rw [f2 120 (by omega) (by omega)]; exact k1 i hi)
    refine ⟨N1, ?_, ?_⟩
    · show jgX11_saint_33 (jfX11_saint_33 q) (Int32.ofNat p) (bz b) (Int32.ofNat 7) N = _
      simp (disch := omega) only [zL, zlt, zle, zeq, zadd, zmul, zin, zix, zsh1, Nat.add_zero, Nat.zero_add, Nat.mul_zero, if_true, if_false, if_pos, if_neg, sy_bi_ri, sy_bi_rt, sy_bv_rv, sy_bv_rt, sy_br_rr, sy_br_rn, sy_hi_ri, sy_hi_rt, sy_bs_t, sy_bx_t, sy_bb_t, bz_bo, ite_bz0, ite_bz1, jgX11_saint_33, e2, e3]
    · refine ⟨fun a ha => ?_, fun _ => s2.2.2.2.2⟩
      unfold qs at ha
      rw [f2 a (by omega) (by omega), k2 a (by omega), f1 a (by omega) (by omega)]
theorem m_saint (hM : mAK A tx) {n p : Nat} {f : Nat → Int32} {b : Bool} (h : rc tx false M n f) (hp : p < n) : ∃ M1, (sy_bv (jfX12_grieves M) fun M2 => jfX12_saint_32 sy_F (Int32.ofNat p) (bz b) (Int32.ofNat 0) M2) = sy_ri (sp_sa f (sp_gs A n false false f 48).1 (sp_gw A n f p 0) p b n) M1 ∧ ft M M1 := by
  have hn := h.2.1.2.1
  have h7 := h.2.1.2.2.1
  obtain ⟨M1, e1, f1, g1, c1⟩ := m_grieves hM h
  rw [e1, sy_bv_rv]
  refine sy_forR (n := n) (F := sy_F) (R := fun c => ∃ M1, c = sy_ri (sp_sa f (sp_gs A n false false f 48).1 (sp_gw A n f p 0) p b n) M1 ∧ ft M M1) (fun q i (N : sy_M) => jfX12_saint_32 q (Int32.ofNat p) (bz b) (Int32.ofNat i) N) (fun i N => (∀ o, o < i → N 128 o = sp_gv f (sp_gs A n false false f 48).1 o) ∧ (∀ a, a ≠ 128 → N a = M1 a)) ?_ ?_ M1 ⟨fun o ho => absurd ho (Nat.not_lt_zero o), fun _ _ => rfl⟩ (by rw [sy_F_eq]; omega)
  · intro q i N hi ⟨k1, k2⟩
    have e122 : N 122 = f := (k2 122 (by decide)).trans (rc_ft h f1).1
    have e129 : N 129 i = sp_gv f (sp_gs A n false false f 48).1 i := by rw [k2 129 (by decide)]; exact g1 i hi
    refine Or.inl ⟨syc N 128 (rs (N 128) i (sp_gv f (sp_gs A n false false f 48).1 i)), ?_, ?_, ?_⟩
    · show jgX12_saint_32 (jfX12_saint_32 q) (Int32.ofNat p) (bz b) (Int32.ofNat i) N = _
      simp (disch := omega) only [zL, zlt, zle, zeq, zadd, zmul, zin, zix, zsh1, Nat.add_zero, Nat.zero_add, Nat.mul_zero, if_true, if_false, if_pos, if_neg, sy_bi_ri, sy_bi_rt, sy_bv_rv, sy_bv_rt, sy_br_rr, sy_br_rn, sy_hi_ri, sy_hi_rt, sy_bs_t, sy_bx_t, sy_bb_t, bz_bo, ite_bz0, ite_bz1, jgX12_saint_32, e122, hn, sy_upd_st, e129]
    · intro o ho
      rw [syc_at]
      by_cases ho2 : o = i
      · subst ho2; exact rs_at _ _ _
      · rw [rs_ne _ _ ho2]; exact k1 o (by omega)
    · intro a ha
      rw [syc_ne _ _ ha]; exact k2 a ha
  · intro q N ⟨k1, k2⟩
    have fN : ft M1 N := ⟨fun a ha => k2 a (by unfold rx at ha; omega), fun j hj => by rw [k2 121 (by decide)]⟩
    have rN := rc_ft (rc_ft h f1) fN
    have e122 : N 122 = f := rN.1
    obtain ⟨N1, e2, f2, g2, c2⟩ := m_griefOf hM rN hp (w := 0) (by decide)
    have e122' : N1 122 = f := (rc_ft rN f2).1
    have e3 : jfX12_saint_73 sy_F (Int32.ofNat p) (bz b) (Int32.ofNat 0) (Int32.ofNat 0) N1 = sy_ri (sp_sa f (sp_gs A n false false f 48).1 (sp_gw A n f p 0) p b n) N1 := by
      refine sy_forR (n := n) (F := sy_F) (R := fun c => c = sy_ri (sp_sa f (sp_gs A n false false f 48).1 (sp_gw A n f p 0) p b n) N1) (fun q i (_ : Unit) => jfX12_saint_73 q (Int32.ofNat p) (bz b) (sp_sa f (sp_gs A n false false f 48).1 (sp_gw A n f p 0) p b i) (Int32.ofNat i) N1) (fun _ _ => True) ?_ ?_ () trivial (by rw [sy_F_eq]; omega)
      · intro q i _ hi _
        refine Or.inl ⟨(), ?_, trivial⟩
        show jgX12_saint_73 (jfX12_saint_73 q) (Int32.ofNat p) (bz b) (sp_sa f (sp_gs A n false false f 48).1 (sp_gw A n f p 0) p b i) (Int32.ofNat i) N1 = _
        have e128 : N1 128 i = sp_gv f (sp_gs A n false false f 48).1 i := by rw [c2]; exact k1 i hi
        have e129 : N1 129 i = sp_gv f (sp_gw A n f p 0) i := g2 i hi
        rw [sp_sa_s]
        simp (disch := omega) only [zL, zlt, zle, zeq, zadd, zmul, zin, zix, zsh1, Nat.add_zero, Nat.zero_add, Nat.mul_zero, if_true, if_false, if_pos, if_neg, sy_bi_ri, sy_bi_rt, sy_bv_rv, sy_bv_rt, sy_br_rr, sy_br_rn, sy_hi_ri, sy_hi_rt, sy_bs_t, sy_bx_t, sy_bb_t, bz_bo, ite_bz0, ite_bz1, jgX12_saint_73, jfX12_saint_133, jfX12_saint_140, jfX12_saint_141, e122', hn, e128, e129]
        by_cases h0 : i = p
        · rw [if_pos h0, if_neg (fun z => z.1 h0)]
        · rw [if_neg h0]
          simp only [h0, ne_eq, not_false_eq_true, true_and]
          cases b
          · simp only [cond_false, decide_eq_true_eq]
            split <;> rfl
          · simp only [cond_true, decide_eq_true_eq]
            split <;> rfl
      · intro q _ _
        show jgX12_saint_73 (jfX12_saint_73 q) (Int32.ofNat p) (bz b) (sp_sa f (sp_gs A n false false f 48).1 (sp_gw A n f p 0) p b n) (Int32.ofNat n) N1 = _
        simp (disch := omega) only [zL, zlt, zle, zeq, zadd, zmul, zin, zix, zsh1, Nat.add_zero, Nat.zero_add, Nat.mul_zero, if_true, if_false, if_pos, if_neg, sy_bi_ri, sy_bi_rt, sy_bv_rv, sy_bv_rt, sy_br_rr, sy_br_rn, sy_hi_ri, sy_hi_rt, sy_bs_t, sy_bx_t, sy_bb_t, bz_bo, ite_bz0, ite_bz1, jgX12_saint_73, e122', hn]
    refine ⟨N1, ?_, (f1.trans fN).trans f2⟩
    show jgX12_saint_32 (jfX12_saint_32 q) (Int32.ofNat p) (bz b) (Int32.ofNat n) N = _
    simp (disch := omega) only [zL, zlt, zle, zeq, zadd, zmul, zin, zix, zsh1, Nat.add_zero, Nat.zero_add, Nat.mul_zero, if_true, if_false, if_pos, if_neg, sy_bi_ri, sy_bi_rt, sy_bv_rv, sy_bv_rt, sy_br_rr, sy_br_rn, sy_hi_ri, sy_hi_rt, sy_bs_t, sy_bx_t, sy_bb_t, bz_bo, ite_bz0, ite_bz1, jgX12_saint_32, e122, hn, e2, e3]
theorem o_saint (hM : mAK A tx) (I : Inv A tx L0 S e M) (he : e < 90000) (a : Int32) (b : Bool) : opT A tx L0 S e (jfL_saint a (bz b) M) (jfX12_saint a (bz b)) := by
  obtain ⟨n, G, H, ht, hA, hl⟩ := id I.1
  have hn := G.2.1
  have h7 := G.2.2.1
  obtain ⟨xk, hxk, exk⟩ := I.2.2.2.2.2.2.2.2.1
  have hx := xok he hxk exk
  have h9 : M 9 3 = Int32.ofNat n := (hv_3 H.1).trans hn
  have D19 := I.2.2.2.2.1
  unfold jfL_saint
  rcases ck_lodger h7 h9 hx a with ⟨p, hp, ea, ck, sa⟩ | ⟨sa, ck⟩
  · subst ea
    refine opT_q I (v := sp_sa (M 122) (sp_gs A n false false (M 122) 48).1 (sp_gw A n (M 122) p 0) p b n) ?_ ?_
    · obtain ⟨M1, e1, s1, f1⟩ := q_st H G hA D19
      obtain ⟨M2, e2, f2⟩ := c_saint (b := b) s1 hp
      refine ⟨M2, ?_, f1.trans f2⟩
      simp only [jfX11_saint, ck, e1, sy_bv_rv]
      exact e2
    · intro N hN
      have r := rc_thr (c := 0) (rc_of I G ht hN)
      have eN : N 122 3 = Int32.ofNat n := by rw [hN 122 (by omega) (by omega)]; exact hn
      obtain ⟨N1, e1, f1⟩ := m_saint hM (b := b) r hp
      refine ⟨N1, ?_, (f1.2 0 (by omega)).trans (thr_0 _ _), fr_thr.trans f1.fr⟩
      simp (disch := omega) only [zL, zlt, zle, zeq, zadd, zmul, zin, zix, zsh1, Nat.add_zero, Nat.zero_add, Nat.mul_zero, if_true, if_false, if_pos, if_neg, sy_bi_ri, sy_bi_rt, sy_bv_rv, sy_bv_rt, sy_br_rr, sy_br_rn, sy_hi_ri, sy_hi_rt, sy_bs_t, sy_bx_t, sy_bb_t, bz_bo, ite_bz0, ite_bz1, jfX12_saint, jfX12_saint_14, m_isLodger, eN, sa, cond_true, thr_up, thr_0]
      exact e1
  · refine opT_x I (cl := 22) (c := 1) ?_ rfl (by decide) (by decide) ?_
    · simp (disch := omega) only [zL, zlt, zle, zeq, zadd, zmul, zin, zix, zsh1, Nat.add_zero, Nat.zero_add, Nat.mul_zero, if_true, if_false, if_pos, if_neg, sy_bi_ri, sy_bi_rt, sy_bv_rv, sy_bv_rt, sy_br_rr, sy_br_rn, sy_hi_ri, sy_hi_rt, sy_bs_t, sy_bx_t, sy_bb_t, bz_bo, ite_bz0, ite_bz1, jfX11_saint, ck]
      all_goals rfl
    · intro N hN
      have eN : N 122 3 = Int32.ofNat n := by rw [hN 122 (by omega) (by omega)]; exact hn
      exact ⟨(Int32.ofNat 0), thr N 1, by simp (disch := omega) only [zL, zlt, zle, zeq, zadd, zmul, zin, zix, zsh1, Nat.add_zero, Nat.zero_add, Nat.mul_zero, if_true, if_false, if_pos, if_neg, sy_bi_ri, sy_bi_rt, sy_bv_rv, sy_bv_rt, sy_br_rr, sy_br_rn, sy_hi_ri, sy_hi_rt, sy_bs_t, sy_bx_t, sy_bb_t, bz_bo, ite_bz0, ite_bz1, jfX12_saint, jfX12_saint_14, sa, m_isLodger, eN, m_isIn, m_isTick, cond_true, cond_false, thr_up, thr_0], thr_0 _ _, fr_thr⟩
end
