/-! ===== the acts ===== -/
section
variable {A : (Nat → Int32) → Nat → Int32 × Bool} {tx : (Nat → Int32) → Prop} {L0 : Int32} {S : Nat → Int32} {e : Nat} {M : sy_M}
theorem gr_rs {n i k : Nat} {f : Nat → Int32} (G : gr f n) (hk : k ≤ tbl i) (h3 : i ≠ 3) (h7i : i ≠ 7) (h8 : i ≠ 8) (hb : ∀ p, p < n → i ≠ 14 + 9 * p ∧ i ≠ 14 + 9 * p + 6) (hz : ∀ p, n ≤ p → p < 7 → i ≠ 14 + 9 * p + 6 ∧ i ≠ 14 + 9 * p + 7 ∧ i ≠ 14 + 9 * p + 8 ∧ ∀ o, o < 7 → i ≠ 77 + 7 * p + o ∧ i ≠ 77 + 7 * o + p) : gr (rs f i (Int32.ofNat k)) n := by
  obtain ⟨h1, h2, h7, h4, h5, h6⟩ := G
  refine ⟨rb_set h1 hk, (rs_ne _ _ (fun z => h3 z.symm)).trans h2, h7, ?_, ?_, ?_⟩
  · intro h q hq
    rw [rs_ne _ _ (fun z => h8 z.symm)] at h
    rw [rs_ne _ _ (fun z => (hb q hq).2 z.symm)]
    exact h4 h q hq
  · intro q hq hq7
    obtain ⟨e1, e2, e3, e4⟩ := h5 q hq hq7
    obtain ⟨z1, z2, z3, z4⟩ := hz q hq hq7
    refine ⟨?_, ?_, ?_, fun o ho => ⟨?_, ?_⟩⟩
    · rw [rs_ne _ _ (fun z => z1 z.symm)]; exact e1
    · rw [rs_ne _ _ (fun z => z2 z.symm)]; exact e2
    · rw [rs_ne _ _ (fun z => z3 z.symm)]; exact e3
    · rw [rs_ne _ _ (fun z => (z4 o ho).1 z.symm)]; exact (e4 o ho).1
    · rw [rs_ne _ _ (fun z => (z4 o ho).2 z.symm)]; exact (e4 o ho).2
  · refine ⟨by rw [rs_ne _ _ (fun z => h7i z.symm)]; exact h6.1, fun q hq => ?_⟩
    rw [rs_ne _ _ (fun z => (hb q hq).1 z.symm)]; exact h6.2 q hq
theorem gr_u {n p w k : Nat} {f : Nat → Int32} (G : gr f n) (hp : p < n) (hw0 : w = 1 ∨ w = 2 ∨ w = 4 ∨ w = 5) (hk : k ≤ [9, 47, 47, 20, 20, 999, 99, 999, 999].getD w 0) : gr (rs f (14 + 9 * p + w) (Int32.ofNat k)) n := by
  have h7 := G.2.2.1
  exact gr_rs G (by rw [tbl_u (by omega) (by omega)]; exact hk) (by omega) (by omega) (by omega) (fun q hq => ⟨by omega, by omega⟩) (fun q h1 h2 => ⟨by omega, by omega, by omega, fun o ho => ⟨by omega, by omega⟩⟩)
theorem gr_owed {n p o k : Nat} {f : Nat → Int32} (G : gr f n) (hp : p < n) (ho : o < n) (hk : k ≤ 99) : gr (rs f (77 + 7 * p + o) (Int32.ofNat k)) n := by
  have h7 := G.2.2.1
  exact gr_rs G (by rw [tbl_w (by omega) (by omega)]; exact hk) (by omega) (by omega) (by omega) (fun q hq => ⟨by omega, by omega⟩) (fun q h1 h2 => ⟨by omega, by omega, by omega, fun r hr => ⟨by omega, by omega⟩⟩)
theorem gr_box {n k : Nat} {f : Nat → Int32} (G : gr f n) (hk : k ≤ 9999) : gr (rs f 10 (Int32.ofNat k)) n :=
  gr_rs G hk (by omega) (by omega) (by omega) (fun q hq => ⟨by omega, by omega⟩) (fun q h1 h2 => ⟨by omega, by omega, by omega, fun o ho => ⟨by omega, by omega⟩⟩)
theorem gr_log {n : Nat} {f : Nat → Int32} {w p : Int32} (G : gr f n) : gr (sp_log f w p) n := by
  obtain ⟨h1, h2, h7, h4, h5, h6⟩ := G
  refine ⟨rb_log h1 _ _, (sp_log_lo _ _ _ (by omega) (by omega)).trans h2, h7, ?_, ?_, ?_⟩
  · intro h q hq
    rw [sp_log_lo _ _ _ (by omega) (by omega)] at h
    rw [sp_log_lo _ _ _ (by omega) (by omega)]
    exact h4 h q hq
  · intro q hq hq7
    obtain ⟨e1, e2, e3, e4⟩ := h5 q hq hq7
    refine ⟨?_, ?_, ?_, fun o ho => ⟨?_, ?_⟩⟩
    · rw [sp_log_lo _ _ _ (by omega) (by omega)]; exact e1
    · rw [sp_log_lo _ _ _ (by omega) (by omega)]; exact e2
    · rw [sp_log_lo _ _ _ (by omega) (by omega)]; exact e3
    · rw [sp_log_lo _ _ _ (by omega) (by omega)]; exact (e4 o ho).1
    · rw [sp_log_lo _ _ _ (by omega) (by omega)]; exact (e4 o ho).2
  · refine ⟨by rw [sp_log_lo _ _ _ (by omega) (by omega)]; exact h6.1, fun q hq => ?_⟩
    rw [sp_log_lo _ _ _ (by omega) (by omega)]; exact h6.2 q hq
/-- a row whose places below 126 but these are as they were -/
theorem gr_like {n : Nat} {f g : Nat → Int32} (G : gr f n) (hr : rb g) (h : ∀ i, i < 126 → (i = 3 ∨ i = 7 ∨ i = 8 ∨ (∃ p, i = 14 + 9 * p) ∨ (∃ p, i = 14 + 9 * p + 6) ∨ (∃ p, i = 14 + 9 * p + 7) ∨ (∃ p, n ≤ p ∧ i = 14 + 9 * p + 8) ∨ 77 ≤ i) → g i = f i) : gr g n := by
  obtain ⟨h1, h2, h7, h4, h5, h6⟩ := G
  refine ⟨hr, (h 3 (by omega) (by omega)).trans h2, h7, ?_, ?_, ?_⟩
  · intro z q hq
    rw [h 8 (by omega) (by omega)] at z
    rw [h _ (by omega) (Or.inr (Or.inr (Or.inr (Or.inr (Or.inl ⟨q, rfl⟩)))))]
    exact h4 z q hq
  · intro q hq hq7
    obtain ⟨e1, e2, e3, e4⟩ := h5 q hq hq7
    refine ⟨?_, ?_, ?_, fun o ho => ⟨?_, ?_⟩⟩
    · rw [h _ (by omega) (Or.inr (Or.inr (Or.inr (Or.inr (Or.inl ⟨q, rfl⟩)))))]; exact e1
    · rw [h _ (by omega) (Or.inr (Or.inr (Or.inr (Or.inr (Or.inr (Or.inl ⟨q, rfl⟩))))))]; exact e2
    · rw [h _ (by omega) (Or.inr (Or.inr (Or.inr (Or.inr (Or.inr (Or.inr (Or.inl ⟨q, hq, rfl⟩)))))))]; exact e3
    · rw [h _ (by omega) (by omega)]; exact (e4 o ho).1
    · rw [h _ (by omega) (by omega)]; exact (e4 o ho).2
  · refine ⟨by rw [h _ (by omega) (by omega)]; exact h6.1, fun q hq => ?_⟩
    rw [h _ (by omega) (Or.inr (Or.inr (Or.inr (Or.inl ⟨q, rfl⟩))))]; exact h6.2 q hq
theorem gr_feed {n q : Nat} {f : Nat → Int32} (G : gr f n) (hq : q < n) (hc : f (14 + 9 * q + 5) ≠ (Int32.ofNat 0)) : gr (sp_feed f q) n := by
  have h7 := G.2.2.1
  refine gr_like G (sp_feed_rb G.1 (by omega) hc) (fun i hi h => ?_)
  rcases h with h | h | h | ⟨p, h⟩ | ⟨p, h⟩ | ⟨p, h⟩ | ⟨p, hp, h⟩ | h <;> exact sp_feed_at hi (by omega) (by omega) (by omega) (by omega) (by omega) (by omega)
theorem c_remember {s nx : Nat} {f : Nat → Int32} (H : hw M 9 f) (D : ∀ k, k < 12 → dk M (59 + 5 * k)) (hs : s ≤ 12) (hnx : nx < 12) (t1 : M 57 1 = Int32.ofNat s) (t3 : M 57 2 = Int32.ofNat nx) : ∃ M1, jfX0_remember 9 M = sy_rv M1 ∧ hw M1 9 f ∧ hw M1 (59 + 5 * nx) f ∧ M1 57 1 = Int32.ofNat (min 12 (s + 1)) ∧ M1 57 2 = Int32.ofNat (if nx + 1 < 12 then nx + 1 else 0) ∧ (∀ a, a ≠ 57 → (a < 59 + 5 * nx ∨ 59 + 5 * nx + 4 < a) → M1 a = M a) := by
  obtain ⟨M1, e1, w1, f1⟩ := c_takeOver H (D nx hnx) (by omega) (by decide)
  have k57 : M1 57 = M 57 := f1 57 (by omega)
  have i2 := h_slot ⟨nx, hnx⟩
  refine ⟨syc M1 57 (rs (rs (M 57) 2 (Int32.ofNat (if nx + 1 < 12 then nx + 1 else 0))) 1 (Int32.ofNat (min 12 (s + 1)))), ?_, ?_, ?_, ?_, ?_, ?_⟩
  · simp (disch := omega) only [jfX0_remember, jfX0_remember_41, jfX0_slot, t3, zL, zlt, if_neg, if_pos, zin, zix, sy_bx_t, sy_br_rr, i2, sy_bs_t, e1, sy_bv_rv, k57, sy_upd_st, syc_at, syc_st, rs_ne, t1, zadd, c_lesser, sy_bi_ri, zmin]
    by_cases h : nx + 1 < 12
    · rw [if_pos h, if_pos h]
    · rw [if_neg h, if_neg h]
  · exact hw_congr (hw_congr H (fun a h1 h2 => f1 a (by omega))) (fun a h1 h2 => syc_ne _ _ (by omega))
  · exact hw_congr w1 (fun a h1 h2 => syc_ne _ _ (by omega))
  · rw [syc_at, rs_at]
  · rw [syc_at, rs_ne _ _ (by decide), rs_at]
  · intro a h1 h2
    rw [syc_ne _ _ h1]; exact f1 a h2
/-- the reference behind remembering -/
def nr (N : sy_M) (s : Nat) : sy_M := syc (syc (thr N 0) 125 (sp_rm s (N 122) (N 125))) 121 (rs (thr N 0 121) 6 (Int32.ofNat (min 12 (s + 1))))
theorem m_rem {N : sy_M} {s : Nat} (hs : N 121 6 = Int32.ofNat s) (h12 : s ≤ 12) : jfX12_remembers (thr N 0) = sy_rv (nr N s) := by
  rw [m_remembers (by rw [thr_j _ _ (by decide)]; exact hs) h12, thr_ne _ _ (by decide), thr_ne _ _ (by decide)]
  rfl
theorem nr_122 (N : sy_M) (s : Nat) : nr N s 122 = N 122 := by
  unfold nr
  rw [syc_ne _ _ (by decide), syc_ne _ _ (by decide), thr_ne _ _ (by decide)]
theorem RA_fm {N N1 : sy_M} {s : Nat} {f1 : Nat → Int32} (h : fm (nr N s) N1) (e : N1 122 = f1) : N1 121 0 = (Int32.ofNat 0) ∧ RA s f1 N N1 := by
  have k0 : nr N s 121 = rs (thr N 0 121) 6 (Int32.ofNat (min 12 (s + 1))) := syc_at _ _ _
  refine ⟨?_, e, fun a h1 h2 h3 => ?_, fun j hj => ?_, ?_, ?_⟩
  · rw [h.2 0 (by omega), k0, rs_ne _ _ (by decide), thr_0]
  · unfold rx at h1
    rw [h.1 a (by omega) h2 (by omega)]
    unfold nr
    rw [syc_ne _ _ (by omega), syc_ne _ _ h3, thr_ne _ _ (by omega)]
  · rw [h.2 j (by omega), k0, rs_ne _ _ (by omega), thr_j _ _ (by omega)]
  · rw [h.2 6 (by omega), k0, rs_at]
  · rw [h.1 125 (by decide) (by decide) (by decide)]
    unfold nr
    rw [syc_ne _ _ (by decide), syc_at]
theorem CA_of {M1 M2 : sy_M} {s nx : Nat} {f1 : Nat → Int32} (hnx : nx < 12) (w9 : hw M2 9 f1) (w : hw M1 (59 + 5 * nx) (M 122)) (a1 : M1 57 1 = Int32.ofNat (min 12 (s + 1))) (a2 : M1 57 2 = Int32.ofNat (if nx + 1 < 12 then nx + 1 else 0)) (E : ∀ a, a ≠ 57 → (a < 59 + 5 * nx ∨ 59 + 5 * nx + 4 < a) → M1 a = M a) (F : ∀ a, ¬ qs a → (a < 9 ∨ 13 < a) → M2 a = M1 a) (d : dk M 19 → dk M2 19) : CA M s nx f1 M2 := by
  refine ⟨w9, fun a h1 h2 h3 => ?_, d, ?_, ?_, fun a h1 h2 h3 => ?_, ?_⟩
  · rw [F a h1 h2]; exact E a (by omega) (by omega)
  · rw [F 57 (by unfold qs; omega) (by omega)]; exact a1
  · rw [F 57 (by unfold qs; omega) (by omega)]; exact a2
  · rw [F a (by unfold qs; omega) (by omega)]; exact E a (by omega) h3
  · exact hw_congr w (fun a h1 h2 => F a (by unfold qs; omega) (by omega))
theorem CA_wl {M1 : sy_M} {s nx : Nat} {f1 : Nat → Int32} {v : Int64} (hnx : nx < 12) (C : CA M s nx f1 M1) : CA M s nx f1 (sy_wl M1 132 0 v) := by
  obtain ⟨c1, c2, c3, c4, c5, c6, c7⟩ := C
  refine ⟨hw_congr c1 (fun a h1 h2 => sy_wl_ne _ _ (by omega)), fun a h1 h2 h3 => ?_, fun h => dk_congr (c3 h) (sy_wl_ne _ _ (by omega)), ?_, ?_, fun a h1 h2 h3 => ?_, hw_congr c7 (fun a h1 h2 => sy_wl_ne _ _ (by omega))⟩
  · rw [sy_wl_ne _ _ (by unfold qs at h1; omega)]; exact c2 a h1 h2 h3
  · rw [sy_wl_ne _ _ (by omega)]; exact c4
  · rw [sy_wl_ne _ _ (by omega)]; exact c5
  · rw [sy_wl_ne _ _ (by omega)]; exact c6 a h1 h2 h3
theorem opT_a (I : Inv A tx L0 S e M) (hM : mAK A tx) {x : sy_O} {y : sy_M → sy_O} {kt : Nat → sy_M → sy_O} {v : Int32} {n : Nat} {f1 : Nat → Int32} (G : gr f1 n) (T : tsame (M 122) f1) (h : ∀ s nx, s ≤ 12 → nx < 12 → M 57 1 = Int32.ofNat s → M 121 6 = Int32.ofNat s → M 57 2 = Int32.ofNat nx → (∃ M1, x = sy_ri v M1 ∧ CA M s nx f1 M1) ∧ (∀ N, rq M N → ∃ N1, y N = sy_ri v N1 ∧ N1 121 0 = (Int32.ofNat 0) ∧ RA s f1 N N1)) : opT A tx L0 S e (sy_hi x (fun v M1 => sy_ri 0 (sy_wl M1 132 0 (Int32.toInt64 v))) kt) y := by
  obtain ⟨s, nx, hs, hnx, t1, t2, t3, t6⟩ := I.2.2.1
  obtain ⟨⟨M1, e1, c1⟩, hr⟩ := h s nx hs hnx t1 t2 t3
  have c2 := CA_wl (v := Int32.toInt64 v) hnx c1
  obtain ⟨M3, e3, t, r3⟩ := hr (sy_wl M1 132 0 (Int32.toInt64 v)) (fun a h1 h2 => c2.2.1 a (by unfold qs; omega) (by omega) (by omega))
  refine ⟨0, v, _, M3, ?_, e3, t, by decide, fun _ => ?_, Inv_act I hM hs hnx t2 t6 c2 r3 G T, ?_, ?_⟩
  · rw [e1, sy_hi_ri]; rfl
  · rw [sy_rl_cg (r3.2.1 132 (by unfold rx; omega) (by omega) (by omega)), sy_rl_wl, if_pos ⟨rfl, rfl⟩]
  · rw [c2.2.1 134 (by unfold qs; omega) (by omega) (by omega)]; exact I.2.2.2.2.2.2.2.2.2.1
  · rw [c2.2.1 1000000 (by unfold qs; omega) (by omega) (by omega)]; exact I.2.2.2.2.2.2.2.2.2.2
theorem o_waits (hM : mAK A tx) (I : Inv A tx L0 S e M) (he : e < 90000) (a b : Int32) : opT A tx L0 S e (jfL_waits a b M) (jfX12_waits a b) := by
  obtain ⟨n, G, H, ht, hA, hl⟩ := id I.1
  have hn := G.2.1
  have h7 := G.2.2.1
  obtain ⟨xk, hxk, exk⟩ := I.2.2.2.2.2.2.2.2.1
  have hx := xok he hxk exk
  have h9 : M 9 3 = Int32.ofNat n := (hv_3 H.1).trans hn
  have D19 := I.2.2.2.2.1
  unfold jfL_waits
  rcases ck_lodger h7 h9 hx a with ⟨p, hp, ea, ck, sa⟩ | ⟨sa, ck⟩
  · rcases ck_range (lo := 0) (hi := 20) (by decide) (by decide) hx b with ⟨w, _, hw0, eb, ck2, sb⟩ | ⟨sb, ck2⟩
    · subst ea eb
      refine opT_a I hM (v := M 122 (14 + 9 * p + 4)) (f1 := rs (M 122) (14 + 9 * p + 4) (Int32.ofNat w)) (gr_u G hp (by omega) hw0) (tsame_rs (by omega) (by omega) (by omega)) (fun s nx hs hnx t1 t2 t3 => ⟨?_, fun N hN => ?_⟩)
      · obtain ⟨M1, e1, w1, w2, a1, a2, E⟩ := c_remember H I.2.2.2.1.2.2 hs hnx t1 t3
        obtain ⟨M2, e2, w3, f2⟩ := c_setw w1 (p := p) (w := 4) (Int32.ofNat w) (by omega) (by decide)
        exact ⟨M2, by simp (disch := omega) only [zL, zlt, zle, zeq, zadd, zmul, zin, zix, zsh1, Nat.add_zero, Nat.zero_add, Nat.mul_zero, if_true, if_false, if_pos, if_neg, sy_bi_ri, sy_bi_rt, sy_bv_rv, sy_bv_rt, sy_br_rr, sy_br_rn, sy_hi_ri, sy_hi_rt, sy_bs_t, sy_bx_t, sy_bb_t, bz_bo, ite_bz0, ite_bz1, jfX11_waits, ck, ck2, e1, c_get w1.1, e2], CA_of hnx w3 w2 a1 a2 E (fun a h1 h2 => f2 a (by omega)) (fun d => dk_congr d ((f2 22 (by omega)).trans (E 22 (by omega) (by omega))))⟩
      · have e122 : N 122 = M 122 := hN 122 (by omega) (by omega)
        have eN : N 122 3 = Int32.ofNat n := by rw [e122]; exact hn
        have t2' : N 121 6 = Int32.ofNat s := by rw [hN 121 (by omega) (by omega)]; exact t2
        have rm := m_rem t2' hs
        refine ⟨syc (nr N s) 122 (rs (M 122) (14 + 9 * p + 4) (Int32.ofNat w)), ?_, RA_fm fm_syc (syc_at _ _ _)⟩
        simp (disch := omega) only [zL, zlt, zle, zeq, zadd, zmul, zin, zix, zsh1, Nat.add_zero, Nat.zero_add, Nat.mul_zero, if_true, if_false, if_pos, if_neg, sy_bi_ri, sy_bi_rt, sy_bv_rv, sy_bv_rt, sy_br_rr, sy_br_rn, sy_hi_ri, sy_hi_rt, sy_bs_t, sy_bx_t, sy_bb_t, bz_bo, ite_bz0, ite_bz1, jfX12_waits, jfX12_waits_28, jfX12_sets, m_isLodger, eN, sa, m_isIn, sb, cond_true, thr_up, thr_0, rm, nr_122, e122, sy_upd_st (nr N s)]
    · refine opT_x I (cl := 20) (c := 2) ?_ rfl (by decide) (by decide) ?_
      · simp (disch := omega) only [zL, zlt, zle, zeq, zadd, zmul, zin, zix, zsh1, Nat.add_zero, Nat.zero_add, Nat.mul_zero, if_true, if_false, if_pos, if_neg, sy_bi_ri, sy_bi_rt, sy_bv_rv, sy_bv_rt, sy_br_rr, sy_br_rn, sy_hi_ri, sy_hi_rt, sy_bs_t, sy_bx_t, sy_bb_t, bz_bo, ite_bz0, ite_bz1, jfX11_waits, ck, ck2]
        all_goals rfl
      · intro N hN
        have eN : N 122 3 = Int32.ofNat n := by rw [hN 122 (by omega) (by omega)]; exact hn
        exact ⟨(Int32.ofNat 0), thr N 2, by simp (disch := omega) only [zL, zlt, zle, zeq, zadd, zmul, zin, zix, zsh1, Nat.add_zero, Nat.zero_add, Nat.mul_zero, if_true, if_false, if_pos, if_neg, sy_bi_ri, sy_bi_rt, sy_bv_rv, sy_bv_rt, sy_br_rr, sy_br_rn, sy_hi_ri, sy_hi_rt, sy_bs_t, sy_bx_t, sy_bb_t, bz_bo, ite_bz0, ite_bz1, jfX12_waits, jfX12_waits_28, sa, sb, m_isLodger, eN, m_isIn, m_isTick, cond_true, cond_false, thr_up, thr_0], thr_0 _ _, fr_thr⟩
  · refine opT_x I (cl := 22) (c := 1) ?_ rfl (by decide) (by decide) ?_
    · simp (disch := omega) only [zL, zlt, zle, zeq, zadd, zmul, zin, zix, zsh1, Nat.add_zero, Nat.zero_add, Nat.mul_zero, if_true, if_false, if_pos, if_neg, sy_bi_ri, sy_bi_rt, sy_bv_rv, sy_bv_rt, sy_br_rr, sy_br_rn, sy_hi_ri, sy_hi_rt, sy_bs_t, sy_bx_t, sy_bb_t, bz_bo, ite_bz0, ite_bz1, jfX11_waits, ck]
      all_goals rfl
    · intro N hN
      have eN : N 122 3 = Int32.ofNat n := by rw [hN 122 (by omega) (by omega)]; exact hn
      exact ⟨(Int32.ofNat 0), thr N 1, by simp (disch := omega) only [zL, zlt, zle, zeq, zadd, zmul, zin, zix, zsh1, Nat.add_zero, Nat.zero_add, Nat.mul_zero, if_true, if_false, if_pos, if_neg, sy_bi_ri, sy_bi_rt, sy_bv_rv, sy_bv_rt, sy_br_rr, sy_br_rn, sy_hi_ri, sy_hi_rt, sy_bs_t, sy_bx_t, sy_bb_t, bz_bo, ite_bz0, ite_bz1, jfX12_waits, jfX12_waits_28, sa, m_isLodger, eN, m_isIn, m_isTick, cond_true, cond_false, thr_up, thr_0], thr_0 _ _, fr_thr⟩
theorem o_price (hM : mAK A tx) (I : Inv A tx L0 S e M) (he : e < 90000) (a : Int32) : opT A tx L0 S e (jfL_price a M) (jfX12_price a) := by
  obtain ⟨n, G, H, ht, hA, hl⟩ := id I.1
  have hn := G.2.1
  have h7 := G.2.2.1
  obtain ⟨xk, hxk, exk⟩ := I.2.2.2.2.2.2.2.2.1
  have hx := xok he hxk exk
  have h9 : M 9 3 = Int32.ofNat n := (hv_3 H.1).trans hn
  have D19 := I.2.2.2.2.1
  unfold jfL_price
  rcases ck_range (lo := 1) (hi := 99) (by decide) (by decide) hx a with ⟨w, hw1, hw0, eb, ck2, sb⟩ | ⟨sb, ck2⟩
  · subst eb
    refine opT_a I hM (v := M 122 7) (f1 := rs (M 122) 7 (Int32.ofNat w)) (gr_price G hw1 hw0) (tsame_rs (by omega) (by omega) (by omega)) (fun s nx hs hnx t1 t2 t3 => ⟨?_, fun N hN => ?_⟩)
    · obtain ⟨M1, e1, w1, w2, a1, a2, E⟩ := c_remember H I.2.2.2.1.2.2 hs hnx t1 t3
      have w3 := hw_fld w1 (j := 8) (i := 7) (Or.inl ⟨rfl, by omega, by omega⟩) (Int32.ofNat w)
      exact ⟨_, by simp (disch := omega) only [zL, zlt, zle, zeq, zadd, zmul, zin, zix, zsh1, Nat.add_zero, Nat.zero_add, Nat.mul_zero, if_true, if_false, if_pos, if_neg, sy_bi_ri, sy_bi_rt, sy_bv_rv, sy_bv_rt, sy_br_rr, sy_br_rn, sy_hi_ri, sy_hi_rt, sy_bs_t, sy_bx_t, sy_bb_t, bz_bo, ite_bz0, ite_bz1, jfX11_price, ck2, e1, hv_8 w1.1, sy_upd_st], CA_of hnx w3 w2 a1 a2 E (fun a h1 h2 => syc_ne _ _ (by omega)) (fun d => dk_congr d ((syc_ne _ _ (by omega)).trans (E 22 (by omega) (by omega))))⟩
    · have e122 : N 122 = M 122 := hN 122 (by omega) (by omega)
      have t2' : N 121 6 = Int32.ofNat s := by rw [hN 121 (by omega) (by omega)]; exact t2
      have rm := m_rem t2' hs
      refine ⟨syc (nr N s) 122 (rs (M 122) 7 (Int32.ofNat w)), ?_, RA_fm fm_syc (syc_at _ _ _)⟩
      simp (disch := omega) only [zL, zlt, zle, zeq, zadd, zmul, zin, zix, zsh1, Nat.add_zero, Nat.zero_add, Nat.mul_zero, if_true, if_false, if_pos, if_neg, sy_bi_ri, sy_bi_rt, sy_bv_rv, sy_bv_rt, sy_br_rr, sy_br_rn, sy_hi_ri, sy_hi_rt, sy_bs_t, sy_bx_t, sy_bb_t, bz_bo, ite_bz0, ite_bz1, jfX12_price, jfX12_price_16, jfX12_sets, m_isIn, sb, cond_true, thr_up, thr_0, rm, nr_122, e122, sy_upd_st (nr N s)]
  · refine opT_x I (cl := 20) (c := 1) ?_ rfl (by decide) (by decide) ?_
    · simp (disch := omega) only [zL, zlt, zle, zeq, zadd, zmul, zin, zix, zsh1, Nat.add_zero, Nat.zero_add, Nat.mul_zero, if_true, if_false, if_pos, if_neg, sy_bi_ri, sy_bi_rt, sy_bv_rv, sy_bv_rt, sy_br_rr, sy_br_rn, sy_hi_ri, sy_hi_rt, sy_bs_t, sy_bx_t, sy_bb_t, bz_bo, ite_bz0, ite_bz1, jfX11_price, ck2]
      all_goals rfl
    · intro N hN
      have eN : N 122 3 = Int32.ofNat n := by rw [hN 122 (by omega) (by omega)]; exact hn
      exact ⟨(Int32.ofNat 0), thr N 1, by simp (disch := omega) only [zL, zlt, zle, zeq, zadd, zmul, zin, zix, zsh1, Nat.add_zero, Nat.zero_add, Nat.mul_zero, if_true, if_false, if_pos, if_neg, sy_bi_ri, sy_bi_rt, sy_bv_rv, sy_bv_rt, sy_br_rr, sy_br_rn, sy_hi_ri, sy_hi_rt, sy_bs_t, sy_bx_t, sy_bb_t, bz_bo, ite_bz0, ite_bz1, jfX12_price, jfX12_price_16, sb, m_isLodger, eN, m_isIn, m_isTick, cond_true, cond_false, thr_up, thr_0], thr_0 _ _, fr_thr⟩
theorem o_change (hM : mAK A tx) (I : Inv A tx L0 S e M) (he : e < 90000) (a b : Int32) : opT A tx L0 S e (jfL_change a b M) (jfX12_change a b) := by
  obtain ⟨n, G, H, ht, hA, hl⟩ := id I.1
  have hn := G.2.1
  have h7 := G.2.2.1
  obtain ⟨xk, hxk, exk⟩ := I.2.2.2.2.2.2.2.2.1
  have hx := xok he hxk exk
  have h9 : M 9 3 = Int32.ofNat n := (hv_3 H.1).trans hn
  have D19 := I.2.2.2.2.1
  unfold jfL_change
  rcases ck_two h7 h9 hx a b with ⟨p, o, hp, ho, hne, ea, eb, ck, mk⟩ | ⟨cl, c, hcc, ck, mk⟩
  · subst ea eb
    have ev : sp_room (M 122) p o (14 + 9 * p) = M 122 (14 + 9 * o) := by
      unfold sp_room
      simp (disch := omega) only [rs_ne, rs_at]
    refine opT_a I hM (v := M 122 (14 + 9 * o)) (f1 := sp_room (M 122) p o) (gr_room G hp ho hne) (ts_room (by omega) (by omega)) (fun s nx hs hnx t1 t2 t3 => ⟨?_, fun N hN => ?_⟩)
    · obtain ⟨M1, e1, w1, w2, a1, a2, E⟩ := c_remember H I.2.2.2.1.2.2 hs hnx t1 t3
      obtain ⟨M2, e2, w3, f2⟩ := c_swapRooms w1 (p := p) (o := o) (by omega) (by omega) hne
      exact ⟨M2, by simp (disch := omega) only [zL, zlt, zle, zeq, zadd, zmul, zin, zix, zsh1, Nat.add_zero, Nat.zero_add, Nat.mul_zero, if_true, if_false, if_pos, if_neg, sy_bi_ri, sy_bi_rt, sy_bv_rv, sy_bv_rt, sy_br_rr, sy_br_rn, sy_hi_ri, sy_hi_rt, sy_bs_t, sy_bx_t, sy_bb_t, bz_bo, ite_bz0, ite_bz1, jfX11_change, ck, e1, e2, c_get w3.1, ev], CA_of hnx w3 w2 a1 a2 E (fun a h1 h2 => f2 a (by omega)) (fun d => dk_congr d ((f2 22 (by omega)).trans (E 22 (by omega) (by omega))))⟩
    · have e122 : N 122 = M 122 := hN 122 (by omega) (by omega)
      have eN : N 122 3 = Int32.ofNat n := by rw [e122]; exact hn
      have t2' : N 121 6 = Int32.ofNat s := by rw [hN 121 (by omega) (by omega)]; exact t2
      have rm := m_rem t2' hs
      refine ⟨syc (nr N s) 122 (sp_room (M 122) p o), ?_, RA_fm fm_syc (syc_at _ _ _)⟩
      simp (disch := omega) only [zL, zlt, zle, zeq, zadd, zmul, zin, zix, zsh1, Nat.add_zero, Nat.zero_add, Nat.mul_zero, if_true, if_false, if_pos, if_neg, sy_bi_ri, sy_bi_rt, sy_bv_rv, sy_bv_rt, sy_br_rr, sy_br_rn, sy_hi_ri, sy_hi_rt, sy_bs_t, sy_bx_t, sy_bb_t, bz_bo, ite_bz0, ite_bz1, jfX12_change, mk N eN, thr_0, rm, m_rooms, nr_122, e122, m_of, syc_at, ev]
  · have hc0 : c ≠ 0 ∧ c < 4 := by omega
    refine opT_x I (cl := cl) (c := c) (by simp only [jfX11_change, ck, sy_bv_rt]) (by rcases hcc with ⟨h1, h2⟩ | ⟨h1, h2⟩ <;> subst h1 h2 <;> rfl) hc0.1 hc0.2 (fun N hN => ⟨(Int32.ofNat 0), thr N c, ?_, thr_0 _ _, fr_thr⟩)
    have eN : N 122 3 = Int32.ofNat n := by rw [hN 122 (by omega) (by omega)]; exact hn
    simp (disch := omega) only [zL, zlt, zle, zeq, zadd, zmul, zin, zix, zsh1, Nat.add_zero, Nat.zero_add, Nat.mul_zero, if_true, if_false, if_pos, if_neg, sy_bi_ri, sy_bi_rt, sy_bv_rv, sy_bv_rt, sy_br_rr, sy_br_rn, sy_hi_ri, sy_hi_rt, sy_bs_t, sy_bx_t, sy_bb_t, bz_bo, ite_bz0, ite_bz1, jfX12_change, mk N eN, thr_0]
end
