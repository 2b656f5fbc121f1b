/-! ===== lines of a house, to their end ===== -/
section
variable {M N : sy_M} {t : Nat → Nat} {L : Nat}
/-- a fact of the house: behind its word -/
theorem k_tell {q n lo hi fld row : Nat} {f : Nat → Int32} (ht : ∀ i, t i ≤ 255) (K : LK M N t L q) (Sh : SH M N f n) (hlo : lo < 1000) (hhi : hi < 1000) (hfl : fld = row + 1) (h4 : 4 ≤ row) (h11 : row ≤ 11) (hg : ∀ v, lo ≤ v → v ≤ hi → gr (rs f row (Int32.ofNat v)) n) : BO M N t L f (sy_bi (jfX10_takesNumber (Int32.ofNat lo) (Int32.ofNat hi) M) fun v M17 => jfX3_readLine_211 (sy_upd M17 14 fld v)) (jfX12_tells (Int32.ofNat row) (Int32.ofNat lo) (Int32.ofNat hi) N) := by
  obtain ⟨H, e122, G⟩ := Sh
  rcases k_num (lo := lo) (hi := Int32.ofNat hi) ht K (by omega) with ⟨v, M2, N2, q2, b0, b1, b2, c1, c2, c3, c4, c5⟩ | ⟨x, M2, N2, c1, c2, c3, c4, c5⟩
  · have vh : v ≤ hi := by
      have := mt (zlt (a := hi) (b := v) (by omega) (by omega)).mpr b2
      omega
    have H2 := hw_fk H (by decide) c4
    have H3 := hw_fld H2 (j := fld) (i := row) (Or.inl ⟨hfl, h4, h11⟩) (Int32.ofNat v)
    have k : fh 14 M2 (syc M2 14 (rs (M2 14) fld (Int32.ofNat v))) := fh_syc (by omega) (by omega)
    have e1 : N2 122 = f := (c5.1 122 (by decide)).trans e122
    refine Or.inl ⟨_, syc N2 122 (rs f row (Int32.ofNat v)), q2, rs f row (Int32.ofNat v), n, ?_, ?_, LK_r (LK_c c3 k) (fun i hi => ?_), ⟨H3, syc_at _ _ _, hg v b1 vh⟩, hl_rs (by omega) (by omega), c4.fc.trans (fh_fc k), c5.fz.trans (fz_row fun i hi => ?_)⟩
    · rw [c1, sy_bi_ri, sy_upd_st]
      unfold jfX3_readLine_211
      rw [k 1 (by omega), c3.2.1, if_pos (show (-(Int32.ofNat 1) : Int32) = -1 from rfl)]
      rfl
    · unfold jfX12_tells
      rw [c2, sy_bi_ri, c3.2.2.1, if_pos (show (-(Int32.ofNat 1) : Int32) = -1 from rfl), zin (by omega) (by decide), sy_bx_t, zix (by omega), sy_upd_st, e1]
    · rw [e1]; exact rs_ne _ _ (by omega)
    · rw [e1]; exact rs_ne _ _ (by omega)
  · have H2 := hw_fk H (by decide) c4
    have H3 := hw_fld H2 (j := fld) (i := row) (Or.inl ⟨hfl, h4, h11⟩) (-(Int32.ofNat 1))
    have k : fh 14 M2 (syc M2 14 (rs (M2 14) fld (-(Int32.ofNat 1)))) := fh_syc (by omega) (by omega)
    have hx := LF_x c3
    refine Or.inr ⟨_, N2, ?_, ?_, LF_c c3 k, H3.dk, c4.fc.trans (fh_fc k), c5.fz⟩
    · rw [c1, sy_bi_ri, sy_upd_st]
      unfold jfX3_readLine_211
      rw [k 1 (by omega), if_neg (show ¬ M2 1 7 = -1 from hx.2)]
      rfl
    · unfold jfX12_tells
      rw [c2, sy_bi_ri, if_neg (show ¬ N2 121 12 = -1 from hx.1)]
theorem ct_sz {M1 : sy_M} {q q1 : Nat} (h : ct M t L q) (h1 : ct M1 t L q1) : M1 1 5 = M 1 5 := by
  obtain ⟨i, sz, a1, a2, a3, a4, a5, a6, a7, a8⟩ := h
  obtain ⟨j, sy, b1, b2, b3, b4, b5, b6, b7, b8⟩ := h1
  rw [a3, b3]
  have : sz = sy := by
    by_cases e : sz < sy
    · have := b7 (sz - 1) (by omega)
      omega
    · by_cases e2 : sy < sz
      · have := a7 (sy - 1) (by omega)
        omega
      · omega
  rw [this]
theorem k_here {q : Nat} (ht : ∀ i, t i ≤ 255) (K : LK M N t L q) : ∃ N1, jfX12_here N = sy_ri (Int32.ofNat q) N1 ∧ LK M N1 t L q ∧ fg N N1 ∧ N1 121 11 = Int32.ofNat q := by
  obtain ⟨k1, k2, k3, p, k4, k5, k6⟩ := K
  have d := rt_le k4
  have hq := ct_le k1
  refine ⟨m11 N q, by rw [m_here k4 ht, k6], ⟨k1, k2, m11_12.trans k3, q, rt_11 k4 (by omega), hq, ?_⟩, fg_m11, by unfold m11; rw [syc_at, rs_at]⟩
  rw [← k6]; exact nxt_nxt k5
theorem k_skip {q : Nat} (ht : ∀ i, t i ≤ 255) (K : LK M N t L q) : ∃ N1, jfX12_skip N = sy_rv N1 ∧ LK M N1 t L q ∧ fg N N1 ∧ N1 121 11 = Int32.ofNat q ∧ N1 121 10 = Int32.ofNat L := by
  obtain ⟨k1, k2, k3, p, k4, k5, k6⟩ := K
  have d := rt_le k4
  have hq := ct_le k1
  refine ⟨m11 N q, by rw [m_skip k4 ht, k6], ⟨k1, k2, m11_12.trans k3, q, rt_11 k4 (by omega), hq, ?_⟩, fg_m11, by unfold m11; rw [syc_at, rs_at], by unfold m11; rw [syc_at, rs_ne _ _ (by decide)]; exact k4.1⟩
  rw [← k6]; exact nxt_nxt k5
theorem k_here_x (ht : ∀ i, t i ≤ 255) (h : LF M N t L) : ∃ v N1, jfX12_here N = sy_ri v N1 ∧ LF M N1 t L ∧ fg N N1 := by
  obtain ⟨w, p, h1, h2, h3, h4, h5⟩ := h
  have ng := nxt_ge (t := t) h5
  have := rt_le h4
  exact ⟨_, _, m_here h4 ht, ⟨w, nxt t L p, h1, h2, m11_12.trans h3, rt_11 h4 (by omega), ng.2⟩, fg_m11⟩
theorem k_skip_x (ht : ∀ i, t i ≤ 255) (h : LF M N t L) : ∃ N1, jfX12_skip N = sy_rv N1 ∧ LF M N1 t L ∧ fg N N1 := by
  obtain ⟨w, p, h1, h2, h3, h4, h5⟩ := h
  have ng := nxt_ge (t := t) h5
  have := rt_le h4
  exact ⟨_, m_skip h4 ht, ⟨w, nxt t L p, h1, h2, m11_12.trans h3, rt_11 h4 (by omega), ng.2⟩, fg_m11⟩
theorem zless {n v : Nat} (hn : n ≤ 7) (hv : v ≤ 999) (h : ¬ (Int32.ofNat n - (Int32.ofNat 1)) < Int32.ofNat v) : v < n := by
  by_cases e : n = 0
  · subst e
    exact absurd (Int32.lt_of_lt_of_le (show ((Int32.ofNat 0) - (Int32.ofNat 1) : Int32) < (Int32.ofNat 0) by decide) ((zle (by decide) (by omega)).mpr (Nat.zero_le v))) h
  · rw [zsub (by omega), zlt (by omega) (by omega)] at h
    omega
theorem k_debt {q n : Nat} {f : Nat → Int32} (ht : ∀ i, t i ≤ 255) (K : LK M N t L q) (Sh : SH M N f n) : BO M N t L f (jfX3_readDebt M) (jfX12_owesLine N) := by
  obtain ⟨H, e122, G⟩ := Sh
  have g3 := G.2.1
  have g7 := G.2.2.1
  have c14 : M 14 3 = Int32.ofNat n := (hv_3 H.1).trans g3
  have n14 : N 122 3 = Int32.ofNat n := by rw [e122]; exact g3
  rcases k_num (lo := 0) (hi := Int32.ofNat n - (Int32.ofNat 1)) ht K (by omega) with ⟨v, M1, N1, q1, a0, a1, a2, a3, a4, a5, a6, a7⟩ | ⟨x, M1, N1, a3, a4, a5, a6, a7⟩
  rotate_left
  · obtain ⟨y, N2, b1, b2, b3⟩ := k_here_x ht a5
    have hx := (LF_x b2).1
    refine Or.inr ⟨M1, N2, ?_, ?_, b2, (hw_fk H (by decide) a6).dk, a6.fc, (a7.trans b3).fz⟩
    · have a3' : jfX10_takesNumber 0 (Int32.ofNat n - 1) M = sy_ri (-(Int32.ofNat 1)) M1 := a3
      unfold jfX3_readDebt
      rw [c14, a3', sy_bi_ri, if_pos (show (-(Int32.ofNat 1) : Int32) = -1 from rfl)]
      rfl
    · have a4' : jfX12_figures 0 (Int32.ofNat n - 1) N = sy_ri x N1 := a4
      unfold jfX12_owesLine jfX12_owesLine_51
      rw [n14, a4', sy_bi_ri, b1, sy_bi_ri, m_figures_x hx, sy_bi_ri, if_neg (show ¬ N2 121 12 = -1 from hx), m_figures_x hx, sy_bi_ri, if_neg (show ¬ N2 121 12 = -1 from hx)]
  have vn := zless g7 a0 a2
  have vm : ∀ v : Nat, v ≤ 999 → Int32.ofNat v ≠ -(Int32.ofNat 1) := fun v hv z => znn v (by omega) (by rw [z]; decide)
  obtain ⟨N2, b1, b2, b3, b4⟩ := k_here ht a5
  have H1 := hw_fk H (by decide) a6
  have c14' : M1 14 3 = Int32.ofNat n := (hv_3 H1.1).trans g3
  have n14' : N2 122 3 = Int32.ofNat n := by rw [b3.1 122 (by decide), a7.1 122 (by decide)]; exact n14
  have a3' : jfX10_takesNumber 0 (Int32.ofNat n - 1) M = sy_ri (Int32.ofNat v) M1 := a3
  have a4' : jfX12_figures 0 (Int32.ofNat n - 1) N = sy_ri (Int32.ofNat v) N1 := a4
  have E2 := a7.trans b3
  rcases k_num (lo := 0) (hi := Int32.ofNat n - (Int32.ofNat 1)) ht b2 (by omega) with ⟨w, M3, N3, q3, c0, c1, c2, c3, c4, c5, c6, c7⟩ | ⟨x, M3, N3, c3, c4, c5, c6, c7⟩
  rotate_left
  · have hx := (LF_x c5).1
    refine Or.inr ⟨M3, N3, ?_, ?_, c5, (hw_fk H1 (by decide) c6).dk, a6.fc.trans c6.fc, (E2.trans c7).fz⟩
    · have c3' : jfX10_takesNumber 0 (Int32.ofNat n - 1) M1 = sy_ri (-(Int32.ofNat 1)) M3 := c3
      unfold jfX3_readDebt
      rw [c14, a3', sy_bi_ri, if_neg (show ¬ Int32.ofNat v = -1 from vm v a0)]
      simp only
      rw [c14', c3', sy_bi_ri, if_pos (show (-(Int32.ofNat 1) : Int32) = -1 from rfl)]
      rfl
    · have c4' : jfX12_figures 0 (Int32.ofNat n - 1) N2 = sy_ri x N3 := c4
      unfold jfX12_owesLine jfX12_owesLine_51
      rw [n14, a4', sy_bi_ri, b1, sy_bi_ri, n14', c4', sy_bi_ri, if_neg (show ¬ N3 121 12 = -1 from hx), m_figures_x hx, sy_bi_ri, if_neg (show ¬ N3 121 12 = -1 from hx)]
  have wn := zless g7 c0 c2
  have c3' : jfX10_takesNumber 0 (Int32.ofNat n - 1) M1 = sy_ri (Int32.ofNat w) M3 := c3
  have c4' : jfX12_figures 0 (Int32.ofNat n - 1) N2 = sy_ri (Int32.ofNat w) N3 := c4
  have H3 := hw_fk H1 (by decide) c6
  have f3 : N3 121 12 = -(Int32.ofNat 1) := c5.2.2.1
  by_cases hvw : w = v
  · have ct8 : ct (syc M3 1 (rs (M3 1) 6 (M1 1 6))) t L q1 := by
      have s5 := ct_sz a5.1 c5.1
      obtain ⟨i, sz, h1, h2, h3, h4, h5, h6, h7, h8⟩ := a5.1
      refine ⟨i, sz, h1, h2, ?_, ?_, h5, tkl_congr h6 ?_ ?_ ?_, h7, h8⟩
      · rw [syc_at, rs_ne _ _ (by decide), s5]; exact h3
      · rw [syc_at, rs_at]; exact h4
      · rw [syc_ne _ _ (by decide)]; exact c6.1 3 (by decide)
      · rw [syc_ne _ _ (by decide)]; exact c6.1 4 (by decide)
      · rw [syc_ne _ _ (by decide)]; exact c6.1 5 (by decide)
    obtain ⟨M9, e1, e2, e3⟩ := c_fails ct8
    have fk8 : fk M3 (syc M3 1 (rs (M3 1) 6 (M1 1 6))) := ⟨fun a ha => syc_ne _ _ ha, by rw [syc_at, rs_ne _ _ (by decide)]⟩
    obtain ⟨p, r1, r2, r3⟩ := c5.2.2.2
    have hqL := LK_q a5
    have hx : m12 N3 q1 121 12 ≠ -(Int32.ofNat 1) := by rw [m12_12]; exact fun z => znn q1 (by omega) (by rw [z]; decide)
    refine Or.inr ⟨M9, m12 N3 q1, ?_, ?_, ⟨q1, p, ct_le a5.1, e2, m12_12, rt_12 r1, r2⟩, (hw_fk (hw_fk H3 (by decide) fk8) (by decide) e3).dk, ((a6.fc.trans c6.fc).trans fk8.fc).trans e3.fc, ((E2.trans c7).trans fg_m12).fz⟩
    · unfold jfX3_readDebt
      rw [c14, a3', sy_bi_ri, if_neg (show ¬ Int32.ofNat v = -1 from vm v a0)]
      simp only
      rw [c14', c3', sy_bi_ri, if_neg (show ¬ Int32.ofNat w = -1 from vm w c0), if_pos (by rw [hvw]), sy_upd_st]
      unfold jfX3_readDebt_71
      rw [e1, sy_bi_ri]
      rfl
    · unfold jfX12_owesLine jfX12_owesLine_51
      rw [n14, a4', sy_bi_ri, b1, sy_bi_ri, n14', c4', sy_bi_ri, f3, if_pos (show (-(Int32.ofNat 1) : Int32) = -1 from rfl), if_pos (by rw [hvw]), m_wrong f3, sy_bv_rv, m_figures_x hx, sy_bi_ri, if_neg (show ¬ m12 N3 q1 121 12 = -1 from hx)]
  have nvw : ¬ Int32.ofNat w = Int32.ofNat v := fun z => hvw ((zeq (by omega) (by omega)).mp z)
  have cl : jfX3_readDebt M = sy_bi (jfX10_takesNumber 0 99 M3) fun v7 M6 => jfX3_readDebt_91 (Int32.ofNat v) (Int32.ofNat w) v7 M6 := by
    unfold jfX3_readDebt
    rw [c14, a3', sy_bi_ri, if_neg (show ¬ Int32.ofNat v = -1 from vm v a0)]
    simp only
    rw [c14', c3', sy_bi_ri, if_neg (show ¬ Int32.ofNat w = -1 from vm w c0), if_neg nvw]
  have rl : jfX12_owesLine N = jfX12_owesLine_51 (Int32.ofNat v) (Int32.ofNat w) N3 := by
    unfold jfX12_owesLine
    rw [n14, a4', sy_bi_ri, b1, sy_bi_ri, n14', c4', sy_bi_ri, f3, if_pos (show (-(Int32.ofNat 1) : Int32) = -1 from rfl), if_neg nvw]
  rw [cl, rl]
  have F3 := a6.fc.trans c6.fc
  have E3 := E2.trans c7
  rcases k_num (lo := 0) (hi := (Int32.ofNat 99)) ht c5 (by omega) with ⟨z, M5, N5, q5, d0, d1, d2, d3, d4, d5, d6, d7⟩ | ⟨x, M5, N5, d3, d4, d5, d6, d7⟩
  · have z99 : z ≤ 99 := by
      have := mt (zlt (a := 99) (b := z) (by omega) (by omega)).mpr d2
      omega
    have H5 := hw_fk H3 (by decide) d6
    obtain ⟨M6, e1, e2, e3⟩ := c_setOwed H5 (p := v) (o := w) (Int32.ofNat z) (by omega) (by omega)
    have e1n : N5 122 = f := by rw [d7.1 122 (by decide), E3.1 122 (by decide)]; exact e122
    refine Or.inl ⟨M6, syc N5 122 (rs f (77 + 7 * v + w) (Int32.ofNat z)), q5, rs f (77 + 7 * v + w) (Int32.ofNat z), n, ?_, ?_, LK_r (LK_c d5 e3) (fun i hi => ?_), ⟨e2, syc_at _ _ _, gr_owed G vn wn z99⟩, hl_rs (by omega) (by omega), (F3.trans d6.fc).trans (fh_fc e3), (E3.trans d7).fz.trans (fz_row fun i hi => ?_)⟩
    · have d3' : jfX10_takesNumber 0 99 M3 = sy_ri (Int32.ofNat z) M5 := d3
      rw [d3', sy_bi_ri]
      unfold jfX3_readDebt_91
      rw [e1, sy_bv_rv, if_neg (show ¬ Int32.ofNat z = -1 from vm z d0)]
      rfl
    · have d4' : jfX12_figures 0 99 N3 = sy_ri (Int32.ofNat z) N5 := d4
      unfold jfX12_owesLine_51
      rw [d4', sy_bi_ri, d5.2.2.1, if_pos (show (-(Int32.ofNat 1) : Int32) = -1 from rfl), show (77 : Int32) = (Int32.ofNat 77) from rfl, show (7 : Int32) = (Int32.ofNat 7) from rfl, zmul, zadd, zadd, zin (by omega) (by decide), sy_bx_t, zix (by omega), sy_upd_st, e1n]
    · rw [e1n]; exact rs_ne _ _ (by omega)
    · rw [e1n]; exact rs_ne _ _ (by omega)
  · have hx := (LF_x d5).1
    have H5 := hw_fk H3 (by decide) d6
    obtain ⟨M6, e1, e2, e3⟩ := c_setOwed H5 (p := v) (o := w) (-(Int32.ofNat 1)) (by omega) (by omega)
    refine Or.inr ⟨M6, N5, ?_, ?_, LF_c d5 e3, e2.dk, (F3.trans d6.fc).trans (fh_fc e3), (E3.trans d7).fz⟩
    · have d3' : jfX10_takesNumber 0 99 M3 = sy_ri (-(Int32.ofNat 1)) M5 := d3
      rw [d3', sy_bi_ri]
      unfold jfX3_readDebt_91
      rw [e1, sy_bv_rv, if_pos (show (-(Int32.ofNat 1) : Int32) = -1 from rfl)]
      rfl
    · have d4' : jfX12_figures 0 99 N3 = sy_ri x N5 := d4
      unfold jfX12_owesLine_51
      rw [d4', sy_bi_ri, if_neg (show ¬ N5 121 12 = -1 from hx)]
theorem BO_pre {M0 N0 : sy_M} {f : Nat → Int32} {x y : sy_O} (h : BO M N t L f x y) (a : fc M0 M) (b : fg N0 N) : BO M0 N0 t L f x y := by
  rcases h with ⟨M1, N1, q1, f1, n1, h1, h2, h3, h4, h5, h6, h7⟩ | ⟨M1, N1, h1, h2, h3, h4, h5, h6⟩
  · exact Or.inl ⟨M1, N1, q1, f1, n1, h1, h2, h3, h4, h5, a.trans h6, b.fz.trans h7⟩
  · exact Or.inr ⟨M1, N1, h1, h2, h3, h4, a.trans h5, b.fz.trans h6⟩
theorem BO_out {f : Nat → Int32} {x x1 y y1 : sy_O} (h : BO M N t L f x y) (e : ∀ v M1, v = (Int32.ofNat 0) ∨ v = (Int32.ofNat 1) → x = sy_ri v M1 → x1 = x) (e2 : ∀ N1, y = sy_rv N1 → y1 = y) : BO M N t L f x1 y1 := by
  rcases h with ⟨M1, N1, q1, f1, n1, h1, h2, h3⟩ | ⟨M1, N1, h1, h2, h3⟩
  · exact Or.inl ⟨M1, N1, q1, f1, n1, (e _ _ (Or.inr rfl) h1).trans h1, (e2 _ h2).trans h2, h3⟩
  · exact Or.inr ⟨M1, N1, (e _ _ (Or.inl rfl) h1).trans h1, (e2 _ h2).trans h2, h3⟩
theorem gr_fld {n i k : Nat} {f : Nat → Int32} (G : gr f n) (hi : i = 4 ∨ i = 5 ∨ i = 6 ∨ i = 9) (hk : k ≤ tbl i) : gr (rs f i (Int32.ofNat k)) n :=
  gr_rs G hk (by omega) (by omega) (by omega) (fun q hq => ⟨by omega, by omega⟩) (fun q h1 h2 => ⟨by omega, by omega, by omega, fun o ho => ⟨by omega, by omega⟩⟩)
theorem k_line {q n : Nat} {f : Nat → Int32} (ht : ∀ i, t i ≤ 255) (K : LK M N t L q) (Sh : SH M N f n) : BO M N t L f (jfX3_readLine M) (jfX12_houseLine N) := by
  have hb := (thg_end (t := t) ht (LK_q K).1).2
  have n1 : ¬ (Int32.ofNat 1) = (0 : Int32) := by decide
  have n0 : (Int32.ofNat 0) = (0 : Int32) := rfl
  obtain ⟨N0, z1, z2, z3, z4⟩ := k_here ht K
  have S0 : SH M N0 f n := ⟨Sh.1, (z3.1 122 (by decide)).trans Sh.2.1, Sh.2.2⟩
  unfold jfX3_readLine jfX12_houseLine
  rw [c_thing K.1, sy_bi_ri, z1, sy_bi_ri]
  by_cases hc : thg t L q = 260
  · obtain ⟨N1, a1, a2⟩ := k_lodger ht z2 hc S0
    rw [hc, if_pos (show Int32.ofNat 260 = 260 from rfl), a1, sy_bi_ri, if_neg n1]
    refine BO_out (BO_pre a2 fc_rfl z3) ?_ ?_
    · intro v M1 hv he
      rw [he, sy_bi_ri]
      rcases hv with e | e <;> rw [e] <;> rfl
    · intro N2 he
      rw [he, sy_bv_rv]
  rw [if_neg (show ¬ Int32.ofNat (thg t L q) = 260 from fun z => hc ((zeq (b := 260) (by omega) (by decide)).mp z))]
  rcases k_has (i := 0) ht z2 (by decide) w_lodger with ⟨M1, N1, q1, a1, _⟩ | ⟨N1, a1, a2, a3, a4, a5, a6⟩
  · exact absurd a1 hc
  rw [a3, sy_bi_ri, if_pos n0]
  have E1 := z3.trans a5
  have S1 : SH M N1 f n := ⟨Sh.1, (E1.1 122 (by decide)).trans Sh.2.1, Sh.2.2⟩
  rcases k_has (i := 7) ht a4 (by decide) w_owes with ⟨M2, N2, q2, b1, b2, b3, b4, b5, b6⟩ | ⟨N2, b1, b2, b3, b4, b5, b6⟩
  · have b2' : jfX10_takes 267 M = sy_ri (Int32.ofNat 1) M2 := b2
    rw [b2', sy_bi_ri, if_neg n1, b3, sy_bi_ri, if_neg n1]
    have E2 := E1.trans b6
    have S2 : SH M2 N2 f n := ⟨hw_fk Sh.1 (by decide) b5, (E2.1 122 (by decide)).trans Sh.2.1, Sh.2.2⟩
    refine BO_out (BO_pre (k_debt ht b4 S2) b5.fc E2) ?_ ?_
    · intro v M1 hv he
      rw [he, sy_bi_ri]
      rcases hv with e | e <;> rw [e] <;> rfl
    · intro N2 he
      rw [he, sy_bv_rv]
  have b2' : jfX10_takes 267 M = sy_ri (Int32.ofNat 0) M := b2
  rw [b2', sy_bi_ri, if_pos n0, b3, sy_bi_ri, if_pos n0]
  have E2 := E1.trans b5
  rcases k_has (i := 8) ht b4 (by decide) w_gas with ⟨M3, N3, q3, c1, c2, c3, c4, c5, c6⟩ | ⟨N3, c1, c2, c3, c4, c5, c6⟩
  · have c2' : jfX10_takes 268 M = sy_ri (Int32.ofNat 1) M3 := c2
    rw [c2', sy_bi_ri, if_neg n1, c3, sy_bi_ri, if_neg n1]
    have E3 := E2.trans c6
    have S3 : SH M3 N3 f n := ⟨hw_fk Sh.1 (by decide) c5, (E3.1 122 (by decide)).trans Sh.2.1, Sh.2.2⟩
    refine BO_out (BO_pre (k_tell (fld := 7) (row := 6) (lo := 0) (hi := 999) ht c4 S3 (by decide) (by decide) rfl (by decide) (by decide) (fun v _ hv => gr_fld Sh.2.2 (by omega) (by show v ≤ 9999; omega))) c5.fc E3) (fun _ _ _ _ => rfl) ?_
    intro N2 he
    have he' : jfX12_tells 6 0 999 N3 = sy_rv N2 := he
    rw [he', he, sy_bv_rv]
  have c2' : jfX10_takes 268 M = sy_ri (Int32.ofNat 0) M := c2
  rw [c2', sy_bi_ri, if_pos n0, c3, sy_bi_ri, if_pos n0]
  have E3 := E2.trans c5
  rcases k_has (i := 9) ht c4 (by decide) w_price with ⟨M4, N4, q4, d1, d2, d3, d4, d5, d6⟩ | ⟨N4, d1, d2, d3, d4, d5, d6⟩
  · have d2' : jfX10_takes 269 M = sy_ri (Int32.ofNat 1) M4 := d2
    rw [d2', sy_bi_ri, if_neg n1, d3, sy_bi_ri, if_neg n1]
    have E4 := E3.trans d6
    have S4 : SH M4 N4 f n := ⟨hw_fk Sh.1 (by decide) d5, (E4.1 122 (by decide)).trans Sh.2.1, Sh.2.2⟩
    refine BO_out (BO_pre (k_tell (fld := 8) (row := 7) (lo := 1) (hi := 99) ht d4 S4 (by decide) (by decide) rfl (by decide) (by decide) (fun v h1 hv => gr_price Sh.2.2 h1 hv)) d5.fc E4) (fun _ _ _ _ => rfl) ?_
    intro N2 he
    have he' : jfX12_tells 7 1 99 N4 = sy_rv N2 := he
    rw [he', he, sy_bv_rv]
  have d2' : jfX10_takes 269 M = sy_ri (Int32.ofNat 0) M := d2
  rw [d2', sy_bi_ri, if_pos n0, d3, sy_bi_ri, if_pos n0]
  have E4 := E3.trans d5
  rcases k_has (i := 10) ht d4 (by decide) w_frost with ⟨M5, N5, q5, e1, e2, e3, e4, e5, e6⟩ | ⟨N5, e1, e2, e3, e4, e5, e6⟩
  · have e2' : jfX10_takes 270 M = sy_ri (Int32.ofNat 1) M5 := e2
    rw [e2', sy_bi_ri, if_neg n1, e3, sy_bi_ri, if_neg n1]
    have E5 := E4.trans e6
    have S5 : SH M5 N5 f n := ⟨hw_fk Sh.1 (by decide) e5, (E5.1 122 (by decide)).trans Sh.2.1, Sh.2.2⟩
    refine BO_out (BO_pre (k_tell (fld := 10) (row := 9) (lo := 0) (hi := 100) ht e4 S5 (by decide) (by decide) rfl (by decide) (by decide) (fun v _ hv => gr_fld Sh.2.2 (by omega) (by show v ≤ 100; omega))) e5.fc E5) (fun _ _ _ _ => rfl) ?_
    intro N2 he
    have he' : jfX12_tells 9 0 100 N5 = sy_rv N2 := he
    rw [he', he, sy_bv_rv]
  have e2' : jfX10_takes 270 M = sy_ri (Int32.ofNat 0) M := e2
  rw [e2', sy_bi_ri, if_pos n0, e3, sy_bi_ri, if_pos n0]
  have E5 := E4.trans e5
  rcases k_has (i := 11) ht e4 (by decide) w_tick with ⟨M6, N6, q6, g1, g2, g3, g4, g5, g6⟩ | ⟨N6, g1, g2, g3, g4, g5, g6⟩
  · have g2' : jfX10_takes 271 M = sy_ri (Int32.ofNat 1) M6 := g2
    rw [g2', sy_bi_ri, if_neg n1, g3, sy_bi_ri, if_neg n1]
    have E6 := E5.trans g6
    have S6 : SH M6 N6 f n := ⟨hw_fk Sh.1 (by decide) g5, (E6.1 122 (by decide)).trans Sh.2.1, Sh.2.2⟩
    refine BO_out (BO_pre (k_tell (fld := 5) (row := 4) (lo := 0) (hi := 47) ht g4 S6 (by decide) (by decide) rfl (by decide) (by decide) (fun v _ hv => gr_fld Sh.2.2 (by omega) (by show v ≤ 47; omega))) g5.fc E6) (fun _ _ _ _ => rfl) ?_
    intro N2 he
    have he' : jfX12_tells 4 0 47 N6 = sy_rv N2 := he
    rw [he', he, sy_bv_rv]
  have g2' : jfX10_takes 271 M = sy_ri (Int32.ofNat 0) M := g2
  rw [g2', sy_bi_ri, if_pos n0, g3, sy_bi_ri, if_pos n0]
  have E6 := E5.trans g5
  rcases k_has (i := 12) ht g4 (by decide) w_night with ⟨M7, N7, q7, i1, i2, i3, i4, i5, i6⟩ | ⟨N7, i1, i2, i3, i4, i5, i6⟩
  · have i2' : jfX10_takes 272 M = sy_ri (Int32.ofNat 1) M7 := i2
    rw [i2', sy_bi_ri, if_neg n1, i3, sy_bi_ri, if_neg n1]
    have E7 := E6.trans i6
    have S7 : SH M7 N7 f n := ⟨hw_fk Sh.1 (by decide) i5, (E7.1 122 (by decide)).trans Sh.2.1, Sh.2.2⟩
    refine BO_out (BO_pre (k_tell (fld := 6) (row := 5) (lo := 0) (hi := 999) ht i4 S7 (by decide) (by decide) rfl (by decide) (by decide) (fun v _ hv => gr_fld Sh.2.2 (by omega) (by show v ≤ 9999; omega))) i5.fc E7) (fun _ _ _ _ => rfl) ?_
    intro N2 he
    have he' : jfX12_tells 5 0 999 N7 = sy_rv N2 := he
    rw [he', he, sy_bv_rv]
    rfl
  have i2' : jfX10_takes 272 M = sy_ri (Int32.ofNat 0) M := i2
  rw [i2', sy_bi_ri, if_pos n0, i3, sy_bi_ri, if_pos n0]
  have E7 := E6.trans i5
  obtain ⟨M8, j1, j2, j3, j4, j5⟩ := k_fail i4 i6
  refine Or.inr ⟨M8, m12 N7 q, ?_, ?_, j3, (hw_fk Sh.1 (by decide) j4).dk, j4.fc, (E7.trans j5).fz⟩
  · rw [j1, sy_bi_ri]
    unfold jfX3_readLine_211
    rw [if_neg (show ¬ M8 1 7 = -1 from (LF_x j3).2)]
    rfl
  · rw [j2, sy_bv_rv]
end
