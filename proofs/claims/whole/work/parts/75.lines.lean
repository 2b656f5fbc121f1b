/-! ===== lines of a house ===== -/
section
variable {M N : sy_M} {t : Nat → Nat} {L : Nat}
/-- the class wrote its place and the staged house -/
def fc (M M1 : sy_M) : Prop := (∀ a, a ≠ 1 → (a < 14 ∨ 18 < a) → M1 a = M a) ∧ M1 1 4 = M 1 4
theorem fc.trans {M M1 M2 : sy_M} (a : fc M M1) (b : fc M1 M2) : fc M M2 := ⟨fun c h h2 => (b.1 c h h2).trans (a.1 c h h2), b.2.trans a.2⟩
theorem fc_rfl {M : sy_M} : fc M M := ⟨fun _ _ _ => rfl, rfl⟩
theorem fk.fc {M M1 : sy_M} (h : fk M M1) : fc M M1 := ⟨fun a h1 _ => h.1 a h1, h.2⟩
theorem fh_fc {M M1 : sy_M} (h : fh 14 M M1) : fc M M1 := ⟨fun a _ h2 => h a (by omega), by rw [h 1 (by omega)]⟩
theorem ct_congr {M1 : sy_M} {q : Nat} (h : ct M t L q) (e : ∀ a, a = 1 ∨ a = 3 ∨ a = 4 ∨ a = 5 → M1 a = M a) : ct M1 t L q := by
  obtain ⟨i, sz, h1, h2, h3, h4, h5, h6, h7, h8⟩ := h
  refine ⟨i, sz, h1, h2, ?_, ?_, h5, tkl_congr h6 (e 3 (by omega)) (e 4 (by omega)) (e 5 (by omega)), h7, h8⟩
  · rw [e 1 (by omega)]; exact h3
  · rw [e 1 (by omega)]; exact h4
theorem LK_c {M1 : sy_M} {q : Nat} (h : LK M N t L q) (e : fh 14 M M1) : LK M1 N t L q := by
  obtain ⟨k1, k2, k3⟩ := h
  exact ⟨ct_congr k1 (fun a ha => e a (by omega)), by rw [e 1 (by omega)]; exact k2, k3⟩
theorem LF_c {M1 : sy_M} (h : LF M N t L) (e : fh 14 M M1) : LF M1 N t L := by
  obtain ⟨w, p, h1, h2, h3⟩ := h
  exact ⟨w, p, h1, by rw [e 1 (by omega)]; exact h2, h3⟩
theorem rt_row {p : Nat} {g : Nat → Int32} (h : rt N t L p) (e : ∀ i, 426 ≤ i → g i = N 122 i) : rt (syc N 122 g) t L p := by
  obtain ⟨a, b, c, d, h5⟩ := h
  refine ⟨by rw [syc_ne _ _ (by decide)]; exact a, by rw [syc_ne _ _ (by decide)]; exact b, c, d, ?_⟩
  rcases h5 with ⟨e1, e2⟩ | ⟨e1, e2⟩
  · exact Or.inl ⟨by rw [syc_ne _ _ (by decide)]; exact e1, fun i hi => by rw [syc_ne _ _ (by decide)]; exact e2 i hi⟩
  · exact Or.inr ⟨by rw [syc_ne _ _ (by decide)]; exact e1, fun i hi => by rw [syc_at, e _ (by omega)]; exact e2 i hi⟩
theorem LK_r {g : Nat → Int32} {q : Nat} (h : LK M N t L q) (e : ∀ i, 426 ≤ i → g i = N 122 i) : LK M (syc N 122 g) t L q := by
  obtain ⟨k1, k2, k3, p, k4, k5⟩ := h
  exact ⟨k1, k2, by rw [syc_ne _ _ (by decide)]; exact k3, p, rt_row k4 e, k5⟩
theorem hw_fk {M1 : sy_M} {f : Nat → Int32} {h : Nat} (H : hw M h f) (h1 : 1 < h) (e : fk M M1) : hw M1 h f := hw_congr H (fun a h1 h2 => e.1 a (by omega))
theorem m_behind_x {r : Nat} {a b : Int32} (h : N 121 12 ≠ -(Int32.ofNat 1)) : jfX12_behind r a b N = sy_ri (Int32.ofNat 0) N := by
  unfold jfX12_behind jfX12_behind_24
  rw [if_neg (show ¬ N 121 12 = -1 from h), m_figures_x h, sy_bi_ri]
theorem m_maybe_x {r : Nat} {a b c : Int32} (h : N 121 12 ≠ -(Int32.ofNat 1)) : jfX12_maybe r a b c N = sy_ri c N := by
  unfold jfX12_maybe
  rw [if_neg (show ¬ N 121 12 = -1 from h)]
theorem LK_q {q : Nat} (h : LK M N t L q) : q ≤ L ∧ L ≤ 400 := by
  obtain ⟨k1, k2, k3, p, k4, k5⟩ := h
  exact ⟨ct_le k1, rt_le k4⟩
/-- both say that what stands here is wrong -/
theorem k_fail {q : Nat} (K : LK M N t L q) (h11 : N 121 11 = Int32.ofNat q) : ∃ M1, jfX10_fails M = sy_ri (Int32.ofNat 0) M1 ∧ jfX12_wrong (N 121 11) N = sy_rv (m12 N q) ∧ LF M1 (m12 N q) t L ∧ fk M M1 ∧ fg N (m12 N q) := by
  obtain ⟨k1, k2, k3, p, k4, k5, k6⟩ := K
  obtain ⟨M1, e1, e2, e3⟩ := c_fails k1
  refine ⟨M1, e1, by rw [h11]; exact m_wrong k3, ⟨q, p, ct_le k1, e2, m12_12, rt_12 k4, k5⟩, e3, fg_m12⟩
/-- a fact of the last lodger, behind its word -/
theorem k_fact {q i r w lo hi n : Nat} {g : Nat → Int32} (ht : ∀ i, t i ≤ 255) (K : LK M N t L q) (hi25 : i < 25) (hr : srw r (wds.getD i [])) (H : hw M 14 g) (hn : g 3 = Int32.ofNat (n + 1)) (h7 : n < 7) (hw9 : w < 9) (hlo : lo < 1000) (hhi : hi < 1000) : (∃ v M1 N1 q1, lo ≤ v ∧ v ≤ hi ∧ thg t L q = 260 + i ∧ jfX3_readFact (Int32.ofNat (260 + i)) (Int32.ofNat w) (Int32.ofNat lo) (Int32.ofNat hi) M = sy_ri (Int32.ofNat 1) M1 ∧ jfX12_behind r (Int32.ofNat lo) (Int32.ofNat hi) N = sy_ri (Int32.ofNat v) N1 ∧ (∀ d, jfX12_maybe r (Int32.ofNat lo) (Int32.ofNat hi) d N = sy_ri (Int32.ofNat v) N1) ∧ LK M1 N1 t L q1 ∧ hw M1 14 (rs g (14 + 9 * n + w) (Int32.ofNat v)) ∧ fc M M1 ∧ fg N N1) ∨ (∃ x M1 N1, jfX3_readFact (Int32.ofNat (260 + i)) (Int32.ofNat w) (Int32.ofNat lo) (Int32.ofNat hi) M = sy_ri (Int32.ofNat 0) M1 ∧ jfX12_behind r (Int32.ofNat lo) (Int32.ofNat hi) N = sy_ri x N1 ∧ (∀ d, thg t L q = 260 + i → jfX12_maybe r (Int32.ofNat lo) (Int32.ofNat hi) d N = sy_ri x N1) ∧ LF M1 N1 t L ∧ dk M1 14 ∧ fc M M1 ∧ fg N N1) := by
  have k3 := K.2.2.1
  have es : Int32.ofNat (n + 1) - (Int32.ofNat 1) = Int32.ofNat n := by rw [zsub (by omega)]; rfl
  rcases k_has ht K hi25 hr with ⟨M1, N1, q1, a1, a2, a3, a4, a5, a6⟩ | ⟨N1, a1, a2, a3, a4, a5, a6⟩
  · have b3 := a4.2.2.1
    have H1 := hw_fk H (by decide) a5
    rcases k_num (lo := lo) (hi := Int32.ofNat hi) ht a4 (by omega) with ⟨v, M2, N2, q2, b0, b1, b2, c1, c2, c3, c4, c5⟩ | ⟨x, M2, N2, c1, c2, c3, c4, c5⟩
    · have vh : v ≤ hi := by
        have := mt (zlt (a := hi) (b := v) (by omega) (by omega)).mpr b2
        omega
      have H2 := hw_fk H1 (by decide) c4
      obtain ⟨M3, d1, d2, d3⟩ := c_setw H2 (p := n) (w := w) (Int32.ofNat v) h7 hw9
      refine Or.inl ⟨v, M3, N2, q2, b1, vh, a1, ?_, ?_, fun d => ?_, LK_c c3 d3, d2, (a5.fc.trans c4.fc).trans (fh_fc d3), a6.trans c5⟩
      · have nm : Int32.ofNat v ≠ -(Int32.ofNat 1) := fun z => znn v (by omega) (by rw [z]; decide)
        unfold jfX3_readFact
        rw [a2, sy_bi_ri, if_neg (show ¬ (Int32.ofNat 1) = (0 : Int32) by decide), c1, sy_bi_ri, hv_3 H2.1, hn, show (1 : Int32) = (Int32.ofNat 1) from rfl, es, d1, sy_bv_rv, if_neg nm]
      · unfold jfX12_behind jfX12_behind_24
        rw [k3, if_pos (show (-(Int32.ofNat 1) : Int32) = -1 from rfl), a3, sy_bi_ri, if_neg (show ¬ (Int32.ofNat 1) = (0 : Int32) by decide), c2, sy_bi_ri]
      · unfold jfX12_maybe
        rw [k3, if_pos (show (-(Int32.ofNat 1) : Int32) = -1 from rfl), a3, sy_bi_ri, if_neg (show ¬ (Int32.ofNat 1) = (0 : Int32) by decide), c2, sy_bi_ri]
    · have H2 := hw_fk H1 (by decide) c4
      obtain ⟨M3, d1, d2, d3⟩ := c_setw H2 (p := n) (w := w) (-(Int32.ofNat 1)) h7 hw9
      refine Or.inr ⟨x, M3, N2, ?_, ?_, fun d _ => ?_, LF_c c3 d3, d2.dk, (a5.fc.trans c4.fc).trans (fh_fc d3), a6.trans c5⟩
      · unfold jfX3_readFact
        rw [a2, sy_bi_ri, if_neg (show ¬ (Int32.ofNat 1) = (0 : Int32) by decide), c1, sy_bi_ri, hv_3 H2.1, hn, show (1 : Int32) = (Int32.ofNat 1) from rfl, es, d1, sy_bv_rv, if_pos (show -(Int32.ofNat 1) = (-(Int32.ofNat 1) : Int32) from rfl)]
        rfl
      · unfold jfX12_behind jfX12_behind_24
        rw [k3, if_pos (show (-(Int32.ofNat 1) : Int32) = -1 from rfl), a3, sy_bi_ri, if_neg (show ¬ (Int32.ofNat 1) = (0 : Int32) by decide), c2, sy_bi_ri]
      · unfold jfX12_maybe
        rw [k3, if_pos (show (-(Int32.ofNat 1) : Int32) = -1 from rfl), a3, sy_bi_ri, if_neg (show ¬ (Int32.ofNat 1) = (0 : Int32) by decide), c2, sy_bi_ri]
  · obtain ⟨M2, e1, e2, e3, e4, e5⟩ := k_fail a4 a6
    refine Or.inr ⟨(Int32.ofNat 0), M2, m12 N1 q, ?_, ?_, fun d hd => absurd hd a1, e3, (hw_fk H (by decide) e4).dk, e4.fc, a5.trans e5⟩
    · unfold jfX3_readFact
      rw [a2, sy_bi_ri, if_pos (show (Int32.ofNat 0) = (0 : Int32) from rfl), e1, sy_bi_ri]
      rfl
    · unfold jfX12_behind jfX12_behind_24
      rw [k3, if_pos (show (-(Int32.ofNat 1) : Int32) = -1 from rfl), a3, sy_bi_ri, if_pos (show (Int32.ofNat 0) = (0 : Int32) from rfl), e2, sy_bv_rv, m_figures_x (LF_x e3).1, sy_bi_ri]
/-- the words of the reference -/
theorem w_lodger : srw 1500008 (wds.getD 0 []) := by unfold srw; decide +kernel
theorem w_burns : srw 1500009 (wds.getD 1 []) := by unfold srw; decide +kernel
theorem w_home : srw 1500017 (wds.getD 2 []) := by unfold srw; decide +kernel
theorem w_to : srw 1500018 (wds.getD 3 []) := by unfold srw; decide +kernel
theorem w_coins : srw 1500010 (wds.getD 4 []) := by unfold srw; decide +kernel
theorem w_bears : srw 1500019 (wds.getD 5 []) := by unfold srw; decide +kernel
theorem w_waits : srw 1500020 (wds.getD 6 []) := by unfold srw; decide +kernel
theorem w_owes : srw 1500021 (wds.getD 7 []) := by unfold srw; decide +kernel
theorem w_gas : srw 1500022 (wds.getD 8 []) := by unfold srw; decide +kernel
theorem w_price : srw 1500023 (wds.getD 9 []) := by unfold srw; decide +kernel
theorem w_frost : srw 1500024 (wds.getD 10 []) := by unfold srw; decide +kernel
theorem w_tick : srw 1500014 (wds.getD 11 []) := by unfold srw; decide +kernel
theorem w_night : srw 1500025 (wds.getD 12 []) := by unfold srw; decide +kernel
theorem w_turn : srw 1500001 (wds.getD 13 []) := by unfold srw; decide +kernel
theorem w_spare : srw 1500002 (wds.getD 14 []) := by unfold srw; decide +kernel
theorem w_refuse : srw 1500003 (wds.getD 15 []) := by unfold srw; decide +kernel
theorem w_if : srw 1500004 (wds.getD 16 []) := by unfold srw; decide +kernel
theorem w_or : srw 1500016 (wds.getD 17 []) := by unfold srw; decide +kernel
theorem w_and : srw 1500015 (wds.getD 18 []) := by unfold srw; decide +kernel
theorem w_not : srw 1500005 (wds.getD 19 []) := by unfold srw; decide +kernel
theorem w_last : srw 1500006 (wds.getD 20 []) := by unfold srw; decide +kernel
theorem w_cold : srw 1500007 (wds.getD 21 []) := by unfold srw; decide +kernel
theorem w_fed : srw 1500011 (wds.getD 22 []) := by unfold srw; decide +kernel
theorem w_chill : srw 1500012 (wds.getD 23 []) := by unfold srw; decide +kernel
theorem w_dark : srw 1500013 (wds.getD 24 []) := by unfold srw; decide +kernel
/-- a lodger more -/
def rnew (f : Nat → Int32) (n v0 v1 v2 v3 v4 v5 : Nat) : Nat → Int32 := rs (rs (rs (rs (rs (rs (rs f 3 (Int32.ofNat (n + 1))) (14 + 9 * n + 0) (Int32.ofNat v0)) (14 + 9 * n + 1) (Int32.ofNat v1)) (14 + 9 * n + 2) (Int32.ofNat v2)) (14 + 9 * n + 5) (Int32.ofNat v5)) (14 + 9 * n + 3) (Int32.ofNat v3)) (14 + 9 * n + 4) (Int32.ofNat v4)
theorem gr_nl {f : Nat → Int32} {n v0 v1 v2 v3 v4 v5 : Nat} (G : gr f n) (h7 : n < 7) (h0 : 1 ≤ v0) (k0 : v0 ≤ 9) (k1 : v1 ≤ 47) (k2 : v2 ≤ 47) (k3 : v3 ≤ 20) (k4 : v4 ≤ 20) (k5 : v5 ≤ 99) : gr (rnew f n v0 v1 v2 v3 v4 v5) (n + 1) := by
  obtain ⟨g1, g2, g3, g4, g5, g6⟩ := G
  have u := fun w (hw : w < 9) => tbl_u (p := n) (w := w) h7 hw
  have at0 : ∀ i, i ≠ 3 → (∀ w, w < 6 → i ≠ 14 + 9 * n + w) → rnew f n v0 v1 v2 v3 v4 v5 i = f i := by
    intro i h3 h
    have := h 0 (by omega); have := h 1 (by omega); have := h 2 (by omega); have := h 3 (by omega); have := h 4 (by omega); have := h 5 (by omega)
    unfold rnew
    simp (disch := omega) only [rs_ne]
  have a0 : rnew f n v0 v1 v2 v3 v4 v5 (14 + 9 * n) = Int32.ofNat v0 := by
    unfold rnew
    simp (disch := omega) only [rs_ne, Nat.add_zero, rs_at]
  refine ⟨?_, ?_, by omega, ?_, ?_, ?_, ?_⟩
  · unfold rnew
    refine rb_set (rb_set (rb_set (rb_set (rb_set (rb_set (rb_set g1 (by show n + 1 ≤ 7; omega)) ?_) ?_) ?_) ?_) ?_) ?_
    · rw [u 0 (by decide)]; exact k0
    · rw [u 1 (by decide)]; exact k1
    · rw [u 2 (by decide)]; exact k2
    · rw [u 5 (by decide)]; show v5 ≤ 999; omega
    · rw [u 3 (by decide)]; exact k3
    · rw [u 4 (by decide)]; exact k4
  · unfold rnew
    simp (disch := omega) only [rs_ne, rs_at]
  · intro h p hp
    rw [at0 8 (by omega) (fun w hw => by omega)] at h
    rw [at0 _ (by omega) (fun w hw => by omega)]
    by_cases e : p = n
    · rw [e]; exact (g5 n (Nat.le_refl _) h7).1
    · exact g4 h p (by omega)
  · intro p hp hp7
    obtain ⟨e1, e2, e3, e4⟩ := g5 p (by omega) hp7
    refine ⟨?_, ?_, ?_, fun o ho => ⟨?_, ?_⟩⟩
    · rw [at0 _ (by omega) (fun w hw => by omega)]; exact e1
    · rw [at0 _ (by omega) (fun w hw => by omega)]; exact e2
    · rw [at0 _ (by omega) (fun w hw => by omega)]; exact e3
    · rw [at0 _ (by omega) (fun w hw => by omega)]; exact (e4 o ho).1
    · rw [at0 _ (by omega) (fun w hw => by omega)]; exact (e4 o ho).2
  · rw [at0 7 (by omega) (fun w hw => by omega)]; exact g6.1
  · intro p hp
    by_cases e : p = n
    · rw [e, a0]
      intro z
      have := (zeq (b := 0) (by omega) (by decide)).mp z
      omega
    · rw [at0 _ (by omega) (fun w hw => by omega)]; exact g6.2 p (by omega)
theorem m_new {n v0 v1 v2 v3 v4 v5 : Nat} (hf : N 121 12 = -(Int32.ofNat 1)) (G : gr (N 122) n) (h7 : n < 7) : jfX12_lodgerLine_82 (Int32.ofNat v0) (Int32.ofNat v1) (Int32.ofNat v2) (Int32.ofNat v5) (Int32.ofNat v3) (Int32.ofNat v4) N = sy_rv (syc N 122 (rnew (N 122) n v0 v1 v2 v3 v4 v5)) := by
  obtain ⟨g1, g2, g3, g4, g5, g6⟩ := G
  obtain ⟨z1, z2, z3, z4⟩ := g5 n (Nat.le_refl _) h7
  generalize hg : rs (rs (rs (rs (rs (rs (N 122) (14 + 9 * n + 0) (Int32.ofNat v0)) (14 + 9 * n + 1) (Int32.ofNat v1)) (14 + 9 * n + 2) (Int32.ofNat v2)) (14 + 9 * n + 3) (Int32.ofNat v3)) (14 + 9 * n + 4) (Int32.ofNat v4)) (14 + 9 * n + 5) (Int32.ofNat v5) = g
  have g_at : ∀ i, (∀ w, w < 6 → i ≠ 14 + 9 * n + w) → g i = N 122 i := by
    intro i h
    have := h 0 (by omega); have := h 1 (by omega); have := h 2 (by omega); have := h 3 (by omega); have := h 4 (by omega); have := h 5 (by omega)
    rw [← hg]
    simp (disch := omega) only [rs_ne]
  have s6 : rs g (14 + 9 * n + 6) (Int32.ofNat 0) = g := by
    have : g (14 + 9 * n + 6) = (Int32.ofNat 0) := (g_at _ (fun w hw => by omega)).trans z1
    rw [← this, rs_self]
  have s7 : rs g (14 + 9 * n + 7) (Int32.ofNat 0) = g := by
    have : g (14 + 9 * n + 7) = (Int32.ofNat 0) := (g_at _ (fun w hw => by omega)).trans z2
    rw [← this, rs_self]
  have s8 : rs g (14 + 9 * n + 8) (Int32.ofNat 0) = g := by
    have : g (14 + 9 * n + 8) = (Int32.ofNat 0) := (g_at _ (fun w hw => by omega)).trans z3
    rw [← this, rs_self]
  have loop : jfX12_lodgerLine_181 sy_F (Int32.ofNat n) (Int32.ofNat 0) (syc N 122 g) = sy_rv (syc N 122 (rs g 3 (Int32.ofNat (n + 1)))) := by
    refine sy_forR (n := 7) (F := sy_F) (R := fun c => c = sy_rv (syc N 122 (rs g 3 (Int32.ofNat (n + 1))))) (fun k i (_ : Unit) => jfX12_lodgerLine_181 k (Int32.ofNat n) (Int32.ofNat i) (syc N 122 g)) (fun _ _ => True) ?_ ?_ () trivial (by rw [sy_F_eq]; omega)
    · intro k i _ hi _
      refine Or.inl ⟨(), ?_, trivial⟩
      show jgX12_lodgerLine_181 (jfX12_lodgerLine_181 k) (Int32.ofNat n) (Int32.ofNat i) (syc N 122 g) = _
      have d1 : rs g (77 + 7 * n + i) (Int32.ofNat 0) = g := by
        have : g (77 + 7 * n + i) = (Int32.ofNat 0) := (g_at _ (fun w hw => by omega)).trans (z4 i hi).1
        rw [← this, rs_self]
      have d2 : rs g (77 + 7 * i + n) (Int32.ofNat 0) = g := by
        have : g (77 + 7 * i + n) = (Int32.ofNat 0) := (g_at _ (fun w hw => by omega)).trans (z4 i hi).2
        rw [← this, rs_self]
      simp (disch := omega) only [zL, zlt, zle, zeq, zadd, zmul, zin, zix, zsh1, Nat.add_zero, Nat.zero_add, Nat.mul_zero, if_true, if_false, if_pos, if_neg, sy_bi_ri, sy_bi_rt, sy_bv_rv, sy_bv_rt, sy_br_rr, sy_br_rn, sy_hi_ri, sy_hi_rt, sy_bs_t, sy_bx_t, sy_bb_t, bz_bo, ite_bz0, ite_bz1, jgX12_lodgerLine_181, sy_upd_st, syc_at, syc_st, d1, d2]
    · intro k _ _
      show jgX12_lodgerLine_181 (jfX12_lodgerLine_181 k) (Int32.ofNat n) (Int32.ofNat 7) (syc N 122 g) = _
      have g3' : g 3 = Int32.ofNat n := (g_at 3 (fun w hw => by omega)).trans g2
      simp (disch := omega) only [zL, zlt, zle, zeq, zadd, zmul, zin, zix, zsh1, Nat.add_zero, Nat.zero_add, Nat.mul_zero, if_true, if_false, if_pos, if_neg, sy_bi_ri, sy_bi_rt, sy_bv_rv, sy_bv_rt, sy_br_rr, sy_br_rn, sy_hi_ri, sy_hi_rt, sy_bs_t, sy_bx_t, sy_bb_t, bz_bo, ite_bz0, ite_bz1, jgX12_lodgerLine_181, sy_upd_st, syc_at, syc_st, g3']
  have e : rs g 3 (Int32.ofNat (n + 1)) = rnew (N 122) n v0 v1 v2 v3 v4 v5 := by
    rw [← hg]
    unfold rnew
    funext i
    by_cases h3 : i = 3
    · subst h3; simp (disch := omega) only [rs_ne, rs_at]
    by_cases h0 : i = 14 + 9 * n + 0
    · subst h0; simp (disch := omega) only [rs_ne, rs_at]
    by_cases h1 : i = 14 + 9 * n + 1
    · subst h1; simp (disch := omega) only [rs_ne, rs_at]
    by_cases h2 : i = 14 + 9 * n + 2
    · subst h2; simp (disch := omega) only [rs_ne, rs_at]
    by_cases h4 : i = 14 + 9 * n + 3
    · subst h4; simp (disch := omega) only [rs_ne, rs_at]
    by_cases h5 : i = 14 + 9 * n + 4
    · subst h5; simp (disch := omega) only [rs_ne, rs_at]
    by_cases h6 : i = 14 + 9 * n + 5
    · subst h6; simp (disch := omega) only [rs_ne, rs_at]
    simp (disch := omega) only [rs_ne]
  rw [← e, ← loop]
  have e1 := @m_lays
  unfold jfX12_lodgerLine_82 jfX12_lodgerLine_151
  rw [hf, if_pos (show (-(Int32.ofNat 1) : Int32) = -1 from rfl), g2]
  simp (disch := omega) only [zL, m_lays, sy_bv_rv, syc_at, syc_st, hg, s6, s7, s8]
end
