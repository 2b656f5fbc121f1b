/-! ===== lines of a house, on ===== -/
section
variable {M N : sy_M} {t : Nat → Nat} {L : Nat}
/-- the reference wrote its places and its row -/
def fz (N N1 : sy_M) : Prop := (∀ a, a ≠ 121 → a ≠ 122 → N1 a = N a) ∧ (∀ j, j ≠ 11 → j ≠ 12 → N1 121 j = N 121 j) ∧ (∀ i, 126 ≤ i → N1 122 i = N 122 i)
theorem fz.trans {N N1 N2 : sy_M} (a : fz N N1) (b : fz N1 N2) : fz N N2 := ⟨fun c h h2 => (b.1 c h h2).trans (a.1 c h h2), fun j h1 h2 => (b.2.1 j h1 h2).trans (a.2.1 j h1 h2), fun i h => (b.2.2 i h).trans (a.2.2 i h)⟩
theorem fg.fz {N N1 : sy_M} (h : fg N N1) : fz N N1 := ⟨fun a h1 _ => h.1 a h1, h.2, fun i _ => by rw [h.1 122 (by decide)]⟩
theorem fz_row {N : sy_M} {g : Nat → Int32} (h : ∀ i, 126 ≤ i → g i = N 122 i) : fz N (syc N 122 g) := ⟨fun a _ h1 => syc_ne _ _ h1, fun j _ _ => by rw [syc_ne _ _ (by decide)], fun i hi => by rw [syc_at]; exact h i hi⟩
/-- a row behind a line -/
def hl (f f1 : Nat → Int32) : Prop := (∀ i, i = 0 ∨ i = 1 ∨ i = 2 ∨ 126 ≤ i → f1 i = f i)
theorem hl.trans {f g h : Nat → Int32} (a : hl f g) (b : hl g h) : hl f h := fun i hi => (b i hi).trans (a i hi)
theorem hl_rfl {f : Nat → Int32} : hl f f := fun _ _ => rfl
theorem hl_rs {f : Nat → Int32} {j : Nat} {v : Int32} (h : 3 ≤ j) (h2 : j < 126) : hl f (rs f j v) := fun i hi => rs_ne _ _ (by omega)
/-- the staged house is the reference's row -/
def SH (M N : sy_M) (f : Nat → Int32) (n : Nat) : Prop := hw M 14 f ∧ N 122 = f ∧ gr f n
/-- both read on, or both say the same is wrong -/
def BO (M N : sy_M) (t : Nat → Nat) (L : Nat) (f : Nat → Int32) (x y : sy_O) : Prop := (∃ M1 N1 q1 f1 n1, x = sy_ri (Int32.ofNat 1) M1 ∧ y = sy_rv N1 ∧ LK M1 N1 t L q1 ∧ SH M1 N1 f1 n1 ∧ hl f f1 ∧ fc M M1 ∧ fz N N1) ∨ (∃ M1 N1, x = sy_ri (Int32.ofNat 0) M1 ∧ y = sy_rv N1 ∧ LF M1 N1 t L ∧ dk M1 14 ∧ fc M M1 ∧ fz N N1)
theorem k_lodger {q n : Nat} {f : Nat → Int32} (ht : ∀ i, t i ≤ 255) (K : LK M N t L q) (hq : thg t L q = 260) (Sh : SH M N f n) : ∃ N0, jfX12_has 1500008 N = sy_ri (Int32.ofNat 1) N0 ∧ BO M N t L f (jfX3_readLodger M) (jfX12_lodgerLine (Int32.ofNat q) N0) := by
  obtain ⟨H, e122, G⟩ := Sh
  have hqL := LK_q K
  have g3 := G.2.1
  have g7 := G.2.2.1
  rcases k_has (i := 0) ht K (by decide) w_lodger with ⟨M0, N0, q0, a1, a2, a3, a4, a5, a6⟩ | ⟨N1, a1, _⟩
  rotate_left
  · exact absurd hq a1
  refine ⟨N0, a3, ?_⟩
  have n3 : N0 122 3 = Int32.ofNat n := by rw [a6.1 122 (by decide), e122]; exact g3
  have f0 : N0 121 12 = -(Int32.ofNat 1) := a4.2.2.1
  by_cases h7 : n = 7
  · obtain ⟨M1, e1, e2, e3⟩ := c_fails K.1
    obtain ⟨p, r1, r2, r3⟩ := a4.2.2.2
    have hx : m12 N0 q 121 12 ≠ -(Int32.ofNat 1) := by
      rw [m12_12]
      exact fun z => znn q (by omega) (by rw [z]; decide)
    refine Or.inr ⟨M1, m12 N0 q, ?_, ?_, ⟨q, p, hqL.1, e2, m12_12, rt_12 r1, r2⟩, (hw_fk H (by decide) e3).dk, e3.fc, (a6.trans fg_m12).fz⟩
    · unfold jfX3_readLodger
      simp only
      rw [hv_3 H.1, g3, h7, if_neg (show ¬ ((Int32.ofNat 7) : Int32) < 7 by decide), e1, sy_bi_ri]
      rfl
    · unfold jfX12_lodgerLine
      rw [n3, h7, if_pos (show ((Int32.ofNat 7) : Int32) = 7 from rfl), m_wrong f0, sy_bv_rv]
      unfold jfX12_lodgerLine_16 jfX12_lodgerLine_82
      simp only [m_behind_x hx, m_maybe_x hx, sy_bi_ri]
      rw [if_neg (show ¬ m12 N0 q 121 12 = -1 from hx)]
  · have h7' : n < 7 := by omega
    -- the class begins
    have H1 := hw_fld H (j := 3) (i := 3) (Or.inr (Or.inl ⟨rfl, rfl⟩)) (Int32.ofNat (n + 1))
    have k1 : fh 14 M (syc M 14 (rs (M 14) 3 (Int32.ofNat (n + 1)))) := fh_syc (by omega) (by omega)
    obtain ⟨M2, b1, H2, k2⟩ := c_setw H1 (p := n) (w := 3) (Int32.ofNat 3) h7' (by decide)
    obtain ⟨M3, c1, H3, k3⟩ := c_setw H2 (p := n) (w := 4) (Int32.ofNat 2) h7' (by decide)
    have kk := (k1.trans k2).trans k3
    have K3 := LK_c K kk
    rcases k_has (i := 0) ht K3 (by decide) w_lodger with ⟨M4, N4, q4, d1, d2, d3, d4, d5, d6⟩ | ⟨N1, d1, _⟩
    rotate_left
    · exact absurd hq d1
    rw [a3] at d3
    have eN : N4 = N0 := by
      have := d3
      injection this with this
      injection this with _ this
      exact this.symm
    rw [eN] at d4 d6
    have H4 := hw_fk H3 (by decide) d5
    have F4 : fc M M4 := (fh_fc kk).trans d5.fc
    have cl : jfX3_readLodger M = sy_bi (jfX3_readFact 261 0 1 9 M4) fun v8 M7 => if v8 = 0 then sy_ri 0 M7 else jfX3_readLodger_79 M7 := by
      unfold jfX3_readLodger
      simp only
      rw [hv_3 H.1, g3, if_pos (show Int32.ofNat n < 7 from (zlt (b := 7) (by omega) (by decide)).mpr h7'), show (1 : Int32) = (Int32.ofNat 1) from rfl, zadd, sy_upd_st]
      have b1' : jfX2_set 14 (Int32.ofNat n) 3 3 (syc M 14 (rs (M 14) 3 (Int32.ofNat (n + 1)))) = sy_rv M2 := b1
      have c1' : jfX2_set 14 (Int32.ofNat n) 4 2 M2 = sy_rv M3 := c1
      have d2' : jfX10_takes 260 M3 = sy_ri (Int32.ofNat 1) M4 := d2
      rw [b1', sy_bv_rv, c1', sy_bv_rv, d2', sy_bi_ri, if_neg (show ¬ (Int32.ofNat 1) = (0 : Int32) by decide)]
    have rl : jfX12_lodgerLine (Int32.ofNat q) N0 = jfX12_lodgerLine_16 N0 := by
      unfold jfX12_lodgerLine
      rw [n3, if_neg (show ¬ Int32.ofNat n = 7 from fun z => h7 ((zeq (b := 7) (by omega) (by decide)).mp z))]
    rw [cl, rl]
    -- a fault
    have bad : ∀ (M1 N1 : sy_M) (x y : sy_O), LF M1 N1 t L → dk M1 14 → fc M M1 → fg N N1 → x = sy_ri (Int32.ofNat 0) M1 → y = sy_rv N1 → BO M N t L f x y := fun M1 N1 x y h1 h2 h3 h4 h5 h6 => Or.inr ⟨M1, N1, h5, h6, h1, h2, h3, h4.fz⟩
    have g4 : ∀ (g : Nat → Int32) (w : Nat) (v : Int32), g 3 = Int32.ofNat (n + 1) → (rs g (14 + 9 * n + w) v) 3 = Int32.ofNat (n + 1) := fun g w v h => (rs_ne _ _ (by omega)).trans h
    have r0 := g4 _ 4 (Int32.ofNat 2) (g4 _ 3 (Int32.ofNat 3) (rs_at (f) 3 (Int32.ofNat (n + 1))))
    generalize hR : rs (rs (rs f 3 (Int32.ofNat (n + 1))) (14 + 9 * n + 3) (Int32.ofNat 3)) (14 + 9 * n + 4) (Int32.ofNat 2) = R at H4 r0
    rcases k_fact (i := 1) (w := 0) (lo := 1) (hi := 9) ht d4 (by decide) w_burns H4 r0 h7' (by decide) (by decide) (by decide) with ⟨v0, M5, N5, q5, i1, i2, _, i4, i5, _, i6, i7, i8, i9⟩ | ⟨x, M5, N5, i4, i5, _, i6, i7, i8, i9⟩
    rotate_left
    · have hx := (LF_x i6).1
      refine bad M5 N5 _ _ i6 i7 (F4.trans i8) (a6.trans i9) ?_ ?_
      · have i4' : jfX3_readFact 261 0 1 9 M4 = sy_ri (Int32.ofNat 0) M5 := i4
        rw [i4', sy_bi_ri]; rfl
      · have i5' : jfX12_behind 1500009 1 9 N0 = sy_ri x N5 := i5
        unfold jfX12_lodgerLine_16 jfX12_lodgerLine_82
        simp only [i5', m_behind_x hx, m_maybe_x hx, sy_bi_ri]
        rw [if_neg (show ¬ N5 121 12 = -1 from hx)]
    have i4' : jfX3_readFact 261 0 1 9 M4 = sy_ri (Int32.ofNat 1) M5 := i4
    have i5' : jfX12_behind 1500009 1 9 N0 = sy_ri (Int32.ofNat v0) N5 := i5
    have r1 := g4 _ 0 (Int32.ofNat v0) r0
    have F5 := F4.trans i8
    have E5 := a6.trans i9
    rcases k_fact (i := 2) (w := 1) (lo := 0) (hi := 47) ht i6 (by decide) w_home i7 r1 h7' (by decide) (by decide) (by decide) with ⟨v1, M6, N6, q6, j1, j2, _, j4, j5, _, j6, j7, j8, j9⟩ | ⟨x, M6, N6, j4, j5, _, j6, j7, j8, j9⟩
    rotate_left
    · have hx := (LF_x j6).1
      refine bad M6 N6 _ _ j6 j7 (F5.trans j8) (E5.trans j9) ?_ ?_
      · have j4' : jfX3_readFact 262 1 0 47 M5 = sy_ri (Int32.ofNat 0) M6 := j4
        rw [i4', sy_bi_ri, if_neg (show ¬ (Int32.ofNat 1) = (0 : Int32) by decide)]
        unfold jfX3_readLodger_79
        rw [j4', sy_bi_ri]; rfl
      · have j5' : jfX12_behind 1500017 0 47 N5 = sy_ri x N6 := j5
        unfold jfX12_lodgerLine_16 jfX12_lodgerLine_82
        simp only [i5', j5', m_behind_x hx, m_maybe_x hx, sy_bi_ri]
        rw [if_neg (show ¬ N6 121 12 = -1 from hx)]
    have j4' : jfX3_readFact 262 1 0 47 M5 = sy_ri (Int32.ofNat 1) M6 := j4
    have j5' : jfX12_behind 1500017 0 47 N5 = sy_ri (Int32.ofNat v1) N6 := j5
    have r2 := g4 _ 1 (Int32.ofNat v1) r1
    have F6 := F5.trans j8
    have E6 := E5.trans j9
    rcases k_fact (i := 3) (w := 2) (lo := 0) (hi := 47) ht j6 (by decide) w_to j7 r2 h7' (by decide) (by decide) (by decide) with ⟨v2, M7, N7, q7, l1, l2, _, l4, l5, _, l6, l7, l8, l9⟩ | ⟨x, M7, N7, l4, l5, _, l6, l7, l8, l9⟩
    rotate_left
    · have hx := (LF_x l6).1
      refine bad M7 N7 _ _ l6 l7 (F6.trans l8) (E6.trans l9) ?_ ?_
      · have l4' : jfX3_readFact 263 2 0 47 M6 = sy_ri (Int32.ofNat 0) M7 := l4
        rw [i4', sy_bi_ri, if_neg (show ¬ (Int32.ofNat 1) = (0 : Int32) by decide)]
        unfold jfX3_readLodger_79
        rw [j4', sy_bi_ri, if_neg (show ¬ (Int32.ofNat 1) = (0 : Int32) by decide), l4', sy_bi_ri]; rfl
      · have l5' : jfX12_behind 1500018 0 47 N6 = sy_ri x N7 := l5
        unfold jfX12_lodgerLine_16 jfX12_lodgerLine_82
        simp only [i5', j5', l5', m_behind_x hx, m_maybe_x hx, sy_bi_ri]
        rw [if_neg (show ¬ N7 121 12 = -1 from hx)]
    have l4' : jfX3_readFact 263 2 0 47 M6 = sy_ri (Int32.ofNat 1) M7 := l4
    have l5' : jfX12_behind 1500018 0 47 N6 = sy_ri (Int32.ofNat v2) N7 := l5
    have r3 := g4 _ 2 (Int32.ofNat v2) r2
    have F7 := F6.trans l8
    have E7 := E6.trans l9
    rcases k_fact (i := 4) (w := 5) (lo := 0) (hi := 99) ht l6 (by decide) w_coins l7 r3 h7' (by decide) (by decide) (by decide) with ⟨v5, M8, N8, q8, m1, m2, _, m4, m5, _, m6, m7, m8, m9⟩ | ⟨x, M8, N8, m4, m5, _, m6, m7, m8, m9⟩
    rotate_left
    · have hx := (LF_x m6).1
      refine bad M8 N8 _ _ m6 m7 (F7.trans m8) (E7.trans m9) ?_ ?_
      · have m4' : jfX3_readFact 264 5 0 99 M7 = sy_ri (Int32.ofNat 0) M8 := m4
        rw [i4', sy_bi_ri, if_neg (show ¬ (Int32.ofNat 1) = (0 : Int32) by decide)]
        unfold jfX3_readLodger_79
        rw [j4', sy_bi_ri, if_neg (show ¬ (Int32.ofNat 1) = (0 : Int32) by decide), l4', sy_bi_ri, if_neg (show ¬ (Int32.ofNat 1) = (0 : Int32) by decide), m4', sy_bi_ri]; rfl
      · have m5' : jfX12_behind 1500010 0 99 N7 = sy_ri x N8 := m5
        unfold jfX12_lodgerLine_16 jfX12_lodgerLine_82
        simp only [i5', j5', l5', m5', m_maybe_x hx, sy_bi_ri]
        rw [if_neg (show ¬ N8 121 12 = -1 from hx)]
    have m4' : jfX3_readFact 264 5 0 99 M7 = sy_ri (Int32.ofNat 1) M8 := m4
    have m5' : jfX12_behind 1500010 0 99 N7 = sy_ri (Int32.ofNat v5) N8 := m5
    have r4 := g4 _ 5 (Int32.ofNat v5) r3
    have F8 := F7.trans m8
    have E8 := E7.trans m9
    -- up to here
    have cl8 : (sy_bi (jfX3_readFact 261 0 1 9 M4) fun v8 M7 => if v8 = 0 then sy_ri 0 M7 else jfX3_readLodger_79 M7) = if thg t L q8 = 265 then (sy_bi (jfX3_readFact 265 3 0 20 M8) fun v10 M9 => if v10 = 0 then sy_ri 0 M9 else jfX3_readLodger_148 M9) else jfX3_readLodger_148 M8 := by
      rw [i4', sy_bi_ri, if_neg (show ¬ (Int32.ofNat 1) = (0 : Int32) by decide)]
      unfold jfX3_readLodger_79
      rw [j4', sy_bi_ri, if_neg (show ¬ (Int32.ofNat 1) = (0 : Int32) by decide), l4', sy_bi_ri, if_neg (show ¬ (Int32.ofNat 1) = (0 : Int32) by decide), m4', sy_bi_ri, if_neg (show ¬ (Int32.ofNat 1) = (0 : Int32) by decide), c_thing m6.1, sy_bi_ri]
      have hb := (thg_end (t := t) ht (LK_q m6).1).2
      by_cases hc : thg t L q8 = 265
      · rw [hc, if_pos (show Int32.ofNat 265 = 265 from rfl), if_pos rfl]
      · rw [if_neg hc, if_neg (show ¬ Int32.ofNat (thg t L q8) = 265 from fun z => hc ((zeq (b := 265) (by omega) (by decide)).mp z))]
    rw [cl8]
    have rl8 : jfX12_lodgerLine_16 N0 = sy_bi (jfX12_maybe 1500019 0 20 3 N8) fun v10 M9 => sy_bi (jfX12_maybe 1500020 0 20 2 M9) fun v12 M11 => jfX12_lodgerLine_82 (Int32.ofNat v0) (Int32.ofNat v1) (Int32.ofNat v2) (Int32.ofNat v5) v10 v12 M11 := by
      unfold jfX12_lodgerLine_16
      simp only [i5', j5', l5', m5', sy_bi_ri]
    rw [rl8]
    -- the last of all
    have fin : ∀ (M1 N1 : sy_M) (q1 v3 v4 : Nat) (x : sy_O) (g : Nat → Int32), v3 ≤ 20 → v4 ≤ 20 → LK M1 N1 t L q1 → hw M1 14 g → g = rnew f n v0 v1 v2 v3 v4 v5 → fc M M1 → fg N N1 → x = sy_ri (Int32.ofNat 1) M1 → BO M N t L f x (jfX12_lodgerLine_82 (Int32.ofNat v0) (Int32.ofNat v1) (Int32.ofNat v2) (Int32.ofNat v5) (Int32.ofNat v3) (Int32.ofNat v4) N1) := by
      intro M1 N1 q1 v3 v4 x g hv3 hv4 k1 k2 k3 k4 k5 k6
      have e1 : N1 122 = f := (k5.1 122 (by decide)).trans e122
      have hhl : hl f (rnew f n v0 v1 v2 v3 v4 v5) := by
        intro i hi
        unfold rnew
        simp (disch := omega) only [rs_ne]
      refine Or.inl ⟨M1, syc N1 122 (rnew f n v0 v1 v2 v3 v4 v5), q1, rnew f n v0 v1 v2 v3 v4 v5, n + 1, k6, ?_, LK_r k1 (fun i hi => ?_), ⟨k3 ▸ k2, syc_at _ _ _, gr_nl G h7' i1 i2 j2 l2 hv3 hv4 m2⟩, hhl, k4, k5.fz.trans (fz_row fun i hi => ?_)⟩
      · rw [m_new k1.2.2.1 (by rw [e1]; exact G) h7', e1]
      · rw [e1]; exact hhl i (by omega)
      · rw [e1]; exact hhl i (by omega)
    -- the row so far
    have R0 : ∀ v3 v4 : Nat, rs (rs (rs (rs (rs (rs R (14 + 9 * n + 0) (Int32.ofNat v0)) (14 + 9 * n + 1) (Int32.ofNat v1)) (14 + 9 * n + 2) (Int32.ofNat v2)) (14 + 9 * n + 5) (Int32.ofNat v5)) (14 + 9 * n + 3) (Int32.ofNat v3)) (14 + 9 * n + 4) (Int32.ofNat v4) = rnew f n v0 v1 v2 v3 v4 v5 := by
      intro v3 v4
      rw [← hR]
      unfold rnew
      funext i
      by_cases h3 : i = 3
      · subst h3; simp (disch := omega) only [rs_ne, rs_at]
      by_cases h0 : i = 14 + 9 * n + 0
      · subst h0; simp (disch := omega) only [rs_ne, rs_at]
      by_cases h1 : i = 14 + 9 * n + 1
      · subst h1; simp (disch := omega) only [rs_ne, rs_at]
      by_cases h2 : i = 14 + 9 * n + 2
      · subst h2; simp (disch := omega) only [rs_ne, rs_at]
      by_cases h4 : i = 14 + 9 * n + 3
      · subst h4; simp (disch := omega) only [rs_ne, rs_at]
      by_cases h5 : i = 14 + 9 * n + 4
      · subst h5; simp (disch := omega) only [rs_ne, rs_at]
      by_cases h6 : i = 14 + 9 * n + 5
      · subst h6; simp (disch := omega) only [rs_ne, rs_at]
      simp (disch := omega) only [rs_ne]
    have R3 : (rs (rs (rs (rs R (14 + 9 * n + 0) (Int32.ofNat v0)) (14 + 9 * n + 1) (Int32.ofNat v1)) (14 + 9 * n + 2) (Int32.ofNat v2)) (14 + 9 * n + 5) (Int32.ofNat v5)) (14 + 9 * n + 3) = (Int32.ofNat 3) := by
      rw [← hR]
      simp (disch := omega) only [rs_ne, rs_at]
    have R4 : ∀ v3, (rs (rs (rs (rs (rs R (14 + 9 * n + 0) (Int32.ofNat v0)) (14 + 9 * n + 1) (Int32.ofNat v1)) (14 + 9 * n + 2) (Int32.ofNat v2)) (14 + 9 * n + 5) (Int32.ofNat v5)) (14 + 9 * n + 3) (Int32.ofNat v3)) (14 + 9 * n + 4) = (Int32.ofNat 2) := by
      intro v3
      rw [← hR]
      simp (disch := omega) only [rs_ne, rs_at]
    generalize hR1 : rs (rs (rs (rs R (14 + 9 * n + 0) (Int32.ofNat v0)) (14 + 9 * n + 1) (Int32.ofNat v1)) (14 + 9 * n + 2) (Int32.ofNat v2)) (14 + 9 * n + 5) (Int32.ofNat v5) = R1 at m7 r4 R0 R3 R4
    -- WAITS
    have wt : ∀ (M1 N1 : sy_M) (q1 v3 : Nat), v3 ≤ 20 → LK M1 N1 t L q1 → hw M1 14 (rs R1 (14 + 9 * n + 3) (Int32.ofNat v3)) → fc M M1 → fg N N1 → BO M N t L f (jfX3_readLodger_148 M1) (sy_bi (jfX12_maybe 1500020 0 20 2 N1) fun v12 M11 => jfX12_lodgerLine_82 (Int32.ofNat v0) (Int32.ofNat v1) (Int32.ofNat v2) (Int32.ofNat v5) (Int32.ofNat v3) v12 M11) := by
      intro M1 N1 q1 v3 hv3 k1 k2 k3 k4
      have hb := (thg_end (t := t) ht (LK_q k1).1).2
      have c0 : jfX3_readLodger_148 M1 = if thg t L q1 = 266 then (sy_bi (jfX3_readFact 266 4 0 20 M1) fun v4 M3 => if v4 = 0 then sy_ri 0 M3 else jfX3_readLodger_175 M3) else jfX3_readLodger_175 M1 := by
        unfold jfX3_readLodger_148
        rw [c_thing k1.1, sy_bi_ri]
        by_cases hc : thg t L q1 = 266
        · rw [hc, if_pos (show Int32.ofNat 266 = 266 from rfl), if_pos rfl]
        · rw [if_neg hc, if_neg (show ¬ Int32.ofNat (thg t L q1) = 266 from fun z => hc ((zeq (b := 266) (by omega) (by decide)).mp z))]
      rw [c0]
      by_cases hc : thg t L q1 = 266
      · rw [if_pos hc]
        rcases k_fact (i := 6) (w := 4) (lo := 0) (hi := 20) ht k1 (by decide) w_waits k2 (g4 _ 3 _ r4) h7' (by decide) (by decide) (by decide) with ⟨v4, M9, N9, q9, o1, o2, _, o4, _, o5, o6, o7, o8, o9⟩ | ⟨x, M9, N9, o4, _, o5, o6, o7, o8, o9⟩
        · have o4' : jfX3_readFact 266 4 0 20 M1 = sy_ri (Int32.ofNat 1) M9 := o4
          have o5' : jfX12_maybe 1500020 0 20 2 N1 = sy_ri (Int32.ofNat v4) N9 := o5 2
          rw [o4', sy_bi_ri, if_neg (show ¬ (Int32.ofNat 1) = (0 : Int32) by decide), o5', sy_bi_ri]
          exact fin M9 N9 q9 v3 v4 _ _ hv3 o2 o6 o7 (R0 v3 v4) (k3.trans o8) (k4.trans o9) rfl
        · have o4' : jfX3_readFact 266 4 0 20 M1 = sy_ri (Int32.ofNat 0) M9 := o4
          have o5' : jfX12_maybe 1500020 0 20 2 N1 = sy_ri x N9 := o5 2 hc
          have hx := (LF_x o6).1
          rw [o4', sy_bi_ri, if_pos (show (Int32.ofNat 0) = (0 : Int32) from rfl), o5', sy_bi_ri]
          refine bad M9 N9 _ _ o6 o7 (k3.trans o8) (k4.trans o9) rfl ?_
          unfold jfX12_lodgerLine_82
          rw [if_neg (show ¬ N9 121 12 = -1 from hx)]
      · rw [if_neg hc]
        rcases k_has (i := 6) ht k1 (by decide) w_waits with ⟨M9, N9, q9, o1, _⟩ | ⟨N9, o1, o2, o3, o4, o5, o6⟩
        · exact absurd o1 hc
        · have o3' : jfX12_maybe 1500020 0 20 2 N1 = sy_ri (Int32.ofNat 2) N9 := by
            unfold jfX12_maybe
            rw [k1.2.2.1, if_pos (show (-(Int32.ofNat 1) : Int32) = -1 from rfl), o3, sy_bi_ri]
            rfl
          rw [o3', sy_bi_ri]
          refine fin M1 N9 q1 v3 2 _ _ hv3 (by omega) o4 k2 ?_ k3 (k4.trans o5) rfl
          rw [← R0 v3 2]
          conv => lhs; rw [← rs_self (rs R1 (14 + 9 * n + 3) (Int32.ofNat v3)) (14 + 9 * n + 4)]
          rw [R4 v3]
    by_cases hc : thg t L q8 = 265
    · rw [if_pos hc]
      rcases k_fact (i := 5) (w := 3) (lo := 0) (hi := 20) ht m6 (by decide) w_bears m7 r4 h7' (by decide) (by decide) (by decide) with ⟨v3, M9, N9, q9, o1, o2, _, o4, _, o5, o6, o7, o8, o9⟩ | ⟨x, M9, N9, o4, _, o5, o6, o7, o8, o9⟩
      · have o4' : jfX3_readFact 265 3 0 20 M8 = sy_ri (Int32.ofNat 1) M9 := o4
        have o5' : jfX12_maybe 1500019 0 20 3 N8 = sy_ri (Int32.ofNat v3) N9 := o5 3
        rw [o4', sy_bi_ri, if_neg (show ¬ (Int32.ofNat 1) = (0 : Int32) by decide), o5', sy_bi_ri]
        exact wt M9 N9 q9 v3 o2 o6 o7 (F8.trans o8) (E8.trans o9)
      · have o4' : jfX3_readFact 265 3 0 20 M8 = sy_ri (Int32.ofNat 0) M9 := o4
        have o5' : jfX12_maybe 1500019 0 20 3 N8 = sy_ri x N9 := o5 3 hc
        have hx := (LF_x o6).1
        rw [o4', sy_bi_ri, if_pos (show (Int32.ofNat 0) = (0 : Int32) from rfl), o5', sy_bi_ri, m_maybe_x hx, sy_bi_ri]
        refine bad M9 N9 _ _ o6 o7 (F8.trans o8) (E8.trans o9) rfl ?_
        unfold jfX12_lodgerLine_82
        rw [if_neg (show ¬ N9 121 12 = -1 from hx)]
    · rw [if_neg hc]
      rcases k_has (i := 5) ht m6 (by decide) w_bears with ⟨M9, N9, q9, o1, _⟩ | ⟨N9, o1, o2, o3, o4, o5, o6⟩
      · exact absurd o1 hc
      · have o3' : jfX12_maybe 1500019 0 20 3 N8 = sy_ri (Int32.ofNat 3) N9 := by
          unfold jfX12_maybe
          rw [m6.2.2.1, if_pos (show (-(Int32.ofNat 1) : Int32) = -1 from rfl), o3, sy_bi_ri]
          rfl
        rw [o3', sy_bi_ri]
        refine wt M8 N9 q8 3 (by omega) o4 ?_ F8 (E8.trans o5)
        have : rs R1 (14 + 9 * n + 3) (Int32.ofNat 3) = R1 := by
          conv => rhs; rw [← rs_self R1 (14 + 9 * n + 3)]
          rw [R3]
        rw [this]
        exact m7
end
