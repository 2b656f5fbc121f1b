/-! ===== sums, comparisons ===== -/
section
variable {M N : sy_M} {t : Nat → Nat} {L : Nat}
theorem RS_sign {q c d : Nat} {v : Nat → Int32} (ht : ∀ i, t i ≤ 255) (h : RS N t L q v d) (hc : c < 256) (ha : isa c = false) (hd : isd c = false) : (thg t L q = c → jfX12_isSign (Int32.ofNat c) N = sy_ri (Int32.ofNat 1) (m11 N q) ∧ sy_upd (m11 N q) 121 11 (m11 N q 121 11 + 1) = m11 N (q + 1) ∧ ten t L q = q + 1 ∧ RS (m11 N (q + 1)) t L (nxt t L (q + 1)) v d) ∧ (thg t L q ≠ c → jfX12_isSign (Int32.ofNat c) N = sy_ri (Int32.ofNat 0) (m11 N q) ∧ RS (m11 N q) t L q v d) := by
  have l := RS_L h
  have r1 := RS_11 (p := q) (q1 := q) h l.1 l.2.2
  have w := thg_sign (t := t) (q := q) ht l.1 hc ha hd
  have h0 := h
  obtain ⟨h1, ⟨p0, h2, h3, h4⟩, h5⟩ := h
  have b := m_isSign h2 ht h3 hc
  rw [h4] at b
  constructor
  · intro e
    have w1 := w.mp e
    rw [decide_eq_true w1] at b
    have te : ten t L q = q + 1 := ten_sign (by rw [w1.2]; exact ha) (by rw [w1.2]; exact hd)
    refine ⟨b, ?_, te, RS_11 h0 (by omega) rfl⟩
    rw [sy_upd_st, show m11 N q 121 11 = Int32.ofNat q from by unfold m11; rw [syc_at, rs_at], show (1 : Int32) = (Int32.ofNat 1) from rfl, zadd]
    exact m11_m11 N q (q + 1)
  · intro e
    rw [decide_eq_false (fun z => e (w.mpr z))] at b
    exact ⟨b, r1⟩
/-- what reading a sum comes to -/
def SR (x0 : sy_O) (y : sy_M → sy_O) (M0 : sy_M) (t : Nat → Nat) (L q0 s0 d : Nat) : Prop := (∃ M1 q1 s1 sv, x0 = sy_ri (Int32.ofNat 1) M1 ∧ CS M1 t L q1 s1 ∧ q0 < q1 ∧ s0 < s1 ∧ s1 + q0 ≤ s0 + q1 ∧ (∀ i, i < s0 → M1 40 i = M0 40 i) ∧ SB (M1 40) s0 s1 sv ∧ fl M0 M1 ∧ ∀ N v, RS N t L q0 v d → ∃ N1, y N = sy_ri (sv v) N1 ∧ RS N1 t L q1 v d ∧ fe N N1) ∨ (∃ M1 w, x0 = sy_ri (Int32.ofNat 0) M1 ∧ M1 1 7 = Int32.ofNat w ∧ w ≤ L ∧ fl M0 M1 ∧ ∀ N v, RS N t L q0 v d → ∃ x N1, y N = sy_ri x N1 ∧ RX N1 t L w d ∧ fe N N1)
theorem c_113 {k i : Nat} (h : i < 2147483648) : jfX5_readSum_4 (k + 1) 0 (Int32.ofNat i) M = jfX5_readSum_113 M := by
  show jgX5_readSum_4 (jfX5_readSum_4 k) 0 (Int32.ofNat i) M = _
  unfold jgX5_readSum_4
  rw [if_pos (show (0 : Int32) = 0 from rfl), ite_self]
theorem k_sum_loop {M0 : sy_M} {q0 s0 d : Nat} {y : sy_M → sy_O} (ht : ∀ i, t i ≤ 255) (hL : L ≤ 400) (hs0 : s0 ≤ q0 + 9) : ∀ (m k k2 i : Nat) (M : sy_M) (q s : Nat) (sv : (Nat → Int32) → Int32), L - q ≤ m → CS M t L q s → q0 < q → s0 < s → s + q0 ≤ s0 + q → i < q → (∀ i, i < s0 → M 40 i = M0 40 i) → SB (M 40) s0 s sv → fl M0 M → (∀ N v, RS N t L q0 v d → ∃ N1, y N = jfX12_sum_5 (k2 + m + 2) (sv v) N1 ∧ RS N1 t L q v d ∧ fe N N1) → SR (jfX5_readSum_78 (jfX5_readSum_4 (k + m + 2)) (Int32.ofNat i) M) y M0 t L q0 s0 d := by
  intro m
  induction m with
  | zero =>
    intro k k2 i M q s sv hm C hq hs hb hi e40 B F R
    have hqL := CS_L C
    have n43 : thg t L q ≠ 43 := by
      have := (thg_end (t := t) ht hqL).1.mpr (by omega)
      omega
    have a2 : jfX10_takes 43 M = sy_ri (Int32.ofNat 0) M := by
      rcases c_takes (c := 43) ht C.1 (by decide) (by decide) with ⟨a1, _⟩ | ⟨_, a2⟩
      · exact absurd a1 n43
      · exact a2
    refine Or.inl ⟨M, q, s, sv, ?_, C, hq, hs, hb, e40, B, F, ?_⟩
    · unfold jfX5_readSum_78 jfX5_readSum_105 jfX5_readSum_106
      rw [C.2.1, if_pos (show (-(Int32.ofNat 1) : Int32) = -1 from rfl), a2, sy_bi_ri, if_pos (show (Int32.ofNat 0) = (0 : Int32) from rfl)]
      simp only
      rw [show (1 : Int32) = (Int32.ofNat 1) from rfl, zadd, c_113 (by omega)]
      unfold jfX5_readSum_113
      rw [C.2.1, if_pos (show (-(Int32.ofNat 1) : Int32) = -1 from rfl)]
      rfl
    · intro N v h
      obtain ⟨N1, r1, r2, r3⟩ := R N v h
      have g := (RS_sign (c := 43) ht r2 (by decide) (by decide) (by decide)).2 n43
      refine ⟨m11 N1 q, ?_, g.2, r3.trans fg_m11.fe⟩
      rw [r1]
      show jgX12_sum_5 _ (sv v) N1 = _
      unfold jgX12_sum_5
      have g1 : jfX12_isSign 43 N1 = sy_ri (Int32.ofNat 0) (m11 N1 q) := g.1
      rw [r2.1, if_pos (show (-(Int32.ofNat 1) : Int32) = -1 from rfl), g1, sy_bi_ri, if_pos (show (Int32.ofNat 0) = (0 : Int32) from rfl)]
  | succ m ih =>
    intro k k2 i M q s sv hm C hq hs hb hi e40 B F R
    have hqL := CS_L C
    have n1 : ¬ (Int32.ofNat 1) = (0 : Int32) := by decide
    by_cases h43 : thg t L q = 43
    · rcases c_takes (c := 43) ht C.1 (by decide) (by decide) with ⟨_, M1, a2, a3, a4, a5, a6⟩ | ⟨a1, _⟩
      rotate_left
      · exact absurd h43 a1
      have te : ten t L q = q + 1 := by
        have w := (thg_sign (t := t) (q := q) (c := 43) ht hqL (by decide) (by decide) (by decide)).mp h43
        exact ten_sign (by rw [w.2]; decide) (by rw [w.2]; decide)
      rw [te] at a3
      have ng := nxt_ge (t := t) (L := L) (q := q + 1) (by omega)
      have C1 : CS M1 t L (nxt t L (q + 1)) s := ⟨a3, a5.trans C.2.1, fk_35 a4 C.2.2⟩
      have cl : jfX5_readSum_78 (jfX5_readSum_4 (k + (m + 1) + 2)) (Int32.ofNat i) M = jgX5_readSum_4 (jfX5_readSum_4 (k + m + 2)) 1 (Int32.ofNat (i + 1)) M1 := by
        have a2' : jfX10_takes 43 M = sy_ri (Int32.ofNat 1) M1 := a2
        unfold jfX5_readSum_78 jfX5_readSum_106
        rw [C.2.1, if_pos (show (-(Int32.ofNat 1) : Int32) = -1 from rfl), a2', sy_bi_ri, if_neg n1]
        simp only
        rw [show Int32.ofNat i + 1 = Int32.ofNat (i + 1) from zadd i 1]
        rfl
      have rl : ∀ N v, RS N t L q0 v d → ∃ N2, y N = (sy_bi (jfX12_part N2) fun v5 M4 => jfX12_sum_5 (k2 + m + 2) (sv v + v5) M4) ∧ RS N2 t L (nxt t L (q + 1)) v d ∧ fe N N2 := by
        intro N v h
        obtain ⟨N1, r1, r2, r3⟩ := R N v h
        have g := (RS_sign (c := 43) ht r2 (by decide) (by decide) (by decide)).1 h43
        refine ⟨m11 N1 (q + 1), ?_, g.2.2.2, r3.trans fg_m11.fe⟩
        rw [r1]
        show jgX12_sum_5 (jfX12_sum_5 (k2 + m + 2)) (sv v) N1 = _
        unfold jgX12_sum_5
        have g1 : jfX12_isSign 43 N1 = sy_ri (Int32.ofNat 1) (m11 N1 q) := g.1
        rw [r2.1, if_pos (show (-(Int32.ofNat 1) : Int32) = -1 from rfl), g1, sy_bi_ri, if_neg n1]
        simp only
        rw [g.2.1]
      rw [cl]
      rcases k_part (d := d) (K := jfX5_readSum_4 (k + m + 2)) (i := i + 1) ht C1 hL (by omega) (by omega) with ⟨M2, q2, kd, nm, b1, b2, b3, b4, b5, b6, b7, b8, b9⟩ | ⟨M2, w, b2, b3, b4, b5, b6⟩
      · rw [b2]
        have h40 : M1 40 = M 40 := a4.1 40 (by decide)
        have e2 : ∀ i, i < s → M2 40 i = M 40 i := fun j hj => by rw [b4, rs_ne _ _ (by omega), h40]
        refine ih k k2 (i + 1) M2 q2 (s + 1) (fun v => sv v + pv kd nm v) (by omega) b3 (by omega) (by omega) (by omega) (by omega) (fun j hj => (e2 j (by omega)).trans (e40 j hj)) ?_ (F.trans (a4.fl.trans b8)) ?_
        · refine SB_cat (SB_congr B (fun j _ hj => e2 j hj)) (SB_one ?_ b5 b6 b7) (by omega)
          rw [b4, rs_at]
        · intro N v h
          obtain ⟨N2, r1, r2, r3⟩ := rl N v h
          obtain ⟨N3, r4, r5, r6⟩ := b9 N2 v r2
          exact ⟨N3, by rw [r1, r4, sy_bi_ri], r5, r3.trans r6⟩
      · rw [b2]
        have nx : M2 1 7 ≠ -(Int32.ofNat 1) := by
          rw [b3]; exact fun z => znn w (by omega) (by rw [z]; decide)
        refine Or.inr ⟨M2, w, ?_, b3, b4, F.trans (a4.fl.trans b5), ?_⟩
        · unfold jfX5_readSum_78 jfX5_readSum_105 jfX5_readSum_106
          rw [if_neg (show ¬ M2 1 7 = -1 from nx)]
          simp only
          rw [show Int32.ofNat (i + 1) + 1 = Int32.ofNat (i + 1 + 1) from zadd (i + 1) 1, c_113 (by omega)]
          unfold jfX5_readSum_113
          rw [if_neg (show ¬ M2 1 7 = -1 from nx)]
          rfl
        · intro N v h
          obtain ⟨N2, r1, r2, r3⟩ := rl N v h
          obtain ⟨x, N3, r4, r5, r6⟩ := b6 N2 v r2
          refine ⟨sv v + x, N3, ?_, r5, r3.trans r6⟩
          rw [r1, r4, sy_bi_ri]
          show jgX12_sum_5 _ _ N3 = _
          unfold jgX12_sum_5
          rw [if_neg (show ¬ N3 121 12 = -1 from RX_x r5)]
    · have a2 : jfX10_takes 43 M = sy_ri (Int32.ofNat 0) M := by
        rcases c_takes (c := 43) ht C.1 (by decide) (by decide) with ⟨a1, _⟩ | ⟨_, a2⟩
        · exact absurd a1 h43
        · exact a2
      refine Or.inl ⟨M, q, s, sv, ?_, C, hq, hs, hb, e40, B, F, ?_⟩
      · unfold jfX5_readSum_78 jfX5_readSum_105 jfX5_readSum_106
        rw [C.2.1, if_pos (show (-(Int32.ofNat 1) : Int32) = -1 from rfl), a2, sy_bi_ri, if_pos (show (Int32.ofNat 0) = (0 : Int32) from rfl)]
        simp only
        rw [show (1 : Int32) = (Int32.ofNat 1) from rfl, zadd, c_113 (by omega)]
        unfold jfX5_readSum_113
        rw [C.2.1, if_pos (show (-(Int32.ofNat 1) : Int32) = -1 from rfl)]
        rfl
      · intro N v h
        obtain ⟨N1, r1, r2, r3⟩ := R N v h
        have g := (RS_sign (c := 43) ht r2 (by decide) (by decide) (by decide)).2 h43
        refine ⟨m11 N1 q, ?_, g.2, r3.trans fg_m11.fe⟩
        rw [r1]
        show jgX12_sum_5 _ (sv v) N1 = _
        unfold jgX12_sum_5
        have g1 : jfX12_isSign 43 N1 = sy_ri (Int32.ofNat 0) (m11 N1 q) := g.1
        rw [r2.1, if_pos (show (-(Int32.ofNat 1) : Int32) = -1 from rfl), g1, sy_bi_ri, if_pos (show (Int32.ofNat 0) = (0 : Int32) from rfl)]
theorem k_sum {q s d : Nat} (ht : ∀ i, t i ≤ 255) (hL : L ≤ 400) (C : CS M t L q s) (hs : s ≤ q + 9) : SR (jfX5_readSum M) jfX12_sum M t L q s d := by
  have hqL := CS_L C
  have cl : jfX5_readSum M = jgX5_readSum_4 (jfX5_readSum_4 5999) 1 (Int32.ofNat 0) M := by
    unfold jfX5_readSum
    rw [show sy_F = 5999 + 1 from sy_F_eq]
    rfl
  rw [cl]
  rcases k_part (d := d) (K := jfX5_readSum_4 5999) (i := 0) ht C hL (by omega) (by omega) with ⟨M2, q2, kd, nm, b1, b2, b3, b4, b5, b6, b7, b8, b9⟩ | ⟨M2, w, b2, b3, b4, b5, b6⟩
  · rw [b2]
    have hq2 := CS_L b3
    obtain ⟨kk, ekk⟩ : ∃ kk, 5999 = kk + (L - q2) + 2 := ⟨5997 - (L - q2), by omega⟩
    obtain ⟨k2, ek2⟩ : ∃ k2, 6000 = k2 + (L - q2) + 2 := ⟨5998 - (L - q2), by omega⟩
    rw [ekk]
    refine k_sum_loop ht hL hs (L - q2) kk k2 0 M2 q2 (s + 1) (pv kd nm) (Nat.le_refl _) b3 (by omega) (by omega) (by omega) (by omega) (fun j hj => by rw [b4, rs_ne _ _ (by omega)]) ?_ b8 ?_
    · refine SB_one ?_ b5 b6 b7
      rw [b4, rs_at]
    · intro N v h
      obtain ⟨N3, r4, r5, r6⟩ := b9 N v h
      refine ⟨N3, ?_, r5, r6⟩
      unfold jfX12_sum
      rw [r4, sy_bi_ri, show sy_F = 6000 from sy_F_eq, ek2]
  · rw [b2]
    have nx : M2 1 7 ≠ -(Int32.ofNat 1) := by
      rw [b3]; exact fun z => znn w (by omega) (by rw [z]; decide)
    refine Or.inr ⟨M2, w, ?_, b3, b4, b5, ?_⟩
    · unfold jfX5_readSum_78 jfX5_readSum_105 jfX5_readSum_106
      rw [if_neg (show ¬ M2 1 7 = -1 from nx)]
      simp only
      have c0 := c_113 (M := M2) (k := 5998) (i := 1) (by decide)
      have c1 : jfX5_readSum_4 5999 0 ((Int32.ofNat 0) + 1) M2 = jfX5_readSum_113 M2 := c0
      rw [c1]
      unfold jfX5_readSum_113
      rw [if_neg (show ¬ M2 1 7 = -1 from nx)]
      rfl
    · intro N v h
      obtain ⟨x, N3, r4, r5, r6⟩ := b6 N v h
      refine ⟨x, N3, ?_, r5, r6⟩
      unfold jfX12_sum
      rw [r4, sy_bi_ri, show sy_F = 5999 + 1 from sy_F_eq]
      show jgX12_sum_5 _ _ N3 = _
      unfold jgX12_sum_5
      rw [if_neg (show ¬ N3 121 12 = -1 from RX_x r5)]
end
