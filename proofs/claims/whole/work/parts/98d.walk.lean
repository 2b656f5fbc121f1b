/-! ===== pairs: the reference's walk ===== -/
section
variable {A : (Nat → Int32) → Nat → Int32 × Bool} {tx : (Nat → Int32) → Prop} {L0 : Int32} {S : Nat → Int32} {e : Nat} {M : sy_M}
variable {n : Nat} {f : Nat → Int32} {W : Nat → Nat → Nat}
theorem neg1_ne {x : Nat} (h : x < 2147483648) : ¬ (-(Int32.ofNat 1) = Int32.ofNat x) := fun z => by
  have : ¬ (Int32.ofNat x < (Int32.ofNat 0)) := znn x h
  rw [← z] at this
  exact this (by decide)
theorem ne_neg1 {x : Nat} (h : x < 2147483648) : ¬ (Int32.ofNat x = -(Int32.ofNat 1)) := fun z => neg1_ne h z.symm
theorem zdec {a : Nat} (h : 1 ≤ a) : Int32.ofNat a + -(Int32.ofNat 1) = Int32.ofNat (a - 1) := by
  rw [← zsub h, Int32.sub_eq_add_neg]
/-- with whom the lowest goes, in the reference's words -/
def cw (W : Nat → Nat → Nat) (n S k : Nat) : Nat → Bool := fun o => (rm S k).testBit o && decide (W k o + pb W n n (rm (rm S k) o) = pb W n n S)
theorem cw_pk {S k d : Nat} (h7 : n ≤ 7) (hS : S < 2 ^ n) (hd : n = d + 1 + k) (hb : S.testBit k = true) (hl : ∀ q, q < k → S.testBit q = false) : pb W n n S = (pk W n d S d).1 ∧ pb W n n (rm S k) = pb W n d (rm S k) ∧ (pb W n n (rm S k) = pb W n n S → (pk W n d S d).2 = 0) ∧ (pb W n n (rm S k) ≠ pb W n n S → bw (cw W n S k) n d = (pk W n d S d).2) := by
  have hpw := pow_le h7
  have np : n - (d + 1) = k := by omega
  have rl := rm_lt hb
  have e1 : pb W n n S = (pk W n d S d).1 := by
    rw [pb_n (d := d + 1) (by omega) (fun q hq => hl q (by omega)), pb_s, np, if_pos hb]
  have e2 : pb W n n (rm S k) = pb W n d (rm S k) := pb_n (by omega) (fun q hq => by
    rw [rm_bit (by omega) (by omega) (by omega)]
    by_cases c : q = k
    · rw [decide_eq_true c]; simp
    · rw [hl q (by omega)]; rfl)
  have sp := pg_spec (pvl W n d S) (fun o => S.testBit o) (pb W n d (rm S (n - (d + 1)))) (n - (d + 1) + 1) d
  have ek : pk W n d S d = pg (pvl W n d S) (fun o => S.testBit o) (pb W n d (rm S (n - (d + 1)))) (n - (d + 1) + 1) d := rfl
  rw [← ek, np] at sp
  obtain ⟨_, s2, s3, s4⟩ := sp
  refine ⟨e1, e2, fun h => ?_, fun h => ?_⟩
  · refine Classical.byContradiction fun c => ?_
    obtain ⟨i, _, _, _, g1, g2, _⟩ := s4 c
    omega
  · have c : (pk W n d S d).2 ≠ 0 := fun z => by
      have := s3 z
      omega
    obtain ⟨i, hi, g1, g2, g3, g4, g5⟩ := s4 c
    have ev : ∀ o, k < o → o < n → S.testBit o = true → pvl W n d S o = W k o + pb W n n (rm (rm S k) o) := by
      intro o h1 h2 h3
      unfold pvl
      rw [np]
      congr 1
      refine (pb_n (by omega) (fun q hq => ?_)).symm
      rw [rm_bit (by omega) (by omega) (by omega), rm_bit (by omega) (by omega) (by omega)]
      by_cases c : q = k
      · rw [decide_eq_true c]; simp
      · rw [hl q (by omega)]; rfl
    have rb : ∀ o, k < o → o < n → (rm S k).testBit o = S.testBit o := by
      intro o h1 h2
      rw [rm_bit (by omega) (by omega) (by omega), decide_eq_false (show ¬ o = k by omega), Bool.not_false, Bool.and_true]
    rw [g1]
    refine bw_is (by omega) ?_ d (by omega) (by omega) (fun o' h1 h2 => ?_)
    · unfold cw
      rw [rb _ (by omega) (by omega), g2, Bool.true_and]
      refine decide_eq_true ?_
      rw [← ev _ (by omega) (by omega) g2, e1, g3]
    · unfold cw
      rw [rb _ (by omega) (by omega)]
      cases ob : S.testBit o' with
      | false => rfl
      | true =>
        rw [Bool.true_and]
        refine decide_eq_false fun z => ?_
        rw [← ev _ (by omega) (by omega) ob, e1, g3] at z
        have := g5 (o' - (k + 1)) (by omega)
        rw [show k + 1 + (o' - (k + 1)) = o' by omega] at this
        have := this ob
        omega
theorem m_walk (h7 : n ≤ 7) (hW : ∀ p o, W p o ≤ 48) (hn : M 122 3 = Int32.ofNat n) (hB : ∀ T, T < 2 ^ n → M 130 T = Int32.ofNat (pb W n n T)) (hto : ∀ p o, p < 7 → o < 7 → jfX12_together (Int32.ofNat p) (Int32.ofNat o) M = sy_ri (Int32.ofNat (W p o)) M) {x : Nat} (hx : x < n) : ∀ d, d ≤ n → ∀ F, d < F → ∀ (S : Nat) (P : Nat → Nat), S < 2 ^ n → (∀ q, q < n - d → S.testBit q = false) → P x = 0 → jfX12_pairs_55 F (Int32.ofNat x) (Int32.ofNat S) M = sy_ri (mv (px W n d S P x)) M
  | 0, _, 0, h, _, _, _, _, _ => absurd h (Nat.lt_irrefl 0)
  | 0, _, F + 1, _, S, P, hS, hq, hP => by
    have hpw := pow_le h7
    have : S = 0 := tb_0 (by omega) (fun q _ => by
      cases c : S.testBit q with
      | false => rfl
      | true => exact (hq q (by have := tb_lt h7 hS c; omega)).symm.trans c |>.symm)
    subst this
    show jgX12_pairs_55 (jfX12_pairs_55 F) (Int32.ofNat x) (Int32.ofNat 0) M = sy_ri (mv (P x)) M
    rw [hP, mv_0]
    simp (disch := omega) only [zL, zlt, zle, zeq, zadd, zmul, zin, zix, zsh1, Nat.add_zero, Nat.zero_add, Nat.mul_zero, if_true, if_false, if_pos, if_neg, sy_bi_ri, sy_bi_rt, sy_bv_rv, sy_bv_rt, sy_br_rr, sy_br_rn, sy_hi_ri, sy_hi_rt, sy_bs_t, sy_bx_t, sy_bb_t, bz_bo, ite_bz0, ite_bz1, jgX12_pairs_55]
  | d + 1, _, 0, h, _, _, _, _, _ => absurd h (Nat.not_lt_zero _)
  | d + 1, hd, F + 1, hF, S, P, hS, hq, hP => by
    have hpw := pow_le h7
    obtain ⟨k, hk⟩ : ∃ k, k = n - (d + 1) := ⟨_, rfl⟩
    have nk : n = d + 1 + k := by omega
    rw [px_s]
    rw [← hk] at hq ⊢
    cases hb : S.testBit k with
    | false =>
      rw [if_neg (by decide)]
      refine m_walk h7 hW hn hB hto hx d (by omega) (F + 1) (by omega) S P hS (fun q h => ?_) hP
      by_cases c : q = k
      · rw [c]; exact hb
      · exact hq q (by omega)
    | true =>
      rw [if_pos rfl]
      have IH := m_walk h7 hW hn hB hto hx d (by omega) F (by omega)
      have rl := rm_lt hb
      have S0 : 0 < S := by omega
      have lo := m_lowest (M := M) (S := S) (by omega) (by omega) hb hq
      have rw1 := rm_wi (S := S) (p := k) (by omega) (by omega)
      obtain ⟨e1, e2, wa, wb⟩ := cw_pk (W := W) h7 hS nk hb hq
      have bR := hB (rm S k) (by omega)
      have bS := hB S hS
      have l1 := pb_le (n := n) hW n S
      have l2 := pb_le (n := n) hW n (rm S k)
      have rk : (rm S k).testBit k = false := by rw [rm_bit (by omega) (by omega) (by omega), decide_eq_true rfl]; simp
      have rlow : ∀ q, q < n - d → (rm S k).testBit q = false := fun q h => by
        by_cases c : q = k
        · rw [c]; exact rk
        · rw [rm_bit (by omega) (by omega) (by omega), hq q (by omega)]; rfl
      have g : jfX12_pairs_159 (jfX12_pairs_55 F) (Int32.ofNat x) (Int32.ofNat k) (Int32.ofNat (rm S k)) (mv (pk W n d S d).2) M = sy_ri (mv (pa W n d S P (pk W n d S d).2 x)) M := by
        by_cases c : (pk W n d S d).2 = 0
        · rw [c]
          unfold pa
          rw [if_pos rfl, mv_0, ← hk]
          by_cases cx : k = x
          · subst cx
            rw [px_out h7 (by omega) d (by omega) _ _ (by omega) rk, hP, mv_0]
            simp (disch := omega) only [zL, zlt, zle, zeq, zadd, zmul, zin, zix, zsh1, Nat.add_zero, Nat.zero_add, Nat.mul_zero, if_true, if_false, if_pos, if_neg, sy_bi_ri, sy_bi_rt, sy_bv_rv, sy_bv_rt, sy_br_rr, sy_br_rn, sy_hi_ri, sy_hi_rt, sy_bs_t, sy_bx_t, sy_bb_t, bz_bo, ite_bz0, ite_bz1, jfX12_pairs_159]
          · have i1 := IH (rm S k) P (by omega) rlow hP
            have z1 := neg1_ne (x := x) (by omega)
            simp (disch := omega) only [zL, zlt, zle, zeq, zadd, zmul, zin, zix, zsh1, Nat.add_zero, Nat.zero_add, Nat.mul_zero, if_true, if_false, if_pos, if_neg, sy_bi_ri, sy_bi_rt, sy_bv_rv, sy_bv_rt, sy_br_rr, sy_br_rn, sy_hi_ri, sy_hi_rt, sy_bs_t, sy_bx_t, sy_bb_t, bz_bo, ite_bz0, ite_bz1, jfX12_pairs_159, jfX12_pairs_195, z1, i1]
        · have sp := (pg_spec (pvl W n d S) (fun o => S.testBit o) (pb W n d (rm S (n - (d + 1)))) (n - (d + 1) + 1) d).2.2.2 c
          rw [← hk] at sp
          obtain ⟨i, hi, g1, g2, _⟩ := sp
          obtain ⟨o, ho⟩ : ∃ o, o = k + 1 + i := ⟨_, rfl⟩
          rw [← ho] at g2
          have g3 : (pk W n d S d).2 = o + 1 := by
            have : (pk W n d S d).2 = k + 1 + i + 1 := by
              rw [← g1, hk]
              rfl
            omega
          rw [g3]
          unfold pa
          rw [if_neg (Nat.succ_ne_zero o), mv_s, ← hk, Nat.add_sub_cancel]
          have ro : (rm S k).testBit o = true := by
            rw [rm_bit (by omega) (by omega) (by omega), decide_eq_false (show ¬ o = k by omega), Bool.not_false, Bool.and_true]
            exact g2
          have rl2 := rm_lt ro
          have rw2 := rm_wi (S := rm S k) (p := o) (by omega) (by omega)
          have z1 := ne_neg1 (x := o) (by omega)
          by_cases cx : k = x
          · subst cx
            rw [px_out h7 (by omega) d (by omega) _ _ (by omega) (by rw [rm_bit (by omega) (by omega) (by omega), rk]; rfl), pu_ne _ _ (show k ≠ o by omega), pu_at, mv_s]
            simp (disch := omega) only [zL, zlt, zle, zeq, zadd, zmul, zin, zix, zsh1, Nat.add_zero, Nat.zero_add, Nat.mul_zero, if_true, if_false, if_pos, if_neg, sy_bi_ri, sy_bi_rt, sy_bv_rv, sy_bv_rt, sy_br_rr, sy_br_rn, sy_hi_ri, sy_hi_rt, sy_bs_t, sy_bx_t, sy_bb_t, bz_bo, ite_bz0, ite_bz1, jfX12_pairs_159]
          · by_cases cy : o = x
            · subst cy
              rw [px_out h7 (by omega) d (by omega) _ _ (by omega) (by rw [rm_bit (by omega) (by omega) (by omega), decide_eq_true rfl]; simp), pu_at, mv_s]
              simp (disch := omega) only [zL, zlt, zle, zeq, zadd, zmul, zin, zix, zsh1, Nat.add_zero, Nat.zero_add, Nat.mul_zero, if_true, if_false, if_pos, if_neg, sy_bi_ri, sy_bi_rt, sy_bv_rv, sy_bv_rt, sy_br_rr, sy_br_rn, sy_hi_ri, sy_hi_rt, sy_bs_t, sy_bx_t, sy_bb_t, bz_bo, ite_bz0, ite_bz1, jfX12_pairs_159]
            · have i1 := IH (rm (rm S k) o) (pu (pu P k (o + 1)) o (k + 1)) (by omega) (fun q h => by rw [rm_bit (by omega) (by omega) (by omega), rlow q h]; rfl) (by rw [pu_ne _ _ (fun z => cy z.symm), pu_ne _ _ (fun z => cx z.symm)]; exact hP)
              simp (disch := omega) only [zL, zlt, zle, zeq, zadd, zmul, zin, zix, zsh1, Nat.add_zero, Nat.zero_add, Nat.mul_zero, if_true, if_false, if_pos, if_neg, sy_bi_ri, sy_bi_rt, sy_bv_rv, sy_bv_rt, sy_br_rr, sy_br_rn, sy_hi_ri, sy_hi_rt, sy_bs_t, sy_bx_t, sy_bb_t, bz_bo, ite_bz0, ite_bz1, jfX12_pairs_159, jfX12_pairs_195, z1, rw2, i1]
      rw [← g]
      show jgX12_pairs_55 (jfX12_pairs_55 F) (Int32.ofNat x) (Int32.ofNat S) M = _
      have e0 : jgX12_pairs_55 (jfX12_pairs_55 F) (Int32.ofNat x) (Int32.ofNat S) M = jfX12_pairs_86 (jfX12_pairs_55 F) sy_F (Int32.ofNat x) (Int32.ofNat S) (Int32.ofNat k) (Int32.ofNat (rm S k)) (-(Int32.ofNat 1)) (Int32.ofNat (n - 1)) M := by
        simp (disch := omega) only [zL, zlt, zle, zeq, zadd, zmul, zin, zix, zsh1, Nat.add_zero, Nat.zero_add, Nat.mul_zero, if_true, if_false, if_pos, if_neg, sy_bi_ri, sy_bi_rt, sy_bv_rv, sy_bv_rt, sy_br_rr, sy_br_rn, sy_hi_ri, sy_hi_rt, sy_bs_t, sy_bx_t, sy_bb_t, bz_bo, ite_bz0, ite_bz1, jgX12_pairs_55, lo, rw1, hn, zsub]
      rw [e0]
      by_cases al : pb W n n (rm S k) = pb W n n S
      · rw [wa al, mv_0]
        obtain ⟨F0, hF0⟩ : ∃ F0, sy_F = F0 + 1 := ⟨5999, sy_F_eq⟩
        rw [hF0]
        show jgX12_pairs_86 (jfX12_pairs_55 F) (jfX12_pairs_86 (jfX12_pairs_55 F) F0) (Int32.ofNat x) (Int32.ofNat S) (Int32.ofNat k) (Int32.ofNat (rm S k)) (-(Int32.ofNat 1)) (Int32.ofNat (n - 1)) M = _
        rw [al] at bR
        by_cases c : k < n - 1
        · simp (disch := omega) only [zL, zlt, zle, zeq, zadd, zmul, zin, zix, zsh1, Nat.add_zero, Nat.zero_add, Nat.mul_zero, if_true, if_false, if_pos, if_neg, sy_bi_ri, sy_bi_rt, sy_bv_rv, sy_bv_rt, sy_br_rr, sy_br_rn, sy_hi_ri, sy_hi_rt, sy_bs_t, sy_bx_t, sy_bb_t, bz_bo, ite_bz0, ite_bz1, jgX12_pairs_86, bR, bS]
        · simp (disch := omega) only [zL, zlt, zle, zeq, zadd, zmul, zin, zix, zsh1, Nat.add_zero, Nat.zero_add, Nat.mul_zero, if_true, if_false, if_pos, if_neg, sy_bi_ri, sy_bi_rt, sy_bv_rv, sy_bv_rt, sy_br_rr, sy_br_rn, sy_hi_ri, sy_hi_rt, sy_bs_t, sy_bx_t, sy_bb_t, bz_bo, ite_bz0, ite_bz1, jgX12_pairs_86]
      · rw [← wb al]
        refine sy_forR (n := d) (F := sy_F) (R := fun c => c = jfX12_pairs_159 (jfX12_pairs_55 F) (Int32.ofNat x) (Int32.ofNat k) (Int32.ofNat (rm S k)) (mv (bw (cw W n S k) n d)) M) (fun q i (_ : Unit) => jfX12_pairs_86 (jfX12_pairs_55 F) q (Int32.ofNat x) (Int32.ofNat S) (Int32.ofNat k) (Int32.ofNat (rm S k)) (mv (bw (cw W n S k) n i)) (Int32.ofNat (n - (i + 1))) M) (fun _ _ => True) ?_ ?_ () trivial (by rw [sy_F_eq]; omega)
        · intro q i _ hi _
          refine Or.inl ⟨(), ?_, trivial⟩
          obtain ⟨o, ho⟩ : ∃ o, o = n - (i + 1) := ⟨_, rfl⟩
          rw [bw_s, ← ho]
          show jgX12_pairs_86 (jfX12_pairs_55 F) (jfX12_pairs_86 (jfX12_pairs_55 F) q) (Int32.ofNat x) (Int32.ofNat S) (Int32.ofNat k) (Int32.ofNat (rm S k)) (mv (bw (cw W n S k) n i)) (Int32.ofNat o) M = _
          have nx : n - (i + 1 + 1) = o - 1 := by omega
          rw [nx]
          have sb := tb_bit (S := rm S k) (p := o) (by omega) (by omega)
          unfold cw
          cases ob : (rm S k).testBit o with
          | false =>
            rw [ob] at sb
            simp (disch := omega) only [zL, zlt, zle, zeq, zadd, zmul, zin, zix, zsh1, Nat.add_zero, Nat.zero_add, Nat.mul_zero, if_true, if_false, if_pos, if_neg, sy_bi_ri, sy_bi_rt, sy_bv_rv, sy_bv_rt, sy_br_rr, sy_br_rn, sy_hi_ri, sy_hi_rt, sy_bs_t, sy_bx_t, sy_bb_t, bz_bo, ite_bz0, ite_bz1, jgX12_pairs_86, jfX12_pairs_153, bR, bS, al, m_isOf, sb, cond_false, zdec, Bool.false_and]
          | true =>
            rw [ob] at sb
            have rl2 := rm_lt ob
            have to := hto k o (by omega) (by omega)
            have rw2 := rm_wi (S := rm S k) (p := o) (by omega) (by omega)
            have bo := hB (rm (rm S k) o) (by omega)
            have l3 := pb_le (n := n) hW n (rm (rm S k) o)
            have l4 := hW k o
            by_cases c : W k o + pb W n n (rm (rm S k) o) = pb W n n S
            · rw [decide_eq_true c, Bool.true_and, cond_true, mv_s]
              simp (disch := omega) only [zL, zlt, zle, zeq, zadd, zmul, zin, zix, zsh1, Nat.add_zero, Nat.zero_add, Nat.mul_zero, if_true, if_false, if_pos, if_neg, sy_bi_ri, sy_bi_rt, sy_bv_rv, sy_bv_rt, sy_br_rr, sy_br_rn, sy_hi_ri, sy_hi_rt, sy_bs_t, sy_bx_t, sy_bb_t, bz_bo, ite_bz0, ite_bz1, jgX12_pairs_86, jfX12_pairs_149, jfX12_pairs_153, bR, bS, al, m_isOf, sb, cond_true, zdec, to, rw2, bo, c]
            · rw [decide_eq_false c, Bool.and_false, cond_false]
              simp (disch := omega) only [zL, zlt, zle, zeq, zadd, zmul, zin, zix, zsh1, Nat.add_zero, Nat.zero_add, Nat.mul_zero, if_true, if_false, if_pos, if_neg, sy_bi_ri, sy_bi_rt, sy_bv_rv, sy_bv_rt, sy_br_rr, sy_br_rn, sy_hi_ri, sy_hi_rt, sy_bs_t, sy_bx_t, sy_bb_t, bz_bo, ite_bz0, ite_bz1, jgX12_pairs_86, jfX12_pairs_149, jfX12_pairs_153, bR, bS, al, m_isOf, sb, cond_true, zdec, to, rw2, bo, c]
        · intro q _ _
          show jgX12_pairs_86 (jfX12_pairs_55 F) (jfX12_pairs_86 (jfX12_pairs_55 F) q) (Int32.ofNat x) (Int32.ofNat S) (Int32.ofNat k) (Int32.ofNat (rm S k)) (mv (bw (cw W n S k) n d)) (Int32.ofNat (n - (d + 1))) M = _
          simp (disch := omega) only [zL, zlt, zle, zeq, zadd, zmul, zin, zix, zsh1, Nat.add_zero, Nat.zero_add, Nat.mul_zero, if_true, if_false, if_pos, if_neg, sy_bi_ri, sy_bi_rt, sy_bv_rv, sy_bv_rt, sy_br_rr, sy_br_rn, sy_hi_ri, sy_hi_rt, sy_bs_t, sy_bx_t, sy_bb_t, bz_bo, ite_bz0, ite_bz1, jgX12_pairs_86]
theorem o_pairs (I : Inv A tx L0 S e M) (he : e < 90000) (a : Int32) : opT A tx L0 S e (jfL_pairs a M) (jfX12_pairs a) := by
  obtain ⟨n, G, H, ht, hA, hl⟩ := id I.1
  have hn := G.2.1
  have h7 := G.2.2.1
  obtain ⟨xk, hxk, exk⟩ := I.2.2.2.2.2.2.2.2.1
  have hx := xok he hxk exk
  have h9 : M 9 3 = Int32.ofNat n := (hv_3 H.1).trans hn
  have D19 := I.2.2.2.2.1
  have hpw := pow_le h7
  obtain ⟨M1, e1, n1, w1, f1⟩ := q_learn H G
  obtain ⟨M2, e2, C2, f2⟩ := c_solve h7 n1
  have n3 : M1 9 3 = Int32.ofNat n := (hv_3 w1.1).trans hn
  have F2 : fq M M2 := f1.trans ⟨fun a ha => f2 a (by unfold qs at ha; omega) (by unfold qs at ha; omega) (by unfold qs at ha; omega) (by unfold qs at ha; omega), fun d => dk_congr d (f2 22 (by decide) (by decide) (by decide) (by decide))⟩
  have ref : ∀ N, rq M N → ∃ N1, jfX12_allBest (thr N 0) = sy_rv N1 ∧ N1 122 3 = Int32.ofNat n ∧ (∀ T, T < 2 ^ n → N1 130 T = Int32.ofNat (pb (hsW (M 122)) n n T)) ∧ (∀ p o, p < 7 → o < 7 → jfX12_together (Int32.ofNat p) (Int32.ofNat o) N1 = sy_ri (Int32.ofNat (hsW (M 122) p o)) N1) ∧ N1 121 0 = (Int32.ofNat 0) ∧ fr N N1 := by
    intro N hN
    have e122 : thr N 0 122 = M 122 := (thr_ne _ _ (by decide)).trans (hN 122 (by omega) (by omega))
    obtain ⟨N1, g1, g2, g3⟩ := m_allBest (M := thr N 0) (n := n) h7 (by rw [e122]; exact hn)
    have h122 : N1 122 = M 122 := (g2 122 (by decide)).trans e122
    rw [e122] at g3
    refine ⟨N1, g1, by rw [h122]; exact hn, g3, fun p o hp ho => ?_, ?_, ⟨fun a ha => ?_, fun j hj => ?_⟩⟩
    · rw [m_together hp ho, h122]
    · rw [g2 121 (by decide)]; exact thr_0 _ _
    · unfold rx at ha
      rw [g2 a (by omega), thr_ne _ _ (by omega)]
    · rw [g2 121 (by decide), thr_j _ _ (by omega)]
  unfold jfL_pairs
  by_cases ha : a = -(Int32.ofNat 1)
  · subst ha
    refine opT_q I (v := Int32.ofNat (pb (hsW (M 122)) n n (2 ^ n - 1))) ⟨M2, ?_, F2⟩ (fun N hN => ?_)
    · have c2 := C2.2.1
      rw [mv_s] at c2
      simp (disch := omega) only [zL, zlt, zle, zeq, zadd, zmul, zin, zix, zsh1, Nat.add_zero, Nat.zero_add, Nat.mul_zero, if_true, if_false, if_pos, if_neg, sy_bi_ri, sy_bi_rt, sy_bv_rv, sy_bv_rt, sy_br_rr, sy_br_rn, sy_hi_ri, sy_hi_rt, sy_bs_t, sy_bx_t, sy_bb_t, bz_bo, ite_bz0, ite_bz1, jfX11_pairs, jfX11_pairs_10, e1, n3, e2, c2]
    · obtain ⟨N1, g1, g2, g3, _, g5, g6⟩ := ref N hN
      refine ⟨N1, ?_, g5, g6⟩
      have al := m_all (M := N1) (n := n) g2 h7
      unfold sp_all at al
      have v := g3 (2 ^ n - 1) (by omega)
      simp (disch := omega) only [zL, zlt, zle, zeq, zadd, zmul, zin, zix, zsh1, Nat.add_zero, Nat.zero_add, Nat.mul_zero, if_true, if_false, if_pos, if_neg, sy_bi_ri, sy_bi_rt, sy_bv_rv, sy_bv_rt, sy_br_rr, sy_br_rn, sy_hi_ri, sy_hi_rt, sy_bs_t, sy_bx_t, sy_bb_t, bz_bo, ite_bz0, ite_bz1, jfX12_pairs, jfX12_pairs_18, jfX12_pairs_19, thr_up, thr_0, g1, al, v]
  · rcases ck_lodger h7 h9 hx a with ⟨p, hp, ea, ck, sa⟩ | ⟨sa, ck⟩
    · subst ea
      refine opT_q I (v := mv (px (hsW (M 122)) n n (2 ^ n - 1) (fun _ => 0) p)) ⟨M2, ?_, F2⟩ (fun N hN => ?_)
      · have c2 := C2.2.2.2.1 p (by omega)
        have p0 : ¬ (Int32.ofNat p < (Int32.ofNat 0)) := znn p (by omega)
        simp (disch := omega) only [zL, zlt, zle, zeq, zadd, zmul, zin, zix, zsh1, Nat.add_zero, Nat.zero_add, Nat.mul_zero, if_true, if_false, if_pos, if_neg, sy_bi_ri, sy_bi_rt, sy_bv_rv, sy_bv_rt, sy_br_rr, sy_br_rn, sy_hi_ri, sy_hi_rt, sy_bs_t, sy_bx_t, sy_bb_t, bz_bo, ite_bz0, ite_bz1, jfX11_pairs, jfX11_pairs_10, jfX9_partnerOf, ha, ck, e1, n3, e2, p0, c2]
      · obtain ⟨N1, g1, g2, g3, g4, g5, g6⟩ := ref N hN
        refine ⟨N1, ?_, g5, g6⟩
        have eN : N 122 3 = Int32.ofNat n := by rw [hN 122 (by omega) (by omega)]; exact hn
        have al := m_all (M := N1) (n := n) g2 h7
        unfold sp_all at al
        have wk := m_walk (M := N1) h7 (hsW_le (M 122)) g2 g3 g4 hp n (Nat.le_refl n) sy_F (by rw [sy_F_eq]; omega) (2 ^ n - 1) (fun _ => 0) (by omega) (fun q hq => by omega) rfl
        simp (disch := omega) only [zL, zlt, zle, zeq, zadd, zmul, zin, zix, zsh1, Nat.add_zero, Nat.zero_add, Nat.mul_zero, if_true, if_false, if_pos, if_neg, sy_bi_ri, sy_bi_rt, sy_bv_rv, sy_bv_rt, sy_br_rr, sy_br_rn, sy_hi_ri, sy_hi_rt, sy_bs_t, sy_bx_t, sy_bb_t, bz_bo, ite_bz0, ite_bz1, jfX12_pairs, jfX12_pairs_18, jfX12_pairs_19, ha, m_isLodger, eN, sa, cond_true, thr_up, thr_0, g1, al, wk]
    · refine opT_x I (cl := 22) (c := 1) ?_ rfl (by decide) (by decide) ?_
      · simp (disch := omega) only [zL, zlt, zle, zeq, zadd, zmul, zin, zix, zsh1, Nat.add_zero, Nat.zero_add, Nat.mul_zero, if_true, if_false, if_pos, if_neg, sy_bi_ri, sy_bi_rt, sy_bv_rv, sy_bv_rt, sy_br_rr, sy_br_rn, sy_hi_ri, sy_hi_rt, sy_bs_t, sy_bx_t, sy_bb_t, bz_bo, ite_bz0, ite_bz1, jfX11_pairs, ha, ck]
        all_goals rfl
      · intro N hN
        have eN : N 122 3 = Int32.ofNat n := by rw [hN 122 (by omega) (by omega)]; exact hn
        exact ⟨(Int32.ofNat 0), thr N 1, by simp (disch := omega) only [zL, zlt, zle, zeq, zadd, zmul, zin, zix, zsh1, Nat.add_zero, Nat.zero_add, Nat.mul_zero, if_true, if_false, if_pos, if_neg, sy_bi_ri, sy_bi_rt, sy_bv_rv, sy_bv_rt, sy_br_rr, sy_br_rn, sy_hi_ri, sy_hi_rt, sy_bs_t, sy_bx_t, sy_bb_t, bz_bo, ite_bz0, ite_bz1, jfX12_pairs, jfX12_pairs_19, ha, sa, m_isLodger, eN, m_isIn, m_isTick, cond_true, cond_false, thr_up, thr_0], thr_0 _ _, fr_thr⟩
end
