/-! ===== pairs: the reference ===== -/
section
variable {A : (Nat → Int32) → Nat → Int32 × Bool} {tx : (Nat → Int32) → Prop} {L0 : Int32} {S : Nat → Int32} {e : Nat} {M : sy_M}
variable {n : Nat} {f : Nat → Int32} {W : Nat → Nat → Nat}
theorem m_lowest {S p : Nat} (hS : S < 128) (hp : p < 7) (h1 : S.testBit p = true) (h2 : ∀ q, q < p → S.testBit q = false) : jfX12_lowest (Int32.ofNat S) M = sy_ri (Int32.ofNat p) M := by
  unfold jfX12_lowest
  refine sy_forR (n := p) (F := sy_F) (R := fun c => c = sy_ri (Int32.ofNat p) M) (fun k i (_ : Unit) => jfX12_lowest_2 k (Int32.ofNat S) (Int32.ofNat i) M) (fun _ _ => True) ?_ ?_ () trivial (by rw [sy_F_eq]; omega)
  · intro k i _ hi _
    refine Or.inl ⟨(), ?_, trivial⟩
    show jgX12_lowest_2 (jfX12_lowest_2 k) (Int32.ofNat S) (Int32.ofNat i) M = _
    have q : sp_bit (Int32.ofNat S) i = false := (tb_bit hS (by omega)).trans (h2 i hi)
    simp (disch := omega) only [zL, zlt, zle, zeq, zadd, zmul, zin, zix, zsh1, Nat.add_zero, Nat.zero_add, Nat.mul_zero, if_true, if_false, if_pos, if_neg, sy_bi_ri, sy_bi_rt, sy_bv_rv, sy_bv_rt, sy_br_rr, sy_br_rn, sy_hi_ri, sy_hi_rt, sy_bs_t, sy_bx_t, sy_bb_t, bz_bo, ite_bz0, ite_bz1, jgX12_lowest_2, m_isOf, q, cond_false]
  · intro k _ _
    show jgX12_lowest_2 (jfX12_lowest_2 k) (Int32.ofNat S) (Int32.ofNat p) M = _
    have q : sp_bit (Int32.ofNat S) p = true := (tb_bit hS hp).trans h1
    simp (disch := omega) only [zL, zlt, zle, zeq, zadd, zmul, zin, zix, zsh1, Nat.add_zero, Nat.zero_add, Nat.mul_zero, if_true, if_false, if_pos, if_neg, sy_bi_ri, sy_bi_rt, sy_bv_rv, sy_bv_rt, sy_br_rr, sy_br_rn, sy_hi_ri, sy_hi_rt, sy_bs_t, sy_bx_t, sy_bb_t, bz_bo, ite_bz0, ite_bz1, jgX12_lowest_2, m_isOf, q, cond_true]
theorem tb_low {S : Nat} (hS : S < 128) (h0 : S ≠ 0) : ∃ p, p < 7 ∧ S.testBit p = true ∧ ∀ q, q < p → S.testBit q = false := by
  have : ∀ S : Fin 128, S.1 ≠ 0 → ∃ p : Fin 7, S.1.testBit p.1 = true ∧ ∀ q : Fin 7, q.1 < p.1 → S.1.testBit q.1 = false := by decide +kernel
  obtain ⟨p, h1, h2⟩ := this ⟨S, hS⟩ h0
  exact ⟨p.1, p.2, h1, fun q hq => h2 ⟨q, by omega⟩ hq⟩
theorem rm_lt {S p : Nat} (h : S.testBit p = true) : rm S p < S := by
  unfold rm
  rw [if_pos h]
  have h1 := Nat.ge_two_pow_of_testBit h
  have h2 : 0 < 2 ^ p := Nat.two_pow_pos p
  omega
theorem pb_z (W : Nat → Nat → Nat) (n : Nat) : ∀ d, pb W n d 0 = 0
  | 0 => rfl
  | d + 1 => by
    rw [pb_s, if_neg (by rw [Nat.zero_testBit]; decide)]
    exact pb_z W n d
theorem pkk_le (hW : ∀ p o, W p o ≤ 48) (d S i : Nat) : (pk W n d S i).1 ≤ 48 * d + 48 := by
  have pl := fun T => pb_le (n := n) hW d T
  obtain ⟨_, _, g3, g4⟩ := pg_spec (pvl W n d S) (fun o => S.testBit o) (pb W n d (rm S (n - (d + 1)))) (n - (d + 1) + 1) i
  by_cases c : (pk W n d S i).2 = 0
  · have g5 : (pk W n d S i).1 = _ := g3 c
    rw [g5]
    have := pl (rm S (n - (d + 1)))
    omega
  · obtain ⟨i', _, _, _, g5, _⟩ := g4 c
    have g6 : (pk W n d S i).1 = _ := g5
    rw [g6]
    unfold pvl
    have h5 := pl (rm (rm S (n - (d + 1))) (n - (d + 1) + 1 + i'))
    have h6 := hW (n - (d + 1)) (n - (d + 1) + 1 + i')
    omega
theorem m_best_in {S p d : Nat} (h7 : n ≤ 7) (hn : M 122 3 = Int32.ofNat n) (hS : S < 2 ^ n) (hd : n = d + 1 + p) (hb : S.testBit p = true) (hl : ∀ q, q < p → S.testBit q = false) (k9 : Int32 → sy_M → sy_O) {N : sy_M} (h0 : ∀ a, a ≠ 130 → N a = M a) (hT : ∀ T, T < S → N 130 T = Int32.ofNat (pb (hsW (M 122)) n n T)) (h1 : N 130 S = Int32.ofNat (pb (hsW (M 122)) n d (rm S p))) : ∃ N1, jfX12_allBest_47 k9 sy_F (Int32.ofNat S) (Int32.ofNat p) (Int32.ofNat (rm S p)) (Int32.ofNat (p + 1)) N = k9 (Int32.ofNat (S + 1)) N1 ∧ (∀ a, a ≠ 130 → N1 a = M a) ∧ (∀ T, T < S + 1 → N1 130 T = Int32.ofNat (pb (hsW (M 122)) n n T)) := by
  obtain ⟨W, eW⟩ : ∃ W, W = hsW (M 122) := ⟨_, rfl⟩
  have hW : ∀ p o, W p o ≤ 48 := fun p o => by rw [eW]; exact hsW_le _ p o
  rw [← eW] at hT h1 ⊢
  have hpw := pow_le h7
  have np : n - (d + 1) = p := by omega
  have rl := rm_lt hb
  refine sy_forR (n := d) (F := sy_F) (R := fun c => ∃ N1, c = k9 (Int32.ofNat (S + 1)) N1 ∧ (∀ a, a ≠ 130 → N1 a = M a) ∧ (∀ T, T < S + 1 → N1 130 T = Int32.ofNat (pb W n n T))) (fun k i (N1 : sy_M) => jfX12_allBest_47 k9 k (Int32.ofNat S) (Int32.ofNat p) (Int32.ofNat (rm S p)) (Int32.ofNat (p + 1 + i)) N1) (fun i N1 => (∀ a, a ≠ 130 → N1 a = M a) ∧ (∀ T, T < S → N1 130 T = Int32.ofNat (pb W n n T)) ∧ N1 130 S = Int32.ofNat (pk W n d S i).1) ?_ ?_ N ⟨h0, hT, ?_⟩ (by rw [sy_F_eq]; omega)
  · intro k i N1 hi ⟨g0, gT, g1⟩
    obtain ⟨o, ho⟩ : ∃ o, o = p + 1 + i := ⟨_, rfl⟩
    have nx : p + 1 + (i + 1) = o + 1 := by omega
    have hks : pk W n d S (i + 1) = if S.testBit o = true ∧ (pk W n d S i).1 < pvl W n d S o then (pvl W n d S o, o + 1) else pk W n d S i := by
      unfold pk
      rw [pg_s, np, ← ho]
    have n3 : N1 122 3 = Int32.ofNat n := by rw [g0 122 (by decide)]; exact hn
    have rb : (rm S p).testBit o = S.testBit o := by
      rw [rm_bit (by omega) (by omega) (by omega), decide_eq_false (show ¬ o = p by omega), Bool.not_false, Bool.and_true]
    have sb : sp_bit (Int32.ofNat (rm S p)) o = S.testBit o := (tb_bit (by omega) (by omega)).trans rb
    rw [nx]
    left
    show ∃ a', jfX12_allBest_47 k9 (k + 1) (Int32.ofNat S) (Int32.ofNat p) (Int32.ofNat (rm S p)) (Int32.ofNat (p + 1 + i)) N1 = _ ∧ _
    rw [← ho]
    show ∃ a', jgX12_allBest_47 k9 (jfX12_allBest_47 k9 k) (Int32.ofNat S) (Int32.ofNat p) (Int32.ofNat (rm S p)) (Int32.ofNat o) N1 = _ ∧ _
    cases ob : S.testBit o with
    | false =>
      rw [ob] at sb
      refine ⟨N1, ?_, g0, gT, ?_⟩
      · simp (disch := omega) only [zL, zlt, zle, zeq, zadd, zmul, zin, zix, zsh1, Nat.add_zero, Nat.zero_add, Nat.mul_zero, if_true, if_false, if_pos, if_neg, sy_bi_ri, sy_bi_rt, sy_bv_rv, sy_bv_rt, sy_br_rr, sy_br_rn, sy_hi_ri, sy_hi_rt, sy_bs_t, sy_bx_t, sy_bb_t, bz_bo, ite_bz0, ite_bz1, jgX12_allBest_47, jfX12_allBest_103, n3, m_isOf, sb, cond_false]
      · rw [hks, ob, if_neg (by intro z; exact absurd z.1 (by decide))]
        exact g1
    | true =>
      rw [ob] at sb rb
      have rl2 := rm_lt rb
      have to := m_together (M := N1) (p := p) (o := o) (by omega) (by omega)
      rw [g0 122 (by decide), ← eW] at to
      have rw1 := rm_wi (S := rm S p) (p := o) (by omega) (by omega)
      have v1 := gT (rm (rm S p) o) (by omega)
      have v2 : pb W n n (rm (rm S p) o) = pb W n d (rm (rm S p) o) := pb_n (by omega) (fun q hq => by
        rw [rm_bit (by omega) (by omega) (by omega), rm_bit (by omega) (by omega) (by omega)]
        by_cases c : q = p
        · rw [decide_eq_true c]; simp
        · rw [hl q (by omega)]; rfl)
      rw [v2] at v1
      have l1 := pkk_le (n := n) hW d S i
      have l2 := pb_le (n := n) hW d (rm (rm S p) o)
      have l3 := hW p o
      have ev : pvl W n d S o = W p o + pb W n d (rm (rm S p) o) := by unfold pvl; rw [np]
      refine ⟨syc N1 130 (rs (N1 130) S (Int32.ofNat (max (pk W n d S i).1 (W p o + pb W n d (rm (rm S p) o))))), ?_, fun a ha => by rw [syc_ne _ _ ha]; exact g0 a ha, fun T hT => by rw [syc_at, rs_ne _ _ (by omega)]; exact gT T hT, ?_⟩
      · simp (disch := omega) only [zL, zlt, zle, zeq, zadd, zmul, zin, zix, zsh1, Nat.add_zero, Nat.zero_add, Nat.mul_zero, if_true, if_false, if_pos, if_neg, sy_bi_ri, sy_bi_rt, sy_bv_rv, sy_bv_rt, sy_br_rr, sy_br_rn, sy_hi_ri, sy_hi_rt, sy_bs_t, sy_bx_t, sy_bb_t, bz_bo, ite_bz0, ite_bz1, jgX12_allBest_47, jfX12_allBest_103, n3, m_isOf, sb, cond_true, to, rw1, v1, g1, m_greater, zmax, sy_upd_st]
      · rw [syc_at, rs_at, hks, ob, ← ev]
        by_cases c : (pk W n d S i).1 < pvl W n d S o
        · rw [if_pos ⟨rfl, c⟩, Nat.max_eq_right (by omega)]
        · rw [if_neg (fun z => c z.2), Nat.max_eq_left (by omega)]
  · intro k N1 ⟨g0, gT, g1⟩
    refine ⟨N1, ?_, g0, fun T hT => ?_⟩
    · show jgX12_allBest_47 k9 (jfX12_allBest_47 k9 k) (Int32.ofNat S) (Int32.ofNat p) (Int32.ofNat (rm S p)) (Int32.ofNat (p + 1 + d)) N1 = _
      have n3 : N1 122 3 = Int32.ofNat n := by rw [g0 122 (by decide)]; exact hn
      simp (disch := omega) only [zL, zlt, zle, zeq, zadd, zmul, zin, zix, zsh1, Nat.add_zero, Nat.zero_add, Nat.mul_zero, if_true, if_false, if_pos, if_neg, sy_bi_ri, sy_bi_rt, sy_bv_rv, sy_bv_rt, sy_br_rr, sy_br_rn, sy_hi_ri, sy_hi_rt, sy_bs_t, sy_bx_t, sy_bb_t, bz_bo, ite_bz0, ite_bz1, jgX12_allBest_47, n3]
    · by_cases c : T = S
      · subst c
        rw [g1, pb_n (d := d + 1) (by omega) (fun q hq => hl q (by omega)), pb_s, np, if_pos hb]
      · exact gT T (by omega)
  · rw [h1]
    show _ = Int32.ofNat (pb W n d (rm S (n - (d + 1))))
    rw [np]
theorem m_allBest (h7 : n ≤ 7) (hn : M 122 3 = Int32.ofNat n) : ∃ N1, jfX12_allBest M = sy_rv N1 ∧ (∀ a, a ≠ 130 → N1 a = M a) ∧ ∀ T, T < 2 ^ n → N1 130 T = Int32.ofNat (pb (hsW (M 122)) n n T) := by
  have hpw := pow_le h7
  unfold jfX12_allBest
  refine sy_forR (n := 2 ^ n - 1) (F := sy_F) (R := fun c => ∃ N1, c = sy_rv N1 ∧ (∀ a, a ≠ 130 → N1 a = M a) ∧ ∀ T, T < 2 ^ n → N1 130 T = Int32.ofNat (pb (hsW (M 122)) n n T)) (fun k i (N : sy_M) => jfX12_allBest_9 k (Int32.ofNat (i + 1)) N) (fun i N => (∀ a, a ≠ 130 → N a = M a) ∧ ∀ T, T < i + 1 → N 130 T = Int32.ofNat (pb (hsW (M 122)) n n T)) ?_ ?_ (sy_upd M 130 0 0) ⟨fun a ha => by rw [sy_upd_st, syc_ne _ _ ha], fun T hT => ?_⟩ (by rw [sy_F_eq]; omega)
  · intro k i N hi ⟨g0, gT⟩
    obtain ⟨S, hS⟩ : ∃ S, S = i + 1 := ⟨_, rfl⟩
    obtain ⟨p, hp, hb, hl⟩ := tb_low (S := S) (by omega) (by omega)
    have pn := tb_lt h7 (show S < 2 ^ n by omega) hb
    obtain ⟨d, hd⟩ : ∃ d, n = d + 1 + p := ⟨n - 1 - p, by omega⟩
    have n3 : N 122 3 = Int32.ofNat n := by rw [g0 122 (by decide)]; exact hn
    have al := m_all (M := N) (n := n) n3 h7
    have lo := m_lowest (M := N) (S := S) (by omega) hp hb hl
    have rw1 := rm_wi (S := S) (p := p) (by omega) hp
    have rl := rm_lt hb
    have v1 := gT (rm S p) (by omega)
    have v2 : pb (hsW (M 122)) n n (rm S p) = pb (hsW (M 122)) n d (rm S p) := pb_n (by omega) (fun q hq => by
      rw [rm_bit (by omega) (by omega) (by omega)]
      by_cases c : q = p
      · rw [decide_eq_true c]; simp
      · rw [hl q (by omega)]; rfl)
    obtain ⟨N1, e1, q0, qT⟩ := m_best_in (M := M) (S := S) (p := p) (d := d) (N := syc N 130 (rs (N 130) S (N 130 (rm S p)))) h7 hn (by omega) hd hb hl (jfX12_allBest_9 k) (fun a ha => by rw [syc_ne _ _ ha]; exact g0 a ha) (fun T hT => by rw [syc_at, rs_ne _ _ (by omega)]; exact gT T (by omega)) (by rw [syc_at, rs_at, v1, v2])
    refine Or.inl ⟨N1, ?_, q0, fun T hT => qT T (by omega)⟩
    show jgX12_allBest_9 (jfX12_allBest_9 k) (Int32.ofNat (i + 1)) N = jfX12_allBest_9 k (Int32.ofNat (i + 1 + 1)) N1
    rw [← hS]
    have nl : ¬ (sp_all n < Int32.ofNat S) := all_lt h7 (by omega)
    simp (disch := omega) only [zL, zlt, zle, zeq, zadd, zmul, zin, zix, zsh1, Nat.add_zero, Nat.zero_add, Nat.mul_zero, if_true, if_false, if_pos, if_neg, sy_bi_ri, sy_bi_rt, sy_bv_rv, sy_bv_rt, sy_br_rr, sy_br_rn, sy_hi_ri, sy_hi_rt, sy_bs_t, sy_bx_t, sy_bb_t, bz_bo, ite_bz0, ite_bz1, jgX12_allBest_9, al, nl, lo, rw1, sy_upd_st, e1]
  · intro k N ⟨g0, gT⟩
    refine ⟨N, ?_, g0, fun T hT => gT T (by omega)⟩
    show jgX12_allBest_9 (jfX12_allBest_9 k) (Int32.ofNat (2 ^ n - 1 + 1)) N = _
    have al := m_all (M := N) (n := n) (by rw [g0 122 (by decide)]; exact hn) h7
    rw [show 2 ^ n - 1 + 1 = 2 ^ n by omega]
    simp only [jgX12_allBest_9, al, sy_bi_ri]
    rw [if_pos (all_ge h7)]
  · have : T = 0 := by omega
    subst this
    rw [sy_upd_st, syc_at, rs_at, pb_z]
    rfl
end
