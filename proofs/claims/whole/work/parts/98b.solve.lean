/-! ===== pairs: hours shared, the class's solve ===== -/
section
variable {A : (Nat → Int32) → Nat → Int32 × Bool} {tx : (Nat → Int32) → Prop} {L0 : Int32} {S : Nat → Int32} {e : Nat} {M : sy_M}
variable {n : Nat} {f : Nat → Int32}
def hsW (f : Nat → Int32) (p o : Nat) : Nat := sm (fun t => b1 (sp_at f p (Int32.ofNat t) && sp_at f o (Int32.ofNat t))) 48
theorem hsW_le (f : Nat → Int32) (p o : Nat) : hsW f p o ≤ 48 := by
  have := sm_le (fun t => b1 (sp_at f p (Int32.ofNat t) && sp_at f o (Int32.ofNat t))) 1 48 (fun i _ => b1_le _)
  unfold hsW
  omega
theorem m_together {p o : Nat} (hp : p < 7) (ho : o < 7) : jfX12_together (Int32.ofNat p) (Int32.ofNat o) M = sy_ri (Int32.ofNat (hsW (M 122) p o)) M := by
  unfold jfX12_together hsW
  refine sy_forR (n := 48) (F := sy_F) (R := fun c => c = sy_ri (Int32.ofNat (sm (fun t => b1 (sp_at (M 122) p (Int32.ofNat t) && sp_at (M 122) o (Int32.ofNat t))) 48)) M) (fun k i (_ : Unit) => jfX12_together_5 k (Int32.ofNat p) (Int32.ofNat o) (Int32.ofNat (sm (fun t => b1 (sp_at (M 122) p (Int32.ofNat t) && sp_at (M 122) o (Int32.ofNat t))) i)) (Int32.ofNat i) M) (fun _ _ => True) ?_ ?_ () trivial (by rw [sy_F_eq]; omega)
  · intro k i _ hi _
    refine Or.inl ⟨(), ?_, trivial⟩
    show jgX12_together_5 (jfX12_together_5 k) (Int32.ofNat p) (Int32.ofNat o) (Int32.ofNat (sm _ i)) (Int32.ofNat i) M = _
    rw [sm_s]
    simp (disch := omega) only [zL, zlt, zle, zeq, zadd, zmul, zin, zix, zsh1, Nat.add_zero, Nat.zero_add, Nat.mul_zero, if_true, if_false, if_pos, if_neg, sy_bi_ri, sy_bi_rt, sy_bv_rv, sy_bv_rt, sy_br_rr, sy_br_rn, sy_hi_ri, sy_hi_rt, sy_bs_t, sy_bx_t, sy_bb_t, bz_bo, ite_bz0, ite_bz1, jgX12_together_5, jfX12_together_37, jfX12_together_38, m_atHome]
    cases sp_at (M 122) p (Int32.ofNat i) <;> cases sp_at (M 122) o (Int32.ofNat i) <;> rfl
  · intro k _ _
    show jgX12_together_5 (jfX12_together_5 k) (Int32.ofNat p) (Int32.ofNat o) (Int32.ofNat (sm _ 48)) (Int32.ofNat 48) M = _
    simp (disch := omega) only [zL, zlt, zle, zeq, zadd, zmul, zin, zix, zsh1, Nat.add_zero, Nat.zero_add, Nat.mul_zero, if_true, if_false, if_pos, if_neg, sy_bi_ri, sy_bi_rt, sy_bv_rv, sy_bv_rt, sy_br_rr, sy_br_rn, sy_hi_ri, sy_hi_rt, sy_bs_t, sy_bx_t, sy_bb_t, bz_bo, ite_bz0, ite_bz1, jgX12_together_5]
def shM (f : Nat → Int32) (n : Nat) (a : Int32) : Nat := sm (fun t => b1 (decide (sp_home f n (Int32.ofNat t) &&& a = a))) 48
theorem c_shared (hN : nt M n f) (a : Int32) : jfX9_sharedTicks a M = sy_ri (Int32.ofNat (shM f n a)) M := by
  unfold jfX9_sharedTicks shM
  refine sy_forR (n := 48) (F := sy_F) (R := fun c => c = sy_ri (Int32.ofNat (sm (fun t => b1 (decide (sp_home f n (Int32.ofNat t) &&& a = a))) 48)) M) (fun k i (_ : Unit) => jfX9_sharedTicks_4 k a (Int32.ofNat (sm (fun t => b1 (decide (sp_home f n (Int32.ofNat t) &&& a = a))) i)) (Int32.ofNat i) M) (fun _ _ => True) ?_ ?_ () trivial (by rw [sy_F_eq]; omega)
  · intro k i _ hi _
    refine Or.inl ⟨(), ?_, trivial⟩
    show jgX9_sharedTicks_4 (jfX9_sharedTicks_4 k) a (Int32.ofNat (sm _ i)) (Int32.ofNat i) M = _
    rw [sm_s]
    simp (disch := omega) only [zL, zlt, zle, zeq, zadd, zmul, zin, zix, zsh1, Nat.add_zero, Nat.zero_add, Nat.mul_zero, if_true, if_false, if_pos, if_neg, sy_bi_ri, sy_bi_rt, sy_bv_rv, sy_bv_rt, sy_br_rr, sy_br_rn, sy_hi_ri, sy_hi_rt, sy_bs_t, sy_bx_t, sy_bb_t, bz_bo, ite_bz0, ite_bz1, jgX9_sharedTicks_4, jfX9_sharedTicks_24, c_presentAt hN]
    by_cases c : sp_home f n (Int32.ofNat i) &&& a = a
    · rw [if_pos c, decide_eq_true c]; rfl
    · rw [if_neg c, decide_eq_false c]; rfl
  · intro k _ _
    show jgX9_sharedTicks_4 (jfX9_sharedTicks_4 k) a (Int32.ofNat (sm _ 48)) (Int32.ofNat 48) M = _
    simp (disch := omega) only [zL, zlt, zle, zeq, zadd, zmul, zin, zix, zsh1, Nat.add_zero, Nat.zero_add, Nat.mul_zero, if_true, if_false, if_pos, if_neg, sy_bi_ri, sy_bi_rt, sy_bv_rv, sy_bv_rt, sy_br_rr, sy_br_rn, sy_hi_ri, sy_hi_rt, sy_bs_t, sy_bx_t, sy_bb_t, bz_bo, ite_bz0, ite_bz1, jgX9_sharedTicks_4]
theorem two_and {S p o : Nat} (hS : S < 128) (hp : p < 7) (ho : o < 7) : decide (Int32.ofNat S &&& (((Int32.ofNat 1) <<< Int32.ofNat p) ||| ((Int32.ofNat 1) <<< Int32.ofNat o)) = (((Int32.ofNat 1) <<< Int32.ofNat p) ||| ((Int32.ofNat 1) <<< Int32.ofNat o))) = (sp_bit (Int32.ofNat S) p && sp_bit (Int32.ofNat S) o) := by
  have : ∀ (S : Fin 128) (p o : Fin 7), decide (Int32.ofNat S.1 &&& (((Int32.ofNat 1) <<< Int32.ofNat p.1) ||| ((Int32.ofNat 1) <<< Int32.ofNat o.1)) = (((Int32.ofNat 1) <<< Int32.ofNat p.1) ||| ((Int32.ofNat 1) <<< Int32.ofNat o.1))) = (sp_bit (Int32.ofNat S.1) p.1 && sp_bit (Int32.ofNat S.1) o.1) := by decide +kernel
  exact this ⟨S, hS⟩ ⟨p, hp⟩ ⟨o, ho⟩
theorem shM_two (h7 : n ≤ 7) {p o : Nat} (hp : p < n) (ho : o < n) : shM f n (((Int32.ofNat 1) <<< Int32.ofNat p) ||| ((Int32.ofNat 1) <<< Int32.ofNat o)) = hsW f p o := by
  unfold shM hsW
  refine sm_congr 48 (fun t _ => ?_)
  show b1 (decide (sp_home f n (Int32.ofNat t) &&& _ = _)) = b1 (_ && _)
  obtain ⟨k, hk, e, _⟩ := home_cnt (f := f) (n := n) (t := Int32.ofNat t) h7
  rw [e, two_and hk (by omega) (by omega), ← e, home_bit (by omega) n h7, home_bit (by omega) n h7, decide_eq_true hp, decide_eq_true ho, Bool.true_and, Bool.true_and]
def so (f : Nat → Int32) (n : Nat) (M : sy_M) (x : Nat) (N : sy_M) : Prop := N 53 3 = Int32.ofNat n ∧ N 53 4 = -(Int32.ofNat 1) ∧ (∀ p' o', o' < 7 → p' * 7 + o' < x → N 54 (p' * 7 + o') = Int32.ofNat (shM f n (((Int32.ofNat 1) <<< Int32.ofNat p') ||| ((Int32.ofNat 1) <<< Int32.ofNat o')))) ∧ (∀ a, a ≠ 53 → a ≠ 54 → a ≠ 55 → a ≠ 56 → N a = M a)
theorem c_solve_in (hN : nt M n f) {i : Nat} (hi : i < 7) (k21 : Int32 → sy_M → sy_O) {N : sy_M} (C : so f n M (i * 7) N) : ∃ N1, jfX9_solve_44 k21 sy_F (Int32.ofNat i) (Int32.ofNat 0) N = k21 (Int32.ofNat (i + 1)) N1 ∧ so f n M (i * 7 + 7) N1 ∧ N1 55 = N 55 ∧ N1 56 = N 56 := by
  refine sy_forR (n := 7) (F := sy_F) (R := fun c => ∃ N1, c = k21 (Int32.ofNat (i + 1)) N1 ∧ so f n M (i * 7 + 7) N1 ∧ N1 55 = N 55 ∧ N1 56 = N 56) (fun k j (N1 : sy_M) => jfX9_solve_44 k21 k (Int32.ofNat i) (Int32.ofNat j) N1) (fun j N1 => so f n M (i * 7 + j) N1 ∧ N1 55 = N 55 ∧ N1 56 = N 56) ?_ ?_ N ⟨C, rfl, rfl⟩ (by rw [sy_F_eq]; omega)
  · intro k j N1 hj ⟨C1, g5, g6⟩
    have nN : nt N1 n f := nt_congr hN (C1.2.2.2 50 (by decide) (by decide) (by decide) (by decide)) (C1.2.2.2 51 (by decide) (by decide) (by decide) (by decide))
    refine Or.inl ⟨syc N1 54 (rs (N1 54) (i * 7 + j) (Int32.ofNat (shM f n (((Int32.ofNat 1) <<< Int32.ofNat i) ||| ((Int32.ofNat 1) <<< Int32.ofNat j))))), ?_, ⟨?_, ?_, ?_, ?_⟩, ?_, ?_⟩
    · show jgX9_solve_44 k21 (jfX9_solve_44 k21 k) (Int32.ofNat i) (Int32.ofNat j) N1 = _
      simp (disch := omega) only [zL, zlt, zle, zeq, zadd, zmul, zin, zix, zsh1, Nat.add_zero, Nat.zero_add, Nat.mul_zero, if_true, if_false, if_pos, if_neg, sy_bi_ri, sy_bi_rt, sy_bv_rv, sy_bv_rt, sy_br_rr, sy_br_rn, sy_hi_ri, sy_hi_rt, sy_bs_t, sy_bx_t, sy_bb_t, bz_bo, ite_bz0, ite_bz1, jgX9_solve_44, c_shared nN, sy_upd_st]
    · rw [syc_ne _ _ (by decide)]; exact C1.1
    · rw [syc_ne _ _ (by decide)]; exact C1.2.1
    · intro p' o' h1 h2
      rw [syc_at]
      by_cases c : p' * 7 + o' = i * 7 + j
      · have c1 : p' = i := by omega
        have c2 : o' = j := by omega
        rw [c1, c2, rs_at]
      · rw [rs_ne _ _ c]
        exact C1.2.2.1 p' o' h1 (by omega)
    · intro a h1 h2 h3 h4
      rw [syc_ne _ _ h2]
      exact C1.2.2.2 a h1 h2 h3 h4
    · rw [syc_ne _ _ (by decide)]; exact g5
    · rw [syc_ne _ _ (by decide)]; exact g6
  · intro k N1 h
    refine ⟨N1, ?_, h⟩
    show jgX9_solve_44 k21 (jfX9_solve_44 k21 k) (Int32.ofNat i) (Int32.ofNat 7) N1 = _
    simp (disch := omega) only [zL, zlt, zle, zeq, zadd, zmul, zin, zix, zsh1, Nat.add_zero, Nat.zero_add, Nat.mul_zero, if_true, if_false, if_pos, if_neg, sy_bi_ri, sy_bi_rt, sy_bv_rv, sy_bv_rt, sy_br_rr, sy_br_rn, sy_hi_ri, sy_hi_rt, sy_bs_t, sy_bx_t, sy_bb_t, bz_bo, ite_bz0, ite_bz1, jgX9_solve_44]
theorem all_tb {n o : Nat} (h7 : n ≤ 7) (ho : o < n) : (2 ^ n - 1).testBit o = true := by
  have : ∀ (n : Fin 8) (o : Fin 7), o.1 < n.1 → (2 ^ n.1 - 1).testBit o.1 = true := by decide +kernel
  exact this ⟨n, by omega⟩ ⟨o, by omega⟩ ho
theorem c_solve (h7 : n ≤ 7) (hN : nt M n f) : ∃ M1, jfX9_solve (Int32.ofNat n) M = sy_rv M1 ∧ cs (hsW f) n (fun _ => 0) (pb (hsW f) n n (2 ^ n - 1) + 1, px (hsW f) n n (2 ^ n - 1) (fun _ => 0)) M1 ∧ (∀ a, a ≠ 53 → a ≠ 54 → a ≠ 55 → a ≠ 56 → M1 a = M a) := by
  obtain ⟨N0, hN0⟩ : ∃ N0, N0 = sy_upd (sy_upd M 53 3 (Int32.ofNat n)) 53 4 (-(Int32.ofNat 1)) := ⟨_, rfl⟩
  have hpw := pow_le h7
  have e0 : jfX9_solve (Int32.ofNat n) M = jfX9_solve_21 sy_F (Int32.ofNat 0) N0 := by
    have a1 : max 0 (min 7 n) = n := by omega
    rw [hN0]
    simp (disch := omega) only [zL, zlt, zle, zeq, zadd, zmul, zin, zix, zsh1, Nat.add_zero, Nat.zero_add, Nat.mul_zero, if_true, if_false, if_pos, if_neg, sy_bi_ri, sy_bi_rt, sy_bv_rv, sy_bv_rt, sy_br_rr, sy_br_rn, sy_hi_ri, sy_hi_rt, sy_bs_t, sy_bx_t, sy_bb_t, bz_bo, ite_bz0, ite_bz1, jfX9_solve, c_lesser, c_max, zmin, zmax, a1]
  rw [e0]
  refine sy_forR (n := 7) (F := sy_F) (R := fun c => ∃ M1, c = sy_rv M1 ∧ cs (hsW f) n (fun _ => 0) (pb (hsW f) n n (2 ^ n - 1) + 1, px (hsW f) n n (2 ^ n - 1) (fun _ => 0)) M1 ∧ (∀ a, a ≠ 53 → a ≠ 54 → a ≠ 55 → a ≠ 56 → M1 a = M a)) (fun k i (N : sy_M) => jfX9_solve_21 k (Int32.ofNat i) N) (fun i N => so f n M (i * 7) N ∧ ∀ j, j < i → N 55 j = -(Int32.ofNat 1) ∧ N 56 j = -(Int32.ofNat 1)) ?_ ?_ N0 ⟨⟨?_, ?_, fun _ _ _ h => by omega, ?_⟩, fun j hj => by omega⟩ (by rw [sy_F_eq]; omega)
  · intro k i N hi ⟨C, z⟩
    obtain ⟨N2, hN2⟩ : ∃ N2, N2 = syc (syc N 55 (rs (N 55) i (-(Int32.ofNat 1)))) 56 (rs (N 56) i (-(Int32.ofNat 1))) := ⟨_, rfl⟩
    have ne2 : ∀ a, a ≠ 55 → a ≠ 56 → N2 a = N a := fun a h1 h2 => by rw [hN2, syc_ne _ _ h2, syc_ne _ _ h1]
    have C2 : so f n M (i * 7) N2 := ⟨by rw [ne2 53 (by decide) (by decide)]; exact C.1, by rw [ne2 53 (by decide) (by decide)]; exact C.2.1, fun p' o' h1 h2 => by rw [ne2 54 (by decide) (by decide)]; exact C.2.2.1 p' o' h1 h2, fun a h1 h2 h3 h4 => by rw [ne2 a h3 h4]; exact C.2.2.2 a h1 h2 h3 h4⟩
    obtain ⟨N3, e3, C3, g5, g6⟩ := c_solve_in hN hi (jfX9_solve_21 k) C2
    refine Or.inl ⟨N3, ?_, ?_, fun j hj => ?_⟩
    · show jgX9_solve_21 (jfX9_solve_21 k) (Int32.ofNat i) N = _
      have u1 : sy_upd (sy_upd N 55 i (-(Int32.ofNat 1))) 56 i (-(Int32.ofNat 1)) = N2 := by rw [hN2, sy_upd_st, sy_upd_st, syc_ne _ _ (by decide)]
      simp (disch := omega) only [zL, zlt, zle, zeq, zadd, zmul, zin, zix, zsh1, Nat.add_zero, Nat.zero_add, Nat.mul_zero, if_true, if_false, if_pos, if_neg, sy_bi_ri, sy_bi_rt, sy_bv_rv, sy_bv_rt, sy_br_rr, sy_br_rn, sy_hi_ri, sy_hi_rt, sy_bs_t, sy_bx_t, sy_bb_t, bz_bo, ite_bz0, ite_bz1, jgX9_solve_21, u1, e3]
    · rw [show (i + 1) * 7 = i * 7 + 7 by omega]; exact C3
    · have e5 : N2 55 = rs (N 55) i (-(Int32.ofNat 1)) := by rw [hN2, syc_ne _ _ (by decide), syc_at]
      have e6 : N2 56 = rs (N 56) i (-(Int32.ofNat 1)) := by rw [hN2, syc_at]
      rw [g5, g6, e5, e6]
      by_cases c : j = i
      · subst c
        exact ⟨rs_at _ _ _, rs_at _ _ _⟩
      · rw [rs_ne _ _ c, rs_ne _ _ c]
        exact z j (by omega)
  · intro k N ⟨C, z⟩
    have C0 : cs (hsW f) n (fun _ => 0) (0, fun _ => 0) N := ⟨C.1, C.2.1.trans mv_0.symm, fun i hi => (z i hi).1.trans mv_0.symm, fun i hi => (z i hi).2.trans mv_0.symm, fun p o hp ho => by rw [C.2.2.1 p o (by omega) (by omega), shM_two h7 hp ho]⟩
    obtain ⟨N1, e1, C1, f1⟩ := c_choose (W := hsW f) h7 (hsW_le f) n (Nat.le_refl n) sy_D (by rw [sy_D_eq]; omega) (2 ^ n - 1) 0 (fun _ => 0) (0, fun _ => 0) N (by omega) (Nat.zero_le _) (Nat.zero_le _) (fun _ => Nat.zero_le _) (fun o _ h2 => ⟨fun _ => rfl, fun _ => all_tb h7 h2⟩) C0
    rw [Nat.sub_self] at e1
    refine ⟨N1, ?_, ?_, fun a h1 h2 h3 h4 => (f1 a h1 h3 h4).trans (C.2.2.2 a h1 h2 h3 h4)⟩
    · show jgX9_solve_21 (jfX9_solve_21 k) (Int32.ofNat 7) N = _
      simp (disch := omega) only [zL, zlt, zle, zeq, zadd, zmul, zin, zix, zsh1, Nat.add_zero, Nat.zero_add, Nat.mul_zero, if_true, if_false, if_pos, if_neg, sy_bi_ri, sy_bi_rt, sy_bv_rv, sy_bv_rt, sy_br_rr, sy_br_rn, sy_hi_ri, sy_hi_rt, sy_bs_t, sy_bx_t, sy_bb_t, bz_bo, ite_bz0, ite_bz1, jgX9_solve_21, e1]
    · have : pm (0, fun _ => 0) (0 + pb (hsW f) n n (2 ^ n - 1) + 1, px (hsW f) n n (2 ^ n - 1) (fun _ => 0)) = (pb (hsW f) n n (2 ^ n - 1) + 1, px (hsW f) n n (2 ^ n - 1) (fun _ => 0)) := by
        unfold pm
        rw [if_pos (show 0 < 0 + pb (hsW f) n n (2 ^ n - 1) + 1 by omega), Nat.zero_add]
      rw [this] at C1
      exact C1
  · rw [hN0, sy_upd_st, sy_upd_st, syc_at, rs_ne _ _ (by decide), syc_at, rs_at]
  · rw [hN0, sy_upd_st, sy_upd_st, syc_at, rs_at]
  · intro a h1 h2 h3 h4
    rw [hN0, sy_upd_st, sy_upd_st, syc_ne _ _ h1, syc_ne _ _ h1]
end
