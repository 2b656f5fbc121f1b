/-! ===== pairs: the class ===== -/
section
variable {A : (Nat → Int32) → Nat → Int32 × Bool} {tx : (Nat → Int32) → Prop} {L0 : Int32} {S : Nat → Int32} {e : Nat} {M : sy_M}
variable {W : Nat → Nat → Nat} {n : Nat}
def cs (W : Nat → Nat → Nat) (n : Nat) (P : Nat → Nat) (X : Nat × (Nat → Nat)) (N : sy_M) : Prop := N 53 3 = Int32.ofNat n ∧ N 53 4 = mv X.1 ∧ (∀ i, i < 7 → N 55 i = mv (P i)) ∧ (∀ i, i < 7 → N 56 i = mv (X.2 i)) ∧ ∀ p o, p < n → o < n → N 54 (p * 7 + o) = Int32.ofNat (W p o)
def fpp (N N1 : sy_M) : Prop := ∀ a, a ≠ 53 → a ≠ 55 → a ≠ 56 → N1 a = N a
theorem fpp_t {N N1 N2 : sy_M} (a : fpp N N1) (b : fpp N1 N2) : fpp N N2 := fun c h1 h2 h3 => (b c h1 h2 h3).trans (a c h1 h2 h3)
theorem mv_s (x : Nat) : mv (x + 1) = Int32.ofNat x := if_neg (Nat.succ_ne_zero x)
theorem mv_0 : mv 0 = -(Int32.ofNat 1) := if_pos rfl
theorem mv_lt {x t : Nat} (hx : x < 1000000) (ht : t < 1000000) : (mv x < Int32.ofNat t) ↔ x < t + 1 := by
  cases x with
  | zero =>
    rw [mv_0]
    refine ⟨fun _ => Nat.succ_pos t, fun _ => ?_⟩
    rw [Int32.lt_iff_toInt_lt, Int32.toInt_ofNat_of_lt (show t < 2 ^ 31 by omega), show (-(Int32.ofNat 1) : Int32).toInt = -1 by decide]
    omega
  | succ x =>
    rw [mv_s, zlt (by omega) (by omega)]
    omega
theorem cs_up {P : Nat → Nat} {X : Nat × (Nat → Nat)} {N : sy_M} {i x : Nat} {v : Int32} (C : cs W n P X N) (hv : v = mv x) : cs W n (pu P i x) X (sy_upd N 55 i v) ∧ fpp N (sy_upd N 55 i v) := by
  subst hv
  rw [sy_upd_st]
  refine ⟨⟨by rw [syc_ne _ _ (by decide)]; exact C.1, by rw [syc_ne _ _ (by decide)]; exact C.2.1, fun j hj => ?_, fun j hj => by rw [syc_ne _ _ (by decide)]; exact C.2.2.2.1 j hj, fun p o hp ho => by rw [syc_ne _ _ (by decide)]; exact C.2.2.2.2 p o hp ho⟩, fun a h1 h2 h3 => syc_ne _ _ h2⟩
  rw [syc_at]
  by_cases c : j = i
  · subst c
    rw [rs_at, pu_at]
  · rw [rs_ne _ _ c, pu_ne _ _ c]
    exact C.2.2.1 j hj
theorem c_keep {P : Nat → Nat} {X : Nat × (Nat → Nat)} {N : sy_M} {t : Nat} (hX : X.1 ≤ 1000) (ht : t ≤ 1000) (C : cs W n P X N) : ∃ N1, jfX9_keep (Int32.ofNat t) N = sy_rv N1 ∧ cs W n P (pm X (t + 1, P)) N1 ∧ fpp N N1 := by
  unfold jfX9_keep pm
  rw [C.2.1]
  by_cases c : X.1 < t + 1
  · rw [if_pos ((mv_lt (by omega) (by omega)).mpr c), if_pos c]
    refine ⟨_, rfl, ?_, ?_⟩
    · rw [sy_cpy_c, sy_upd_st]
      refine ⟨by rw [syc_ne _ _ (by decide), syc_at, rs_ne _ _ (by decide)]; exact C.1, by rw [syc_ne _ _ (by decide), syc_at, rs_at, mv_s], fun j hj => by rw [syc_ne _ _ (by decide), syc_ne _ _ (by decide)]; exact C.2.2.1 j hj, fun j hj => ?_, fun p o hp ho => by rw [syc_ne _ _ (by decide), syc_ne _ _ (by decide)]; exact C.2.2.2.2 p o hp ho⟩
      rw [syc_at]
      unfold sp_aside
      rw [if_pos hj, syc_ne _ _ (by decide)]
      exact C.2.2.1 j hj
    · intro a h1 h2 h3
      rw [sy_cpy_c, sy_upd_st, syc_ne _ _ h3, syc_ne _ _ h1]
  · rw [if_neg (fun z => c ((mv_lt (by omega) (by omega)).mp z)), if_neg c]
    exact ⟨N, rfl, C, fun _ _ _ _ => rfl⟩
theorem pm_le {X Y : Nat × (Nat → Nat)} (h1 : X.1 ≤ 1000) (h2 : Y.1 ≤ 1000) : (pm X Y).1 ≤ 1000 := by
  unfold pm
  split <;> assumption
theorem pu4 {P : Nat → Nat} {k o x y : Nat} (hk : P k = 0) (ho : P o = 0) : pu (pu (pu (pu P k x) o y) k 0) o 0 = P := by
  funext j
  by_cases c1 : j = o
  · subst c1
    rw [pu_at, ho]
  · rw [pu_ne _ _ c1]
    by_cases c2 : j = k
    · subst c2
      rw [pu_at, hk]
    · rw [pu_ne _ _ c2, pu_ne _ _ c1, pu_ne _ _ c2]
theorem c_choose (h7 : n ≤ 7) (hW : ∀ p o, W p o ≤ 48) : ∀ d, d ≤ n → ∀ F, d < F → ∀ (S t : Nat) (P : Nat → Nat) (X : Nat × (Nat → Nat)) (N : sy_M), S < 128 → t ≤ 48 * (n - d) → X.1 ≤ 1000 → (∀ i, P i ≤ 7) → (∀ o, n - d ≤ o → o < n → (S.testBit o = true ↔ P o = 0)) → cs W n P X N → ∃ N1, jfX9_choose F (Int32.ofNat (n - d)) (Int32.ofNat t) N = sy_rv N1 ∧ cs W n P (pm X (t + pb W n d S + 1, px W n d S P)) N1 ∧ fpp N N1
  | 0, _, 0, h, _, _, _, _, _, _, _, _, _, _, _ => absurd h (Nat.lt_irrefl 0)
  | 0, _, F + 1, _, S, t, P, X, N, hS, ht, hX, hP, hSP, C => by
    obtain ⟨N1, e1, C1, f1⟩ := c_keep (t := t) hX (by omega) C
    refine ⟨N1, ?_, C1, f1⟩
    have c3 := C.1
    show jgX9_choose (jfX9_choose F) (Int32.ofNat n) (Int32.ofNat t) N = _
    simp (disch := omega) only [zL, zlt, zle, zeq, zadd, zmul, zin, zix, zsh1, Nat.add_zero, Nat.zero_add, Nat.mul_zero, if_true, if_false, if_pos, if_neg, sy_bi_ri, sy_bi_rt, sy_bv_rv, sy_bv_rt, sy_br_rr, sy_br_rn, sy_hi_ri, sy_hi_rt, sy_bs_t, sy_bx_t, sy_bb_t, bz_bo, ite_bz0, ite_bz1, jgX9_choose, jfX9_choose_18, c3, e1]
  | d + 1, _, 0, h, _, _, _, _, _, _, _, _, _, _, _ => absurd h (Nat.not_lt_zero _)
  | d + 1, hd, F + 1, hF, S, t, P, X, N, hS, ht, hX, hP, hSP, C => by
    have IH := c_choose h7 hW d (by omega) F (by omega)
    obtain ⟨k, hk⟩ : ∃ k, k = n - (d + 1) := ⟨_, rfl⟩
    have hk1 : n - d = k + 1 := by omega
    have pl := fun T => pb_le (n := n) hW d T
    rw [hk1] at IH
    rw [← hk] at hSP
    rw [← hk]
    have c3 := C.1
    have hPk := hP k
    have rl := rm_le S k
    show ∃ N1, jgX9_choose (jfX9_choose F) (Int32.ofNat k) (Int32.ofNat t) N = sy_rv N1 ∧ _
    cases hb : S.testBit k with
    | false =>
      obtain ⟨N1, e1, C1, f1⟩ := IH S t P X N hS (by omega) hX hP (fun o h1 h2 => hSP o (by omega) h2) C
      refine ⟨N1, ?_, ?_, f1⟩
      · have q1 := C1.2.2.1 k (by omega)
        have q2 : P k ≠ 0 := fun z => absurd (hb.symm.trans ((hSP k (Nat.le_refl _) (by omega)).mpr z)) (by decide)
        have q3 := mv_ne q2 (by omega)
        simp (disch := omega) only [zL, zlt, zle, zeq, zadd, zmul, zin, zix, zsh1, Nat.add_zero, Nat.zero_add, Nat.mul_zero, if_true, if_false, if_pos, if_neg, sy_bi_ri, sy_bi_rt, sy_bv_rv, sy_bv_rt, sy_br_rr, sy_br_rn, sy_hi_ri, sy_hi_rt, sy_bs_t, sy_bx_t, sy_bb_t, bz_bo, ite_bz0, ite_bz1, jgX9_choose, c3, e1, q1, q3]
      · rw [pb_s, px_s, ← hk, if_neg (by rw [hb]; decide), if_neg (by rw [hb]; decide)]
        exact C1
    | true =>
      have Pk : P k = 0 := (hSP k (Nat.le_refl _) (by omega)).mp hb
      obtain ⟨N1, e1, C1, f1⟩ := IH (rm S k) t P X N (by omega) (by omega) hX hP (fun o h1 h2 => by
        rw [rm_bit hS (by omega) (by omega), decide_eq_false (show ¬ o = k by omega), Bool.not_false, Bool.and_true]
        exact hSP o (by omega) h2) C
      have key : ∃ N2, jfX9_choose_47 (jfX9_choose F) sy_F (Int32.ofNat k) (Int32.ofNat t) (Int32.ofNat (k + 1)) N1 = sy_rv N2 ∧ cs W n P (pm X (t + (pk W n d S d).1 + 1, pa W n d S P (pk W n d S d).2)) N2 ∧ fpp N N2 := by
        refine sy_forR (n := d) (F := sy_F) (R := fun c => ∃ N2, c = sy_rv N2 ∧ cs W n P (pm X (t + (pk W n d S d).1 + 1, pa W n d S P (pk W n d S d).2)) N2 ∧ fpp N N2) (fun q i (N2 : sy_M) => jfX9_choose_47 (jfX9_choose F) q (Int32.ofNat k) (Int32.ofNat t) (Int32.ofNat (k + 1 + i)) N2) (fun i N2 => cs W n P (pm X (t + (pk W n d S i).1 + 1, pa W n d S P (pk W n d S i).2)) N2 ∧ fpp N N2) ?_ ?_ N1 ⟨?_, f1⟩ (by rw [sy_F_eq]; omega)
        · intro q i N2 hi ⟨C2, f2⟩
          obtain ⟨o, ho⟩ : ∃ o, o = k + 1 + i := ⟨_, rfl⟩
          have s2 := C2.1
          have s5 := C2.2.2.1 o (by omega)
          have nx : k + 1 + (i + 1) = o + 1 := by omega
          have hks : pk W n d S (i + 1) = if S.testBit o = true ∧ (pk W n d S i).1 < pvl W n d S o then (pvl W n d S o, o + 1) else pk W n d S i := by
            unfold pk
            rw [pg_s, ← hk, ← ho]
          rw [nx]
          rw [← ho]
          show (∃ a', jgX9_choose_47 (jfX9_choose F) (jfX9_choose_47 (jfX9_choose F) q) (Int32.ofNat k) (Int32.ofNat t) (Int32.ofNat o) N2 = _ ∧ _) ∨ _
          left
          cases ob : S.testBit o with
          | false =>
            have q2 : P o ≠ 0 := fun z => absurd (ob.symm.trans ((hSP o (by omega) (by omega)).mpr z)) (by decide)
            have hPo := hP o
            have q3 := mv_ne q2 (by omega)
            refine ⟨N2, ?_, ?_, f2⟩
            · simp (disch := omega) only [zL, zlt, zle, zeq, zadd, zmul, zin, zix, zsh1, Nat.add_zero, Nat.zero_add, Nat.mul_zero, if_true, if_false, if_pos, if_neg, sy_bi_ri, sy_bi_rt, sy_bv_rv, sy_bv_rt, sy_br_rr, sy_br_rn, sy_hi_ri, sy_hi_rt, sy_bs_t, sy_bx_t, sy_bb_t, bz_bo, ite_bz0, ite_bz1, jgX9_choose_47, jfX9_choose_119, s2, s5, q3]
            · rw [hks, ob, if_neg (by intro z; exact absurd z.1 (by decide))]
              exact C2
          | true =>
            have Po : P o = 0 := (hSP o (by omega) (by omega)).mp ob
            have rl2 := rm_le (rm S k) o
            obtain ⟨C3, f3⟩ := cs_up (i := k) (x := o + 1) (v := Int32.ofNat o) C2 (mv_s o).symm
            obtain ⟨C4, f4⟩ := cs_up (i := o) (x := k + 1) (v := Int32.ofNat k) C3 (mv_s k).symm
            have w4 := C4.2.2.2.2 k o (by omega) (by omega)
            have hWk := hW k o
            have Xi : (pm X (t + (pk W n d S i).1 + 1, pa W n d S P (pk W n d S i).2)).1 ≤ 1000 := by
              refine pm_le hX ?_
              show t + (pk W n d S i).1 + 1 ≤ 1000
              have : (pk W n d S i).1 ≤ 48 * d + 48 := by
                obtain ⟨_, _, g3, g4⟩ := pg_spec (pvl W n d S) (fun o => S.testBit o) (pb W n d (rm S (n - (d + 1)))) (n - (d + 1) + 1) i
                by_cases c : (pk W n d S i).2 = 0
                · have g5 : (pk W n d S i).1 = _ := g3 c
                  rw [g5]
                  have := pl (rm S (n - (d + 1)))
                  omega
                · obtain ⟨i', _, _, _, g5, _⟩ := g4 c
                  have g6 : (pk W n d S i).1 = _ := g5
                  rw [g6]
                  unfold pvl
                  have h5 := pl (rm (rm S (n - (d + 1))) (n - (d + 1) + 1 + i'))
                  have h6 := hW (n - (d + 1)) (n - (d + 1) + 1 + i')
                  omega
              omega
            obtain ⟨N5, e5, C5, f5⟩ := IH (rm (rm S k) o) (t + W k o) _ _ _ (by omega) (by omega) Xi (fun j => by
              unfold pu
              split
              · omega
              · split
                · omega
                · exact hP j) (fun o' h1 h2 => by
              rw [rm_bit (by omega) (by omega) (by omega), rm_bit hS (by omega) (by omega), decide_eq_false (show ¬ o' = k by omega), Bool.not_false, Bool.and_true]
              by_cases c : o' = o
              · subst c
                rw [pu_at, decide_eq_true rfl, Bool.not_true, Bool.and_false]
                exact ⟨fun z => absurd z (by decide), fun z => absurd z (Nat.succ_ne_zero _)⟩
              · rw [pu_ne _ _ c, pu_ne _ _ (show o' ≠ k by omega), decide_eq_false c, Bool.not_false, Bool.and_true]
                exact hSP o' (by omega) h2) C4
            obtain ⟨C6, f6⟩ := cs_up (i := k) (x := 0) (v := -(Int32.ofNat 1)) C5 mv_0.symm
            obtain ⟨C7, f7⟩ := cs_up (i := o) (x := 0) (v := -(Int32.ofNat 1)) C6 mv_0.symm
            rw [pu4 Pk Po] at C7
            refine ⟨_, ?_, ?_, fpp_t f2 (fpp_t f3 (fpp_t f4 (fpp_t f5 (fpp_t f6 f7))))⟩
            · rw [Po, mv_0] at s5
              simp (disch := omega) only [zL, zlt, zle, zeq, zadd, zmul, zin, zix, zsh1, Nat.add_zero, Nat.zero_add, Nat.mul_zero, if_true, if_false, if_pos, if_neg, sy_bi_ri, sy_bi_rt, sy_bv_rv, sy_bv_rt, sy_br_rr, sy_br_rn, sy_hi_ri, sy_hi_rt, sy_bs_t, sy_bx_t, sy_bb_t, bz_bo, ite_bz0, ite_bz1, jgX9_choose_47, jfX9_choose_105, jfX9_choose_119, s2, s5, w4, e5]
            · have g : pm (pm X (t + (pk W n d S i).1 + 1, pa W n d S P (pk W n d S i).2)) (t + W k o + pb W n d (rm (rm S k) o) + 1, px W n d (rm (rm S k) o) (pu (pu P k (o + 1)) o (k + 1))) = pm X (t + (pk W n d S (i + 1)).1 + 1, pa W n d S P (pk W n d S (i + 1)).2) := by
                rw [pm_a]
                congr 1
                have ev : pvl W n d S o = W k o + pb W n d (rm (rm S k) o) := by unfold pvl; rw [← hk]
                have ea : pa W n d S P (o + 1) = px W n d (rm (rm S k) o) (pu (pu P k (o + 1)) o (k + 1)) := by
                  unfold pa
                  rw [if_neg (Nat.succ_ne_zero _), ← hk]
                  rfl
                rw [hks, ob]
                unfold pm
                by_cases c : (pk W n d S i).1 < pvl W n d S o
                · rw [if_pos (show t + (pk W n d S i).1 + 1 < t + W k o + pb W n d (rm (rm S k) o) + 1 by omega), if_pos ⟨rfl, c⟩]
                  show (t + W k o + pb W n d (rm (rm S k) o) + 1, px W n d (rm (rm S k) o) (pu (pu P k (o + 1)) o (k + 1))) = (t + pvl W n d S o + 1, pa W n d S P (o + 1))
                  rw [ea, ev, Nat.add_assoc t]
                · rw [if_neg (show ¬ t + (pk W n d S i).1 + 1 < t + W k o + pb W n d (rm (rm S k) o) + 1 by omega), if_neg (fun z => c z.2)]
              rw [← g]
              exact C7
        · intro q N2 ⟨C2, f2⟩
          refine ⟨N2, ?_, C2, f2⟩
          have s2 := C2.1
          show jgX9_choose_47 (jfX9_choose F) (jfX9_choose_47 (jfX9_choose F) q) (Int32.ofNat k) (Int32.ofNat t) (Int32.ofNat (k + 1 + d)) N2 = _
          have : k + 1 + d = n := by omega
          rw [this]
          simp (disch := omega) only [zL, zlt, zle, zeq, zadd, zmul, zin, zix, zsh1, Nat.add_zero, Nat.zero_add, Nat.mul_zero, if_true, if_false, if_pos, if_neg, sy_bi_ri, sy_bi_rt, sy_bv_rv, sy_bv_rt, sy_br_rr, sy_br_rn, sy_hi_ri, sy_hi_rt, sy_bs_t, sy_bx_t, sy_bb_t, bz_bo, ite_bz0, ite_bz1, jgX9_choose_47, s2]
        · have z1 : (pk W n d S 0).1 = pb W n d (rm S k) := by rw [hk]; rfl
          have z2 : pa W n d S P (pk W n d S 0).2 = px W n d (rm S k) P := by rw [hk]; rfl
          rw [z1, z2]
          exact C1
      obtain ⟨N2, e2, C2, f2⟩ := key
      refine ⟨N2, ?_, ?_, f2⟩
      · have q1 := C1.2.2.1 k (by omega)
        rw [Pk, mv_0] at q1
        simp (disch := omega) only [zL, zlt, zle, zeq, zadd, zmul, zin, zix, zsh1, Nat.add_zero, Nat.zero_add, Nat.mul_zero, if_true, if_false, if_pos, if_neg, sy_bi_ri, sy_bi_rt, sy_bv_rv, sy_bv_rt, sy_br_rr, sy_br_rn, sy_hi_ri, sy_hi_rt, sy_bs_t, sy_bx_t, sy_bb_t, bz_bo, ite_bz0, ite_bz1, jgX9_choose, c3, e1, q1, e2]
      · rw [pb_s, px_s, ← hk, if_pos hb, if_pos hb]
        exact C2
end
