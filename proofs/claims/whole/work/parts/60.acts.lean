/-! ===== acts are remembered ===== -/
section
variable {A : (Nat → Int32) → Nat → Int32 × Bool} {tx : (Nat → Int32) → Prop} {L0 : Int32} {S : Nat → Int32} {e : Nat} {M : sy_M}
/-- rows of the acts go one down; a row is laid -/
def sp_dn (m : Nat) (g : Nat → Int32) : Nat → Int32 := fun i => if i < m then g (i + 426) else g i
def sp_ly (s m : Nat) (f g : Nat → Int32) : Nat → Int32 := fun i => if 426 * s ≤ i ∧ i < 426 * s + m then f (i - 426 * s) else g i
theorem sp_dn_0 (g : Nat → Int32) : sp_dn 0 g = g := by
  funext i
  unfold sp_dn
  rw [if_neg (by omega)]
theorem sp_dn_s (i : Nat) (g : Nat → Int32) : rs (sp_dn i g) i (sp_dn i g (i + 426)) = sp_dn (i + 1) g := by
  funext j
  unfold rs sp_dn
  by_cases h : j = i
  · subst h
    rw [if_pos rfl, if_neg (by omega), if_pos (by omega)]
  · rw [if_neg h]
    by_cases h2 : j < i
    · rw [if_pos h2, if_pos (by omega)]
    · rw [if_neg h2, if_neg (by omega)]
theorem sp_ly_0 (s : Nat) (f g : Nat → Int32) : sp_ly s 0 f g = g := by
  funext i
  unfold sp_ly
  rw [if_neg (by omega)]
theorem sp_ly_s (s i : Nat) (f g : Nat → Int32) : rs (sp_ly s i f g) (426 * s + i) (f i) = sp_ly s (i + 1) f g := by
  funext j
  unfold rs sp_ly
  by_cases h : j = 426 * s + i
  · subst h
    rw [if_pos rfl, if_pos (by omega)]
    congr 1
    omega
  · rw [if_neg h]
    by_cases h2 : 426 * s ≤ j ∧ j < 426 * s + i
    · rw [if_pos h2, if_pos (by omega)]
    · rw [if_neg h2, if_neg (by omega)]
theorem m_rem_50 {N : sy_M} {s : Nat} (hs : N 121 6 = Int32.ofNat s) (h12 : s < 12) : jfX12_remembers_50 N = sy_rv (syc (syc N 125 (sp_ly s 426 (N 122) (N 125))) 121 (rs (N 121) 6 (Int32.ofNat (s + 1)))) := by
  unfold jfX12_remembers_50
  refine sy_forR (n := 426) (F := sy_F) (R := fun c => c = sy_rv (syc (syc N 125 (sp_ly s 426 (N 122) (N 125))) 121 (rs (N 121) 6 (Int32.ofNat (s + 1))))) (fun k i (K : sy_M) => jfX12_remembers_52 k (Int32.ofNat i) K) (fun i K => K = syc N 125 (sp_ly s i (N 122) (N 125))) ?_ ?_ N (by rw [sp_ly_0, syc_self]) (by rw [sy_F_eq]; omega)
  · intro k i K hi hK
    refine Or.inl ⟨_, ?_, rfl⟩
    subst hK
    show jgX12_remembers_52 (jfX12_remembers_52 k) (Int32.ofNat i) _ = _
    simp (disch := omega) only [zL, zlt, zle, zeq, zadd, zmul, zin, zix, zsh1, Nat.add_zero, Nat.zero_add, Nat.mul_zero, if_true, if_false, if_pos, if_neg, sy_bi_ri, sy_bi_rt, sy_bv_rv, sy_bv_rt, sy_br_rr, sy_br_rn, sy_hi_ri, sy_hi_rt, sy_bs_t, sy_bx_t, sy_bb_t, bz_bo, ite_bz0, ite_bz1, jgX12_remembers_52, syc_ne, hs, sy_upd_st, syc_at, syc_st, sp_ly_s]
  · intro k K hK
    subst hK
    show jgX12_remembers_52 (jfX12_remembers_52 k) (Int32.ofNat 426) _ = _
    simp (disch := omega) only [zL, zlt, zle, zeq, zadd, zmul, zin, zix, zsh1, Nat.add_zero, Nat.zero_add, Nat.mul_zero, if_true, if_false, if_pos, if_neg, sy_bi_ri, sy_bi_rt, sy_bv_rv, sy_bv_rt, sy_br_rr, sy_br_rn, sy_hi_ri, sy_hi_rt, sy_bs_t, sy_bx_t, sy_bb_t, bz_bo, ite_bz0, ite_bz1, jgX12_remembers_52, syc_ne, hs, sy_upd_st]
/-- the acts behind one more -/
def sp_rm (s : Nat) (f g : Nat → Int32) : Nat → Int32 := if s = 12 then sp_ly 11 426 f (sp_dn 4686 g) else sp_ly s 426 f g
theorem m_remembers {N : sy_M} {s : Nat} (hs : N 121 6 = Int32.ofNat s) (h12 : s ≤ 12) : jfX12_remembers N = sy_rv (syc (syc N 125 (sp_rm s (N 122) (N 125))) 121 (rs (N 121) 6 (Int32.ofNat (min 12 (s + 1))))) := by
  unfold jfX12_remembers sp_rm
  by_cases h : s = 12
  · subst h
    rw [hs, if_pos rfl, if_pos (show Int32.ofNat 12 = 12 from rfl)]
    refine sy_forR (n := 4686) (F := sy_F) (R := fun c => c = sy_rv (syc (syc N 125 (sp_ly 11 426 (N 122) (sp_dn 4686 (N 125)))) 121 (rs (N 121) 6 (Int32.ofNat (min 12 (12 + 1)))))) (fun k i (K : sy_M) => jfX12_remembers_11 k (Int32.ofNat i) K) (fun i K => K = syc N 125 (sp_dn i (N 125))) ?_ ?_ N (by rw [sp_dn_0, syc_self]) (by rw [sy_F_eq]; omega)
    · intro k i K hi hK
      refine Or.inl ⟨_, ?_, rfl⟩
      subst hK
      show jgX12_remembers_11 (jfX12_remembers_11 k) (Int32.ofNat i) _ = _
      simp (disch := omega) only [zL, zlt, zle, zeq, zadd, zmul, zin, zix, zsh1, Nat.add_zero, Nat.zero_add, Nat.mul_zero, if_true, if_false, if_pos, if_neg, sy_bi_ri, sy_bi_rt, sy_bv_rv, sy_bv_rt, sy_br_rr, sy_br_rn, sy_hi_ri, sy_hi_rt, sy_bs_t, sy_bx_t, sy_bb_t, bz_bo, ite_bz0, ite_bz1, jgX12_remembers_11, sy_upd_st, syc_at, syc_st, sp_dn_s]
    · intro k K hK
      subst hK
      show jgX12_remembers_11 (jfX12_remembers_11 k) (Int32.ofNat 4686) _ = _
      have e1 : (Int32.ofNat 12) - (Int32.ofNat 1) = (Int32.ofNat 11) := by decide
      have e2 := m_rem_50 (N := syc (syc N 125 (sp_dn 4686 (N 125))) 121 (rs (N 121) 6 (Int32.ofNat 11))) (s := 11) (by rw [syc_at, rs_at]) (by decide)
      simp (disch := omega) only [syc_at, syc_ne, rs_rs] at e2
      simp (disch := omega) only [zL, zlt, zle, zeq, zadd, zmul, zin, zix, zsh1, Nat.add_zero, Nat.zero_add, Nat.mul_zero, if_true, if_false, if_pos, if_neg, sy_bi_ri, sy_bi_rt, sy_bv_rv, sy_bv_rt, sy_br_rr, sy_br_rn, sy_hi_ri, sy_hi_rt, sy_bs_t, sy_bx_t, sy_bb_t, bz_bo, ite_bz0, ite_bz1, jgX12_remembers_11, sy_upd_st, syc_ne, hs, e1, e2]
      rw [syc_comm _ _ _ (show (121 : Nat) ≠ 125 by decide), syc_st, syc_st]
      rfl
  · rw [hs, if_neg h, if_neg (show ¬ Int32.ofNat s = 12 from fun z => h ((zeq (b := 12) (by omega) (by decide)).mp z)), m_rem_50 hs (by omega), show min 12 (s + 1) = s + 1 by omega]
/-- what an act of the class leaves: the new row now, the old one remembered -/
def CA (M : sy_M) (s nx : Nat) (f1 : Nat → Int32) (M1 : sy_M) : Prop := hw M1 9 f1 ∧ (∀ a, ¬ qs a → (a < 9 ∨ 13 < a) → (a < 57 ∨ 118 < a) → M1 a = M a) ∧ (dk M 19 → dk M1 19) ∧ M1 57 1 = Int32.ofNat (min 12 (s + 1)) ∧ M1 57 2 = Int32.ofNat (if nx + 1 < 12 then nx + 1 else 0) ∧ (∀ a, 59 ≤ a → a ≤ 118 → (a < 59 + 5 * nx ∨ 59 + 5 * nx + 4 < a) → M1 a = M a) ∧ hw M1 (59 + 5 * nx) (M 122)
def RA (s : Nat) (f1 : Nat → Int32) (N N1 : sy_M) : Prop := N1 122 = f1 ∧ (∀ a, ¬ rx a → a ≠ 122 → a ≠ 125 → N1 a = N a) ∧ (∀ j, j = 3 ∨ j = 8 ∨ j = 12 ∨ j = 19 → N1 121 j = N 121 j) ∧ N1 121 6 = Int32.ofNat (min 12 (s + 1)) ∧ N1 125 = sp_rm s (N 122) (N 125)
theorem h_slot : ∀ k : Fin 12, sy_is 2 (59 + 5 * k.1) = true := by decide +kernel
theorem Inv_act {M1 M3 : sy_M} {n s nx : Nat} {f1 : Nat → Int32} (I : Inv A tx L0 S e M) (hM : mAK A tx) (hs : s ≤ 12) (hnx : nx < 12) (t2 : M 121 6 = Int32.ofNat s) (t6 : ∀ j, j < s → hw M (59 + 5 * ((nx + 12 - s + j) % 12)) (arow M j) ∧ (∃ n, gr (arow M j) n) ∧ tsame (M 122) (arow M j)) (C : CA M s nx f1 M1) (R : RA s f1 M1 M3) (G : gr f1 n) (T : tsame (M 122) f1) : Inv A tx L0 S (e + 1) M3 := by
  obtain ⟨c1, c2, c3, c4, c5, c6, c7⟩ := C
  obtain ⟨r1, r2, r3, r4, r5⟩ := R
  obtain ⟨i1, i2, i3, i4, i5, i6, i7, i8, ⟨k, hk, ek⟩, i10, i11⟩ := I
  obtain ⟨n0, G0, H0, ht, hA, hl⟩ := i1
  have E : ∀ a, ¬ qs a → ¬ rx a → a ≠ 122 → a ≠ 125 → (a < 9 ∨ 13 < a) → (a < 57 ∨ 118 < a) → M3 a = M a := fun a h1 h2 h3 h4 h5 h6 => (r2 a h2 h3 h4).trans (c2 a h1 h5 h6)
  have E1 : ∀ a, a ≤ 118 → M3 a = M1 a := fun a h => r2 a (by unfold rx; omega) (by omega) (by omega)
  have F1 : ∀ j, j = 3 ∨ j = 8 ∨ j = 12 ∨ j = 19 → M3 121 j = M 121 j := fun j hj => (r3 j hj).trans (by rw [c2 121 (by unfold qs; omega) (by omega) (by omega)])
  have M122 : M1 122 = M 122 := c2 122 (by unfold qs; omega) (by omega) (by omega)
  have M125 : M1 125 = M 125 := c2 125 (by unfold qs; omega) (by omega) (by omega)
  rw [M122, M125] at r5
  refine ⟨⟨n, ?_, ?_, ?_, ?_, ?_⟩, ?_, ?_, ?_, ?_, ?_, ?_, ?_, ⟨k, by omega, ?_⟩, ?_, ?_⟩
  · rw [r1]; exact G
  · rw [r1]; exact hw_congr c1 (fun a h1 h2 => E1 a (by omega))
  · rw [r1]; exact hM.1 _ _ ht T
  · rw [r1]; exact cAK_cp hA (lcp_of (fun a h1 h2 => E a (by unfold qs; omega) (by unfold rx; omega) (by omega) (by omega) (by omega) (by omega))) T
  · rw [r1, E 29 (by unfold qs; omega) (by unfold rx; omega) (by omega) (by omega) (by omega) (by omega), hl]; exact T.1.symm
  · exact IK_congr i2 (by rw [E 0 (by unfold qs; omega) (by unfold rx; omega) (by omega) (by omega) (by omega) (by omega)]) (fun a h1 h2 => E a (by unfold qs; omega) (by unfold rx; omega) (by omega) (by omega) (by omega) (by omega)) (fun a h1 h2 => E a (by unfold qs; omega) (by unfold rx; omega) (by omega) (by omega) (by omega) (by omega)) (E _ (by unfold qs; omega) (by unfold rx; omega) (by omega) (by omega) (by omega) (by omega)) (F1 3 (by omega)) (fun i hi => by rw [r1]; exact T.2.2 i (by omega))
  · refine ⟨min 12 (s + 1), if nx + 1 < 12 then nx + 1 else 0, Nat.min_le_left _ _, by split <;> omega, ?_, r4, ?_, ?_⟩
    · rw [E1 57 (by omega)]; exact c4
    · rw [E1 57 (by omega)]; exact c5
    · intro j hj
      have hi : ∀ i, 426 ≤ i → f1 i = M 122 i := T.2.2
      -- the new row
      have new : ∀ j0, (s = 12 → j0 = 11) → (s ≠ 12 → j0 = s) → arow M3 j0 = M 122 := by
        intro j0 h1 h2
        funext i
        unfold arow
        by_cases h : i < 426
        · rw [if_pos h, r5]
          unfold sp_rm
          by_cases h12 : s = 12
          · rw [if_pos h12, h1 h12]
            unfold sp_ly
            rw [if_pos (by omega), show 426 * 11 + i - 426 * 11 = i by omega]
          · rw [if_neg h12, h2 h12]
            unfold sp_ly
            rw [if_pos (by omega), show 426 * s + i - 426 * s = i by omega]
        · rw [if_neg h, r1]; exact hi i (by omega)
      have old : ∀ j0 j1, (s = 12 → j1 = j0 + 1 ∧ j0 < 11) → (s ≠ 12 → j1 = j0 ∧ j0 < s) → arow M3 j0 = arow M j1 := by
        intro j0 j1 h1 h2
        funext i
        unfold arow
        by_cases h : i < 426
        · rw [if_pos h, if_pos h, r5]
          unfold sp_rm
          by_cases h12 : s = 12
          · obtain ⟨h3, h4⟩ := h1 h12
            rw [if_pos h12]
            unfold sp_ly sp_dn
            rw [if_neg (by omega), if_pos (by omega)]
            congr 1
            omega
          · obtain ⟨h3, h4⟩ := h2 h12
            rw [if_neg h12]
            unfold sp_ly
            rw [if_neg (by omega), h3]
        · rw [if_neg h, if_neg h, r1]; exact hi i (by omega)
      have back : ∀ g : Nat → Int32, tsame (M 122) g → tsame (M3 122) g := by
        intro g hg
        rw [r1]
        exact ⟨hg.1.trans T.1.symm, hg.2.1.trans T.2.1.symm, fun i h => (hg.2.2 i h).trans (T.2.2 i h).symm⟩
      by_cases h12 : s = 12
      · subst h12
        by_cases hj2 : j = 11
        · subst hj2
          have e1 : ((if nx + 1 < 12 then nx + 1 else 0) + 12 - min 12 (12 + 1) + 11) % 12 = nx := by split <;> omega
          rw [e1, new 11 (fun _ => rfl) (fun z => absurd rfl z)]
          exact ⟨hw_congr c7 (fun a h1 h2 => E1 a (by omega)), ⟨n0, G0⟩, back _ tsame_rfl⟩
        · have e1 : ((if nx + 1 < 12 then nx + 1 else 0) + 12 - min 12 (12 + 1) + j) % 12 = (nx + 12 - 12 + (j + 1)) % 12 := by split <;> omega
          have e2 : (nx + 12 - 12 + (j + 1)) % 12 ≠ nx := by omega
          have e3 : (nx + 12 - 12 + (j + 1)) % 12 < 12 := Nat.mod_lt _ (by decide)
          obtain ⟨b1, b2, b3⟩ := t6 (j + 1) (by omega)
          rw [e1, old j (j + 1) (fun _ => ⟨rfl, by omega⟩) (fun z => absurd rfl z)]
          generalize (nx + 12 - 12 + (j + 1)) % 12 = q at b1 e2 e3
          exact ⟨hw_congr b1 (fun a h1 h2 => (E1 a (by omega)).trans (c6 a (by omega) (by omega) (by omega))), b2, back _ b3⟩
      · by_cases hj2 : j = s
        · subst hj2
          have e1 : ((if nx + 1 < 12 then nx + 1 else 0) + 12 - min 12 (j + 1) + j) % 12 = nx := by split <;> omega
          rw [e1, new j (fun z => absurd z h12) (fun _ => rfl)]
          exact ⟨hw_congr c7 (fun a h1 h2 => E1 a (by omega)), ⟨n0, G0⟩, back _ tsame_rfl⟩
        · have e1 : ((if nx + 1 < 12 then nx + 1 else 0) + 12 - min 12 (s + 1) + j) % 12 = (nx + 12 - s + j) % 12 := by split <;> omega
          have e2 : (nx + 12 - s + j) % 12 ≠ nx := by omega
          have e3 : (nx + 12 - s + j) % 12 < 12 := Nat.mod_lt _ (by decide)
          obtain ⟨b1, b2, b3⟩ := t6 j (by omega)
          rw [e1, old j j (fun z => absurd z h12) (fun _ => ⟨rfl, by omega⟩)]
          generalize (nx + 12 - s + j) % 12 = q at b1 e2 e3
          exact ⟨hw_congr b1 (fun a h1 h2 => (E1 a (by omega)).trans (c6 a (by omega) (by omega) (by omega))), b2, back _ b3⟩
  · refine ⟨dk_congr i4.1 (E _ (by unfold qs; omega) (by unfold rx; omega) (by omega) (by omega) (by omega) (by omega)), dk_congr i4.2.1 (E _ (by unfold qs; omega) (by unfold rx; omega) (by omega) (by omega) (by omega) (by omega)), fun k hk => ?_⟩
    by_cases hk2 : k = nx
    · subst hk2
      exact (hw_congr c7 (fun a h1 h2 => E1 a (by omega))).dk
    · exact dk_congr (i4.2.2 k hk) ((E1 _ (by omega)).trans (c6 _ (by omega) (by omega) (by omega)))
  · exact dk_congr (c3 i5) (E1 22 (by omega))
  · exact IP_congr i6 (by rw [E 1 (by unfold qs; omega) (by unfold rx; omega) (by omega) (by omega) (by omega) (by omega)]) (E _ (by unfold qs; omega) (by unfold rx; omega) (by omega) (by omega) (by omega) (by omega)) (F1 8 (by omega)) (E _ (by unfold qs; omega) (by unfold rx; omega) (by omega) (by omega) (by omega) (by omega))
  · rw [E 0 (by unfold qs; omega) (by unfold rx; omega) (by omega) (by omega) (by omega) (by omega), F1 12 (by omega)]; exact i7
  · rw [F1 19 (by omega)]; exact i8
  · rw [E 133 (by unfold qs; omega) (by unfold rx; omega) (by omega) (by omega) (by omega) (by omega)]; exact ek
  · rw [E 134 (by unfold qs; omega) (by unfold rx; omega) (by omega) (by omega) (by omega) (by omega)]; exact i10
  · rw [E 1000000 (by unfold qs; omega) (by unfold rx; omega) (by omega) (by omega) (by omega) (by omega)]; exact i11
end
