/-! ===== undo, image, back ===== -/
section
variable {A : (Nat → Int32) → Nat → Int32 × Bool} {tx : (Nat → Int32) → Prop} {L0 : Int32} {S : Nat → Int32} {e : Nat} {M : sy_M}
theorem l_tab : ∀ i : Fin 133, sy_is 4 i.1 = true → (i.1 = 29 ∨ i.1 = 35 ∨ i.1 = 41) ∧ (∀ j : Fin 4, sy_ia (i.1 + 1 + j.1) = true ∧ sy_li (i.1 + 1 + j.1) = 12) ∧ sy_ia (i.1 + 5) = true ∧ sy_li (i.1 + 5) = 512 := by decide +kernel
theorem l_is {a : Nat} (h : a = 29 ∨ a = 35 ∨ a = 41) : sy_is 4 a = true := by
  rcases h with h | h | h <;> subst h <;> decide +kernel
theorem c_lawOver {a b : Nat} (ha : a = 29 ∨ a = 35 ∨ a = 41) (hb : b = 29 ∨ b = 35 ∨ b = 41) (hne : a ≠ b) : ∃ M1, jfX4_takeOver a b M = sy_rv M1 ∧ lcp b M a M1 ∧ (∀ c, c < a ∨ a + 5 < c → M1 c = M c) := by
  have ia := l_is ha
  have ib := l_is hb
  have ta := l_tab ⟨a, by omega⟩ ia
  have tb := l_tab ⟨b, by omega⟩ ib
  have cx : ∀ j : Nat, 1 ≤ j → j ≤ 4 → sy_cok (b + j) (a + j) (Int32.ofNat 0) (Int32.ofNat 0) (Int32.ofNat 12) = true := by
    intro j h1 h2
    obtain ⟨i, rfl⟩ : ∃ i, j = 1 + i := ⟨j - 1, by omega⟩
    have u := ta.2.1 ⟨i, by omega⟩
    have v := tb.2.1 ⟨i, by omega⟩
    simp only at u v
    rw [← Nat.add_assoc, ← Nat.add_assoc]
    exact sy_cok_t u.1 v.1 (by decide) (by rw [v.2]; decide) (by rw [u.2]; decide)
  have c5 : sy_cok (b + 5) (a + 5) (Int32.ofNat 0) (Int32.ofNat 0) (Int32.ofNat 512) = true := sy_cok_t ta.2.2.1 tb.2.2.1 (by decide) (by have := tb.2.2.2; simp only at this; omega) (by have := ta.2.2.2; simp only at this; omega)
  refine ⟨syc (syc (syc (syc (syc (syc M (a + 1) (sp_aside 12 (M (b + 1)) (M (a + 1)))) (a + 2) (sp_aside 12 (M (b + 2)) (M (a + 2)))) (a + 3) (sp_aside 12 (M (b + 3)) (M (a + 3)))) (a + 4) (sp_aside 12 (M (b + 4)) (M (a + 4)))) (a + 5) (sp_aside 512 (M (b + 5)) (M (a + 5)))) a (rs (rs (M a) 5 (M b 5)) 6 (M b 6)), ?_, ⟨fun j i h1 h2 h3 => ?_, fun i hi => ?_, ?_, ?_⟩, fun c hc => ?_⟩
  · simp (disch := omega) only [jfX4_takeOver, jfX4_takeOver_76, ia, ib, sy_bs_t, zL, cx, c5, sy_bb_t, sy_cpy_c, syc_ne, sy_upd_st, syc_at, syc_st]
  · rcases (show j = 1 ∨ j = 2 ∨ j = 3 ∨ j = 4 by omega) with h | h | h | h <;> subst h <;> simp (disch := omega) only [syc_ne, syc_at, sp_aside, if_pos]
  · simp (disch := omega) only [syc_ne, syc_at, sp_aside, if_pos]
  · simp (disch := omega) only [syc_at, rs_ne, rs_at]
  · simp (disch := omega) only [syc_at, rs_at]
  · simp (disch := omega) only [syc_ne]
/-- what is taken back -/
theorem o_undo (hM : mAK A tx) (I : Inv A tx L0 S e M) : opN A tx L0 S e (jfX11_undo M) (jfX12_undo) := by
  obtain ⟨n, G, H, ht, hA, hl⟩ := id I.1
  obtain ⟨s, nx, hs, hnx, t1, t2, t3, t6⟩ := id I.2.2.1
  have hat : ∃ q, q < 12 ∧ (nx + 11) % 12 = q ∧ jfX0_takeBack 9 M = jfX0_takeBack_18 9 (Int32.ofNat q) M := by
    refine ⟨(nx + 11) % 12, Nat.mod_lt _ (by decide), rfl, ?_⟩
    by_cases h : 0 < nx
    · have : (nx + 11) % 12 = nx - 1 := by omega
      rw [this, ← zsub_1 h]
      simp (disch := omega) only [zL, zlt, zle, zeq, zadd, zmul, zin, zix, zsh1, Nat.add_zero, Nat.zero_add, Nat.mul_zero, if_true, if_false, if_pos, if_neg, sy_bi_ri, sy_bi_rt, sy_bv_rv, sy_bv_rt, sy_br_rr, sy_br_rn, sy_hi_ri, sy_hi_rt, sy_bs_t, sy_bx_t, sy_bb_t, bz_bo, ite_bz0, ite_bz1, jfX0_takeBack, t3]
    · have : nx = 0 := by omega
      subst this
      simp (disch := omega) only [zL, zlt, zle, zeq, zadd, zmul, zin, zix, zsh1, Nat.add_zero, Nat.zero_add, Nat.mul_zero, if_true, if_false, if_pos, if_neg, sy_bi_ri, sy_bi_rt, sy_bv_rv, sy_bv_rt, sy_br_rr, sy_br_rn, sy_hi_ri, sy_hi_rt, sy_bs_t, sy_bx_t, sy_bb_t, bz_bo, ite_bz0, ite_bz1, jfX0_takeBack, t3]
  obtain ⟨q, hq, eq1, etb⟩ := hat
  have iq := h_slot ⟨q, hq⟩
  simp only at iq
  by_cases h0 : s = 0
  · subst h0
    refine opN_q I (v := (Int32.ofNat 0)) ⟨M, ?_, fq_rfl⟩ (fun N hN => ⟨thr N 0, ?_, fr_thr⟩)
    · have : jfX0_takeBack 9 M = sy_ri (Int32.ofNat 0) M := by
        rw [etb]
        simp (disch := omega) only [zL, zlt, zle, zeq, zadd, zmul, zin, zix, zsh1, Nat.add_zero, Nat.zero_add, Nat.mul_zero, if_true, if_false, if_pos, if_neg, sy_bi_ri, sy_bi_rt, sy_bv_rv, sy_bv_rt, sy_br_rr, sy_br_rn, sy_hi_ri, sy_hi_rt, sy_bs_t, sy_bx_t, sy_bb_t, bz_bo, ite_bz0, ite_bz1, jfX0_takeBack_18, jfX0_slot, t1]
      unfold jfX11_undo
      rw [this, sy_bi_ri]
      rfl
    · have e6 : thr N 0 121 6 = (Int32.ofNat 0) := by rw [thr_j _ _ (by decide), hN 121 (by omega) (by omega)]; exact t2
      simp (disch := omega) only [zL, zlt, zle, zeq, zadd, zmul, zin, zix, zsh1, Nat.add_zero, Nat.zero_add, Nat.mul_zero, if_true, if_false, if_pos, if_neg, sy_bi_ri, sy_bi_rt, sy_bv_rv, sy_bv_rt, sy_br_rr, sy_br_rn, sy_hi_ri, sy_hi_rt, sy_bs_t, sy_bx_t, sy_bb_t, bz_bo, ite_bz0, ite_bz1, jfX12_undo, thr_up, e6]
  · obtain ⟨b1, ⟨n1, g1⟩, b3⟩ := t6 (s - 1) (by omega)
    rw [show (nx + 12 - s + (s - 1)) % 12 = q by omega] at b1
    obtain ⟨M1, e1, w1, f1⟩ := c_takeOver b1 H.dk (by omega) (by omega)
    have k57 : M1 57 = M 57 := f1 57 (by omega)
    have hs1 : Int32.ofNat s - (Int32.ofNat 1) = Int32.ofNat (s - 1) := zsub_1 (by omega)
    generalize hM2 : syc M1 57 (rs (rs (M 57) 2 (Int32.ofNat q)) 1 (Int32.ofNat (s - 1))) = M2
    have C : jfX11_undo M = sy_ri (Int32.ofNat 1) M2 := by
      have : jfX0_takeBack 9 M = sy_ri (Int32.ofNat 1) M2 := by
        have i9 : sy_is 2 9 = true := H.1.1
        rw [etb, ← hM2]
        simp (disch := omega) only [zL, zlt, zle, zeq, zadd, zmul, zin, zix, zsh1, Nat.add_zero, Nat.zero_add, Nat.mul_zero, if_true, if_false, if_pos, if_neg, sy_bi_ri, sy_bi_rt, sy_bv_rv, sy_bv_rt, sy_br_rr, sy_br_rn, sy_hi_ri, sy_hi_rt, sy_bs_t, sy_bx_t, sy_bb_t, bz_bo, ite_bz0, ite_bz1, jfX0_takeBack_18, jfX0_slot, t1, i9, e1, k57, sy_upd_st, syc_at, syc_st, rs_ne, hs1]
      unfold jfX11_undo
      rw [this, sy_bi_ri]
      rfl
    have E2 : ∀ a, a ≠ 57 → (a < 9 ∨ 13 < a) → M2 a = M a := fun a h1 h2 => by rw [← hM2, syc_ne _ _ h1]; exact f1 a (by omega)
    have W2 : hw M2 9 (arow M (s - 1)) := by
      rw [← hM2]
      exact hw_congr w1 (fun a h1 h2 => syc_ne _ _ (by omega))
    generalize hN3 : syc (syc (thr M2 0) 121 (rs (thr M2 0 121) 6 (Int32.ofNat (s - 1)))) 122 (arow M (s - 1)) = M3
    have R : jfX12_undo M2 = sy_ri (Int32.ofNat 1) M3 := by
      have e6 : thr M2 0 121 6 = Int32.ofNat s := by rw [thr_j _ _ (by decide), E2 121 (by omega) (by omega)]; exact t2
      generalize hN : syc (thr M2 0) 121 (rs (thr M2 0 121) 6 (Int32.ofNat (s - 1))) = N at hN3
      have n6 : N 121 6 = Int32.ofNat (s - 1) := by rw [← hN, syc_at, rs_at]
      have n125 : N 125 = M 125 := by rw [← hN, syc_ne _ _ (by decide), thr_ne _ _ (by decide), E2 125 (by omega) (by omega)]
      have n122 : N 122 = M 122 := by rw [← hN, syc_ne _ _ (by decide), thr_ne _ _ (by decide), E2 122 (by omega) (by omega)]
      have e0 : jfX12_undo M2 = jfX12_undo_26 sy_F (Int32.ofNat 0) N := by
        rw [← hN]
        simp (disch := omega) only [zL, zlt, zle, zeq, zadd, zmul, zin, zix, zsh1, Nat.add_zero, Nat.zero_add, Nat.mul_zero, if_true, if_false, if_pos, if_neg, sy_bi_ri, sy_bi_rt, sy_bv_rv, sy_bv_rt, sy_br_rr, sy_br_rn, sy_hi_ri, sy_hi_rt, sy_bs_t, sy_bx_t, sy_bb_t, bz_bo, ite_bz0, ite_bz1, jfX12_undo, thr_up, e6, sy_upd_st (thr M2 0), hs1]
      rw [e0, ← hN3]
      have la : ∀ i, sp_aside i (fun j => M 125 (426 * (s - 1) + j)) (M 122) 0 = sp_aside i (fun j => M 125 (426 * (s - 1) + j)) (M 122) 0 := fun _ => rfl
      refine sy_forR (n := 426) (F := sy_F) (R := fun c => c = sy_ri (Int32.ofNat 1) (syc N 122 (arow M (s - 1)))) (fun k i (K : sy_M) => jfX12_undo_26 k (Int32.ofNat i) K) (fun i K => K = syc N 122 (sp_aside i (fun j => M 125 (426 * (s - 1) + j)) (M 122))) ?_ ?_ N (by rw [sp_aside_0, ← n122, syc_self]) (by rw [sy_F_eq]; omega)
      · intro k i K hi hK
        refine Or.inl ⟨_, ?_, rfl⟩
        subst hK
        show jgX12_undo_26 (jfX12_undo_26 k) (Int32.ofNat i) _ = _
        rw [← sp_aside_succ]
        simp (disch := omega) only [zL, zlt, zle, zeq, zadd, zmul, zin, zix, zsh1, Nat.add_zero, Nat.zero_add, Nat.mul_zero, if_true, if_false, if_pos, if_neg, sy_bi_ri, sy_bi_rt, sy_bv_rv, sy_bv_rt, sy_br_rr, sy_br_rn, sy_hi_ri, sy_hi_rt, sy_bs_t, sy_bx_t, sy_bb_t, bz_bo, ite_bz0, ite_bz1, jgX12_undo_26, syc_ne, n6, n125, sy_upd_st, syc_at, syc_st]
      · intro k K hK
        subst hK
        show jgX12_undo_26 (jfX12_undo_26 k) (Int32.ofNat 426) _ = _
        simp (disch := omega) only [zL, zlt, zle, zeq, zadd, zmul, zin, zix, zsh1, Nat.add_zero, Nat.zero_add, Nat.mul_zero, if_true, if_false, if_pos, if_neg, sy_bi_ri, sy_bi_rt, sy_bv_rv, sy_bv_rt, sy_br_rr, sy_br_rn, sy_hi_ri, sy_hi_rt, sy_bs_t, sy_bx_t, sy_bb_t, bz_bo, ite_bz0, ite_bz1, jgX12_undo_26]
        rfl
    have A3 : ∀ a, a ≠ 121 → a ≠ 122 → M3 a = M2 a := fun a h1 h2 => by rw [← hN3, syc_ne _ _ h2, syc_ne _ _ h1, thr_ne _ _ h1]
    have A4 : ∀ j, j ≠ 0 → j ≠ 6 → M3 121 j = M 121 j := fun j h1 h2 => by rw [← hN3, syc_ne _ _ (by decide), syc_at, rs_ne _ _ h2, thr_j _ _ h1, E2 121 (by omega) (by omega)]
    have A5 : M3 122 = arow M (s - 1) := by rw [← hN3, syc_at]
    have A6 : M3 121 6 = Int32.ofNat (s - 1) := by rw [← hN3, syc_ne _ _ (by decide), syc_at, rs_at]
    have EE : ∀ a, a ≠ 57 → a ≠ 121 → a ≠ 122 → (a < 9 ∨ 13 < a) → M3 a = M a := fun a h1 h2 h3 h4 => (A3 a h2 h3).trans (E2 a h1 h4)
    refine ⟨(Int32.ofNat 1), M2, M3, C, R, ?_, ?_, ?_⟩
    · obtain ⟨i1, i2, i3, i4, i5, i6, i7, i8, ⟨k, hk, ek⟩, i10, i11⟩ := I
      refine ⟨⟨n1, ?_, ?_, ?_, ?_, ?_⟩, ?_, ?_, ?_, ?_, ?_, ?_, ?_, ⟨k, by omega, ?_⟩, ?_, ?_⟩
      · rw [A5]; exact g1
      · rw [A5]; exact hw_congr W2 (fun a h1 h2 => A3 a (by omega) (by omega))
      · rw [A5]; exact hM.1 _ _ ht b3
      · rw [A5]; exact cAK_cp hA (lcp_of (fun a h1 h2 => EE a (by omega) (by omega) (by omega) (by omega))) b3
      · rw [A5, EE 29 (by omega) (by omega) (by omega) (by omega), hl]; exact b3.1.symm
      · exact IK_congr i2 (by rw [EE 0 (by omega) (by omega) (by omega) (by omega)]) (fun a h1 h2 => EE a (by omega) (by omega) (by omega) (by omega)) (fun a h1 h2 => EE a (by omega) (by omega) (by omega) (by omega)) (EE _ (by omega) (by omega) (by omega) (by omega)) (A4 3 (by omega) (by omega)) (fun i hi => by rw [A5]; exact b3.2.2 i (by omega))
      · refine ⟨s - 1, q, by omega, hq, ?_, A6, ?_, fun j hj => ?_⟩
        · rw [A3 57 (by omega) (by omega), ← hM2, syc_at, rs_at]
        · rw [A3 57 (by omega) (by omega), ← hM2, syc_at, rs_ne _ _ (by decide), rs_at]
        · have ej : arow M3 j = arow M j := by
            funext i
            unfold arow
            by_cases hi : i < 426
            · rw [if_pos hi, if_pos hi, EE 125 (by omega) (by omega) (by omega) (by omega)]
            · rw [if_neg hi, if_neg hi, A5]; exact b3.2.2 i (by omega)
          obtain ⟨c1, c2, c3⟩ := t6 j (by omega)
          rw [ej, show (q + 12 - (s - 1) + j) % 12 = (nx + 12 - s + j) % 12 by omega]
          have e3 : (nx + 12 - s + j) % 12 < 12 := Nat.mod_lt _ (by decide)
          generalize (nx + 12 - s + j) % 12 = r at c1 e3
          refine ⟨hw_congr c1 (fun a h1 h2 => EE a (by omega) (by omega) (by omega) (by omega)), c2, ?_⟩
          rw [A5]
          exact ⟨c3.1.trans b3.1.symm, c3.2.1.trans b3.2.1.symm, fun i hi => (c3.2.2 i hi).trans (b3.2.2 i hi).symm⟩
      · exact ⟨dk_congr i4.1 (EE _ (by omega) (by omega) (by omega) (by omega)), dk_congr i4.2.1 (EE _ (by omega) (by omega) (by omega) (by omega)), fun k hk => dk_congr (i4.2.2 k hk) (EE _ (by omega) (by omega) (by omega) (by omega))⟩
      · exact dk_congr i5 (EE _ (by omega) (by omega) (by omega) (by omega))
      · exact IP_congr i6 (by rw [EE 1 (by omega) (by omega) (by omega) (by omega)]) (EE _ (by omega) (by omega) (by omega) (by omega)) (A4 8 (by omega) (by omega)) (EE _ (by omega) (by omega) (by omega) (by omega))
      · rw [EE 0 (by omega) (by omega) (by omega) (by omega), A4 12 (by omega) (by omega)]; exact i7
      · rw [A4 19 (by omega) (by omega)]; exact i8
      · rw [EE 133 (by omega) (by omega) (by omega) (by omega)]; exact ek
      · rw [EE 134 (by omega) (by omega) (by omega) (by omega)]; exact i10
      · rw [EE 1000000 (by omega) (by omega) (by omega) (by omega)]; exact i11
    · rw [E2 134 (by omega) (by omega)]; exact I.2.2.2.2.2.2.2.2.2.1
    · rw [E2 1000000 (by omega) (by omega)]; exact I.2.2.2.2.2.2.2.2.2.2
end
