/-! ===== keepers, count, the log, a lodger ===== -/
section
variable {A : (Nat → Int32) → Nat → Int32 × Bool} {tx : (Nat → Int32) → Prop} {L0 : Int32} {S : Nat → Int32} {e : Nat} {M : sy_M}
def sp_kp (f : Nat → Int32) (n : Nat) (s : Int32) : Nat → Bool
  | 0 => true
  | t + 1 => sp_kp f n s t && (decide (sp_home f n (Int32.ofNat t) = (Int32.ofNat 0)) || !decide (sp_home f n (Int32.ofNat t) &&& s = (Int32.ofNat 0)))
theorem sp_kp_s (f : Nat → Int32) (n : Nat) (s : Int32) (t : Nat) : sp_kp f n s (t + 1) = (sp_kp f n s t && (decide (sp_home f n (Int32.ofNat t) = (Int32.ofNat 0)) || !decide (sp_home f n (Int32.ofNat t) &&& s = (Int32.ofNat 0)))) := rfl
theorem sp_kp_f (f : Nat → Int32) (n : Nat) (s : Int32) {m : Nat} (h : sp_kp f n s m = false) : ∀ k, m ≤ k → sp_kp f n s k = false
  | 0, hk => by
    have : m = 0 := by omega
    subst this
    exact h
  | k + 1, hk => by
    by_cases e : m = k + 1
    · subst e; exact h
    · rw [sp_kp_s, sp_kp_f f n s h k (by omega)]; rfl
theorem c_isKeeping {n : Nat} {s : Int32} {f : Nat → Int32} (hN : nt M n f) : jfX11_isKeeping s M = sy_ri (bz (sp_kp f n s 48)) M := by
  unfold jfX11_isKeeping
  refine sy_forR (n := 48) (F := sy_F) (R := fun c => c = sy_ri (bz (sp_kp f n s 48)) M) (fun k i (_ : Unit) => jfX11_isKeeping_2 k s (Int32.ofNat i) M) (fun i _ => sp_kp f n s i = true) ?_ ?_ () rfl (by rw [sy_F_eq]; omega)
  · intro k i _ hi h1
    show (∃ _ : Unit, jgX11_isKeeping_2 (jfX11_isKeeping_2 k) s (Int32.ofNat i) M = _ ∧ _) ∨ jgX11_isKeeping_2 (jfX11_isKeeping_2 k) s (Int32.ofNat i) M = _
    simp (disch := omega) only [zL, zlt, zle, zeq, zadd, zmul, zin, zix, zsh1, Nat.add_zero, Nat.zero_add, Nat.mul_zero, if_true, if_false, if_pos, if_neg, sy_bi_ri, sy_bi_rt, sy_bv_rv, sy_bv_rt, sy_br_rr, sy_br_rn, sy_hi_ri, sy_hi_rt, sy_bs_t, sy_bx_t, sy_bb_t, bz_bo, ite_bz0, ite_bz1, jgX11_isKeeping_2, jfX11_isKeeping_29, c_presentAt hN]
    by_cases q1 : sp_home f n (Int32.ofNat i) = (Int32.ofNat 0)
    · exact Or.inl ⟨(), by rw [if_pos q1], by rw [sp_kp_s, h1, decide_eq_true q1]; rfl⟩
    · rw [if_neg q1]
      by_cases q2 : sp_home f n (Int32.ofNat i) &&& s = (Int32.ofNat 0)
      · right
        have : sp_kp f n s (i + 1) = false := by rw [sp_kp_s, h1, decide_eq_false q1, decide_eq_true q2]; rfl
        rw [if_pos q2, sp_kp_f f n s this 48 (by omega)]
        rfl
      · exact Or.inl ⟨(), by rw [if_neg q2], by rw [sp_kp_s, h1, decide_eq_false q1, decide_eq_false q2]; rfl⟩
  · intro k _ h1
    show jgX11_isKeeping_2 (jfX11_isKeeping_2 k) s (Int32.ofNat 48) M = _
    rw [h1]
    simp (disch := omega) only [zL, zlt, zle, zeq, zadd, zmul, zin, zix, zsh1, Nat.add_zero, Nat.zero_add, Nat.mul_zero, if_true, if_false, if_pos, if_neg, sy_bi_ri, sy_bi_rt, sy_bv_rv, sy_bv_rt, sy_br_rr, sy_br_rn, sy_hi_ri, sy_hi_rt, sy_bs_t, sy_bx_t, sy_bb_t, bz_bo, ite_bz0, ite_bz1, jgX11_isKeeping_2]
    rfl
/-- of two sets the one of fewer -/
def sp_fw (x i : Nat) : Nat := if x = 0 ∨ sp_cnt i < sp_cnt (x - 1) then i + 1 else x
theorem cnt_le (k : Nat) : sp_cnt k ≤ 7 := by
  unfold sp_cnt
  split <;> split <;> split <;> split <;> split <;> split <;> split <;> omega
theorem c_fewer {x i : Nat} (hx : x ≤ 128) (hi : i < 128) : jfX11_fewer (mv x) (Int32.ofNat i) M = sy_ri (mv (sp_fw x i)) M := by
  unfold jfX11_fewer jfX11_fewer_16 sp_fw
  by_cases h : x = 0
  · subst h
    rw [if_pos (show mv 0 = -1 from rfl), if_pos (Or.inl rfl)]
    rfl
  · rw [if_neg (show ¬ mv x = -1 from mv_ne h (by omega))]
    have em : mv x = Int32.ofNat (x - 1) := if_neg h
    have := cnt_le i
    have := cnt_le (x - 1)
    rw [c_bitCount hi, sy_bi_ri, em, c_bitCount (by omega), sy_bi_ri]
    by_cases h2 : sp_cnt i < sp_cnt (x - 1)
    · rw [if_pos ((zlt (by omega) (by omega)).mpr h2), if_pos (Or.inr h2)]
      rfl
    · rw [if_neg (fun z => h2 ((zlt (by omega) (by omega)).mp z)), if_neg (fun z => z.elim h h2), em]
def sp_ke (f : Nat → Int32) (n : Nat) : Nat → Nat
  | 0 => 0
  | i + 1 => bif sp_kp f n (Int32.ofNat i) 48 then sp_fw (sp_ke f n i) i else sp_ke f n i
theorem sp_ke_s (f : Nat → Int32) (n i : Nat) : sp_ke f n (i + 1) = bif sp_kp f n (Int32.ofNat i) 48 then sp_fw (sp_ke f n i) i else sp_ke f n i := rfl
theorem sp_ke_le (f : Nat → Int32) (n : Nat) : ∀ i, sp_ke f n i ≤ i
  | 0 => Nat.le_refl _
  | i + 1 => by
    have := sp_ke_le f n i
    rw [sp_ke_s]
    unfold sp_fw
    cases sp_kp f n (Int32.ofNat i) 48
    · rw [cond_false]; omega
    · rw [cond_true]
      split <;> omega
theorem m_keep_in {n i : Nat} {x : Int32} {b : Bool} {f : Nat → Int32} (k9 : Int32 → Int32 → sy_M → sy_O) (hf : M 122 = f) (hn : f 3 = Int32.ofNat n) (h7 : n ≤ 7) : jfX12_keepers_42 k9 sy_F x (Int32.ofNat i) (bz b) (Int32.ofNat 0) M = bif b && sp_kp f n (Int32.ofNat i) 48 then k9 (Int32.ofNat i) (Int32.ofNat (i + 1)) M else k9 x (Int32.ofNat (i + 1)) M := by
  subst hf
  have e1 := fun t => m_homeIn (M := M) (n := n) (t := t) hn h7
  have e0 : (b && sp_kp (M 122) n (Int32.ofNat i) 0) = b := by cases b <;> rfl
  have key := sy_forR (n := 48) (F := sy_F) (R := fun c => c = bif b && sp_kp (M 122) n (Int32.ofNat i) 48 then k9 (Int32.ofNat i) (Int32.ofNat (i + 1)) M else k9 x (Int32.ofNat (i + 1)) M) (fun k t (_ : Unit) => jfX12_keepers_42 k9 k x (Int32.ofNat i) (bz (b && sp_kp (M 122) n (Int32.ofNat i) t)) (Int32.ofNat t) M) (fun _ _ => True) ?_ ?_ () trivial (by rw [sy_F_eq]; omega)
  · rw [e0] at key
    exact key
  · intro k t _ ht _
    show (∃ _ : Unit, jgX12_keepers_42 k9 (jfX12_keepers_42 k9 k) x (Int32.ofNat i) (bz (b && sp_kp (M 122) n (Int32.ofNat i) t)) (Int32.ofNat t) M = _ ∧ _) ∨ jgX12_keepers_42 k9 (jfX12_keepers_42 k9 k) x (Int32.ofNat i) (bz (b && sp_kp (M 122) n (Int32.ofNat i) t)) (Int32.ofNat t) M = _
    simp (disch := omega) only [zL, zlt, zle, zeq, zadd, zmul, zin, zix, zsh1, Nat.add_zero, Nat.zero_add, Nat.mul_zero, if_true, if_false, if_pos, if_neg, sy_bi_ri, sy_bi_rt, sy_bv_rv, sy_bv_rt, sy_br_rr, sy_br_rn, sy_hi_ri, sy_hi_rt, sy_bs_t, sy_bx_t, sy_bb_t, bz_bo, ite_bz0, ite_bz1, jgX12_keepers_42, jfX12_keepers_73, jfX12_keepers_78, jfX12_keepers_85, jfX12_keepers_91, e1]
    cases b with
    | false => right; rfl
    | true =>
      simp only [Bool.true_and]
      cases h1 : sp_kp (M 122) n (Int32.ofNat i) t with
      | false =>
        right
        rw [sp_kp_f _ n _ h1 48 (by omega)]
        rfl
      | true =>
        left
        refine ⟨(), ?_, trivial⟩
        rw [sp_kp_s, h1, cond_true]
        by_cases q1 : sp_home (M 122) n (Int32.ofNat t) = (Int32.ofNat 0)
        · rw [if_pos q1, decide_eq_true q1]; rfl
        · rw [if_neg q1, decide_eq_false q1]
          by_cases q2 : sp_home (M 122) n (Int32.ofNat t) &&& Int32.ofNat i = (Int32.ofNat 0)
          · rw [if_pos q2, decide_eq_true q2]; rfl
          · rw [if_neg q2, decide_eq_false q2]; rfl
  · intro k _ _
    show jgX12_keepers_42 k9 (jfX12_keepers_42 k9 k) x (Int32.ofNat i) (bz (b && sp_kp (M 122) n (Int32.ofNat i) 48)) (Int32.ofNat 48) M = _
    simp (disch := omega) only [zL, zlt, zle, zeq, zadd, zmul, zin, zix, zsh1, Nat.add_zero, Nat.zero_add, Nat.mul_zero, if_true, if_false, if_pos, if_neg, sy_bi_ri, sy_bi_rt, sy_bv_rv, sy_bv_rt, sy_br_rr, sy_br_rn, sy_hi_ri, sy_hi_rt, sy_bs_t, sy_bx_t, sy_bb_t, bz_bo, ite_bz0, ite_bz1, jgX12_keepers_42, jfX12_keepers_85, jfX12_keepers_91]
theorem o_keepers (I : Inv A tx L0 S e M) : opN A tx L0 S e (jfX11_keepers M) (jfX12_keepers) := by
  obtain ⟨n, G, H, ht, hA, hl⟩ := id I.1
  have hn := G.2.1
  have h7 := G.2.2.1
  have hpw := pow_le h7
  refine opN_q I (v := mv (sp_ke (M 122) n (2 ^ n))) ?_ (fun N hN => ⟨thr N 0, ?_, fr_thr⟩)
  · obtain ⟨M1, e1, n1, w1, f1⟩ := q_learn H G
    refine ⟨M1, ?_, f1⟩
    have al := c_all (M := M1) (n := n) ((hv_3 w1.1).trans hn) h7
    unfold jfX11_keepers
    rw [e1, sy_bv_rv]
    refine sy_forR (n := 2 ^ n) (F := sy_F) (R := fun c => c = sy_ri (mv (sp_ke (M 122) n (2 ^ n))) M1) (fun k i (_ : Unit) => jfX11_keepers_15 k (mv (sp_ke (M 122) n i)) (Int32.ofNat i) M1) (fun _ _ => True) ?_ ?_ () trivial (by rw [sy_F_eq]; omega)
    · intro k i _ hi _
      refine Or.inl ⟨(), ?_, trivial⟩
      have l1 := sp_ke_le (M 122) n i
      show jgX11_keepers_15 (jfX11_keepers_15 k) (mv (sp_ke (M 122) n i)) (Int32.ofNat i) M1 = _
      rw [sp_ke_s]
      simp (disch := omega) only [zL, zlt, zle, zeq, zadd, zmul, zin, zix, zsh1, Nat.add_zero, Nat.zero_add, Nat.mul_zero, if_true, if_false, if_pos, if_neg, sy_bi_ri, sy_bi_rt, sy_bv_rv, sy_bv_rt, sy_br_rr, sy_br_rn, sy_hi_ri, sy_hi_rt, sy_bs_t, sy_bx_t, sy_bb_t, bz_bo, ite_bz0, ite_bz1, jgX11_keepers_15, jfX11_keepers_37, al, c_isKeeping n1, c_fewer]
      rw [if_neg (all_lt h7 hi)]
      cases sp_kp (M 122) n (Int32.ofNat i) 48 <;> rfl
    · intro k _ _
      show jgX11_keepers_15 (jfX11_keepers_15 k) (mv (sp_ke (M 122) n (2 ^ n))) (Int32.ofNat (2 ^ n)) M1 = _
      simp only [jgX11_keepers_15, al, sy_bi_ri]
      rw [if_pos (all_ge h7)]
  · have e122 : thr N 0 122 = M 122 := (thr_ne _ _ (by decide)).trans (hN 122 (by omega) (by omega))
    have al := m_all (M := thr N 0) (n := n) (by rw [e122]; exact hn) h7
    show (jfX12_keepers_9 sy_F (-1) 0 (sy_upd N 121 0 (Int32.ofNat 0))) = _
    rw [thr_up]
    refine sy_forR (n := 2 ^ n) (F := sy_F) (R := fun c => c = sy_ri (mv (sp_ke (M 122) n (2 ^ n))) (thr N 0)) (fun k i (_ : Unit) => jfX12_keepers_9 k (mv (sp_ke (M 122) n i)) (Int32.ofNat i) (thr N 0)) (fun _ _ => True) ?_ ?_ () trivial (by rw [sy_F_eq]; omega)
    · intro k i _ hi _
      refine Or.inl ⟨(), ?_, trivial⟩
      have l1 := sp_ke_le (M 122) n i
      have ki := fun (x : Int32) (b : Bool) => m_keep_in (M := thr N 0) (i := i) (x := x) (b := b) (jfX12_keepers_9 k) e122 hn h7
      have k1 : ∀ x, jfX12_keepers_42 (jfX12_keepers_9 k) sy_F x (Int32.ofNat i) (Int32.ofNat 1) (Int32.ofNat 0) (thr N 0) = _ := fun x => ki x true
      have k0 : ∀ x, jfX12_keepers_42 (jfX12_keepers_9 k) sy_F x (Int32.ofNat i) (Int32.ofNat 0) (Int32.ofNat 0) (thr N 0) = _ := fun x => ki x false
      show jgX12_keepers_9 (jfX12_keepers_9 k) (mv (sp_ke (M 122) n i)) (Int32.ofNat i) (thr N 0) = _
      rw [sp_ke_s]
      unfold sp_fw
      have c1 := cnt_le i
      have c2 := cnt_le (sp_ke (M 122) n i - 1)
      by_cases h : sp_ke (M 122) n i = 0
      · rw [h]
        have m0 : mv 0 = -(Int32.ofNat 1) := rfl
        simp (disch := omega) only [zL, zlt, zle, zeq, zadd, zmul, zin, zix, zsh1, Nat.add_zero, Nat.zero_add, Nat.mul_zero, if_true, if_false, if_pos, if_neg, sy_bi_ri, sy_bi_rt, sy_bv_rv, sy_bv_rt, sy_br_rr, sy_br_rn, sy_hi_ri, sy_hi_rt, sy_bs_t, sy_bx_t, sy_bb_t, bz_bo, ite_bz0, ite_bz1, jgX12_keepers_9, jfX12_keepers_33, jfX12_keepers_38, al, m0, k1]
        rw [if_neg (all_lt h7 hi)]
        simp only [Bool.true_and]
        cases sp_kp (M 122) n (Int32.ofNat i) 48
        · rfl
        · rw [cond_true, cond_true, if_pos (Or.inl trivial)]; rfl
      · have em : mv (sp_ke (M 122) n i) = Int32.ofNat (sp_ke (M 122) n i - 1) := if_neg h
        have hne := mv_ne h (by omega)
        rw [em] at hne
        simp (disch := omega) only [zL, zlt, zle, zeq, zadd, zmul, zin, zix, zsh1, Nat.add_zero, Nat.zero_add, Nat.mul_zero, if_true, if_false, if_pos, if_neg, sy_bi_ri, sy_bi_rt, sy_bv_rv, sy_bv_rt, sy_br_rr, sy_br_rn, sy_hi_ri, sy_hi_rt, sy_bs_t, sy_bx_t, sy_bb_t, bz_bo, ite_bz0, ite_bz1, jgX12_keepers_9, jfX12_keepers_33, jfX12_keepers_38, al, em, m_bits, k1, k0]
        rw [if_neg (all_lt h7 hi)]
        simp only [Bool.true_and, Bool.false_and, cond_false]
        by_cases h2 : sp_cnt i < sp_cnt (sp_ke (M 122) n i - 1)
        · rw [if_pos h2, if_pos (Or.inr h2)]
          cases sp_kp (M 122) n (Int32.ofNat i) 48
          · rw [cond_false, cond_false, em]
          · rfl
        · rw [if_neg h2, if_neg (fun z => z.elim h h2)]
          cases sp_kp (M 122) n (Int32.ofNat i) 48
          · rw [cond_false, em]
          · rw [cond_true, em]
    · intro k _ _
      show jgX12_keepers_9 (jfX12_keepers_9 k) (mv (sp_ke (M 122) n (2 ^ n))) (Int32.ofNat (2 ^ n)) (thr N 0) = _
      simp only [jgX12_keepers_9, al, sy_bi_ri]
      rw [if_pos (all_ge h7)]
end
