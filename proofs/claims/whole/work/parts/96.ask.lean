/-! ===== culprit, ask: the calls ===== -/
section
variable {A : (Nat → Int32) → Nat → Int32 × Bool} {tx : (Nat → Int32) → Prop} {L0 : Int32} {S : Nat → Int32} {e : Nat} {M : sy_M}
/-- the tape's bytes -/
theorem tape_b (I : Inv A tx L0 S e M) : ∃ (L : Nat) (bt : Nat → Nat), L ≤ 400 ∧ M 1 4 = Int32.ofNat L ∧ M 121 8 = Int32.ofNat L ∧ (∀ i, i < L → M 2 i = Int32.ofNat (bt i) ∧ bt i ≤ 255) ∧ (∀ i, i < L → M 126 i = Int32.ofNat (bt i) ∧ bt i ≤ 255) := by
  obtain ⟨L, hL, p1, p2, p3⟩ := I.2.2.2.2.2.1
  have h : ∀ i, i < L → M 126 i = Int32.ofNat (M 126 i).toNatClampNeg ∧ (M 126 i).toNatClampNeg ≤ 255 := by
    intro i hi
    obtain ⟨q1, k, hk, q2⟩ := p3 i hi
    rw [q2, zix (by omega)]
    exact ⟨rfl, hk⟩
  exact ⟨L, fun i => (M 126 i).toNatClampNeg, hL, p1, p2, fun i hi => ⟨(p3 i hi).1.trans (h i hi).1, (h i hi).2⟩, h⟩
theorem rw_L {bt : Nat → Nat} {mo L : Nat} (h : rw_all bt mo L = true) : L % 2 = 0 ∧ L ≤ 40 ∧ rw_ok bt mo (L / 2) = true := by
  unfold rw_all at h
  rw [Bool.and_eq_true, decide_eq_true_iff] at h
  exact ⟨h.1.1, h.1.2, h.2⟩
theorem ne_m1 {k : Nat} (h : k < 1000) : Int32.ofNat k ≠ -(Int32.ofNat 1) := by
  intro z
  have : ¬ (Int32.ofNat k < (Int32.ofNat 0)) := znn _ (by omega)
  rw [z] at this
  exact this (by decide)
theorem o_culprit (I : Inv A tx L0 S e M) (he : e < 90000) (a : Int32) : opT A tx L0 S e (jfL_culprit a M) (jfX12_culprit a) := by
  obtain ⟨n, G, H, ht, hA, hl⟩ := id I.1
  have hn := G.2.1
  have h7 := G.2.2.1
  obtain ⟨xk, hxk, exk⟩ := I.2.2.2.2.2.2.2.2.1
  have hx := xok he hxk exk
  have h9 : M 9 3 = Int32.ofNat n := (hv_3 H.1).trans hn
  have D19 := I.2.2.2.2.1
  obtain ⟨L, bt, hL, p1, p2, b2, b126⟩ := tape_b I
  have rd := fun (N : sy_M) (hN : rq M N) => m_heard (N := N) (bt := bt) (L := L) (n := n) (f := M 122) hL h7 (by rw [hN 121 (by omega) (by omega)]; exact p2) (hN 122 (by omega) (by omega)) hn (fun i hi => by rw [hN 126 (by omega) (by omega)]; exact b126 i hi)
  unfold jfL_culprit
  rcases c_cl (mo := 1) I he hL (by omega) p1 b2 with ⟨bad, M1, e1, F1⟩ | ⟨ok, M1, e1, F1, C1, g1⟩
  · refine opT_tx I (cl := 20) (c := 1) ⟨M1, ?_, F1⟩ (fun _ => rfl) (by decide) (by decide) (fun N hN => ⟨(Int32.ofNat 0), thr (tz N) 1, ?_, thr_0 _ _, frt_tz⟩)
    · unfold jfX11_culprit
      rw [show (1 : Int32) = (Int32.ofNat 1) from rfl, e1]
      rfl
    · unfold jfX12_culprit
      rw [rd N hN, bad, cond_false, sy_bi_ri]
      simp (disch := omega) only [zL, zlt, zle, zeq, zadd, zmul, zin, zix, zsh1, Nat.add_zero, Nat.zero_add, Nat.mul_zero, if_true, if_false, if_pos, if_neg, sy_bi_ri, sy_bi_rt, sy_bv_rv, sy_bv_rt, sy_br_rr, sy_br_rn, sy_hi_ri, sy_hi_rt, sy_bs_t, sy_bx_t, sy_bb_t, bz_bo, ite_bz0, ite_bz1, jfX12_culprit_16, jfX12_culprit_30, thr_up, thr_0]
  · obtain ⟨M2, e2, n2, g2⟩ := c_learn (M := M1) (h := 9) (n := n) (f := M 122) (hw_congr H (fun c c1 c2 => g1 c (by omega) (by omega) (by omega) (by omega))).1 hn h7
    obtain ⟨k1, k2, k3⟩ := rw_L ok
    have C2 : cu bt (L / 2) M2 := by
      unfold cu
      rw [g2 6 (by decide) (by decide), g2 7 (by decide) (by decide), g2 8 (by decide) (by decide)]
      exact C1
    have hb : ∀ i, i < 2 * (L / 2) → bt i ≤ 255 := fun i hi => (b2 i (by omega)).2
    have cl := cF_le (f := M 122) (bt := bt) (r := L / 2) h7 48
    refine opT_t I (v := if a = (Int32.ofNat 0) then Int32.ofNat (cF (M 122) bt (L / 2) n 48) else cbit (M 122) bt (L / 2) n 48) ⟨M2, ?_, ftp_q F1 (fq_learn g2)⟩ (fun N hN => ⟨thr (hmem (M 122) bt (L / 2) (48 * n) (tz N)) 0, ?_, thr_0 _ _, frt_hm⟩)
    · unfold jfX11_culprit
      rw [show (1 : Int32) = (Int32.ofNat 1) from rfl, e1, sy_bv_rv, e2, sy_bv_rv]
      exact c_culprit h7 (by omega) hb C2 n2
    · unfold jfX12_culprit
      rw [rd N hN, ok, cond_true, sy_bi_ri, if_neg (show ¬ Int32.ofNat (cF (M 122) bt (L / 2) n 48) = -1 from ne_m1 (by omega))]
      have e122 : thr (hmem (M 122) bt (L / 2) (48 * n) (tz N)) 0 122 = M 122 := (thr_ne _ _ (by decide)).trans ((syc_ne _ _ (by decide)).trans ((tz_ne _ (by decide)).trans (hN 122 (by omega) (by omega))))
      have e131 : ∀ x, x < 48 * n → thr (hmem (M 122) bt (L / 2) (48 * n) (tz N)) 0 131 x = bz (hfit (M 122) bt (L / 2) x) := by
        intro x hx
        rw [thr_ne _ _ (by decide)]
        unfold hmem
        rw [syc_at, if_pos hx]
      have lp := m_culp h7 e122 hn e131
      simp (disch := omega) only [zL, zlt, zle, zeq, zadd, zmul, zin, zix, zsh1, Nat.add_zero, Nat.zero_add, Nat.mul_zero, if_true, if_false, if_pos, if_neg, sy_bi_ri, sy_bi_rt, sy_bv_rv, sy_bv_rt, sy_br_rr, sy_br_rn, sy_hi_ri, sy_hi_rt, sy_bs_t, sy_bx_t, sy_bb_t, bz_bo, ite_bz0, ite_bz1, jfX12_culprit_16, jfX12_culprit_30, thr_up, thr_0, lp]
      rw [cbit_hbit h7]
      split <;> rfl
/-! ask -/
theorem zmxn (a b : Nat) (ha : a < 2147483648) (hb : b < 2147483648) : sp_max (Int32.ofNat a) (Int32.ofNat b) = Int32.ofNat (if b < a then a else b) := by
  unfold sp_max
  by_cases c : b < a
  · rw [if_pos ((zlt hb ha).mpr c), if_pos c]
  · rw [if_neg (fun z => c ((zlt hb ha).mp z)), if_neg c]
def akg (F : Nat → Nat) (t : Nat) : Nat := if F 48 - F (t + 1) < F (t + 1) then F (t + 1) else F 48 - F (t + 1)
def ak (F : Nat → Nat) : Nat → Nat × Nat
  | 0 => (0, F 48 + 1)
  | t + 1 => if akg F t < (ak F t).2 then (t, akg F t) else ak F t
theorem ak_s (F : Nat → Nat) (t : Nat) : ak F (t + 1) = if akg F t < (ak F t).2 then (t, akg F t) else ak F t := rfl
theorem akg_le {F : Nat → Nat} {t : Nat} (h : F (t + 1) ≤ F 48) : akg F t ≤ F 48 := by
  unfold akg
  split <;> omega
theorem ak_le {F : Nat → Nat} (hm : ∀ t, t < 48 → F (t + 1) ≤ F 48) : ∀ t, t ≤ 48 → (ak F t).1 ≤ t ∧ (ak F t).2 ≤ F 48 + 1
  | 0, _ => ⟨Nat.le_refl _, Nat.le_refl _⟩
  | t + 1, h => by
    have ih := ak_le hm t (by omega)
    have l := akg_le (hm t (by omega))
    rw [ak_s]
    split
    · exact ⟨Nat.le_succ t, by show akg F t ≤ _; omega⟩
    · omega
theorem c_ask {bt : Nat → Nat} {r n : Nat} {f : Nat → Int32} (h7 : n ≤ 7) (hr : r ≤ 20) (hb : ∀ i, i < 2 * r → bt i ≤ 255) (C : cu bt r M) (hN : nt M n f) : jfX11_ask_39 sy_F (Int32.ofNat (cF f bt r n 48)) (Int32.ofNat 0) (Int32.ofNat (cF f bt r n 48 + 1)) (Int32.ofNat 0) M = sy_ri (Int32.ofNat (ak (cF f bt r n) 48).1) M := by
  have l48 := cF_le (f := f) (bt := bt) (r := r) h7 48
  have mo : ∀ t, t < 48 → cF f bt r n (t + 1) ≤ cF f bt r n 48 := fun t ht => cF_mono 48 (by omega)
  refine sy_forR (n := 48) (F := sy_F) (R := fun c => c = sy_ri (Int32.ofNat (ak (cF f bt r n) 48).1) M) (fun k i (_ : Unit) => jfX11_ask_39 k (Int32.ofNat (cF f bt r n 48)) (Int32.ofNat (ak (cF f bt r n) i).1) (Int32.ofNat (ak (cF f bt r n) i).2) (Int32.ofNat i) M) (fun _ _ => True) ?_ ?_ () trivial (by rw [sy_F_eq]; omega)
  · intro k i _ hi _
    refine Or.inl ⟨(), ?_, trivial⟩
    show jgX11_ask_39 (jfX11_ask_39 k) (Int32.ofNat (cF f bt r n 48)) (Int32.ofNat (ak (cF f bt r n) i).1) (Int32.ofNat (ak (cF f bt r n) i).2) (Int32.ofNat i) M = _
    have m1 := mo i hi
    have a1 := ak_le mo i (by omega)
    have g1 := akg_le m1
    have fi := c_fitting (M := M) (t := i) h7 hr hi hb C hN
    have sb := zsub m1
    have mx : sp_max (Int32.ofNat (cF f bt r n (i + 1))) (Int32.ofNat (cF f bt r n 48 - cF f bt r n (i + 1))) = Int32.ofNat (akg (cF f bt r n) i) := zmxn _ _ (by omega) (by omega)
    rw [ak_s]
    simp (disch := omega) only [zL, zlt, zle, zeq, zadd, zmul, zin, zix, zsh1, Nat.add_zero, Nat.zero_add, Nat.mul_zero, if_true, if_false, if_pos, if_neg, sy_bi_ri, sy_bi_rt, sy_bv_rv, sy_bv_rt, sy_br_rr, sy_br_rn, sy_hi_ri, sy_hi_rt, sy_bs_t, sy_bx_t, sy_bb_t, bz_bo, ite_bz0, ite_bz1, jgX11_ask_39, jfX11_ask_77, fi, sb, c_max, mx]
    split <;> rfl
  · intro k _ _
    show jgX11_ask_39 (jfX11_ask_39 k) (Int32.ofNat (cF f bt r n 48)) (Int32.ofNat (ak (cF f bt r n) 48).1) (Int32.ofNat (ak (cF f bt r n) 48).2) (Int32.ofNat 48) M = _
    simp (disch := omega) only [zL, zlt, zle, zeq, zadd, zmul, zin, zix, zsh1, Nat.add_zero, Nat.zero_add, Nat.mul_zero, if_true, if_false, if_pos, if_neg, sy_bi_ri, sy_bi_rt, sy_bv_rv, sy_bv_rt, sy_br_rr, sy_br_rn, sy_hi_ri, sy_hi_rt, sy_bs_t, sy_bx_t, sy_bb_t, bz_bo, ite_bz0, ite_bz1, jgX11_ask_39]
theorem m_ask_in {n r t : Nat} {bt : Nat → Nat} {f : Nat → Int32} {a2 a3 : Int32} (k37 : Int32 → Int32 → Int32 → Int32 → sy_M → sy_O) (h7 : n ≤ 7) (ht : t < 48) (hf : M 122 = f) (hn : f 3 = Int32.ofNat n) (hm : ∀ x, x < 48 * n → M 131 x = bz (hfit f bt r x)) : jfX12_ask_55 k37 sy_F (Int32.ofNat (cF f bt r n 48)) a2 a3 (Int32.ofNat t) (Int32.ofNat 0) (Int32.ofNat 0) M = if Int32.ofNat (akg (cF f bt r n) t) < a3 then k37 (Int32.ofNat (cF f bt r n 48)) (Int32.ofNat t) (Int32.ofNat (akg (cF f bt r n) t)) (Int32.ofNat (t + 1)) M else k37 (Int32.ofNat (cF f bt r n 48)) a2 a3 (Int32.ofNat (t + 1)) M := by
  have l48 := cF_le (f := f) (bt := bt) (r := r) h7 48
  have m1 : cF f bt r n (t + 1) ≤ cF f bt r n 48 := cF_mono 48 (by omega)
  have sb := zsub m1
  have mx : sp_max (Int32.ofNat (cF f bt r n (t + 1))) (Int32.ofNat (cF f bt r n 48 - cF f bt r n (t + 1))) = Int32.ofNat (akg (cF f bt r n) t) := zmxn _ _ (by omega) (by omega)
  refine sy_forR (n := 48 * n) (F := sy_F) (R := fun c => c = if Int32.ofNat (akg (cF f bt r n) t) < a3 then k37 (Int32.ofNat (cF f bt r n 48)) (Int32.ofNat t) (Int32.ofNat (akg (cF f bt r n) t)) (Int32.ofNat (t + 1)) M else k37 (Int32.ofNat (cF f bt r n 48)) a2 a3 (Int32.ofNat (t + 1)) M) (fun k i (_ : Unit) => jfX12_ask_55 k37 k (Int32.ofNat (cF f bt r n 48)) a2 a3 (Int32.ofNat t) (Int32.ofNat (sm (fun x => b1 (hfit f bt r x && decide (x % 48 ≤ t))) i)) (Int32.ofNat i) M) (fun _ _ => True) ?_ ?_ () trivial (by rw [sy_F_eq]; omega)
  · intro k i _ hi _
    refine Or.inl ⟨(), ?_, trivial⟩
    show jgX12_ask_55 k37 (jfX12_ask_55 k37 k) (Int32.ofNat (cF f bt r n 48)) a2 a3 (Int32.ofNat t) (Int32.ofNat (sm (fun x => b1 (hfit f bt r x && decide (x % 48 ≤ t))) i)) (Int32.ofNat i) M = _
    have zm := zmod (a := i) (b := 48) (by omega) (by omega)
    have m1 := hm i hi
    rw [sm_s]
    simp (disch := omega) only [zL, zlt, zle, zeq, zadd, zmul, zin, zix, zsh1, Nat.add_zero, Nat.zero_add, Nat.mul_zero, if_true, if_false, if_pos, if_neg, sy_bi_ri, sy_bi_rt, sy_bv_rv, sy_bv_rt, sy_br_rr, sy_br_rn, sy_hi_ri, sy_hi_rt, sy_bs_t, sy_bx_t, sy_bb_t, bz_bo, ite_bz0, ite_bz1, jgX12_ask_55, jfX12_ask_95, jfX12_ask_96, hf, hn, m1, zm]
    cases hfit f bt r i with
    | false => rfl
    | true =>
      rw [cond_true]
      by_cases c : t < i % 48
      · rw [if_pos c, decide_eq_false (show ¬ i % 48 ≤ t by omega)]; rfl
      · rw [if_neg c, decide_eq_true (show i % 48 ≤ t by omega)]; rfl
  · intro k _ _
    show jgX12_ask_55 k37 (jfX12_ask_55 k37 k) (Int32.ofNat (cF f bt r n 48)) a2 a3 (Int32.ofNat t) (Int32.ofNat (sm (fun x => b1 (hfit f bt r x && decide (x % 48 ≤ t))) (48 * n))) (Int32.ofNat (48 * n)) M = _
    rw [part_cF ht]
    simp (disch := omega) only [zL, zlt, zle, zeq, zadd, zmul, zin, zix, zsh1, Nat.add_zero, Nat.zero_add, Nat.mul_zero, if_true, if_false, if_pos, if_neg, sy_bi_ri, sy_bi_rt, sy_bv_rv, sy_bv_rt, sy_br_rr, sy_br_rn, sy_hi_ri, sy_hi_rt, sy_bs_t, sy_bx_t, sy_bb_t, bz_bo, ite_bz0, ite_bz1, jgX12_ask_55, jfX12_ask_134, hf, hn, m_greater, sb, mx]
theorem m_ask {n r : Nat} {bt : Nat → Nat} {f : Nat → Int32} (h7 : n ≤ 7) (hf : M 122 = f) (hn : f 3 = Int32.ofNat n) (hm : ∀ x, x < 48 * n → M 131 x = bz (hfit f bt r x)) : jfX12_ask_37 sy_F (Int32.ofNat (cF f bt r n 48)) (-(Int32.ofNat 1)) (Int32.ofNat 2000000000) (Int32.ofNat 0) M = sy_ri (if cF f bt r n 48 < 2 then -(Int32.ofNat 1) else Int32.ofNat (ak (cF f bt r n) 48).1) M := by
  have l48 := cF_le (f := f) (bt := bt) (r := r) h7 48
  have mo : ∀ t, t < 48 → cF f bt r n (t + 1) ≤ cF f bt r n 48 := fun t ht => cF_mono 48 (by omega)
  by_cases c : cF f bt r n 48 < 2
  · rw [if_pos c, show sy_F = (sy_F - 1) + 1 by rw [sy_F_eq]]
    show jgX12_ask_37 (jfX12_ask_37 (sy_F - 1)) (Int32.ofNat (cF f bt r n 48)) (-(Int32.ofNat 1)) (Int32.ofNat 2000000000) (Int32.ofNat 0) M = _
    have : ¬ 1 < cF f bt r n 48 := by omega
    simp (disch := omega) only [zL, zlt, zle, zeq, zadd, zmul, zin, zix, zsh1, Nat.add_zero, Nat.zero_add, Nat.mul_zero, if_true, if_false, if_pos, if_neg, sy_bi_ri, sy_bi_rt, sy_bv_rv, sy_bv_rt, sy_br_rr, sy_br_rn, sy_hi_ri, sy_hi_rt, sy_bs_t, sy_bx_t, sy_bb_t, bz_bo, ite_bz0, ite_bz1, jgX12_ask_37]
  · rw [if_neg c]
    have c1 : 1 < cF f bt r n 48 := by omega
    refine sy_forR (n := 48) (F := sy_F) (R := fun c => c = sy_ri (Int32.ofNat (ak (cF f bt r n) 48).1) M) (fun k i (_ : Unit) => jfX12_ask_37 k (Int32.ofNat (cF f bt r n 48)) (if i = 0 then -(Int32.ofNat 1) else Int32.ofNat (ak (cF f bt r n) i).1) (if i = 0 then (Int32.ofNat 2000000000) else Int32.ofNat (ak (cF f bt r n) i).2) (Int32.ofNat i) M) (fun _ _ => True) ?_ ?_ () trivial (by rw [sy_F_eq]; omega)
    · intro k i _ hi _
      refine Or.inl ⟨(), ?_, trivial⟩
      show jgX12_ask_37 (jfX12_ask_37 k) (Int32.ofNat (cF f bt r n 48)) (if i = 0 then -(Int32.ofNat 1) else Int32.ofNat (ak (cF f bt r n) i).1) (if i = 0 then (Int32.ofNat 2000000000) else Int32.ofNat (ak (cF f bt r n) i).2) (Int32.ofNat i) M = _
      have a1 := ak_le mo i (by omega)
      have g1 := akg_le (mo i hi)
      have inn := fun a2 a3 => m_ask_in (M := M) (n := n) (r := r) (t := i) (bt := bt) (f := f) (a2 := a2) (a3 := a3) (jfX12_ask_37 k) h7 hi hf hn hm
      rw [if_neg (show ¬ i + 1 = 0 by omega), if_neg (show ¬ i + 1 = 0 by omega), ak_s]
      by_cases z : i = 0
      · subst z
        have t1 : akg (cF f bt r n) 0 < (ak (cF f bt r n) 0).2 := by
          show akg (cF f bt r n) 0 < cF f bt r n 48 + 1
          omega
        rw [if_pos t1]
        simp (disch := omega) only [zL, zlt, zle, zeq, zadd, zmul, zin, zix, zsh1, Nat.add_zero, Nat.zero_add, Nat.mul_zero, if_true, if_false, if_pos, if_neg, sy_bi_ri, sy_bi_rt, sy_bv_rv, sy_bv_rt, sy_br_rr, sy_br_rn, sy_hi_ri, sy_hi_rt, sy_bs_t, sy_bx_t, sy_bb_t, bz_bo, ite_bz0, ite_bz1, jgX12_ask_37, inn]
      · rw [if_neg z, if_neg z]
        simp (disch := omega) only [zL, zlt, zle, zeq, zadd, zmul, zin, zix, zsh1, Nat.add_zero, Nat.zero_add, Nat.mul_zero, if_true, if_false, if_pos, if_neg, sy_bi_ri, sy_bi_rt, sy_bv_rv, sy_bv_rt, sy_br_rr, sy_br_rn, sy_hi_ri, sy_hi_rt, sy_bs_t, sy_bx_t, sy_bb_t, bz_bo, ite_bz0, ite_bz1, jgX12_ask_37, inn]
        split <;> rfl
    · intro k _ _
      show jgX12_ask_37 (jfX12_ask_37 k) (Int32.ofNat (cF f bt r n 48)) (if 48 = 0 then -(Int32.ofNat 1) else Int32.ofNat (ak (cF f bt r n) 48).1) (if 48 = 0 then (Int32.ofNat 2000000000) else Int32.ofNat (ak (cF f bt r n) 48).2) (Int32.ofNat 48) M = _
      rw [if_neg (by decide), if_neg (by decide)]
      simp (disch := omega) only [zL, zlt, zle, zeq, zadd, zmul, zin, zix, zsh1, Nat.add_zero, Nat.zero_add, Nat.mul_zero, if_true, if_false, if_pos, if_neg, sy_bi_ri, sy_bi_rt, sy_bv_rv, sy_bv_rt, sy_br_rr, sy_br_rn, sy_hi_ri, sy_hi_rt, sy_bs_t, sy_bx_t, sy_bb_t, bz_bo, ite_bz0, ite_bz1, jgX12_ask_37]
theorem o_ask (I : Inv A tx L0 S e M) (he : e < 90000) : opT A tx L0 S e (jfL_ask M) (jfX12_ask) := by
  obtain ⟨n, G, H, ht, hA, hl⟩ := id I.1
  have hn := G.2.1
  have h7 := G.2.2.1
  obtain ⟨xk, hxk, exk⟩ := I.2.2.2.2.2.2.2.2.1
  have hx := xok he hxk exk
  have h9 : M 9 3 = Int32.ofNat n := (hv_3 H.1).trans hn
  have D19 := I.2.2.2.2.1
  obtain ⟨L, bt, hL, p1, p2, b2, b126⟩ := tape_b I
  have rd := fun (N : sy_M) (hN : rq M N) => m_heard (N := N) (bt := bt) (L := L) (n := n) (f := M 122) hL h7 (by rw [hN 121 (by omega) (by omega)]; exact p2) (hN 122 (by omega) (by omega)) hn (fun i hi => by rw [hN 126 (by omega) (by omega)]; exact b126 i hi)
  unfold jfL_ask
  rcases c_cl (mo := 1) I he hL (by omega) p1 b2 with ⟨bad, M1, e1, F1⟩ | ⟨ok, M1, e1, F1, C1, g1⟩
  · refine opT_tx I (cl := 20) (c := 1) ⟨M1, ?_, F1⟩ (fun _ => rfl) (by decide) (by decide) (fun N hN => ⟨(Int32.ofNat 0), thr (tz N) 1, ?_, thr_0 _ _, frt_tz⟩)
    · unfold jfX11_ask
      rw [show (1 : Int32) = (Int32.ofNat 1) from rfl, e1]
      rfl
    · unfold jfX12_ask
      rw [rd N hN, bad, cond_false, sy_bi_ri]
      simp (disch := omega) only [zL, zlt, zle, zeq, zadd, zmul, zin, zix, zsh1, Nat.add_zero, Nat.zero_add, Nat.mul_zero, if_true, if_false, if_pos, if_neg, sy_bi_ri, sy_bi_rt, sy_bv_rv, sy_bv_rt, sy_br_rr, sy_br_rn, sy_hi_ri, sy_hi_rt, sy_bs_t, sy_bx_t, sy_bb_t, bz_bo, ite_bz0, ite_bz1, jfX12_ask_16, thr_up, thr_0]
  · obtain ⟨M2, e2, n2, g2⟩ := c_learn (M := M1) (h := 9) (n := n) (f := M 122) (hw_congr H (fun c c1 c2 => g1 c (by omega) (by omega) (by omega) (by omega))).1 hn h7
    obtain ⟨k1, k2, k3⟩ := rw_L ok
    have C2 : cu bt (L / 2) M2 := by
      unfold cu
      rw [g2 6 (by decide) (by decide), g2 7 (by decide) (by decide), g2 8 (by decide) (by decide)]
      exact C1
    have hb : ∀ i, i < 2 * (L / 2) → bt i ≤ 255 := fun i hi => (b2 i (by omega)).2
    have cl := cF_le (f := M 122) (bt := bt) (r := L / 2) h7 48
    refine opT_t I (v := if cF (M 122) bt (L / 2) n 48 < 2 then -(Int32.ofNat 1) else Int32.ofNat (ak (cF (M 122) bt (L / 2) n) 48).1) ⟨M2, ?_, ftp_q F1 (fq_learn g2)⟩ (fun N hN => ⟨thr (hmem (M 122) bt (L / 2) (48 * n) (tz N)) 0, ?_, thr_0 _ _, frt_hm⟩)
    · unfold jfX11_ask
      have fi := c_fitting (M := M2) (t := 47) h7 (show L / 2 ≤ 20 by omega) (by decide) hb C2 n2
      have ca := c_ask (M := M2) h7 (show L / 2 ≤ 20 by omega) hb C2 n2
      rw [show (47 + 1 : Nat) = 48 from rfl] at fi
      rw [show (1 : Int32) = (Int32.ofNat 1) from rfl, e1, sy_bv_rv, e2, sy_bv_rv, show (47 : Int32) = (Int32.ofNat 47) from rfl, fi, sy_bi_ri]
      by_cases c : cF (M 122) bt (L / 2) n 48 < 2
      · rw [if_pos c, if_pos (show Int32.ofNat (cF (M 122) bt (L / 2) n 48) < 2 from (zlt (b := 2) (by omega) (by omega)).mpr c)]
      · rw [if_neg c, if_neg (show ¬ Int32.ofNat (cF (M 122) bt (L / 2) n 48) < 2 from fun z => c ((zlt (b := 2) (by omega) (by omega)).mp z))]
        show jfX11_ask_39 sy_F (Int32.ofNat (cF (M 122) bt (L / 2) n 48)) (Int32.ofNat 0) (Int32.ofNat (cF (M 122) bt (L / 2) n 48) + (Int32.ofNat 1)) (Int32.ofNat 0) M2 = _
        rw [zadd]
        exact ca
    · unfold jfX12_ask
      rw [rd N hN, ok, cond_true, sy_bi_ri, if_neg (show ¬ Int32.ofNat (cF (M 122) bt (L / 2) n 48) = -1 from ne_m1 (by omega))]
      have e122 : thr (hmem (M 122) bt (L / 2) (48 * n) (tz N)) 0 122 = M 122 := (thr_ne _ _ (by decide)).trans ((syc_ne _ _ (by decide)).trans ((tz_ne _ (by decide)).trans (hN 122 (by omega) (by omega))))
      have e131 : ∀ x, x < 48 * n → thr (hmem (M 122) bt (L / 2) (48 * n) (tz N)) 0 131 x = bz (hfit (M 122) bt (L / 2) x) := by
        intro x hx
        rw [thr_ne _ _ (by decide)]
        unfold hmem
        rw [syc_at, if_pos hx]
      have lp := m_ask h7 e122 hn e131
      simp (disch := omega) only [zL, zlt, zle, zeq, zadd, zmul, zin, zix, zsh1, Nat.add_zero, Nat.zero_add, Nat.mul_zero, if_true, if_false, if_pos, if_neg, sy_bi_ri, sy_bi_rt, sy_bv_rv, sy_bv_rt, sy_br_rr, sy_br_rn, sy_hi_ri, sy_hi_rt, sy_bs_t, sy_bx_t, sy_bb_t, bz_bo, ite_bz0, ite_bz1, jfX12_ask_16, thr_up, thr_0, lp]
end
