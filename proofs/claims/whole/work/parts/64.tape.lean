/-! ===== feed; undo, image, back ===== -/
section
variable {A : (Nat → Int32) → Nat → Int32 × Bool} {tx : (Nat → Int32) → Prop} {L0 : Int32} {S : Nat → Int32} {e : Nat} {M : sy_M}
def sp_byt (v : Int32) (j : Nat) : Int32 := ((Int32.toUInt32 v >>> (Int32.toUInt32 (Int32.ofNat (24 - 8 * j)) &&& Int32.toUInt32 (Int32.ofNat 31))).toInt32) &&& (Int32.ofNat 255)
theorem and255 (x : Int32) : ∃ k, k ≤ 255 ∧ x &&& (Int32.ofNat 255) = Int32.ofNat k := by
  have h : (x.toBitVec &&& 255#32).toNat ≤ 255 := by
    rw [BitVec.toNat_and]
    exact Nat.and_le_right
  refine ⟨(x.toBitVec &&& 255#32).toNat, h, ?_⟩
  rw [← Int32.toBitVec_inj]
  show x.toBitVec &&& 255#32 = BitVec.ofNat 32 _
  rw [BitVec.ofNat_toNat, BitVec.setWidth_eq]
def ap4 (g : Nat → Int32) (L : Nat) (v : Int32) : Nat → Int32 := rs (rs (rs (rs g L (sp_byt v 0)) (L + 1) (sp_byt v 1)) (L + 2) (sp_byt v 2)) (L + 3) (sp_byt v 3)
theorem c_append {L : Nat} {v : Int32} (h : M 1 4 = Int32.ofNat L) (hL : L + 4 ≤ 400) : jfX10_append v M = sy_rv (syc (syc M 2 (ap4 (M 2) L v)) 1 (rs (M 1) 4 (Int32.ofNat (L + 4)))) := by
  have st : ∀ (N : sy_M) (K s j : Nat) (k : Nat), N 1 4 = Int32.ofNat K → K < 400 → s = 24 - 8 * j → j < 4 → jfX10_append_3 (k + 1) v (Int32.ofNat s) N = jfX10_append_3 k v (Int32.ofNat s + (-(Int32.ofNat 8))) (syc (syc N 2 (rs (N 2) K (sp_byt v j))) 1 (rs (N 1) 4 (Int32.ofNat (K + 1)))) := by
    intro N K s j k h1 h2 h3 h4
    subst h3
    show jgX10_append_3 (jfX10_append_3 k) v (Int32.ofNat (24 - 8 * j)) N = _
    unfold sp_byt
    simp (disch := omega) only [zL, zlt, zle, zeq, zadd, zmul, zin, zix, zsh1, Nat.add_zero, Nat.zero_add, Nat.mul_zero, if_true, if_false, if_pos, if_neg, sy_bi_ri, sy_bi_rt, sy_bv_rv, sy_bv_rt, sy_br_rr, sy_br_rn, sy_hi_ri, sy_hi_rt, sy_bs_t, sy_bx_t, sy_bb_t, bz_bo, ite_bz0, ite_bz1, jgX10_append_3, jfX10_append_50, h1, sy_upd_st, syc_ne]
  unfold jfX10_append ap4
  rw [show sy_F = 5995 + 1 + 1 + 1 + 1 + 1 from sy_F_eq, show (24 : Int32) = (Int32.ofNat 24) from rfl, st M L 24 0 _ h (by omega) rfl (by decide)]
  rw [show ((Int32.ofNat 24) + -(Int32.ofNat 8) : Int32) = (Int32.ofNat 16) from by decide, st _ (L + 1) 16 1 _ (by rw [syc_at, rs_at]) (by omega) rfl (by decide)]
  rw [show ((Int32.ofNat 16) + -(Int32.ofNat 8) : Int32) = (Int32.ofNat 8) from by decide, st _ (L + 1 + 1) 8 2 _ (by rw [syc_at, rs_at]) (by omega) rfl (by decide)]
  rw [show ((Int32.ofNat 8) + -(Int32.ofNat 8) : Int32) = (Int32.ofNat 0) from by decide, st _ (L + 1 + 1 + 1) 0 3 _ (by rw [syc_at, rs_at]) (by omega) rfl (by decide)]
  show jgX10_append_3 (jfX10_append_3 5995) v ((Int32.ofNat 0) + -(Int32.ofNat 8)) _ = _
  unfold jgX10_append_3
  rw [if_pos (show ((Int32.ofNat 0) + -(Int32.ofNat 8) : Int32) < 0 by decide)]
  simp (disch := omega) only [syc_at, syc_ne, rs_rs]
  congr 1
  simp (disch := omega) only [syc_comm _ (a := 1) (b := 2) _ _ (by decide), syc_st]
def sp_w5 (a b c d x : Int32) (k : Nat) : Int32 := [a, b, c, d, x].getD (k / 4) 0
def sp_tp5 (g : Nat → Int32) (L : Nat) (a b c d x : Int32) (m : Nat) : Nat → Int32 := sy_fo (fun k g => rs g (L + k) (sp_byt (sp_w5 a b c d x k) (k % 4))) m 0 g
theorem sp_tp5_s (g : Nat → Int32) (L : Nat) (a b c d x : Int32) (m : Nat) : sp_tp5 g L a b c d x (m + 1) = rs (sp_tp5 g L a b c d x m) (L + m) (sp_byt (sp_w5 a b c d x m) (m % 4)) := by
  unfold sp_tp5
  rw [sy_fo_last, Nat.zero_add]
theorem ap_tp (g : Nat → Int32) (L : Nat) (a b c d x : Int32) : ap4 (ap4 (ap4 (ap4 (ap4 g L a) (L + 4) b) (L + 8) c) (L + 12) d) (L + 16) x = sp_tp5 g L a b c d x 20 := rfl
theorem tp5_eq {g h : Nat → Int32} {L : Nat} {a b c d x : Int32} (H : ∀ i, i < L → g i = h i ∧ ∃ k, k ≤ 255 ∧ h i = Int32.ofNat k) : ∀ m i, i < L + m → sp_tp5 g L a b c d x m i = sp_tp5 h L a b c d x m i ∧ ∃ k, k ≤ 255 ∧ sp_tp5 h L a b c d x m i = Int32.ofNat k
  | 0, i, hi => H i hi
  | m + 1, i, hi => by
    rw [sp_tp5_s, sp_tp5_s]
    by_cases e : i = L + m
    · subst e
      rw [rs_at, rs_at]
      exact ⟨rfl, and255 _⟩
    · rw [rs_ne _ _ e, rs_ne _ _ e]
      exact tp5_eq H m i (by omega)
theorem o_feed (I : Inv A tx L0 S e M) (a b c d x : Int32) : opN A tx L0 S e (jfX11_feed a b c d x M) (jfX12_feed a b c d x) := by
  obtain ⟨L, hL, p1, p2, p3⟩ := I.2.2.2.2.2.1
  by_cases h : 400 < L + 20
  · refine opN_q I (v := -(Int32.ofNat 1)) ⟨M, by simp (disch := omega) only [zL, zlt, zle, zeq, zadd, zmul, zin, zix, zsh1, Nat.add_zero, Nat.zero_add, Nat.mul_zero, if_true, if_false, if_pos, if_neg, sy_bi_ri, sy_bi_rt, sy_bv_rv, sy_bv_rt, sy_br_rr, sy_br_rn, sy_hi_ri, sy_hi_rt, sy_bs_t, sy_bx_t, sy_bb_t, bz_bo, ite_bz0, ite_bz1, jfX11_feed, p1], fq_rfl⟩ (fun N hN => ⟨thr N 0, ?_, fr_thr⟩)
    have e8 : thr N 0 121 8 = Int32.ofNat L := by rw [thr_j _ _ (by decide), hN 121 (by omega) (by omega)]; exact p2
    simp (disch := omega) only [zL, zlt, zle, zeq, zadd, zmul, zin, zix, zsh1, Nat.add_zero, Nat.zero_add, Nat.mul_zero, if_true, if_false, if_pos, if_neg, sy_bi_ri, sy_bi_rt, sy_bv_rv, sy_bv_rt, sy_br_rr, sy_br_rn, sy_hi_ri, sy_hi_rt, sy_bs_t, sy_bx_t, sy_bb_t, bz_bo, ite_bz0, ite_bz1, jfX12_feed, thr_up, e8]
  · have M1e : jfX11_feed a b c d x M = sy_ri (Int32.ofNat (L + 20)) (syc (syc M 2 (sp_tp5 (M 2) L a b c d x 20)) 1 (rs (M 1) 4 (Int32.ofNat (L + 20)))) := by
      have e1 := c_append (v := a) p1 (by omega)
      have e2 := c_append (M := syc (syc M 2 (ap4 (M 2) L a)) 1 (rs (M 1) 4 (Int32.ofNat (L + 4)))) (L := L + 4) (v := b) (by rw [syc_at, rs_at]) (by omega)
      simp (disch := omega) only [syc_at, syc_ne, rs_rs, syc_comm _ (a := 1) (b := 2) _ _ (by decide), syc_st] at e2
      have e3 := c_append (M := syc (syc M 2 (ap4 (ap4 (M 2) L a) (L + 4) b)) 1 (rs (M 1) 4 (Int32.ofNat (L + 4 + 4)))) (L := L + 8) (v := c) (by rw [syc_at, rs_at]) (by omega)
      simp (disch := omega) only [syc_at, syc_ne, rs_rs, syc_comm _ (a := 1) (b := 2) _ _ (by decide), syc_st] at e3
      have e4 := c_append (M := syc (syc M 2 (ap4 (ap4 (ap4 (M 2) L a) (L + 4) b) (L + 8) c)) 1 (rs (M 1) 4 (Int32.ofNat (L + 8 + 4)))) (L := L + 12) (v := d) (by rw [syc_at, rs_at]) (by omega)
      simp (disch := omega) only [syc_at, syc_ne, rs_rs, syc_comm _ (a := 1) (b := 2) _ _ (by decide), syc_st] at e4
      have e5 := c_append (M := syc (syc M 2 (ap4 (ap4 (ap4 (ap4 (M 2) L a) (L + 4) b) (L + 8) c) (L + 12) d)) 1 (rs (M 1) 4 (Int32.ofNat (L + 12 + 4)))) (L := L + 16) (v := x) (by rw [syc_at, rs_at]) (by omega)
      simp (disch := omega) only [syc_at, syc_ne, rs_rs, syc_comm _ (a := 1) (b := 2) _ _ (by decide), syc_st] at e5
      rw [← ap_tp]
      unfold jfX11_feed
      rw [p1, show (20 : Int32) = (Int32.ofNat 20) from rfl, zadd, if_neg (show ¬ (400 : Int32) < Int32.ofNat (L + 20) from fun z => h ((zlt (a := 400) (by decide) (by omega)).mp z)), e1, sy_bv_rv, e2, sy_bv_rv, e3, sy_bv_rv, e4, sy_bv_rv, e5, sy_bv_rv, syc_at, rs_at]
    refine ⟨Int32.ofNat (L + 20), _, syc (syc (thr (syc (syc M 2 (sp_tp5 (M 2) L a b c d x 20)) 1 (rs (M 1) 4 (Int32.ofNat (L + 20)))) 0) 126 (sp_tp5 (M 126) L a b c d x 20)) 121 (rs (thr (syc (syc M 2 (sp_tp5 (M 2) L a b c d x 20)) 1 (rs (M 1) 4 (Int32.ofNat (L + 20)))) 0 121) 8 (Int32.ofNat (L + 20))), M1e, ?_, Inv_tape I (fun q h1 h2 h3 h4 => ?_) (fun j h1 h2 => ?_) ⟨L + 20, by omega, ?_, ?_, fun i hi => ?_⟩, ?_, ?_⟩
    · generalize hN : syc (syc M 2 (sp_tp5 (M 2) L a b c d x 20)) 1 (rs (M 1) 4 (Int32.ofNat (L + 20))) = N
      have N126 : thr N 0 126 = M 126 := by rw [thr_ne _ _ (by decide), ← hN, syc_ne _ _ (by decide), syc_ne _ _ (by decide)]
      have N8 : thr N 0 121 8 = Int32.ofNat L := by rw [thr_j _ _ (by decide), ← hN, syc_ne _ _ (by decide), syc_ne _ _ (by decide)]; exact p2
      have e0 : jfX12_feed a b c d x N = jfX12_feed_23 sy_F a b c d x (Int32.ofNat 0) (thr N 0) := by
        simp (disch := omega) only [zL, zlt, zle, zeq, zadd, zmul, zin, zix, zsh1, Nat.add_zero, Nat.zero_add, Nat.mul_zero, if_true, if_false, if_pos, if_neg, sy_bi_ri, sy_bi_rt, sy_bv_rv, sy_bv_rt, sy_br_rr, sy_br_rn, sy_hi_ri, sy_hi_rt, sy_bs_t, sy_bx_t, sy_bb_t, bz_bo, ite_bz0, ite_bz1, jfX12_feed, thr_up, N8]
      rw [e0]
      refine sy_forR (n := 20) (F := sy_F) (R := fun q => q = sy_ri (Int32.ofNat (L + 20)) (syc (syc (thr N 0) 126 (sp_tp5 (M 126) L a b c d x 20)) 121 (rs (thr N 0 121) 8 (Int32.ofNat (L + 20))))) (fun k i (K : sy_M) => jfX12_feed_23 k a b c d x (Int32.ofNat i) K) (fun i K => K = syc (syc (thr N 0) 126 (sp_tp5 (M 126) L a b c d x i)) 121 (rs (thr N 0 121) 8 (Int32.ofNat (L + i)))) ?_ ?_ (thr N 0) ?_ (by rw [sy_F_eq]; omega)
      · intro k i K hi hK
        refine Or.inl ⟨_, ?_, rfl⟩
        subst hK
        show jgX12_feed_23 (jfX12_feed_23 k) a b c d x (Int32.ofNat i) _ = _
        have m4 : Int32.ofNat i - Int32.ofNat i / (Int32.ofNat 4) * (Int32.ofNat 4) = Int32.ofNat (i % 4) := zmod (by omega) (by omega)
        have s8 : (Int32.ofNat 24) - Int32.ofNat (8 * (i % 4)) = Int32.ofNat (24 - 8 * (i % 4)) := zsub (by omega)
        rw [sp_tp5_s]
        unfold sp_w5 sp_byt
        simp (disch := omega) only [jgX12_feed_23, jfX12_feed_76, zL, zlt, if_pos, syc_at, rs_at, zin, sy_bx_t, zix, m4, zmul, s8, sy_upd_st, syc_ne, zadd, rs_rs, syc_comm _ (a := 121) (b := 126) _ _ (by decide), syc_st]
        by_cases q1 : i < 4
        · rw [if_pos q1, show i / 4 = 0 by omega]; rfl
        · rw [if_neg q1]
          by_cases q2 : i < 8
          · rw [if_pos q2, show i / 4 = 1 by omega]; rfl
          · rw [if_neg q2]
            by_cases q3 : i < 12
            · rw [if_pos q3, show i / 4 = 2 by omega]; rfl
            · rw [if_neg q3]
              by_cases q4 : i < 16
              · rw [if_pos q4, show i / 4 = 3 by omega]; rfl
              · rw [if_neg q4, show i / 4 = 4 by omega]; rfl
      · intro k K hK
        subst hK
        show jgX12_feed_23 (jfX12_feed_23 k) a b c d x (Int32.ofNat 20) _ = _
        simp (disch := omega) only [zL, zlt, zle, zeq, zadd, zmul, zin, zix, zsh1, Nat.add_zero, Nat.zero_add, Nat.mul_zero, if_true, if_false, if_pos, if_neg, sy_bi_ri, sy_bi_rt, sy_bv_rv, sy_bv_rt, sy_br_rr, sy_br_rn, sy_hi_ri, sy_hi_rt, sy_bs_t, sy_bx_t, sy_bb_t, bz_bo, ite_bz0, ite_bz1, jgX12_feed_23, syc_at, rs_at]
      · show thr N 0 = _
        have z1 : sp_tp5 (M 126) L a b c d x 0 = thr N 0 126 := N126.symm
        have z2 : rs (thr N 0 121) 8 (Int32.ofNat (L + 0)) = thr N 0 121 := by rw [Nat.add_zero, ← N8, rs_self]
        rw [z1, z2, syc_self, syc_self]
    · rw [syc_ne _ _ h3, syc_ne _ _ h4, thr_ne _ _ h3, syc_ne _ _ h1, syc_ne _ _ h2]
    · rw [syc_at, rs_ne _ _ h2, thr_j _ _ h1, syc_ne _ _ (by decide), syc_ne _ _ (by decide)]
    · rw [syc_ne _ _ (by decide), syc_ne _ _ (by decide), thr_ne _ _ (by decide), syc_at, rs_at]
    · rw [syc_at, rs_at]
    · have := tp5_eq (a := a) (b := b) (c := c) (d := d) (x := x) p3 20 i hi
      rw [syc_ne _ _ (by decide), syc_ne _ _ (by decide), thr_ne _ _ (by decide), syc_ne _ _ (by decide), syc_at, syc_ne _ _ (by decide), syc_at]
      exact this
    · rw [syc_ne _ _ (by decide), syc_ne _ _ (by decide)]; exact I.2.2.2.2.2.2.2.2.2.1
    · rw [syc_ne _ _ (by decide), syc_ne _ _ (by decide)]; exact I.2.2.2.2.2.2.2.2.2.2
end
