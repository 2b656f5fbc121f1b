/-! ===== clues: the tape as rows of a tick and a number ===== -/
section
variable {A : (Nat → Int32) → Nat → Int32 × Bool} {tx : (Nat → Int32) → Prop} {L0 : Int32} {S : Nat → Int32} {e : Nat} {M : sy_M}
def ftp (M M1 : sy_M) : Prop := (∀ a, ¬ qs a → a ≠ 1 → M1 a = M a) ∧ (dk M 19 → dk M1 19) ∧ M1 1 = rs (M 1) 4 (Int32.ofNat 0)
def frt (M M1 : sy_M) : Prop := (∀ a, ¬ rx a → M1 a = M a) ∧ (∀ j, j = 3 ∨ j = 6 ∨ j = 12 ∨ j = 19 → M1 121 j = M 121 j) ∧ M1 121 8 = (Int32.ofNat 0)
theorem ftp_q {M1 M2 : sy_M} (h : ftp M M1) (q : fq M1 M2) : ftp M M2 := ⟨fun a h1 h2 => (q.1 a h1).trans (h.1 a h1 h2), fun d => q.2 (h.2.1 d), (q.1 1 (by unfold qs; omega)).trans h.2.2⟩
theorem ftp_rq {M1 : sy_M} (h : ftp M M1) : rq M M1 := fun a h1 h2 => h.1 a (by unfold qs; omega) (by omega)
theorem Inv_t {M3 : sy_M} (I : Inv A tx L0 S e M) (h1 : ∀ a, keepc a → a ≠ 1 → M3 a = M a) (h2 : M3 1 = rs (M 1) 4 (Int32.ofNat 0)) (h3 : M3 121 8 = (Int32.ofNat 0)) (hj : ∀ j, j = 3 ∨ j = 6 ∨ j = 12 ∨ j = 19 → M3 121 j = M 121 j) (hd : dk M3 19) (he : ∃ k, k ≤ e + 1 ∧ M3 133 0 = Int32.ofNat k) : Inv A tx L0 S (e + 1) M3 := by
  have Ia := Inv_tape (M3 := syc (syc M 1 (rs (M 1) 4 (Int32.ofNat 0))) 121 (rs (M 121) 8 (Int32.ofNat 0))) I (fun a c1 c2 c3 c4 => by rw [syc_ne _ _ c3, syc_ne _ _ c1]) (fun j c1 c2 => by rw [syc_at, rs_ne _ _ c2]) ⟨0, by omega, by rw [syc_ne _ _ (by decide), syc_at, rs_at], by rw [syc_at, rs_at], fun i hi => by omega⟩
  refine Inv_congr Ia (fun a ha => ?_) (fun j hjj => ?_) hd he
  · by_cases c : a = 1
    · subst c
      rw [h2, syc_ne _ _ (by decide), syc_at]
    · have c1 : a ≠ 121 := by unfold keepc at ha; omega
      rw [h1 a ha c, syc_ne _ _ c1, syc_ne _ _ c]
  · rw [syc_at]
    by_cases c : j = 8
    · subst c
      rw [h3, rs_at]
    · rw [hj j (by omega), rs_ne _ _ c]
theorem opT_t (I : Inv A tx L0 S e M) {x : sy_O} {y : sy_M → sy_O} {kt : Nat → sy_M → sy_O} {v : Int32} (hc : ∃ M1, x = sy_ri v M1 ∧ ftp M M1) (hr : ∀ N, rq M N → ∃ N1, y N = sy_ri v N1 ∧ N1 121 0 = (Int32.ofNat 0) ∧ frt N N1) : opT A tx L0 S e (sy_hi x (fun v M1 => sy_ri 0 (sy_wl M1 132 0 (Int32.toInt64 v))) kt) y := by
  obtain ⟨M1, e1, f1⟩ := hc
  have f2 := ftp_q f1 (fq_wl (v := Int32.toInt64 v))
  obtain ⟨M3, e3, t3, f3⟩ := hr _ (ftp_rq f2)
  obtain ⟨k, hk, ek⟩ := I.2.2.2.2.2.2.2.2.1
  refine ⟨0, v, sy_wl M1 132 0 (Int32.toInt64 v), M3, ?_, e3, t3, by decide, fun _ => ?_, Inv_t I (fun a c1 c2 => ?_) ?_ f3.2.2 (fun j hj => ?_) ?_ ⟨k, by omega, ?_⟩, ?_, ?_⟩
  · rw [e1, sy_hi_ri]; rfl
  · rw [sy_rl_cg (f3.1 132 (by unfold rx; omega)), sy_rl_wl, if_pos ⟨rfl, rfl⟩]
  · unfold keepc at c1
    rw [f3.1 a (by unfold rx; omega), f2.1 a (by unfold qs; omega) c2]
  · rw [f3.1 1 (by unfold rx; omega)]; exact f2.2.2
  · rw [f3.2.1 j hj, f2.1 121 (by unfold qs; omega) (by omega)]
  · exact dk_congr (f2.2.1 I.2.2.2.2.1) (f3.1 22 (by unfold rx; omega))
  · rw [f3.1 133 (by unfold rx; omega), f2.1 133 (by unfold qs; omega) (by omega)]; exact ek
  · rw [f2.1 134 (by unfold qs; omega) (by omega)]; exact I.2.2.2.2.2.2.2.2.2.1
  · rw [f2.1 1000000 (by unfold qs; omega) (by omega)]; exact I.2.2.2.2.2.2.2.2.2.2
theorem opT_tx (I : Inv A tx L0 S e M) {x : sy_O} {y : sy_M → sy_O} {k0 : Int32 → sy_M → sy_O} {kt : Nat → sy_M → sy_O} {cl c : Nat} (hc : ∃ M1, x = sy_rt cl (sx M1) ∧ ftp M M1) (hk : ∀ M1, kt cl M1 = sy_ri (Int32.ofNat c) M1) (h0 : c ≠ 0) (h4 : c < 4) (hr : ∀ N, rq M N → ∃ v N1, y N = sy_ri v N1 ∧ N1 121 0 = Int32.ofNat c ∧ frt N N1) : opT A tx L0 S e (sy_hi x k0 kt) y := by
  obtain ⟨M1, e1, f1⟩ := hc
  have sn : ∀ a, a ≠ 133 → sx M1 a = M1 a := fun a ha => by unfold sx; rw [sy_upd_st, syc_ne _ _ ha]
  obtain ⟨v, M3, e3, t3, f3⟩ := hr (sx M1) (fun a c1 c2 => (sn a (by omega)).trans (ftp_rq f1 a c1 c2))
  obtain ⟨k, hk1, ek⟩ := I.2.2.2.2.2.2.2.2.1
  refine ⟨c, v, sx M1, M3, ?_, e3, t3, h4, fun z => absurd z h0, Inv_t I (fun a c1 c2 => ?_) ?_ f3.2.2 (fun j hj => ?_) ?_ ⟨k + 1, by omega, ?_⟩, ?_, ?_⟩
  · rw [e1, sy_hi_rt, hk]
  · unfold keepc at c1
    rw [f3.1 a (by unfold rx; omega), sn a (by omega), f1.1 a (by unfold qs; omega) c2]
  · rw [f3.1 1 (by unfold rx; omega), sn 1 (by omega)]; exact f1.2.2
  · rw [f3.2.1 j hj, sn 121 (by omega), f1.1 121 (by unfold qs; omega) (by omega)]
  · exact dk_congr (f1.2.1 I.2.2.2.2.1) ((f3.1 22 (by unfold rx; omega)).trans (sn 22 (by omega)))
  · have e5 : M1 133 0 = Int32.ofNat k := by rw [f1.1 133 (by unfold qs; omega) (by omega)]; exact ek
    rw [f3.1 133 (by unfold rx; omega)]
    unfold sx
    rw [sy_upd_st, syc_at, rs_at, e5]
    exact zadd k 1
  · rw [sn 134 (by omega), f1.1 134 (by unfold qs; omega) (by omega)]; exact I.2.2.2.2.2.2.2.2.2.1
  · rw [sn 1000000 (by omega), f1.1 1000000 (by unfold qs; omega) (by omega)]; exact I.2.2.2.2.2.2.2.2.2.2
/-! rows -/
def rw_ok (bt : Nat → Nat) (mo : Nat) : Nat → Bool
  | 0 => true
  | i + 1 => rw_ok bt mo i && (decide (bt (2 * i) < 48) && decide (bt (2 * i + 1) ≤ mo))
theorem rw_ok_s (bt : Nat → Nat) (mo i : Nat) : rw_ok bt mo (i + 1) = (rw_ok bt mo i && (decide (bt (2 * i) < 48) && decide (bt (2 * i + 1) ≤ mo))) := rfl
theorem rw_ok_f {bt : Nat → Nat} {mo m : Nat} (h : rw_ok bt mo m = false) : ∀ k, m ≤ k → rw_ok bt mo k = false
  | 0, hk => by
    have : m = 0 := by omega
    subst this
    exact h
  | k + 1, hk => by
    by_cases e : m = k + 1
    · subst e; exact h
    · rw [rw_ok_s, rw_ok_f h k (by omega)]; rfl
theorem rw_ok_t {bt : Nat → Nat} {mo m : Nat} (h : rw_ok bt mo m = true) : ∀ k, k < m → bt (2 * k) < 48 ∧ bt (2 * k + 1) ≤ mo := by
  intro k hk
  cases e : rw_ok bt mo (k + 1) with
  | false => exact absurd ((rw_ok_f e m (by omega)).symm.trans h) (by decide)
  | true =>
    rw [rw_ok_s, Bool.and_eq_true, Bool.and_eq_true, decide_eq_true_iff, decide_eq_true_iff] at e
    exact e.2
def rw_all (bt : Nat → Nat) (mo L : Nat) : Bool := decide (L % 2 = 0 ∧ L ≤ 40) && rw_ok bt mo (L / 2)
/-- the clues stand in the class -/
def cu (bt : Nat → Nat) (r : Nat) (M : sy_M) : Prop := M 6 2 = Int32.ofNat r ∧ ∀ i, i < r → M 7 i = Int32.ofNat (bt (2 * i)) ∧ M 8 i = Int32.ofNat (bt (2 * i + 1))
theorem c_readRows {bt : Nat → Nat} {mo L : Nat} (hL : L ≤ 400) (hm : mo ≤ 255) (h1 : M 1 4 = Int32.ofNat L) (hb : ∀ i, i < L → M 2 i = Int32.ofNat (bt i) ∧ bt i ≤ 255) : ∃ M1, jfX1_readRows (Int32.ofNat mo) M = sy_ri (bz (rw_all bt mo L)) M1 ∧ (∀ a, a ≠ 1 → a ≠ 6 → a ≠ 7 → a ≠ 8 → M1 a = M a) ∧ M1 1 = rs (M 1) 4 (Int32.ofNat 0) ∧ (rw_all bt mo L = true → cu bt (L / 2) M1) := by
  let M3 := syc (syc M 1 (rs (M 1) 4 (Int32.ofNat 0))) 6 (rs (M 6) 2 (Int32.ofNat 0))
  have eM : sy_upd (sy_upd M 1 4 (Int32.ofNat 0)) 6 2 (Int32.ofNat 0) = M3 := by
    rw [sy_upd_st, sy_upd_st, syc_ne _ _ (by decide)]
  have g1 : ∀ a, a ≠ 1 → a ≠ 6 → M3 a = M a := fun a c1 c2 => by
    show syc (syc M 1 (rs (M 1) 4 (Int32.ofNat 0))) 6 (rs (M 6) 2 (Int32.ofNat 0)) a = M a
    rw [syc_ne _ _ c2, syc_ne _ _ c1]
  have g2 : M3 1 = rs (M 1) 4 (Int32.ofNat 0) := by
    show syc (syc M 1 (rs (M 1) 4 (Int32.ofNat 0))) 6 (rs (M 6) 2 (Int32.ofNat 0)) 1 = _
    rw [syc_ne _ _ (by decide), syc_at]
  have g3 : M3 6 2 = (Int32.ofNat 0) := by
    show syc (syc M 1 (rs (M 1) 4 (Int32.ofNat 0))) 6 (rs (M 6) 2 (Int32.ofNat 0)) 6 2 = _
    rw [syc_at, rs_at]
  have zm := zmod (a := L) (b := 2) (by omega) (by omega)
  unfold rw_all
  unfold jfX1_readRows
  simp only [zL, h1, eM, zm]
  by_cases q1 : L % 2 = 0
  · rw [if_pos ((zeq (by omega) (by omega)).mpr q1)]
    by_cases q2 : 40 < L
    · rw [if_pos ((zlt (by omega) (by omega)).mpr q2), decide_eq_false (by omega), Bool.false_and]
      exact ⟨M3, rfl, fun a c1 c2 _ _ => g1 a c1 c2, g2, fun z => absurd z (by decide)⟩
    · rw [if_neg (fun z => q2 ((zlt (by omega) (by omega)).mp z)), decide_eq_true ⟨q1, by omega⟩, Bool.true_and]
      refine sy_forR (n := L / 2) (F := sy_F) (R := fun c => ∃ M1, c = sy_ri (bz (rw_ok bt mo (L / 2))) M1 ∧ (∀ a, a ≠ 1 → a ≠ 6 → a ≠ 7 → a ≠ 8 → M1 a = M a) ∧ M1 1 = rs (M 1) 4 (Int32.ofNat 0) ∧ (rw_ok bt mo (L / 2) = true → cu bt (L / 2) M1)) (fun k i (N : sy_M) => jfX1_readRows_32 k (Int32.ofNat mo) (Int32.ofNat L) (Int32.ofNat i) N) (fun i N => rw_ok bt mo i = true ∧ cu bt i N ∧ (∀ a, a ≠ 6 → a ≠ 7 → a ≠ 8 → N a = M3 a)) ?_ ?_ M3 ⟨rfl, ⟨g3, fun i hi => by omega⟩, fun _ _ _ _ => rfl⟩ (by rw [sy_F_eq]; omega)
      · intro k i N hi ⟨p1, p2, p3⟩
        have b1 := hb (2 * i) (by omega)
        have b2 := hb (2 * i + 1) (by omega)
        have n2 : N 2 = M 2 := (p3 2 (by decide) (by decide) (by decide)).trans (g1 2 (by decide) (by decide))
        let N1 := syc (syc N 7 (rs (N 7) i (Int32.ofNat (bt (2 * i))))) 8 (rs (N 8) i (Int32.ofNat (bt (2 * i + 1))))
        have by1 : jfX10_byteAt (Int32.ofNat (2 * i)) N = sy_ri (Int32.ofNat (bt (2 * i))) N := by
          have : N 2 (2 * i) = Int32.ofNat (bt (2 * i)) := by rw [n2]; exact b1.1
          have z0 : ¬ (Int32.ofNat (2 * i) < (Int32.ofNat 0)) := znn _ (by omega)
          simp (disch := omega) only [zL, zlt, zle, zeq, zadd, zmul, zin, zix, zsh1, Nat.add_zero, Nat.zero_add, Nat.mul_zero, if_true, if_false, if_pos, if_neg, sy_bi_ri, sy_bi_rt, sy_bv_rv, sy_bv_rt, sy_br_rr, sy_br_rn, sy_hi_ri, sy_hi_rt, sy_bs_t, sy_bx_t, sy_bb_t, bz_bo, ite_bz0, ite_bz1, jfX10_byteAt, z0, this]
        have by2 : jfX10_byteAt (Int32.ofNat (2 * i + 1)) (syc N 7 (rs (N 7) i (Int32.ofNat (bt (2 * i))))) = sy_ri (Int32.ofNat (bt (2 * i + 1))) (syc N 7 (rs (N 7) i (Int32.ofNat (bt (2 * i))))) := by
          have : syc N 7 (rs (N 7) i (Int32.ofNat (bt (2 * i)))) 2 (2 * i + 1) = Int32.ofNat (bt (2 * i + 1)) := by rw [syc_ne _ _ (by decide), n2]; exact b2.1
          have z0 : ¬ (Int32.ofNat (2 * i + 1) < (Int32.ofNat 0)) := znn _ (by omega)
          simp (disch := omega) only [zL, zlt, zle, zeq, zadd, zmul, zin, zix, zsh1, Nat.add_zero, Nat.zero_add, Nat.mul_zero, if_true, if_false, if_pos, if_neg, sy_bi_ri, sy_bi_rt, sy_bv_rv, sy_bv_rt, sy_br_rr, sy_br_rn, sy_hi_ri, sy_hi_rt, sy_bs_t, sy_bx_t, sy_bb_t, bz_bo, ite_bz0, ite_bz1, jfX10_byteAt, z0, this]
        have u1 : sy_upd N 7 i (Int32.ofNat (bt (2 * i))) = syc N 7 (rs (N 7) i (Int32.ofNat (bt (2 * i)))) := sy_upd_st _ _ _ _
        have u2 : sy_upd (syc N 7 (rs (N 7) i (Int32.ofNat (bt (2 * i))))) 8 i (Int32.ofNat (bt (2 * i + 1))) = N1 := by
          rw [sy_upd_st, syc_ne _ _ (by decide)]
        have v7 : N1 7 i = Int32.ofNat (bt (2 * i)) := by
          show syc (syc N 7 (rs (N 7) i (Int32.ofNat (bt (2 * i))))) 8 (rs (N 8) i (Int32.ofNat (bt (2 * i + 1)))) 7 i = _
          rw [syc_ne _ _ (by decide), syc_at, rs_at]
        have v8 : N1 8 i = Int32.ofNat (bt (2 * i + 1)) := by
          show syc (syc N 7 (rs (N 7) i (Int32.ofNat (bt (2 * i))))) 8 (rs (N 8) i (Int32.ofNat (bt (2 * i + 1)))) 8 i = _
          rw [syc_at, rs_at]
        have w7 : ∀ j, j ≠ i → N1 7 j = N 7 j := fun j hj => by
          show syc (syc N 7 (rs (N 7) i (Int32.ofNat (bt (2 * i))))) 8 (rs (N 8) i (Int32.ofNat (bt (2 * i + 1)))) 7 j = _
          rw [syc_ne _ _ (by decide), syc_at, rs_ne _ _ hj]
        have w8 : ∀ j, j ≠ i → N1 8 j = N 8 j := fun j hj => by
          show syc (syc N 7 (rs (N 7) i (Int32.ofNat (bt (2 * i))))) 8 (rs (N 8) i (Int32.ofNat (bt (2 * i + 1)))) 8 j = _
          rw [syc_at, rs_ne _ _ hj]
        have wa : ∀ a, a ≠ 7 → a ≠ 8 → N1 a = N a := fun a c1 c2 => by
          show syc (syc N 7 (rs (N 7) i (Int32.ofNat (bt (2 * i))))) 8 (rs (N 8) i (Int32.ofNat (bt (2 * i + 1)))) a = _
          rw [syc_ne _ _ c2, syc_ne _ _ c1]
        have fin : ∀ a, a ≠ 1 → a ≠ 6 → a ≠ 7 → a ≠ 8 → N1 a = M a := fun a c1 c2 c3 c4 => (wa a c3 c4).trans ((p3 a c2 c3 c4).trans (g1 a c1 c2))
        have fi1 : N1 1 = rs (M 1) 4 (Int32.ofNat 0) := (wa 1 (by decide) (by decide)).trans ((p3 1 (by decide) (by decide) (by decide)).trans g2)
        show (∃ a', jgX1_readRows_32 (jfX1_readRows_32 k) (Int32.ofNat mo) (Int32.ofNat L) (Int32.ofNat i) N = _ ∧ _) ∨ ∃ M1, jgX1_readRows_32 (jfX1_readRows_32 k) (Int32.ofNat mo) (Int32.ofNat L) (Int32.ofNat i) N = _ ∧ _
        have go : jgX1_readRows_32 (jfX1_readRows_32 k) (Int32.ofNat mo) (Int32.ofNat L) (Int32.ofNat i) N = if bt (2 * i) < 48 then (if mo < bt (2 * i + 1) then sy_ri (Int32.ofNat 0) N1 else jfX1_readRows_32 k (Int32.ofNat mo) (Int32.ofNat L) (Int32.ofNat (i + 1)) (sy_upd N1 6 2 (Int32.ofNat (i + 1)))) else sy_ri (Int32.ofNat 0) N1 := by
          simp (disch := omega) only [zL, zlt, zle, zeq, zadd, zmul, zin, zix, zsh1, Nat.add_zero, Nat.zero_add, Nat.mul_zero, if_true, if_false, if_pos, if_neg, sy_bi_ri, sy_bi_rt, sy_bv_rv, sy_bv_rt, sy_br_rr, sy_br_rn, sy_hi_ri, sy_hi_rt, sy_bs_t, sy_bx_t, sy_bb_t, bz_bo, ite_bz0, ite_bz1, jgX1_readRows_32, jfX1_readRows_104, by1, u1, by2, u2, v7, v8]
        rw [go]
        by_cases c1 : bt (2 * i) < 48
        · by_cases c2 : mo < bt (2 * i + 1)
          · right
            have z : rw_ok bt mo (i + 1) = false := by rw [rw_ok_s, decide_eq_false (show ¬ bt (2 * i + 1) ≤ mo by omega), Bool.and_false, Bool.and_false]
            rw [if_pos c1, if_pos c2, rw_ok_f z (L / 2) (by omega)]
            exact ⟨N1, rfl, fin, fi1, fun z => absurd z (by decide)⟩
          · left
            rw [if_pos c1, if_neg c2]
            refine ⟨_, rfl, by rw [rw_ok_s, p1, decide_eq_true c1, decide_eq_true (show bt (2 * i + 1) ≤ mo by omega)]; rfl, ?_, ?_⟩
            · rw [sy_upd_st]
              refine ⟨by rw [syc_at, rs_at], fun j hj => ?_⟩
              rw [syc_ne _ _ (by decide), syc_ne _ _ (by decide)]
              by_cases c : j = i
              · subst c
                exact ⟨v7, v8⟩
              · rw [w7 j c, w8 j c]
                exact p2.2 j (by omega)
            · intro a c3 c4 c5
              rw [sy_upd_st, syc_ne _ _ c3, wa a c4 c5]
              exact p3 a c3 c4 c5
        · right
          have z : rw_ok bt mo (i + 1) = false := by rw [rw_ok_s, decide_eq_false c1, Bool.false_and, Bool.and_false]
          rw [if_neg c1, rw_ok_f z (L / 2) (by omega)]
          exact ⟨N1, rfl, fin, fi1, fun z => absurd z (by decide)⟩
      · intro k N ⟨p1, p2, p3⟩
        refine ⟨N, ?_, fun a c1 c2 c3 c4 => (p3 a c2 c3 c4).trans (g1 a c1 c2), (p3 1 (by decide) (by decide) (by decide)).trans g2, fun _ => p2⟩
        show jgX1_readRows_32 (jfX1_readRows_32 k) (Int32.ofNat mo) (Int32.ofNat L) (Int32.ofNat (L / 2)) N = _
        rw [p1]
        unfold jgX1_readRows_32
        have e2 : ¬ (2 * Int32.ofNat (L / 2) < Int32.ofNat L) := by
          rw [show (2 : Int32) = (Int32.ofNat 2) from rfl, zmul, zlt (by omega) (by omega)]
          omega
        rw [if_neg e2]
        split <;> rfl
  · rw [if_neg (fun z => q1 ((zeq (by omega) (by omega)).mp z)), decide_eq_false (by omega), Bool.false_and]
    exact ⟨M3, rfl, fun a c1 c2 _ _ => g1 a c1 c2, g2, fun z => absurd z (by decide)⟩
end
