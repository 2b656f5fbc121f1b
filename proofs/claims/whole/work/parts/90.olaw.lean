/-! ===== law ===== -/
section
variable {L0 : Int32} {S : Nat → Int32} {e : Nat} {M : sy_M}
/-- booleans of the reference are booleans -/
def bo (M : sy_M) : Prop := sy_bo (M 121 15) = true ∧ sy_bo (M 121 16) = true ∧ sy_bo (M 121 18) = true
theorem bo_ex {x : Int32} (h : sy_bo x = true) : ∃ r : Bool, x = bz r := ⟨_, (bo_bz h).symm⟩
theorem hw_426 {M : sy_M} {h : Nat} {f g : Nat → Int32} (H : hw M h f) (e : ∀ i, i < 426 → i ≠ 1 → i ≠ 2 → g i = f i) : hw M h g := by
  obtain ⟨⟨a, b, c, d1, d2, d3, d4⟩, l⟩ := H
  refine ⟨⟨a, ?_, ?_, ?_, ?_, ?_, ?_⟩, ?_⟩
  · intro i hi
    rw [b i hi, e _ (by omega) (by omega) (by omega)]
  · intro i hi
    rw [c i hi, e _ (by omega) (by omega) (by omega)]
  · rw [d1, e _ (by omega) (by omega) (by omega)]
  · rw [d2, e _ (by omega) (by omega) (by omega)]
  · intro i h1 h2
    rw [d3 i h1 h2, e _ (by omega) (by omega) (by omega)]
  · rw [d4, e _ (by omega) (by omega) (by omega)]
  · rcases l with l | ⟨l1, l2, r, nx, l3, l4, l5, l6, l7, l8⟩
    · exact Or.inl l
    · refine Or.inr ⟨l1, l2, r, nx, l3, l4, (e 12 (by omega) (by omega) (by omega)).trans l5, l6, l7, fun a w h1 h2 => ?_⟩
      rw [l8 a w h1 h2, e _ (by omega) (by omega) (by omega)]
theorem gr_126 {f g : Nat → Int32} {n : Nat} (G : gr f n) (e : ∀ i, i < 126 → i ≠ 1 → i ≠ 2 → g i = f i) : gr g n := by
  obtain ⟨h1, h2, h7, h4, h5, h6⟩ := G
  refine ⟨fun i a b c d f => ?_, (e 3 (by omega) (by omega) (by omega)).trans h2, h7, ?_, ?_, ?_, ?_⟩
  · rw [e i a b c]; exact h1 i a b c d f
  · intro z q hq
    rw [e 8 (by omega) (by omega) (by omega)] at z
    rw [e _ (by omega) (by omega) (by omega)]; exact h4 z q hq
  · intro q hq hq7
    obtain ⟨e1, e2, e3, e4⟩ := h5 q hq hq7
    refine ⟨?_, ?_, ?_, fun o ho => ⟨?_, ?_⟩⟩
    · rw [e _ (by omega) (by omega) (by omega)]; exact e1
    · rw [e _ (by omega) (by omega) (by omega)]; exact e2
    · rw [e _ (by omega) (by omega) (by omega)]; exact e3
    · rw [e _ (by omega) (by omega) (by omega)]; exact (e4 o ho).1
    · rw [e _ (by omega) (by omega) (by omega)]; exact (e4 o ho).2
  · rw [e _ (by omega) (by omega) (by omega)]; exact h6.1
  · intro q hq
    rw [e _ (by omega) (by omega) (by omega)]; exact h6.2 q hq
/-- the row behind a new law -/
def rlaw (f : Nat → Int32) (t : Nat → Nat) (L n m : Nat) : Nat → Int32 := fun i => if i = 1 then Int32.ofNat n else if i = 2 then Int32.ofNat L else if 426 ≤ i ∧ i < 426 + m then Int32.ofNat (t (i - 426)) else f i
theorem rlaw_s (f : Nat → Int32) (t : Nat → Nat) (L n m : Nat) : rs (rlaw f t L n m) (426 + m) (Int32.ofNat (t m)) = rlaw f t L n (m + 1) := by
  funext i
  unfold rs rlaw
  by_cases h : i = 426 + m
  · subst h
    rw [if_pos rfl, if_neg (by omega), if_neg (by omega), if_pos (by omega), show 426 + m - 426 = m by omega]
  · rw [if_neg h]
    by_cases h1 : i = 1
    · rw [if_pos h1, if_pos h1]
    · rw [if_neg h1, if_neg h1]
      by_cases h2 : i = 2
      · rw [if_pos h2, if_pos h2]
      · rw [if_neg h2, if_neg h2]
        by_cases h3 : 426 ≤ i ∧ i < 426 + m
        · rw [if_pos h3, if_pos (by omega)]
        · rw [if_neg h3, if_neg (by omega)]
theorem rlaw_at {f : Nat → Int32} {t : Nat → Nat} {L n m i : Nat} (h1 : i ≠ 1) (h2 : i ≠ 2) (h3 : i < 426 ∨ 426 + m ≤ i) : rlaw f t L n m i = f i := by
  unfold rlaw
  rw [if_neg h1, if_neg h2, if_neg (by omega)]
theorem m_law55 {N : sy_M} {t : Nat → Nat} {L n : Nat} {f : Nat → Int32} (hL : L ≤ 400) (h10 : N 121 10 = Int32.ofNat L) (hb : ∀ i, i < L → N 126 i = Int32.ofNat (t i)) (hf : N 122 = rlaw f t L n 0) : jfX12_law_55 sy_F (Int32.ofNat n) 0 N = sy_ri (Int32.ofNat n) (syc (syc N 122 (rlaw f t L n L)) 121 (rs (N 121) 6 (Int32.ofNat 0))) := by
  refine sy_forR (n := L) (F := sy_F) (R := fun c => c = sy_ri (Int32.ofNat n) (syc (syc N 122 (rlaw f t L n L)) 121 (rs (N 121) 6 (Int32.ofNat 0)))) (fun k i (K : sy_M) => jfX12_law_55 k (Int32.ofNat n) (Int32.ofNat i) K) (fun i K => K = syc N 122 (rlaw f t L n i)) ?_ ?_ N (by rw [← hf, syc_self]) (by rw [sy_F_eq]; omega)
  · intro k i K hi hK
    subst hK
    refine Or.inl ⟨_, ?_, rfl⟩
    have := hb i hi
    show jgX12_law_55 (jfX12_law_55 k) (Int32.ofNat n) (Int32.ofNat i) _ = _
    simp (disch := omega) only [zL, zlt, zle, zeq, zadd, zmul, zin, zix, zsh1, Nat.add_zero, Nat.zero_add, Nat.mul_zero, if_true, if_false, if_pos, if_neg, sy_bi_ri, sy_bi_rt, sy_bv_rv, sy_bv_rt, sy_br_rr, sy_br_rn, sy_hi_ri, sy_hi_rt, sy_bs_t, sy_bx_t, sy_bb_t, bz_bo, ite_bz0, ite_bz1, jgX12_law_55, syc_ne, h10, this, sy_upd_st, syc_at, syc_st, rlaw_s]
  · intro k K hK
    subst hK
    show jgX12_law_55 (jfX12_law_55 k) (Int32.ofNat n) (Int32.ofNat L) _ = _
    simp (disch := omega) only [zL, zlt, zle, zeq, zadd, zmul, zin, zix, zsh1, Nat.add_zero, Nat.zero_add, Nat.mul_zero, if_true, if_false, if_pos, if_neg, sy_bi_ri, sy_bi_rt, sy_bv_rv, sy_bv_rt, sy_br_rr, sy_br_rn, sy_hi_ri, sy_hi_rt, sy_bs_t, sy_bx_t, sy_bb_t, bz_bo, ite_bz0, ite_bz1, jgX12_law_55, syc_ne, h10, sy_upd_st]
theorem o_law (I : Inv Ask txo L0 S e M) (he : e < 90000) (hb : bo M) : opT Ask txo L0 S e (jfL_law M) (jfX12_law) := by
  obtain ⟨n, G, H, ht, hA, hl⟩ := id I.1
  have hn := G.2.1
  have h7 := G.2.2.1
  obtain ⟨xk, hxk, exk⟩ := I.2.2.2.2.2.2.2.2.1
  have hx := xok he hxk exk
  have h9 : M 9 3 = Int32.ofNat n := (hv_3 H.1).trans hn
  have D19 := I.2.2.2.2.1
  obtain ⟨L, hL, p4, p8, pb⟩ := I.2.2.2.2.2.1
  obtain ⟨ht0, tb, tb2⟩ := tpt_ok pb
  generalize htt : tpt M L = t at ht0 tb tb2
  obtain ⟨r18, e18⟩ := bo_ex hb.2.2
  generalize hM1 : syc M 35 (rs (rs (M 35) 5 (Int32.ofNat 0)) 6 (Int32.ofNat 0)) = M1
  have a1 : jfX4_clear 35 M = sy_rv M1 := by
    rw [← hM1]
    unfold jfX4_clear
    rw [show sy_is 4 35 = true from rfl, sy_bs_t, sy_bs_t, sy_upd_st, sy_upd_st, syc_at, syc_st]
    rfl
  have a3 : ∀ a, a ≠ 35 → M1 a = M a := fun a h => by rw [← hM1, syc_ne _ _ h]
  obtain ⟨M2, b1, b2, b3, b4, b5⟩ := c_open (M := M1) (t := t) (L := L) (fun i hi => by rw [a3 2 (by omega)]; exact tb2 i hi) ht0 hL (by rw [a3 1 (by omega)]; exact p4)
  have E2 : ∀ a, a ≠ 1 → a ≠ 3 → a ≠ 4 → a ≠ 5 → a ≠ 35 → M2 a = M a := fun a h1 h2 h3 h4 h5 => (b5 a h1 h2 h3 h4).trans (a3 a h5)
  have x35 : M2 35 = rs (rs (M 35) 5 (Int32.ofNat 0)) 6 (Int32.ofNat 0) := by rw [b5 35 (by decide) (by decide) (by decide) (by decide), ← hM1, syc_at]
  have C : CS M2 t L (nxt t L 0) 0 := ⟨b2, b4, by rw [x35, rs_ne _ _ (by decide), rs_at]⟩
  have W : lw M2 35 0 0 (fun _ => (0, 0, fun _ => true)) := ⟨by omega, by rw [x35, rs_at], fun i hi => absurd hi (Nat.not_lt_zero i)⟩
  have KL := k_law ht0 hL C W
  -- the reference's start
  have rs0 : ∀ N : sy_M, rq M N → ∃ v, RS (bg N) t L (nxt t L 0) v 0 ∧ bg N 121 18 = bz r18 := by
    intro N hN
    have n121 : N 121 = M 121 := hN 121 (by omega) (by omega)
    refine ⟨fun j => if j < 7 then N 127 j else if j = 7 then N 121 15 else N 121 16, ⟨bg_8.2.1, ⟨0, ⟨?_, ?_, by omega, hL, Or.inl ⟨?_, fun i hi => by rw [bg_ne (by decide), hN 126 (by omega) (by omega)]; exact tb i hi⟩⟩, by omega, rfl⟩, fun j hj => ?_, ?_, ?_, ?_, ?_, bg_8.2.2⟩, ?_⟩
    · unfold bg; rw [syc_at]; simp (disch := omega) only [rs_ne, rs_at]; rw [n121]; exact p8
    · unfold bg; rw [syc_at]; simp (disch := omega) only [rs_ne, rs_at]
    · unfold bg; rw [syc_at]; simp (disch := omega) only [rs_ne, rs_at]
    · rw [bg_ne (by decide)]
      exact (if_pos hj).symm
    · rw [bg_j (by decide)]; rfl
    · rw [bg_j (by decide)]; rfl
    · show sy_bo (N 121 15) = true
      rw [n121]; exact hb.1
    · show sy_bo (N 121 16) = true
      rw [n121]; exact hb.2.1
    · rw [bg_j (by decide), n121]; exact e18
  have ref : ∀ N : sy_M, ∀ c N1, jfX12_read (Int32.ofNat 1) (bg N) = sy_ri c N1 → jfX12_law N = if N1 121 12 = -1 then jfX12_law_24 c 0 N1 else jfX12_law_24 c 1 N1 := by
    intro N c N1 h
    unfold jfX12_law
    have h' : jfX12_read 1 (bg N) = sy_ri c N1 := h
    rw [m_begins, sy_bv_rv, h', sy_bi_ri]
  have cl0 : ∀ v M3, jfX6_readLines_2 (Int32.ofNat 12) M2 = sy_ri v M3 → jfX11_law M = (let M5 := syc M3 0 (rs (M3 0) 17 (M3 1 7)); if v = 0 then sy_bx (xe_in (M5 133 0) 100000) <| sy_rt 20 (sx M5) else sy_bv (jfX4_takeOver 29 35 M5) fun M6 => sy_bv (jfX0_forget M6) fun M7 => sy_ri (M7 29 6) M7) := by
    intro v M3 h
    have h' : jfX6_readLines_2 12 M2 = sy_ri v M3 := h
    unfold jfX11_law
    rw [a1, sy_bv_rv, b1, sy_bv_rv, h', sy_bi_ri]
    simp only [sy_upd_st M3]
    rfl
  rcases KL with ⟨M3, s1, n1, g1, d1, d2, d3, d4, _, _, d7, d8⟩ | ⟨M3, w, d1, d2, d3, d4, d5⟩
  · have cl := cl0 _ _ d1
    simp only at cl
    rw [if_neg (show ¬ (Int32.ofNat 1) = (0 : Int32) by decide)] at cl
    generalize hM4 : syc M3 0 (rs (M3 0) 17 (M3 1 7)) = M4 at cl
    have E4 : ∀ a, a ≠ 0 → a ≠ 1 → a ≠ 3 → a ≠ 4 → a ≠ 5 → (a < 35 ∨ 40 < a) → M4 a = M a := fun a h0 h1 h3 h4 h5 h6 => by rw [← hM4, syc_ne _ _ h0, d7.1 a h1 h6, E2 a h1 h3 h4 h5 (by omega)]
    have W4 : lw M4 35 s1 n1 g1 := by
      obtain ⟨w1, w2, w3⟩ := d3
      have z : ∀ a, a ≠ 0 → M4 a = M3 a := fun a h => by rw [← hM4, syc_ne _ _ h]
      refine ⟨w1, by rw [z 35 (by decide)]; exact w2, fun i hi => ?_⟩
      rw [z (35 + 1) (by decide), z (35 + 2) (by decide), z (35 + 3) (by decide), z (35 + 4) (by decide), z (35 + 5) (by decide)]
      exact w3 i hi
    obtain ⟨M6, i1, i2, i3⟩ := c_lawOver (M := M4) (a := 29) (b := 35) (by decide) (by decide) (by decide)
    generalize hM7 : syc M6 57 (rs (M6 57) 1 (Int32.ofNat 0)) = M7
    have E7 : ∀ a, (a < 29 ∨ 34 < a) → a ≠ 57 → M7 a = M4 a := fun a h1 h2 => by rw [← hM7, syc_ne _ _ h2, i3 a (by omega)]
    have l7 : lcp 35 M4 29 M7 := lcp_of2 i2 (fun c h1 h2 => by rw [← hM7, syc_ne _ _ (by omega)])
    have m6 : M7 29 6 = Int32.ofNat n1 := l7.2.2.2.trans W4.2.1
    have cl7 : jfX11_law M = sy_ri (Int32.ofNat n1) M7 := by
      rw [cl, i1, sy_bv_rv]
      unfold jfX0_forget
      simp only
      rw [sy_bv_rv, sy_upd_st, show (0 : Int32) = (Int32.ofNat 0) from rfl, hM7, m6]
    generalize hM9 : sy_wl M7 132 0 (Int32.toInt64 (Int32.ofNat n1)) = M9
    have E9 : ∀ a, a ≠ 132 → M9 a = M7 a := fun a h => by rw [← hM9, sy_wl_ne _ _ h]
    have hrq : rq M M9 := fun a h1 h2 => by rw [E9 a (by omega), E7 a (by omega) (by omega), E4 a (by omega) (by omega) (by omega) (by omega) (by omega) (by omega)]
    obtain ⟨v, rsx, e18x⟩ := rs0 M9 hrq
    obtain ⟨N1, g2, g4, g8, _, _⟩ := d8 (bg M9) v r18 rsx e18x
    have n12 := d3.1
    generalize hF : rlaw (M 122) t L n1 L = F1
    have N122 : N1 122 = M 122 := by rw [g8.1 122 (by decide), bg_ne (by decide), hrq 122 (by omega) (by omega)]
    have N10 : N1 121 10 = Int32.ofNat L := by
      rw [g8.2 10 (by omega)]
      unfold bg; rw [syc_at]; simp (disch := omega) only [rs_ne, rs_at]
      rw [hrq 121 (by omega) (by omega)]; exact p8
    generalize hM5 : syc (syc (thr N1 0) 122 F1) 121 (rs (thr N1 0 121) 6 (Int32.ofNat 0)) = M5
    have r5 : jfX12_law M9 = sy_ri (Int32.ofNat n1) M5 := by
      rw [ref _ _ _ g2, g4, if_pos (show (-(Int32.ofNat 1) : Int32) = -1 from rfl)]
      unfold jfX12_law_24
      have t0 : sy_upd N1 121 0 0 = thr N1 0 := thr_up N1 0
      simp only [t0]
      rw [thr_0, if_neg (show ¬ (0 : Int32) < (Int32.ofNat 0) by decide), sy_upd_st (thr N1 0), thr_ne _ _ (by decide), N122, sy_upd_st, syc_ne _ _ (show (121 : Nat) ≠ 122 by decide), thr_j _ _ (by decide), N10, syc_at, syc_st]
      have r0 : rs (rs (M 122) 1 (Int32.ofNat n1)) 2 (Int32.ofNat L) = rlaw (M 122) t L n1 0 := by
        funext i
        unfold rs rlaw
        by_cases h2 : i = 2
        · rw [if_pos h2, if_neg (by omega), if_pos h2]
        · rw [if_neg h2]
          by_cases h1 : i = 1
          · rw [if_pos h1, if_pos h1]
          · rw [if_neg h1, if_neg h1, if_neg h2, if_neg (by omega)]
      rw [r0, m_law55 (t := t) (L := L) (f := M 122) hL (by rw [syc_ne _ _ (by decide), thr_j _ _ (by decide)]; exact N10) (fun i hi => by
        rw [syc_ne _ _ (by decide), thr_ne _ _ (by decide), g8.1 126 (by decide), bg_ne (by decide), hrq 126 (by omega) (by omega)]; exact tb i hi) (syc_at _ _ _), syc_st, hF, syc_ne _ _ (show (121 : Nat) ≠ 122 by decide), hM5]
    have E5 : ∀ a, a ≠ 121 → a ≠ 122 → M5 a = M9 a := fun a h1 h2 => by rw [← hM5, syc_ne _ _ h1, syc_ne _ _ h2, thr_ne _ _ h1, g8.1 a h1, bg_ne h1]
    have J5 : ∀ j, j ≠ 0 → j ≠ 6 → M5 121 j = N1 121 j := fun j h h6 => by rw [← hM5, syc_at, rs_ne _ _ h6, thr_j _ _ h]
    have EE : ∀ a, a ≠ 121 → a ≠ 122 → a ≠ 132 → M5 a = M7 a := fun a h1 h2 h4 => by rw [E5 a h1 h2, E9 a h4]
    have E : ∀ a, a ≠ 0 → a ≠ 1 → a ≠ 3 → a ≠ 4 → a ≠ 5 → (a < 29 ∨ 40 < a) → a ≠ 57 → a ≠ 121 → a ≠ 122 → a ≠ 132 → M5 a = M a := fun a h0 h1 h3 h4 h5 h6 h7 h8 h9 h11 => by rw [EE a h8 h9 h11, E7 a (by omega) h7, E4 a h0 h1 h3 h4 h5 (by omega)]
    have j121 : ∀ j, j = 3 ∨ j = 19 → M5 121 j = M 121 j := fun j h => by
      rw [J5 j (by omega) (by omega), g8.2 j (by omega), bg_j (by omega), hrq 121 (by omega) (by omega)]
    have m122 : M5 122 = F1 := by rw [← hM5, syc_ne _ _ (by decide), syc_at]
    have F1_at : ∀ i, i ≠ 1 → i ≠ 2 → (i < 426 ∨ 826 ≤ i) → F1 i = M 122 i := fun i h1 h2 h3 => by rw [← hF]; exact rlaw_at h1 h2 (by omega)
    have f1 : F1 1 = Int32.ofNat n1 := by rw [← hF]; rfl
    have tx1 : txd F1 n1 g1 := by
      refine ⟨fun z => ?_, fun _ => ⟨t, L, ht0, hL, by rw [← hF]; rfl, fun i hi => ?_, fun N v r h1 h2 => ?_⟩⟩
      · rw [f1] at z
        have := (zlt (b := 1) (by omega) (by decide)).mp z
        omega
      · rw [← hF]
        unfold rlaw
        rw [if_neg (by omega), if_neg (by omega), if_pos (by omega), show 426 + i - 426 = i by omega]
      · obtain ⟨N2, y1, y2, y3, y4, y5⟩ := d8 N v r h1 h2
        exact ⟨_, N2, y1, y3, y4, y5⟩
    obtain ⟨s1', s2, s3, s4, s5, s6, s7, s8, s9, s10, s11⟩ := I
    refine ⟨0, Int32.ofNat n1, M9, M5, ?_, r5, ?_, by decide, fun _ => ?_, ⟨⟨n, ?_, ?_, ?_, ?_, ?_⟩, ?_, ?_, ?_, ?_, ?_, ?_, ?_, ⟨xk, by omega, ?_⟩, ?_, ?_⟩, ?_, ?_⟩
    · unfold jfL_law
      rw [cl7, sy_hi_ri, ← hM9]
      rfl
    · rw [← hM5, syc_at, rs_ne _ _ (by decide), thr_0]
    · rw [sy_rl_cg (E5 132 (by decide) (by decide)), ← hM9, sy_rl_wl, if_pos ⟨rfl, rfl⟩]
    · rw [m122]; exact gr_126 G (fun i h1 h2 h3 => F1_at i h2 h3 (by omega))
    · rw [m122]
      exact hw_426 (hw_congr H (fun a h1 h2 => E a (by omega) (by omega) (by omega) (by omega) (by omega) (by omega) (by omega) (by omega) (by omega) (by omega))) (fun i h1 h2 h3 => F1_at i h2 h3 (by omega))
    · rw [m122]; exact ⟨n1, g1, tx1⟩
    · rw [m122]
      have c4 : cAK Ask 35 M4 F1 := cAK_lw W4 (by omega) tx1
      exact cAK_cp c4 (lcp_of2 l7 (fun c h1 h2 => EE c (by omega) (by omega) (by omega))) tsame_rfl
    · rw [m122, EE 29 (by decide) (by decide) (by decide), m6, f1]
    · refine IK_congr s2 ?_ (fun a h1 h2 => E a (by omega) (by omega) (by omega) (by omega) (by omega) (by omega) (by omega) (by omega) (by omega) (by omega)) (fun a h1 h2 => E a (by omega) (by omega) (by omega) (by omega) (by omega) (by omega) (by omega) (by omega) (by omega) (by omega)) (E _ (by omega) (by omega) (by omega) (by omega) (by omega) (by omega) (by omega) (by omega) (by omega) (by omega)) (j121 3 (by omega)) (fun i hi => by rw [m122]; exact F1_at i (by omega) (by omega) (by omega))
      rw [EE 0 (by omega) (by omega) (by omega), E7 0 (by omega) (by omega), ← hM4, syc_at, rs_ne _ _ (by decide), d7.1 0 (by decide) (by omega), E2 0 (by omega) (by omega) (by omega) (by omega) (by omega)]
    · obtain ⟨q1, q2, q3, q4, q5, q6, q7, q8⟩ := s3
      refine ⟨0, q2, by omega, q4, ?_, ?_, ?_, fun j hj => absurd hj (Nat.not_lt_zero j)⟩
      · rw [EE 57 (by omega) (by omega) (by omega), ← hM7, syc_at, rs_at]
      · rw [← hM5, syc_at, rs_at]
      · rw [EE 57 (by omega) (by omega) (by omega), ← hM7, syc_at, rs_ne _ _ (by decide), i3 57 (by omega), E4 57 (by omega) (by omega) (by omega) (by omega) (by omega) (by omega)]; exact q7
    · refine ⟨dk_congr s4.1 (E _ (by omega) (by omega) (by omega) (by omega) (by omega) (by omega) (by omega) (by omega) (by omega) (by omega)), dk_congr s4.2.1 (E _ (by omega) (by omega) (by omega) (by omega) (by omega) (by omega) (by omega) (by omega) (by omega) (by omega)), fun k hk => dk_congr (s4.2.2 k hk) (E _ (by omega) (by omega) (by omega) (by omega) (by omega) (by omega) (by omega) (by omega) (by omega) (by omega))⟩
    · exact dk_congr s5 (E _ (by omega) (by omega) (by omega) (by omega) (by omega) (by omega) (by omega) (by omega) (by omega) (by omega))
    · refine ⟨0, by omega, ?_, ?_, fun i hi => absurd hi (Nat.not_lt_zero i)⟩
      · rw [EE 1 (by omega) (by omega) (by omega), E7 1 (by omega) (by omega), ← hM4, syc_ne _ _ (by decide), d7.2]; exact b3
      · rw [J5 8 (by decide) (by decide), g8.2 8 (by omega)]; exact bg_8.1
    · rw [EE 0 (by omega) (by omega) (by omega), E7 0 (by omega) (by omega), ← hM4, syc_at, rs_at, J5 12 (by decide) (by decide), g4]; exact d2
    · rw [j121 19 (by omega)]; exact s8
    · rw [E 133 (by omega) (by omega) (by omega) (by omega) (by omega) (by omega) (by omega) (by omega) (by omega) (by omega)]; exact exk
    · rw [E 134 (by omega) (by omega) (by omega) (by omega) (by omega) (by omega) (by omega) (by omega) (by omega) (by omega)]; exact s10
    · rw [E 1000000 (by omega) (by omega) (by omega) (by omega) (by omega) (by omega) (by omega) (by omega) (by omega) (by omega)]; exact s11
    · rw [E9 134 (by omega), E7 134 (by omega) (by omega), E4 134 (by omega) (by omega) (by omega) (by omega) (by omega) (by omega)]; exact s10
    · rw [E9 1000000 (by omega), E7 1000000 (by omega) (by omega), E4 1000000 (by omega) (by omega) (by omega) (by omega) (by omega) (by omega)]; exact s11
  · have cl := cl0 _ _ d1
    simp only at cl
    have x133 : (syc M3 0 (rs (M3 0) 17 (M3 1 7))) 133 0 = Int32.ofNat xk := by
      rw [syc_ne _ _ (by decide), d4.1 133 (by decide) (by omega), E2 133 (by omega) (by omega) (by omega) (by omega) (by omega)]; exact exk
    rw [if_pos (show (Int32.ofNat 0) = (0 : Int32) from rfl), x133, zin (by omega) (by decide), sy_bx_t] at cl
    generalize hM4 : syc M3 0 (rs (M3 0) 17 (M3 1 7)) = M4 at cl x133
    have EM4 : ∀ a, a ≠ 0 → M4 a = M3 a := fun a h => by rw [← hM4, syc_ne _ _ h]
    have EX : ∀ a, a ≠ 133 → sx M4 a = M4 a := fun a h => by unfold sx; rw [sy_upd_st, syc_ne _ _ h]
    have hrq : rq M (sx M4) := fun a h1 h2 => by rw [EX a (by omega), EM4 a (by omega), d4.1 a (by omega) (by omega), E2 a (by omega) (by omega) (by omega) (by omega) (by omega)]
    obtain ⟨v, rsx, e18x⟩ := rs0 _ hrq
    obtain ⟨c, N1, g2, g4, g8⟩ := d5 _ v r18 rsx e18x
    have hx : N1 121 12 ≠ -(Int32.ofNat 1) := by rw [g4]; exact fun z => znn w (by omega) (by rw [z]; decide)
    generalize hM5 : thr N1 1 = M5
    have E5 : ∀ a, a ≠ 121 → M5 a = sx M4 a := fun a h1 => by rw [← hM5, thr_ne _ _ h1, g8.1 a h1, bg_ne h1]
    have E : ∀ a, a ≠ 0 → a ≠ 1 → a ≠ 3 → a ≠ 4 → a ≠ 5 → (a < 35 ∨ 40 < a) → a ≠ 121 → a ≠ 133 → M5 a = M a := fun a h0 h1 h3 h4 h5 h6 h7 h10 => by rw [E5 a h7, EX a h10, EM4 a h0, d4.1 a h1 h6, E2 a h1 h3 h4 h5 (by omega)]
    have J5 : ∀ j, j ≠ 0 → M5 121 j = N1 121 j := fun j h => by rw [← hM5, thr_j _ _ h]
    refine ⟨1, (Int32.ofNat 0), sx M4, M5, ?_, ?_, ?_, by decide, fun z => absurd z (by decide), ?_, ?_, ?_⟩
    · unfold jfL_law
      rw [cl, sy_hi_rt, if_pos rfl]; rfl
    · rw [ref _ _ _ g2, if_neg (show ¬ N1 121 12 = -1 from hx)]
      unfold jfX12_law_24
      have t0 : sy_upd N1 121 0 1 = thr N1 1 := thr_up N1 1
      simp only [t0]
      rw [thr_0, if_pos (show (0 : Int32) < (Int32.ofNat 1) by decide), hM5]
      rfl
    · rw [← hM5, thr_0]
    · refine Inv_bad I (fun a k1 k2 k3 k4 => ?_) ?_ ?_ ?_ ?_ ?_ ?_ (fun j hj => ?_) ⟨xk + 1, by omega, ?_⟩
      · unfold keepc at k1
        exact E a k2 k3 (by omega) (by omega) (by omega) (by omega) (by omega) (by omega)
      · rw [E5 0 (by decide), EX 0 (by decide), ← hM4, syc_at, rs_ne _ _ (by decide), d4.1 0 (by decide) (by omega), E2 0 (by omega) (by omega) (by omega) (by omega) (by omega)]
      · rw [E5 0 (by decide), EX 0 (by decide), ← hM4, syc_at, rs_at, J5 12 (by decide), g4]; exact d2
      · exact dk_congr I.2.2.2.1.1 (E _ (by decide) (by decide) (by decide) (by decide) (by decide) (by omega) (by decide) (by decide))
      · exact dk_congr D19 (E _ (by decide) (by decide) (by decide) (by decide) (by decide) (by omega) (by decide) (by decide))
      · rw [E5 1 (by decide), EX 1 (by decide), EM4 1 (by decide), d4.2]; exact b3
      · rw [J5 8 (by decide), g8.2 8 (by omega)]; exact bg_8.1
      · rw [J5 j (by omega), g8.2 j (by omega), bg_j (by omega), hrq 121 (by omega) (by omega)]
      · rw [E5 133 (by decide)]
        unfold sx
        rw [sy_upd_st, syc_at, rs_at, x133]
        exact zadd xk 1
    · rw [EX 134 (by decide), EM4 134 (by decide), d4.1 134 (by decide) (by omega), E2 134 (by omega) (by omega) (by omega) (by omega) (by omega)]; exact I.2.2.2.2.2.2.2.2.2.1
    · rw [EX 1000000 (by decide), EM4 1000000 (by decide), d4.1 1000000 (by decide) (by omega), E2 1000000 (by omega) (by omega) (by omega) (by omega) (by omega)]; exact I.2.2.2.2.2.2.2.2.2.2
end
