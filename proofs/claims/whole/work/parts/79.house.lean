/-! ===== house ===== -/
section
variable {A : (Nat → Int32) → Nat → Int32 × Bool} {tx : (Nat → Int32) → Prop} {L0 : Int32} {S : Nat → Int32} {e : Nat} {M : sy_M}
/-- behind a text that was not taken in -/
theorem Inv_bad {M3 : sy_M} (I : Inv A tx L0 S e M) (E : ∀ a, keepc a → a ≠ 0 → a ≠ 1 → (a < 14 ∨ 18 < a) → M3 a = M a) (h16 : M3 0 16 = M 0 16) (h17 : M3 0 17 = M3 121 12) (d14 : dk M3 14) (d19 : dk M3 19) (h14 : M3 1 4 = (Int32.ofNat 0)) (h8 : M3 121 8 = (Int32.ofNat 0)) (hj : ∀ j, j = 3 ∨ j = 6 ∨ j = 19 → M3 121 j = M 121 j) (hk : ∃ k, k ≤ e + 1 ∧ M3 133 0 = Int32.ofNat k) : Inv A tx L0 S (e + 1) M3 := by
  unfold keepc at E
  obtain ⟨i1, i2, i3, i4, i5, i6, i7, i8, i9, i10, i11⟩ := I
  refine ⟨IA_congr i1 (fun a c1 c2 => E a (by omega) (by omega) (by omega) (by omega)) (fun a c1 c2 => E a (by omega) (by omega) (by omega) (by omega)) (E _ (by omega) (by omega) (by omega) (by omega)), IK_congr i2 h16 (fun a c1 c2 => E a (by omega) (by omega) (by omega) (by omega)) (fun a c1 c2 => E a (by omega) (by omega) (by omega) (by omega)) (E _ (by omega) (by omega) (by omega) (by omega)) (hj _ (by omega)) (fun i _ => by rw [E 122 (by omega) (by omega) (by omega) (by omega)]), IT_congr i3 (fun a c1 c2 => E a (by omega) (by omega) (by omega) (by omega)) (by rw [E 122 (by omega) (by omega) (by omega) (by omega)]; exact tsame_rfl) (hj _ (by omega)) (E _ (by omega) (by omega) (by omega) (by omega)), ⟨d14, dk_congr i4.2.1 (E _ (by omega) (by omega) (by omega) (by omega)), fun k hk => dk_congr (i4.2.2 k hk) (E _ (by omega) (by omega) (by omega) (by omega))⟩, d19, ⟨0, by omega, h14, h8, fun i hi => absurd hi (Nat.not_lt_zero i)⟩, h17, ?_, hk, ?_, ?_⟩
  · rw [hj 19 (by omega)]; exact i8
  · rw [E 134 (by omega) (by omega) (by omega) (by omega)]; exact i10
  · rw [E 1000000 (by omega) (by omega) (by omega) (by omega)]; exact i11
/-- the reference begins a text -/
def bg (N : sy_M) : sy_M := syc N 121 (rs (rs (rs (rs (rs (rs (N 121) 12 (-(Int32.ofNat 1))) 9 (-(Int32.ofNat 1))) 10 (N 121 8)) 8 (Int32.ofNat 0)) 11 (Int32.ofNat 0)) 13 (Int32.ofNat 0))
theorem m_begins (N : sy_M) : jfX12_begins N = sy_rv (bg N) := by
  unfold jfX12_begins bg
  simp only [sy_upd_st, syc_at, syc_st]
  rw [rs_ne _ _ (by decide), rs_ne _ _ (by decide)]
  rfl
theorem bg_ne {N : sy_M} {a : Nat} (h : a ≠ 121) : bg N a = N a := syc_ne _ _ h
theorem bg_j {N : sy_M} {j : Nat} (h : j ≠ 8 ∧ j ≠ 9 ∧ j ≠ 10 ∧ j ≠ 11 ∧ j ≠ 12 ∧ j ≠ 13) : bg N 121 j = N 121 j := by
  unfold bg
  rw [syc_at]
  simp (disch := omega) only [rs_ne]
theorem bg_8 {N : sy_M} : bg N 121 8 = (Int32.ofNat 0) ∧ bg N 121 12 = -(Int32.ofNat 1) ∧ bg N 121 13 = (Int32.ofNat 0) := by
  unfold bg
  rw [syc_at]
  refine ⟨?_, ?_, ?_⟩ <;> simp (disch := omega) only [rs_ne, rs_at]
/-- the text on the tape -/
def tpt (M : sy_M) (L : Nat) : Nat → Nat := fun i => if i < L then (M 126 i).toNatClampNeg else 0
theorem tpt_ok {L : Nat} (h : ∀ i, i < L → M 2 i = M 126 i ∧ ∃ k, k ≤ 255 ∧ M 126 i = Int32.ofNat k) : (∀ i, tpt M L i ≤ 255) ∧ (∀ i, i < L → M 126 i = Int32.ofNat (tpt M L i)) ∧ (∀ i, i < L → M 2 i = Int32.ofNat (tpt M L i)) := by
  have k : ∀ i, i < L → M 126 i = Int32.ofNat (tpt M L i) ∧ tpt M L i ≤ 255 := by
    intro i hi
    obtain ⟨_, k, hk, e1⟩ := h i hi
    unfold tpt
    rw [if_pos hi, e1, zix (by omega)]
    exact ⟨rfl, hk⟩
  refine ⟨fun i => ?_, fun i hi => (k i hi).1, fun i hi => (h i hi).1.trans (k i hi).1⟩
  by_cases hi : i < L
  · exact (k i hi).2
  · unfold tpt
    rw [if_neg hi]
    omega
theorem LK_bg {M2 N : sy_M} {L : Nat} (h8 : N 121 8 = Int32.ofNat L) (hL : L ≤ 400) {t : Nat → Nat} (hb : ∀ i, i < L → N 126 i = Int32.ofNat (t i)) (c : ct M2 t L (nxt t L 0)) (h7 : M2 1 7 = -(Int32.ofNat 1)) : LK M2 (bg N) t L (nxt t L 0) := by
  refine ⟨c, h7, bg_8.2.1, 0, ⟨?_, ?_, by omega, hL, Or.inl ⟨?_, fun i hi => by rw [bg_ne (by decide)]; exact hb i hi⟩⟩, by omega, rfl⟩
  · unfold bg; rw [syc_at]; simp (disch := omega) only [rs_ne, rs_at]; exact h8
  · unfold bg; rw [syc_at]; simp (disch := omega) only [rs_ne, rs_at]
  · unfold bg; rw [syc_at]; simp (disch := omega) only [rs_ne, rs_at]
theorem ri_inj {a b : Int32} {X Y : sy_M} (h : sy_ri a X = sy_ri b Y) : a = b ∧ X = Y := by
  injection h with h
  injection h with h1 h2
  injection h1 with h1
  injection h1 with h1
  injection h1 with h1
  exact ⟨h1, h2⟩
theorem o_house (hM : mAK A tx) (I : Inv A tx L0 S e M) (he : e < 90000) : opT A tx L0 S e (jfL_house M) (jfX12_house) := by
  obtain ⟨n, G, H, ht, hA, hl⟩ := id I.1
  have hn := G.2.1
  have h7 := G.2.2.1
  obtain ⟨xk, hxk, exk⟩ := I.2.2.2.2.2.2.2.2.1
  have hx := xok he hxk exk
  have h9 : M 9 3 = Int32.ofNat n := (hv_3 H.1).trans hn
  have D19 := I.2.2.2.2.1
  obtain ⟨L, hL, p4, p8, pb⟩ := I.2.2.2.2.2.1
  obtain ⟨ht, tb, tb2⟩ := tpt_ok pb
  generalize htt : tpt M L = t at ht tb tb2
  obtain ⟨M1, a1, a2, a3⟩ := c_takeOver H I.2.2.2.1.1 (by decide) (by decide)
  obtain ⟨M2, b1, b2, b3, b4, b5⟩ := c_open (M := M1) (t := t) (L := L) (fun i hi => by rw [a3 2 (by omega)]; exact tb2 i hi) ht hL (by rw [a3 1 (by omega)]; exact p4)
  have H2 : hw M2 14 (M 122) := hw_congr a2 (fun a h1 h2 => b5 a (by omega) (by omega) (by omega) (by omega))
  have E2 : ∀ a, a ≠ 1 → a ≠ 3 → a ≠ 4 → a ≠ 5 → (a < 14 ∨ 18 < a) → M2 a = M a := fun a h1 h2 h3 h4 h5 => (b5 a h1 h2 h3 h4).trans (a3 a (by omega))
  -- the reference's start
  have key : ∀ N : sy_M, rq M N → BL M2 (bg (syc N 124 (sp_aside 426 (M 122) (N 124)))) t L (M 122) (jfX6_readLines (Int32.ofNat 14) M2) (jfX12_read (Int32.ofNat 0) (bg (syc N 124 (sp_aside 426 (M 122) (N 124))))) := by
    intro N hN
    have K := LK_bg (M2 := M2) (N := syc N 124 (sp_aside 426 (M 122) (N 124))) (L := L) (t := t) (by rw [syc_ne _ _ (by decide), hN 121 (by omega) (by omega)]; exact p8) hL (fun i hi => by rw [syc_ne _ _ (by decide), hN 126 (by omega) (by omega)]; exact tb i hi) b2 b4
    exact k_text ht K ⟨H2, by rw [bg_ne (by decide), syc_ne _ _ (by decide), hN 122 (by omega) (by omega)], G⟩
  have ref : ∀ N : sy_M, rq M N → ∀ c N1, jfX12_read (Int32.ofNat 0) (bg (syc N 124 (sp_aside 426 (M 122) (N 124)))) = sy_ri c N1 → jfX12_house N = if N1 121 12 = -1 then (if N1 122 0 = 12 then jfX12_house_43 2 N1 else jfX12_house_43 0 N1) else jfX12_house_43 1 N1 := by
    intro N hN c N1 h
    unfold jfX12_house
    rw [m_putsAside, sy_bv_rv, m_begins, sy_bv_rv, hN 122 (by omega) (by omega)]
    have h' : jfX12_read 0 (bg (syc N 124 (sp_aside 426 (M 122) (N 124)))) = sy_ri c N1 := h
    rw [h', sy_bi_ri]
  -- a throw of the class, and what the reference leaves
  have thrw : ∀ (M3 M4 N1 : sy_M) (cl c : Nat), c ≠ 0 → c < 4 → ((cl = 20 ∧ c = 1) ∨ (cl = 21 ∧ c = 2)) → fc M2 M3 → dk M3 14 → M4 = syc M3 0 (rs (M3 0) 17 (M3 1 7)) → jfX11_house M = sy_rt cl (sx M4) → jfX12_house (sx M4) = jfX12_house_43 (Int32.ofNat c) N1 → N1 121 12 = M3 1 7 → fz (bg (syc (sx M4) 124 (sp_aside 426 (M 122) ((sx M4) 124)))) N1 → opT A tx L0 S e (jfL_house M) (jfX12_house) := by
    intro M3 M4 N1 cl c c0 c4 cc f3 d14 h4 hc hr hw12 fzz
    have EM4 : ∀ a, a ≠ 0 → M4 a = M3 a := fun a h => by rw [h4, syc_ne _ _ h]
    have EX : ∀ a, a ≠ 133 → sx M4 a = M4 a := fun a h => by unfold sx; rw [sy_upd_st, syc_ne _ _ h]
    have EN : ∀ a, a ≠ 121 → a ≠ 122 → a ≠ 124 → N1 a = sx M4 a := fun a h1 h2 h3 => by rw [fzz.1 a h1 h2, bg_ne h1, syc_ne _ _ h3]
    have E : ∀ a, a ≠ 0 → a ≠ 1 → a ≠ 3 → a ≠ 4 → a ≠ 5 → (a < 14 ∨ 18 < a) → a ≠ 121 → a ≠ 122 → a ≠ 124 → a ≠ 133 → N1 a = M a := fun a h0 h1 h3 h4 h5 h6 h7 h8 h9 h10 => by rw [EN a h7 h8 h9, EX a h10, EM4 a h0, f3.1 a h1 h6, E2 a h1 h3 h4 h5 h6]
    have j121 : ∀ j, j ≠ 8 → j ≠ 9 → j ≠ 10 → j ≠ 11 → j ≠ 12 → j ≠ 13 → N1 121 j = M 121 j := fun j h1 h2 h3 h4 h5 h6 => by
      rw [fzz.2.1 j h4 h5, bg_j ⟨h1, h2, h3, h4, h5, h6⟩, syc_ne _ _ (by decide), EX 121 (by decide), EM4 121 (by decide), f3.1 121 (by decide) (by omega), E2 121 (by omega) (by omega) (by omega) (by omega) (by omega)]
    have n122 : ∀ i, 126 ≤ i → N1 122 i = M 122 i := fun i hi => by
      rw [fzz.2.2 i hi, bg_ne (by decide), syc_ne _ _ (by decide), EX 122 (by decide), EM4 122 (by decide), f3.1 122 (by decide) (by omega), E2 122 (by omega) (by omega) (by omega) (by omega) (by omega)]
    have n124 : N1 124 = sp_aside 426 (M 122) (sx M4 124) := by rw [fzz.1 124 (by decide) (by decide), bg_ne (by decide), syc_at]
    generalize hM3 : syc (thr N1 c) 122 (M 122) = M5
    have e5 : jfX12_house_43 (Int32.ofNat c) N1 = sy_ri (Int32.ofNat 0) M5 := by
      unfold jfX12_house_43
      simp only [thr_up]
      rw [thr_0, if_pos (show (0 : Int32) < Int32.ofNat c from (zlt (a := 0) (by decide) (by omega)).mpr (by omega)), m_comesBack, sy_bv_rv, thr_ne _ _ (by decide), thr_ne _ _ (by decide), n124, aside_back (fun i hi => n122 i (by omega)), hM3]
      rfl
    have E5 : ∀ a, a ≠ 121 → a ≠ 122 → M5 a = N1 a := fun a h1 h2 => by rw [← hM3, syc_ne _ _ h2, thr_ne _ _ h1]
    have J5 : ∀ j, j ≠ 0 → M5 121 j = N1 121 j := fun j h => by rw [← hM3, syc_ne _ _ (by decide), thr_j _ _ h]
    have x133 : M4 133 0 = Int32.ofNat xk := by rw [EM4 133 (by decide), f3.1 133 (by decide) (by omega), E2 133 (by omega) (by omega) (by omega) (by omega) (by omega)]; exact exk
    refine ⟨c, (Int32.ofNat 0), sx M4, M5, ?_, hr.trans e5, ?_, c4, fun z => absurd z c0, ?_, ?_, ?_⟩
    · unfold jfL_house
      rw [hc, sy_hi_rt]
      rcases cc with ⟨h1, h2⟩ | ⟨h1, h2⟩
      · rw [h1, h2, if_pos rfl]; rfl
      · rw [h1, h2, if_neg (by decide), if_pos rfl]; rfl
    · rw [← hM3, syc_ne _ _ (by decide), thr_0]
    · refine Inv_bad I (fun a k1 k2 k3 k4 => ?_) ?_ ?_ ?_ ?_ ?_ ?_ (fun j hj => ?_) ⟨xk + 1, by omega, ?_⟩
      · unfold keepc at k1
        by_cases h122 : a = 122
        · rw [h122, ← hM3, syc_at]
        · rw [E5 a (by omega) h122]
          exact E a k2 k3 (by omega) (by omega) (by omega) k4 (by omega) h122 (by omega) (by omega)
      · rw [E5 0 (by decide) (by decide), EN 0 (by decide) (by decide) (by decide), EX 0 (by decide), h4, syc_at, rs_ne _ _ (by decide), f3.1 0 (by decide) (by omega), E2 0 (by omega) (by omega) (by omega) (by omega) (by omega)]
      · rw [E5 0 (by decide) (by decide), EN 0 (by decide) (by decide) (by decide), EX 0 (by decide), h4, syc_at, rs_at, J5 12 (by decide)]
        exact hw12.symm
      · exact dk_congr d14 (by rw [E5 17 (by decide) (by decide), EN 17 (by decide) (by decide) (by decide), EX 17 (by decide), EM4 17 (by decide)])
      · exact dk_congr D19 (by rw [E5 22 (by decide) (by decide)]; exact E 22 (by decide) (by decide) (by decide) (by decide) (by decide) (by omega) (by decide) (by decide) (by decide) (by decide))
      · rw [E5 1 (by decide) (by decide), EN 1 (by decide) (by decide) (by decide), EX 1 (by decide), EM4 1 (by decide), f3.2]; exact b3
      · rw [J5 8 (by decide), fzz.2.1 8 (by decide) (by decide)]; exact bg_8.1
      · rw [J5 j (by omega)]; exact j121 j (by omega) (by omega) (by omega) (by omega) (by omega) (by omega)
      · rw [E5 133 (by decide) (by decide), EN 133 (by decide) (by decide) (by decide)]
        unfold sx
        rw [sy_upd_st, syc_at, rs_at, x133]
        exact zadd xk 1
    · rw [EX 134 (by decide), EM4 134 (by decide), f3.1 134 (by decide) (by omega), E2 134 (by omega) (by omega) (by omega) (by omega) (by omega)]; exact I.2.2.2.2.2.2.2.2.2.1
    · rw [EX 1000000 (by decide), EM4 1000000 (by decide), f3.1 1000000 (by decide) (by omega), E2 1000000 (by omega) (by omega) (by omega) (by omega) (by omega)]; exact I.2.2.2.2.2.2.2.2.2.2
  have rqx : ∀ M3 M4 : sy_M, fc M2 M3 → M4 = syc M3 0 (rs (M3 0) 17 (M3 1 7)) → rq M (sx M4) := by
    intro M3 M4 f3 h4 a h1 h2
    unfold sx
    rw [sy_upd_st, syc_ne _ _ (by omega), h4, syc_ne _ _ (by omega), f3.1 a (by omega) (by omega), E2 a (by omega) (by omega) (by omega) (by omega) (by omega)]
  have cl0 : ∀ v M3, jfX6_readLines (Int32.ofNat 14) M2 = sy_ri v M3 → jfX11_house M = (let M5 := syc M3 0 (rs (M3 0) 17 (M3 1 7)); if v = 0 then sy_bx (xe_in (M5 133 0) 100000) <| sy_rt 20 (sx M5) else if (M5 9 4) < 12 then sy_bv (jfX2_takeOver 9 14 M5) fun M6 => jfX11_house_95 (sy_upd M6 9 4 ((M6 9 4) + 1)) else sy_bx (xe_in (M5 133 0) 100000) <| sy_rt 21 (sx M5)) := by
    intro v M3 h
    have h' : jfX6_readLines 14 M2 = sy_ri v M3 := h
    unfold jfX11_house
    rw [a1, sy_bv_rv, b1, sy_bv_rv, h', sy_bi_ri]
    simp only [sy_upd_st M3]
    rfl
  have x133 : ∀ M3 : sy_M, fc M2 M3 → (syc M3 0 (rs (M3 0) 17 (M3 1 7))) 133 0 = Int32.ofNat xk := by
    intro M3 f3
    rw [syc_ne _ _ (by decide), f3.1 133 (by decide) (by omega), E2 133 (by omega) (by omega) (by omega) (by omega) (by omega)]; exact exk
  rcases key M (fun _ _ _ => rfl) with ⟨M3, N0, f1, n1, c0, d1, d2, d3, d4, d5, d6, d7, d8⟩ | ⟨M3, N0, c0, d1, d2, d3, d4, d5, d6⟩
  · have cl := cl0 _ _ d1
    simp only at cl
    rw [if_neg (show ¬ (Int32.ofNat 1) = (0 : Int32) by decide)] at cl
    generalize hM4 : syc M3 0 (rs (M3 0) 17 (M3 1 7)) = M4 at cl
    have e94 : M4 9 4 = M 122 0 := by rw [← hM4, syc_ne _ _ (by decide), d7.1 9 (by decide) (by omega), E2 9 (by omega) (by omega) (by omega) (by omega) (by omega)]; exact hv_4 H.1
    obtain ⟨tk, htk, etk⟩ := rb_texts G.1
    rw [e94, etk] at cl
    by_cases h12 : tk = 12
    · rw [if_neg (show ¬ Int32.ofNat tk < 12 by rw [h12]; decide)] at cl
      have q := x133 M3 d7
      rw [hM4] at q
      rw [q, zin (by omega) (by decide), sy_bx_t] at cl
      have hrq := rqx M3 M4 d7 hM4.symm
      rcases key _ hrq with ⟨M3', N1, f1', n1', c1, g1, g2, g3, g4, g5, g6, g7, g8⟩ | ⟨M3', N1, c1, g1, g2, g3, g4, g5, g6⟩
      · obtain ⟨_, rfl⟩ := ri_inj (d1.symm.trans g1)
        have e0 : N1 122 0 = (Int32.ofNat 12) := by rw [g5.2.1, g6 0 (by omega), etk, h12]
        refine thrw M3 M4 N1 21 2 (by decide) (by decide) (by omega) d7 d5.1.dk hM4.symm cl ?_ (g4.trans g3.symm) g8
        rw [ref _ hrq _ _ g2, g4, if_pos (show (-(Int32.ofNat 1) : Int32) = -1 from rfl), e0, if_pos (show ((Int32.ofNat 12) : Int32) = 12 from rfl)]
        rfl
      · have := (ri_inj (d1.symm.trans g1)).1
        exact absurd this (by decide)
    · rw [if_pos (show Int32.ofNat tk < 12 from (zlt (b := 12) (by omega) (by decide)).mpr (by omega))] at cl
      have H4 : hw M4 14 f1 := hw_congr d5.1 (fun a h1 h2 => by rw [← hM4, syc_ne _ _ (by omega)])
      have E4 : ∀ a, a ≠ 0 → a ≠ 1 → a ≠ 3 → a ≠ 4 → a ≠ 5 → (a < 14 ∨ 18 < a) → M4 a = M a := fun a h0 h1 h3 h4 h5 h6 => by rw [← hM4, syc_ne _ _ h0, d7.1 a h1 h6, E2 a h1 h3 h4 h5 h6]
      have H9 : hw M4 9 (M 122) := hw_congr H (fun a h1 h2 => E4 a (by omega) (by omega) (by omega) (by omega) (by omega) (by omega))
      obtain ⟨M6, i1, i2, i3⟩ := c_takeOver H4 H9.dk (by decide) (by decide)
      have f10 : f1 0 = Int32.ofNat tk := (d6 0 (by omega)).trans etk
      have H7 := hw_fld i2 (j := 4) (i := 0) (by unfold hf; omega) (Int32.ofNat (tk + 1))
      generalize hM7 : syc M6 9 (rs (M6 9) 4 (Int32.ofNat (tk + 1))) = M7 at H7
      generalize hM8 : syc M7 57 (rs (M7 57) 1 (Int32.ofNat 0)) = M8
      have E8 : ∀ a, (a < 9 ∨ 13 < a) → a ≠ 57 → M8 a = M4 a := fun a h1 h2 => by rw [← hM8, syc_ne _ _ h2, ← hM7, syc_ne _ _ (by omega), i3 a (by omega)]
      have H8 : hw M8 9 (rs f1 0 (Int32.ofNat (tk + 1))) := hw_congr H7 (fun a h1 h2 => by rw [← hM8, syc_ne _ _ (by omega)])
      have cl8 : jfX11_house M = sy_ri (Int32.ofNat (tk + 1)) M8 := by
        rw [cl, i1, sy_bv_rv, hv_4 i2.1, f10, show (1 : Int32) = (Int32.ofNat 1) from rfl, zadd, sy_upd_st, hM7]
        unfold jfX11_house_95 jfX0_forget
        simp only
        rw [sy_bv_rv, sy_upd_st, show (0 : Int32) = (Int32.ofNat 0) from rfl, hM8, hv_4 H8.1, rs_at]
      -- the reference
      generalize hM9 : sy_wl M8 132 0 (Int32.toInt64 (Int32.ofNat (tk + 1))) = M9
      have E9 : ∀ a, a ≠ 132 → M9 a = M8 a := fun a h => by rw [← hM9, sy_wl_ne _ _ h]
      have hrq : rq M M9 := fun a h1 h2 => by rw [E9 a (by omega), E8 a (by omega) (by omega), E4 a (by omega) (by omega) (by omega) (by omega) (by omega) (by omega)]
      rcases key _ hrq with ⟨M3', N1, f1', n1', c1, g1, g2, g3, g4, g5, g6, g7, g8⟩ | ⟨M3', N1, c1, g1, g2, g3, g4, g5, g6⟩
      rotate_left
      · have := (ri_inj (d1.symm.trans g1)).1
        exact absurd this (by decide)
      obtain ⟨_, rfl⟩ := ri_inj (d1.symm.trans g1)
      have x12 : N1 122 0 = Int32.ofNat tk := by rw [g5.2.1, g6 0 (by omega), etk]
      have W1 : hw M9 9 (rs f1 0 (Int32.ofNat (tk + 1))) := hw_congr H8 (fun a h1 h2 => E9 a (by omega))
      -- one row
      have eqf : ∀ i, i < 126 → i ≠ 12 → f1' i = f1 i ∨ i = 1 ∨ i = 2 := by
        intro i h1 h2
        have a := d5.1.1
        have b := g5.1.1
        by_cases h3 : 77 ≤ i
        · left
          have := (a.2.2.1 (i - 77) (by omega)).symm.trans (b.2.2.1 (i - 77) (by omega))
          rw [show 77 + (i - 77) = i by omega] at this
          exact this.symm
        · by_cases h4 : 14 ≤ i
          · left
            have := (a.2.1 (i - 14) (by omega)).symm.trans (b.2.1 (i - 14) (by omega))
            rw [show 14 + (i - 14) = i by omega] at this
            exact this.symm
          · by_cases h5 : i = 0
            · left; rw [h5, ← a.2.2.2.2.1, ← b.2.2.2.2.1]
            · by_cases h6 : i = 3
              · left; rw [h6, ← a.2.2.2.1, ← b.2.2.2.1]
              · by_cases h7 : i = 13
                · left; rw [h7, ← a.2.2.2.2.2.2, ← b.2.2.2.2.2.2]
                · by_cases h8 : 4 ≤ i
                  · left; rw [← a.2.2.2.2.2.1 i h8 (by omega), ← b.2.2.2.2.2.1 i h8 (by omega)]
                  · right; omega
      have Hf : hw M9 9 (rs f1' 0 (Int32.ofNat (tk + 1))) := by
        have l1 := g5.1.2
        have l2 : lv M9 9 (rs f1 0 (Int32.ofNat (tk + 1))) := W1.2
        refine ⟨hv_row W1.1 (fun i h1 h2 => ?_), ?_⟩
        · by_cases h0 : i = 0
          · rw [h0, rs_at, rs_at]
          · rw [rs_ne _ _ h0, rs_ne _ _ h0]
            rcases eqf i h1 h2 with h | h | h
            · exact h
            · rw [h, g6 1 (by omega), d6 1 (by omega)]
            · rw [h, g6 2 (by omega), d6 2 (by omega)]
        · refine lv_row l2 (fun i hi => ?_)
          rw [rs_ne _ _ (by omega), rs_ne _ _ (by omega)]
          rcases hi with h | h
          · rw [h]
            rcases d5.1.2 with ⟨z, _⟩ | ⟨_, _, r, nx, r1, r2, r3, r4, _⟩
            · exact absurd z (by decide)
            · rcases l1 with ⟨z, _⟩ | ⟨_, _, r', nx', q1, q2, q3, q4, _⟩
              · exact absurd z (by decide)
              · rw [r3, q3, ← r4, ← q4]
          · rw [g6 i (by omega), d6 i (by omega)]
      generalize hM5 : syc (syc (thr N1 0) 122 (rs f1' 0 (Int32.ofNat (tk + 1)))) 121 (rs (thr N1 0 121) 6 (Int32.ofNat 0)) = M5
      have r5 : jfX12_house M9 = sy_ri (Int32.ofNat (tk + 1)) M5 := by
        rw [ref _ hrq _ _ g2, g4, if_pos (show (-(Int32.ofNat 1) : Int32) = -1 from rfl), x12, if_neg (show ¬ Int32.ofNat tk = 12 from fun z => h12 ((zeq (b := 12) (by omega) (by decide)).mp z))]
        unfold jfX12_house_43
        have t0 : sy_upd N1 121 0 0 = thr N1 0 := thr_up N1 0
        simp only [t0]
        rw [thr_0, if_neg (show ¬ (0 : Int32) < (Int32.ofNat 0) by decide), thr_ne _ _ (by decide), x12, show (1 : Int32) = (Int32.ofNat 1) from rfl, zadd, sy_upd_st (thr N1 0), thr_ne _ _ (by decide), g5.2.1, sy_upd_st, syc_ne _ _ (by decide), syc_ne _ _ (show (121 : Nat) ≠ 122 by decide), syc_at, rs_at, show (0 : Int32) = (Int32.ofNat 0) from rfl, hM5]
      have E5 : ∀ a, a ≠ 121 → a ≠ 122 → M5 a = N1 a := fun a h1 h2 => by rw [← hM5, syc_ne _ _ h1, syc_ne _ _ h2, thr_ne _ _ h1]
      have J5 : ∀ j, j ≠ 0 → j ≠ 6 → M5 121 j = N1 121 j := fun j h h6 => by rw [← hM5, syc_at, rs_ne _ _ h6, thr_j _ _ h]
      have EN : ∀ a, a ≠ 121 → a ≠ 122 → a ≠ 124 → N1 a = M9 a := fun a h1 h2 h3 => by rw [g8.1 a h1 h2, bg_ne h1, syc_ne _ _ h3]
      have EE : ∀ a, a ≠ 121 → a ≠ 122 → a ≠ 124 → a ≠ 132 → M5 a = M8 a := fun a h1 h2 h3 h4 => by rw [E5 a h1 h2, EN a h1 h2 h3, E9 a h4]
      have E : ∀ a, a ≠ 0 → a ≠ 1 → a ≠ 3 → a ≠ 4 → a ≠ 5 → (a < 9 ∨ 18 < a) → a ≠ 57 → a ≠ 121 → a ≠ 122 → a ≠ 124 → a ≠ 132 → M5 a = M a := fun a h0 h1 h3 h4 h5 h6 h7 h8 h9 h10 h11 => by rw [EE a h8 h9 h10 h11, E8 a (by omega) h7, E4 a h0 h1 h3 h4 h5 (by omega)]
      have j121 : ∀ j, j ≠ 0 → j ≠ 6 → j ≠ 8 → j ≠ 9 → j ≠ 10 → j ≠ 11 → j ≠ 12 → j ≠ 13 → M5 121 j = M 121 j := fun j h0 h6 h1 h2 h3 h4 h5 h7 => by
        rw [J5 j h0 h6, g8.2.1 j h4 h5, bg_j ⟨h1, h2, h3, h4, h5, h7⟩, syc_ne _ _ (by decide), hrq 121 (by omega) (by omega)]
      have m122 : M5 122 = rs f1' 0 (Int32.ofNat (tk + 1)) := by rw [← hM5, syc_ne _ _ (by decide), syc_at]
      have ts : tsame (M 122) (M5 122) := by
        rw [m122]
        exact ⟨(rs_ne _ _ (by omega)).trans (g6 1 (by omega)), (rs_ne _ _ (by omega)).trans (g6 2 (by omega)), fun i hi => (rs_ne _ _ (by omega)).trans (g6 i (by omega))⟩
      obtain ⟨s1, s2, s3, s4, s5, s6, s7, s8, s9, s10, s11⟩ := I
      refine ⟨0, Int32.ofNat (tk + 1), M9, M5, ?_, r5, ?_, by decide, fun _ => ?_, ⟨⟨n1', ?_, ?_, ?_, ?_, ?_⟩, ?_, ?_, ?_, ?_, ?_, ?_, ?_, ⟨xk, by omega, ?_⟩, ?_, ?_⟩, ?_, ?_⟩
      · unfold jfL_house
        rw [cl8, sy_hi_ri, ← hM9]
        rfl
      · rw [← hM5, syc_at, rs_ne _ _ (by decide), thr_0]
      · rw [sy_rl_cg (show M5 132 = M9 132 by rw [E5 132 (by decide) (by decide), EN 132 (by decide) (by decide) (by decide)]), ← hM9, sy_rl_wl, if_pos ⟨rfl, rfl⟩]
      · rw [m122]
        exact gr_rs g5.2.2 (by show tk + 1 ≤ 12; omega) (by omega) (by omega) (by omega) (fun q hq => ⟨by omega, by omega⟩) (fun q h1 h2 => ⟨by omega, by omega, by omega, fun o ho => ⟨by omega, by omega⟩⟩)
      · rw [m122]; exact hw_congr Hf (fun a h1 h2 => by rw [E5 a (by omega) (by omega), EN a (by omega) (by omega) (by omega)])
      · exact hM.1 _ _ s1.choose_spec.2.2.1 ts
      · exact cAK_cp hA (lcp_of (fun a h1 h2 => E a (by omega) (by omega) (by omega) (by omega) (by omega) (by omega) (by omega) (by omega) (by omega) (by omega) (by omega))) ts
      · rw [E 29 (by omega) (by omega) (by omega) (by omega) (by omega) (by omega) (by omega) (by omega) (by omega) (by omega) (by omega), hl]; exact ts.1.symm
      · exact IK_congr s2 (by rw [EE 0 (by omega) (by omega) (by omega) (by omega), E8 0 (by omega) (by omega), ← hM4, syc_at, rs_ne _ _ (by decide), d7.1 0 (by decide) (by omega), E2 0 (by omega) (by omega) (by omega) (by omega) (by omega)]) (fun a h1 h2 => E a (by omega) (by omega) (by omega) (by omega) (by omega) (by omega) (by omega) (by omega) (by omega) (by omega) (by omega)) (fun a h1 h2 => E a (by omega) (by omega) (by omega) (by omega) (by omega) (by omega) (by omega) (by omega) (by omega) (by omega) (by omega)) (E _ (by omega) (by omega) (by omega) (by omega) (by omega) (by omega) (by omega) (by omega) (by omega) (by omega) (by omega)) (j121 3 (by omega) (by omega) (by omega) (by omega) (by omega) (by omega) (by omega) (by omega)) (fun i hi => ts.2.2 i (by omega))
      · obtain ⟨q1, q2, q3, q4, q5, q6, q7, q8⟩ := s3
        refine ⟨0, q2, by omega, q4, ?_, ?_, ?_, fun j hj => absurd hj (Nat.not_lt_zero j)⟩
        · rw [EE 57 (by omega) (by omega) (by omega) (by omega), ← hM8, syc_at, rs_at]
        · rw [← hM5, syc_at, rs_at]
        · rw [EE 57 (by omega) (by omega) (by omega) (by omega), ← hM8, syc_at, rs_ne _ _ (by decide), ← hM7, syc_ne _ _ (by decide), i3 57 (by omega), E4 57 (by omega) (by omega) (by omega) (by omega) (by omega) (by omega)]; exact q7
      · refine ⟨dk_congr H4.dk (by rw [EE 17 (by omega) (by omega) (by omega) (by omega), E8 17 (by omega) (by omega)]), dk_congr s4.2.1 (E _ (by omega) (by omega) (by omega) (by omega) (by omega) (by omega) (by omega) (by omega) (by omega) (by omega) (by omega)), fun k hk => dk_congr (s4.2.2 k hk) (E _ (by omega) (by omega) (by omega) (by omega) (by omega) (by omega) (by omega) (by omega) (by omega) (by omega) (by omega))⟩
      · exact dk_congr s5 (E _ (by omega) (by omega) (by omega) (by omega) (by omega) (by omega) (by omega) (by omega) (by omega) (by omega) (by omega))
      · refine ⟨0, by omega, ?_, ?_, fun i hi => absurd hi (Nat.not_lt_zero i)⟩
        · rw [EE 1 (by omega) (by omega) (by omega) (by omega), E8 1 (by omega) (by omega), ← hM4, syc_ne _ _ (by decide), d7.2]; exact b3
        · rw [J5 8 (by decide) (by decide), g8.2.1 8 (by decide) (by decide)]; exact bg_8.1
      · rw [EE 0 (by omega) (by omega) (by omega) (by omega), E8 0 (by omega) (by omega), ← hM4, syc_at, rs_at, J5 12 (by decide) (by decide), g4]; exact g3
      · rw [j121 19 (by omega) (by omega) (by omega) (by omega) (by omega) (by omega) (by omega) (by omega)]; exact s8
      · rw [E 133 (by omega) (by omega) (by omega) (by omega) (by omega) (by omega) (by omega) (by omega) (by omega) (by omega) (by omega)]; exact exk
      · rw [E 134 (by omega) (by omega) (by omega) (by omega) (by omega) (by omega) (by omega) (by omega) (by omega) (by omega) (by omega)]; exact s10
      · rw [E 1000000 (by omega) (by omega) (by omega) (by omega) (by omega) (by omega) (by omega) (by omega) (by omega) (by omega) (by omega)]; exact s11
      · rw [E9 134 (by omega), E8 134 (by omega) (by omega), E4 134 (by omega) (by omega) (by omega) (by omega) (by omega) (by omega)]; exact s10
      · rw [E9 1000000 (by omega), E8 1000000 (by omega) (by omega), E4 1000000 (by omega) (by omega) (by omega) (by omega) (by omega) (by omega)]; exact s11
  · have cl := cl0 _ _ d1
    simp only at cl
    rw [if_pos (show (Int32.ofNat 0) = (0 : Int32) from rfl), x133 M3 d5, zin (by omega) (by decide), sy_bx_t] at cl
    have hrq := rqx M3 _ d5 rfl
    rcases key _ hrq with ⟨M3', N1, f1', n1', c1, g1, g2, g3, g4, g5, g6, g7, g8⟩ | ⟨M3', N1, c1, g1, g2, g3, g4, g5, g6⟩
    · have := (ri_inj (d1.symm.trans g1)).1
      exact absurd this (by decide)
    · obtain ⟨_, rfl⟩ := ri_inj (d1.symm.trans g1)
      have hx := (LF_x g3).1
      obtain ⟨w, p, y1, y2, y3, y4⟩ := g3
      refine thrw M3 _ N1 20 1 (by decide) (by decide) (by omega) d5 g4 rfl cl ?_ (y3.trans y2.symm) g6
      rw [ref _ hrq _ _ g2, if_neg (show ¬ N1 121 12 = -1 from hx)]
      rfl
end
