/-! ===== all of several, some of several ===== -/
section
variable {M N : sy_M} {t : Nat → Nat} {L : Nat}
/-- all of several: what stands behind the first of them -/
theorem all_59 {rc : Int32 → sy_M → sy_O} {k : Nat} {a1 a2 a4 : Int32} : ∃ M1, jfX5_readAll_11 rc (k + 1) a1 a2 0 a4 M = sy_ri (Int32.ofNat 0) M1 ∧ (∀ c, c ≠ 40 → M1 c = M c) := by
  obtain ⟨M1, e1, e2⟩ := c_land_any (M := M) a2
  refine ⟨M1, ?_, e2⟩
  show jgX5_readAll_11 rc (jfX5_readAll_11 rc k) a1 a2 0 a4 M = _
  unfold jgX5_readAll_11
  rw [if_pos (show (0 : Int32) = 0 from rfl), ite_self]
  unfold jfX5_readAll_59
  rw [e1, sy_bv_rv]
  rfl
theorem all_loop {rc : Int32 → sy_M → sy_O} {rr : sy_M → sy_O} {M0 : sy_M} {q0 s0 d : Nat} {y : sy_M → sy_O} (ht : ∀ i, t i ≤ 255) (hL : L ≤ 400) (EO : ∀ M q s, CS M t L q s → s ≤ q → ER (rc (Int32.ofNat d) M) (rr) M t L q s d) (hs0 : s0 ≤ q0) : ∀ (m k k2 i : Nat) (M : sy_M) (q s : Nat) (J : List Nat) (mn : (Nat → Int32) → Bool), L - q ≤ m → CS M t L q s → q0 < q → s0 < s → s + q0 ≤ s0 + q + 1 → i < q → (∀ i, i < s0 → M 40 i = M0 40 i) → chn (M 40) 8 J → PB (M 40) 8 false s0 s J mn → (∀ j ∈ J, s0 ≤ j ∧ j < s) → J.length ≤ i → fl M0 M → (∀ N v, RS N t L q0 v d → ∃ N1, y N = jfX12_every_5 rr (k2 + m + 2) (bz (mn v)) N1 ∧ RS N1 t L q v d ∧ fe N N1) → ER (jfX5_readAll_11 rc (k + m + 2) (Int32.ofNat d) (jmp J) (Int32.ofNat 1) (Int32.ofNat i) M) y M0 t L q0 s0 d := by
  have n1 : ¬ (Int32.ofNat 1) = (0 : Int32) := by decide
  have n0 : (Int32.ofNat 0) = (0 : Int32) := rfl
  -- no more of them
  have stop : ∀ (k k2 i : Nat) (M : sy_M) (q s : Nat) (J : List Nat) (mn : (Nat → Int32) → Bool), CS M t L q s → q0 < q → s0 < s → s + q0 ≤ s0 + q + 1 → i < q → (∀ i, i < s0 → M 40 i = M0 40 i) → chn (M 40) 8 J → PB (M 40) 8 false s0 s J mn → (∀ j ∈ J, s0 ≤ j ∧ j < s) → J.length ≤ i → fl M0 M → thg t L q ≠ 278 → (∀ N v, RS N t L q0 v d → ∃ N1, y N = jfX12_every_5 rr (k2 + 1) (bz (mn v)) N1 ∧ RS N1 t L q v d ∧ fe N N1) → ER (jfX5_readAll_11 rc (k + 1) (Int32.ofNat d) (jmp J) (Int32.ofNat 1) (Int32.ofNat i) M) y M0 t L q0 s0 d := by
    intro k k2 i M q s J mn C hq hs hb hi e40 ch P hJ hJl F nw R
    have hqL := CS_L C
    have a2 : jfX10_takes 278 M = sy_ri (Int32.ofNat 0) M := by
      rcases c_takes (c := 278) ht C.1 (by decide) (by decide) with ⟨a1, _⟩ | ⟨_, a2⟩
      · exact absurd a1 nw
      · exact a2
    have ld : jfX4_land 35 (jmp J) M = sy_rv (syc M 40 (lnd (M 40) 8 s J)) := by
      obtain ⟨kk, ek⟩ : ∃ kk, 6000 = kk + J.length + 1 := ⟨5999 - J.length, by omega⟩
      unfold jfX4_land
      rw [show sy_F = 6000 from sy_F_eq, ek]
      exact c_land_J (by decide) (by omega) J kk 0 M ch C.2.2 (by omega)
    refine Or.inl ⟨syc M 40 (lnd (M 40) 8 s J), q, s, mn, ?_, ⟨ct_congr C.1 (fun a ha => syc_ne _ _ (by omega)), by rw [syc_ne _ _ (by decide)]; exact C.2.1, by rw [syc_ne _ _ (by decide)]; exact C.2.2⟩, hq, hs, hb, fun j hj => ?_, ?_, F.trans ⟨fun a _ _ h => syc_ne _ _ h, by rw [syc_ne _ _ (by decide)], by rw [syc_ne _ _ (by decide)]⟩, ?_⟩
    · show jgX5_readAll_11 rc (jfX5_readAll_11 rc k) (Int32.ofNat d) (jmp J) (Int32.ofNat 1) (Int32.ofNat i) M = _
      unfold jgX5_readAll_11
      rw [if_pos (show Int32.ofNat i < 400 from (zlt (b := 400) (by omega) (by decide)).mpr (by omega)), if_neg n1, a2, sy_bi_ri, if_pos n0]
      unfold jfX5_readAll_59
      rw [ld, sy_bv_rv]
      rfl
    · rw [syc_at]
      unfold lnd
      rw [if_neg (fun z => by have := hJ j z; omega)]
      exact e40 j hj
    · rw [syc_at]
      exact PB_end P (by omega)
    · intro N v h
      obtain ⟨N1, r1, r2, r3⟩ := R N v h
      have g := (RS_has (i := 18) ht r2 (by decide) w_and).2 nw
      refine ⟨m11 N1 q, ?_, g.2, r3.trans fg_m11.fe⟩
      rw [r1]
      show jgX12_every_5 rr (jfX12_every_5 rr k2) (bz (mn v)) N1 = _
      unfold jgX12_every_5
      rw [r2.1, if_pos (show (-(Int32.ofNat 1) : Int32) = -1 from rfl), g.1, sy_bi_ri, if_pos n0, bz_bo, sy_bb_t]
  intro m
  induction m with
  | zero =>
    intro k k2 i M q s J mn hm C hq hs hb hi e40 ch P hJ hJl F R
    refine stop (k + 0 + 1) (k2 + 0 + 1) i M q s J mn C hq hs hb hi e40 ch P hJ hJl F ?_ R
    have := (thg_end (t := t) ht (CS_L C)).1.mpr (by have := CS_L C; omega)
    omega
  | succ m ih =>
    intro k k2 i M q s J mn hm C hq hs hb hi e40 ch P hJ hJl F R
    by_cases nw : thg t L q = 278
    rotate_left
    · exact stop (k + (m + 1) + 1) (k2 + (m + 1) + 1) i M q s J mn C hq hs hb hi e40 ch P hJ hJl F nw R
    have hqL := CS_L C
    rcases c_takes (c := 278) ht C.1 (by decide) (by decide) with ⟨_, M1, a2, a3, a4, a5, a6⟩ | ⟨a1, _⟩
    rotate_left
    · exact absurd nw a1
    have tw := ten_word (i := 18) ht hqL (by decide) nw
    have lw : (wds.getD 18 []).length = 3 := rfl
    have tg := ten_gt (t := t) a6
    have ng := nxt_ge (t := t) tg.2
    have el := enc_le J ch
    have aj := c_addJump (M := M1) (s := s) (n := enc J) (a := 8) (b := jmp J) (fk_35 a4 C.2.2) (by omega) (jmp_1 J)
    generalize hM2 : m_add M1 s (8 + 16 * Int32.ofNat (enc J)) = M2 at aj
    have fs2 : fs M1 M2 := by rw [← hM2]; exact fs_add
    have C2 : CS M2 t L (nxt t L (ten t L q)) (s + 1) := ⟨fs_ct fs2 a3, by rw [fs_1 fs2, a5]; exact C.2.1, by rw [← hM2, m_add_35]⟩
    have e240 : M2 40 = rs (M 40) s (Int32.ofNat (8 + 16 * enc J)) := by
      rw [← hM2, m_add_40, a4.1 40 (by decide)]
      congr 1
      show (Int32.ofNat 8) + (Int32.ofNat 16) * Int32.ofNat (enc J) = _
      rw [zmul, zadd]
    have a2' : jfX10_takes 278 M = sy_ri (Int32.ofNat 1) M1 := a2
    have cl : jfX5_readAll_11 rc (k + (m + 1) + 2) (Int32.ofNat d) (jmp J) (Int32.ofNat 1) (Int32.ofNat i) M = sy_bi (rc (Int32.ofNat d) M2) fun v6 M5 => jfX5_readAll_11 rc (k + m + 2) (Int32.ofNat d) (Int32.ofNat s) v6 (Int32.ofNat (i + 1)) M5 := by
      show jgX5_readAll_11 rc (jfX5_readAll_11 rc (k + m + 2)) (Int32.ofNat d) (jmp J) (Int32.ofNat 1) (Int32.ofNat i) M = _
      unfold jgX5_readAll_11
      rw [if_pos (show Int32.ofNat i < 400 from (zlt (b := 400) (by omega) (by decide)).mpr (by omega)), if_neg n1, a2', sy_bi_ri, if_neg n1, aj, sy_bi_ri]
      simp only
      rw [show Int32.ofNat i + 1 = Int32.ofNat (i + 1) from zadd i 1]
    rw [cl]
    have rl : ∀ N v, RS N t L q0 v d → ∃ N2, y N = (sy_bi (rr N2) fun v4 M3 => jfX12_every_5 rr (k2 + m + 2) (if bz (mn v) = 0 then 0 else if v4 = 0 then 0 else 1) M3) ∧ RS N2 t L (nxt t L (ten t L q)) v d ∧ fe N N2 := by
      intro N v h
      obtain ⟨N1, r1, r2, r3⟩ := R N v h
      have g := (RS_has (i := 18) ht r2 (by decide) w_and).1 nw
      refine ⟨_, ?_, g.2, r3.trans fg_m11.fe⟩
      rw [r1]
      show jgX12_every_5 rr (jfX12_every_5 rr (k2 + m + 2)) (bz (mn v)) N1 = _
      unfold jgX12_every_5
      rw [r2.1, if_pos (show (-(Int32.ofNat 1) : Int32) = -1 from rfl), g.1, sy_bi_ri, if_neg n1]
      congr 1
      funext v4 M3
      unfold jfX12_every_39 jfX12_every_40
      by_cases h1 : bz (mn v) = 0
      · rw [if_pos h1, if_pos h1]
      · rw [if_neg h1, if_neg h1]
        by_cases h2 : v4 = 0
        · rw [if_pos h2, if_pos h2]
        · rw [if_neg h2, if_neg h2]
    rcases EO M2 _ _ C2 (by omega) with ⟨M3, q3, s3, b, b1, b2, b3, b4, b5, b6, b7, b8, b9⟩ | ⟨M3, w, b1, b2, b3, b4, b5⟩
    · rw [b1, sy_bi_ri, ← jmp_c s J]
      have lo : ∀ i, i < s → M3 40 i = M 40 i := fun j hj => by rw [b6 j (by omega), e240, rs_ne _ _ (by omega)]
      refine ih k k2 (i + 1) M3 q3 s3 (s :: J) (fun v => bif mn v == false then false else b v) (by omega) b2 (by omega) (by omega) (by omega) (by omega) (fun j hj => (lo j (by omega)).trans (e40 j hj)) ⟨?_, by omega, fun j hj => (hJ j hj).2, chn_congr J (fun j hj => lo j (hJ j hj).2) ch⟩ (PB_next rfl P (fun j hj => (hJ j hj).2) (fun j _ hj => lo j hj) (by omega) b7) ?_ (by rw [List.length_cons]; omega) (F.trans (a4.fl.trans (fs2.fl.trans b8))) ?_
      · rw [b6 s (by omega), e240, rs_at]
      · intro j hj
        rcases List.mem_cons.mp hj with h | h
        · omega
        · have := hJ j h; omega
      · intro N v h
        obtain ⟨N2, r1, r2, r3⟩ := rl N v h
        obtain ⟨N3, r4, r5, r6⟩ := b9 N2 v r2
        refine ⟨N3, ?_, r5, r3.trans r6⟩
        rw [r1, r4, sy_bi_ri]
        cases mn v <;> cases b v <;> rfl
    · obtain ⟨M4, c1, c2⟩ := all_59 (M := M3) (rc := rc) (k := k + m + 1) (a1 := Int32.ofNat d) (a2 := Int32.ofNat s) (a4 := Int32.ofNat (i + 1))
      rw [b1, sy_bi_ri]
      refine Or.inr ⟨M4, w, c1, by rw [c2 1 (by decide)]; exact b2, b3, F.trans (a4.fl.trans (fs2.fl.trans (b4.trans ⟨fun a _ _ h => c2 a h, by rw [c2 1 (by decide)], by rw [c2 35 (by decide)]⟩))), ?_⟩
      intro N v h
      obtain ⟨N2, r1, r2, r3⟩ := rl N v h
      obtain ⟨x, N3, r4, r5, r6⟩ := b5 N2 v r2
      refine ⟨bif mn v == false then false else x, N3, ?_, r5, r3.trans r6⟩
      rw [r1, r4, sy_bi_ri]
      show jgX12_every_5 rr (jfX12_every_5 rr (k2 + m + 1)) _ N3 = _
      unfold jgX12_every_5
      rw [if_neg (show ¬ N3 121 12 = -1 from RX_x r5)]
      cases mn v <;> cases x <;> rfl
theorem k_all {rc : Int32 → sy_M → sy_O} {rr : sy_M → sy_O} {q s d : Nat} (ht : ∀ i, t i ≤ 255) (hL : L ≤ 400) (EO : ∀ M q s, CS M t L q s → s ≤ q → ER (rc (Int32.ofNat d) M) (rr) M t L q s d) (C : CS M t L q s) (hs : s ≤ q) : ER (jfX5_readAll rc (Int32.ofNat d) M) (jfX12_every rr) M t L q s d := by
  have cl : jfX5_readAll rc (Int32.ofNat d) M = sy_bi (rc (Int32.ofNat d) M) fun v2 M1 => jfX5_readAll_11 rc sy_F (Int32.ofNat d) (-1) v2 0 M1 := rfl
  rw [cl]
  rcases EO M q s C hs with ⟨M1, q1, s1, mn, b1, b2, b3, b4, b5, b6, b7, b8, b9⟩ | ⟨M1, w, b1, b2, b3, b4, b5⟩
  · rw [b1, sy_bi_ri]
    have hq1 := CS_L b2
    obtain ⟨kk, ek⟩ : ∃ kk, 6000 = kk + (L - q1) + 2 := ⟨5998 - (L - q1), by omega⟩
    rw [show sy_F = 6000 from sy_F_eq, ek]
    refine all_loop ht hL EO hs (L - q1) kk kk 0 M1 q1 s1 [] mn (Nat.le_refl _) b2 b3 b4 b5 (by omega) b6 trivial (PB_base b7) (fun j hj => absurd hj (List.not_mem_nil)) (by exact Nat.le_refl 0) b8 ?_
    intro N v h
    obtain ⟨N1, r4, r5, r6⟩ := b9 N v h
    refine ⟨N1, ?_, r5, r6⟩
    show (sy_bi (rr N) fun v2 M1 => jfX12_every_5 rr sy_F v2 M1) = _
    rw [r4, sy_bi_ri, show sy_F = 6000 from sy_F_eq, ek]
  · obtain ⟨M4, c1, c2⟩ := all_59 (M := M1) (rc := rc) (k := 5999) (a1 := Int32.ofNat d) (a2 := -1) (a4 := 0)
    rw [b1, sy_bi_ri, show sy_F = 5999 + 1 from sy_F_eq]
    refine Or.inr ⟨M4, w, c1, by rw [c2 1 (by decide)]; exact b2, b3, b4.trans ⟨fun a _ _ h => c2 a h, by rw [c2 1 (by decide)], by rw [c2 35 (by decide)]⟩, ?_⟩
    intro N v h
    obtain ⟨x, N1, r4, r5, r6⟩ := b5 N v h
    refine ⟨x, N1, ?_, r5, r6⟩
    show (sy_bi (rr N) fun v2 M1 => jfX12_every_5 rr sy_F v2 M1) = _
    rw [r4, sy_bi_ri, show sy_F = 5999 + 1 from sy_F_eq]
    show jgX12_every_5 rr (jfX12_every_5 rr 5999) _ N1 = _
    unfold jgX12_every_5
    rw [if_neg (show ¬ N1 121 12 = -1 from RX_x r5), bz_bo, sy_bb_t]
/-- some of several: what stands behind the first of them -/
theorem any_59 {rc : Int32 → sy_M → sy_O} {k : Nat} {a1 a2 a4 : Int32} : ∃ M1, jfX5_readAny_11 rc (k + 1) a1 a2 0 a4 M = sy_ri (Int32.ofNat 0) M1 ∧ (∀ c, c ≠ 40 → M1 c = M c) := by
  obtain ⟨M1, e1, e2⟩ := c_land_any (M := M) a2
  refine ⟨M1, ?_, e2⟩
  show jgX5_readAny_11 rc (jfX5_readAny_11 rc k) a1 a2 0 a4 M = _
  unfold jgX5_readAny_11
  rw [if_pos (show (0 : Int32) = 0 from rfl), ite_self]
  unfold jfX5_readAny_59
  rw [e1, sy_bv_rv]
  rfl
theorem any_loop {rc : Int32 → sy_M → sy_O} {rr : sy_M → sy_O} {M0 : sy_M} {q0 s0 d : Nat} {y : sy_M → sy_O} (ht : ∀ i, t i ≤ 255) (hL : L ≤ 400) (EO : ∀ M q s, CS M t L q s → s ≤ q → ER (jfX5_readAll rc (Int32.ofNat d) M) (jfX12_every rr) M t L q s d) (hs0 : s0 ≤ q0) : ∀ (m k k2 i : Nat) (M : sy_M) (q s : Nat) (J : List Nat) (mn : (Nat → Int32) → Bool), L - q ≤ m → CS M t L q s → q0 < q → s0 < s → s + q0 ≤ s0 + q + 1 → i < q → (∀ i, i < s0 → M 40 i = M0 40 i) → chn (M 40) 7 J → PB (M 40) 7 true s0 s J mn → (∀ j ∈ J, s0 ≤ j ∧ j < s) → J.length ≤ i → fl M0 M → (∀ N v, RS N t L q0 v d → ∃ N1, y N = jfX12_some_5 rr (k2 + m + 2) (bz (mn v)) N1 ∧ RS N1 t L q v d ∧ fe N N1) → ER (jfX5_readAny_11 rc (k + m + 2) (Int32.ofNat d) (jmp J) (Int32.ofNat 1) (Int32.ofNat i) M) y M0 t L q0 s0 d := by
  have n1 : ¬ (Int32.ofNat 1) = (0 : Int32) := by decide
  have n0 : (Int32.ofNat 0) = (0 : Int32) := rfl
  -- no more of them
  have stop : ∀ (k k2 i : Nat) (M : sy_M) (q s : Nat) (J : List Nat) (mn : (Nat → Int32) → Bool), CS M t L q s → q0 < q → s0 < s → s + q0 ≤ s0 + q + 1 → i < q → (∀ i, i < s0 → M 40 i = M0 40 i) → chn (M 40) 7 J → PB (M 40) 7 true s0 s J mn → (∀ j ∈ J, s0 ≤ j ∧ j < s) → J.length ≤ i → fl M0 M → thg t L q ≠ 277 → (∀ N v, RS N t L q0 v d → ∃ N1, y N = jfX12_some_5 rr (k2 + 1) (bz (mn v)) N1 ∧ RS N1 t L q v d ∧ fe N N1) → ER (jfX5_readAny_11 rc (k + 1) (Int32.ofNat d) (jmp J) (Int32.ofNat 1) (Int32.ofNat i) M) y M0 t L q0 s0 d := by
    intro k k2 i M q s J mn C hq hs hb hi e40 ch P hJ hJl F nw R
    have hqL := CS_L C
    have a2 : jfX10_takes 277 M = sy_ri (Int32.ofNat 0) M := by
      rcases c_takes (c := 277) ht C.1 (by decide) (by decide) with ⟨a1, _⟩ | ⟨_, a2⟩
      · exact absurd a1 nw
      · exact a2
    have ld : jfX4_land 35 (jmp J) M = sy_rv (syc M 40 (lnd (M 40) 7 s J)) := by
      obtain ⟨kk, ek⟩ : ∃ kk, 6000 = kk + J.length + 1 := ⟨5999 - J.length, by omega⟩
      unfold jfX4_land
      rw [show sy_F = 6000 from sy_F_eq, ek]
      exact c_land_J (by decide) (by omega) J kk 0 M ch C.2.2 (by omega)
    refine Or.inl ⟨syc M 40 (lnd (M 40) 7 s J), q, s, mn, ?_, ⟨ct_congr C.1 (fun a ha => syc_ne _ _ (by omega)), by rw [syc_ne _ _ (by decide)]; exact C.2.1, by rw [syc_ne _ _ (by decide)]; exact C.2.2⟩, hq, hs, hb, fun j hj => ?_, ?_, F.trans ⟨fun a _ _ h => syc_ne _ _ h, by rw [syc_ne _ _ (by decide)], by rw [syc_ne _ _ (by decide)]⟩, ?_⟩
    · show jgX5_readAny_11 rc (jfX5_readAny_11 rc k) (Int32.ofNat d) (jmp J) (Int32.ofNat 1) (Int32.ofNat i) M = _
      unfold jgX5_readAny_11
      rw [if_pos (show Int32.ofNat i < 400 from (zlt (b := 400) (by omega) (by decide)).mpr (by omega)), if_neg n1, a2, sy_bi_ri, if_pos n0]
      unfold jfX5_readAny_59
      rw [ld, sy_bv_rv]
      rfl
    · rw [syc_at]
      unfold lnd
      rw [if_neg (fun z => by have := hJ j z; omega)]
      exact e40 j hj
    · rw [syc_at]
      exact PB_end P (by omega)
    · intro N v h
      obtain ⟨N1, r1, r2, r3⟩ := R N v h
      have g := (RS_has (i := 17) ht r2 (by decide) w_or).2 nw
      refine ⟨m11 N1 q, ?_, g.2, r3.trans fg_m11.fe⟩
      rw [r1]
      show jgX12_some_5 rr (jfX12_some_5 rr k2) (bz (mn v)) N1 = _
      unfold jgX12_some_5
      rw [r2.1, if_pos (show (-(Int32.ofNat 1) : Int32) = -1 from rfl), g.1, sy_bi_ri, if_pos n0, bz_bo, sy_bb_t]
  intro m
  induction m with
  | zero =>
    intro k k2 i M q s J mn hm C hq hs hb hi e40 ch P hJ hJl F R
    refine stop (k + 0 + 1) (k2 + 0 + 1) i M q s J mn C hq hs hb hi e40 ch P hJ hJl F ?_ R
    have := (thg_end (t := t) ht (CS_L C)).1.mpr (by have := CS_L C; omega)
    omega
  | succ m ih =>
    intro k k2 i M q s J mn hm C hq hs hb hi e40 ch P hJ hJl F R
    by_cases nw : thg t L q = 277
    rotate_left
    · exact stop (k + (m + 1) + 1) (k2 + (m + 1) + 1) i M q s J mn C hq hs hb hi e40 ch P hJ hJl F nw R
    have hqL := CS_L C
    rcases c_takes (c := 277) ht C.1 (by decide) (by decide) with ⟨_, M1, a2, a3, a4, a5, a6⟩ | ⟨a1, _⟩
    rotate_left
    · exact absurd nw a1
    have tw := ten_word (i := 17) ht hqL (by decide) nw
    have lw : (wds.getD 17 []).length = 2 := rfl
    have tg := ten_gt (t := t) a6
    have ng := nxt_ge (t := t) tg.2
    have el := enc_le J ch
    have aj := c_addJump (M := M1) (s := s) (n := enc J) (a := 7) (b := jmp J) (fk_35 a4 C.2.2) (by omega) (jmp_1 J)
    generalize hM2 : m_add M1 s (7 + 16 * Int32.ofNat (enc J)) = M2 at aj
    have fs2 : fs M1 M2 := by rw [← hM2]; exact fs_add
    have C2 : CS M2 t L (nxt t L (ten t L q)) (s + 1) := ⟨fs_ct fs2 a3, by rw [fs_1 fs2, a5]; exact C.2.1, by rw [← hM2, m_add_35]⟩
    have e240 : M2 40 = rs (M 40) s (Int32.ofNat (7 + 16 * enc J)) := by
      rw [← hM2, m_add_40, a4.1 40 (by decide)]
      congr 1
      show (Int32.ofNat 7) + (Int32.ofNat 16) * Int32.ofNat (enc J) = _
      rw [zmul, zadd]
    have a2' : jfX10_takes 277 M = sy_ri (Int32.ofNat 1) M1 := a2
    have cl : jfX5_readAny_11 rc (k + (m + 1) + 2) (Int32.ofNat d) (jmp J) (Int32.ofNat 1) (Int32.ofNat i) M = sy_bi (jfX5_readAll rc (Int32.ofNat d) M2) fun v6 M5 => jfX5_readAny_11 rc (k + m + 2) (Int32.ofNat d) (Int32.ofNat s) v6 (Int32.ofNat (i + 1)) M5 := by
      show jgX5_readAny_11 rc (jfX5_readAny_11 rc (k + m + 2)) (Int32.ofNat d) (jmp J) (Int32.ofNat 1) (Int32.ofNat i) M = _
      unfold jgX5_readAny_11
      rw [if_pos (show Int32.ofNat i < 400 from (zlt (b := 400) (by omega) (by decide)).mpr (by omega)), if_neg n1, a2', sy_bi_ri, if_neg n1, aj, sy_bi_ri]
      simp only
      rw [show Int32.ofNat i + 1 = Int32.ofNat (i + 1) from zadd i 1]
    rw [cl]
    have rl : ∀ N v, RS N t L q0 v d → ∃ N2, y N = (sy_bi (jfX12_every rr N2) fun v4 M3 => jfX12_some_5 rr (k2 + m + 2) (if bz (mn v) = 0 then (if v4 = 0 then 0 else 1) else 1) M3) ∧ RS N2 t L (nxt t L (ten t L q)) v d ∧ fe N N2 := by
      intro N v h
      obtain ⟨N1, r1, r2, r3⟩ := R N v h
      have g := (RS_has (i := 17) ht r2 (by decide) w_or).1 nw
      refine ⟨_, ?_, g.2, r3.trans fg_m11.fe⟩
      rw [r1]
      show jgX12_some_5 rr (jfX12_some_5 rr (k2 + m + 2)) (bz (mn v)) N1 = _
      unfold jgX12_some_5
      rw [r2.1, if_pos (show (-(Int32.ofNat 1) : Int32) = -1 from rfl), g.1, sy_bi_ri, if_neg n1]
      congr 1
      funext v4 M3
      unfold jfX12_some_35 jfX12_some_40
      by_cases h1 : bz (mn v) = 0
      · rw [if_pos h1, if_pos h1]
        by_cases h2 : v4 = 0
        · rw [if_pos h2, if_pos h2]
        · rw [if_neg h2, if_neg h2]
      · rw [if_neg h1, if_neg h1]
    rcases EO M2 _ _ C2 (by omega) with ⟨M3, q3, s3, b, b1, b2, b3, b4, b5, b6, b7, b8, b9⟩ | ⟨M3, w, b1, b2, b3, b4, b5⟩
    · rw [b1, sy_bi_ri, ← jmp_c s J]
      have lo : ∀ i, i < s → M3 40 i = M 40 i := fun j hj => by rw [b6 j (by omega), e240, rs_ne _ _ (by omega)]
      refine ih k k2 (i + 1) M3 q3 s3 (s :: J) (fun v => bif mn v == true then true else b v) (by omega) b2 (by omega) (by omega) (by omega) (by omega) (fun j hj => (lo j (by omega)).trans (e40 j hj)) ⟨?_, by omega, fun j hj => (hJ j hj).2, chn_congr J (fun j hj => lo j (hJ j hj).2) ch⟩ (PB_next rfl P (fun j hj => (hJ j hj).2) (fun j _ hj => lo j hj) (by omega) b7) ?_ (by rw [List.length_cons]; omega) (F.trans (a4.fl.trans (fs2.fl.trans b8))) ?_
      · rw [b6 s (by omega), e240, rs_at]
      · intro j hj
        rcases List.mem_cons.mp hj with h | h
        · omega
        · have := hJ j h; omega
      · intro N v h
        obtain ⟨N2, r1, r2, r3⟩ := rl N v h
        obtain ⟨N3, r4, r5, r6⟩ := b9 N2 v r2
        refine ⟨N3, ?_, r5, r3.trans r6⟩
        rw [r1, r4, sy_bi_ri]
        cases mn v <;> cases b v <;> rfl
    · obtain ⟨M4, c1, c2⟩ := any_59 (M := M3) (rc := rc) (k := k + m + 1) (a1 := Int32.ofNat d) (a2 := Int32.ofNat s) (a4 := Int32.ofNat (i + 1))
      rw [b1, sy_bi_ri]
      refine Or.inr ⟨M4, w, c1, by rw [c2 1 (by decide)]; exact b2, b3, F.trans (a4.fl.trans (fs2.fl.trans (b4.trans ⟨fun a _ _ h => c2 a h, by rw [c2 1 (by decide)], by rw [c2 35 (by decide)]⟩))), ?_⟩
      intro N v h
      obtain ⟨N2, r1, r2, r3⟩ := rl N v h
      obtain ⟨x, N3, r4, r5, r6⟩ := b5 N2 v r2
      refine ⟨bif mn v == true then true else x, N3, ?_, r5, r3.trans r6⟩
      rw [r1, r4, sy_bi_ri]
      show jgX12_some_5 rr (jfX12_some_5 rr (k2 + m + 1)) _ N3 = _
      unfold jgX12_some_5
      rw [if_neg (show ¬ N3 121 12 = -1 from RX_x r5)]
      cases mn v <;> cases x <;> rfl
theorem k_any {rc : Int32 → sy_M → sy_O} {rr : sy_M → sy_O} {q s d : Nat} (ht : ∀ i, t i ≤ 255) (hL : L ≤ 400) (EO : ∀ M q s, CS M t L q s → s ≤ q → ER (jfX5_readAll rc (Int32.ofNat d) M) (jfX12_every rr) M t L q s d) (C : CS M t L q s) (hs : s ≤ q) : ER (jfX5_readAny rc (Int32.ofNat d) M) (jfX12_some rr) M t L q s d := by
  have cl : jfX5_readAny rc (Int32.ofNat d) M = sy_bi (jfX5_readAll rc (Int32.ofNat d) M) fun v2 M1 => jfX5_readAny_11 rc sy_F (Int32.ofNat d) (-1) v2 0 M1 := rfl
  rw [cl]
  rcases EO M q s C hs with ⟨M1, q1, s1, mn, b1, b2, b3, b4, b5, b6, b7, b8, b9⟩ | ⟨M1, w, b1, b2, b3, b4, b5⟩
  · rw [b1, sy_bi_ri]
    have hq1 := CS_L b2
    obtain ⟨kk, ek⟩ : ∃ kk, 6000 = kk + (L - q1) + 2 := ⟨5998 - (L - q1), by omega⟩
    rw [show sy_F = 6000 from sy_F_eq, ek]
    refine any_loop ht hL EO hs (L - q1) kk kk 0 M1 q1 s1 [] mn (Nat.le_refl _) b2 b3 b4 b5 (by omega) b6 trivial (PB_base b7) (fun j hj => absurd hj (List.not_mem_nil)) (by exact Nat.le_refl 0) b8 ?_
    intro N v h
    obtain ⟨N1, r4, r5, r6⟩ := b9 N v h
    refine ⟨N1, ?_, r5, r6⟩
    show (sy_bi (jfX12_every rr N) fun v2 M1 => jfX12_some_5 rr sy_F v2 M1) = _
    rw [r4, sy_bi_ri, show sy_F = 6000 from sy_F_eq, ek]
  · obtain ⟨M4, c1, c2⟩ := any_59 (M := M1) (rc := rc) (k := 5999) (a1 := Int32.ofNat d) (a2 := -1) (a4 := 0)
    rw [b1, sy_bi_ri, show sy_F = 5999 + 1 from sy_F_eq]
    refine Or.inr ⟨M4, w, c1, by rw [c2 1 (by decide)]; exact b2, b3, b4.trans ⟨fun a _ _ h => c2 a h, by rw [c2 1 (by decide)], by rw [c2 35 (by decide)]⟩, ?_⟩
    intro N v h
    obtain ⟨x, N1, r4, r5, r6⟩ := b5 N v h
    refine ⟨x, N1, ?_, r5, r6⟩
    show (sy_bi (jfX12_every rr N) fun v2 M1 => jfX12_some_5 rr sy_F v2 M1) = _
    rw [r4, sy_bi_ri, show sy_F = 5999 + 1 from sy_F_eq]
    show jgX12_some_5 rr (jfX12_some_5 rr 5999) _ N1 = _
    unfold jgX12_some_5
    rw [if_neg (show ¬ N1 121 12 = -1 from RX_x r5), bz_bo, sy_bb_t]
end
