/-! ===== facts and comparisons of a law ===== -/
section
variable {M N : sy_M} {t : Nat → Nat} {L : Nat}
/-- what reading an expression comes to -/
def ER (x0 : sy_O) (y : sy_M → sy_O) (M0 : sy_M) (t : Nat → Nat) (L q0 s0 d : Nat) : Prop := (∃ M1 q1 s1 mn, x0 = sy_ri (Int32.ofNat 1) M1 ∧ CS M1 t L q1 s1 ∧ q0 < q1 ∧ s0 < s1 ∧ s1 + q0 ≤ s0 + q1 + 1 ∧ (∀ i, i < s0 → M1 40 i = M0 40 i) ∧ Blk (M1 40) s0 s1 mn ∧ fl M0 M1 ∧ ∀ N v, RS N t L q0 v d → ∃ N1, y N = sy_ri (bz (mn v)) N1 ∧ RS N1 t L q1 v d ∧ fe N N1) ∨ (∃ M1 w, x0 = sy_ri (Int32.ofNat 0) M1 ∧ M1 1 7 = Int32.ofNat w ∧ w ≤ L ∧ fl M0 M1 ∧ ∀ N v, RS N t L q0 v d → ∃ b N1, y N = sy_ri (bz b) N1 ∧ RX N1 t L w d ∧ fe N N1)
noncomputable def leafc (rc : Int32 → sy_M → sy_O) (M : sy_M) : sy_O :=
  sy_bi (jfX10_takes 280 M) fun v6 M5 =>
  if v6 = 0 then
    sy_bi (jfX10_takes 281 M5) fun v8 M7 =>
    if v8 = 0 then
      sy_bi (jfX5_readSum M7) fun v10 M9 =>
      if v10 = 0 then
        jfX5_readAtom_193 rc M9
      else
        sy_bi (jfX5_readOrder M9) fun v12 M11 =>
        if v12 = 0 then
          jfX5_readAtom_193 rc M11
        else
          sy_bi (jfX5_readSum M11) fun v14 M13 =>
          if v14 = 0 then
            jfX5_readAtom_193 rc M13
          else
            jfX5_readAtom_194 rc 1 M13
    else
      sy_bv (jfX4_add 35 5 8 M7) fun M15 =>
      sy_ri 1 M15
  else
    sy_bv (jfX4_add 35 5 7 M5) fun M16 =>
    sy_ri 1 M16
theorem bo_bz {x : Int32} (h : sy_bo x = true) : bz (!decide (x = 0)) = x := by
  unfold sy_bo at h
  rcases (show x = 0 ∨ x = 1 by
    rw [Bool.or_eq_true, decide_eq_true_iff, decide_eq_true_iff] at h
    exact h) with e | e <;> rw [e] <;> rfl
theorem c_193 (rc : Int32 → sy_M → sy_O) : ∃ M1, jfX5_readAtom_193 rc M = sy_ri (Int32.ofNat 0) M1 ∧ fs M M1 := by
  obtain ⟨M1, e1, e2⟩ := c_add_any (M := M) 4 0
  refine ⟨M1, ?_, e2⟩
  unfold jfX5_readAtom_193 jfX5_readAtom_194
  rw [e1, sy_bv_rv]
  rfl
theorem Blk_fact {F : Nat → Int32} {s nm : Nat} (h : F s = Int32.ofNat (5 + 16 * nm)) (h1 : nm < 9) : Blk F s (s + 1) (fun v => !decide (v nm = 0)) := by
  intro v fl il lf
  refine ⟨il, lf, hr.step (kd := 5) (nm := nm) (Nat.lt_succ_self s) h (by omega) (by omega) ?_⟩
  have : hk v 5 nm (s, fl, il, lf, 0) = (s + 1, !decide (v nm = 0), il, lf, 0) := by
    unfold hk
    simp (config := { decide := true }) only [if_true, if_false, if_pos h1]
  rw [this]; exact hr.refl _
theorem Blk_cmp {F : Nat → Int32} {s s1 s2 : Nat} {f g : (Nat → Int32) → Int32} {ls : Bool} (A : SB F s s1 f) (h1 : F s1 = Int32.ofNat ((bif ls then 2 else 3) + 16 * 0)) (B : SB F (s1 + 1) s2 g) (h2 : F s2 = Int32.ofNat (4 + 16 * 0)) (hs : s ≤ s1) (hs2 : s1 < s2) : Blk F s (s2 + 1) (fun v => bif ls then decide (f v < g v) else decide (g v < f v)) := by
  intro v fl il lf
  have r1 := hr_mono (A v fl il lf 0) (show s1 ≤ s2 + 1 by omega) (Nat.le_refl _) (fun i _ _ => rfl)
  have r2 := hr_mono (B v fl ls (0 + f v) 0) (show s2 ≤ s2 + 1 by omega) (Nat.le_refl _) (fun i _ _ => rfl)
  refine ⟨ls, 0 + f v, r1.trans (hr.step (kd := bif ls then 2 else 3) (nm := 0) (by simp only; omega) h1 (by cases ls <;> decide) (by omega) ?_)⟩
  have e1 : hk v (bif ls then 2 else 3) 0 (s1, fl, il, lf, 0 + f v) = (s1 + 1, fl, ls, 0 + f v, 0) := by
    cases ls <;> rfl
  rw [e1]
  refine r2.trans (hr.step (kd := 4) (nm := 0) (by simp only; omega) h2 (by omega) (by omega) ?_)
  have e2 : hk v 4 0 (s2, fl, ls, 0 + f v, 0 + g v) = (s2 + 1, bif ls then decide (f v < g v) else decide (g v < f v), ls, 0 + f v, 0) := by
    rw [Int32.zero_add, Int32.zero_add]
    rfl
  rw [e2]; exact hr.refl _
theorem k_leaf {q s d : Nat} (rc : Int32 → sy_M → sy_O) (ht : ∀ i, t i ≤ 255) (hL : L ≤ 400) (C : CS M t L q s) (hs : s ≤ q) : ER (leafc rc M) jfX12_plain M t L q s d := by
  have hqL := CS_L C
  have n1 : ¬ (Int32.ofNat 1) = (0 : Int32) := by decide
  have n0 : (Int32.ofNat 0) = (0 : Int32) := rfl
  unfold leafc
  by_cases h280 : thg t L q = 280
  · rcases c_takes (c := 280) ht C.1 (by decide) (by decide) with ⟨_, M1, a2, a3, a4, a5, a6⟩ | ⟨a1, _⟩
    rotate_left
    · exact absurd h280 a1
    have tg := ten_gt (t := t) a6
    have ng := nxt_ge (t := t) tg.2
    have ad := c_adds (M := M1) (a := 5) (b := 7) (fk_35 a4 C.2.2) (by omega)
    have a2' : jfX10_takes 280 M = sy_ri (Int32.ofNat 1) M1 := a2
    have e40 : m_add M1 s (5 + 16 * 7) 40 = rs (M 40) s (Int32.ofNat (5 + 16 * 7)) := by rw [m_add_40, a4.1 40 (by decide)]; rfl
    refine Or.inl ⟨m_add M1 s (5 + 16 * 7), nxt t L (ten t L q), s + 1, fun v => !decide (v 7 = 0), ?_, ⟨fs_ct fs_add a3, ?_, m_add_35⟩, by omega, by omega, by omega, fun i hi => ?_, ?_, a4.fl.trans fs_add.fl, ?_⟩
    · rw [a2', sy_bi_ri, if_neg n1, ad, sy_bv_rv]; rfl
    · rw [fs_1 fs_add, a5]; exact C.2.1
    · rw [e40, rs_ne _ _ (by omega)]
    · refine Blk_fact (nm := 7) ?_ (by decide)
      rw [e40, rs_at]
    · intro N v h
      have g := (RS_has (i := 20) ht h (by decide) w_last).1 h280
      refine ⟨_, ?_, g.2, fg_m11.fe⟩
      unfold jfX12_plain
      rw [g.1, sy_bi_ri, if_neg n1, g.2.2.2.2.1, h.2.2.2.2.2.1, sy_bb_t, bo_bz h.2.2.2.2.2.1]
  have t280 : jfX10_takes 280 M = sy_ri (Int32.ofNat 0) M := by
    rcases c_takes (c := 280) ht C.1 (by decide) (by decide) with ⟨a1, _⟩ | ⟨_, a2⟩
    · exact absurd a1 h280
    · exact a2
  have r280 : ∀ N v, RS N t L q v d → jfX12_has 1500006 N = sy_ri (Int32.ofNat 0) (m11 N q) ∧ RS (m11 N q) t L q v d := fun N v h => (RS_has (i := 20) ht h (by decide) w_last).2 h280
  rw [t280, sy_bi_ri, if_pos n0]
  by_cases h281 : thg t L q = 281
  · rcases c_takes (c := 281) ht C.1 (by decide) (by decide) with ⟨_, M1, a2, a3, a4, a5, a6⟩ | ⟨a1, _⟩
    rotate_left
    · exact absurd h281 a1
    have tg := ten_gt (t := t) a6
    have ng := nxt_ge (t := t) tg.2
    have ad := c_adds (M := M1) (a := 5) (b := 8) (fk_35 a4 C.2.2) (by omega)
    have a2' : jfX10_takes 281 M = sy_ri (Int32.ofNat 1) M1 := a2
    have e40 : m_add M1 s (5 + 16 * 8) 40 = rs (M 40) s (Int32.ofNat (5 + 16 * 8)) := by rw [m_add_40, a4.1 40 (by decide)]; rfl
    refine Or.inl ⟨m_add M1 s (5 + 16 * 8), nxt t L (ten t L q), s + 1, fun v => !decide (v 8 = 0), ?_, ⟨fs_ct fs_add a3, ?_, m_add_35⟩, by omega, by omega, by omega, fun i hi => ?_, ?_, a4.fl.trans fs_add.fl, ?_⟩
    · rw [a2', sy_bi_ri, if_neg n1, ad, sy_bv_rv]; rfl
    · rw [fs_1 fs_add, a5]; exact C.2.1
    · rw [e40, rs_ne _ _ (by omega)]
    · refine Blk_fact (nm := 8) ?_ (by decide)
      rw [e40, rs_at]
    · intro N v h
      have g0 := r280 N v h
      have g := (RS_has (i := 21) ht g0.2 (by decide) w_cold).1 h281
      refine ⟨_, ?_, g.2, fg_m11.fe.trans fg_m11.fe⟩
      unfold jfX12_plain
      rw [g0.1, sy_bi_ri, if_pos n0, g.1, sy_bi_ri, if_neg n1, g.2.2.2.2.2.1, h.2.2.2.2.2.2.1, sy_bb_t, bo_bz h.2.2.2.2.2.2.1]
  have t281 : jfX10_takes 281 M = sy_ri (Int32.ofNat 0) M := by
    rcases c_takes (c := 281) ht C.1 (by decide) (by decide) with ⟨a1, _⟩ | ⟨_, a2⟩
    · exact absurd a1 h281
    · exact a2
  rw [t281, sy_bi_ri, if_pos n0]
  have rp : ∀ N v, RS N t L q v d → ∃ N1, RS N1 t L q v d ∧ fe N N1 ∧ jfX12_plain N = (sy_bi (jfX12_sum N1) fun v6 M5 => if (M5 121 12) = (-1) then sy_bi (jfX12_isSign 60 M5) fun v8 M7 => if v8 = 0 then sy_bi (jfX12_isSign 62 M7) fun v10 M9 => if v10 = 0 then sy_bv (jfX12_wrong (M9 121 11) M9) fun M11 => sy_ri 0 M11 else jfX12_plain_73 v6 v8 M9 else jfX12_plain_73 v6 v8 M7 else sy_ri 0 M5) := by
    intro N v h
    have g0 := r280 N v h
    have g := (RS_has (i := 21) ht g0.2 (by decide) w_cold).2 h281
    refine ⟨_, g.2, fg_m11.fe.trans fg_m11.fe, ?_⟩
    unfold jfX12_plain
    rw [g0.1, sy_bi_ri, if_pos n0, g.1, sy_bi_ri, if_pos n0]
  rcases k_sum (d := d) ht hL C (by omega) with ⟨M1, q1, s1, sv, a1, a2, a3, a4, a5, a6, a7, a8, a9⟩ | ⟨M1, w, a1, a2, a3, a4, a5⟩
  rotate_left
  · obtain ⟨M2, b1, b2⟩ := c_193 (M := M1) rc
    refine Or.inr ⟨M2, w, ?_, ?_, a3, a4.trans b2.fl, ?_⟩
    · rw [a1, sy_bi_ri, if_pos n0, b1]
    · rw [fs_1 b2]; exact a2
    · intro N v h
      obtain ⟨N1, r1, r2, r3⟩ := rp N v h
      obtain ⟨x, N2, r4, r5, r6⟩ := a5 N1 v r1
      refine ⟨false, N2, ?_, r5, r2.trans r6⟩
      rw [r3, r4, sy_bi_ri, if_neg (show ¬ N2 121 12 = -1 from RX_x r5)]
      rfl
  rw [a1, sy_bi_ri, if_neg n1]
  have hq1 := CS_L a2
  -- the sign between
  have fin : ∀ (ls : Bool) (M2 M3 : sy_M), (thg t L q1 = bif ls then 60 else 62) → fk M1 M2 → ct M2 t L (nxt t L (q1 + 1)) → M2 1 7 = -(Int32.ofNat 1) → q1 < L → M3 = m_add M2 s1 (Int32.ofNat ((bif ls then 2 else 3) + 16 * 0)) → ER (sy_bi (jfX5_readSum M3) fun v14 M13 => if v14 = 0 then jfX5_readAtom_193 rc M13 else jfX5_readAtom_194 rc 1 M13) jfX12_plain M t L q s d := by
    intro ls M2 M3 hls f2 ct2 w2 hq1L h3
    have ng := nxt_ge (t := t) (L := L) (q := q1 + 1) (by omega)
    have fs3 : fs M2 M3 := by rw [h3]; exact fs_add
    have C3 : CS M3 t L (nxt t L (q1 + 1)) (s1 + 1) := ⟨fs_ct fs3 ct2, by rw [fs_1 fs3]; exact w2, by rw [h3, m_add_35]⟩
    have e340 : M3 40 = rs (M1 40) s1 (Int32.ofNat ((bif ls then 2 else 3) + 16 * 0)) := by rw [h3, m_add_40, f2.1 40 (by decide)]
    -- the reference
    have rr : ∀ N v, RS N t L q v d → ∃ N1, RS N1 t L (nxt t L (q1 + 1)) v d ∧ fe N N1 ∧ jfX12_plain N = sy_bi (jfX12_sum N1) fun v3 M2 => bif ls then (if sv v < v3 then sy_ri 1 M2 else sy_ri 0 M2) else (if v3 < sv v then sy_ri 1 M2 else sy_ri 0 M2) := by
      intro N v h
      obtain ⟨N1, r1, r2, r3⟩ := rp N v h
      obtain ⟨N2, r4, r5, r6⟩ := a9 N1 v r1
      cases ls
      · have h62 : thg t L q1 = 62 := hls
        have g0 := (RS_sign (c := 60) ht r5 (by decide) (by decide) (by decide)).2 (by omega)
        have g1 := (RS_sign (c := 62) ht g0.2 (by decide) (by decide) (by decide)).1 h62
        have g01 : jfX12_isSign 60 N2 = sy_ri (Int32.ofNat 0) (m11 N2 q1) := g0.1
        have g11 : jfX12_isSign 62 (m11 N2 q1) = sy_ri (Int32.ofNat 1) (m11 (m11 N2 q1) q1) := g1.1
        refine ⟨_, g1.2.2.2, ((r2.trans r6).trans fg_m11.fe).trans fg_m11.fe, ?_⟩
        rw [r3, r4, sy_bi_ri, r5.1, if_pos (show (-(Int32.ofNat 1) : Int32) = -1 from rfl), g01, sy_bi_ri, if_pos n0, g11, sy_bi_ri, if_neg n1]
        unfold jfX12_plain_73
        simp only
        rw [g1.2.1]
        simp only [if_pos n0, cond_false]
      · have h60 : thg t L q1 = 60 := hls
        have g0 := (RS_sign (c := 60) ht r5 (by decide) (by decide) (by decide)).1 h60
        have g01 : jfX12_isSign 60 N2 = sy_ri (Int32.ofNat 1) (m11 N2 q1) := g0.1
        refine ⟨_, g0.2.2.2, (r2.trans r6).trans fg_m11.fe, ?_⟩
        rw [r3, r4, sy_bi_ri, r5.1, if_pos (show (-(Int32.ofNat 1) : Int32) = -1 from rfl), g01, sy_bi_ri, if_neg n1]
        unfold jfX12_plain_73
        simp only
        rw [g0.2.1]
        simp only [if_neg n1, cond_true]
    rcases k_sum (d := d) ht hL C3 (by omega) with ⟨M4, q4, s4, sw, b1, b2, b3, b4, b5, b6, b7, b8, b9⟩ | ⟨M4, w, b1, b2, b3, b4, b5⟩
    · have hq4 := CS_L b2
      have ad := c_adds (M := M4) (a := 4) (b := 0) b2.2.2 (by omega)
      generalize h5 : m_add M4 s4 (4 + 16 * 0) = M5 at ad
      have fs5 : fs M4 M5 := by rw [← h5]; exact fs_add
      have e540 : M5 40 = rs (M4 40) s4 (Int32.ofNat (4 + 16 * 0)) := by rw [← h5, m_add_40]; rfl
      have lo : ∀ i, i < s4 → M5 40 i = M4 40 i := fun i hi => by rw [e540, rs_ne _ _ (by omega)]
      refine Or.inl ⟨M5, q4, s4 + 1, fun v => bif ls then decide (sv v < sw v) else decide (sw v < sv v), ?_, ⟨fs_ct fs5 b2.1, by rw [fs_1 fs5]; exact b2.2.1, by rw [← h5, m_add_35]⟩, by omega, by omega, by omega, fun i hi => ?_, Blk_cmp (SB_congr a7 (fun i _ hi => ?_)) ?_ (SB_congr b7 (fun i _ hi => lo i hi)) ?_ (by omega) (by omega), ((a8.trans f2.fl).trans fs3.fl).trans (b8.trans fs5.fl), ?_⟩
      · rw [b1, sy_bi_ri, if_neg n1]
        unfold jfX5_readAtom_194
        rw [ad, sy_bv_rv]
        rfl
      · rw [lo i (by omega), b6 i (by omega), e340, rs_ne _ _ (by omega)]; exact a6 i hi
      · rw [lo i (by omega), b6 i (by omega), e340, rs_ne _ _ (by omega)]
      · rw [lo s1 (by omega), b6 s1 (by omega), e340, rs_at]
      · rw [e540, rs_at]
      · intro N v h
        obtain ⟨N1, r1, r2, r3⟩ := rr N v h
        obtain ⟨N2, r4, r5, r6⟩ := b9 N1 v r1
        refine ⟨N2, ?_, r5, r2.trans r6⟩
        rw [r3, r4, sy_bi_ri]
        cases ls
        · show (if sw v < sv v then sy_ri 1 N2 else sy_ri 0 N2) = sy_ri (bz (decide (sw v < sv v))) N2
          by_cases hc : sw v < sv v
          · rw [if_pos hc, decide_eq_true hc]; rfl
          · rw [if_neg hc, decide_eq_false hc]; rfl
        · show (if sv v < sw v then sy_ri 1 N2 else sy_ri 0 N2) = sy_ri (bz (decide (sv v < sw v))) N2
          by_cases hc : sv v < sw v
          · rw [if_pos hc, decide_eq_true hc]; rfl
          · rw [if_neg hc, decide_eq_false hc]; rfl
    · obtain ⟨M5, c1, c2⟩ := c_193 (M := M4) rc
      refine Or.inr ⟨M5, w, ?_, ?_, b3, ((a8.trans f2.fl).trans fs3.fl).trans (b4.trans c2.fl), ?_⟩
      · rw [b1, sy_bi_ri, if_pos n0, c1]
      · rw [fs_1 c2]; exact b2
      · intro N v h
        obtain ⟨N1, r1, r2, r3⟩ := rr N v h
        obtain ⟨x, N2, r4, r5, r6⟩ := b5 N1 v r1
        cases ls
        · refine ⟨decide (x < sv v), N2, ?_, r5, r2.trans r6⟩
          rw [r3, r4, sy_bi_ri]
          show (if x < sv v then sy_ri 1 N2 else sy_ri 0 N2) = _
          by_cases hc : x < sv v
          · rw [if_pos hc, decide_eq_true hc]; rfl
          · rw [if_neg hc, decide_eq_false hc]; rfl
        · refine ⟨decide (sv v < x), N2, ?_, r5, r2.trans r6⟩
          rw [r3, r4, sy_bi_ri]
          show (if sv v < x then sy_ri 1 N2 else sy_ri 0 N2) = _
          by_cases hc : sv v < x
          · rw [if_pos hc, decide_eq_true hc]; rfl
          · rw [if_neg hc, decide_eq_false hc]; rfl
  by_cases h60 : thg t L q1 = 60
  · rcases c_takes (c := 60) ht a2.1 (by decide) (by decide) with ⟨_, M2, b2, b3, b4, b5, b6⟩ | ⟨b1, _⟩
    rotate_left
    · exact absurd h60 b1
    have te : ten t L q1 = q1 + 1 := by
      have w := (thg_sign (t := t) (q := q1) (c := 60) ht hq1 (by decide) (by decide) (by decide)).mp h60
      exact ten_sign (by rw [w.2]; decide) (by rw [w.2]; decide)
    rw [te] at b3
    have ad := c_adds (M := M2) (a := 2) (b := 0) (fk_35 b4 a2.2.2) (by omega)
    have b2' : jfX10_takes 60 M1 = sy_ri (Int32.ofNat 1) M2 := b2
    have ro : jfX5_readOrder M1 = sy_ri (Int32.ofNat 1) (m_add M2 s1 (2 + 16 * 0)) := by
      unfold jfX5_readOrder jfX5_readOrder_23
      rw [b2', sy_bi_ri, if_neg n1, ad, sy_bv_rv, if_neg n1]
      rfl
    rw [ro, sy_bi_ri, if_neg n1]
    exact fin true M2 _ h60 b4 b3 (b5.trans a2.2.1) b6 rfl
  have t60 : jfX10_takes 60 M1 = sy_ri (Int32.ofNat 0) M1 := by
    rcases c_takes (c := 60) ht a2.1 (by decide) (by decide) with ⟨b1, _⟩ | ⟨_, b2⟩
    · exact absurd b1 h60
    · exact b2
  -- no less: the step is there before the sign is taken
  have ad := c_adds (M := M1) (a := 3) (b := 0) a2.2.2 (by omega)
  generalize hM2 : m_add M1 s1 (3 + 16 * 0) = M2 at ad
  have fs2 : fs M1 M2 := by rw [← hM2]; exact fs_add
  have ct2 : ct M2 t L q1 := fs_ct fs2 a2.1
  by_cases h62 : thg t L q1 = 62
  · rcases c_takes (c := 62) ht ct2 (by decide) (by decide) with ⟨_, M3, b2, b3, b4, b5, b6⟩ | ⟨b1, _⟩
    rotate_left
    · exact absurd h62 b1
    have te : ten t L q1 = q1 + 1 := by
      have w := (thg_sign (t := t) (q := q1) (c := 62) ht hq1 (by decide) (by decide) (by decide)).mp h62
      exact ten_sign (by rw [w.2]; decide) (by rw [w.2]; decide)
    rw [te] at b3
    have b2' : jfX10_takes 62 M2 = sy_ri (Int32.ofNat 1) M3 := b2
    have ro : jfX5_readOrder M1 = sy_ri (Int32.ofNat 1) M3 := by
      unfold jfX5_readOrder jfX5_readOrder_23
      rw [t60, sy_bi_ri, if_pos n0, ad, sy_bv_rv, if_pos n0, b2', sy_bi_ri, if_neg n1]
      rfl
    rw [ro, sy_bi_ri, if_neg n1]
    -- the same memory, the other way about
    have sw0 : M3 = m_add (syc M1 1 (M3 1)) s1 (3 + 16 * 0) := by
      funext a
      by_cases h1 : a = 1
      · subst h1
        rw [fs_1 fs_add, syc_at]
      · rw [b4.1 a h1, ← hM2]
        unfold m_add
        by_cases h35 : a = 35
        · subst h35; rw [syc_at, syc_at, syc_ne _ _ (show (35 : Nat) ≠ 1 by decide)]
        · rw [syc_ne _ _ h35, syc_ne _ _ h35]
          by_cases h40 : a = 40
          · subst h40; rw [syc_at, syc_at, syc_ne _ _ (show (40 : Nat) ≠ 1 by decide)]
          · rw [syc_ne _ _ h40, syc_ne _ _ h40, syc_ne _ _ h1]
    have fkx : fk M1 (syc M1 1 (M3 1)) := ⟨fun a h => syc_ne _ _ h, by rw [syc_at, b4.2, fs_1 fs2]⟩
    refine fin false (syc M1 1 (M3 1)) M3 h62 fkx (ct_congr b3 (fun a ha => ?_)) ?_ b6 sw0
    · by_cases h1 : a = 1
      · subst h1; rw [syc_at]
      · rw [syc_ne _ _ h1, b4.1 a h1, fs2.1 a (by omega) (by omega)]
    · rw [syc_at, b5, fs_1 fs2]; exact a2.2.1
  · have t62 : jfX10_takes 62 M2 = sy_ri (Int32.ofNat 0) M2 := by
      rcases c_takes (c := 62) ht ct2 (by decide) (by decide) with ⟨b1, _⟩ | ⟨_, b2⟩
      · exact absurd b1 h62
      · exact b2
    obtain ⟨M3, b1, b2, b3⟩ := c_fails ct2
    have ro : jfX5_readOrder M1 = sy_ri (Int32.ofNat 0) M3 := by
      unfold jfX5_readOrder jfX5_readOrder_23
      rw [t60, sy_bi_ri, if_pos n0, ad, sy_bv_rv, if_pos n0, t62, sy_bi_ri, if_pos n0, b1, sy_bi_ri, if_pos n0]
      rfl
    obtain ⟨M4, c1, c2⟩ := c_193 (M := M3) rc
    refine Or.inr ⟨M4, q1, ?_, ?_, hq1, (a8.trans fs2.fl).trans (b3.fl.trans c2.fl), ?_⟩
    · rw [ro, sy_bi_ri, if_pos n0, c1]
    · rw [fs_1 c2]; exact b2
    · intro N v h
      obtain ⟨N1, r1, r2, r3⟩ := rp N v h
      obtain ⟨N2, r4, r5, r6⟩ := a9 N1 v r1
      have g0 := (RS_sign (c := 60) ht r5 (by decide) (by decide) (by decide)).2 h60
      have g1 := (RS_sign (c := 62) ht g0.2 (by decide) (by decide) (by decide)).2 h62
      have g01 : jfX12_isSign 60 N2 = sy_ri (Int32.ofNat 0) (m11 N2 q1) := g0.1
      have g11 : jfX12_isSign 62 (m11 N2 q1) = sy_ri (Int32.ofNat 0) (m11 (m11 N2 q1) q1) := g1.1
      obtain ⟨w1, w2, w3⟩ := RS_wrong g1.2 (by unfold m11; rw [syc_at, rs_at])
      refine ⟨false, _, ?_, w2, (((r2.trans r6).trans fg_m11.fe).trans fg_m11.fe).trans w3⟩
      rw [r3, r4, sy_bi_ri, r5.1, if_pos (show (-(Int32.ofNat 1) : Int32) = -1 from rfl), g01, sy_bi_ri, if_pos n0, g11, sy_bi_ri, if_pos n0, w1, sy_bv_rv]
      rfl
end
