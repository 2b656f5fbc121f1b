/-! ===== not, parentheses: as deep as they go ===== -/
section
variable {M N : sy_M} {t : Nat → Nat} {L : Nat}
def m13 (N : sy_M) (d : Nat) : sy_M := syc N 121 (rs (N 121) 13 (Int32.ofNat d))
theorem fe_m13 {N : sy_M} {d : Nat} : fe N (m13 N d) := ⟨fun a h => syc_ne _ _ h, fun j _ _ h => by unfold m13; rw [syc_at, rs_ne _ _ h]⟩
theorem m13_j {N : sy_M} {d j : Nat} (h : j ≠ 13) : m13 N d 121 j = N 121 j := by unfold m13; rw [syc_at, rs_ne _ _ h]
theorem m13_13 {N : sy_M} {d : Nat} : m13 N d 121 13 = Int32.ofNat d := by unfold m13; rw [syc_at, rs_at]
theorem rt_13 {p d : Nat} (h : rt N t L p) : rt (m13 N d) t L p := by
  obtain ⟨a, b, c, e, f⟩ := h
  refine ⟨(m13_j (by decide)).trans a, (m13_j (by decide)).trans b, c, e, ?_⟩
  rcases f with ⟨e1, e2⟩ | ⟨e1, e2⟩
  · exact Or.inl ⟨(m13_j (by decide)).trans e1, fun i hi => by rw [fe_m13.1 126 (by decide)]; exact e2 i hi⟩
  · exact Or.inr ⟨(m13_j (by decide)).trans e1, fun i hi => by rw [fe_m13.1 122 (by decide)]; exact e2 i hi⟩
theorem RS_13 {q d d1 : Nat} {v : Nat → Int32} (h : RS N t L q v d) : RS (m13 N d1) t L q v d1 := by
  obtain ⟨h1, ⟨p0, h2, h3, h4⟩, h5, h6, h7, h8, h9, h10⟩ := h
  exact ⟨(m13_j (by decide)).trans h1, ⟨p0, rt_13 h2, h3, h4⟩, fun i hi => by rw [fe_m13.1 127 (by decide)]; exact h5 i hi, (m13_j (by decide)).trans h6, (m13_j (by decide)).trans h7, h8, h9, m13_13⟩
theorem up13 {d1 : Nat} {x : Int32} (h : x = Int32.ofNat d1) : sy_upd N 121 13 x = m13 N d1 := by
  rw [h, sy_upd_st]; rfl
theorem rt_13z {p : Nat} {z : Int32} (h : rt N t L p) : rt (sy_upd N 121 13 z) t L p := by
  rw [sy_upd_st]
  have j : ∀ j, j ≠ 13 → (syc N 121 (rs (N 121) 13 z)) 121 j = N 121 j := fun j hj => by rw [syc_at, rs_ne _ _ hj]
  obtain ⟨a, b, c, e, f⟩ := h
  refine ⟨(j _ (by decide)).trans a, (j _ (by decide)).trans b, c, e, ?_⟩
  rcases f with ⟨e1, e2⟩ | ⟨e1, e2⟩
  · exact Or.inl ⟨(j _ (by decide)).trans e1, fun i hi => by rw [syc_ne _ _ (by decide)]; exact e2 i hi⟩
  · exact Or.inr ⟨(j _ (by decide)).trans e1, fun i hi => by rw [syc_ne _ _ (by decide)]; exact e2 i hi⟩
theorem fe_13z {N : sy_M} {z : Int32} : fe N (sy_upd N 121 13 z) := by
  rw [sy_upd_st]
  exact ⟨fun a h => syc_ne _ _ h, fun j _ _ h => by rw [syc_at, rs_ne _ _ h]⟩
theorem u13_12 {N : sy_M} {z : Int32} : sy_upd N 121 13 z 121 12 = N 121 12 := by
  rw [sy_upd_st, syc_at, rs_ne _ _ (by decide)]
/-- behind a fault, one less deep -/
theorem m_84x {rc : sy_M → sy_O} {w d : Nat} (b : Bool) (h : RX N t L w (d + 1)) : ∃ b1 N1, (if bz b = 0 then jfX12_atom_84 rc 1 N else jfX12_atom_84 rc 0 N) = sy_ri (bz b1) N1 ∧ RX N1 t L w d ∧ fe N N1 := by
  obtain ⟨h1, h2, p, h3, h4⟩ := h
  refine ⟨!b, sy_upd N 121 13 (N 121 13 - 1), ?_, ⟨u13_12.trans h1, h2, p, rt_13z h3, by omega⟩, fe_13z⟩
  unfold jfX12_atom_84 jfX12_atom_138
  cases b <;> rfl
theorem m_128x {rc : sy_M → sy_O} {w d : Nat} (b : Bool) (hd : d < 6) (h : RX N t L w (d + 1)) : ∃ N1, jfX12_atom_128 rc (bz b) N = sy_ri (bz b) N1 ∧ RX N1 t L w d ∧ fe N N1 := by
  obtain ⟨h1, h2, p, h3, h4⟩ := h
  have := rt_le h3
  have e : sy_upd N 121 11 (N 121 11 + 1) = m11 N (p + 1) := by
    rw [h3.2.1, show Int32.ofNat p + 1 = Int32.ofNat (p + 1) from zadd p 1, sy_upd_st]; rfl
  refine ⟨sy_upd (m11 N (p + 1)) 121 13 (m11 N (p + 1) 121 13 - 1), ?_, ⟨u13_12.trans (m11_12.trans h1), h2, p + 1, rt_13z (rt_11 h3 (by omega)), by omega⟩, fg_m11.fe.trans fe_13z⟩
  unfold jfX12_atom_128 jfX12_atom_138
  simp only
  rw [e]
  cases b <;> rfl
theorem m_128 {rc : sy_M → sy_O} {q d : Nat} {v : Nat → Int32} (b : Bool) (h : RS N t L q v (d + 1)) (hq : q < L) (h11 : N 121 11 = Int32.ofNat q) : ∃ N1, jfX12_atom_128 rc (bz b) N = sy_ri (bz b) N1 ∧ RS N1 t L (nxt t L (q + 1)) v d ∧ fe N N1 := by
  have e : sy_upd N 121 11 (N 121 11 + 1) = m11 N (q + 1) := by
    rw [h11, show Int32.ofNat q + 1 = Int32.ofNat (q + 1) from zadd q 1, sy_upd_st]; rfl
  have r1 := RS_11 (p := q + 1) (q1 := nxt t L (q + 1)) h (by omega) rfl
  have e2 : m11 N (q + 1) 121 13 - 1 = Int32.ofNat d := by rw [r1.2.2.2.2.2.2.2, show (1 : Int32) = (Int32.ofNat 1) from rfl, zsub (by omega), Nat.add_sub_cancel]
  refine ⟨m13 (m11 N (q + 1)) d, ?_, RS_13 r1, fg_m11.fe.trans fe_m13⟩
  unfold jfX12_atom_128 jfX12_atom_138
  simp only
  rw [e, up13 e2]
  cases b <;> rfl
theorem Blk_not {F : Nat → Int32} {s s1 : Nat} {mn : (Nat → Int32) → Bool} (B : Blk F s s1 mn) (h : F s1 = Int32.ofNat (6 + 16 * 0)) : Blk F s (s1 + 1) (fun v => !mn v) := by
  intro v fl il lf
  obtain ⟨il', lf', r⟩ := B v fl il lf
  refine ⟨il', lf', (hr_mono r (show s1 ≤ s1 + 1 by omega) (Nat.le_refl _) (fun i _ _ => rfl)).trans (hr.step (kd := 6) (nm := 0) (by simp only; omega) h (by omega) (by omega) ?_)⟩
  exact hr.refl _
theorem k_atom (ht : ∀ i, t i ≤ 255) (hL : L ≤ 400) : ∀ (n d : Nat) (M : sy_M) (q s : Nat), d ≤ 6 → 7 ≤ n + d → CS M t L q s → s ≤ q → ER (jfX5_readAtom n (Int32.ofNat d) M) (jfX12_atom n) M t L q s d := by
  intro n
  induction n with
  | zero => intro d M q s h1 h2; omega
  | succ n ih =>
    intro d M q s hd hn C hs
    have hqL := CS_L C
    have te := thg_end (t := t) ht hqL
    have n1 : ¬ (Int32.ofNat 1) = (0 : Int32) := by decide
    have n0 : (Int32.ofNat 0) = (0 : Int32) := rfl
    have mo : (-(Int32.ofNat 1) : Int32) = -1 := rfl
    -- the reference, up to the sign
    have r0 : ∀ N v, RS N t L q v d → ∃ N1, RS N1 t L q v d ∧ rt N1 t L q ∧ fe N N1 ∧ jfX12_atom (n + 1) N = sy_bi (jfX12_has 1500005 N1) fun v4 M3 => if v4 = 0 then sy_bi (jfX12_isSign 40 M3) fun v6 M5 => if v6 = 0 then sy_bi (jfX12_plain M5) fun v8 M7 => sy_bb (sy_bo v8) <| sy_ri v8 M7 else jfX12_atom_40 (jfX12_atom n) (Int32.ofNat q) v4 M5 else jfX12_atom_40 (jfX12_atom n) (Int32.ofNat q) v4 M3 := by
      intro N v h
      obtain ⟨a1, a2, a3, a4⟩ := RS_skip ht h
      refine ⟨_, a2, a3, a4, ?_⟩
      show jgX12_atom (jfX12_atom n) N = _
      unfold jgX12_atom jfX12_here
      rw [h.1, if_pos mo, a1, sy_bv_rv, sy_bi_ri, a3.2.1]
    have thc : jfX10_thing M = sy_ri (Int32.ofNat (thg t L q)) M := c_thing C.1
    by_cases h279 : thg t L q = 279
    · -- not
      have rn : ∀ N v, RS N t L q v d → ∃ N1, RS N1 t L (nxt t L (ten t L q)) v d ∧ rt N1 t L (ten t L q) ∧ fe N N1 ∧ jfX12_atom (n + 1) N = jfX12_atom_40 (jfX12_atom n) (Int32.ofNat q) (Int32.ofNat 1) N1 := by
        intro N v h
        obtain ⟨N1, a1, a2, a3, a4⟩ := r0 N v h
        have g := (RS_has (i := 19) ht a1 (by decide) w_not).1 h279
        have tw := ten_word (i := 19) ht hqL (by decide) h279
        have tg := ten_gt (t := t) tw.2
        exact ⟨_, g.2, rt_11 a2 (by omega), a3.trans fg_m11.fe, by rw [a4, g.1, sy_bi_ri, if_neg n1]⟩
      have tw := ten_word (i := 19) ht hqL (by decide) h279
      have lw : (wds.getD 19 []).length = 3 := rfl
      have tg := ten_gt (t := t) tw.2
      have ng := nxt_ge (t := t) tg.2
      by_cases h6 : d = 6
      · obtain ⟨M1, b1, b2, b3⟩ := c_fails C.1
        refine Or.inr ⟨M1, q, ?_, b2, hqL, b3.fl, ?_⟩
        · show jgX5_readAtom (jfX5_readAtom n) (Int32.ofNat d) M = _
          unfold jgX5_readAtom jfX5_readAtom_21
          rw [thc, sy_bi_ri, h279, if_pos (show Int32.ofNat 279 = 279 from rfl), h6, if_neg (show ¬ (Int32.ofNat 6 : Int32) < 6 by decide), b1, sy_bi_ri]
          rfl
        · intro N v h
          obtain ⟨N1, a1, a2, a3, a4⟩ := rn N v h
          refine ⟨false, m12 N1 q, ?_, ⟨m12_12, hqL, _, rt_12 a2, by omega⟩, a3.trans fg_m12.fe⟩
          rw [a4]
          unfold jfX12_atom_40
          rw [a1.2.2.2.2.2.2.2, h6, if_pos (show (Int32.ofNat 6 : Int32) = 6 from rfl), m_wrong a1.1, sy_bv_rv]
          rfl
      · rcases c_takes (c := 279) ht C.1 (by decide) (by decide) with ⟨_, M1, a2, a3, a4, a5, a6⟩ | ⟨a1, _⟩
        rotate_left
        · exact absurd h279 a1
        have a2' : jfX10_takes 279 M = sy_ri (Int32.ofNat 1) M1 := a2
        have C1 : CS M1 t L (nxt t L (ten t L q)) s := ⟨a3, a5.trans C.2.1, fk_35 a4 C.2.2⟩
        have cl : jfX5_readAtom (n + 1) (Int32.ofNat d) M = sy_bi (jfX5_readAtom n (Int32.ofNat (d + 1)) M1) fun v24 M23 => sy_bv (jfX4_add 35 6 0 M23) fun M25 => sy_bb (sy_bo v24) <| sy_ri v24 M25 := by
          show jgX5_readAtom (jfX5_readAtom n) (Int32.ofNat d) M = _
          unfold jgX5_readAtom jfX5_readAtom_21 jfX5_readAtom_35
          rw [thc, sy_bi_ri, h279, if_pos (show Int32.ofNat 279 = 279 from rfl), if_pos (show Int32.ofNat d < 6 from (zlt (b := 6) (by omega) (by decide)).mpr (by omega)), a2', sy_bi_ri, if_neg n1, show Int32.ofNat d + 1 = Int32.ofNat (d + 1) from zadd d 1]
        have ra : ∀ N v, RS N t L q v d → ∃ N1, RS N1 t L (nxt t L (ten t L q)) v (d + 1) ∧ fe N N1 ∧ jfX12_atom (n + 1) N = sy_bi (jfX12_atom n N1) fun v9 M8 => if v9 = 0 then jfX12_atom_84 (jfX12_atom n) 1 M8 else jfX12_atom_84 (jfX12_atom n) 0 M8 := by
          intro N v h
          obtain ⟨N1, a1, a2, a3, a4⟩ := rn N v h
          refine ⟨m13 N1 (d + 1), RS_13 a1, a3.trans fe_m13, ?_⟩
          rw [a4]
          unfold jfX12_atom_40
          rw [a1.2.2.2.2.2.2.2, if_neg (show ¬ Int32.ofNat d = 6 from fun z => h6 ((zeq (b := 6) (by omega) (by decide)).mp z))]
          simp only
          rw [up13 (show Int32.ofNat d + 1 = Int32.ofNat (d + 1) from zadd d 1), if_neg n1]
        have r84 : ∀ (b : Bool) (N2 : sy_M), N2 121 13 = Int32.ofNat (d + 1) → (if bz b = 0 then jfX12_atom_84 (jfX12_atom n) 1 N2 else jfX12_atom_84 (jfX12_atom n) 0 N2) = sy_ri (bz (!b)) (m13 N2 d) := by
          intro b N2 h13
          have e : N2 121 13 - 1 = Int32.ofNat d := by rw [h13, show (1 : Int32) = (Int32.ofNat 1) from rfl, zsub (by omega), Nat.add_sub_cancel]
          unfold jfX12_atom_84 jfX12_atom_138
          simp only
          rw [up13 e]
          cases b <;> rfl
        rw [cl]
        rcases ih (d + 1) M1 _ s (by omega) (by omega) C1 (by omega) with ⟨M2, q2, s2, mn, b1, b2, b3, b4, b5, b6, b7, b8, b9⟩ | ⟨M2, w, b1, b2, b3, b4, b5⟩
        · have hq2 := CS_L b2
          have ad := c_adds (M := M2) (a := 6) (b := 0) b2.2.2 (by omega)
          generalize h3 : m_add M2 s2 (6 + 16 * 0) = M3 at ad
          have fs3 : fs M2 M3 := by rw [← h3]; exact fs_add
          have e340 : M3 40 = rs (M2 40) s2 (Int32.ofNat (6 + 16 * 0)) := by rw [← h3, m_add_40]; rfl
          refine Or.inl ⟨M3, q2, s2 + 1, fun v => !mn v, ?_, ⟨fs_ct fs3 b2.1, by rw [fs_1 fs3]; exact b2.2.1, by rw [← h3, m_add_35]⟩, by omega, by omega, by omega, fun i hi => ?_, Blk_not (Blk_congr b7 (fun i _ hi => ?_)) ?_, a4.fl.trans (b8.trans fs3.fl), ?_⟩
          · rw [b1, sy_bi_ri, ad, sy_bv_rv]; rfl
          · rw [e340, rs_ne _ _ (by omega), b6 i hi, a4.1 40 (by decide)]
          · rw [e340, rs_ne _ _ (by omega)]
          · rw [e340, rs_at]
          · intro N v h
            obtain ⟨N1, r1, r2, r3⟩ := ra N v h
            obtain ⟨N2, r4, r5, r6⟩ := b9 N1 v r1
            refine ⟨m13 N2 d, ?_, RS_13 r5, (r2.trans r6).trans fe_m13⟩
            rw [r3, r4, sy_bi_ri, r84 _ _ r5.2.2.2.2.2.2.2]
        · obtain ⟨M3, ad, f3⟩ := c_add_any (M := M2) 6 0
          refine Or.inr ⟨M3, w, ?_, by rw [fs_1 f3]; exact b2, b3, a4.fl.trans (b4.trans f3.fl), ?_⟩
          · rw [b1, sy_bi_ri, ad, sy_bv_rv]; rfl
          · intro N v h
            obtain ⟨N1, r1, r2, r3⟩ := ra N v h
            obtain ⟨x, N2, r4, r5, r6⟩ := b5 N1 v r1
            obtain ⟨b1', N3, r7, r8, r9⟩ := m_84x (rc := jfX12_atom n) x r5
            exact ⟨b1', N3, by rw [r3, r4, sy_bi_ri, r7], r8, (r2.trans r6).trans r9⟩
    have t279 : jfX10_takes 279 M = sy_ri (Int32.ofNat 0) M := by
      rcases c_takes (c := 279) ht C.1 (by decide) (by decide) with ⟨b1, _⟩ | ⟨_, b2⟩
      · exact absurd b1 h279
      · exact b2
    have k279 : ¬ Int32.ofNat (thg t L q) = 279 := fun z => h279 ((zeq (b := 279) (by omega) (by decide)).mp z)
    -- the reference, behind not
    have r1 : ∀ N v, RS N t L q v d → ∃ N1, RS N1 t L q v d ∧ fe N N1 ∧ jfX12_atom (n + 1) N = sy_bi (jfX12_isSign 40 N1) fun v6 M5 => if v6 = 0 then sy_bi (jfX12_plain M5) fun v8 M7 => sy_bb (sy_bo v8) <| sy_ri v8 M7 else jfX12_atom_40 (jfX12_atom n) (Int32.ofNat q) (Int32.ofNat 0) M5 := by
      intro N v h
      obtain ⟨N1, a1, a2, a3, a4⟩ := r0 N v h
      have g := (RS_has (i := 19) ht a1 (by decide) w_not).2 h279
      exact ⟨_, g.2, a3.trans fg_m11.fe, by rw [a4, g.1, sy_bi_ri, if_pos n0]⟩
    by_cases h40 : thg t L q = 40
    · have w40 := (thg_sign (t := t) (q := q) (c := 40) ht hqL (by decide) (by decide) (by decide)).mp h40
      have te40 : ten t L q = q + 1 := ten_sign (by rw [w40.2]; decide) (by rw [w40.2]; decide)
      have r2 : ∀ N v, RS N t L q v d → ∃ N1, RS N1 t L q v d ∧ N1 121 11 = Int32.ofNat q ∧ rt N1 t L q ∧ fe N N1 ∧ jfX12_atom (n + 1) N = jfX12_atom_40 (jfX12_atom n) (Int32.ofNat q) (Int32.ofNat 0) N1 := by
        intro N v h
        obtain ⟨N1, a1, a3, a4⟩ := r1 N v h
        have g := (RS_sign (c := 40) ht a1 (by decide) (by decide) (by decide)).1 h40
        have g1 : jfX12_isSign 40 N1 = sy_ri (Int32.ofNat 1) (m11 N1 q) := g.1
        obtain ⟨s1, s2, s3, s4⟩ := RS_skip ht a1
        exact ⟨_, s2, s3.2.1, s3, a3.trans fg_m11.fe, by rw [a4, g1, sy_bi_ri, if_neg n1]⟩
      by_cases h6 : d = 6
      · obtain ⟨M1, b1, b2, b3⟩ := c_fails C.1
        refine Or.inr ⟨M1, q, ?_, b2, hqL, b3.fl, ?_⟩
        · show jgX5_readAtom (jfX5_readAtom n) (Int32.ofNat d) M = _
          unfold jgX5_readAtom jfX5_readAtom_21
          rw [thc, sy_bi_ri, if_neg k279, h40, if_pos (show Int32.ofNat 40 = 40 from rfl), h6, if_neg (show ¬ (Int32.ofNat 6 : Int32) < 6 by decide), b1, sy_bi_ri]
          rfl
        · intro N v h
          obtain ⟨N1, a1, a2, a2', a3, a4⟩ := r2 N v h
          refine ⟨false, m12 N1 q, ?_, ⟨m12_12, hqL, _, rt_12 a2', by omega⟩, a3.trans fg_m12.fe⟩
          rw [a4]
          unfold jfX12_atom_40
          rw [a1.2.2.2.2.2.2.2, h6, if_pos (show (Int32.ofNat 6 : Int32) = 6 from rfl), m_wrong a1.1, sy_bv_rv]
          rfl
      · rcases c_takes (c := 40) ht C.1 (by decide) (by decide) with ⟨_, M1, a2, a3, a4, a5, a6⟩ | ⟨a1, _⟩
        rotate_left
        · exact absurd h40 a1
        have a2' : jfX10_takes 40 M = sy_ri (Int32.ofNat 1) M1 := a2
        rw [te40] at a3
        have ng := nxt_ge (t := t) (L := L) (q := q + 1) (by omega)
        have C1 : CS M1 t L (nxt t L (q + 1)) s := ⟨a3, a5.trans C.2.1, fk_35 a4 C.2.2⟩
        have cl : jfX5_readAtom (n + 1) (Int32.ofNat d) M = sy_bi (jfX5_readAny (jfX5_readAtom n) (Int32.ofNat (d + 1)) M1) fun v18 M17 => if v18 = 0 then sy_ri 0 M17 else sy_bi (jfX10_takes 41 M17) fun v20 M19 => if v20 = 0 then sy_bi (jfX10_fails M19) fun v22 M21 => if v22 = 0 then sy_ri 0 M21 else jfX5_readAtom_112 (jfX5_readAtom n) M21 else jfX5_readAtom_112 (jfX5_readAtom n) M19 := by
          show jgX5_readAtom (jfX5_readAtom n) (Int32.ofNat d) M = _
          unfold jgX5_readAtom jfX5_readAtom_21 jfX5_readAtom_35
          rw [thc, sy_bi_ri, if_neg k279, h40, if_pos (show Int32.ofNat 40 = 40 from rfl), if_pos (show Int32.ofNat d < 6 from (zlt (b := 6) (by omega) (by decide)).mpr (by omega)), t279, sy_bi_ri, if_pos n0, a2', sy_bi_ri, if_neg n1, show Int32.ofNat d + 1 = Int32.ofNat (d + 1) from zadd d 1]
        have ra : ∀ N v, RS N t L q v d → ∃ N1, RS N1 t L (nxt t L (q + 1)) v (d + 1) ∧ fe N N1 ∧ jfX12_atom (n + 1) N = sy_bi (jfX12_some (jfX12_atom n) N1) fun v4 M3 => if (M3 121 12) = (-1) then sy_bi (jfX12_isSign 41 M3) fun v6 M5 => if v6 = 0 then sy_bv (jfX12_wrong (M5 121 11) M5) fun M7 => jfX12_atom_128 (jfX12_atom n) v4 M7 else jfX12_atom_128 (jfX12_atom n) v4 M5 else jfX12_atom_128 (jfX12_atom n) v4 M3 := by
          intro N v h
          obtain ⟨N1, a1, b2, b2', b3, b4⟩ := r2 N v h
          have e13 : m13 N1 (d + 1) 121 11 = Int32.ofNat q := (m13_j (by decide)).trans b2
          have e11 : sy_upd (m13 N1 (d + 1)) 121 11 (m13 N1 (d + 1) 121 11 + 1) = m11 (m13 N1 (d + 1)) (q + 1) := by
            rw [e13, show Int32.ofNat q + 1 = Int32.ofNat (q + 1) from zadd q 1, sy_upd_st]; rfl
          refine ⟨m11 (m13 N1 (d + 1)) (q + 1), RS_11 (RS_13 a1) (by omega) rfl, (b3.trans fe_m13).trans fg_m11.fe, ?_⟩
          rw [b4]
          unfold jfX12_atom_40
          rw [a1.2.2.2.2.2.2.2, if_neg (show ¬ Int32.ofNat d = 6 from fun z => h6 ((zeq (b := 6) (by omega) (by decide)).mp z))]
          simp only
          rw [up13 (show Int32.ofNat d + 1 = Int32.ofNat (d + 1) from zadd d 1), if_pos n0, e11]
        rw [cl]
        have EA : ∀ M q s, CS M t L q s → s ≤ q → ER (jfX5_readAtom n (Int32.ofNat (d + 1)) M) (jfX12_atom n) M t L q s (d + 1) := fun M q s c h => ih (d + 1) M q s (by omega) (by omega) c h
        have EB : ∀ M q s, CS M t L q s → s ≤ q → ER (jfX5_readAll (jfX5_readAtom n) (Int32.ofNat (d + 1)) M) (jfX12_every (jfX12_atom n)) M t L q s (d + 1) := fun M q s c h => k_all ht hL EA c h
        rcases k_any ht hL EB C1 (by omega) with ⟨M2, q2, s2, mn, b1, b2, b3, b4, b5, b6, b7, b8, b9⟩ | ⟨M2, w, b1, b2, b3, b4, b5⟩
        · have hq2 := CS_L b2
          rw [b1, sy_bi_ri, if_neg n1]
          by_cases h41 : thg t L q2 = 41
          · rcases c_takes (c := 41) ht b2.1 (by decide) (by decide) with ⟨_, M3, c2, c3, c4, c5, c6⟩ | ⟨c1, _⟩
            rotate_left
            · exact absurd h41 c1
            have w41 := (thg_sign (t := t) (q := q2) (c := 41) ht hq2 (by decide) (by decide) (by decide)).mp h41
            have te41 : ten t L q2 = q2 + 1 := ten_sign (by rw [w41.2]; decide) (by rw [w41.2]; decide)
            rw [te41] at c3
            have ng2 := nxt_ge (t := t) (L := L) (q := q2 + 1) (by omega)
            have c2' : jfX10_takes 41 M2 = sy_ri (Int32.ofNat 1) M3 := c2
            have f40 : M3 40 = M2 40 := c4.1 40 (by decide)
            refine Or.inl ⟨M3, nxt t L (q2 + 1), s2, mn, ?_, ⟨c3, c5.trans b2.2.1, fk_35 c4 b2.2.2⟩, by omega, by omega, by omega, fun i hi => ?_, ?_, a4.fl.trans (b8.trans c4.fl), ?_⟩
            · rw [c2', sy_bi_ri, if_neg n1]; rfl
            · rw [f40, b6 i hi, a4.1 40 (by decide)]
            · rw [f40]; exact b7
            · intro N v h
              obtain ⟨N1, x1, x2, x3⟩ := ra N v h
              obtain ⟨N2, x4, x5, x6⟩ := b9 N1 v x1
              have g := (RS_sign (c := 41) ht x5 (by decide) (by decide) (by decide)).1 h41
              have g1 : jfX12_isSign 41 N2 = sy_ri (Int32.ofNat 1) (m11 N2 q2) := g.1
              obtain ⟨s1', s2', s3', s4'⟩ := RS_skip ht x5
              obtain ⟨N3, y1, y2, y3⟩ := m_128 (rc := jfX12_atom n) (mn v) s2' w41.1 s3'.2.1
              refine ⟨N3, ?_, y2, ((x2.trans x6).trans s4').trans y3⟩
              rw [x3, x4, sy_bi_ri, x5.1, if_pos mo, g1, sy_bi_ri, if_neg n1, y1]
          · have t41 : jfX10_takes 41 M2 = sy_ri (Int32.ofNat 0) M2 := by
              rcases c_takes (c := 41) ht b2.1 (by decide) (by decide) with ⟨c1, _⟩ | ⟨_, c2⟩
              · exact absurd c1 h41
              · exact c2
            obtain ⟨M3, c1, c2, c3⟩ := c_fails b2.1
            refine Or.inr ⟨M3, q2, ?_, c2, hq2, a4.fl.trans (b8.trans c3.fl), ?_⟩
            · rw [t41, sy_bi_ri, if_pos n0, c1, sy_bi_ri, if_pos n0]; rfl
            · intro N v h
              obtain ⟨N1, x1, x2, x3⟩ := ra N v h
              obtain ⟨N2, x4, x5, x6⟩ := b9 N1 v x1
              have g := (RS_sign (c := 41) ht x5 (by decide) (by decide) (by decide)).2 h41
              have g1 : jfX12_isSign 41 N2 = sy_ri (Int32.ofNat 0) (m11 N2 q2) := g.1
              obtain ⟨s1', s2', s3', s4'⟩ := RS_skip ht x5
              obtain ⟨w1, w2, w3⟩ := RS_wrong s2' s3'.2.1
              obtain ⟨N3, y1, y2, y3⟩ := m_128x (rc := jfX12_atom n) (mn v) (show d < 6 by omega) w2
              refine ⟨mn v, N3, ?_, y2, (((x2.trans x6).trans s4').trans w3).trans y3⟩
              rw [x3, x4, sy_bi_ri, x5.1, if_pos mo, g1, sy_bi_ri, if_pos n0, w1, sy_bv_rv, y1]
        · refine Or.inr ⟨M2, w, ?_, b2, b3, a4.fl.trans b4, ?_⟩
          · rw [b1, sy_bi_ri, if_pos n0]; rfl
          · intro N v h
            obtain ⟨N1, x1, x2, x3⟩ := ra N v h
            obtain ⟨x, N2, x4, x5, x6⟩ := b5 N1 v x1
            obtain ⟨N3, y1, y2, y3⟩ := m_128x (rc := jfX12_atom n) x (show d < 6 by omega) x5
            refine ⟨x, N3, ?_, y2, (x2.trans x6).trans y3⟩
            rw [x3, x4, sy_bi_ri, if_neg (show ¬ N2 121 12 = -1 from RX_x x5), y1]
    · -- a leaf
      have t40 : jfX10_takes 40 M = sy_ri (Int32.ofNat 0) M := by
        rcases c_takes (c := 40) ht C.1 (by decide) (by decide) with ⟨b1, _⟩ | ⟨_, b2⟩
        · exact absurd b1 h40
        · exact b2
      have cl : jfX5_readAtom (n + 1) (Int32.ofNat d) M = leafc (jfX5_readAtom n) M := by
        show jgX5_readAtom (jfX5_readAtom n) (Int32.ofNat d) M = _
        unfold jgX5_readAtom jfX5_readAtom_35
        rw [thc, sy_bi_ri, if_neg k279, if_neg (show ¬ Int32.ofNat (thg t L q) = 40 from fun z => h40 ((zeq (b := 40) (by omega) (by decide)).mp z)), t279, sy_bi_ri, if_pos n0, t40, sy_bi_ri, if_pos n0]
        rfl
      have rl : ∀ N v, RS N t L q v d → ∃ N1, RS N1 t L q v d ∧ fe N N1 ∧ jfX12_atom (n + 1) N = sy_bi (jfX12_plain N1) fun v8 M7 => sy_bb (sy_bo v8) <| sy_ri v8 M7 := by
        intro N v h
        obtain ⟨N1, a1, a3, a4⟩ := r1 N v h
        have g := (RS_sign (c := 40) ht a1 (by decide) (by decide) (by decide)).2 h40
        have g1 : jfX12_isSign 40 N1 = sy_ri (Int32.ofNat 0) (m11 N1 q) := g.1
        exact ⟨_, g.2, a3.trans fg_m11.fe, by rw [a4, g1, sy_bi_ri, if_pos n0]⟩
      rw [cl]
      rcases k_leaf (d := d) (jfX5_readAtom n) ht hL C hs with ⟨M2, q2, s2, mn, b1, b2, b3, b4, b5, b6, b7, b8, b9⟩ | ⟨M2, w, b1, b2, b3, b4, b5⟩
      · refine Or.inl ⟨M2, q2, s2, mn, b1, b2, b3, b4, b5, b6, b7, b8, ?_⟩
        intro N v h
        obtain ⟨N1, x1, x2, x3⟩ := rl N v h
        obtain ⟨N2, x4, x5, x6⟩ := b9 N1 v x1
        exact ⟨N2, by rw [x3, x4, sy_bi_ri, bz_bo, sy_bb_t], x5, x2.trans x6⟩
      · refine Or.inr ⟨M2, w, b1, b2, b3, b4, ?_⟩
        intro N v h
        obtain ⟨N1, x1, x2, x3⟩ := rl N v h
        obtain ⟨x, N2, x4, x5, x6⟩ := b5 N1 v x1
        exact ⟨x, N2, by rw [x3, x4, sy_bi_ri, bz_bo, sy_bb_t], x5, x2.trans x6⟩
end
