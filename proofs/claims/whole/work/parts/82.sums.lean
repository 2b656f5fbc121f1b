/-! ===== sums of a law, read by both ===== -/
section
variable {M N : sy_M} {t : Nat → Nat} {L : Nat}
/-- the reference stands here with these values, so deep -/
def RS (N : sy_M) (t : Nat → Nat) (L q : Nat) (v : Nat → Int32) (d : Nat) : Prop := N 121 12 = -(Int32.ofNat 1) ∧ (∃ p, rt N t L p ∧ p ≤ L ∧ nxt t L p = q) ∧ (∀ j, j < 7 → N 127 j = v j) ∧ N 121 15 = v 7 ∧ N 121 16 = v 8 ∧ sy_bo (v 7) = true ∧ sy_bo (v 8) = true ∧ N 121 13 = Int32.ofNat d
/-- the reference says that this is wrong -/
def RX (N : sy_M) (t : Nat → Nat) (L w d : Nat) : Prop := N 121 12 = Int32.ofNat w ∧ w ≤ L ∧ ∃ p, rt N t L p ∧ p ≤ L + (6 - d)
def fe (N N1 : sy_M) : Prop := (∀ a, a ≠ 121 → N1 a = N a) ∧ (∀ j, j ≠ 11 → j ≠ 12 → j ≠ 13 → N1 121 j = N 121 j)
theorem fe.trans {N N1 N2 : sy_M} (a : fe N N1) (b : fe N1 N2) : fe N N2 := ⟨fun c h => (b.1 c h).trans (a.1 c h), fun j h1 h2 h3 => (b.2 j h1 h2 h3).trans (a.2 j h1 h2 h3)⟩
theorem fe_rfl {N : sy_M} : fe N N := ⟨fun _ _ => rfl, fun _ _ _ _ => rfl⟩
theorem fg.fe {N N1 : sy_M} (h : fg N N1) : fe N N1 := ⟨h.1, fun j h1 h2 _ => h.2 j h1 h2⟩
theorem RS_11 {q q1 p d : Nat} {v : Nat → Int32} (h : RS N t L q v d) (hp : p ≤ L) (e : nxt t L p = q1) : RS (m11 N p) t L q1 v d := by
  obtain ⟨h1, ⟨p0, h2, h3, h4⟩, h5, h6, h7, h8, h9, h10⟩ := h
  have := rt_le h2
  have j : ∀ j, j ≠ 11 → m11 N p 121 j = N 121 j := fun j hj => by unfold m11; rw [syc_at, rs_ne _ _ hj]
  refine ⟨m11_12.trans h1, ⟨p, rt_11 h2 (by omega), hp, e⟩, fun i hi => by rw [fg_m11.1 127 (by decide)]; exact h5 i hi, (j 15 (by decide)).trans h6, (j 16 (by decide)).trans h7, h8, h9, (j 13 (by decide)).trans h10⟩
theorem RS_L {q d : Nat} {v : Nat → Int32} (h : RS N t L q v d) : q ≤ L ∧ L ≤ 400 ∧ nxt t L q = q := by
  obtain ⟨h1, ⟨p0, h2, h3, h4⟩, h5⟩ := h
  have g := nxt_ge (t := t) h3
  refine ⟨by omega, rt_le h2, ?_⟩
  rw [← h4]; exact nxt_nxt h3
theorem RS_skip {q d : Nat} {v : Nat → Int32} (ht : ∀ i, t i ≤ 255) (h : RS N t L q v d) : jfX12_skip N = sy_rv (m11 N q) ∧ RS (m11 N q) t L q v d ∧ rt (m11 N q) t L q ∧ fe N (m11 N q) := by
  have l := RS_L h
  have r := RS_11 (p := q) (q1 := q) h l.1 l.2.2
  obtain ⟨h1, ⟨p0, h2, h3, h4⟩, h5⟩ := h
  refine ⟨by rw [m_skip h2 ht, h4], r, rt_11 h2 (by omega), fg_m11.fe⟩
theorem RS_wrong {q d : Nat} {v : Nat → Int32} (h : RS N t L q v d) (h11 : N 121 11 = Int32.ofNat q) : jfX12_wrong (N 121 11) N = sy_rv (m12 N q) ∧ RX (m12 N q) t L q d ∧ fe N (m12 N q) := by
  have l := RS_L h
  obtain ⟨h1, ⟨p0, h2, h3, h4⟩, h5⟩ := h
  exact ⟨by rw [h11]; exact m_wrong h1, ⟨m12_12, l.1, p0, rt_12 h2, by omega⟩, fg_m12.fe⟩
theorem RX_x {w d : Nat} (h : RX N t L w d) : N 121 12 ≠ -(Int32.ofNat 1) := by
  obtain ⟨h1, h2, p, h3, h4⟩ := h
  have := rt_le h3
  rw [h1]
  exact fun z => znn w (by omega) (by rw [z]; decide)
theorem RS_has {q i r d : Nat} {v : Nat → Int32} (ht : ∀ i, t i ≤ 255) (h : RS N t L q v d) (hi : i < 25) (hw : srw r (wds.getD i [])) : (thg t L q = 260 + i → jfX12_has r N = sy_ri (Int32.ofNat 1) (m11 N (ten t L q)) ∧ RS (m11 N (ten t L q)) t L (nxt t L (ten t L q)) v d) ∧ (thg t L q ≠ 260 + i → jfX12_has r N = sy_ri (Int32.ofNat 0) (m11 N q) ∧ RS (m11 N q) t L q v d) := by
  have l := RS_L h
  have r1 := RS_11 (p := q) (q1 := q) h l.1 l.2.2
  have h0 := h
  obtain ⟨h1, ⟨p0, h2, h3, h4⟩, h5⟩ := h
  have k := m_has h2 ht hi hw h3
  rw [h4] at k
  constructor
  · intro e
    have g := (thg_word (t := t) (q := q) ht l.1 hi).2 e
    have tg := ten_gt (t := t) g.2
    rw [if_pos e] at k
    exact ⟨k, RS_11 h0 tg.2 rfl⟩
  · intro e
    rw [if_neg e] at k
    exact ⟨k, r1⟩
/-- the class stands here, with so many steps -/
def CS (M : sy_M) (t : Nat → Nat) (L q s : Nat) : Prop := ct M t L q ∧ M 1 7 = -(Int32.ofNat 1) ∧ M 35 5 = Int32.ofNat s
theorem CS_L {q s : Nat} (h : CS M t L q s) : q ≤ L := ct_le h.1
theorem fk_35 {M1 : sy_M} {s : Nat} (h : fk M M1) (e : M 35 5 = Int32.ofNat s) : M1 35 5 = Int32.ofNat s := by rw [h.1 35 (by decide)]; exact e
/-- which part a word is -/
def pw (c : Nat) : Nat := if c = 260 then 0 else if c = 261 then 1 else if c = 264 then 2 else if c = 282 then 3 else if c = 283 then 4 else if c = 284 then 5 else if c = 271 then 6 else 7
theorem pw_none {c : Nat} (h : c ≠ 260 ∧ c ≠ 261 ∧ c ≠ 264 ∧ c ≠ 282 ∧ c ≠ 283 ∧ c ≠ 284 ∧ c ≠ 271) : pw c = 7 := by
  unfold pw
  rw [if_neg (by omega), if_neg (by omega), if_neg (by omega), if_neg (by omega), if_neg (by omega), if_neg (by omega), if_neg (by omega)]
theorem pw_word {c : Nat} (h : pw c ≠ 7) : c = 260 ∧ pw c = 0 ∨ c = 261 ∧ pw c = 1 ∨ c = 264 ∧ pw c = 2 ∨ c = 282 ∧ pw c = 3 ∨ c = 283 ∧ pw c = 4 ∨ c = 284 ∧ pw c = 5 ∨ c = 271 ∧ pw c = 6 := by
  by_cases h260 : c = 260
  · exact Or.inl ⟨h260, by rw [h260]; rfl⟩
  by_cases h261 : c = 261
  · exact Or.inr (Or.inl ⟨h261, by rw [h261]; rfl⟩)
  by_cases h264 : c = 264
  · exact Or.inr (Or.inr (Or.inl ⟨h264, by rw [h264]; rfl⟩))
  by_cases h282 : c = 282
  · exact Or.inr (Or.inr (Or.inr (Or.inl ⟨h282, by rw [h282]; rfl⟩)))
  by_cases h283 : c = 283
  · exact Or.inr (Or.inr (Or.inr (Or.inr (Or.inl ⟨h283, by rw [h283]; rfl⟩))))
  by_cases h284 : c = 284
  · exact Or.inr (Or.inr (Or.inr (Or.inr (Or.inr (Or.inl ⟨h284, by rw [h284]; rfl⟩)))))
  by_cases h271 : c = 271
  · exact Or.inr (Or.inr (Or.inr (Or.inr (Or.inr (Or.inr (⟨h271, by rw [h271]; rfl⟩))))))
  exact absurd (pw_none ⟨h260, h261, h264, h282, h283, h284, h271⟩) h
theorem c_partOf {c : Nat} (hc : c < 300) : jfX5_partOf (Int32.ofNat c) M = sy_ri (if pw c = 7 then -(Int32.ofNat 1) else Int32.ofNat (pw c)) M := by
  by_cases h : pw c = 7
  · have k : ∀ b : Nat, b < 300 → c ≠ b → ¬ Int32.ofNat c = Int32.ofNat b := fun b hb h1 z => h1 ((zeq (by omega) (by omega)).mp z)
    have k260 : ¬ Int32.ofNat c = 260 := k 260 (by decide) (fun z => by rw [z] at h; exact absurd h (by decide))
    have k261 : ¬ Int32.ofNat c = 261 := k 261 (by decide) (fun z => by rw [z] at h; exact absurd h (by decide))
    have k264 : ¬ Int32.ofNat c = 264 := k 264 (by decide) (fun z => by rw [z] at h; exact absurd h (by decide))
    have k282 : ¬ Int32.ofNat c = 282 := k 282 (by decide) (fun z => by rw [z] at h; exact absurd h (by decide))
    have k283 : ¬ Int32.ofNat c = 283 := k 283 (by decide) (fun z => by rw [z] at h; exact absurd h (by decide))
    have k284 : ¬ Int32.ofNat c = 284 := k 284 (by decide) (fun z => by rw [z] at h; exact absurd h (by decide))
    have k271 : ¬ Int32.ofNat c = 271 := k 271 (by decide) (fun z => by rw [z] at h; exact absurd h (by decide))
    rw [if_pos h]
    unfold jfX5_partOf
    simp only [if_neg k260, if_neg k261, if_neg k264, if_neg k282, if_neg k283, if_neg k284, if_neg k271, ite_self]
    rfl
  · rcases pw_word h with ⟨e, _⟩ | ⟨e, _⟩ | ⟨e, _⟩ | ⟨e, _⟩ | ⟨e, _⟩ | ⟨e, _⟩ | ⟨e, _⟩ <;> subst e <;> rfl
theorem m_part52 {q d : Nat} {v : Nat → Int32} (ht : ∀ i, t i ≤ 255) (h : RS N t L q v d) (h11 : m11 N q = N) : jfX12_part_52 N = if pw (thg t L q) = 7 then jfX12_part_145 (-1) N else jfX12_part_145 (Int32.ofNat (pw (thg t L q))) (m11 N (ten t L q)) := by
  have n1 : ¬ (Int32.ofNat 1) = (0 : Int32) := by decide
  have n0 : (Int32.ofNat 0) = (0 : Int32) := rfl
  have w0 := RS_has (i := 0) ht h (by decide) w_lodger
  have w1 := RS_has (i := 1) ht h (by decide) w_burns
  have w2 := RS_has (i := 4) ht h (by decide) w_coins
  have w3 := RS_has (i := 22) ht h (by decide) w_fed
  have w4 := RS_has (i := 23) ht h (by decide) w_chill
  have w5 := RS_has (i := 24) ht h (by decide) w_dark
  have w6 := RS_has (i := 11) ht h (by decide) w_tick
  rw [h11] at w0 w1 w2 w3 w4 w5 w6
  unfold jfX12_part_52 pw
  by_cases e0 : thg t L q = 260
  · rw [(w0.1 e0).1, sy_bi_ri, if_neg n1, if_pos e0]; rfl
  rw [(w0.2 e0).1, sy_bi_ri, if_pos n0, if_neg e0]
  by_cases e1 : thg t L q = 261
  · rw [(w1.1 e1).1, sy_bi_ri, if_neg n1, if_pos e1]; rfl
  rw [(w1.2 e1).1, sy_bi_ri, if_pos n0, if_neg e1]
  by_cases e2 : thg t L q = 264
  · rw [(w2.1 e2).1, sy_bi_ri, if_neg n1, if_pos e2]; rfl
  rw [(w2.2 e2).1, sy_bi_ri, if_pos n0, if_neg e2]
  by_cases e3 : thg t L q = 282
  · rw [(w3.1 e3).1, sy_bi_ri, if_neg n1, if_pos e3]; rfl
  rw [(w3.2 e3).1, sy_bi_ri, if_pos n0, if_neg e3]
  by_cases e4 : thg t L q = 283
  · rw [(w4.1 e4).1, sy_bi_ri, if_neg n1, if_pos e4]; rfl
  rw [(w4.2 e4).1, sy_bi_ri, if_pos n0, if_neg e4]
  by_cases e5 : thg t L q = 284
  · rw [(w5.1 e5).1, sy_bi_ri, if_neg n1, if_pos e5]; rfl
  rw [(w5.2 e5).1, sy_bi_ri, if_pos n0, if_neg e5]
  by_cases e6 : thg t L q = 271
  · rw [(w6.1 e6).1, sy_bi_ri, if_neg n1, if_pos e6]; rfl
  rw [(w6.2 e6).1, sy_bi_ri, if_pos n0, if_neg e6]
  rfl
/-- what a part is worth -/
def pv (kd nm : Nat) (v : Nat → Int32) : Int32 := if kd = 0 then Int32.ofNat nm else v nm
def SB (F : Nat → Int32) (b e : Nat) (sv : (Nat → Int32) → Int32) : Prop := ∀ v fl il lf sm, hr F v e (b, fl, il, lf, sm) (e, fl, il, lf, sm + sv v)
theorem SB_one {F : Nat → Int32} {s kd nm : Nat} (h : F s = Int32.ofNat (kd + 16 * nm)) (hk0 : kd ≤ 1) (hn : nm ≤ 999) (h1 : kd = 1 → nm < 9) : SB F s (s + 1) (pv kd nm) := by
  intro v fl il lf sm
  refine hr.step (kd := kd) (nm := nm) (Nat.lt_succ_self s) h (by omega) (by omega) ?_
  rcases (show kd = 0 ∨ kd = 1 by omega) with e | e
  · subst e; exact hr.refl _
  · subst e
    have : hk v 1 nm (s, fl, il, lf, sm) = (s + 1, fl, il, lf, sm + pv 1 nm v) := by
      unfold hk pv
      simp (config := { decide := true }) only [if_true, if_false, if_pos (h1 rfl)]
    rw [this]; exact hr.refl _
theorem SB_cat {F : Nat → Int32} {a b c : Nat} {f g : (Nat → Int32) → Int32} (A : SB F a b f) (B : SB F b c g) (h : b ≤ c) : SB F a c (fun v => f v + g v) := by
  intro v fl il lf sm
  have r := hr_mono (A v fl il lf sm) h (Nat.le_refl _) (fun i _ _ => rfl)
  have r2 := B v fl il lf (sm + f v)
  rw [Int32.add_assoc] at r2
  exact r.trans r2
theorem SB_congr {F G : Nat → Int32} {b e : Nat} {f : (Nat → Int32) → Int32} (B : SB F b e f) (h : ∀ i, b ≤ i → i < e → G i = F i) : SB G b e f := fun v fl il lf sm => hr_mono (B v fl il lf sm) (Nat.le_refl _) (Nat.le_refl _) h
theorem ten_word {q i : Nat} (ht : ∀ i, t i ≤ 255) (hq : q ≤ L) (hi : i < 25) (h : thg t L q = 260 + i) : ten t L q = q + (wds.getD i []).length ∧ q < L := by
  have w := thg_word (t := t) (q := q) ht hq hi
  have w2 := w.2 h
  rw [decide_eq_true h, Bool.and_eq_true] at w
  have := Nat.eq_of_beq_eq_true w.1.1
  have tg := ten_gt (t := t) w2.2
  omega
/-- one part of a sum -/
theorem k_part {q s d i : Nat} {K : Int32 → Int32 → sy_M → sy_O} (ht : ∀ i, t i ≤ 255) (C : CS M t L q s) (hL : L ≤ 400) (hs : s < 512) (hi : i < 400) : (∃ M1 q1 kd nm, q < q1 ∧ jgX5_readSum_4 K 1 (Int32.ofNat i) M = jfX5_readSum_78 K (Int32.ofNat i) M1 ∧ CS M1 t L q1 (s + 1) ∧ M1 40 = rs (M 40) s (Int32.ofNat (kd + 16 * nm)) ∧ kd ≤ 1 ∧ nm ≤ 999 ∧ (kd = 1 → nm < 9) ∧ fl M M1 ∧ ∀ N v, RS N t L q v d → ∃ N1, jfX12_part N = sy_ri (pv kd nm v) N1 ∧ RS N1 t L q1 v d ∧ fe N N1) ∨ (∃ M1 w, jgX5_readSum_4 K 1 (Int32.ofNat i) M = jfX5_readSum_78 K (Int32.ofNat i) M1 ∧ M1 1 7 = Int32.ofNat w ∧ w ≤ L ∧ fl M M1 ∧ ∀ N v, RS N t L q v d → ∃ x N1, jfX12_part N = sy_ri x N1 ∧ RX N1 t L w d ∧ fe N N1) := by
  obtain ⟨c1, c2, c3⟩ := C
  have hq := ct_le c1
  have te := thg_end (t := t) ht hq
  have n1 : ¬ (Int32.ofNat 1) = (0 : Int32) := by decide
  have cl : jgX5_readSum_4 K 1 (Int32.ofNat i) M = if pw (thg t L q) = 7 then jfX5_readSum_59 K (Int32.ofNat i) M else sy_bi (jfX10_takes (Int32.ofNat (thg t L q)) M) fun v6 M5 => if v6 = 0 then jfX5_readSum_59 K (Int32.ofNat i) M5 else sy_bv (jfX4_add 35 1 (Int32.ofNat (pw (thg t L q))) M5) fun M7 => jfX5_readSum_78 K (Int32.ofNat i) M7 := by
    unfold jgX5_readSum_4
    rw [if_pos (show Int32.ofNat i < 400 from (zlt (b := 400) (by omega) (by decide)).mpr hi), if_neg (show ¬ (1 : Int32) = 0 by decide), c_thing c1, sy_bi_ri, c_partOf te.2, sy_bi_ri]
    by_cases e : pw (thg t L q) = 7
    · rw [if_pos e, if_pos e, if_pos (show (-(Int32.ofNat 1) : Int32) = -1 from rfl)]
    · have : pw (thg t L q) < 7 := by
        rcases pw_word e with h | h | h | h | h | h | h <;> omega
      rw [if_neg e, if_neg e, if_neg (show ¬ Int32.ofNat (pw (thg t L q)) = -1 from fun z => znn (pw (thg t L q)) (by omega) (by rw [z]; decide))]
  rw [cl]
  -- the reference, up to the first letter
  have rp : ∀ N v, RS N t L q v d → jfX12_part N = if q < L ∧ isd (t q) = true then (sy_bi (jfX12_figures 0 999 (m11 N q)) fun v7 M6 => sy_ri v7 M6) else jfX12_part_52 (m11 N q) := by
    intro N v h
    obtain ⟨r1, r2, r3, r4⟩ := RS_skip ht h
    unfold jfX12_part
    rw [h.1, if_pos (show (-(Int32.ofNat 1) : Int32) = -1 from rfl), r1, sy_bv_rv, r3.1, r3.2.1]
    by_cases e : q < L
    · have tp := ht q
      have si : sp_in (Int32.ofNat (t q)) (Int32.ofNat 48) (Int32.ofNat 57) = isd (t q) := by
        rw [sp_in_z (by omega) (by omega) (by omega), Bool.eq_iff_iff, decide_eq_true_iff, isd_iff]
      rw [if_pos ((zlt (by omega) (by omega)).mpr e), m_letter r3 e, sy_bi_ri, show (48 : Int32) = (Int32.ofNat 48) from rfl, show (57 : Int32) = (Int32.ofNat 57) from rfl, m_isIn, sy_bi_ri, si]
      cases hd : isd (t q)
      · rw [if_pos (show bz false = 0 from rfl), if_neg (fun z => by cases z.2)]
      · rw [if_neg (show ¬ bz true = 0 by decide), if_pos ⟨e, rfl⟩]
    · rw [if_neg (fun z => e ((zlt (by omega) (by omega)).mp z)), if_neg (fun z => e z.1)]
  by_cases e : pw (thg t L q) = 7
  · rw [if_pos e]
    -- a number, or a fault
    have fig : ∀ N v, RS N t L q v d → jfX12_figures (Int32.ofNat 0) (Int32.ofNat 999) (m11 N q) = jfX12_figures 0 999 (m11 N q) := fun _ _ _ => rfl
    rcases c_takesNumber (lo := 0) (hi := (Int32.ofNat 999)) ht c1 (by decide) with ⟨a1, M1, a2, a3, a4, a5⟩ | ⟨a1, M1, a2, a4, a5⟩
    · obtain ⟨n1', n2', n3'⟩ := (thg_num ht hq).mp a1.1
      have nv := nuv_le n1' n2' n3'
      have tg := ten_gt (t := t) n1'
      have ng := nxt_ge (t := t) tg.2
      have ad := c_adds (M := M1) (a := 0) (b := Int32.ofNat (nuv t L q)) (fk_35 a4 c3) hs
      refine Or.inl ⟨m_add M1 s (0 + 16 * Int32.ofNat (nuv t L q)), nxt t L (ten t L q), 0, nuv t L q, by omega, ?_, ⟨fs_ct fs_add a3, ?_, m_add_35⟩, ?_, by omega, nv, by omega, a4.fl.trans fs_add.fl, ?_⟩
      · have a2' : jfX10_takesNumber 0 999 M = sy_ri (Int32.ofNat (nuv t L q)) M1 := a2
        unfold jfX5_readSum_59
        rw [a2', sy_bi_ri, ad, sy_bv_rv]
      · rw [fs_1 fs_add, a5]; exact c2
      · rw [m_add_40, a4.1 40 (by decide)]
        congr 1
        show (Int32.ofNat 0) + (Int32.ofNat 16) * Int32.ofNat (nuv t L q) = _
        rw [zmul, zadd]
      · intro N v h
        obtain ⟨r1, r2, r3, r4⟩ := RS_skip ht h
        rw [rp N v h, if_pos ⟨n1', n2'⟩]
        rcases m_figures (lo := 0) (hi := (Int32.ofNat 999)) r3 ht hq r2.1 (by decide) with ⟨b1, b2⟩ | ⟨b1, _⟩
        · rw [(RS_L h).2.2] at b2
          have b2' : jfX12_figures 0 999 (m11 N q) = sy_ri (Int32.ofNat (nuv t L q)) (m11 (m11 N q) (ten t L q)) := b2
          exact ⟨_, by rw [b2', sy_bi_ri]; rfl, RS_11 r2 tg.2 rfl, r4.trans fg_m11.fe⟩
        · rw [(RS_L h).2.2] at b1
          exact absurd a1 b1
    · obtain ⟨M2, ad, f2⟩ := c_add_any (M := M1) 0 (-(Int32.ofNat 1))
      refine Or.inr ⟨M2, q, ?_, ?_, hq, a4.fl.trans f2.fl, ?_⟩
      · have a2' : jfX10_takesNumber 0 999 M = sy_ri (-(Int32.ofNat 1)) M1 := a2
        unfold jfX5_readSum_59
        rw [a2', sy_bi_ri, ad, sy_bv_rv]
      · rw [fs_1 f2]; exact a5
      · intro N v h
        obtain ⟨r1, r2, r3, r4⟩ := RS_skip ht h
        rw [rp N v h]
        by_cases hd : q < L ∧ isd (t q) = true
        · rw [if_pos hd]
          rcases m_figures (lo := 0) (hi := (Int32.ofNat 999)) r3 ht hq r2.1 (by decide) with ⟨b1, _⟩ | ⟨b1, x, p1, b2, b3⟩
          · rw [(RS_L h).2.2] at b1
            exact absurd b1 a1
          · rw [(RS_L h).2.2] at b3
            have b3' : jfX12_figures 0 999 (m11 N q) = sy_ri x (m12 (m11 (m11 N q) p1) q) := b3
            have := (RS_L h).2.1
            exact ⟨x, _, by rw [b3', sy_bi_ri], ⟨m12_12, hq, p1, rt_12 (rt_11 r3 (by omega)), by omega⟩, r4.trans (fg_m11.trans fg_m12).fe⟩
        · rw [if_neg hd, m_part52 ht r2 (m11_m11 N q q), if_pos e]
          obtain ⟨w1, w2, w3⟩ := RS_wrong r2 r3.2.1
          refine ⟨0, _, ?_, w2, r4.trans w3⟩
          unfold jfX12_part_145
          rw [if_pos rfl, w1, sy_bv_rv]
  · rw [if_neg e]
    have pw7 : pw (thg t L q) < 7 := by
      rcases pw_word e with h | h | h | h | h | h | h <;> omega
    have hc : ∃ i, i < 25 ∧ thg t L q = 260 + i := by
      rcases pw_word e with h | h | h | h | h | h | h
      · exact ⟨0, by omega, by omega⟩
      · exact ⟨1, by omega, by omega⟩
      · exact ⟨4, by omega, by omega⟩
      · exact ⟨22, by omega, by omega⟩
      · exact ⟨23, by omega, by omega⟩
      · exact ⟨24, by omega, by omega⟩
      · exact ⟨11, by omega, by omega⟩
    obtain ⟨wi, hwi, hwe⟩ := hc
    rcases c_takes (c := thg t L q) ht c1 te.2 (by omega) with ⟨_, M1, a2, a3, a4, a5, a6⟩ | ⟨a1, _⟩
    · have tg := ten_gt (t := t) a6
      have ng := nxt_ge (t := t) tg.2
      have ad := c_adds (M := M1) (a := 1) (b := Int32.ofNat (pw (thg t L q))) (fk_35 a4 c3) hs
      refine Or.inl ⟨m_add M1 s (1 + 16 * Int32.ofNat (pw (thg t L q))), nxt t L (ten t L q), 1, pw (thg t L q), by omega, ?_, ⟨fs_ct fs_add a3, ?_, m_add_35⟩, ?_, by omega, by omega, by omega, a4.fl.trans fs_add.fl, ?_⟩
      · rw [a2, sy_bi_ri, if_neg n1, ad, sy_bv_rv]
      · rw [fs_1 fs_add, a5]; exact c2
      · rw [m_add_40, a4.1 40 (by decide)]
        congr 1
        show (Int32.ofNat 1) + (Int32.ofNat 16) * Int32.ofNat (pw (thg t L q)) = _
        rw [zmul, zadd]
      · intro N v h
        obtain ⟨r1, r2, r3, r4⟩ := RS_skip ht h
        have nd : ¬ (q < L ∧ isd (t q) = true) := by
          intro z
          have : thg t L q = 257 ∨ thg t L q = 258 := by
            unfold thg
            have nb : Nat.ble L q = false := by
              cases h2 : Nat.ble L q with
              | false => rfl
              | true => rw [Nat.ble_eq] at h2; omega
            rw [nb, cond_false, z.2, cond_true]
            cases Nat.ble (ten t L q - q) 3
            · exact Or.inr rfl
            · exact Or.inl rfl
          omega
        have r5 := RS_11 (p := ten t L q) (q1 := nxt t L (ten t L q)) r2 tg.2 rfl
        rw [rp N v h, if_neg nd, m_part52 ht r2 (m11_m11 N q q), if_neg e]
        refine ⟨_, ?_, r5, r4.trans fg_m11.fe⟩
        unfold jfX12_part_145
        rw [if_neg (show ¬ Int32.ofNat (pw (thg t L q)) = -1 from fun z => znn (pw (thg t L q)) (by omega) (by rw [z]; decide)), zin pw7 (by decide), sy_bx_t, zix (by omega), r5.2.2.1 _ pw7]
        rfl
    · exact absurd rfl a1
end
