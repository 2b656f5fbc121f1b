/-! ===== the lines of a law one after another; the class tells turns ===== -/
section
variable {M N : sy_M} {t : Nat → Nat} {L : Nat}
def tfo (g : Nat → LT) (v : Nat → Int32) (m i : Nat) (x : Int32) : Int32 := sy_fo (fun j a => tst v (g j) a) m i x
def rfo (g : Nat → LT) (v : Nat → Int32) (m i : Nat) (r : Bool) : Bool := sy_fo (fun j a => rst v (g j) a) m i r
def LLS (x0 : sy_O) (y : sy_M → sy_O) (M0 : sy_M) (t : Nat → Nat) (L q0 i : Nat) (g : Nat → LT) : Prop :=
 (∃ M1 s1 n1 g1, x0 = sy_ri (Int32.ofNat 1) M1 ∧ M1 1 7 = -(Int32.ofNat 1) ∧ lw M1 35 s1 n1 g1 ∧ s1 ≤ 400 ∧ i ≤ n1 ∧ (∀ j, j < i → g1 j = g j) ∧ fw M0 M1 ∧ ∀ N v r, RS N t L q0 v 0 → N 121 18 = bz r → ∃ N1, y N = sy_ri (Int32.ofNat n1) N1 ∧ N1 121 12 = -(Int32.ofNat 1) ∧ fy N N1 ∧ N1 121 17 = tfo g1 v (n1 - i) i (N 121 17) ∧ N1 121 18 = bz (rfo g1 v (n1 - i) i r)) ∨
 (∃ M1 w, x0 = sy_ri (Int32.ofNat 0) M1 ∧ M1 1 7 = Int32.ofNat w ∧ w ≤ L ∧ fw M0 M1 ∧ ∀ N v r, RS N t L q0 v 0 → N 121 18 = bz r → ∃ c N1, y N = sy_ri c N1 ∧ N1 121 12 = Int32.ofNat w ∧ fy N N1)
theorem m_80y {k w : Nat} {a1 a2 a3 : Int32} (ht : ∀ i, t i ≤ 255) (F : RX N t L w 0) : ∃ N1, jfX12_read_80 (jfX12_read_23 (k + 1)) a1 a2 a3 N = sy_ri (a3 + 1) N1 ∧ N1 121 12 = Int32.ofNat w ∧ fe N N1 := by
  have hx := RX_x F
  obtain ⟨f1, f2, p, f3, f4⟩ := F
  have x1 : m11 N (nxt t L p) 121 12 ≠ -(Int32.ofNat 1) := by rw [m11_12]; exact hx
  refine ⟨m11 N (nxt t L p), ?_, m11_12.trans f1, fg_m11.fe⟩
  unfold jfX12_read_80
  simp only
  rw [m_skip f3 ht, sy_bv_rv, if_neg (show ¬ m11 N (nxt t L p) 121 12 = -1 from x1)]
  unfold jfX12_read_106
  rw [m_stop x1]
theorem k_laws (ht : ∀ i, t i ≤ 255) (hL : L ≤ 400) : ∀ (m i k k2 : Nat) (M : sy_M) (q s : Nat) (g : Nat → LT), i + m = 12 → CS M t L q s → s ≤ q → lw M 35 s i g → LLS (jfX6_readLines_2_17 (k + m + 1) (Int32.ofNat 12) (Int32.ofNat i) M) (jfX12_read_23 (k2 + m + 3) 1 1 (Int32.ofNat i)) M t L q i g := by
  have n1 : ¬ (Int32.ofNat 1) = (0 : Int32) := by decide
  have n0 : (Int32.ofNat 0) = (0 : Int32) := rfl
  have mo : (-(Int32.ofNat 1) : Int32) = -1 := rfl
  intro m
  induction m with
  | zero =>
    intro i k k2 M q s g hi C hs W
    have e : i = 12 := hi
    subst e
    obtain ⟨M1, b1, b2, b3⟩ := c_fails C.1
    refine Or.inr ⟨M1, q, ?_, b2, CS_L C, b3.fw, ?_⟩
    · show jgX6_readLines_2_17 (jfX6_readLines_2_17 k) (Int32.ofNat 12) (Int32.ofNat 12) M = _
      unfold jgX6_readLines_2_17
      rw [if_neg (show ¬ ((Int32.ofNat 12) : Int32) < (Int32.ofNat 12) by decide), b1, sy_bi_ri]
      rfl
    · intro N v r h h18
      obtain ⟨a1, a2, a3, a4⟩ := RS_skip ht h
      obtain ⟨w1, w2, w3⟩ := RS_wrong a2 a3.2.1
      obtain ⟨N2, c1, c2, c3⟩ := m_80y (N := m12 (m11 N q) q) (k := k2 + 1) (a1 := 1) (a2 := 1) (a3 := (Int32.ofNat 12)) ht w2
      refine ⟨(Int32.ofNat 12) + 1, N2, ?_, c2, ((a4.trans w3).trans c3).fy⟩
      · show jgX12_read_23 (jfX12_read_23 (k2 + 1 + 1)) 1 1 (Int32.ofNat 12) N = _
        unfold jgX12_read_23
        rw [if_neg (show ¬ (1 : Int32) = 0 by decide), h.1, if_pos mo, a1, sy_bv_rv, if_neg (show ¬ (1 : Int32) = 0 by decide)]
        unfold jfX12_read_51
        rw [if_pos (show ((Int32.ofNat 12) : Int32) = 12 from rfl), w1, sy_bv_rv]
        exact c1
  | succ m ih =>
    intro i k k2 M q s g hi C hs W
    have cl : jfX6_readLines_2_17 (k + (m + 1) + 1) (Int32.ofNat 12) (Int32.ofNat i) M = sy_bi (jfX5_readLine M) fun v4 M3 => if v4 = 0 then sy_ri 0 M3 else sy_bi (jfX10_thing M3) fun v6 M5 => if v6 = 256 then sy_ri 1 M5 else sy_bi (jfX10_takes 59 M5) fun v8 M7 => if v8 = 0 then sy_bi (jfX10_fails M7) fun v11 M10 => sy_bb (sy_bo v11) <| sy_ri v11 M10 else jfX6_readLines_2_17 (k + m + 1) (Int32.ofNat 12) (Int32.ofNat i + 1) M7 := by
      show jgX6_readLines_2_17 (jfX6_readLines_2_17 (k + m + 1)) (Int32.ofNat 12) (Int32.ofNat i) M = _
      unfold jgX6_readLines_2_17
      rw [if_pos ((zlt (by omega) (by decide)).mpr (show i < 12 by omega))]
    have rl : ∀ N v, RS N t L q v 0 → ∃ N0, RS N0 t L q v 0 ∧ fe N N0 ∧ jfX12_read_23 (k2 + (m + 1) + 3) 1 1 (Int32.ofNat i) N = sy_bv (jfX12_lawLine N0) fun M1 => jfX12_read_80 (jfX12_read_23 (k2 + m + 3)) 1 1 (Int32.ofNat i) M1 := by
      intro N v h
      obtain ⟨a1, a2, a3, a4⟩ := RS_skip ht h
      refine ⟨_, a2, a4, ?_⟩
      show jgX12_read_23 (jfX12_read_23 (k2 + m + 3)) 1 1 (Int32.ofNat i) N = _
      unfold jgX12_read_23
      rw [if_neg (show ¬ (1 : Int32) = 0 by decide), h.1, if_pos mo, a1, sy_bv_rv, if_neg (show ¬ (1 : Int32) = 0 by decide)]
      unfold jfX12_read_51
      rw [if_neg (show ¬ Int32.ofNat i = 12 from fun z => by have := (zeq (b := 12) (by omega) (by decide)).mp z; omega), if_neg (show ¬ (1 : Int32) = 0 by decide)]
    rw [cl]
    rcases k_lawLine ht hL C hs W (by omega) with ⟨M1, q1, s1, l, b1, b2, b3, b4, b5, b6, b7⟩ | ⟨M1, w, b1, b2, b3, b4, b5⟩
    · rw [b1, sy_bi_ri, if_neg n1, c_thing b2.1, sy_bi_ri]
      have hq1 := CS_L b2
      have te := thg_end (t := t) ht hq1
      -- the reference behind the line
      have r80 : ∀ N v r, RS N t L q v 0 → N 121 18 = bz r → ∃ N2, RS N2 t L q1 v 0 ∧ fy N N2 ∧ N2 121 17 = tst v l (N 121 17) ∧ N2 121 18 = bz (rst v l r) ∧ N2 121 11 = Int32.ofNat q1 ∧ jfX12_read_23 (k2 + (m + 1) + 3) 1 1 (Int32.ofNat i) N = if q1 = L then jfX12_read_106 (jfX12_read_23 (k2 + m + 3)) 1 (Int32.ofNat (i + 1)) N2 else sy_bi (jfX12_isSign 59 N2) fun v4 M3 => if v4 = 0 then sy_bv (jfX12_wrong (M3 121 11) M3) fun M5 => jfX12_read_23 (k2 + m + 3) 1 1 (Int32.ofNat (i + 1)) M5 else jfX12_read_23 (k2 + m + 3) 1 1 (Int32.ofNat (i + 1)) (sy_upd M3 121 11 (M3 121 11 + 1)) := by
        intro N v r h h18
        obtain ⟨N0, a1, a2, a3⟩ := rl N v h
        have k17 := fe_17 a2
        obtain ⟨N1, c1, c2, c3, c4, c5⟩ := b7 N0 v r a1 (k17.2.trans h18)
        obtain ⟨d1, d2, d3, d4⟩ := RS_skip ht c2
        have k18 := fe_17 d4
        refine ⟨m11 N1 q1, d2, (a2.fy.trans c3).trans d4.fy, by rw [k18.1, c4, k17.1], by rw [k18.2, c5], d3.2.1, ?_⟩
        rw [a3, c1, sy_bv_rv]
        unfold jfX12_read_80
        simp only
        rw [d1, sy_bv_rv, d2.1, if_pos mo, d3.1, d3.2.1, show Int32.ofNat i + 1 = Int32.ofNat (i + 1) from zadd i 1]
        by_cases e : q1 = L
        · rw [if_pos e, if_pos (by rw [e])]
        · rw [if_neg e, if_neg (fun z => e ((zeq (by omega) (by omega)).mp z))]
      by_cases e : q1 = L
      · rw [if_pos (show Int32.ofNat (thg t L q1) = 256 by rw [te.1.mpr e]; rfl)]
        refine Or.inl ⟨M1, s1, i + 1, gset g i l, rfl, b2.2.1, b5, by omega, by omega, fun j hj => ?_, b6, ?_⟩
        · unfold gset; rw [if_neg (by omega)]
        · intro N v r h h18
          obtain ⟨N2, x1, x2, x3, x4, x5, x6⟩ := r80 N v r h h18
          have ge : gset g i l i = l := by unfold gset; rw [if_pos rfl]
          refine ⟨N2, ?_, x1.1, x2, ?_, ?_⟩
          · rw [x6, if_pos e]
            unfold jfX12_read_106
            show jgX12_read_23 _ 1 0 _ N2 = _
            unfold jgX12_read_23
            rw [if_pos (show (0 : Int32) = 0 from rfl)]
          · rw [x3, show i + 1 - i = 1 by omega]
            unfold tfo
            show _ = tst v (gset g i l i) (N 121 17)
            rw [ge]
          · rw [x4, show i + 1 - i = 1 by omega]
            unfold rfo
            show _ = bz (rst v (gset g i l i) r)
            rw [ge]
      · rw [if_neg (show ¬ Int32.ofNat (thg t L q1) = 256 from fun z => e (te.1.mp ((zeq (b := 256) (by omega) (by decide)).mp z)))]
        by_cases h59 : thg t L q1 = 59
        · rcases c_takes (c := 59) ht b2.1 (by decide) (by decide) with ⟨_, M3, c2, c3, c4, c5, c6⟩ | ⟨c1, _⟩
          rotate_left
          · exact absurd h59 c1
          have w59 := (thg_sign (t := t) (q := q1) (c := 59) ht hq1 (by decide) (by decide) (by decide)).mp h59
          have te59 : ten t L q1 = q1 + 1 := ten_sign (by rw [w59.2]; decide) (by rw [w59.2]; decide)
          rw [te59] at c3
          have ng := nxt_ge (t := t) (L := L) (q := q1 + 1) (by omega)
          have c2' : jfX10_takes 59 M1 = sy_ri (Int32.ofNat 1) M3 := c2
          rw [c2', sy_bi_ri, if_neg n1, show Int32.ofNat i + 1 = Int32.ofNat (i + 1) from zadd i 1]
          have W3 : lw M3 35 s1 (i + 1) (gset g i l) := lw_up b5 c4.fl (fun j _ => by rw [c4.1 40 (by decide)]) (Nat.le_refl _)
          have r81 : ∀ N v r, RS N t L q v 0 → N 121 18 = bz r → ∃ N2, RS N2 t L (nxt t L (q1 + 1)) v 0 ∧ fy N N2 ∧ N2 121 17 = tst v l (N 121 17) ∧ N2 121 18 = bz (rst v l r) ∧ jfX12_read_23 (k2 + (m + 1) + 3) 1 1 (Int32.ofNat i) N = jfX12_read_23 (k2 + m + 3) 1 1 (Int32.ofNat (i + 1)) N2 := by
            intro N v r h h18
            obtain ⟨N2, x1, x2, x3, x4, x5, x6⟩ := r80 N v r h h18
            have gs := (RS_sign (c := 59) ht x1 (by decide) (by decide) (by decide)).1 h59
            have g1 : jfX12_isSign 59 N2 = sy_ri (Int32.ofNat 1) (m11 N2 q1) := gs.1
            have k18 := fe_17 (fg_m11 (N := N2) (p := q1 + 1)).fe
            refine ⟨m11 N2 (q1 + 1), gs.2.2.2, x2.trans fg_m11.fe.fy, by rw [k18.1, x3], by rw [k18.2, x4], ?_⟩
            rw [x6, if_neg e, g1, sy_bi_ri, if_neg n1, gs.2.1]
          rcases ih (i + 1) k k2 M3 (nxt t L (q1 + 1)) s1 (gset g i l) (by omega) ⟨c3, c5.trans b2.2.1, fk_35 c4 b2.2.2⟩ (by omega) W3 with ⟨M4, s4, n4, g4, d1, d2, d3, d4, d5, d6, d7, d8⟩ | ⟨M4, w, d1, d2, d3, d4, d5⟩
          · have gi : g4 i = l := by rw [d6 i (by omega)]; unfold gset; rw [if_pos rfl]
            refine Or.inl ⟨M4, s4, n4, g4, d1, d2, d3, d4, by omega, fun j hj => ?_, b6.trans (c4.fw.trans d7), ?_⟩
            · rw [d6 j (by omega)]; unfold gset; rw [if_neg (by omega)]
            · intro N v r h h18
              obtain ⟨N2, x1, x2, x3, x4, x5⟩ := r81 N v r h h18
              obtain ⟨N3, y1, y2, y3, y4, y5⟩ := d8 N2 v (rst v l r) x1 x4
              refine ⟨N3, by rw [x5, y1], y2, x2.trans y3, ?_, ?_⟩
              · rw [y4, x3, show n4 - i = (n4 - (i + 1)) + 1 by omega]
                unfold tfo
                rw [sy_fo_succ, gi]
              · rw [y5, show n4 - i = (n4 - (i + 1)) + 1 by omega]
                unfold rfo
                rw [sy_fo_succ, gi]
          · refine Or.inr ⟨M4, w, d1, d2, d3, b6.trans (c4.fw.trans d4), ?_⟩
            intro N v r h h18
            obtain ⟨N2, x1, x2, x3, x4, x5⟩ := r81 N v r h h18
            obtain ⟨c, N3, y1, y2, y3⟩ := d5 N2 v (rst v l r) x1 x4
            exact ⟨c, N3, by rw [x5, y1], y2, x2.trans y3⟩
        · have t59 : jfX10_takes 59 M1 = sy_ri (Int32.ofNat 0) M1 := by
            rcases c_takes (c := 59) ht b2.1 (by decide) (by decide) with ⟨c1, _⟩ | ⟨_, c2⟩
            · exact absurd c1 h59
            · exact c2
          obtain ⟨M3, c1, c2, c3⟩ := c_fails b2.1
          rw [t59, sy_bi_ri, if_pos n0, c1, sy_bi_ri]
          refine Or.inr ⟨M3, q1, rfl, c2, hq1, b6.trans c3.fw, ?_⟩
          intro N v r h h18
          obtain ⟨N2, x1, x2, x3, x4, x5, x6⟩ := r80 N v r h h18
          have gs := (RS_sign (c := 59) ht x1 (by decide) (by decide) (by decide)).2 h59
          have g1 : jfX12_isSign 59 N2 = sy_ri (Int32.ofNat 0) (m11 N2 q1) := gs.1
          obtain ⟨w1, w2, w3⟩ := RS_wrong gs.2 (by unfold m11; rw [syc_at, rs_at])
          refine ⟨Int32.ofNat (i + 1), _, ?_, w2.1, (x2.trans fg_m11.fe.fy).trans w3.fy⟩
          rw [x6, if_neg e, g1, sy_bi_ri, if_pos n0, w1, sy_bv_rv, m_stop (RX_x w2)]
    · rw [b1, sy_bi_ri, if_pos n0]
      refine Or.inr ⟨M1, w, rfl, b2, b3, b4, ?_⟩
      intro N v r h h18
      obtain ⟨N0, a1, a2, a3⟩ := rl N v h
      obtain ⟨N1, c1, c2, c3⟩ := b5 N0 v a1
      obtain ⟨N2, d1, d2, d3⟩ := m_80y (N := N1) (k := k2 + m + 2) (a1 := 1) (a2 := 1) (a3 := Int32.ofNat i) ht c2
      exact ⟨_, N2, by rw [a3, c1, sy_bv_rv, d1], d2, (a2.fy.trans c3.fy).trans d3.fy⟩
theorem k_law {q : Nat} {g : Nat → LT} (ht : ∀ i, t i ≤ 255) (hL : L ≤ 400) (C : CS M t L q 0) (W : lw M 35 0 0 g) : LLS (jfX6_readLines_2 (Int32.ofNat 12) M) (jfX12_read (Int32.ofNat 1)) M t L q 0 g := by
  have mo : (-(Int32.ofNat 1) : Int32) = -1 := rfl
  have hqL := CS_L C
  have te := thg_end (t := t) ht hqL
  have rd : ∀ N v, RS N t L q v 0 → ∃ N0, RS N0 t L q v 0 ∧ fe N N0 ∧ jfX12_read (Int32.ofNat 1) N = if q < L then jfX12_read_23 sy_F 1 1 0 N0 else jfX12_read_23 sy_F 1 0 0 N0 := by
    intro N v h
    obtain ⟨a1, a2, a3, a4⟩ := RS_skip ht h
    refine ⟨_, a2, a4, ?_⟩
    unfold jfX12_read jfX12_read_20
    rw [a1, sy_bv_rv, a3.1, a3.2.1]
    by_cases e : q < L
    · rw [if_pos e, if_pos ((zlt (by omega) (by omega)).mpr e)]; rfl
    · rw [if_neg e, if_neg (fun z => e ((zlt (by omega) (by omega)).mp z))]; rfl
  unfold jfX6_readLines_2
  rw [c_thing C.1, sy_bi_ri]
  by_cases e : q = L
  · rw [if_pos (show Int32.ofNat (thg t L q) = 256 by rw [te.1.mpr e]; rfl)]
    refine Or.inl ⟨M, 0, 0, g, rfl, C.2.1, W, by omega, Nat.le_refl _, fun j hj => rfl, fw_rfl, ?_⟩
    intro N v r h h18
    obtain ⟨N0, a1, a2, a3⟩ := rd N v h
    have k := fe_17 a2
    refine ⟨N0, ?_, a1.1, a2.fy, k.1, k.2.trans h18⟩
    rw [a3, if_neg (by omega), show sy_F = 5999 + 1 from sy_F_eq]
    show jgX12_read_23 _ _ 0 _ N0 = _
    unfold jgX12_read_23
    rw [if_pos (show (0 : Int32) = 0 from rfl)]
    rfl
  · rw [if_neg (show ¬ Int32.ofNat (thg t L q) = 256 from fun z => e (te.1.mp ((zeq (b := 256) (by omega) (by decide)).mp z)))]
    have kk := k_laws ht hL 12 0 5987 5985 M q 0 g rfl C (by omega) W
    have kk1 : LLS (jfX6_readLines_2_17 6000 (Int32.ofNat 12) (Int32.ofNat 0) M) (jfX12_read_23 6000 1 1 (Int32.ofNat 0)) M t L q 0 g := kk
    rw [← show sy_F = 6000 from sy_F_eq] at kk1
    rcases kk1 with ⟨M4, s4, n4, g4, d1, d2, d3, d4, d5, d6, d7, d8⟩ | ⟨M4, w, d1, d2, d3, d4, d5⟩
    · refine Or.inl ⟨M4, s4, n4, g4, d1, d2, d3, d4, d5, d6, d7, ?_⟩
      intro N v r h h18
      obtain ⟨N0, a1, a2, a3⟩ := rd N v h
      have k := fe_17 a2
      obtain ⟨N1, y1, y2, y3, y4, y5⟩ := d8 N0 v r a1 (k.2.trans h18)
      refine ⟨N1, ?_, y2, a2.fy.trans y3, by rw [y4, k.1], y5⟩
      rw [a3, if_pos (by omega)]; exact y1
    · refine Or.inr ⟨M4, w, d1, d2, d3, d4, ?_⟩
      intro N v r h h18
      obtain ⟨N0, a1, a2, a3⟩ := rd N v h
      have k := fe_17 a2
      obtain ⟨c, N1, y1, y2, y3⟩ := d5 N0 v r a1 (k.2.trans h18)
      refine ⟨c, N1, ?_, y2, a2.fy.trans y3⟩
      rw [a3, if_pos (by omega)]; exact y1
/-! the class's rule -/
theorem c_holds_lw {s n i : Nat} {g : Nat → LT} {v : Nat → Int32} (W : lw N 29 s n g) (hs : s ≤ 512) (hi : i < n) (hv0 : ∀ j, j < 9 → N 52 j = v j) : jfX4_holds 29 (Int32.ofNat i) N = sy_ri (bz ((g i).2.2 v)) N := by
  obtain ⟨w1, w2, w3⟩ := W
  obtain ⟨a1, a2, a3, b, e, a4, a5, a6, a7, a8⟩ := w3 i hi
  obtain ⟨il, lf, r⟩ := a8 v
  exact c_holds (by omega) a4 a5 a6 (by omega) hv0 r
theorem c_turnOf {s n : Nat} {g : Nat → LT} {v : Nat → Int32} (W : lw N 29 s n g) (hs : s ≤ 512) (hv0 : ∀ j, j < 9 → N 52 j = v j) : jfX4_turnOf 29 N = sy_ri (tfo g v n 0 (Int32.ofNat 0)) N := by
  have is4 : sy_is 4 29 = true := rfl
  unfold jfX4_turnOf tfo
  obtain ⟨k, hk1⟩ := sy_for1 (n := n) (F := sy_F) (fun k i (a : Int32) => jfX4_turnOf_4 k 29 a (Int32.ofNat i) N) (fun j a => tst v (g j) a) (by
    intro k i a hi
    show jgX4_turnOf_4 (jfX4_turnOf_4 k) 29 a (Int32.ofNat i) N = _
    obtain ⟨w1, w2, w3⟩ := id W
    obtain ⟨a1, a2, a3, _⟩ := w3 i hi
    have ho := c_holds_lw W hs hi hv0
    have nx : Int32.ofNat i + 1 = Int32.ofNat (i + 1) := zadd i 1
    unfold jgX4_turnOf_4
    rw [is4, sy_bs_t, w2, if_pos ((zlt (by omega) (by omega)).mpr hi), if_pos (show Int32.ofNat i < 12 from (zlt (b := 12) (by omega) (by decide)).mpr (by omega)), sy_bs_t, show 29 + 1 = 30 from rfl, show 29 + 2 = 31 from rfl, sy_len_li (by decide), show sy_li 30 = 12 from rfl, zin (show i < 12 by omega) (by decide), sy_bx_t, zix (by omega), a1]
    unfold jfX4_turnOf_65
    simp only [nx]
    unfold tst
    by_cases k2 : (g i).1 = 2
    · rw [if_pos (show Int32.ofNat (g i).1 = 2 by rw [k2]; rfl)]
      cases (g i).2.2 v
      · rfl
      · rw [cond_true, if_pos k2]
    · rw [if_neg (show ¬ Int32.ofNat (g i).1 = 2 from fun z => k2 ((zeq (b := 2) (by omega) (by decide)).mp z)), sy_bs_t, ho, sy_bi_ri]
      cases (g i).2.2 v
      · rfl
      · rw [if_neg (show ¬ bz true = 0 by decide), sy_bs_t, sy_len_li (by decide), show sy_li 30 = 12 from rfl, zin (show i < 12 by omega) (by decide), sy_bx_t, a1, cond_true, if_neg k2]
        unfold jfX4_turnOf_63 jfX4_turnOf_65
        simp only [nx]
        by_cases k0 : (g i).1 = 0
        · rw [if_pos (show Int32.ofNat (g i).1 = 0 by rw [k0]; rfl), if_pos k0, sy_bs_t, sy_len_li (by decide), show sy_li 31 = 12 from rfl, zin (show i < 12 by omega) (by decide), sy_bx_t, a2]
        · rw [if_neg (show ¬ Int32.ofNat (g i).1 = 0 from fun z => k0 ((zeq (b := 0) (by omega) (by decide)).mp z)), if_neg k0, sy_bs_t, sy_len_li (by decide), show sy_li 31 = 12 from rfl, zin (show i < 12 by omega) (by decide), sy_bx_t, a2]) (Int32.ofNat 0) (by rw [sy_F_eq]; have := W.1; omega)
  refine hk1.trans ?_
  show jgX4_turnOf_4 (jfX4_turnOf_4 k) 29 _ (Int32.ofNat n) N = _
  unfold jgX4_turnOf_4
  rw [is4, sy_bs_t, W.2.1, if_neg (fun z => by rw [zlt (by have := W.1; omega) (by have := W.1; omega)] at z; omega)]
theorem rfo_true (g : Nat → LT) (v : Nat → Int32) : ∀ m i, rfo g v m i true = true
  | 0, _ => rfl
  | m + 1, i => by
    have h := rfo_true g v m (i + 1)
    unfold rfo at h ⊢
    rw [sy_fo_succ]
    exact h
theorem c_isRefused {s n : Nat} {g : Nat → LT} {v : Nat → Int32} (W : lw N 29 s n g) (hs : s ≤ 512) (hv0 : ∀ j, j < 9 → N 52 j = v j) : jfX4_isRefused 29 N = sy_ri (bz (rfo g v n 0 false)) N := by
  have is4 : sy_is 4 29 = true := rfl
  have n12 := W.1
  unfold jfX4_isRefused
  refine sy_ind (n := n) (F := sy_F) (fun k i (_ : Unit) => jfX4_isRefused_2 k 29 (Int32.ofNat i) N) (fun _ _ => True) (fun m i _ c => c = sy_ri (bz (rfo g v m i false)) N) ?_ ?_ () trivial (by rw [sy_F_eq]; omega)
  · intro k _ _
    show jgX4_isRefused_2 (jfX4_isRefused_2 k) 29 (Int32.ofNat n) N = _
    unfold jgX4_isRefused_2
    rw [is4, sy_bs_t, W.2.1, if_neg (fun z => by rw [zlt (by omega) (by omega)] at z; omega)]
    rfl
  · intro m k i _ hi _
    show (∃ _ : Unit, jgX4_isRefused_2 (jfX4_isRefused_2 (k + 1)) 29 (Int32.ofNat i) N = _ ∧ _) ∨ jgX4_isRefused_2 (jfX4_isRefused_2 (k + 1)) 29 (Int32.ofNat i) N = _
    obtain ⟨w1, w2, w3⟩ := id W
    obtain ⟨a1, a2, a3, _⟩ := w3 i (by omega)
    have ho := c_holds_lw W hs (show i < n by omega) hv0
    have nx : Int32.ofNat i + 1 = Int32.ofNat (i + 1) := zadd i 1
    have fo : rfo g v (m + 1) i false = rfo g v m (i + 1) (rst v (g i) false) := by unfold rfo; rw [sy_fo_succ]
    unfold jgX4_isRefused_2
    rw [is4, sy_bs_t, w2, if_pos ((zlt (by omega) (by omega)).mpr (show i < n by omega)), if_pos (show Int32.ofNat i < 12 from (zlt (b := 12) (by omega) (by decide)).mpr (by omega)), sy_bs_t, show 29 + 1 = 30 from rfl, sy_len_li (by decide), show sy_li 30 = 12 from rfl, zin (show i < 12 by omega) (by decide), sy_bx_t, zix (by omega), a1, fo]
    unfold jfX4_isRefused_37
    simp only [nx]
    by_cases k2 : (g i).1 = 2
    · rw [if_pos (show Int32.ofNat (g i).1 = 2 by rw [k2]; rfl), sy_bs_t, ho, sy_bi_ri]
      unfold rst
      rw [decide_eq_true k2, Bool.true_and, Bool.false_or]
      cases (g i).2.2 v
      · exact Or.inl ⟨(), rfl, trivial, fun c hc => hc⟩
      · right
        rw [if_neg (show ¬ bz true = 0 by decide), rfo_true]
        rfl
    · rw [if_neg (show ¬ Int32.ofNat (g i).1 = 2 from fun z => k2 ((zeq (b := 2) (by omega) (by decide)).mp z))]
      unfold rst
      rw [decide_eq_false k2, Bool.false_and, Bool.or_false]
      exact Or.inl ⟨(), rfl, trivial, fun c hc => hc⟩
end
