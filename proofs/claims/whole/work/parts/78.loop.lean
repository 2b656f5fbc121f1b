/-! ===== signs; the lines of a house one after another ===== -/
section
variable {M N : sy_M} {t : Nat → Nat} {L : Nat}
theorem thg_sign {q c : Nat} (ht : ∀ i, t i ≤ 255) (hq : q ≤ L) (hc : c < 256) (ha : isa c = false) (hd : isd c = false) : thg t L q = c ↔ (q < L ∧ t q = c) := by
  constructor
  · intro h
    have hqL : q < L := by
      have : q ≠ L := fun z => by
        have := (thg_end ht hq).1.mpr z
        omega
      omega
    have nb : Nat.ble L q = false := by
      cases h2 : Nat.ble L q with
      | false => rfl
      | true => rw [Nat.ble_eq] at h2; omega
    unfold thg at h
    rw [nb, cond_false] at h
    cases hdq : isd (t q) with
    | true =>
      rw [hdq, cond_true] at h
      cases h3 : Nat.ble (ten t L q - q) 3 with
      | true => rw [h3, cond_true] at h; omega
      | false => rw [h3, cond_false] at h; omega
    | false =>
      rw [hdq, cond_false] at h
      cases haq : isa (t q) with
      | true =>
        rw [haq, cond_true] at h
        have := wco_ge t q (ten t L q) wds 260 (by decide)
        omega
      | false =>
        rw [haq, cond_false] at h
        exact ⟨hqL, h⟩
  · rintro ⟨h1, h2⟩
    have nb : Nat.ble L q = false := by
      cases h2 : Nat.ble L q with
      | false => rfl
      | true => rw [Nat.ble_eq] at h2; omega
    unfold thg
    rw [nb, cond_false, h2, hd, cond_false, ha]
    rfl
theorem ten_sign {q : Nat} (ha : isa (t q) = false) (hd : isd (t q) = false) : ten t L q = q + 1 := by
  unfold ten
  rw [ha, hd]
  rfl
theorem m_isSign {p c : Nat} (h : rt N t L p) (ht : ∀ i, t i ≤ 255) (hpL : p ≤ L) (hc : c < 256) : jfX12_isSign (Int32.ofNat c) N = sy_ri (bz (decide (nxt t L p < L ∧ t (nxt t L p) = c))) (m11 N (nxt t L p)) := by
  have d := rt_le h
  have ng := nxt_ge (t := t) hpL
  have r := rt_11 (p1 := nxt t L p) h (by omega)
  unfold jfX12_isSign
  rw [m_skip h ht, sy_bv_rv, r.1, r.2.1]
  generalize nxt t L p = q at *
  by_cases hq : q < L
  · have tp := ht q
    rw [if_pos ((zlt (by omega) (by omega)).mpr hq), m_letter r hq, sy_bi_ri]
    by_cases he : t q = c
    · rw [if_pos (by rw [he]), decide_eq_true ⟨hq, he⟩]; rfl
    · rw [if_neg (fun z => he ((zeq (by omega) (by omega)).mp z)), decide_eq_false (fun z => he z.2)]; rfl
  · rw [if_neg (fun z => hq ((zlt (by omega) (by omega)).mp z)), decide_eq_false (fun z => hq z.1)]; rfl
theorem k_sign {q c : Nat} (ht : ∀ i, t i ≤ 255) (K : LK M N t L q) (hc : c < 256) (ha : isa c = false) (hd : isd c = false) : (∃ M1 N1 q1, thg t L q = c ∧ jfX10_takes (Int32.ofNat c) M = sy_ri (Int32.ofNat 1) M1 ∧ jfX12_isSign (Int32.ofNat c) N = sy_ri (Int32.ofNat 1) N1 ∧ LK M1 (sy_upd N1 121 11 (N1 121 11 + 1)) t L q1 ∧ fk M M1 ∧ fg N N1 ∧ fg N (sy_upd N1 121 11 (N1 121 11 + 1))) ∨ (∃ N1, thg t L q ≠ c ∧ jfX10_takes (Int32.ofNat c) M = sy_ri (Int32.ofNat 0) M ∧ jfX12_isSign (Int32.ofNat c) N = sy_ri (Int32.ofNat 0) N1 ∧ LK M N1 t L q ∧ fg N N1 ∧ N1 121 11 = Int32.ofNat q) := by
  obtain ⟨k1, k2, k3, p, k4, k5, k6⟩ := K
  have d := rt_le k4
  have hqL := ct_le k1
  have a := c_takes (c := c) ht k1 (by omega) (by omega)
  have b := m_isSign k4 ht k5 hc
  rw [k6] at b
  have w := thg_sign (t := t) (q := q) ht hqL hc ha hd
  rcases a with ⟨a1, M1, a2, a3, a4, a5, a6⟩ | ⟨a1, a2⟩
  · rw [decide_eq_true (w.mp a1)] at b
    have tc := (w.mp a1).2
    have te : ten t L q = q + 1 := ten_sign (by rw [tc]; exact ha) (by rw [tc]; exact hd)
    have e1 : sy_upd (m11 N q) 121 11 (m11 N q 121 11 + 1) = m11 N (q + 1) := by
      rw [sy_upd_st, show m11 N q 121 11 = Int32.ofNat q from by unfold m11; rw [syc_at, rs_at], show (1 : Int32) = (Int32.ofNat 1) from rfl, zadd]
      exact m11_m11 N q (q + 1)
    refine Or.inl ⟨M1, _, nxt t L (ten t L q), a1, a2, b, ?_, a4, fg_m11, ?_⟩
    · rw [e1]
      exact ⟨a3, a5.trans k2, m11_12.trans k3, q + 1, rt_11 k4 (by omega), by omega, by rw [te]⟩
    · rw [e1]; exact fg_m11
  · rw [decide_eq_false (fun z => a1 (w.mpr z))] at b
    refine Or.inr ⟨_, a1, a2, b, ⟨k1, k2, m11_12.trans k3, q, rt_11 k4 (by omega), hqL, ?_⟩, fg_m11, by unfold m11; rw [syc_at, rs_at]⟩
    rw [← k6]; exact nxt_nxt k5
/-- all lines: both took them in, or both say the same is wrong -/
def BL (M N : sy_M) (t : Nat → Nat) (L : Nat) (f : Nat → Int32) (x y : sy_O) : Prop := (∃ M1 N1 f1 n1 c, x = sy_ri (Int32.ofNat 1) M1 ∧ y = sy_ri c N1 ∧ M1 1 7 = -(Int32.ofNat 1) ∧ N1 121 12 = -(Int32.ofNat 1) ∧ SH M1 N1 f1 n1 ∧ hl f f1 ∧ fc M M1 ∧ fz N N1) ∨ (∃ M1 N1 c, x = sy_ri (Int32.ofNat 0) M1 ∧ y = sy_ri c N1 ∧ LF M1 N1 t L ∧ dk M1 14 ∧ fc M M1 ∧ fz N N1)
theorem BL_pre {M0 N0 : sy_M} {f f0 : Nat → Int32} {x y : sy_O} (h : BL M N t L f x y) (a : fc M0 M) (b : fz N0 N) (l : hl f0 f) : BL M0 N0 t L f0 x y := by
  rcases h with ⟨M1, N1, f1, n1, c, h1, h2, h3, h4, h5, h6, h7, h8⟩ | ⟨M1, N1, c, h1, h2, h3, h4, h5, h6⟩
  · exact Or.inl ⟨M1, N1, f1, n1, c, h1, h2, h3, h4, h5, l.trans h6, a.trans h7, b.trans h8⟩
  · exact Or.inr ⟨M1, N1, c, h1, h2, h3, h4, a.trans h5, b.trans h6⟩
theorem SH_g {N1 : sy_M} {f : Nat → Int32} {n : Nat} (h : SH M N f n) (g : fg N N1) : SH M N1 f n := ⟨h.1, (g.1 122 (by decide)).trans h.2.1, h.2.2⟩
theorem SH_k {M1 : sy_M} {f : Nat → Int32} {n : Nat} (h : SH M N f n) (g : fk M M1) : SH M1 N f n := ⟨hw_fk h.1 (by decide) g, h.2⟩
/-- behind a fault the reference stops -/
theorem m_stop {k : Nat} {a1 a3 : Int32} (hx : N 121 12 ≠ -(Int32.ofNat 1)) (a2 : Int32) : jfX12_read_23 (k + 1) a1 a2 a3 N = sy_ri a3 N := by
  show jgX12_read_23 (jfX12_read_23 k) a1 a2 a3 N = _
  unfold jgX12_read_23
  rw [if_neg (show ¬ N 121 12 = -1 from hx), ite_self]
theorem m_80x {k : Nat} {a1 a2 a3 : Int32} (ht : ∀ i, t i ≤ 255) (F : LF M N t L) : ∃ N1, jfX12_read_80 (jfX12_read_23 (k + 1)) a1 a2 a3 N = sy_ri (a3 + 1) N1 ∧ LF M N1 t L ∧ fg N N1 := by
  obtain ⟨N1, e1, e2, e3⟩ := k_skip_x ht F
  have hx := (LF_x e2).1
  refine ⟨N1, ?_, e2, e3⟩
  unfold jfX12_read_80
  simp only
  rw [e1, sy_bv_rv, if_neg (show ¬ N1 121 12 = -1 from hx)]
  unfold jfX12_read_106
  rw [m_stop hx]
theorem k_lines (ht : ∀ i, t i ≤ 255) : ∀ (m i k k2 : Nat) (M N : sy_M) (q : Nat) (f : Nat → Int32) (n : Nat), i + m = 14 → LK M N t L q → SH M N f n → BL M N t L f (jfX6_readLines_17 (k + m + 1) (Int32.ofNat 14) (Int32.ofNat i) M) (jfX12_read_23 (k2 + m + 3) 0 1 (Int32.ofNat i) N)
  | 0, i, k, k2, M, N, q, f, n, hi, K, Sh => by
    have e : i = 14 := hi
    subst e
    obtain ⟨N1, a1, a2, a3, a4, a5⟩ := k_skip ht K
    obtain ⟨M1, b1, b2, b3, b4, b5⟩ := k_fail a2 a4
    obtain ⟨N2, c1, c2, c3⟩ := m_80x (M := M1) (N := m12 N1 q) (k := k2 + 1) (a1 := 0) (a2 := 1) (a3 := (Int32.ofNat 14)) ht b3
    refine Or.inr ⟨M1, N2, (Int32.ofNat 14) + 1, ?_, ?_, c2, (hw_fk Sh.1 (by decide) b4).dk, b4.fc, ((a3.trans b5).trans c3).fz⟩
    · show jgX6_readLines_17 (jfX6_readLines_17 k) (Int32.ofNat 14) (Int32.ofNat 14) M = _
      unfold jgX6_readLines_17
      rw [if_neg (show ¬ ((Int32.ofNat 14) : Int32) < (Int32.ofNat 14) by decide), b1, sy_bi_ri]
      rfl
    · show jgX12_read_23 (jfX12_read_23 (k2 + 1 + 1)) 0 1 (Int32.ofNat 14) N = _
      unfold jgX12_read_23
      rw [if_neg (show ¬ (1 : Int32) = 0 by decide), K.2.2.1, if_pos (show (-(Int32.ofNat 1) : Int32) = -1 from rfl), a1, sy_bv_rv, if_pos (show (0 : Int32) = 0 from rfl)]
      unfold jfX12_read_51
      rw [if_pos (show ((Int32.ofNat 14) : Int32) = 14 from rfl), b2, sy_bv_rv]
      exact c1
  | m + 1, i, k, k2, M, N, q, f, n, hi, K, Sh => by
    obtain ⟨N0, a1, a2, a3, a4, a5⟩ := k_skip ht K
    have n1 : ¬ (Int32.ofNat 1) = (0 : Int32) := by decide
    have n0 : (Int32.ofNat 0) = (0 : Int32) := rfl
    have B := k_line ht a2 (SH_g Sh a3)
    have rl : jfX12_read_23 (k2 + (m + 1) + 3) 0 1 (Int32.ofNat i) N = sy_bv (jfX12_houseLine N0) fun M1 => jfX12_read_80 (jfX12_read_23 (k2 + m + 3)) 0 1 (Int32.ofNat i) M1 := by
      show jgX12_read_23 (jfX12_read_23 (k2 + m + 3)) 0 1 (Int32.ofNat i) N = _
      unfold jgX12_read_23
      rw [if_neg (show ¬ (1 : Int32) = 0 by decide), K.2.2.1, if_pos (show (-(Int32.ofNat 1) : Int32) = -1 from rfl), a1, sy_bv_rv, if_pos (show (0 : Int32) = 0 from rfl)]
      unfold jfX12_read_51
      rw [if_neg (show ¬ Int32.ofNat i = 14 from fun z => by have := (zeq (b := 14) (by omega) (by decide)).mp z; omega), if_pos (show (0 : Int32) = 0 from rfl)]
    have cl : jfX6_readLines_17 (k + (m + 1) + 1) (Int32.ofNat 14) (Int32.ofNat i) M = sy_bi (jfX3_readLine M) fun v4 M3 => if v4 = 0 then sy_ri 0 M3 else sy_bi (jfX10_thing M3) fun v6 M5 => if v6 = 256 then sy_ri 1 M5 else sy_bi (jfX10_takes 59 M5) fun v8 M7 => if v8 = 0 then sy_bi (jfX10_fails M7) fun v11 M10 => sy_bb (sy_bo v11) <| sy_ri v11 M10 else jfX6_readLines_17 (k + m + 1) (Int32.ofNat 14) (Int32.ofNat i + 1) M7 := by
      show jgX6_readLines_17 (jfX6_readLines_17 (k + m + 1)) (Int32.ofNat 14) (Int32.ofNat i) M = _
      unfold jgX6_readLines_17
      rw [if_pos ((zlt (by omega) (by decide)).mpr (show i < 14 by omega))]
    rw [rl, cl]
    rcases B with ⟨M1, N1, q1, f1, n1', b1, b2, b3, b4, b5, b6, b7⟩ | ⟨M1, N1, b1, b2, b3, b4, b5, b6⟩
    · rw [b1, sy_bi_ri, if_neg n1, b2, sy_bv_rv, c_thing b3.1, sy_bi_ri]
      obtain ⟨N2, c1, c2, c3, c4, c5⟩ := k_skip ht b3
      have hq := LK_q b3
      have te := thg_end (t := t) ht hq.1
      have F2 := a3.fz.trans (b7.trans c3.fz)
      have S2 := SH_g b4 c3
      have r80 : jfX12_read_80 (jfX12_read_23 (k2 + m + 3)) 0 1 (Int32.ofNat i) N1 = if q1 = L then jfX12_read_106 (jfX12_read_23 (k2 + m + 3)) 0 (Int32.ofNat i + 1) N2 else sy_bi (jfX12_isSign 59 N2) fun v4 M3 => if v4 = 0 then sy_bv (jfX12_wrong (M3 121 11) M3) fun M5 => jfX12_read_23 (k2 + m + 3) 0 1 (Int32.ofNat i + 1) M5 else jfX12_read_23 (k2 + m + 3) 0 1 (Int32.ofNat i + 1) (sy_upd M3 121 11 (M3 121 11 + 1)) := by
        unfold jfX12_read_80
        simp only
        rw [c1, sy_bv_rv, c2.2.2.1, if_pos (show (-(Int32.ofNat 1) : Int32) = -1 from rfl), c4, c5]
        by_cases e : q1 = L
        · rw [if_pos e, if_pos (by rw [e])]
        · rw [if_neg e, if_neg (fun z => e ((zeq (by omega) (by omega)).mp z))]
      rw [r80]
      by_cases e : q1 = L
      · rw [if_pos e, if_pos (show Int32.ofNat (thg t L q1) = 256 by rw [te.1.mpr e]; rfl)]
        refine Or.inl ⟨M1, N2, f1, n1', Int32.ofNat i + 1, rfl, ?_, b3.2.1, c2.2.2.1, S2, b5, b6, F2⟩
        unfold jfX12_read_106
        show jgX12_read_23 _ 0 0 _ N2 = _
        unfold jgX12_read_23
        rw [if_pos (show (0 : Int32) = 0 from rfl)]
      · rw [if_neg e, if_neg (show ¬ Int32.ofNat (thg t L q1) = 256 from fun z => e (te.1.mp ((zeq (b := 256) (by omega) (by decide)).mp z)))]
        rcases k_sign (c := 59) ht c2 (by decide) (by decide) (by decide) with ⟨M3, N3, q3, d1, d2, d3, d4, d5, d6, d7⟩ | ⟨N3, d1, d2, d3, d4, d5, d6⟩
        · have d2' : jfX10_takes 59 M1 = sy_ri (Int32.ofNat 1) M3 := d2
          have d3' : jfX12_isSign 59 N2 = sy_ri (Int32.ofNat 1) N3 := d3
          rw [d2', sy_bi_ri, if_neg n1, d3', sy_bi_ri, if_neg n1, show (1 : Int32) = (Int32.ofNat 1) from rfl, zadd]
          exact BL_pre (k_lines ht m (i + 1) k k2 M3 _ q3 f1 n1' (by omega) d4 (SH_g (SH_k S2 d5) d7)) (b6.trans d5.fc) (F2.trans d7.fz) b5
        · have d2' : jfX10_takes 59 M1 = sy_ri (Int32.ofNat 0) M1 := d2
          have d3' : jfX12_isSign 59 N2 = sy_ri (Int32.ofNat 0) N3 := d3
          obtain ⟨M3, e1, e2, e3, e4, e5⟩ := k_fail d4 d6
          rw [d2', sy_bi_ri, if_pos n0, d3', sy_bi_ri, if_pos n0, e1, sy_bi_ri, e2, sy_bv_rv, m_stop (LF_x e3).1]
          exact Or.inr ⟨M3, _, _, rfl, rfl, e3, (hw_fk b4.1 (by decide) e4).dk, b6.trans e4.fc, F2.trans (d5.trans e5).fz⟩
    · obtain ⟨N2, c1, c2, c3⟩ := m_80x (M := M1) (N := N1) (k := k2 + m + 2) (a1 := 0) (a2 := 1) (a3 := Int32.ofNat i) ht b3
      rw [b1, sy_bi_ri, if_pos n0, b2, sy_bv_rv]
      exact Or.inr ⟨M1, N2, _, rfl, c1, c2, b4, b5, a3.fz.trans (b6.trans c3.fz)⟩
/-- a whole text of a house -/
theorem k_text {q n : Nat} {f : Nat → Int32} (ht : ∀ i, t i ≤ 255) (K : LK M N t L q) (Sh : SH M N f n) : BL M N t L f (jfX6_readLines (Int32.ofNat 14) M) (jfX12_read (Int32.ofNat 0) N) := by
  obtain ⟨N0, a1, a2, a3, a4, a5⟩ := k_skip ht K
  have hq := LK_q K
  have te := thg_end (t := t) ht hq.1
  unfold jfX6_readLines jfX12_read jfX12_read_20
  rw [c_thing K.1, sy_bi_ri, a1, sy_bv_rv, a4, a5]
  by_cases e : q = L
  · rw [if_pos (show Int32.ofNat (thg t L q) = 256 by rw [te.1.mpr e]; rfl), if_neg (fun z => by rw [zlt (by omega) (by omega)] at z; omega)]
    refine Or.inl ⟨M, N0, f, n, 0, rfl, ?_, K.2.1, a2.2.2.1, SH_g Sh a3, hl_rfl, fc_rfl, a3.fz⟩
    rw [show sy_F = 5999 + 1 from sy_F_eq]
    show jgX12_read_23 _ _ 0 _ N0 = _
    unfold jgX12_read_23
    rw [if_pos (show (0 : Int32) = 0 from rfl)]
  · rw [if_neg (show ¬ Int32.ofNat (thg t L q) = 256 from fun z => e (te.1.mp ((zeq (b := 256) (by omega) (by decide)).mp z))), if_pos ((zlt (by omega) (by omega)).mpr (by omega))]
    have k := k_lines ht 14 0 5985 5983 M N0 q f n rfl a2 (SH_g Sh a3)
    rw [show sy_F = 6000 from sy_F_eq]
    exact BL_pre k fc_rfl a3.fz hl_rfl
end
