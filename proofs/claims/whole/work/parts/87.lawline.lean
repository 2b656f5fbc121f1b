/-! ===== a line of a law ===== -/
section
variable {M N : sy_M} {t : Nat → Nat} {L : Nat}
/-- a line: its kind, its weight, what it asks -/
abbrev LT := Nat × Nat × ((Nat → Int32) → Bool)
def HB (F : Nat → Int32) (b e : Nat) (mn : (Nat → Int32) → Bool) : Prop := ∀ v, ∃ il lf, hr F v e (b, true, true, 0, 0) (e, mn v, il, lf, 0)
theorem HB_congr {F G : Nat → Int32} {b e : Nat} {mn : (Nat → Int32) → Bool} (B : HB F b e mn) (h : ∀ i, b ≤ i → i < e → G i = F i) : HB G b e mn := by
  intro v
  obtain ⟨il', lf', r⟩ := B v
  exact ⟨il', lf', hr_mono r (Nat.le_refl _) (Nat.le_refl _) h⟩
/-- a law of so many lines -/
def lw (M : sy_M) (a s n : Nat) (g : Nat → LT) : Prop := n ≤ 12 ∧ M a 6 = Int32.ofNat n ∧ ∀ i, i < n → M (a + 1) i = Int32.ofNat (g i).1 ∧ M (a + 2) i = Int32.ofNat (g i).2.1 ∧ (g i).1 ≤ 2 ∧ ∃ b e, M (a + 3) i = Int32.ofNat b ∧ M (a + 4) i = Int32.ofNat e ∧ b ≤ e ∧ e ≤ s ∧ HB (M (a + 5)) b e (g i).2.2
/-- what the class wrote, reading a law -/
def fw (M M1 : sy_M) : Prop := (∀ a, a ≠ 1 → (a < 35 ∨ 40 < a) → M1 a = M a) ∧ M1 1 4 = M 1 4
theorem fw.trans {M M1 M2 : sy_M} (a : fw M M1) (b : fw M1 M2) : fw M M2 := ⟨fun c h h2 => (b.1 c h h2).trans (a.1 c h h2), b.2.trans a.2⟩
theorem fw_rfl {M : sy_M} : fw M M := ⟨fun _ _ _ => rfl, rfl⟩
theorem fl.fw {M M1 : sy_M} (h : fl M M1) : fw M M1 := ⟨fun a h1 h2 => h.1 a h1 (by omega) (by omega), h.2.1⟩
theorem fk.fw {M M1 : sy_M} (h : fk M M1) : fw M M1 := ⟨fun a h1 _ => h.1 a h1, h.2⟩
/-- and the reference -/
def fy (N N1 : sy_M) : Prop := (∀ a, a ≠ 121 → N1 a = N a) ∧ (∀ j, j < 11 ∨ j = 14 ∨ j = 15 ∨ j = 16 ∨ 19 ≤ j → N1 121 j = N 121 j)
theorem fy.trans {N N1 N2 : sy_M} (a : fy N N1) (b : fy N1 N2) : fy N N2 := ⟨fun c h => (b.1 c h).trans (a.1 c h), fun j h => (b.2 j h).trans (a.2 j h)⟩
theorem fy_rfl {N : sy_M} : fy N N := ⟨fun _ _ => rfl, fun _ _ => rfl⟩
theorem fe.fy {N N1 : sy_M} (h : fe N N1) : fy N N1 := ⟨h.1, fun j hj => h.2 j (by omega) (by omega) (by omega)⟩
theorem fe_17 {N N1 : sy_M} (h : fe N N1) : N1 121 17 = N 121 17 ∧ N1 121 18 = N 121 18 := ⟨h.2 17 (by decide) (by decide) (by decide), h.2 18 (by decide) (by decide) (by decide)⟩
/-- what a line adds to the turn, and whether it refuses -/
def tst (v : Nat → Int32) (l : LT) (x : Int32) : Int32 := bif l.2.2 v then (if l.1 = 2 then x else if l.1 = 0 then x + Int32.ofNat l.2.1 else x + -(Int32.ofNat l.2.1)) else x
def rst (v : Nat → Int32) (l : LT) (r : Bool) : Bool := r || (decide (l.1 = 2) && l.2.2 v)
theorem m_102 {q d k w : Nat} {v : Nat → Int32} {r b : Bool} (h : RS N t L q v d) (h18 : N 121 18 = bz r) (hk2 : k ≤ 2) (mn : (Nat → Int32) → Bool) (hb : mn v = b) : ∃ N1, jfX12_lawLine_102 (Int32.ofNat k) (Int32.ofNat w) (bz b) N = sy_rv N1 ∧ RS N1 t L q v d ∧ fy N N1 ∧ N1 121 17 = tst v (k, w, mn) (N 121 17) ∧ N1 121 18 = bz (rst v (k, w, mn) r) := by
  unfold tst rst
  simp only [hb]
  have mo : (-(Int32.ofNat 1) : Int32) = -1 := rfl
  have h0 := h
  obtain ⟨h1, ⟨p0, h2, h3, h4⟩, h5, h6, h7, h8, h9, h10⟩ := h
  cases b
  · refine ⟨N, ?_, h0, fy_rfl, rfl, ?_⟩
    · unfold jfX12_lawLine_102
      rw [h1, if_pos mo, if_pos (show bz false = 0 from rfl)]
    · rw [h18, Bool.and_false, Bool.or_false]
  · have gen : ∀ (s0 : Bool) (x : Int32), ∃ N1, N1 = syc N 121 (rs (rs (N 121) 18 (bz s0)) 17 x) ∧ RS N1 t L q v d ∧ fy N N1 ∧ N1 121 17 = x ∧ N1 121 18 = bz s0 := by
      intro s0 x
      have j : ∀ j, j ≠ 17 → j ≠ 18 → (syc N 121 (rs (rs (N 121) 18 (bz s0)) 17 x)) 121 j = N 121 j := fun j a b => by rw [syc_at, rs_ne _ _ a, rs_ne _ _ b]
      have rt1 : rt (syc N 121 (rs (rs (N 121) 18 (bz s0)) 17 x)) t L p0 := by
        obtain ⟨a, b, c, e, f⟩ := h2
        refine ⟨(j _ (by decide) (by decide)).trans a, (j _ (by decide) (by decide)).trans b, c, e, ?_⟩
        rcases f with ⟨e1, e2⟩ | ⟨e1, e2⟩
        · exact Or.inl ⟨(j _ (by decide) (by decide)).trans e1, fun i hi => by rw [syc_ne _ _ (by decide)]; exact e2 i hi⟩
        · exact Or.inr ⟨(j _ (by decide) (by decide)).trans e1, fun i hi => by rw [syc_ne _ _ (by decide)]; exact e2 i hi⟩
      refine ⟨_, rfl, ⟨(j _ (by decide) (by decide)).trans h1, ⟨p0, rt1, h3, h4⟩, fun i hi => by rw [syc_ne _ _ (by decide)]; exact h5 i hi, (j _ (by decide) (by decide)).trans h6, (j _ (by decide) (by decide)).trans h7, h8, h9, (j _ (by decide) (by decide)).trans h10⟩, ⟨fun a ha => syc_ne _ _ ha, fun i hi => j i (by omega) (by omega)⟩, by rw [syc_at, rs_at], by rw [syc_at, rs_ne _ _ (by decide), rs_at]⟩
    obtain ⟨N1, e1, e2, e3, e4, e5⟩ := gen (r || (decide (k = 2) && true)) (if k = 2 then N 121 17 else if k = 0 then N 121 17 + Int32.ofNat w else N 121 17 + -(Int32.ofNat w))
    refine ⟨N1, ?_, e2, e3, e4, e5⟩
    have e134 : jfX12_lawLine_102 (Int32.ofNat k) (Int32.ofNat w) (bz true) N = jfX12_lawLine_134 (Int32.ofNat k) (Int32.ofNat w) (bz (r || (decide (k = 2) && true))) N := by
      unfold jfX12_lawLine_102 jfX12_lawLine_129
      rw [h1, if_pos mo, if_neg (show ¬ bz true = 0 by decide), h18]
      cases r
      · rw [if_pos (show bz false = 0 from rfl)]
        by_cases hk : k = 2
        · rw [if_pos (show Int32.ofNat k = 2 by rw [hk]; rfl), decide_eq_true hk]; rfl
        · rw [if_neg (show ¬ Int32.ofNat k = 2 from fun z => hk ((zeq (b := 2) (by omega) (by decide)).mp z)), decide_eq_false hk]; rfl
      · rw [if_neg (show ¬ bz true = 0 by decide)]; rfl
    rw [e134, e1]
    unfold jfX12_lawLine_134
    rw [bz_bo, sy_bb_t]
    simp only [sy_upd_st, syc_at, syc_st]
    rw [rs_ne _ _ (show (17 : Nat) ≠ 18 by decide)]
    by_cases k0 : k = 0
    · subst k0
      rw [if_pos (show (Int32.ofNat 0 : Int32) = 0 from rfl), if_neg (show ¬ (0 : Nat) = 2 by decide), if_pos rfl]
    · rw [if_neg (show ¬ Int32.ofNat k = 0 from fun z => k0 ((zeq (b := 0) (by omega) (by decide)).mp z))]
      by_cases k1 : k = 1
      · subst k1
        rw [if_pos (show (Int32.ofNat 1 : Int32) = 1 from rfl), if_neg (show ¬ (1 : Nat) = 2 by decide), if_neg k0]
      · have k2 : k = 2 := by omega
        subst k2
        rw [if_neg (show ¬ (Int32.ofNat 2 : Int32) = 1 by decide), if_pos rfl, Int32.add_zero]
theorem m_102x {k w : Int32} {b : Bool} (hx : N 121 12 ≠ -(Int32.ofNat 1)) : jfX12_lawLine_102 k w (bz b) N = sy_rv N := by
  unfold jfX12_lawLine_102
  rw [if_neg (show ¬ N 121 12 = -1 from hx)]
/-- a line is added -/
def gset (g : Nat → LT) (n : Nat) (l : LT) : Nat → LT := fun i => if i = n then l else g i
theorem c_addLine {s n k w b : Nat} {g : Nat → LT} {mn : (Nat → Int32) → Bool} (W : lw M 35 s n g) (hn : n < 12) (h5 : M 35 5 = Int32.ofNat s) (hs : s < 512) (hk2 : k ≤ 2) (hb : b ≤ s) (B : HB (M 40) b s mn) : ∃ M1, jfX4_addLine 35 (Int32.ofNat k) (Int32.ofNat w) (Int32.ofNat b) M = sy_rv M1 ∧ lw M1 35 s (n + 1) (gset g n (k, w, mn)) ∧ M1 35 5 = Int32.ofNat s ∧ (∀ a, (a < 35 ∨ 39 < a) → M1 a = M a) := by
  obtain ⟨w1, w2, w3⟩ := W
  have is4 : sy_is 4 35 = true := rfl
  refine ⟨syc (syc (syc (syc (syc M 36 (rs (M 36) n (Int32.ofNat k))) 37 (rs (M 37) n (Int32.ofNat w))) 38 (rs (M 38) n (Int32.ofNat b))) 39 (rs (M 39) n (Int32.ofNat s))) 35 (rs (M 35) 6 (Int32.ofNat (n + 1))), ?_, ⟨by omega, ?_, ?_⟩, ?_, ?_⟩
  · unfold jfX4_addLine
    rw [is4, sy_bs_t, w2, if_neg (show ¬ Int32.ofNat n < 0 from znn n (by omega)), sy_bs_t, if_pos (show Int32.ofNat n < 12 from (zlt (b := 12) (by omega) (by decide)).mpr hn)]
    simp only [sy_bs_t, show 35 + 1 = 36 from rfl, show 35 + 2 = 37 from rfl, show 35 + 3 = 38 from rfl, show 35 + 4 = 39 from rfl, show sy_li 36 = 12 from rfl, show sy_li 37 = 12 from rfl, show sy_li 38 = 12 from rfl, show sy_li 39 = 12 from rfl, zin hn (by decide), sy_bx_t, zix (show n < 2147483648 by omega), sy_upd_st]
    simp (disch := decide) only [syc_ne, w2, zin hn (by decide), sy_bx_t, zix (show n < 2147483648 by omega), h5]
    rw [show Int32.ofNat n + 1 = Int32.ofNat (n + 1) from zadd n 1]
  · rw [syc_at, rs_at]
  · intro i hi
    simp (disch := decide) only [show 35 + 1 = 36 from rfl, show 35 + 2 = 37 from rfl, show 35 + 3 = 38 from rfl, show 35 + 4 = 39 from rfl, show 35 + 5 = 40 from rfl, syc_ne, syc_at]
    unfold gset
    by_cases h : i = n
    · subst h
      simp only [rs_at, if_true]
      exact ⟨trivial, trivial, hk2, b, s, rfl, rfl, hb, Nat.le_refl _, B⟩
    · simp only [rs_ne _ _ h, if_neg h]
      exact w3 i (by omega)
  · rw [syc_at, rs_ne _ _ (by decide)]; exact h5
  · intro a ha
    rw [syc_ne _ _ (by omega), syc_ne _ _ (by omega), syc_ne _ _ (by omega), syc_ne _ _ (by omega), syc_ne _ _ (by omega)]
theorem lw_up {M1 : sy_M} {s s1 n : Nat} {g : Nat → LT} (W : lw M 35 s n g) (F : fl M M1) (h40 : ∀ i, i < s → M1 40 i = M 40 i) (hs : s ≤ s1) : lw M1 35 s1 n g := by
  obtain ⟨w1, w2, w3⟩ := W
  refine ⟨w1, F.2.2.trans w2, fun i hi => ?_⟩
  obtain ⟨a1, a2, a3, b, e, a4, a5, a6, a7, a8⟩ := w3 i hi
  refine ⟨by rw [F.1 36 (by decide) (by decide) (by decide)]; exact a1, by rw [F.1 37 (by decide) (by decide) (by decide)]; exact a2, a3, b, e, by rw [F.1 38 (by decide) (by decide) (by decide)]; exact a4, by rw [F.1 39 (by decide) (by decide) (by decide)]; exact a5, a6, by omega, HB_congr a8 (fun j _ hj => h40 j (by omega))⟩
/-- what reading a line comes to -/
def LR (x0 : sy_O) (M0 : sy_M) (t : Nat → Nat) (L q0 n : Nat) (g : Nat → LT) : Prop := (∃ M1 q1 s1 l, x0 = sy_ri (Int32.ofNat 1) M1 ∧ CS M1 t L q1 s1 ∧ q0 < q1 ∧ s1 ≤ q1 ∧ lw M1 35 s1 (n + 1) (gset g n l) ∧ fw M0 M1 ∧ ∀ N v r, RS N t L q0 v 0 → N 121 18 = bz r → ∃ N1, jfX12_lawLine N = sy_rv N1 ∧ RS N1 t L q1 v 0 ∧ fy N N1 ∧ N1 121 17 = tst v l (N 121 17) ∧ N1 121 18 = bz (rst v l r)) ∨ (∃ M1 w, x0 = sy_ri (Int32.ofNat 0) M1 ∧ M1 1 7 = Int32.ofNat w ∧ w ≤ L ∧ fw M0 M1 ∧ ∀ N v, RS N t L q0 v 0 → ∃ N1, jfX12_lawLine N = sy_rv N1 ∧ RX N1 t L w 0 ∧ fe N N1)
/-- behind the weight -/
theorem k_77 {M0 : sy_M} {q0 q s n k w : Nat} {g : Nat → LT} {y : sy_M → sy_O} (ht : ∀ i, t i ≤ 255) (hL : L ≤ 400) (C : CS M t L q s) (hq0 : q0 < q) (hs : s < q) (W : lw M 35 s n g) (hn : n < 12) (hk2 : k ≤ 2) (hw60 : w ≤ 60) (F : fw M0 M) (R : ∀ N v, RS N t L q0 v 0 → ∃ N1, jfX12_lawLine N = jfX12_lawLine_71 (Int32.ofNat k) (Int32.ofNat w) N1 ∧ RS N1 t L q v 0 ∧ fe N N1) : LR (jfX5_readLine_77 (Int32.ofNat k) (Int32.ofNat w) M) M0 t L q0 n g := by
  have hqL := CS_L C
  have n1 : ¬ (Int32.ofNat 1) = (0 : Int32) := by decide
  have n0 : (Int32.ofNat 0) = (0 : Int32) := rfl
  have mo : (-(Int32.ofNat 1) : Int32) = -1 := rfl
  have wm : ¬ Int32.ofNat w = -1 := fun z => znn w (by omega) (by rw [z]; decide)
  by_cases h276 : thg t L q = 276
  · rcases c_takes (c := 276) ht C.1 (by decide) (by decide) with ⟨_, M1, a2, a3, a4, a5, a6⟩ | ⟨a1, _⟩
    rotate_left
    · exact absurd h276 a1
    have a2' : jfX10_takes 276 M = sy_ri (Int32.ofNat 1) M1 := a2
    have tg := ten_gt (t := t) a6
    have ng := nxt_ge (t := t) tg.2
    have C1 : CS M1 t L (nxt t L (ten t L q)) s := ⟨a3, a5.trans C.2.1, fk_35 a4 C.2.2⟩
    have D12 : sy_D = 12 := sy_D_eq
    have EA : ∀ M q s, CS M t L q s → s ≤ q → ER (jfX5_readAtom sy_D (Int32.ofNat 0) M) (jfX12_atom sy_D) M t L q s 0 := fun M q s c h => k_atom ht hL sy_D 0 M q s (by omega) (by omega) c h
    have EB : ∀ M q s, CS M t L q s → s ≤ q → ER (jfX5_readAll (jfX5_readAtom sy_D) (Int32.ofNat 0) M) (jfX12_every (jfX12_atom sy_D)) M t L q s 0 := fun M q s c h => k_all ht hL EA c h
    have cl : jfX5_readLine_77 (Int32.ofNat k) (Int32.ofNat w) M = sy_bi (jfX5_readAny (jfX5_readAtom sy_D) (Int32.ofNat 0) M1) fun v5 M4 => if v5 = 0 then sy_ri 0 M4 else jfX5_readLine_116 (Int32.ofNat k) (Int32.ofNat w) (Int32.ofNat s) M4 := by
      unfold jfX5_readLine_77
      rw [if_neg wm, C.2.2]
      simp only
      rw [a2', sy_bi_ri, if_neg n1]
      rfl
    have rl : ∀ N v, RS N t L q0 v 0 → ∃ N1, jfX12_lawLine N = (sy_bi (jfX12_some (jfX12_atom sy_D) N1) fun v4 M3 => if v4 = 0 then jfX12_lawLine_102 (Int32.ofNat k) (Int32.ofNat w) 0 M3 else jfX12_lawLine_97 (Int32.ofNat k) (Int32.ofNat w) M3) ∧ RS N1 t L (nxt t L (ten t L q)) v 0 ∧ fe N N1 := by
      intro N v h
      obtain ⟨N1, r1, r2, r3⟩ := R N v h
      have gh := (RS_has (i := 16) ht r2 (by decide) w_if).1 h276
      refine ⟨_, ?_, gh.2, r3.trans fg_m11.fe⟩
      rw [r1]
      unfold jfX12_lawLine_71
      rw [r2.1, if_pos mo, gh.1, sy_bi_ri, if_neg n1]
    rw [cl]
    rcases k_any ht hL EB C1 (by omega) with ⟨M2, q2, s2, mn, b1, b2, b3, b4, b5, b6, b7, b8, b9⟩ | ⟨M2, z, b1, b2, b3, b4, b5⟩
    · have hq2 := CS_L b2
      have W2 : lw M2 35 s2 n g := lw_up (lw_up W a4.fl (fun i _ => by rw [a4.1 40 (by decide)]) (Nat.le_refl _)) b8 b6 (by omega)
      have HBx : HB (M2 40) s s2 mn := fun v => b7 v true true 0
      obtain ⟨M3, c1, c2, c3, c4⟩ := c_addLine (k := k) (w := w) W2 hn b2.2.2 (by omega) hk2 (show s ≤ s2 by omega) HBx
      refine Or.inl ⟨M3, q2, s2, (k, w, mn), ?_, ⟨ct_congr b2.1 (fun a ha => c4 a (by omega)), by rw [c4 1 (by omega)]; exact b2.2.1, c3⟩, by omega, by omega, c2, ?_, ?_⟩
      · rw [b1, sy_bi_ri, if_neg n1]
        unfold jfX5_readLine_116
        rw [c1, sy_bv_rv]
        rfl
      · exact F.trans (a4.fw.trans (b8.fw.trans ⟨fun a _ h => c4 a (by omega), by rw [c4 1 (by omega)]⟩))
      · intro N v r h h18
        obtain ⟨N1, r1, r2, r3⟩ := rl N v h
        obtain ⟨N2, r4, r5, r6⟩ := b9 N1 v r2
        have k17 := fe_17 (r3.trans r6)
        obtain ⟨N3, d1, d2, d3, d4, d5⟩ := m_102 (k := k) (w := w) (r := r) (b := mn v) r5 (k17.2.trans h18) hk2 mn rfl
        refine ⟨N3, ?_, d2, (r3.trans r6).fy.trans d3, by rw [d4, k17.1], d5⟩
        rw [r1, r4, sy_bi_ri, ← d1]
        unfold jfX12_lawLine_97
        cases mn v <;> rfl
    · refine Or.inr ⟨M2, z, ?_, b2, b3, F.trans (a4.fw.trans b4.fw), ?_⟩
      · rw [b1, sy_bi_ri, if_pos n0]; rfl
      · intro N v h
        obtain ⟨N1, r1, r2, r3⟩ := rl N v h
        obtain ⟨x, N2, r4, r5, r6⟩ := b5 N1 v r2
        refine ⟨N2, ?_, r5, r3.trans r6⟩
        rw [r1, r4, sy_bi_ri]
        unfold jfX12_lawLine_97
        have e0 := m_102x (k := Int32.ofNat k) (w := Int32.ofNat w) (b := false) (RX_x r5)
        have e1 := m_102x (k := Int32.ofNat k) (w := Int32.ofNat w) (b := true) (RX_x r5)
        cases x
        · exact e0
        · exact e1
  · have t276 : jfX10_takes 276 M = sy_ri (Int32.ofNat 0) M := by
      rcases c_takes (c := 276) ht C.1 (by decide) (by decide) with ⟨b1, _⟩ | ⟨_, b2⟩
      · exact absurd b1 h276
      · exact b2
    have HBx : HB (M 40) s s (fun _ => true) := fun v => ⟨true, 0, hr.refl _⟩
    obtain ⟨M3, c1, c2, c3, c4⟩ := c_addLine (k := k) (w := w) W hn C.2.2 (by omega) hk2 (Nat.le_refl s) HBx
    refine Or.inl ⟨M3, q, s, (k, w, fun _ => true), ?_, ⟨ct_congr C.1 (fun a ha => c4 a (by omega)), by rw [c4 1 (by omega)]; exact C.2.1, c3⟩, by omega, by omega, c2, F.trans ⟨fun a _ h => c4 a (by omega), by rw [c4 1 (by omega)]⟩, ?_⟩
    · unfold jfX5_readLine_77
      rw [if_neg wm, C.2.2]
      simp only
      rw [t276, sy_bi_ri, if_pos n0]
      unfold jfX5_readLine_116
      rw [c1, sy_bv_rv]
      rfl
    · intro N v r h h18
      obtain ⟨N1, r1, r2, r3⟩ := R N v h
      have gh := (RS_has (i := 16) ht r2 (by decide) w_if).2 h276
      have k17 := fe_17 (r3.trans (fg_m11 (p := q)).fe)
      obtain ⟨N3, d1, d2, d3, d4, d5⟩ := m_102 (k := k) (w := w) (r := r) (b := true) gh.2 (k17.2.trans h18) hk2 (fun _ => true) rfl
      refine ⟨N3, ?_, d2, (r3.trans fg_m11.fe).fy.trans d3, by rw [d4, k17.1], d5⟩
      rw [r1, ← d1]
      unfold jfX12_lawLine_71
      rw [r2.1, if_pos mo, gh.1, sy_bi_ri, if_pos n0]
      rfl
theorem c_kind {c : Nat} (hc : c < 300) : jfX5_kindOf (Int32.ofNat c) M = sy_ri (Int32.ofNat (if c = 273 then 0 else if c = 274 then 1 else 2)) M := by
  unfold jfX5_kindOf
  by_cases h : c = 273
  · rw [if_pos h, if_pos (show Int32.ofNat c = 273 by rw [h]; rfl)]; rfl
  · rw [if_neg h, if_neg (show ¬ Int32.ofNat c = 273 from fun z => h ((zeq (b := 273) (by omega) (by decide)).mp z))]
    by_cases h2 : c = 274
    · rw [if_pos h2, if_pos (show Int32.ofNat c = 274 by rw [h2]; rfl)]; rfl
    · rw [if_neg h2, if_neg (show ¬ Int32.ofNat c = 274 from fun z => h2 ((zeq (b := 274) (by omega) (by decide)).mp z))]; rfl
/-- behind the first word -/
theorem k_58 {M0 : sy_M} {q0 q s n k : Nat} {g : Nat → LT} (ht : ∀ i, t i ≤ 255) (hL : L ≤ 400) (C : CS M t L q s) (hq0 : q0 < q) (hs : s < q) (W : lw M 35 s n g) (hn : n < 12) (hk2 : k ≤ 2) (F : fw M0 M) (R : ∀ N v, RS N t L q0 v 0 → ∃ N1, jfX12_lawLine N = jfX12_lawLine_40 (Int32.ofNat k) N1 ∧ RS N1 t L q v 0 ∧ fe N N1) : LR (jfX5_readLine_58 (Int32.ofNat k) M) M0 t L q0 n g := by
  have hqL := CS_L C
  have km : ¬ Int32.ofNat k = -1 := fun z => znn k (by omega) (by rw [z]; decide)
  unfold jfX5_readLine_58
  by_cases k2 : k = 2
  · rw [if_pos (show Int32.ofNat k = 2 by rw [k2]; rfl)]
    refine k_77 (y := jfX12_lawLine) (w := 0) ht hL C hq0 hs W hn hk2 (by omega) F ?_
    intro N v h
    obtain ⟨N1, r1, r2, r3⟩ := R N v h
    refine ⟨N1, ?_, r2, r3⟩
    rw [r1]
    unfold jfX12_lawLine_40
    rw [if_neg km, if_pos (show Int32.ofNat k = 2 by rw [k2]; rfl)]
    rfl
  · have kn : ¬ Int32.ofNat k = 2 := fun z => k2 ((zeq (b := 2) (by omega) (by decide)).mp z)
    rw [if_neg kn]
    rcases c_takesNumber (lo := 0) (hi := (Int32.ofNat 60)) ht C.1 (by decide) with ⟨a1, M1, a2, a3, a4, a5⟩ | ⟨a1, M1, a2, a4, a5⟩
    · obtain ⟨n1', n2', n3'⟩ := (thg_num ht hqL).mp a1.1
      have nv := nuv_le n1' n2' n3'
      have tg := ten_gt (t := t) n1'
      have ng := nxt_ge (t := t) tg.2
      have v60 : nuv t L q ≤ 60 := by
        have := mt (zlt (a := 60) (b := nuv t L q) (by omega) (by omega)).mpr a1.2.2
        omega
      have a2' : jfX10_takesNumber 0 60 M = sy_ri (Int32.ofNat (nuv t L q)) M1 := a2
      rw [a2', sy_bi_ri]
      refine k_77 (y := jfX12_lawLine) (w := nuv t L q) ht hL (q := nxt t L (ten t L q)) ⟨a3, a5.trans C.2.1, fk_35 a4 C.2.2⟩ (by omega) (by omega) (lw_up W a4.fl (fun i _ => by rw [a4.1 40 (by decide)]) (Nat.le_refl _)) hn hk2 v60 (F.trans a4.fw) ?_
      intro N v h
      obtain ⟨N1, r1, r2, r3⟩ := R N v h
      obtain ⟨h1, ⟨p0, h2, h3, h4⟩, h5⟩ := id r2
      rcases m_figures (lo := 0) (hi := (Int32.ofNat 60)) h2 ht h3 h1 (by decide) with ⟨b1, b2⟩ | ⟨b1, _⟩
      · rw [h4] at b2
        have b2' : jfX12_figures 0 60 N1 = sy_ri (Int32.ofNat (nuv t L q)) (m11 N1 (ten t L q)) := b2
        refine ⟨_, ?_, RS_11 r2 tg.2 rfl, r3.trans fg_m11.fe⟩
        rw [r1]
        unfold jfX12_lawLine_40
        rw [if_neg km, if_neg kn, b2', sy_bi_ri]
      · rw [h4] at b1; exact absurd a1 b1
    · have a2' : jfX10_takesNumber 0 60 M = sy_ri (-(Int32.ofNat 1)) M1 := a2
      rw [a2', sy_bi_ri]
      refine Or.inr ⟨M1, q, ?_, a5, hqL, F.trans a4.fw, ?_⟩
      · unfold jfX5_readLine_77
        rw [if_pos (show (-(Int32.ofNat 1) : Int32) = -1 from rfl)]; rfl
      · intro N v h
        obtain ⟨N1, r1, r2, r3⟩ := R N v h
        obtain ⟨h1, ⟨p0, h2, h3, h4⟩, h5⟩ := id r2
        have := rt_le h2
        rcases m_figures (lo := 0) (hi := (Int32.ofNat 60)) h2 ht h3 h1 (by decide) with ⟨b1, _⟩ | ⟨b1, x, p1, b2, b3⟩
        · rw [h4] at b1; exact absurd b1 a1
        · rw [h4] at b3
          have b3' : jfX12_figures 0 60 N1 = sy_ri x (m12 (m11 N1 p1) q) := b3
          have rx : RX (m12 (m11 N1 p1) q) t L q 0 := ⟨m12_12, hqL, p1, rt_12 (rt_11 h2 (by omega)), by omega⟩
          refine ⟨_, ?_, rx, r3.trans (fg_m11.trans fg_m12).fe⟩
          rw [r1]
          unfold jfX12_lawLine_40
          rw [if_neg km, if_neg kn, b3', sy_bi_ri]
          unfold jfX12_lawLine_71
          rw [if_neg (show ¬ m12 (m11 N1 p1) q 121 12 = -1 from RX_x rx)]
theorem k_lawLine {q s n : Nat} {g : Nat → LT} (ht : ∀ i, t i ≤ 255) (hL : L ≤ 400) (C : CS M t L q s) (hs : s ≤ q) (W : lw M 35 s n g) (hn : n < 12) : LR (jfX5_readLine M) M t L q n g := by
  have hqL := CS_L C
  have te := thg_end (t := t) ht hqL
  have n1 : ¬ (Int32.ofNat 1) = (0 : Int32) := by decide
  have n0 : (Int32.ofNat 0) = (0 : Int32) := rfl
  have word : ∀ (i r : Nat) (M1 : sy_M), i < 25 → thg t L q = 260 + i → ct M1 t L (nxt t L (ten t L q)) → fk M M1 → M1 1 7 = M 1 7 → CS M1 t L (nxt t L (ten t L q)) s ∧ q < nxt t L (ten t L q) ∧ lw M1 35 s n g := by
    intro i r M1 hi h c f e7
    have tw := ten_word ht hqL hi h
    have tg := ten_gt (t := t) tw.2
    have ng := nxt_ge (t := t) tg.2
    exact ⟨⟨c, e7.trans C.2.1, fk_35 f C.2.2⟩, by omega, lw_up W f.fl (fun i _ => by rw [f.1 40 (by decide)]) (Nat.le_refl _)⟩
  unfold jfX5_readLine
  rw [c_thing C.1, sy_bi_ri, c_kind te.2, sy_bi_ri]
  by_cases h273 : thg t L q = 273
  · rcases c_takes (c := 273) ht C.1 (by decide) (by decide) with ⟨_, M1, a2, a3, a4, a5, a6⟩ | ⟨a1, _⟩
    rotate_left
    · exact absurd h273 a1
    have a2' : jfX10_takes 273 M = sy_ri (Int32.ofNat 1) M1 := a2
    obtain ⟨w1, w2, w3⟩ := word 13 0 M1 (by decide) h273 a3 a4 a5
    rw [a2', sy_bi_ri, if_neg n1, if_pos h273]
    refine k_58 ht hL w1 w2 (by omega) w3 hn (by omega) a4.fw ?_
    intro N v h
    have gh := (RS_has (i := 13) ht h (by decide) w_turn).1 h273
    refine ⟨_, ?_, gh.2, fg_m11.fe⟩
    unfold jfX12_lawLine
    rw [gh.1, sy_bi_ri, if_neg n1]
    rfl
  have t273 : jfX10_takes 273 M = sy_ri (Int32.ofNat 0) M := by
    rcases c_takes (c := 273) ht C.1 (by decide) (by decide) with ⟨b1, _⟩ | ⟨_, b2⟩
    · exact absurd b1 h273
    · exact b2
  rw [t273, sy_bi_ri, if_pos n0, if_neg h273]
  have r273 : ∀ N v, RS N t L q v 0 → jfX12_has 1500001 N = sy_ri (Int32.ofNat 0) (m11 N q) ∧ RS (m11 N q) t L q v 0 := fun N v h => (RS_has (i := 13) ht h (by decide) w_turn).2 h273
  by_cases h274 : thg t L q = 274
  · rcases c_takes (c := 274) ht C.1 (by decide) (by decide) with ⟨_, M1, a2, a3, a4, a5, a6⟩ | ⟨a1, _⟩
    rotate_left
    · exact absurd h274 a1
    have a2' : jfX10_takes 274 M = sy_ri (Int32.ofNat 1) M1 := a2
    obtain ⟨w1, w2, w3⟩ := word 14 0 M1 (by decide) h274 a3 a4 a5
    rw [a2', sy_bi_ri, if_neg n1, if_pos h274]
    refine k_58 ht hL w1 w2 (by omega) w3 hn (by omega) a4.fw ?_
    intro N v h
    have g0 := r273 N v h
    have gh := (RS_has (i := 14) ht g0.2 (by decide) w_spare).1 h274
    refine ⟨_, ?_, gh.2, fg_m11.fe.trans fg_m11.fe⟩
    unfold jfX12_lawLine
    rw [g0.1, sy_bi_ri, if_pos n0, gh.1, sy_bi_ri, if_neg n1]
    rfl
  have t274 : jfX10_takes 274 M = sy_ri (Int32.ofNat 0) M := by
    rcases c_takes (c := 274) ht C.1 (by decide) (by decide) with ⟨b1, _⟩ | ⟨_, b2⟩
    · exact absurd b1 h274
    · exact b2
  rw [t274, sy_bi_ri, if_pos n0, if_neg h274]
  have r274 : ∀ N v, RS N t L q v 0 → ∃ N1, RS N1 t L q v 0 ∧ fe N N1 ∧ jfX12_lawLine N = (sy_bi (jfX12_has 1500003 N1) fun v6 M5 => if v6 = 0 then jfX12_lawLine_40 (-1) M5 else jfX12_lawLine_40 2 M5) := by
    intro N v h
    have g0 := r273 N v h
    have gh := (RS_has (i := 14) ht g0.2 (by decide) w_spare).2 h274
    refine ⟨_, gh.2, fg_m11.fe.trans fg_m11.fe, ?_⟩
    unfold jfX12_lawLine
    rw [g0.1, sy_bi_ri, if_pos n0, gh.1, sy_bi_ri, if_pos n0]
  by_cases h275 : thg t L q = 275
  · rcases c_takes (c := 275) ht C.1 (by decide) (by decide) with ⟨_, M1, a2, a3, a4, a5, a6⟩ | ⟨a1, _⟩
    rotate_left
    · exact absurd h275 a1
    have a2' : jfX10_takes 275 M = sy_ri (Int32.ofNat 1) M1 := a2
    obtain ⟨w1, w2, w3⟩ := word 15 0 M1 (by decide) h275 a3 a4 a5
    rw [a2', sy_bi_ri, if_neg n1]
    refine k_58 ht hL w1 w2 (by omega) w3 hn (by omega) a4.fw ?_
    intro N v h
    obtain ⟨N1, r1, r2, r3⟩ := r274 N v h
    have gh := (RS_has (i := 15) ht r1 (by decide) w_refuse).1 h275
    refine ⟨_, ?_, gh.2, r2.trans fg_m11.fe⟩
    rw [r3, gh.1, sy_bi_ri, if_neg n1]
    rfl
  have t275 : jfX10_takes 275 M = sy_ri (Int32.ofNat 0) M := by
    rcases c_takes (c := 275) ht C.1 (by decide) (by decide) with ⟨b1, _⟩ | ⟨_, b2⟩
    · exact absurd b1 h275
    · exact b2
  obtain ⟨M1, b1, b2, b3⟩ := c_fails C.1
  rw [t275, sy_bi_ri, if_pos n0, b1, sy_bi_ri]
  refine Or.inr ⟨M1, q, rfl, b2, hqL, b3.fw, ?_⟩
  intro N v h
  obtain ⟨N1, r1, r2, r3⟩ := r274 N v h
  have gh := (RS_has (i := 15) ht r1 (by decide) w_refuse).2 h275
  obtain ⟨w1, w2, w3⟩ := RS_wrong gh.2 (by unfold m11; rw [syc_at, rs_at])
  refine ⟨_, ?_, w2, (r2.trans fg_m11.fe).trans w3⟩
  rw [r3, gh.1, sy_bi_ri, if_pos n0]
  unfold jfX12_lawLine_40
  rw [if_pos rfl, w1, sy_bv_rv]
end
