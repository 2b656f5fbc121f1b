/-! ===== the class's ticks ===== -/
theorem zto (n : Nat) : Nat.toInt32 n = Int32.ofNat n := rfl
theorem c_min (M : sy_M) (a b : Int32) : jfJ9_min_7cf53 a b M = sy_ri (if b < a then b else a) M := by
  unfold jfJ9_min_7cf53
  split <;> rfl
theorem sp_min_c (a b : Int32) : (if b < a then b else a) = sp_min a b := by
  unfold sp_min
  by_cases h1 : b < a
  · rw [if_pos h1, if_neg (fun h => Int32.lt_irrefl (Int32.lt_trans h h1))]
  · rw [if_neg h1]
    by_cases h2 : a < b
    · rw [if_pos h2]
    · rw [if_neg h2]
      exact Int32.le_antisymm (Int32.not_lt.mp h1) (Int32.not_lt.mp h2)
theorem c_lesser (M : sy_M) (a b : Int32) : jfJ9_min_7cf53 a b M = sy_ri (sp_min a b) M := by rw [c_min, sp_min_c]
theorem hv_log {M : sy_M} {h : Nat} {f : Nat → Int32} {w p : Int32} (H : hv M h f) : hv M h (sp_log f w p) := hv_row H (fun i h1 h2 => sp_log_lo _ _ _ h1 h2)
theorem sp_log_0 (f : Nat → Int32) (w p : Int32) {v : Nat} (hv : v < 5) : sp_log f w p (126 + v) = [f 5, f 4, w, p, f 6].getD v 0 := by
  unfold sp_log
  rw [rs_ne _ _ (by omega)]
  rcases (show v = 0 ∨ v = 1 ∨ v = 2 ∨ v = 3 ∨ v = 4 by omega) with e | e | e | e | e <;> subst e <;> rfl
theorem sp_log_s (f : Nat → Int32) (w p : Int32) {i : Nat} (h1 : 131 ≤ i) (h2 : i < 426) : sp_log f w p i = f (i - 5) := by
  unfold sp_log
  rw [rs_ne _ _ (by omega), rs_ne _ _ (by omega), rs_ne _ _ (by omega), rs_ne _ _ (by omega), rs_ne _ _ (by omega), rs_ne _ _ (by omega)]
  unfold sp_sh
  rw [if_pos (by omega)]
theorem c_add {M : sy_M} {h : Nat} {f : Nat → Int32} (H : hw M h f) (w p : Int32) : ∃ M1, jfX7_add (h + 3) h w p M = sy_rv M1 ∧ hw M1 h (sp_log f w p) ∧ fh h M M1 := by
  obtain ⟨H, L⟩ := H
  have hl := h_lt H.1
  have h6 := h_6 H.1
  have h4 := h_300 H.1
  have ha := h_a4 H.1
  rcases L with ⟨e, k0, k3⟩ | ⟨e, k0, r, nx, hr, hx, f12, k2, k3, kc⟩
  · refine ⟨M, ?_, ⟨hv_log H, Or.inl ⟨e, k0, k3⟩⟩, fh_rfl⟩
    subst e
    rw [if_pos rfl] at h4
    simp (disch := omega) only [jfX7_add, h6, sy_bs_t, k3, zL, zmul, zlt, if_neg, if_pos, h_31, ha, Bool.true_or, sy_bb_t, sy_len_li, h4, zto, zadd]
  · rw [if_neg e] at h4
    refine ⟨syc (syc M (h + 4) (rs (rs (rs (rs (rs (M (h + 4)) (5 * nx) (f 5)) (5 * nx + 1) (f 4)) (5 * nx + 2) w) (5 * nx + 3) p) (5 * nx + 4) (f 6))) (h + 3) (rs (rs (M (h + 3)) 3 (Int32.ofNat (if nx + 1 < 60 then nx + 1 else 0))) 2 (Int32.ofNat (min 60 (r + 1)))), ?_, ⟨?_, Or.inr ⟨e, ?_, min 60 (r + 1), if nx + 1 < 60 then nx + 1 else 0, Nat.min_le_left _ _, ?_, ?_, ?_, ?_, ?_⟩⟩, ?_⟩
    · simp (disch := omega) only [jfX7_add, jfX7_add_70, jfX7_add_107, h6, sy_bs_t, k0, k2, k3, zL, zmulc, zlt, if_neg, if_pos, h_31, ha, Bool.true_or, sy_bb_t, sy_len_li, h4, zto, zadd, H.1, zin, zix, sy_bx_t, sy_upd_st, syc_at, syc_ne, syc_st, hv_5 H, hv_6 H, hv_7 H, rs_at, rs_ne, c_lesser, sy_bi_ri, zmin]
      split <;> rfl
    · exact hv_congr (hv_log H) (by rw [syc_ne _ _ (by omega), syc_ne _ _ (by omega)]) (by rw [syc_ne _ _ (by omega), syc_ne _ _ (by omega)]) (by rw [syc_ne _ _ (by omega), syc_ne _ _ (by omega)])
    · rw [syc_at, rs_ne _ _ (by decide), rs_ne _ _ (by decide)]; exact k0
    · split <;> omega
    · unfold sp_log
      rw [rs_at, f12, zadd, zmin (by omega) (by omega)]
    · rw [syc_at, rs_at]
    · rw [syc_at, rs_ne _ _ (by decide), rs_at]
    · intro a v ha hv
      rw [syc_ne _ _ (by omega), syc_at]
      by_cases h0 : a = 0
      · subst h0
        have : ((if nx + 1 < 60 then nx + 1 else 0) + 59 - 0) % 60 = nx := by split <;> omega
        rw [this, Nat.mul_zero, Nat.add_zero, sp_log_0 _ _ _ hv]
        rcases (show v = 0 ∨ v = 1 ∨ v = 2 ∨ v = 3 ∨ v = 4 by omega) with e | e | e | e | e <;> subst e
        · rw [rs_ne _ _ (by omega), rs_ne _ _ (by omega), rs_ne _ _ (by omega), rs_ne _ _ (by omega)]; exact rs_at _ _ _
        · rw [rs_ne _ _ (by omega), rs_ne _ _ (by omega), rs_ne _ _ (by omega), rs_at]; rfl
        · rw [rs_ne _ _ (by omega), rs_ne _ _ (by omega), rs_at]; rfl
        · rw [rs_ne _ _ (by omega), rs_at]; rfl
        · rw [rs_at]; rfl
      · have e1 : ((if nx + 1 < 60 then nx + 1 else 0) + 59 - a) % 60 = (nx + 59 - (a - 1)) % 60 := by split <;> omega
        have hne : (nx + 59 - (a - 1)) % 60 ≠ nx := by omega
        rw [e1, rs_ne _ _ (by omega), rs_ne _ _ (by omega), rs_ne _ _ (by omega), rs_ne _ _ (by omega), rs_ne _ _ (by omega), kc (a - 1) v (by omega) hv, sp_log_s _ _ _ (by omega) (by omega)]
        congr 1
        omega
    · exact (fh_syc (by omega) (by omega)).trans (fh_syc (by omega) (by omega))
theorem c_darken {M : sy_M} {h : Nat} {f : Nat → Int32} (H : hw M h f) : ∃ M1, jfX2_darken h M = sy_rv M1 ∧ hw M1 h (sp_dark f) ∧ fh h M M1 := by
  have h1 := hw_fld H (j := 9) (i := 8) (Or.inl ⟨rfl, by omega, by omega⟩) (sp_min (Int32.ofNat 99) (f 8 + (Int32.ofNat 1)))
  obtain ⟨M2, e2, g2, f2⟩ := c_add h1 (Int32.ofNat 0) (-(Int32.ofNat 1))
  unfold sp_dark
  simp (disch := omega) only [jfX2_darken, H.1.1, sy_bs_t, zL, hv_9 H.1, c_lesser, sy_bi_ri, sy_upd_st, syc_at, rs_at, h_6 H.1.1, e2, sy_bv_rv]
  split
  · exact ⟨M2, rfl, g2, (fh_syc (by omega) (by omega)).trans f2⟩
  · exact ⟨_, rfl, h1, fh_syc (by omega) (by omega)⟩
theorem sp_bit_ite (s : Int32) {p : Nat} (hp : p < 32) {A B : sy_O} : (if ((s >>> (Int32.ofNat p &&& (Int32.ofNat 31))) &&& (Int32.ofNat 1)) = (Int32.ofNat 0) then A else B) = bif sp_bit s p then B else A := by
  unfold sp_bit
  rw [zsh1 hp]
  rw [show ((Int32.ofNat 1) : Int32) = 1 from rfl, show ((Int32.ofNat 0) : Int32) = 0 from rfl]
  by_cases h : (s >>> Int32.ofNat p) &&& 1 = 1
  · rw [if_neg (by rw [sy_and1_ne]; simp [h]), decide_eq_true h]; rfl
  · rw [if_pos ((sy_and1_ne _).mpr h), decide_eq_false h]; rfl
theorem sp_bit_it0 (s : Int32) {p : Nat} (hp : p < 32) {A B : sy_O} : (if ((s >>> Int32.ofNat p) &&& (Int32.ofNat 1)) = (Int32.ofNat 0) then A else B) = bif sp_bit s p then B else A := by
  rw [← sp_bit_ite s hp, zsh1 hp]
theorem c_chill {M : sy_M} {h n : Nat} {f : Nat → Int32} {s : Int32} (H : hw M h f) (hn : f 3 = Int32.ofNat n) (h7 : n ≤ 7) : ∃ M1, jfX2_chill h s M = sy_rv M1 ∧ hw M1 h (sp_chill f n s) ∧ fh h M M1 := by
  unfold jfX2_chill sp_chill
  refine sy_forR (n := n) (F := sy_F) (R := fun c => ∃ M1, c = sy_rv M1 ∧ hw M1 h (sy_fo (fun p g => sp_dk s p g) n 0 f) ∧ fh h M M1) (fun k i (N : sy_M) => jfX2_chill_2 k h s (Int32.ofNat i) N) (fun i N => hw N h (sy_fo (fun p g => sp_dk s p g) i 0 f) ∧ fh h M N) ?_ ?_ M ⟨H, fh_rfl⟩ (by rw [sy_F_eq]; omega)
  · intro k i N hi ⟨h1, h2⟩
    refine Or.inl ?_
    rw [sy_fo_last, Nat.zero_add]
    have h3 : sy_fo (fun p g => sp_dk s p g) i 0 f 3 = Int32.ofNat n := (sp_chill_hs (f := f) (n := i) (s := s) (by omega)).2.2.1.trans hn
    generalize sy_fo (fun p g => sp_dk s p g) i 0 f = g at h1 h3
    obtain ⟨N0, e0, w0, f0⟩ := c_setw h1 (p := i) (w := 6) (Int32.ofNat 0) (by omega) (by decide)
    obtain ⟨N1, e1, w1, f1⟩ := c_setw h1 (p := i) (w := 6) (sp_min (Int32.ofNat 99) (g (14 + 9 * i + 6) + (Int32.ofNat 1))) (by omega) (by decide)
    obtain ⟨N2, e2, w2, f2⟩ := c_setw w1 (p := i) (w := 7) (sp_min (Int32.ofNat 999) (g (14 + 9 * i + 7) + (Int32.ofNat 1))) (by omega) (by decide)
    obtain ⟨N3, e3, w3, f3⟩ := c_add w1 (Int32.ofNat 2) (Int32.ofNat i)
    obtain ⟨N4, e4, w4, f4⟩ := c_add w2 (Int32.ofNat 2) (Int32.ofNat i)
    show ∃ a', jgX2_chill_2 (jfX2_chill_2 k) h s (Int32.ofNat i) N = jfX2_chill_2 k h s (Int32.ofNat (i + 1)) a' ∧ hw a' h (sp_dk s i g) ∧ fh h M a'
    unfold sp_dk sp_dk2
    have r7 : rs g (14 + 9 * i + 6) (sp_min (Int32.ofNat 99) (g (14 + 9 * i + 6) + (Int32.ofNat 1))) (14 + 9 * i + 7) = g (14 + 9 * i + 7) := rs_ne _ _ (by omega)
    simp (disch := omega) only [jgX2_chill_2, jfX2_chill_23, jfX2_chill_46, jfX2_chill_98, jfX2_chill_121, H.1.1, sy_bs_t, zL, hv_3 h1.1, h3, zlt, if_pos, if_neg, sp_bit_ite, c_get h1.1, c_get w1.1, c_lesser, sy_bi_ri, e0, e1, sy_bv_rv, r7, e2, h_6 H.1.1, e3, e4, if_true, zadd, zeq]
    cases sp_bit s i
    · exact ⟨N0, rfl, w0, h2.trans f0⟩
    · simp only [cond_true]
      by_cases q1 : g (14 + 9 * i + 3) < sp_min (Int32.ofNat 99) (g (14 + 9 * i + 6) + (Int32.ofNat 1))
      · simp only [if_pos q1]
        split
        · exact ⟨N4, rfl, w4, ((h2.trans f1).trans f2).trans f4⟩
        · exact ⟨N2, rfl, w2, (h2.trans f1).trans f2⟩
      · simp only [if_neg q1]
        split
        · exact ⟨N3, rfl, w3, (h2.trans f1).trans f3⟩
        · exact ⟨N1, rfl, w1, h2.trans f1⟩
  · intro k N ⟨h1, h2⟩
    have h3 : sy_fo (fun p g => sp_dk s p g) n 0 f 3 = Int32.ofNat n := (sp_chill_hs (f := f) (n := n) (s := s) (by omega)).2.2.1.trans hn
    refine ⟨N, ?_, h1, h2⟩
    show jgX2_chill_2 (jfX2_chill_2 k) h s (Int32.ofNat n) N = _
    simp (disch := omega) only [jgX2_chill_2, H.1.1, sy_bs_t, hv_3 h1.1, h3, zlt, if_neg]
theorem c_addGas {M : sy_M} {h : Nat} {f : Nat → Int32} (H : hw M h f) (a : Int32) : ∃ M1, jfX2_addGas h a M = sy_rv M1 ∧ hw M1 h (rs f 6 (sp_min (Int32.ofNat 9999) (f 6 + a))) ∧ fh h M M1 := by
  refine ⟨_, ?_, hw_fld H (j := 7) (i := 6) (Or.inl ⟨rfl, by omega, by omega⟩) (sp_min (Int32.ofNat 9999) (f 6 + a)), fh_syc (by omega) (by omega)⟩
  simp (disch := omega) only [jfX2_addGas, H.1.1, sy_bs_t, zL, hv_7 H.1, c_lesser, sy_bi_ri, sy_upd_st]
theorem c_takeCoin {M : sy_M} {h q : Nat} {f : Nat → Int32} (H : hw M h f) (hq : q < 7) : ∃ M1, jfX2_takeCoin h (Int32.ofNat q) M = sy_rv M1 ∧ hw M1 h (sp_feed f q) ∧ fh h M M1 := by
  obtain ⟨N1, e1, w1, f1⟩ := c_setw H (p := q) (w := 5) (f (14 + 9 * q + 5) - (Int32.ofNat 1)) hq (by decide)
  have r1 : rs f (14 + 9 * q + 5) (f (14 + 9 * q + 5) - (Int32.ofNat 1)) (14 + 9 * q + 8) = f (14 + 9 * q + 8) := rs_ne _ _ (by omega)
  obtain ⟨N2, e2, w2, f2⟩ := c_setw w1 (p := q) (w := 8) (sp_min (Int32.ofNat 999) (f (14 + 9 * q + 8) + (Int32.ofNat 1))) hq (by decide)
  have w3 := hw_fld w2 (j := 11) (i := 10) (Or.inl ⟨rfl, by omega, by omega⟩) (sp_min (Int32.ofNat 9999) (f 10 + (Int32.ofNat 1)))
  obtain ⟨N4, e4, w4, f4⟩ := c_addGas w3 (f 7)
  have w5 := hw_fld w4 (j := 12) (i := 11) (Or.inl ⟨rfl, by omega, by omega⟩) (Int32.ofNat q)
  have r6 : (rs (rs (rs f (14 + 9 * q + 5) (f (14 + 9 * q + 5) - (Int32.ofNat 1))) (14 + 9 * q + 8) (sp_min (Int32.ofNat 999) (f (14 + 9 * q + 8) + (Int32.ofNat 1)))) 10 (sp_min (Int32.ofNat 9999) (f 10 + (Int32.ofNat 1)))) 6 = f 6 := by rw [rs_ne _ _ (by omega), rs_ne _ _ (by omega), rs_ne _ _ (by omega)]
  rw [r6] at w4 w5
  obtain ⟨N6, e6, w6, f6⟩ := c_add w5 (Int32.ofNat 1) (Int32.ofNat q)
  refine ⟨N6, ?_, w6, ((((f1.trans f2).trans (fh_syc (by omega) (by omega))).trans f4).trans (fh_syc (by omega) (by omega))).trans f6⟩
  have v11 : N2 h 11 = f 10 := by rw [hv_11 w2.1, rs_ne _ _ (by omega), rs_ne _ _ (by omega)]
  have v8 : N2 h 8 = f 7 := by rw [hv_8 w2.1, rs_ne _ _ (by omega), rs_ne _ _ (by omega)]
  simp (disch := omega) only [jfX2_takeCoin, jfX2_takeCoin_65, H.1.1, sy_bs_t, zL, c_get H.1, sy_bi_ri, e1, sy_bv_rv, c_get w1.1, r1, c_lesser, e2, v11, sy_upd_st, syc_at, rs_ne, v8, e4, h_6 H.1.1, e6]
theorem rs_self (f : Nat → Int32) (i : Nat) : rs f i (f i) = f := by
  funext j
  unfold rs
  by_cases h : j = i
  · rw [if_pos h, h]
  · rw [if_neg h]
theorem rs_comm (f : Nat → Int32) {i j : Nat} (v w : Int32) (h : i ≠ j) : rs (rs f i v) j w = rs (rs f j w) i v := by
  funext k
  unfold rs
  by_cases h1 : k = j
  · rw [if_pos h1, if_neg (by omega), if_pos h1]
  · rw [if_neg h1]
    by_cases h2 : k = i
    · rw [if_pos h2, if_pos h2]
    · rw [if_neg h2, if_neg h2, if_neg h1]
theorem lit_c (v : Int32) : ∀ (m i : Nat) (g : Nat → Int32), rs (sy_fo (fun p g => rs g (14 + 9 * p + 6) (Int32.ofNat 0)) m i g) 8 v = sy_fo (fun p g => rs g (14 + 9 * p + 6) (Int32.ofNat 0)) m i (rs g 8 v)
  | 0, _, _ => rfl
  | m + 1, i, g => by
    rw [sy_fo_succ, sy_fo_succ, lit_c v m (i + 1), rs_comm _ _ _ (by omega)]
theorem lit_z : ∀ (m i : Nat) (g : Nat → Int32), (∀ p, i ≤ p → p < i + m → g (14 + 9 * p + 6) = (Int32.ofNat 0)) → sy_fo (fun p g => rs g (14 + 9 * p + 6) (Int32.ofNat 0)) m i g = g
  | 0, _, _, _ => rfl
  | m + 1, i, g, h => by
    have e : rs g (14 + 9 * i + 6) (Int32.ofNat 0) = g := by
      have := rs_self g (14 + 9 * i + 6)
      rwa [h i (by omega) (by omega)] at this
    rw [sy_fo_succ, e]
    exact lit_z m (i + 1) g (fun p h1 h2 => h p (by omega) (by omega))
theorem lit_at : ∀ (m i : Nat) (g : Nat → Int32) (j : Nat), j < 14 → sy_fo (fun p g => rs g (14 + 9 * p + 6) (Int32.ofNat 0)) m i g j = g j
  | 0, _, _, _, _ => rfl
  | m + 1, i, g, j, h => by
    rw [sy_fo_succ, lit_at m (i + 1) _ j h, rs_ne _ _ (by omega)]
theorem c_light {M : sy_M} {h n : Nat} {f : Nat → Int32} {a : Int32} (H : hw M h f) (hb : rb f) (hz : f 8 = (Int32.ofNat 0) → ∀ p, p < n → f (14 + 9 * p + 6) = (Int32.ofNat 0)) (hn : f 3 = Int32.ofNat n) (h7 : n ≤ 7) : ∃ M1, jfX2_light h a M = sy_rv M1 ∧ hw M1 h (sp_lit f n a) ∧ fh h M M1 := by
  obtain ⟨d, hd, e8⟩ := rb_dark hb
  have H1 := hw_fld H (j := 7) (i := 6) (Or.inl ⟨rfl, by omega, by omega⟩) (f 6 - a)
  have hg8 : rs f 6 (f 6 - a) 8 = Int32.ofNat d := (rs_ne _ _ (by omega)).trans e8
  have hg3 : rs f 6 (f 6 - a) 3 = Int32.ofNat n := (rs_ne _ _ (by omega)).trans hn
  have hgz : d = 0 → ∀ p, p < n → rs f 6 (f 6 - a) (14 + 9 * p + 6) = (Int32.ofNat 0) := fun h p hp => (rs_ne _ _ (by omega)).trans (hz (e8.trans (by rw [h])) p hp)
  unfold sp_lit
  rw [← lit_c]
  have F1 : fh h M (syc M h (rs (M h) 7 (f 6 - a))) := fh_syc (by omega) (by omega)
  simp (disch := omega) only [jfX2_light, H.1.1, sy_bs_t, hv_7 H.1, sy_upd_st]
  generalize rs f 6 (f 6 - a) = g at H1 hg8 hg3 hgz
  generalize syc M h (rs (M h) 7 (f 6 - a)) = M0 at H1 F1
  refine sy_forR (n := n) (F := sy_F) (R := fun c => ∃ M1, c = sy_rv M1 ∧ hw M1 h (rs (sy_fo (fun p g => rs g (14 + 9 * p + 6) (Int32.ofNat 0)) n 0 g) 8 (Int32.ofNat 0)) ∧ fh h M M1) (fun k i (N : sy_M) => jfX2_light_12 k h (Int32.ofNat i) N) (fun i N => hw N h (sy_fo (fun p g => rs g (14 + 9 * p + 6) (Int32.ofNat 0)) i 0 g) ∧ fh h M N) ?_ ?_ M0 ⟨H1, F1⟩ (by rw [sy_F_eq]; omega)
  · intro k i N hi ⟨h1, h2⟩
    have v3 : N h 3 = Int32.ofNat n := by rw [hv_3 h1.1, lit_at _ _ _ _ (by omega), hg3]
    have v9 : N h 9 = Int32.ofNat d := by rw [hv_9 h1.1, lit_at _ _ _ _ (by omega), hg8]
    obtain ⟨N0, e0, w0, f0⟩ := c_setw h1 (p := i) (w := 6) (Int32.ofNat 0) (by omega) (by decide)
    show (∃ a', jgX2_light_12 (jfX2_light_12 k) h (Int32.ofNat i) N = jfX2_light_12 k h (Int32.ofNat (i + 1)) a' ∧ _) ∨ (∃ M1, jgX2_light_12 (jfX2_light_12 k) h (Int32.ofNat i) N = sy_rv M1 ∧ _)
    by_cases hd0 : d = 0
    · refine Or.inr ⟨syc N h (rs (N h) 9 (Int32.ofNat 0)), ?_, ?_, h2.trans (fh_syc (by omega) (by omega))⟩
      · simp (disch := omega) only [jgX2_light_12, H.1.1, sy_bs_t, v3, v9, zL, zlt, if_pos, if_neg, sy_upd_st]
      · have := hw_fld h1 (j := 9) (i := 8) (Or.inl ⟨rfl, by omega, by omega⟩) (Int32.ofNat 0)
        rwa [lit_z i 0 g (fun p _ hp => hgz hd0 p (by omega)), ← lit_z n 0 g (fun p _ hp => hgz hd0 p (by omega))] at this
    · refine Or.inl ⟨N0, ?_, ?_, h2.trans f0⟩
      · simp (disch := omega) only [jgX2_light_12, H.1.1, sy_bs_t, v3, v9, zL, zlt, if_pos, if_neg, e0, sy_bv_rv, zadd]
      · rw [sy_fo_last, Nat.zero_add]
        exact w0
  · intro k N ⟨h1, h2⟩
    have v3 : N h 3 = Int32.ofNat n := by rw [hv_3 h1.1, lit_at _ _ _ _ (by omega), hg3]
    refine ⟨syc N h (rs (N h) 9 (Int32.ofNat 0)), ?_, hw_fld h1 (j := 9) (i := 8) (Or.inl ⟨rfl, by omega, by omega⟩) (Int32.ofNat 0), h2.trans (fh_syc (by omega) (by omega))⟩
    show jgX2_light_12 (jfX2_light_12 k) h (Int32.ofNat n) N = _
    simp (disch := omega) only [jgX2_light_12, H.1.1, sy_bs_t, v3, zL, zlt, if_pos, if_neg, sy_upd_st]
theorem c_clock {M : sy_M} {h : Nat} {f : Nat → Int32} (H : hw M h f) (hb : rb f) : ∃ M1, jfX2_turnClock h M = sy_rv M1 ∧ hw M1 h (sp_clock f) ∧ fh h M M1 := by
  obtain ⟨t, ht, e⟩ := rb_tick hb
  have w1 := hw_fld H (j := 5) (i := 4) (Or.inl ⟨rfl, by omega, by omega⟩) (f 4 + (Int32.ofNat 1))
  have w2 := hw_fld w1 (j := 5) (i := 4) (Or.inl ⟨rfl, by omega, by omega⟩) (Int32.ofNat 0)
  have w3 := hw_fld w2 (j := 6) (i := 5) (Or.inl ⟨rfl, by omega, by omega⟩) (sp_min (Int32.ofNat 9999) (f 5 + (Int32.ofNat 1)))
  rw [rs_rs] at w2 w3
  unfold sp_clock
  rw [e, zadd] at w1 w2 w3 ⊢
  by_cases h1 : t + 1 < 48
  · refine ⟨_, ?_, (by rw [if_neg (by rw [zeq (by omega) (by omega)]; omega)]; exact w1), fh_syc (by omega) (by omega)⟩
    simp (disch := omega) only [jfX2_turnClock, H.1.1, sy_bs_t, zL, hv_5 H.1, e, zadd, sy_upd_st, syc_at, rs_at, zlt, if_pos]
  · refine ⟨_, ?_, (by rw [if_pos (by rw [zeq (by omega) (by omega)]; omega)]; exact w3), ((fh_syc (by omega) (by omega)).trans (fh_syc (by omega) (by omega))).trans (fh_syc (by omega) (by omega))⟩
    simp (disch := omega) only [jfX2_turnClock, H.1.1, sy_bs_t, zL, hv_5 H.1, hv_6 H.1, e, zadd, sy_upd_st, syc_at, rs_at, rs_ne, zlt, if_neg, c_lesser, sy_bi_ri]
theorem c_draw {M : sy_M} {h : Nat} {f : Nat → Int32} (H : hw M h f) : ∃ M1, jfX2_draw h M = sy_ri (sp_draw f) M1 ∧ hw M1 h (sp_seed f) ∧ fh h M M1 := by
  refine ⟨_, ?_, hw_fld H (j := 13) (i := 13) (Or.inr (Or.inr (Or.inr ⟨rfl, rfl⟩))) ((Int32.ofNat 1103515245) * f 13 + (Int32.ofNat 12345)), fh_syc (by omega) (by omega)⟩
  simp (disch := omega) only [jfX2_draw, H.1.1, sy_bs_t, zL, hv_13 H.1, sy_upd_st, syc_at, rs_at, sp_draw]
