/-! ===== the class: what the law is told, who goes, a tick ===== -/
def sp_told (N : sy_M) (g : Nat → Int32) (p : Nat) : Prop := N 52 0 = Int32.ofNat p ∧ N 52 1 = g (14 + 9 * p) ∧ N 52 2 = g (14 + 9 * p + 5) ∧ N 52 3 = g (14 + 9 * p + 8) ∧ N 52 4 = g (14 + 9 * p + 6) ∧ N 52 5 = g 8 ∧ N 52 6 = g 4 ∧ N 52 7 = bz (decide (g 11 = Int32.ofNat p)) ∧ N 52 8 = bz (decide (g (14 + 9 * p + 3) < g (14 + 9 * p + 6)))
theorem c_tell {M : sy_M} {h p : Nat} {f : Nat → Int32} (H : hv M h f) (hp : p < 7) : ∃ M1, jfX8_tell h (Int32.ofNat p) M = sy_rv M1 ∧ sp_told M1 f p ∧ (∀ a, a ≠ 52 → M1 a = M a) := by
  have hl := h_lt H.1
  have hq : ∀ g, hv (syc M 52 g) h f := fun g => hv_congr H (syc_ne _ _ (by omega)) (syc_ne _ _ (by omega)) (syc_ne _ _ (by omega))
  have hx : ∀ g, syc M 52 g h = M h := fun g => syc_ne _ _ (by omega)
  refine ⟨syc M 52 (rs (rs (rs (rs (rs (rs (rs (rs (rs (M 52) 0 (Int32.ofNat p)) 1 (f (14 + 9 * p))) 2 (f (14 + 9 * p + 5))) 3 (f (14 + 9 * p + 8))) 4 (f (14 + 9 * p + 6))) 5 (f 8)) 6 (f 4)) 7 (bz (decide (f 11 = Int32.ofNat p)))) 8 (bz (decide (f (14 + 9 * p + 3) < f (14 + 9 * p + 6))))), ?_, ?_, fun a ha => syc_ne _ _ ha⟩
  · simp (disch := omega) only [jfX8_tell, jfX8_tell_57, jfX8_tell_97, H.1, sy_bs_t, zL, c_get (hq _), hx, hv_9 H, hv_5 H, hv_12 H, sy_bi_ri, sy_upd_st, syc_at, syc_st, zin, sy_bx_t, zix, Nat.add_zero]
    by_cases h1 : f 11 = Int32.ofNat p
    · rw [if_pos h1, decide_eq_true h1]
      by_cases h2 : f (14 + 9 * p + 3) < f (14 + 9 * p + 6)
      · rw [if_pos h2, decide_eq_true h2]; rfl
      · rw [if_neg h2, decide_eq_false h2]; rfl
    · rw [if_neg h1, decide_eq_false h1]
      by_cases h2 : f (14 + 9 * p + 3) < f (14 + 9 * p + 6)
      · rw [if_pos h2, decide_eq_true h2]; rfl
      · rw [if_neg h2, decide_eq_false h2]; rfl
  · unfold sp_told
    simp (disch := omega) only [syc_at, rs_at, rs_ne, and_self]
/-- two laws hold the same -/
def lcp (a : Nat) (M : sy_M) (b : Nat) (N : sy_M) : Prop := (∀ j i, 1 ≤ j → j ≤ 4 → i < 12 → N (b + j) i = M (a + j) i) ∧ (∀ i, i < 512 → N (b + 5) i = M (a + 5) i) ∧ N b 5 = M a 5 ∧ N b 6 = M a 6
/-- the law at a says what A says of the text in the row -/
def cAK (A : (Nat → Int32) → Nat → Int32 × Bool) (a : Nat) (M : sy_M) (f : Nat → Int32) : Prop :=
  ∀ (N : sy_M) (g : Nat → Int32) (p : Nat), lcp a M 29 N → tsame f g → p < 7 → sp_told N g p → jfX4_isRefused 29 N = sy_ri (bz (A g p).2) N ∧ jfX4_turnOf 29 N = sy_ri (A g p).1 N
theorem lcp_of {a : Nat} {M N : sy_M} (h : ∀ c, a ≤ c → c ≤ a + 5 → N c = M c) : lcp a M a N := ⟨fun j i h1 h2 h3 => by rw [h _ (by omega) (by omega)], fun i hi => by rw [h _ (by omega) (by omega)], by rw [h _ (by omega) (by omega)], by rw [h _ (by omega) (by omega)]⟩
theorem lcp_of2 {a b : Nat} {M N K : sy_M} (k : lcp a M b N) (h : ∀ c, b ≤ c → c ≤ b + 5 → K c = N c) : lcp a M b K := ⟨fun j i h1 h2 h3 => by rw [h _ (by omega) (by omega)]; exact k.1 j i h1 h2 h3, fun i hi => by rw [h _ (by omega) (by omega)]; exact k.2.1 i hi, by rw [h _ (by omega) (by omega)]; exact k.2.2.1, by rw [h _ (by omega) (by omega)]; exact k.2.2.2⟩
theorem lcp.trans {a b c : Nat} {M N K : sy_M} (k : lcp a M b N) (l : lcp b N c K) : lcp a M c K := ⟨fun j i h1 h2 h3 => (l.1 j i h1 h2 h3).trans (k.1 j i h1 h2 h3), fun i hi => (l.2.1 i hi).trans (k.2.1 i hi), l.2.2.1.trans k.2.2.1, l.2.2.2.trans k.2.2.2⟩
theorem cAK_cp {A : (Nat → Int32) → Nat → Int32 × Bool} {a b : Nat} {M N : sy_M} {f g : Nat → Int32} (h : cAK A a M f) (k : lcp a M b N) (e : tsame f g) : cAK A b N g := fun K g1 p h1 h2 h3 h4 => h K g1 p (k.trans h1) (e.trans h2) h3 h4
/-- what a tick of the class leaves as it was -/
def fp (h : Nat) (M M1 : sy_M) : Prop := ∀ a, (a < h ∨ h + 4 < a) → a ≠ 52 → M1 a = M a
theorem fp.trans {h : Nat} {M M1 M2 : sy_M} (a : fp h M M1) (b : fp h M1 M2) : fp h M M2 := fun c hc h2 => (b c hc h2).trans (a c hc h2)
theorem fp_rfl {h : Nat} {M : sy_M} : fp h M M := fun _ _ _ => rfl
theorem fh.fp {h : Nat} {M M1 : sy_M} (a : fh h M M1) : fp h M M1 := fun c hc _ => a c hc
theorem c_whoGoes {A : (Nat → Int32) → Nat → Int32 × Bool} {M : sy_M} {h n : Nat} {f : Nat → Int32} {s : Int32} (H : hw M h f) (hb : rb f) (hA : cAK A 29 M f) (hn : f 3 = Int32.ofNat n) (h7 : n ≤ 7) : ∃ M1, jfX8_whoGoes h 29 s M = sy_ri (sp_who A f n s) M1 ∧ (∀ a, a ≠ 52 → M1 a = M a) := by
  have hl := h_lt H.1.1
  have i29 : sy_is 4 29 = true := by decide +kernel
  unfold jfX8_whoGoes sp_who
  refine sy_forR (n := n) (F := sy_F) (R := fun c => ∃ M1, c = sy_ri (sy_fo (sp_wh A f s) n 0 (-(Int32.ofNat 1), (Int32.ofNat 0))).1 M1 ∧ (∀ a, a ≠ 52 → M1 a = M a)) (fun k i (a : (Int32 × Int32) × sy_M) => jfX8_whoGoes_9 k h 29 s a.1.1 a.1.2 (Int32.ofNat i) a.2) (fun i a => a.1 = sy_fo (sp_wh A f s) i 0 (-(Int32.ofNat 1), (Int32.ofNat 0)) ∧ (∀ b, b ≠ 52 → a.2 b = M b)) ?_ ?_ ((-(Int32.ofNat 1), (Int32.ofNat 0)), M) ⟨rfl, fun _ _ => rfl⟩ (by rw [sy_F_eq]; omega)
  · intro k i ⟨⟨w, m⟩, N⟩ hi ⟨h1, h2⟩
    refine Or.inl ?_
    have HN : hv N h f := hv_congr H.1 (h2 _ (by omega)) (h2 _ (by omega)) (h2 _ (by omega))
    obtain ⟨N1, e1, t1, f1⟩ := c_tell HN (p := i) (by omega)
    obtain ⟨a1, a2⟩ := hA N1 f i (lcp_of (fun c g1 g2 => by rw [f1 _ (by omega)]; exact h2 _ (by omega))) tsame_rfl (by omega) t1
    have g5 : ∀ b, b ≠ 52 → N1 b = M b := fun b hb => (f1 b hb).trans (h2 b hb)
    obtain ⟨c, hc1, hc2⟩ := rb_coins hb (p := i) (by omega)
    rw [sy_fo_last, Nat.zero_add, ← h1]
    show ∃ a' : (Int32 × Int32) × sy_M, jgX8_whoGoes_9 (jfX8_whoGoes_9 k) h 29 s w m (Int32.ofNat i) N = jfX8_whoGoes_9 k h 29 s a'.1.1 a'.1.2 (Int32.ofNat (i + 1)) a'.2 ∧ a'.1 = sp_wh A f s i (w, m) ∧ (∀ b, b ≠ 52 → a'.2 b = M b)
    unfold sp_wh
    simp (disch := omega) only [jgX8_whoGoes_9, jfX8_whoGoes_55, jfX8_whoGoes_56, jfX8_whoGoes_110, jfX8_whoGoes_118, H.1.1, sy_bs_t, zL, hv_3 HN, hv_9 HN, hn, zlt, if_pos, if_neg, sp_bit_ite, c_get HN, hc2, sy_bi_ri, e1, sy_bv_rv, i29, a1, a2, ite_bz0, zadd, zeq]
    cases sp_bit s i
    · exact ⟨((w, m), N), rfl, rfl, h2⟩
    · simp only [cond_true]
      by_cases q0 : c = 0
      · simp (disch := omega) only [if_pos, if_neg]
        exact ⟨((w, m), N), rfl, rfl, h2⟩
      · simp (disch := omega) only [if_pos, if_neg]
        split
        · cases (A f i).2
          · simp only [cond_false]
            split
            · exact ⟨((Int32.ofNat i, (A f i).1), N1), rfl, rfl, g5⟩
            · split
              · exact ⟨((Int32.ofNat i, (A f i).1), N1), rfl, rfl, g5⟩
              · exact ⟨((w, m), N1), rfl, rfl, g5⟩
          · exact ⟨((w, m), N1), rfl, rfl, g5⟩
        · exact ⟨((w, m), N), rfl, rfl, h2⟩
  · intro k ⟨⟨w, m⟩, N⟩ ⟨h1, h2⟩
    have HN : hv N h f := hv_congr H.1 (h2 _ (by omega)) (h2 _ (by omega)) (h2 _ (by omega))
    refine ⟨N, ?_, h2⟩
    show jgX8_whoGoes_9 (jfX8_whoGoes_9 k) h 29 s w m (Int32.ofNat n) N = _
    rw [← h1]
    simp (disch := omega) only [jgX8_whoGoes_9, H.1.1, sy_bs_t, hv_3 HN, hn, zlt, if_neg]
/-- the night's tables are those of the row -/
def nt (M : sy_M) (n : Nat) (f : Nat → Int32) : Prop := ∀ t, t < 48 → M 50 t = sp_home f n (Int32.ofNat t) ∧ M 51 t = sp_burn f n (sp_home f n (Int32.ofNat t))
theorem c_needsAt {M : sy_M} {n t : Nat} {f : Nat → Int32} (hN : nt M n f) (ht : t < 48) : jfX8_needsAt (Int32.ofNat t) M = sy_ri (sp_burn f n (sp_home f n (Int32.ofNat t))) M := by
  simp (disch := omega) only [zL, zlt, zle, zeq, zadd, zmul, zin, zix, zsh1, Nat.add_zero, Nat.zero_add, Nat.mul_zero, if_true, if_false, if_pos, if_neg, sy_bi_ri, sy_bi_rt, sy_bv_rv, sy_bv_rt, sy_br_rr, sy_br_rn, sy_hi_ri, sy_hi_rt, sy_bs_t, sy_bx_t, sy_bb_t, bz_bo, ite_bz0, ite_bz1, jfX8_needsAt, (hN t ht).2]
theorem c_presentAt {M : sy_M} {n t : Nat} {f : Nat → Int32} (hN : nt M n f) (ht : t < 48) : jfX8_presentAt (Int32.ofNat t) M = sy_ri (sp_home f n (Int32.ofNat t)) M := by
  simp (disch := omega) only [zL, zlt, zle, zeq, zadd, zmul, zin, zix, zsh1, Nat.add_zero, Nat.zero_add, Nat.mul_zero, if_true, if_false, if_pos, if_neg, sy_bi_ri, sy_bi_rt, sy_bv_rv, sy_bv_rt, sy_br_rr, sy_br_rn, sy_hi_ri, sy_hi_rt, sy_bs_t, sy_bx_t, sy_bb_t, bz_bo, ite_bz0, ite_bz1, jfX8_presentAt, (hN t ht).1]
theorem sp_at_same {f g : Nat → Int32} {p : Nat} {t : Int32} (h : ∀ p w, p < 7 → w < 5 → g (14 + 9 * p + w) = f (14 + 9 * p + w)) (hp : p < 7) : sp_at g p t = sp_at f p t := by
  unfold sp_at
  rw [h p 1 hp (by decide), h p 2 hp (by decide)]
theorem sp_home_same {f g : Nat → Int32} {n : Nat} {t : Int32} (h : ∀ p w, p < 7 → w < 5 → g (14 + 9 * p + w) = f (14 + 9 * p + w)) (h7 : n ≤ 7) : sp_home g n t = sp_home f n t := by
  unfold sp_home
  exact sy_fo_congr n 0 _ (fun j b h1 h2 => by rw [sp_at_same h (by omega)])
theorem sp_burn_same {f g : Nat → Int32} {n : Nat} {s : Int32} (h : ∀ p w, p < 7 → w < 5 → g (14 + 9 * p + w) = f (14 + 9 * p + w)) (h7 : n ≤ 7) : sp_burn g n s = sp_burn f n s := by
  unfold sp_burn
  exact sy_fo_congr n 0 _ (fun j b h1 h2 => by have := h j 0 (by omega) (by decide); rw [Nat.add_zero] at this; rw [this])
theorem nt_same {M : sy_M} {f g : Nat → Int32} {n : Nat} (h : ∀ p w, p < 7 → w < 5 → g (14 + 9 * p + w) = f (14 + 9 * p + w)) (h7 : n ≤ 7) (hN : nt M n f) : nt M n g := fun t ht => by
  rw [sp_home_same h h7, sp_burn_same h h7]
  exact hN t ht
theorem nt_congr {M M1 : sy_M} {f : Nat → Int32} {n : Nat} (hN : nt M n f) (e : M1 50 = M 50) (e2 : M1 51 = M 51) : nt M1 n f := fun t ht => by rw [e, e2]; exact hN t ht
/-- in no dark nobody has chill -/
def zc (f : Nat → Int32) (n : Nat) : Prop := f 8 = (Int32.ofNat 0) → ∀ p, p < n → f (14 + 9 * p + 6) = (Int32.ofNat 0)
theorem c_p1 {A : (Nat → Int32) → Nat → Int32 × Bool} {M : sy_M} {h n : Nat} {f : Nat → Int32} {a : Int32} (H : hw M h f) (hb : rb f) (hz : zc f n) (hA : cAK A 29 M f) (hN : nt M n f) (hn : f 3 = Int32.ofNat n) (h7 : n ≤ 7) (ha : ∃ k, k < 2147483648 ∧ a = Int32.ofNat k) : ∃ M1, jfX8_pass_34 h 29 a M = sy_ri (sp_p1 A n false f (sp_home f n (f 4)) a).2 M1 ∧ hw M1 h (sp_p1 A n false f (sp_home f n (f 4)) a).1 ∧ fp h M M1 := by
  have hl := h_lt H.1.1
  obtain ⟨t, ht, e4⟩ := rb_tick hb
  obtain ⟨g, hg1, e6⟩ := rb_gas hb
  obtain ⟨k, hk, ek⟩ := ha
  unfold sp_p1 sp_pd
  rw [cond_false]
  simp (disch := omega) only [jfX8_pass_34, H.1.1, sy_bs_t, hv_7 H.1, hv_5 H.1]
  by_cases hd : f 6 < a
  · simp only [if_pos hd]
    rw [e4, c_presentAt hN (by omega), sy_bi_ri]
    obtain ⟨M1, e1, w1, f1⟩ := c_darken H
    rw [e1, sy_bv_rv]
    have r1 := sp_dark_rb hb
    have s1 := sp_dark_hs (f := f)
    obtain ⟨M2, e2, w2, f2⟩ := c_chill (s := sp_home f n (Int32.ofNat t)) w1 (n := n) (s1.2.2.1.trans hn) h7
    rw [e2, sy_bv_rv]
    have r2 := sp_chill_rb (s := sp_home f n (Int32.ofNat t)) r1 h7
    have s2 := s1.trans (sp_chill_hs (f := sp_dark f) (s := sp_home f n (Int32.ofNat t)) h7)
    have hA2 : cAK A 29 M2 (sp_chill (sp_dark f) n (sp_home f n (Int32.ofNat t))) := cAK_cp hA (lcp_of (fun c c1 c2 => (f1.trans f2) c (by omega))) s2.1
    obtain ⟨M3, e3, f3⟩ := c_whoGoes (s := sp_home f n (Int32.ofNat t)) w2 r2 hA2 (n := n) (s2.2.2.1.trans hn) h7
    rw [e3, sy_bi_ri]
    have w3 : hw M3 h (sp_chill (sp_dark f) n (sp_home f n (Int32.ofNat t))) := hw_congr w2 (fun c c1 c2 => f3 c (by omega))
    have F3 : fp h M M3 := (f1.fp.trans f2.fp).trans (fun c c1 c2 => f3 c c2)
    rcases sp_who_is A (sp_chill (sp_dark f) n (sp_home f n (Int32.ofNat t))) n (sp_home f n (Int32.ofNat t)) with e | ⟨q, hq, e, hc⟩
    · rw [e]
      rw [if_pos (show (-(Int32.ofNat 1) : Int32) = -1 from rfl), if_pos rfl]
      obtain ⟨M4, e5, w5, f5⟩ := c_clock w3 r2
      refine ⟨M4, ?_, w5, F3.trans f5.fp⟩
      simp only [jfX8_pass_98, H.1.1, sy_bs_t, e5, sy_bv_rv]
    · rw [e]
      have hne : Int32.ofNat q ≠ -(Int32.ofNat 1) := by
        intro z
        have : ¬ (Int32.ofNat q < (Int32.ofNat 0)) := znn q (by omega)
        rw [z] at this
        exact this (by decide)
      rw [if_neg (show ¬ (Int32.ofNat q = -1) from hne), if_neg hne, zix (by omega)]
      obtain ⟨M4, e5, w5, f5⟩ := c_takeCoin w3 (q := q) (by omega)
      obtain ⟨M5, e7, w7, f7⟩ := c_clock w5 (sp_feed_rb r2 (by omega) hc)
      refine ⟨M5, ?_, w7, (F3.trans f5.fp).trans f7.fp⟩
      simp only [jfX8_pass_98, H.1.1, sy_bs_t, e5, e7, sy_bv_rv]
  · simp only [if_neg hd]
    obtain ⟨M1, e1, w1, f1⟩ := c_light (a := a) H hb hz hn h7
    rw [e1, sy_bv_rv]
    have r1 : rb (sp_lit f n a) := by
      rw [ek] at hd ⊢
      rw [e6, zlt (by omega) hk] at hd
      exact sp_lit_rb hb h7 e6 (by omega) hg1
    obtain ⟨M2, e2, w2, f2⟩ := c_clock w1 r1
    refine ⟨M2, ?_, w2, f1.fp.trans f2.fp⟩
    simp only [jfX8_pass_98, H.1.1, sy_bs_t, e2, sy_bv_rv]
    rfl
