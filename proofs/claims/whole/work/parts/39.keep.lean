/-! ===== what a tick keeps, number by number ===== -/
theorem sp_dk_at {s : Int32} {p i : Nat} {f : Nat → Int32} (h1 : i < 126) (h2 : i ≠ 12) (h3 : i ≠ 14 + 9 * p + 6) (h4 : i ≠ 14 + 9 * p + 7) : sp_dk s p f i = f i := by
  unfold sp_dk
  cases sp_bit s p
  · exact rs_ne _ _ h3
  · rw [cond_true]
    have k : ∀ c, (if f (14 + 9 * p + 3) < c then rs (rs f (14 + 9 * p + 6) c) (14 + 9 * p + 7) (sp_min (Int32.ofNat 999) (f (14 + 9 * p + 7) + (Int32.ofNat 1))) else rs f (14 + 9 * p + 6) c) i = f i := by
      intro c
      split
      · rw [rs_ne _ _ h4, rs_ne _ _ h3]
      · rw [rs_ne _ _ h3]
    unfold sp_dk2
    split
    · rw [sp_log_lo _ _ _ h1 h2]; exact k _
    · exact k _
theorem sp_chill_at {s : Int32} {n i : Nat} {f : Nat → Int32} (h1 : i < 126) (h2 : i ≠ 12) (h3 : ∀ p, p < n → i ≠ 14 + 9 * p + 6 ∧ i ≠ 14 + 9 * p + 7) : sp_chill f n s i = f i :=
  sy_fo_P (n := n) (P := fun g => g i = f i) (fun p g hp h => (sp_dk_at h1 h2 (h3 p hp).1 (h3 p hp).2).trans h) n 0 f (by omega) rfl
theorem sp_dark_at {i : Nat} {f : Nat → Int32} (h1 : i < 126) (h2 : i ≠ 12) (h3 : i ≠ 8) : sp_dark f i = f i := by
  unfold sp_dark
  split
  · rw [sp_log_lo _ _ _ h1 h2, rs_ne _ _ h3]
  · rw [rs_ne _ _ h3]
theorem sp_dark_8 {f : Nat → Int32} : sp_dark f 8 = sp_min (Int32.ofNat 99) (f 8 + (Int32.ofNat 1)) := by
  unfold sp_dark
  split
  · rw [sp_log_lo _ _ _ (by decide) (by decide), rs_at]
  · rw [rs_at]
theorem sp_feed_at {q i : Nat} {f : Nat → Int32} (h1 : i < 126) (h2 : i ≠ 12) (h3 : i ≠ 14 + 9 * q + 5) (h4 : i ≠ 14 + 9 * q + 8) (h5 : i ≠ 6) (h6 : i ≠ 10) (h7 : i ≠ 11) : sp_feed f q i = f i := by
  unfold sp_feed sp_coin
  rw [sp_log_lo _ _ _ h1 h2, rs_ne _ _ h7, rs_ne _ _ h5, rs_ne _ _ h6, rs_ne _ _ h4, rs_ne _ _ h3]
theorem sp_clock_at {i : Nat} {f : Nat → Int32} (h1 : i ≠ 4) (h2 : i ≠ 5) : sp_clock f i = f i := by
  unfold sp_clock
  split
  · rw [rs_ne _ _ h2, rs_ne _ _ h1]
  · rw [rs_ne _ _ h1]
theorem sp_lit_at {n i : Nat} {a : Int32} {f : Nat → Int32} (h1 : i ≠ 6) (h2 : i ≠ 8) (h3 : ∀ p, p < n → i ≠ 14 + 9 * p + 6) : sp_lit f n a i = f i := by
  unfold sp_lit
  refine sy_fo_P (n := n) (P := fun g : Nat → Int32 => g i = f i) (fun p g hp h => (rs_ne _ _ (h3 p hp)).trans h) n 0 _ (by omega) ?_
  rw [rs_ne _ _ h2, rs_ne _ _ h1]
theorem lit_0 : ∀ (m : Nat) (g : Nat → Int32) (p : Nat), p < m → sy_fo (fun p g => rs g (14 + 9 * p + 6) (Int32.ofNat 0)) m 0 g (14 + 9 * p + 6) = (Int32.ofNat 0)
  | 0, _, _, h => by omega
  | m + 1, g, p, h => by
    rw [sy_fo_last, Nat.zero_add]
    by_cases e : p = m
    · subst e
      exact rs_at _ _ _
    · rw [rs_ne _ _ (by omega)]
      exact lit_0 m g p (by omega)
theorem sp_pd_at {A : (Nat → Int32) → Nat → Int32 × Bool} {n i : Nat} {nf : Bool} {f : Nat → Int32} {s : Int32} (h7 : n ≤ 7) (h1 : i < 126) (h2 : i ≠ 12) (h3 : i ≠ 8) (h5 : i ≠ 6) (h6 : i ≠ 10) (h8 : i ≠ 11) (h4 : ∀ p w, p < n → 5 ≤ w → w < 9 → i ≠ 14 + 9 * p + w) : (sp_pd A n nf f s).1 i = f i := by
  have k1 : sp_chill (sp_dark f) n s i = f i := (sp_chill_at h1 h2 (fun p hp => ⟨h4 p 6 hp (by decide) (by decide), h4 p 7 hp (by decide) (by decide)⟩)).trans (sp_dark_at h1 h2 h3)
  unfold sp_pd
  cases nf
  · rw [cond_false]
    rcases sp_who_is A (sp_chill (sp_dark f) n s) n s with e | ⟨q, hq, e, hc⟩
    · simp only [e, if_true]
      exact k1
    · have hne : Int32.ofNat q ≠ -(Int32.ofNat 1) := by
        intro z
        have : ¬ (Int32.ofNat q < (Int32.ofNat 0)) := znn q (by omega)
        rw [z] at this
        exact this (by decide)
      have eq1 : (Int32.ofNat q).toNatClampNeg = q := zix (by omega)
      simp only [e, if_neg hne, eq1]
      exact (sp_feed_at h1 h2 (h4 q 5 hq (by decide) (by decide)) (h4 q 8 hq (by decide) (by decide)) h5 h6 h8).trans k1
  · exact k1
theorem sp_pd_8 {A : (Nat → Int32) → Nat → Int32 × Bool} {n : Nat} {nf : Bool} {f : Nat → Int32} {s : Int32} (h7 : n ≤ 7) : (sp_pd A n nf f s).1 8 = sp_min (Int32.ofNat 99) (f 8 + (Int32.ofNat 1)) := by
  have k1 : sp_chill (sp_dark f) n s 8 = sp_min (Int32.ofNat 99) (f 8 + (Int32.ofNat 1)) := (sp_chill_at (by decide) (by decide) (fun p hp => ⟨by omega, by omega⟩)).trans sp_dark_8
  unfold sp_pd
  cases nf
  · rw [cond_false]
    rcases sp_who_is A (sp_chill (sp_dark f) n s) n s with e | ⟨q, hq, e, hc⟩
    · simp only [e, if_true]
      exact k1
    · have hne : Int32.ofNat q ≠ -(Int32.ofNat 1) := by
        intro z
        have : ¬ (Int32.ofNat q < (Int32.ofNat 0)) := znn q (by omega)
        rw [z] at this
        exact this (by decide)
      have eq1 : (Int32.ofNat q).toNatClampNeg = q := zix (by omega)
      simp only [e, if_neg hne, eq1]
      exact (sp_feed_at (by decide) (by decide) (by omega) (by omega) (by decide) (by decide) (by decide)).trans k1
  · exact k1
theorem sp_p1_zc {A : (Nat → Int32) → Nat → Int32 × Bool} {n : Nat} {nf : Bool} {f : Nat → Int32} {s a : Int32} (H : rb f) (h7 : n ≤ 7) : zc (sp_p1 A n nf f s a).1 n := by
  unfold sp_p1
  split
  · intro h
    obtain ⟨d, hd, e⟩ := rb_dark H
    exfalso
    replace h : sp_clock (sp_pd A n nf f s).1 8 = (Int32.ofNat 0) := h
    rw [sp_clock_at (by decide) (by decide), sp_pd_8 h7, e, zadd, zmin (by omega) (by omega), zeq (by omega) (by omega)] at h
    omega
  · intro _ p hp
    show sp_clock (sp_lit f n a) (14 + 9 * p + 6) = (Int32.ofNat 0)
    rw [sp_clock_at (by omega) (by omega)]
    exact lit_0 n _ p hp
theorem sp_pass_zc {A : (Nat → Int32) → Nat → Int32 × Bool} {n : Nat} {nf dr : Bool} {f : Nat → Int32} (H : rb f) (h7 : n ≤ 7) : zc (sp_pass A n nf dr f).1 n := by
  unfold sp_pass
  cases dr
  · exact sp_p1_zc H h7
  · exact sp_p1_zc (sp_seed_rb H) h7
theorem sp_p1_at {A : (Nat → Int32) → Nat → Int32 × Bool} {n i : Nat} {nf : Bool} {f : Nat → Int32} {s a : Int32} (h7 : n ≤ 7) (h1 : i < 126) (h0 : 11 < i) (h2 : i ≠ 12) (h4 : ∀ p w, p < n → 5 ≤ w → w < 9 → i ≠ 14 + 9 * p + w) : (sp_p1 A n nf f s a).1 i = f i := by
  unfold sp_p1
  split
  · show sp_clock _ i = _
    rw [sp_clock_at (by omega) (by omega)]
    exact sp_pd_at h7 h1 h2 (by omega) (by omega) (by omega) (by omega) h4
  · show sp_clock _ i = _
    rw [sp_clock_at (by omega) (by omega)]
    exact sp_lit_at (by omega) (by omega) (fun p hp => h4 p 6 hp (by decide) (by decide))
/-- the numbers of those who are not there stay -/
theorem sp_pass_at {A : (Nat → Int32) → Nat → Int32 × Bool} {n i : Nat} {nf dr : Bool} {f : Nat → Int32} (h7 : n ≤ 7) (h1 : i < 126) (h0 : 13 < i) (h4 : ∀ p w, p < n → 5 ≤ w → w < 9 → i ≠ 14 + 9 * p + w) : (sp_pass A n nf dr f).1 i = f i := by
  unfold sp_pass
  cases dr
  · exact sp_p1_at h7 h1 (by omega) (by omega) h4
  · exact (sp_p1_at h7 h1 (by omega) (by omega) h4).trans (rs_ne _ _ (by omega))
/-- those who are not there have nothing -/
def ez (f : Nat → Int32) (n : Nat) : Prop := ∀ p, n ≤ p → p < 7 → f (14 + 9 * p + 6) = (Int32.ofNat 0) ∧ f (14 + 9 * p + 7) = (Int32.ofNat 0) ∧ f (14 + 9 * p + 8) = (Int32.ofNat 0) ∧ ∀ o, o < 7 → f (77 + 7 * p + o) = (Int32.ofNat 0) ∧ f (77 + 7 * o + p) = (Int32.ofNat 0)
/-- those who are there burn, the price is no nought -/
def bp (f : Nat → Int32) (n : Nat) : Prop := f 7 ≠ (Int32.ofNat 0) ∧ ∀ p, p < n → f (14 + 9 * p) ≠ (Int32.ofNat 0)
/-- a good row -/
def gr (f : Nat → Int32) (n : Nat) : Prop := rb f ∧ f 3 = Int32.ofNat n ∧ n ≤ 7 ∧ zc f n ∧ ez f n ∧ bp f n
theorem gr_pass {A : (Nat → Int32) → Nat → Int32 × Bool} {n : Nat} {nf dr : Bool} {f : Nat → Int32} (H : gr f n) : gr (sp_pass A n nf dr f).1 n := by
  obtain ⟨h1, h2, h7, h4, h5, h6⟩ := H
  have k := sp_pass_rb (A := A) (nf := nf) (dr := dr) h1 h7
  refine ⟨k.1, k.2.2.2.1.trans h2, h7, sp_pass_zc h1 h7, ?_, ?_⟩
  · intro p hp hp7
    obtain ⟨e1, e2, e3, e4⟩ := h5 p hp hp7
    refine ⟨?_, ?_, ?_, fun o ho => ⟨?_, ?_⟩⟩
    · rw [sp_pass_at h7 (by omega) (by omega) (fun q w hq g1 g2 => by omega)]; exact e1
    · rw [sp_pass_at h7 (by omega) (by omega) (fun q w hq g1 g2 => by omega)]; exact e2
    · rw [sp_pass_at h7 (by omega) (by omega) (fun q w hq g1 g2 => by omega)]; exact e3
    · rw [sp_pass_at h7 (by omega) (by omega) (fun q w hq g1 g2 => by omega)]; exact (e4 o ho).1
    · rw [sp_pass_at h7 (by omega) (by omega) (fun q w hq g1 g2 => by omega)]; exact (e4 o ho).2
  · refine ⟨?_, fun p hp => ?_⟩
    · rw [k.2.2.2.2.1]; exact h6.1
    · have := k.2.2.2.2.2.2.1 p 0 (by omega) (by decide)
      rw [Nat.add_zero] at this
      rw [this]; exact h6.2 p hp
theorem c_pass {A : (Nat → Int32) → Nat → Int32 × Bool} {M : sy_M} {h n : Nat} {f : Nat → Int32} {dr : Bool} (H : hw M h f) (G : gr f n) (hA : cAK A 29 M f) (hN : nt M n f) : ∃ M1, jfX8_pass h 29 (bz dr) M = sy_ri (sp_pass A n false dr f).2 M1 ∧ hw M1 h (sp_pass A n false dr f).1 ∧ fp h M M1 := by
  obtain ⟨hb, hn, h7, hz, _, _⟩ := G
  have hl := h_lt H.1.1
  obtain ⟨t, ht, e4⟩ := rb_tick hb
  obtain ⟨k, hk, ek⟩ := sp_burn_le (s := sp_home f n (f 4)) hb n h7
  unfold sp_pass
  simp (disch := omega) only [jfX8_pass, H.1.1, sy_bs_t, hv_5 H.1, zL, ite_bz0]
  rw [e4, c_needsAt hN (by omega), sy_bi_ri, ← e4]
  cases dr
  · exact c_p1 H hb hz hA hN hn h7 ⟨k, by omega, ek⟩
  · simp only [cond_true]
    obtain ⟨M1, e1, w1, f1⟩ := c_draw H
    rw [e1, sy_bi_ri]
    have hA1 : cAK A 29 M1 (sp_seed f) := cAK_cp hA (lcp_of (fun c c1 c2 => f1 c (by omega))) sp_seed_hs.1
    have hN1 : nt M1 n (sp_seed f) := nt_congr (nt_same sp_seed_hs.2.2.2.2.2.1 h7 hN) (f1 _ (by omega)) (f1 _ (by omega))
    have e9 : M1 h 10 = f 9 := by rw [hv_10 w1.1]; exact rs_ne _ _ (by decide)
    have e41 : sp_seed f 4 = f 4 := rs_ne _ _ (by decide)
    have ez : zc (sp_seed f) n := by
      intro q p hp
      have q1 : f 8 = (Int32.ofNat 0) := (rs_ne f _ (show (8 : Nat) ≠ 13 by decide)).symm.trans q
      exact (rs_ne _ _ (by omega)).trans (hz q1 p hp)
    have key : ∀ a, (∃ k, k < 2147483648 ∧ a = Int32.ofNat k) → ∃ M2, jfX8_pass_34 h 29 a M1 = sy_ri (sp_p1 A n false (sp_seed f) (sp_home f n (f 4)) a).2 M2 ∧ hw M2 h (sp_p1 A n false (sp_seed f) (sp_home f n (f 4)) a).1 ∧ fp h M M2 := by
      intro a ha
      obtain ⟨M2, g1, g2, g3⟩ := c_p1 (a := a) w1 (sp_seed_rb hb) ez hA1 hN1 (sp_seed_hs.2.2.1.trans hn) h7 ha
      rw [e41, sp_home_same sp_seed_hs.2.2.2.2.2.1 h7] at g1 g2
      exact ⟨M2, g1, g2, f1.fp.trans g3⟩
    rw [e9]
    split
    · exact key _ ⟨k * 2, by omega, by rw [ek, zmul]⟩
    · exact key _ ⟨k, by omega, ek⟩
