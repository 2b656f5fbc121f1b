/-! ===== the reference: who feeds, a tick, many ticks ===== -/
/-- what asking leaves as it was -/
def fa (M M1 : sy_M) : Prop := (∀ a, a ≠ 121 → a ≠ 127 → M1 a = M a) ∧ (∀ j, j < 9 ∨ j = 12 ∨ 19 ≤ j → M1 121 j = M 121 j)
theorem fa.trans {M M1 M2 : sy_M} (a : fa M M1) (b : fa M1 M2) : fa M M2 := ⟨fun c h1 h2 => (b.1 c h1 h2).trans (a.1 c h1 h2), fun j hj => (b.2 j hj).trans (a.2 j hj)⟩
theorem fa_rfl {M : sy_M} : fa M M := ⟨fun _ _ _ => rfl, fun _ _ => rfl⟩
/-- what a tick leaves as it was -/
def fm (M M1 : sy_M) : Prop := (∀ a, a ≠ 121 → a ≠ 122 → a ≠ 127 → M1 a = M a) ∧ (∀ j, j < 9 ∨ j = 12 ∨ j = 19 → M1 121 j = M 121 j)
theorem fm.trans {M M1 M2 : sy_M} (a : fm M M1) (b : fm M1 M2) : fm M M2 := ⟨fun c h1 h2 h3 => (b.1 c h1 h2 h3).trans (a.1 c h1 h2 h3), fun j hj => (b.2 j hj).trans (a.2 j hj)⟩
theorem fm_rfl {M : sy_M} : fm M M := ⟨fun _ _ _ _ => rfl, fun _ _ => rfl⟩
theorem fa.fm {M M1 : sy_M} (a : fa M M1) : fm M M1 := ⟨fun c h1 h2 h3 => a.1 c h1 h3, fun j hj => a.2 j (by omega)⟩
theorem fm_syc {M : sy_M} {g : Nat → Int32} : fm M (syc M 122 g) := ⟨fun c h1 h2 h3 => syc_ne _ _ h2, fun j hj => by rw [syc_ne _ _ (by decide)]⟩
/-- asking the law's text: A says what it answers, tx which texts are right -/
def mAK (A : (Nat → Int32) → Nat → Int32 × Bool) (tx : (Nat → Int32) → Prop) : Prop :=
  (∀ f g, tx f → tsame f g → tx g) ∧ ∀ (M : sy_M) (p : Nat), tx (M 122) → p < 7 → ∃ M1, jfX12_asks (Int32.ofNat p) M = sy_rv M1 ∧ M1 121 17 = (A (M 122) p).1 ∧ M1 121 18 = bz (A (M 122) p).2 ∧ fa M M1
def sp_wh (A : (Nat → Int32) → Nat → Int32 × Bool) (f : Nat → Int32) (s : Int32) (p : Nat) (x : Int32 × Int32) : Int32 × Int32 :=
  bif sp_bit s p then (if f (14 + 9 * p + 5) = (Int32.ofNat 0) then x else if f (14 + 9 * p + 4) < f 8 then (bif (A f p).2 then x else if x.1 = -(Int32.ofNat 1) then (Int32.ofNat p, (A f p).1) else if x.2 < (A f p).1 then (Int32.ofNat p, (A f p).1) else x) else x) else x
def sp_who (A : (Nat → Int32) → Nat → Int32 × Bool) (f : Nat → Int32) (n : Nat) (s : Int32) : Int32 := (sy_fo (sp_wh A f s) n 0 (-(Int32.ofNat 1), (Int32.ofNat 0))).1
theorem m_whoFeeds {A : (Nat → Int32) → Nat → Int32 × Bool} {tx : (Nat → Int32) → Prop} (hA : mAK A tx) {M : sy_M} {n : Nat} {s : Int32} (ht : tx (M 122)) (hn : M 122 3 = Int32.ofNat n) (h7 : n ≤ 7) : ∃ M1, jfX12_whoFeeds s M = sy_ri (sp_who A (M 122) n s) M1 ∧ fa M M1 := by
  unfold jfX12_whoFeeds sp_who
  refine sy_forR (n := n) (F := sy_F) (R := fun c => ∃ M1, c = sy_ri (sy_fo (sp_wh A (M 122) s) n 0 (-(Int32.ofNat 1), (Int32.ofNat 0))).1 M1 ∧ fa M M1) (fun k i (a : (Int32 × Int32) × sy_M) => jfX12_whoFeeds_7 k s a.1.1 a.1.2 (Int32.ofNat i) a.2) (fun i a => a.1 = sy_fo (sp_wh A (M 122) s) i 0 (-(Int32.ofNat 1), (Int32.ofNat 0)) ∧ fa M a.2) ?_ ?_ ((-(Int32.ofNat 1), (Int32.ofNat 0)), M) ⟨rfl, fa_rfl⟩ (by rw [sy_F_eq]; omega)
  · intro k i ⟨⟨w, m⟩, N⟩ hi ⟨h1, h2⟩
    have e122 : N 122 = M 122 := h2.1 122 (by decide) (by decide)
    refine Or.inl ?_
    obtain ⟨N1, g1, g2, g3, g4⟩ := hA.2 N i (by rw [e122]; exact ht) (by omega)
    rw [e122] at g2 g3
    have g5 := h2.trans g4
    rw [sy_fo_last, Nat.zero_add, ← h1]
    show ∃ a' : (Int32 × Int32) × sy_M, jgX12_whoFeeds_7 (jfX12_whoFeeds_7 k) s w m (Int32.ofNat i) N = jfX12_whoFeeds_7 k s a'.1.1 a'.1.2 (Int32.ofNat (i + 1)) a'.2 ∧ a'.1 = sp_wh A (M 122) s i (w, m) ∧ fa M a'.2
    unfold sp_wh
    simp (disch := omega) only [zL, zlt, zle, zeq, zadd, zmul, zin, zix, zsh1, Nat.add_zero, Nat.zero_add, Nat.mul_zero, if_true, if_false, if_pos, if_neg, sy_bi_ri, sy_bi_rt, sy_bv_rv, sy_bv_rt, sy_br_rr, sy_br_rn, sy_hi_ri, sy_hi_rt, sy_bs_t, sy_bx_t, sy_bb_t, bz_bo, ite_bz0, ite_bz1, jgX12_whoFeeds_7, jfX12_whoFeeds_94, jfX12_whoFeeds_86, jfX12_whoFeeds_83, e122, hn, m_isOf, m_of, g1, g2, g3]
    cases sp_bit s i
    · exact ⟨((w, m), N), rfl, rfl, h2⟩
    · simp only [cond_true]
      split
      · exact ⟨((w, m), N), rfl, rfl, h2⟩
      · split
        · cases (A (M 122) i).2
          · simp only [cond_false]
            split
            · exact ⟨((Int32.ofNat i, (A (M 122) i).1), N1), rfl, rfl, g5⟩
            · split
              · exact ⟨((Int32.ofNat i, (A (M 122) i).1), N1), rfl, rfl, g5⟩
              · exact ⟨((w, m), N1), rfl, rfl, g5⟩
          · exact ⟨((w, m), N1), rfl, rfl, g5⟩
        · exact ⟨((w, m), N), rfl, rfl, h2⟩
  · intro k ⟨⟨w, m⟩, N⟩ ⟨h1, h2⟩
    have e122 : N 122 = M 122 := h2.1 122 (by decide) (by decide)
    refine ⟨N, ?_, h2⟩
    show jgX12_whoFeeds_7 (jfX12_whoFeeds_7 k) s w m (Int32.ofNat n) N = _
    rw [← h1]
    simp (disch := omega) only [zL, zlt, zle, zeq, zadd, zmul, zin, zix, zsh1, Nat.add_zero, Nat.zero_add, Nat.mul_zero, if_true, if_false, if_pos, if_neg, sy_bi_ri, sy_bi_rt, sy_bv_rv, sy_bv_rt, sy_br_rr, sy_br_rn, sy_hi_ri, sy_hi_rt, sy_bs_t, sy_bx_t, sy_bb_t, bz_bo, ite_bz0, ite_bz1, jgX12_whoFeeds_7, e122, hn]
/-- who it is, if one is: a lodger with a coin -/
theorem sp_who_is (A : (Nat → Int32) → Nat → Int32 × Bool) (f : Nat → Int32) (n : Nat) (s : Int32) : sp_who A f n s = -(Int32.ofNat 1) ∨ ∃ q, q < n ∧ sp_who A f n s = Int32.ofNat q ∧ f (14 + 9 * q + 5) ≠ (Int32.ofNat 0) := by
  unfold sp_who
  refine sy_fo_P (n := n) (P := fun x : Int32 × Int32 => x.1 = -(Int32.ofNat 1) ∨ ∃ q, q < n ∧ x.1 = Int32.ofNat q ∧ f (14 + 9 * q + 5) ≠ (Int32.ofNat 0)) ?_ n 0 (-(Int32.ofNat 1), (Int32.ofNat 0)) (by omega) (Or.inl rfl)
  intro i x hi h
  unfold sp_wh
  cases sp_bit s i
  · exact h
  · rw [cond_true]
    split
    · exact h
    · rename_i hc
      split
      · cases (A f i).2
        · rw [cond_false]
          split
          · exact Or.inr ⟨i, hi, rfl, hc⟩
          · split
            · exact Or.inr ⟨i, hi, rfl, hc⟩
            · exact h
        · exact h
      · exact h
def sp_clock (f : Nat → Int32) : Nat → Int32 := if f 4 + (Int32.ofNat 1) = (Int32.ofNat 48) then rs (rs f 4 (Int32.ofNat 0)) 5 (sp_min (Int32.ofNat 9999) (f 5 + (Int32.ofNat 1))) else rs f 4 (f 4 + (Int32.ofNat 1))
/-- in the dark: the row behind it, and who fed -/
def sp_pd (A : (Nat → Int32) → Nat → Int32 × Bool) (n : Nat) (nf : Bool) (f : Nat → Int32) (s : Int32) : (Nat → Int32) × Int32 :=
  bif nf then (sp_chill (sp_dark f) n s, -(Int32.ofNat 1)) else
  (if sp_who A (sp_chill (sp_dark f) n s) n s = -(Int32.ofNat 1) then sp_chill (sp_dark f) n s else sp_feed (sp_chill (sp_dark f) n s) (sp_who A (sp_chill (sp_dark f) n s) n s).toNatClampNeg, sp_who A (sp_chill (sp_dark f) n s) n s)
/-- a tick by what is needed: the row behind it, and who fed (-2: it was lit) -/
def sp_p1 (A : (Nat → Int32) → Nat → Int32 × Bool) (n : Nat) (nf : Bool) (f : Nat → Int32) (s a : Int32) : (Nat → Int32) × Int32 :=
  if f 6 < a then (sp_clock (sp_pd A n nf f s).1, (sp_pd A n nf f s).2) else (sp_clock (sp_lit f n a), -(Int32.ofNat 2))
def sp_seed (f : Nat → Int32) : Nat → Int32 := rs f 13 ((Int32.ofNat 1103515245) * f 13 + (Int32.ofNat 12345))
def sp_draw (f : Nat → Int32) : Int32 := (((Int32.ofNat 1103515245) * f 13 + (Int32.ofNat 12345)).toUInt32 >>> (Int32.toUInt32 (Int32.ofNat 16) &&& Int32.toUInt32 (Int32.ofNat 31))).toInt32 &&& (Int32.ofNat 32767)
def sp_pass (A : (Nat → Int32) → Nat → Int32 × Bool) (n : Nat) (nf dr : Bool) (f : Nat → Int32) : (Nat → Int32) × Int32 :=
  bif dr then sp_p1 A n nf (sp_seed f) (sp_home f n (f 4)) (if sp_draw f - sp_draw f / (Int32.ofNat 100) * (Int32.ofNat 100) < f 9 then sp_burn f n (sp_home f n (f 4)) * (Int32.ofNat 2) else sp_burn f n (sp_home f n (f 4)))
  else sp_p1 A n nf f (sp_home f n (f 4)) (sp_burn f n (sp_home f n (f 4)))
theorem m_clock {M : sy_M} {a : Int32} (ha : a = (Int32.ofNat 0) ∨ a = (Int32.ofNat 1)) : jfX12_passes_107 a M = sy_ri a (syc M 122 (sp_clock (M 122))) := by
  have hb : sy_bo a = true := by rcases ha with h | h <;> rw [h] <;> rfl
  unfold sp_clock
  simp (disch := omega) only [zL, zlt, zle, zeq, zadd, zmul, zin, zix, zsh1, Nat.add_zero, Nat.zero_add, Nat.mul_zero, if_true, if_false, if_pos, if_neg, sy_bi_ri, sy_bi_rt, sy_bv_rv, sy_bv_rt, sy_br_rr, sy_br_rn, sy_hi_ri, sy_hi_rt, sy_bs_t, sy_bx_t, sy_bb_t, bz_bo, ite_bz0, ite_bz1, jfX12_passes_107, sy_upd_st, syc_at, rs_at, rs_ne, hb, m_lesser, syc_st, rs_rs]
  split
  · rfl
  · rfl
/-- what was fed, who fed first -/
def sp_fd (g : Nat → Int32) (w : Int32) (M1 : sy_M) : Prop := M1 121 20 = (if w < (Int32.ofNat 0) then g 20 else g 20 + (Int32.ofNat 1)) ∧ M1 121 21 = (if w < (Int32.ofNat 0) then g 21 else if g 21 = -(Int32.ofNat 1) then w else g 21)
theorem m_pd {A : (Nat → Int32) → Nat → Int32 × Bool} {tx : (Nat → Int32) → Prop} (hA : mAK A tx) {M : sy_M} {n : Nat} {s a : Int32} {nf : Bool} (hb : rb (M 122)) (ht : tx (M 122)) (hn : M 122 3 = Int32.ofNat n) (h7 : n ≤ 7) (hf : M 121 19 = bz nf) : ∃ M1, jfX12_passes_57 s a (Int32.ofNat 1) M = sy_ri (Int32.ofNat 1) M1 ∧ M1 122 = sp_clock (sp_pd A n nf (M 122) s).1 ∧ fm M M1 ∧ sp_fd (M 121) (sp_pd A n nf (M 122) s).2 M1 := by
  have h1 := sp_chill_rb (s := s) (sp_dark_rb hb) h7
  have h2 := sp_dark_hs.trans (sp_chill_hs (f := sp_dark (M 122)) (s := s) h7)
  obtain ⟨N, g1, g2⟩ := m_whoFeeds hA (M := syc M 122 (sp_chill (sp_dark (M 122)) n s)) (n := n) (s := s) (by rw [syc_at]; exact hA.1 _ _ ht h2.1) (by rw [syc_at]; exact h2.2.2.1.trans hn) h7
  rw [syc_at] at g1
  have e122 : N 122 = sp_chill (sp_dark (M 122)) n s := by rw [g2.1 122 (by decide) (by decide), syc_at]
  have e121 : ∀ j, j < 9 ∨ j = 12 ∨ 19 ≤ j → N 121 j = M 121 j := by
    intro j hj
    rw [g2.2 j hj, syc_ne _ _ (by decide)]
  have hfm : fm M N := fm_syc.trans g2.fm
  unfold sp_pd sp_fd
  simp (disch := omega) only [zL, zlt, zle, zeq, zadd, zmul, zin, zix, zsh1, Nat.add_zero, Nat.zero_add, Nat.mul_zero, if_true, if_false, if_pos, if_neg, sy_bi_ri, sy_bi_rt, sy_bv_rv, sy_bv_rt, sy_br_rr, sy_br_rn, sy_hi_ri, sy_hi_rt, sy_bs_t, sy_bx_t, sy_bb_t, bz_bo, ite_bz0, ite_bz1, jfX12_passes_57, m_isDark hb hn h7, syc_ne, hf]
  cases nf
  · simp only [cond_false, g1, sy_bi_ri]
    rcases sp_who_is A (sp_chill (sp_dark (M 122)) n s) n s with e | ⟨q, hq, e, hc⟩
    · simp only [e, if_true]
      refine ⟨syc N 122 (sp_clock (N 122)), ?_, ?_, hfm.trans fm_syc, ?_, ?_⟩
      · simp (disch := omega) only [zL, zlt, zle, zeq, zadd, zmul, zin, zix, zsh1, Nat.add_zero, Nat.zero_add, Nat.mul_zero, if_true, if_false, if_pos, if_neg, sy_bi_ri, sy_bi_rt, sy_bv_rv, sy_bv_rt, sy_br_rr, sy_br_rn, sy_hi_ri, sy_hi_rt, sy_bs_t, sy_bx_t, sy_bb_t, bz_bo, ite_bz0, ite_bz1, jfX12_passes_93, m_clock (Or.inr rfl)]
      · rw [syc_at, e122]
      · rw [syc_ne _ _ (by decide), e121 _ (by omega), if_pos (by decide)]
      · rw [syc_ne _ _ (by decide), e121 _ (by omega), if_pos (by decide)]
    · have hne : Int32.ofNat q ≠ -(Int32.ofNat 1) := by
        intro z
        have : ¬ (Int32.ofNat q < (Int32.ofNat 0)) := znn q (by omega)
        rw [z] at this
        exact this (by decide)
      have hnl : ¬ (Int32.ofNat q < (Int32.ofNat 0)) := znn q (by omega)
      have eq1 : (Int32.ofNat q).toNatClampNeg = q := zix (by omega)
      simp only [e, if_neg hne, if_neg hnl, eq1]
      refine ⟨syc (syc (syc N 121 (rs (bif decide (N 121 21 = -(Int32.ofNat 1)) then rs (N 121) 21 (Int32.ofNat q) else N 121) 20 (N 121 20 + (Int32.ofNat 1)))) 122 (sp_feed (N 122) q)) 122 (sp_clock (sp_feed (N 122) q)), ?_, ?_, ?_, ?_, ?_⟩
      · simp only [jfX12_passes_93]
        rw [if_neg (show ¬ (Int32.ofNat q = -1) from hne), m_feeds (by omega), sy_bv_rv, m_clock (Or.inr rfl), syc_at]
      · rw [syc_at, e122]
      · refine hfm.trans ⟨fun c h1 h2 h3 => ?_, fun j hj => ?_⟩
        · rw [syc_ne _ _ h2, syc_ne _ _ h2, syc_ne _ _ h1]
        · rw [syc_ne _ _ (by decide), syc_ne _ _ (by decide), syc_at, rs_ne _ _ (by omega)]
          cases decide (N 121 21 = -(Int32.ofNat 1))
          · rfl
          · rw [cond_true, rs_ne _ _ (by omega)]
      · rw [syc_ne _ _ (by decide), syc_ne _ _ (by decide), syc_at, rs_at, e121 _ (by omega)]
      · rw [syc_ne _ _ (by decide), syc_ne _ _ (by decide), syc_at, rs_ne _ _ (by decide)]
        by_cases h : M 121 21 = -(Int32.ofNat 1)
        · rw [e121 21 (by omega), decide_eq_true h, cond_true, rs_at, if_pos h]
        · rw [e121 21 (by omega), decide_eq_false h, cond_false, if_neg h, e121 21 (by omega)]
  · simp only [cond_true]
    refine ⟨syc M 122 (sp_clock (sp_chill (sp_dark (M 122)) n s)), ?_, syc_at _ _ _, fm_syc, ?_, ?_⟩
    · simp (disch := omega) only [zL, zlt, zle, zeq, zadd, zmul, zin, zix, zsh1, Nat.add_zero, Nat.zero_add, Nat.mul_zero, if_true, if_false, if_pos, if_neg, sy_bi_ri, sy_bi_rt, sy_bv_rv, sy_bv_rt, sy_br_rr, sy_br_rn, sy_hi_ri, sy_hi_rt, sy_bs_t, sy_bx_t, sy_bb_t, bz_bo, ite_bz0, ite_bz1, jfX12_passes_93, m_clock (Or.inr rfl), syc_at, syc_st]
    · rw [syc_ne _ _ (by decide), if_pos (by decide)]
    · rw [syc_ne _ _ (by decide), if_pos (by decide)]
theorem m_p1 {A : (Nat → Int32) → Nat → Int32 × Bool} {tx : (Nat → Int32) → Prop} (hA : mAK A tx) {M : sy_M} {n : Nat} {s a : Int32} {nf : Bool} (hb : rb (M 122)) (ht : tx (M 122)) (hn : M 122 3 = Int32.ofNat n) (h7 : n ≤ 7) (hf : M 121 19 = bz nf) : ∃ M1, jfX12_passes_41 s a M = sy_ri (bz (decide ((sp_p1 A n nf (M 122) s a).2 ≠ -(Int32.ofNat 2)))) M1 ∧ M1 122 = (sp_p1 A n nf (M 122) s a).1 ∧ fm M M1 ∧ sp_fd (M 121) (sp_p1 A n nf (M 122) s a).2 M1 := by
  unfold sp_p1 jfX12_passes_41
  by_cases h : M 122 6 < a
  · simp only [if_pos h]
    obtain ⟨M1, e1, e2, e3, e4⟩ := m_pd hA (s := s) (a := a) hb ht hn h7 hf
    refine ⟨M1, ?_, e2, e3, e4⟩
    have : (sp_pd A n nf (M 122) s).2 ≠ -(Int32.ofNat 2) := by
      unfold sp_pd
      cases nf
      · simp only [cond_false]
        rcases sp_who_is A (sp_chill (sp_dark (M 122)) n s) n s with e | ⟨q, hq, e, hc⟩
        · rw [e]; decide
        · rw [e]
          intro z
          have : ¬ (Int32.ofNat q < (Int32.ofNat 0)) := znn q (by omega)
          rw [z] at this
          exact this (by decide)
      · simp only [cond_true]; decide
    rw [decide_eq_true this]
    exact e1
  · simp only [if_neg h]
    refine ⟨syc M 122 (sp_clock (sp_lit (M 122) n a)), ?_, syc_at _ _ _, fm_syc, ?_, ?_⟩
    · simp (disch := omega) only [zL, zlt, zle, zeq, zadd, zmul, zin, zix, zsh1, Nat.add_zero, Nat.zero_add, Nat.mul_zero, if_true, if_false, if_pos, if_neg, sy_bi_ri, sy_bi_rt, sy_bv_rv, sy_bv_rt, sy_br_rr, sy_br_rn, sy_hi_ri, sy_hi_rt, sy_bs_t, sy_bx_t, sy_bb_t, bz_bo, ite_bz0, ite_bz1, jfX12_passes_57, m_isLit hn h7, m_clock (Or.inl rfl), syc_at, syc_st]
      rfl
    · rw [syc_ne _ _ (by decide), if_pos (by decide)]
    · rw [syc_ne _ _ (by decide), if_pos (by decide)]
theorem sp_seed_rb {f : Nat → Int32} (H : rb f) : rb (sp_seed f) := rb_row H (fun i h1 h2 h3 h4 h5 => rs_ne _ _ h5)
theorem sp_seed_hs {f : Nat → Int32} : hsame f (sp_seed f) := hsame_rs (by omega)
theorem m_passes {A : (Nat → Int32) → Nat → Int32 × Bool} {tx : (Nat → Int32) → Prop} (hA : mAK A tx) {M : sy_M} {n : Nat} {nf dr : Bool} (hb : rb (M 122)) (ht : tx (M 122)) (hn : M 122 3 = Int32.ofNat n) (h7 : n ≤ 7) (hf : M 121 19 = bz nf) : ∃ M1, jfX12_passes (bz dr) M = sy_ri (bz (decide ((sp_pass A n nf dr (M 122)).2 ≠ -(Int32.ofNat 2)))) M1 ∧ M1 122 = (sp_pass A n nf dr (M 122)).1 ∧ fm M M1 ∧ sp_fd (M 121) (sp_pass A n nf dr (M 122)).2 M1 := by
  unfold sp_pass
  simp (disch := omega) only [zL, zlt, zle, zeq, zadd, zmul, zin, zix, zsh1, Nat.add_zero, Nat.zero_add, Nat.mul_zero, if_true, if_false, if_pos, if_neg, sy_bi_ri, sy_bi_rt, sy_bv_rv, sy_bv_rt, sy_br_rr, sy_br_rn, sy_hi_ri, sy_hi_rt, sy_bs_t, sy_bx_t, sy_bb_t, bz_bo, ite_bz0, ite_bz1, jfX12_passes, m_homeIn hn h7, m_burnsOf hn h7]
  cases dr
  · simp only [cond_false]
    exact m_p1 hA hb ht hn h7 hf
  · simp only [cond_true]
    have e := m_draw M (n := (Int32.ofNat 100)) (by decide)
    have e2 : jfX12_draw (Int32.ofNat 100) M = sy_ri (sp_draw (M 122) - sp_draw (M 122) / (Int32.ofNat 100) * (Int32.ofNat 100)) (syc M 122 (sp_seed (M 122))) := e
    rw [e2, sy_bi_ri, syc_at, show sp_seed (M 122) 9 = M 122 9 from rs_ne _ _ (by decide)]
    have key : ∀ a, ∃ M1, jfX12_passes_41 (sp_home (M 122) n (M 122 4)) a (syc M 122 (sp_seed (M 122))) = sy_ri (bz (decide ((sp_p1 A n nf (sp_seed (M 122)) (sp_home (M 122) n (M 122 4)) a).2 ≠ -(Int32.ofNat 2)))) M1 ∧ M1 122 = (sp_p1 A n nf (sp_seed (M 122)) (sp_home (M 122) n (M 122 4)) a).1 ∧ fm M M1 ∧ sp_fd (M 121) (sp_p1 A n nf (sp_seed (M 122)) (sp_home (M 122) n (M 122 4)) a).2 M1 := by
      intro a
      obtain ⟨M1, k1, k2, k3, k4⟩ := m_p1 hA (M := syc M 122 (sp_seed (M 122))) (s := sp_home (M 122) n (M 122 4)) (a := a) (nf := nf) (n := n) (by rw [syc_at]; exact sp_seed_rb hb) (by rw [syc_at]; exact hA.1 _ _ ht sp_seed_hs.1) (by rw [syc_at]; exact sp_seed_hs.2.2.1.trans hn) h7 (by rw [syc_ne _ _ (by decide)]; exact hf)
      rw [syc_at] at k1 k2 k4
      rw [syc_ne _ _ (by decide)] at k4
      exact ⟨M1, k1, k2, fm_syc.trans k3, k4⟩
    split
    · exact key _
    · exact key _
theorem sp_clock_rb {f : Nat → Int32} (H : rb f) : rb (sp_clock f) := by
  obtain ⟨t, ht, e⟩ := rb_tick H
  obtain ⟨k, hk, e2⟩ := rb_night H
  unfold sp_clock
  rw [e, e2, zadd, zadd, zmin (by omega) (by omega)]
  split
  · exact rb_set (rb_set H (k := 0) (by decide)) (Nat.min_le_left _ _)
  · rename_i h
    refine rb_set H ?_
    have : t + 1 ≠ 48 := fun z => h (by rw [z])
    show t + 1 ≤ 47
    omega
theorem sp_clock_hs {f : Nat → Int32} : hsame f (sp_clock f) := by
  unfold sp_clock
  split
  · exact (hsame_rs (by omega)).trans (hsame_rs (by omega))
  · exact hsame_rs (by omega)
theorem zsub_1 {k : Nat} (h : 0 < k) : Int32.ofNat k - (Int32.ofNat 1) = Int32.ofNat (k - 1) := zsub h
theorem sp_feed_rb {f : Nat → Int32} {q : Nat} (H : rb f) (hq : q < 7) (hc : f (14 + 9 * q + 5) ≠ (Int32.ofNat 0)) : rb (sp_feed f q) := by
  obtain ⟨c, hc1, e⟩ := rb_coins H hq
  obtain ⟨d, hd1, e2⟩ := rb_fed H hq
  obtain ⟨b, hb1, e3⟩ := rb_box H
  obtain ⟨g, hg1, e4⟩ := rb_gas H
  obtain ⟨p, hp1, e5⟩ := rb_price H
  have hc0 : 0 < c := by
    rcases Nat.eq_zero_or_pos c with h | h
    · exact absurd (e.trans (by rw [h])) hc
    · exact h
  unfold sp_feed
  refine rb_log ?_ _ _
  unfold sp_coin
  rw [e, e2, e3, e4, e5, zsub_1 hc0, zadd, zadd, zadd, zmin (by omega) (by omega), zmin (by omega) (by omega), zmin (by omega) (by omega)]
  refine rb_row (rb_set (rb_set (rb_set (rb_set H (i := 14 + 9 * q + 5) (k := c - 1) (by rw [tbl_u hq (by decide)]; show c - 1 ≤ 999; omega)) (i := 14 + 9 * q + 8) (k := min 999 (d + 1)) (by rw [tbl_u hq (by decide)]; exact Nat.min_le_left _ _)) (i := 10) (k := min 9999 (b + 1)) (Nat.min_le_left _ _)) (i := 6) (k := min 9999 (g + p)) (Nat.min_le_left _ _)) (fun i h1 h2 h3 h4 h5 => rs_ne _ _ h4)
theorem sp_feed_hs {f : Nat → Int32} {q : Nat} (hq : q < 7) : hsame f (sp_feed f q) := by
  unfold sp_feed sp_coin
  exact (((((hsame_rsu hq (by decide) (by decide)).trans (hsame_rsu hq (by decide) (by decide))).trans (hsame_rs (by omega))).trans (hsame_rs (by omega))).trans (hsame_rs (by omega))).trans hsame_log
theorem sp_lit_rb {f : Nat → Int32} {n g a : Nat} (H : rb f) (h7 : n ≤ 7) (hg : f 6 = Int32.ofNat g) (ha : a ≤ g) (hg2 : g ≤ 9999) : rb (sp_lit f n (Int32.ofNat a)) := by
  unfold sp_lit
  refine sy_fo_P (n := n) (P := rb) (fun i x hi h => rb_set h (k := 0) (Nat.zero_le _)) n 0 _ (by omega) ?_
  rw [hg, zsub ha]
  exact rb_set (rb_set H (i := 6) (k := g - a) (show g - a ≤ 9999 by omega)) (k := 0) (Nat.zero_le _)
theorem sp_lit_hs {f : Nat → Int32} {n : Nat} {a : Int32} (h7 : n ≤ 7) : hsame f (sp_lit f n a) := by
  unfold sp_lit
  exact sy_fo_P (n := n) (P := hsame f) (fun i x hi h => h.trans (hsame_rsu (by omega) (by decide) (by decide))) n 0 _ (by omega) ((hsame_rs (by omega)).trans (hsame_rs (by omega)))
theorem sp_pd_rb {A : (Nat → Int32) → Nat → Int32 × Bool} {n : Nat} {nf : Bool} {f : Nat → Int32} {s : Int32} (H : rb f) (h7 : n ≤ 7) : rb (sp_pd A n nf f s).1 ∧ hsame f (sp_pd A n nf f s).1 := by
  have h1 := sp_chill_rb (s := s) (sp_dark_rb H) h7
  have h2 := sp_dark_hs.trans (sp_chill_hs (f := sp_dark f) (s := s) h7)
  unfold sp_pd
  cases nf
  · rw [cond_false]
    rcases sp_who_is A (sp_chill (sp_dark f) n s) n s with e | ⟨q, hq, e, hc⟩
    · simp only [e, if_true]
      exact ⟨h1, h2⟩
    · have hne : Int32.ofNat q ≠ -(Int32.ofNat 1) := by
        intro z
        have : ¬ (Int32.ofNat q < (Int32.ofNat 0)) := znn q (by omega)
        rw [z] at this
        exact this (by decide)
      have eq1 : (Int32.ofNat q).toNatClampNeg = q := zix (by omega)
      simp only [e, if_neg hne, eq1]
      exact ⟨sp_feed_rb h1 (by omega) hc, h2.trans (sp_feed_hs (by omega))⟩
  · rw [cond_true]
    exact ⟨h1, h2⟩
/-- what burners need together -/
theorem sp_burn_le {f : Nat → Int32} {s : Int32} (H : rb f) : ∀ n, n ≤ 7 → ∃ k, k ≤ 9 * n ∧ sp_burn f n s = Int32.ofNat k := by
  intro n
  unfold sp_burn
  induction n with
  | zero => exact fun _ => ⟨0, by omega, rfl⟩
  | succ n ih =>
    intro h
    obtain ⟨k, hk, e⟩ := ih (by omega)
    obtain ⟨b, hb, e2⟩ := rb_burns H (p := n) (by omega)
    rw [sy_fo_last, e, Nat.zero_add, e2]
    cases sp_bit s n
    · exact ⟨k, by omega, by rw [cond_false, zadd, Nat.add_zero]⟩
    · exact ⟨k + b, by omega, by rw [cond_true, zadd]⟩
theorem sp_p1_rb {A : (Nat → Int32) → Nat → Int32 × Bool} {n a : Nat} {nf : Bool} {f : Nat → Int32} {s : Int32} (H : rb f) (h7 : n ≤ 7) (ha : a < 2147483648) : rb (sp_p1 A n nf f s (Int32.ofNat a)).1 ∧ hsame f (sp_p1 A n nf f s (Int32.ofNat a)).1 := by
  obtain ⟨g, hg1, e4⟩ := rb_gas H
  have h1 := sp_pd_rb (A := A) (nf := nf) (s := s) H h7
  unfold sp_p1
  by_cases h : f 6 < Int32.ofNat a
  · rw [if_pos h]
    exact ⟨sp_clock_rb h1.1, h1.2.trans sp_clock_hs⟩
  · rw [if_neg h]
    rw [e4, zlt (by omega) ha] at h
    exact ⟨sp_clock_rb (sp_lit_rb H h7 e4 (by omega) hg1), (sp_lit_hs h7).trans sp_clock_hs⟩
theorem sp_pass_rb {A : (Nat → Int32) → Nat → Int32 × Bool} {n : Nat} {nf dr : Bool} {f : Nat → Int32} (H : rb f) (h7 : n ≤ 7) : rb (sp_pass A n nf dr f).1 ∧ hsame f (sp_pass A n nf dr f).1 := by
  obtain ⟨k, hk, e⟩ := sp_burn_le (s := sp_home f n (f 4)) H n h7
  unfold sp_pass
  rw [e]
  cases dr
  · exact sp_p1_rb H h7 (by omega)
  · rw [cond_true, zmul]
    split
    · have := sp_p1_rb (A := A) (nf := nf) (s := sp_home f n (f 4)) (a := k * 2) (sp_seed_rb H) h7 (by omega)
      exact ⟨this.1, sp_seed_hs.trans this.2⟩
    · have := sp_p1_rb (A := A) (nf := nf) (s := sp_home f n (f 4)) (a := k) (sp_seed_rb H) h7 (by omega)
      exact ⟨this.1, sp_seed_hs.trans this.2⟩
