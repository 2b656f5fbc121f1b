/-! ===== the law: what the reference asks, what the class compiled ===== -/
section
variable {M N : sy_M} {t : Nat → Nat} {L : Nat}
/-- the values that a law asks for -/
def vals (g : Nat → Int32) (p : Nat) : Nat → Int32 := fun j => if j = 0 then Int32.ofNat p else if j = 1 then g (14 + 9 * p) else if j = 2 then g (14 + 9 * p + 5) else if j = 3 then g (14 + 9 * p + 8) else if j = 4 then g (14 + 9 * p + 6) else if j = 5 then g 8 else if j = 6 then g 4 else if j = 7 then bz (decide (g 11 = Int32.ofNat p)) else if j = 8 then bz (decide (g (14 + 9 * p + 3) < g (14 + 9 * p + 6))) else (Int32.ofNat 0)
theorem told_vals {g : Nat → Int32} {p : Nat} (h : sp_told N g p) : ∀ j, j < 9 → N 52 j = vals g p j := by
  obtain ⟨h0, h1, h2, h3, h4, h5, h6, h7, h8⟩ := h
  intro j hj
  rcases (show j = 0 ∨ j = 1 ∨ j = 2 ∨ j = 3 ∨ j = 4 ∨ j = 5 ∨ j = 6 ∨ j = 7 ∨ j = 8 by omega) with e | e | e | e | e | e | e | e | e <;> subst e
  · exact h0
  · exact h1
  · exact h2
  · exact h3
  · exact h4
  · exact h5
  · exact h6
  · exact h7
  · exact h8
/-- this text has these lines -/
def Rd (t : Nat → Nat) (L n : Nat) (g : Nat → LT) : Prop := ∀ N v r, RS N t L (nxt t L 0) v 0 → N 121 18 = bz r → ∃ c N1, jfX12_read (Int32.ofNat 1) N = sy_ri c N1 ∧ fy N N1 ∧ N1 121 17 = tfo g v n 0 (N 121 17) ∧ N1 121 18 = bz (rfo g v n 0 r)
def txd (f : Nat → Int32) (n : Nat) (g : Nat → LT) : Prop := (f 1 < 1 → n = 0) ∧ (¬ f 1 < 1 → ∃ t L, (∀ i, t i ≤ 255) ∧ L ≤ 400 ∧ f 2 = Int32.ofNat L ∧ (∀ i, i < L → f (426 + i) = Int32.ofNat (t i)) ∧ Rd t L n g)
def txo (f : Nat → Int32) : Prop := ∃ n g, txd f n g
theorem txd_same {f h : Nat → Int32} {n : Nat} {g : Nat → LT} (H : txd f n g) (e : tsame f h) : txd h n g := by
  refine ⟨fun z => H.1 (by rw [← e.1]; exact z), fun z => ?_⟩
  obtain ⟨t, L, a, b, c, d, r⟩ := H.2 (by rw [← e.1]; exact z)
  exact ⟨t, L, a, b, e.2.1.trans c, fun i hi => (e.2.2 _ (by omega)).trans (d i hi), r⟩
theorem ask_ok {n p : Nat} {g : Nat → LT} (H : txd (M 122) n g) (hp : p < 7) : ∃ M1, jfX12_asks (Int32.ofNat p) M = sy_rv M1 ∧ M1 121 17 = tfo g (vals (M 122) p) n 0 (Int32.ofNat 0) ∧ M1 121 18 = bz (rfo g (vals (M 122) p) n 0 false) ∧ fa M M1 := by
  by_cases h1 : M 122 1 < 1
  · have n0 := H.1 h1
    subst n0
    refine ⟨syc M 121 (rs (rs (M 121) 17 (Int32.ofNat 0)) 18 (Int32.ofNat 0)), ?_, ?_, ?_, fun a h _ => syc_ne _ _ h, fun j hj => ?_⟩
    · unfold jfX12_asks
      simp only [sy_upd_st, syc_at, syc_st]
      rw [syc_ne _ _ (show (122 : Nat) ≠ 121 by decide), if_pos h1]
      rfl
    · rw [syc_at, rs_ne _ _ (by decide), rs_at]; rfl
    · rw [syc_at, rs_at]; rfl
    · rw [syc_at, rs_ne _ _ (by omega), rs_ne _ _ (by omega)]
  · obtain ⟨t, L, ht, hL, h2, htx, rd⟩ := H.2 h1
    generalize hv0 : vals (M 122) p = v
    have v0 : v 0 = Int32.ofNat p := by rw [← hv0]; rfl
    have v1 : v 1 = M 122 (14 + 9 * p) := by rw [← hv0]; rfl
    have v2 : v 2 = M 122 (14 + 9 * p + 5) := by rw [← hv0]; rfl
    have v3 : v 3 = M 122 (14 + 9 * p + 8) := by rw [← hv0]; rfl
    have v4 : v 4 = M 122 (14 + 9 * p + 6) := by rw [← hv0]; rfl
    have v5 : v 5 = M 122 8 := by rw [← hv0]; rfl
    have v6 : v 6 = M 122 4 := by rw [← hv0]; rfl
    have v7 : v 7 = bz (decide (M 122 11 = Int32.ofNat p)) := by rw [← hv0]; rfl
    have v8 : v 8 = bz (decide (M 122 (14 + 9 * p + 3) < M 122 (14 + 9 * p + 6))) := by rw [← hv0]; rfl
    generalize hA : syc M 121 (rs (rs (M 121) 17 (Int32.ofNat 0)) 18 (Int32.ofNat 0)) = M2
    have A122 : M2 122 = M 122 := by rw [← hA, syc_ne _ _ (by decide)]
    generalize hB : syc M2 127 (rs (rs (rs (rs (rs (rs (rs (M2 127) 0 (v 0)) 1 (v 1)) 2 (v 2)) 3 (v 3)) 4 (v 4)) 5 (v 5)) 6 (v 6)) = M3
    have B122 : M3 122 = M 122 := by rw [← hB, syc_ne _ _ (by decide), A122]
    have B121 : M3 121 = rs (rs (M 121) 17 (Int32.ofNat 0)) 18 (Int32.ofNat 0) := by rw [← hB, syc_ne _ _ (by decide), ← hA, syc_at]
    generalize hC : syc M3 121 (rs (rs (rs (rs (rs (rs (rs (M3 121) 15 (v 7)) 16 (v 8)) 12 (-(Int32.ofNat 1))) 9 (Int32.ofNat 426)) 10 (Int32.ofNat L)) 11 (Int32.ofNat 0)) 13 (Int32.ofNat 0)) = M4
    have C121 : M4 121 = rs (rs (rs (rs (rs (rs (rs (M3 121) 15 (v 7)) 16 (v 8)) 12 (-(Int32.ofNat 1))) 9 (Int32.ofNat 426)) 10 (Int32.ofNat L)) 11 (Int32.ofNat 0)) 13 (Int32.ofNat 0) := by rw [← hC, syc_at]
    have C122 : M4 122 = M 122 := by rw [← hC, syc_ne _ _ (by decide), B122]
    have C127 : ∀ j, j < 7 → M4 127 j = v j := by
      intro j hj
      rw [← hC, syc_ne _ _ (by decide), ← hB, syc_at]
      rcases (show j = 0 ∨ j = 1 ∨ j = 2 ∨ j = 3 ∨ j = 4 ∨ j = 5 ∨ j = 6 by omega) with e | e | e | e | e | e | e <;> subst e <;> simp (disch := decide) only [rs_ne, rs_at]
    have e0 : jfX12_asks (Int32.ofNat p) M = sy_bi (jfX12_read (Int32.ofNat 1) M4) fun v9 M8 => sy_rv (sy_upd M8 121 12 (M 121 12)) := by
      have a0 : jfX12_asks (Int32.ofNat p) M = jfX12_asks_121 (Int32.ofNat p) (v 7) M3 := by
        unfold jfX12_asks jfX12_asks_65
        simp (disch := omega) only [zL, sy_upd_st, syc_at, syc_st, hA, A122, m_of, sy_bi_ri, syc_ne, Nat.add_zero]
        rw [if_neg (show ¬ M 122 1 < (Int32.ofNat 1) from h1), ← v0, ← v1, ← v2, ← v3, ← v4, ← v5, ← v6, hB, v7, v0]
        by_cases hc : M 122 11 = Int32.ofNat p
        · rw [if_pos hc, decide_eq_true hc]; rfl
        · rw [if_neg hc, decide_eq_false hc]; rfl
      rw [a0]
      unfold jfX12_asks_121
      rw [v7, bz_bo, sy_bb_t, ← v7]
      simp (disch := omega) only [zL, sy_upd_st, m_of, sy_bi_ri, syc_ne, B122]
      have b0 : (if M 122 (14 + 9 * p + 3) < M 122 (14 + 9 * p + 6) then jfX12_asks_146 (Int32.ofNat 1) (syc M3 121 (rs (M3 121) 15 (v 7))) else jfX12_asks_146 (Int32.ofNat 0) (syc M3 121 (rs (M3 121) 15 (v 7)))) = jfX12_asks_146 (v 8) (syc M3 121 (rs (M3 121) 15 (v 7))) := by
        rw [v8]
        by_cases hc : M 122 (14 + 9 * p + 3) < M 122 (14 + 9 * p + 6)
        · rw [if_pos hc, decide_eq_true hc]; rfl
        · rw [if_neg hc, decide_eq_false hc]; rfl
      rw [b0]
      unfold jfX12_asks_146
      rw [v8, bz_bo, sy_bb_t, ← v8]
      simp (disch := omega) only [zL, sy_upd_st, syc_at, syc_st, syc_ne, B122, h2]
      have w12 : (rs (rs (M3 121) 15 (v 7)) 16 (v 8)) 12 = M 121 12 := by
        rw [rs_ne _ _ (by decide), rs_ne _ _ (by decide), B121, rs_ne _ _ (by decide), rs_ne _ _ (by decide)]
      rw [w12]
      rw [show (-Int32.ofNat 1 : Int32) = -(Int32.ofNat 1) from rfl, hC]
    have j18 : M4 121 18 = bz false := by
      rw [C121, B121]; simp (disch := decide) only [rs_ne, rs_at]; rfl
    have j17 : M4 121 17 = (Int32.ofNat 0) := by
      rw [C121, B121]; simp (disch := decide) only [rs_ne, rs_at]
    have rs0 : RS M4 t L (nxt t L 0) v 0 := by
      refine ⟨?_, ⟨0, ⟨?_, ?_, by omega, hL, Or.inr ⟨?_, fun i hi => by rw [C122]; exact htx i hi⟩⟩, by omega, rfl⟩, C127, ?_, ?_, by rw [v7]; exact bz_bo _, by rw [v8]; exact bz_bo _, ?_⟩ <;> rw [C121] <;> simp (disch := decide) only [rs_ne, rs_at]
    obtain ⟨c, N1, r1, r2, r3, r4⟩ := rd M4 v false rs0 j18
    refine ⟨syc N1 121 (rs (N1 121) 12 (M 121 12)), ?_, ?_, ?_, fun a h1 h2 => ?_, fun j hj => ?_⟩
    · rw [e0, r1, sy_bi_ri, sy_upd_st]
    · rw [syc_at, rs_ne _ _ (by decide), r3, j17]
    · rw [syc_at, rs_ne _ _ (by decide), r4]
    · rw [syc_ne _ _ h1, r2.1 a h1, ← hC, syc_ne _ _ h1, ← hB, syc_ne _ _ h2, ← hA, syc_ne _ _ h1]
    · by_cases h12 : j = 12
      · rw [h12, syc_at, rs_at]
      · rw [syc_at, rs_ne _ _ h12, r2.2 j (by omega), C121, B121]
        by_cases h9 : j < 9
        · simp (disch := omega) only [rs_ne]
        · simp (disch := omega) only [rs_ne]
/-- what the law says of a lodger, by the reference itself -/
def cm (g : Nat → Int32) : sy_M := fun a => if a = 122 then g else fun _ => 0
noncomputable def Ask (g : Nat → Int32) (p : Nat) : Int32 × Bool :=
  match jfX12_asks (Int32.ofNat p) (cm g) with
  | some x => (x.2 121 17, decide (x.2 121 18 = (Int32.ofNat 1)))
  | none => (0, false)
theorem Ask_eq {f : Nat → Int32} {n p : Nat} {g : Nat → LT} (H : txd f n g) (hp : p < 7) : Ask f p = (tfo g (vals f p) n 0 (Int32.ofNat 0), rfo g (vals f p) n 0 false) := by
  have e : cm f 122 = f := if_pos rfl
  obtain ⟨M1, a1, a2, a3, _⟩ := ask_ok (M := cm f) (n := n) (g := g) (p := p) (by rw [e]; exact H) hp
  rw [e] at a2 a3
  unfold Ask
  rw [a1]
  show (M1 121 17, decide (M1 121 18 = (Int32.ofNat 1))) = _
  rw [a2, a3]
  cases rfo g (vals f p) n 0 false <;> rfl
theorem mAK_Ask : mAK Ask txo := by
  refine ⟨fun f g ⟨n, l, h⟩ e => ⟨n, l, txd_same h e⟩, fun M p ⟨n, l, h⟩ hp => ?_⟩
  rw [Ask_eq h hp]
  exact ask_ok h hp
theorem cAK_lw {a s n : Nat} {f : Nat → Int32} {g : Nat → LT} (W : lw M a s n g) (hs : s ≤ 512) (H : txd f n g) : cAK Ask a M f := by
  intro N h p k e hp ht
  have tv := told_vals ht
  have W1 : lw N 29 s n g := by
    obtain ⟨w1, w2, w3⟩ := W
    refine ⟨w1, k.2.2.2.trans w2, fun i hi => ?_⟩
    obtain ⟨a1, a2, a3, b, e, a4, a5, a6, a7, a8⟩ := w3 i hi
    refine ⟨(k.1 1 i (by omega) (by omega) (by omega)).trans a1, (k.1 2 i (by omega) (by omega) (by omega)).trans a2, a3, b, e, (k.1 3 i (by omega) (by omega) (by omega)).trans a4, (k.1 4 i (by omega) (by omega) (by omega)).trans a5, a6, a7, HB_congr a8 (fun j _ hj => k.2.1 j (by omega))⟩
  rw [Ask_eq (txd_same H e) hp]
  exact ⟨c_isRefused W1 hs tv, c_turnOf W1 hs tv⟩
/-- before any law -/
theorem cAK_none {a : Nat} {f : Nat → Int32} (h6 : M a 6 = -(Int32.ofNat 1)) (H : f 1 < 1) : cAK Ask a M f := by
  intro N h p k e hp ht
  have H0 : txd f 0 (fun _ => (0, 0, fun _ => true)) := ⟨fun _ => rfl, fun z => absurd H z⟩
  have n6 : N 29 6 = -(Int32.ofNat 1) := k.2.2.2.trans h6
  rw [Ask_eq (txd_same H0 e) hp]
  have is4 : sy_is 4 29 = true := rfl
  refine ⟨?_, ?_⟩
  · unfold jfX4_isRefused
    rw [show sy_F = 5999 + 1 from sy_F_eq]
    show jgX4_isRefused_2 _ 29 0 N = _
    unfold jgX4_isRefused_2
    rw [is4, sy_bs_t, n6, if_neg (show ¬ (0 : Int32) < -(Int32.ofNat 1) by decide)]
    rfl
  · unfold jfX4_turnOf
    rw [show sy_F = 5999 + 1 from sy_F_eq]
    show jgX4_turnOf_4 _ 29 0 0 N = _
    unfold jgX4_turnOf_4
    rw [is4, sy_bs_t, n6, if_neg (show ¬ (0 : Int32) < -(Int32.ofNat 1) by decide)]
    rfl
end
