/-! ===== the class opens a text, and takes things from it ===== -/
section
variable {M : sy_M} {t : Nat → Nat} {L : Nat}
/-- where things begin -/
def tkb (t : Nat → Nat) (L : Nat) : Nat → Nat
  | 0 => nxt t L 0
  | i + 1 => nxt t L (ten t L (tkb t L i))
theorem tkb_s (t : Nat → Nat) (L i : Nat) : tkb t L (i + 1) = nxt t L (ten t L (tkb t L i)) := rfl
/-- so many things are laid -/
def tkl (M : sy_M) (t : Nat → Nat) (L sz : Nat) : Prop := ∀ j, j < sz → tkb t L j ≤ L ∧ M 4 j = Int32.ofNat (tkb t L j) ∧ M 3 j = Int32.ofNat (thg t L (tkb t L j)) ∧ (tkb t L j < L → M 5 j = nmv t (tkb t L j) (ten t L (tkb t L j)))
/-- the class stands at a thing -/
def ct (M : sy_M) (t : Nat → Nat) (L q : Nat) : Prop := ∃ i sz : Nat, i < sz ∧ sz ≤ 401 ∧ M 1 5 = Int32.ofNat sz ∧ M 1 6 = Int32.ofNat i ∧ q = tkb t L i ∧ tkl M t L sz ∧ (∀ j, j + 1 < sz → tkb t L j < L) ∧ tkb t L (sz - 1) = L
theorem tkl_congr {M1 : sy_M} {sz : Nat} (h : tkl M t L sz) (h3 : M1 3 = M 3) (h4 : M1 4 = M 4) (h5 : M1 5 = M 5) : tkl M1 t L sz := by
  unfold tkl
  rw [h3, h4, h5]
  exact h
theorem c_addThing {sz p : Nat} (hb : ∀ i, i < L → M 2 i = Int32.ofNat (t i)) (ht : ∀ i, t i ≤ 255) (hL : L ≤ 400) (h5 : M 1 5 = Int32.ofNat sz) (hs : sz ≤ 400) (hp : p ≤ L) (ep : p = tkb t L sz) (T : tkl M t L sz) (e : Nat) (he : (p < L ∧ e = ten t L p) ∨ (p = L ∧ e = L)) : ∃ M1, jfX10_addThing (Int32.ofNat p) (Int32.ofNat e) M = sy_rv M1 ∧ tkl M1 t L (sz + 1) ∧ M1 1 = rs (M 1) 5 (Int32.ofNat (sz + 1)) ∧ (∀ a, a ≠ 1 → a ≠ 3 → a ≠ 4 → a ≠ 5 → M1 a = M a) := by
  have hpe : p ≤ e ∧ e ≤ L := by
    rcases he with ⟨h, h2⟩ | ⟨h, h2⟩
    · have := ten_gt (t := t) h
      omega
    · omega
  have hb1 : ∀ (g : Nat → Int32), ∀ i, i < L → (syc M 4 g) 2 i = Int32.ofNat (t i) := fun g i hi => by rw [syc_ne _ _ (by decide)]; exact hb i hi
  have hb2 : ∀ (g h : Nat → Int32), ∀ i, i < L → (syc (syc M 4 g) 5 h) 2 i = Int32.ofNat (t i) := fun g h i hi => by rw [syc_ne _ _ (by decide)]; exact hb1 g i hi
  have e1 := c_numberAt (M := syc M 4 (rs (M 4) sz (Int32.ofNat p))) (hb1 _) hL hpe.1 hpe.2
  have e2 : jfX10_thingAt (Int32.ofNat p) (Int32.ofNat e) (syc (syc M 4 (rs (M 4) sz (Int32.ofNat p))) 5 (rs (M 5) sz (nmv t p e))) = sy_ri (Int32.ofNat (thg t L p)) (syc (syc M 4 (rs (M 4) sz (Int32.ofNat p))) 5 (rs (M 5) sz (nmv t p e))) := by
    rcases he with ⟨h, h2⟩ | ⟨h, h2⟩
    · rw [h2]; exact c_thingAt (hb2 _ _) ht hL h
    · have : thg t L p = 256 := by
        unfold thg
        rw [h, Nat.ble_eq.mpr (Nat.le_refl L)]
        rfl
      rw [this, h, h2]
      simp (disch := omega) only [zL, zlt, zle, zeq, zadd, zmul, zin, zix, zsh1, Nat.add_zero, Nat.zero_add, Nat.mul_zero, if_true, if_false, if_pos, if_neg, sy_bi_ri, sy_bi_rt, sy_bv_rv, sy_bv_rt, sy_br_rr, sy_br_rn, sy_hi_ri, sy_hi_rt, sy_bs_t, sy_bx_t, sy_bb_t, bz_bo, ite_bz0, ite_bz1, jfX10_thingAt]
  refine ⟨syc (syc (syc (syc M 4 (rs (M 4) sz (Int32.ofNat p))) 5 (rs (M 5) sz (nmv t p e))) 3 (rs (M 3) sz (Int32.ofNat (thg t L p)))) 1 (rs (M 1) 5 (Int32.ofNat (sz + 1))), ?_, ?_, syc_at _ _ _, fun a h1 h2 h3 h4 => ?_⟩
  · simp (disch := omega) only [zL, zlt, zle, zeq, zadd, zmul, zin, zix, zsh1, Nat.add_zero, Nat.zero_add, Nat.mul_zero, if_true, if_false, if_pos, if_neg, sy_bi_ri, sy_bi_rt, sy_bv_rv, sy_bv_rt, sy_br_rr, sy_br_rn, sy_hi_ri, sy_hi_rt, sy_bs_t, sy_bx_t, sy_bb_t, bz_bo, ite_bz0, ite_bz1, jfX10_addThing, h5, sy_upd_st, e1, syc_ne, e2]
  · intro j hj
    simp (disch := omega) only [syc_ne, syc_at]
    by_cases h : j = sz
    · subst h
      rw [rs_at, rs_at, rs_at, ← ep]
      refine ⟨hp, rfl, rfl, fun hlt => ?_⟩
      rcases he with ⟨h, h2⟩ | ⟨h, h2⟩
      · rw [h2]
      · omega
    · rw [rs_ne _ _ h, rs_ne _ _ h, rs_ne _ _ h]
      exact T j (by omega)
  · rw [syc_ne _ _ h1, syc_ne _ _ h2, syc_ne _ _ h4, syc_ne _ _ h3]
theorem ten_sp {q : Nat} (h : t q = 32) : ten t L q = q + 1 := by
  unfold ten
  rw [h]
  rfl
theorem c_open (hb : ∀ i, i < L → M 2 i = Int32.ofNat (t i)) (ht : ∀ i, t i ≤ 255) (hL : L ≤ 400) (h4 : M 1 4 = Int32.ofNat L) : ∃ M1, jfX10_open M = sy_rv M1 ∧ ct M1 t L (nxt t L 0) ∧ M1 1 4 = (Int32.ofNat 0) ∧ M1 1 7 = -(Int32.ofNat 1) ∧ (∀ a, a ≠ 1 → a ≠ 3 → a ≠ 4 → a ≠ 5 → M1 a = M a) := by
  generalize hM0 : syc M 1 (rs (rs (rs (rs (M 1) 4 (Int32.ofNat 0)) 5 (Int32.ofNat 0)) 6 (Int32.ofNat 0)) 7 (-(Int32.ofNat 1))) = M0
  have e0 : jfX10_open M = jfX10_open_29 sy_F (Int32.ofNat L) (Int32.ofNat 0) (Int32.ofNat 0) M0 := by
    rw [← hM0]
    simp (disch := omega) only [zL, zlt, zle, zeq, zadd, zmul, zin, zix, zsh1, Nat.add_zero, Nat.zero_add, Nat.mul_zero, if_true, if_false, if_pos, if_neg, sy_bi_ri, sy_bi_rt, sy_bv_rv, sy_bv_rt, sy_br_rr, sy_br_rn, sy_hi_ri, sy_hi_rt, sy_bs_t, sy_bx_t, sy_bb_t, bz_bo, ite_bz0, ite_bz1, jfX10_open, h4, sy_upd_st, syc_at, syc_st]
  have f0 : ∀ a, a ≠ 1 → M0 a = M a := fun a h => by rw [← hM0, syc_ne _ _ h]
  have g0 : M0 1 = rs (rs (rs (rs (M 1) 4 (Int32.ofNat 0)) 5 (Int32.ofNat 0)) 6 (Int32.ofNat 0)) 7 (-(Int32.ofNat 1)) := by rw [← hM0, syc_at]
  rw [e0]
  -- the last thing
  have last : ∀ (N : sy_M) (sz : Nat), (∀ i, i < L → N 2 i = Int32.ofNat (t i)) → N 1 = rs (M0 1) 5 (Int32.ofNat sz) → sz ≤ L → tkl N t L sz → tkb t L sz = L → (∀ j, j < sz → tkb t L j < L) → (∀ a, a ≠ 1 → a ≠ 3 → a ≠ 4 → a ≠ 5 → N a = M a) → ∃ M1, jfX10_open_75 (Int32.ofNat L) N = sy_rv M1 ∧ ct M1 t L (nxt t L 0) ∧ M1 1 4 = (Int32.ofNat 0) ∧ M1 1 7 = -(Int32.ofNat 1) ∧ (∀ a, a ≠ 1 → a ≠ 3 → a ≠ 4 → a ≠ 5 → M1 a = M a) := by
    intro N sz n1 n2 n3 n4 n5 n6 n7
    obtain ⟨M1, e1, T1, k1, f1⟩ := c_addThing (M := N) (sz := sz) (p := L) n1 ht hL (by rw [n2, rs_at]) (by omega) (Nat.le_refl L) n5.symm n4 L (Or.inr ⟨rfl, rfl⟩)
    rw [n2, rs_rs] at k1
    refine ⟨M1, by simp only [jfX10_open_75, e1, sy_bv_rv], ⟨0, sz + 1, by omega, by omega, by rw [k1, rs_at], ?_, rfl, T1, fun j hj => n6 j (by omega), by rw [Nat.add_sub_cancel]; exact n5⟩, ?_, ?_, fun a h1 h2 h3 h4 => (f1 a h1 h2 h3 h4).trans (n7 a h1 h2 h3 h4)⟩
    · rw [k1, rs_ne _ _ (by decide), g0, rs_ne _ _ (by decide), rs_at]
    · rw [k1, rs_ne _ _ (by decide), g0, rs_ne _ _ (by decide), rs_ne _ _ (by decide), rs_ne _ _ (by decide), rs_at]
    · rw [k1, rs_ne _ _ (by decide), g0, rs_at]
  refine sy_forR (n := L) (F := sy_F) (R := fun c => ∃ M1, c = sy_rv M1 ∧ ct M1 t L (nxt t L 0) ∧ M1 1 4 = (Int32.ofNat 0) ∧ M1 1 7 = -(Int32.ofNat 1) ∧ (∀ a, a ≠ 1 → a ≠ 3 → a ≠ 4 → a ≠ 5 → M1 a = M a)) (fun k i (a : Nat × sy_M) => jfX10_open_29 k (Int32.ofNat L) (Int32.ofNat a.1) (Int32.ofNat i) a.2) (fun i a => i ≤ a.1 ∧ a.1 ≤ L ∧ ∃ sz : Nat, sz ≤ a.1 ∧ a.2 1 = rs (M0 1) 5 (Int32.ofNat sz) ∧ tkl a.2 t L sz ∧ nxt t L a.1 = tkb t L sz ∧ (∀ j, j < sz → tkb t L j < L) ∧ (∀ a1, a1 ≠ 1 → a1 ≠ 3 → a1 ≠ 4 → a1 ≠ 5 → a.2 a1 = M a1)) ?_ ?_ (0, M0) ⟨Nat.le_refl _, Nat.zero_le _, 0, Nat.le_refl _, ?_, fun j hj => absurd hj (Nat.not_lt_zero j), rfl, fun j hj => absurd hj (Nat.not_lt_zero j), fun a h1 _ _ _ => f0 a h1⟩ (by rw [sy_F_eq]; omega)
  · intro k i ⟨p, N⟩ hi ⟨h1, h2, sz, s1, s2, s3, s4, s5, s6⟩
    simp only at h1 h2 s1 s2 s3 s4 s6
    have nb : ∀ i, i < L → N 2 i = Int32.ofNat (t i) := fun i hi => by rw [s6 2 (by decide) (by decide) (by decide) (by decide)]; exact hb i hi
    show (∃ a' : Nat × sy_M, jgX10_open_29 (jfX10_open_29 k) (Int32.ofNat L) (Int32.ofNat p) (Int32.ofNat i) N = _ ∧ _) ∨ (∃ M1, jgX10_open_29 (jfX10_open_29 k) (Int32.ofNat L) (Int32.ofNat p) (Int32.ofNat i) N = _ ∧ _)
    by_cases hp : p < L
    · left
      have tg := ten_gt (t := t) hp
      have e1 := c_behind nb ht hL hp
      have e2 := c_byteAt nb hL hp
      by_cases hsp : t p = 32
      · refine ⟨(p + 1, N), ?_, by show i + 1 ≤ p + 1; omega, by show p + 1 ≤ L; omega, sz, by show sz ≤ p + 1; omega, s2, s3, ?_, s5, s6⟩
        · rw [ten_sp hsp] at e1
          rw [hsp] at e2
          simp (disch := omega) only [zL, zlt, zle, zeq, zadd, zmul, zin, zix, zsh1, Nat.add_zero, Nat.zero_add, Nat.mul_zero, if_true, if_false, if_pos, if_neg, sy_bi_ri, sy_bi_rt, sy_bv_rv, sy_bv_rt, sy_br_rr, sy_br_rn, sy_hi_ri, sy_hi_rt, sy_bs_t, sy_bx_t, sy_bb_t, bz_bo, ite_bz0, ite_bz1, jgX10_open_29, jfX10_open_66, e1, e2]
        · rw [← s4]; exact (nxt_sp hp hsp).symm
      · have epq : p = tkb t L sz := by rw [← s4]; exact (nxt_self (Or.inr hsp)).symm
        obtain ⟨N1, a1, T1, k1, f1⟩ := c_addThing (M := N) (sz := sz) (p := p) nb ht hL (by rw [s2, rs_at]) (by omega) h2 epq s3 (ten t L p) (Or.inl ⟨hp, rfl⟩)
        rw [s2, rs_rs] at k1
        refine ⟨(ten t L p, N1), ?_, by show i + 1 ≤ ten t L p; omega, tg.2, sz + 1, by show sz + 1 ≤ ten t L p; omega, k1, T1, ?_, fun j hj => ?_, fun a h1 h2 h3 h4 => (f1 a h1 h2 h3 h4).trans (s6 a h1 h2 h3 h4)⟩
        · have n32 : ¬ t p = 32 := hsp
          have tp := ht p
          simp (disch := omega) only [zL, zlt, zle, zeq, zadd, zmul, zin, zix, zsh1, Nat.add_zero, Nat.zero_add, Nat.mul_zero, if_true, if_false, if_pos, if_neg, sy_bi_ri, sy_bi_rt, sy_bv_rv, sy_bv_rt, sy_br_rr, sy_br_rn, sy_hi_ri, sy_hi_rt, sy_bs_t, sy_bx_t, sy_bb_t, bz_bo, ite_bz0, ite_bz1, jgX10_open_29, jfX10_open_66, e1, e2, a1]
        · rw [tkb_s, ← epq]
        · by_cases hj2 : j = sz
          · rw [hj2, ← epq]; exact hp
          · exact s5 j (by omega)
    · right
      have hpL : p = L := by omega
      subst hpL
      have tl : tkb t p sz = p := by rw [← s4]; exact nxt_self (Or.inl rfl)
      obtain ⟨M1, m1, m2⟩ := last N sz nb s2 s1 s3 tl s5 s6
      refine ⟨M1, ?_, m2⟩
      simp (disch := omega) only [zL, zlt, zle, zeq, zadd, zmul, zin, zix, zsh1, Nat.add_zero, Nat.zero_add, Nat.mul_zero, if_true, if_false, if_pos, if_neg, sy_bi_ri, sy_bi_rt, sy_bv_rv, sy_bv_rt, sy_br_rr, sy_br_rn, sy_hi_ri, sy_hi_rt, sy_bs_t, sy_bx_t, sy_bb_t, bz_bo, ite_bz0, ite_bz1, jgX10_open_29, m1]
  · intro k ⟨p, N⟩ ⟨h1, h2, sz, s1, s2, s3, s4, s5, s6⟩
    simp only at h1 h2 s1 s2 s3 s4 s6
    have nb : ∀ i, i < L → N 2 i = Int32.ofNat (t i) := fun i hi => by rw [s6 2 (by decide) (by decide) (by decide) (by decide)]; exact hb i hi
    have hpL : p = L := by omega
    subst hpL
    have tl : tkb t p sz = p := by rw [← s4]; exact nxt_self (Or.inl rfl)
    obtain ⟨M1, m1, m2⟩ := last N sz nb s2 s1 s3 tl s5 s6
    refine ⟨M1, ?_, m2⟩
    show jgX10_open_29 (jfX10_open_29 k) (Int32.ofNat p) (Int32.ofNat p) (Int32.ofNat p) N = _
    simp (disch := omega) only [zL, zlt, zle, zeq, zadd, zmul, zin, zix, zsh1, Nat.add_zero, Nat.zero_add, Nat.mul_zero, if_true, if_false, if_pos, if_neg, sy_bi_ri, sy_bi_rt, sy_bv_rv, sy_bv_rt, sy_br_rr, sy_br_rn, sy_hi_ri, sy_hi_rt, sy_bs_t, sy_bx_t, sy_bb_t, bz_bo, ite_bz0, ite_bz1, jgX10_open_29, m1]
    split <;> rfl
  · show M0 1 = rs (M0 1) 5 (Int32.ofNat 0)
    have : M0 1 5 = (Int32.ofNat 0) := by rw [g0, rs_ne _ _ (by decide), rs_ne _ _ (by decide), rs_at]
    rw [← this, rs_self]
/-- only the tape's own place was written -/
def fk (M M1 : sy_M) : Prop := (∀ a, a ≠ 1 → M1 a = M a) ∧ M1 1 4 = M 1 4
theorem fk.trans {M M1 M2 : sy_M} (a : fk M M1) (b : fk M1 M2) : fk M M2 := ⟨fun c h => (b.1 c h).trans (a.1 c h), b.2.trans a.2⟩
theorem fk_rfl {M : sy_M} : fk M M := ⟨fun _ _ => rfl, rfl⟩
theorem ct_le {q : Nat} (h : ct M t L q) : q ≤ L := by
  obtain ⟨i, sz, h1, h2, h3, h4, h5, h6, h7, h8⟩ := h
  rw [h5]; exact (h6 i h1).1
theorem c_thing {q : Nat} (h : ct M t L q) : jfX10_thing M = sy_ri (Int32.ofNat (thg t L q)) M := by
  obtain ⟨i, sz, h1, h2, h3, h4, h5, h6, h7, h8⟩ := h
  have := (h6 i h1).2.2.1
  rw [h5]
  simp (disch := omega) only [zL, zlt, zle, zeq, zadd, zmul, zin, zix, zsh1, Nat.add_zero, Nat.zero_add, Nat.mul_zero, if_true, if_false, if_pos, if_neg, sy_bi_ri, sy_bi_rt, sy_bv_rv, sy_bv_rt, sy_br_rr, sy_br_rn, sy_hi_ri, sy_hi_rt, sy_bs_t, sy_bx_t, sy_bb_t, bz_bo, ite_bz0, ite_bz1, jfX10_thing, h3, h4, this]
theorem wco_ge (t : Nat → Nat) (q e : Nat) : ∀ (l : List (List Nat)) (k : Nat), 258 ≤ k → wco t q e l k = 258 ∨ (k ≤ wco t q e l k ∧ wco t q e l k < k + l.length)
  | [], k, _ => Or.inl rfl
  | w :: l, k, hk => by
    show (bif _ then k else wco t q e l (k + 1)) = 258 ∨ _
    cases hc : (Nat.beq (e - q) w.length && eqw t q w) with
    | true =>
      right
      show k ≤ (bif _ then k else _) ∧ (bif _ then k else _) < _
      rw [hc, cond_true, List.length_cons]
      omega
    | false =>
      have := wco_ge t q e l (k + 1) (by omega)
      rw [cond_false]
      rcases this with h | h
      · exact Or.inl h
      · right
        show k ≤ (bif _ then k else wco t q e l (k + 1)) ∧ (bif _ then k else wco t q e l (k + 1)) < _
        rw [hc, cond_false, List.length_cons]
        omega
theorem thg_end {q : Nat} (ht : ∀ i, t i ≤ 255) (h : q ≤ L) : (thg t L q = 256 ↔ q = L) ∧ thg t L q < 300 := by
  unfold thg
  by_cases hq : q = L
  · rw [hq, Nat.ble_eq.mpr (Nat.le_refl L), cond_true]
    exact ⟨⟨fun _ => rfl, fun _ => rfl⟩, by decide⟩
  · have : Nat.ble L q = false := by
      cases h2 : Nat.ble L q with
      | false => rfl
      | true => rw [Nat.ble_eq] at h2; omega
    rw [this, cond_false]
    cases isd (t q)
    · rw [cond_false]
      cases isa (t q)
      · rw [cond_false]
        have := ht q
        exact ⟨⟨fun z => by omega, fun z => absurd z hq⟩, by omega⟩
      · rw [cond_true]
        have := wco_ge t q (ten t L q) wds 260 (by decide)
        have e25 : wds.length = 25 := rfl
        rcases this with h1 | h1
        · rw [h1]; exact ⟨⟨fun z => by omega, fun z => absurd z hq⟩, by decide⟩
        · exact ⟨⟨fun z => by omega, fun z => absurd z hq⟩, by omega⟩
    · rw [cond_true]
      cases Nat.ble (ten t L q - q) 3
      · exact ⟨⟨fun z => absurd z (by decide), fun z => absurd z hq⟩, by decide⟩
      · exact ⟨⟨fun z => absurd z (by decide), fun z => absurd z hq⟩, by decide⟩
/-- one thing on -/
theorem ct_next {q : Nat} (h : ct M t L q) (hq : q < L) : ct (syc M 1 (rs (M 1) 6 (M 1 6 + (Int32.ofNat 1)))) t L (nxt t L (ten t L q)) := by
  obtain ⟨i, sz, h1, h2, h3, h4, h5, h6, h7, h8⟩ := h
  have hi : i + 1 < sz := by
    by_cases e : i + 1 = sz
    · have : i = sz - 1 := by omega
      rw [this, h8] at h5
      omega
    · omega
  refine ⟨i + 1, sz, hi, h2, ?_, ?_, ?_, tkl_congr h6 (syc_ne _ _ (by decide)) (syc_ne _ _ (by decide)) (syc_ne _ _ (by decide)), h7, h8⟩
  · rw [syc_at, rs_ne _ _ (by decide)]; exact h3
  · rw [syc_at, rs_at, h4, zadd]
  · rw [tkb_s, ← h5]
theorem c_takes {q c : Nat} (ht : ∀ i, t i ≤ 255) (h : ct M t L q) (hc : c < 300) (hc2 : c ≠ 256) : (thg t L q = c ∧ ∃ M1, jfX10_takes (Int32.ofNat c) M = sy_ri (Int32.ofNat 1) M1 ∧ ct M1 t L (nxt t L (ten t L q)) ∧ fk M M1 ∧ M1 1 7 = M 1 7 ∧ q < L) ∨ (thg t L q ≠ c ∧ jfX10_takes (Int32.ofNat c) M = sy_ri (Int32.ofNat 0) M) := by
  have hle := ct_le h
  have hth := thg_end ht hle
  have h0 := h
  obtain ⟨i, sz, h1, h2, h3, h4, h5, h6, h7, h8⟩ := h
  have e3 := (h6 i h1).2.2.1
  rw [← h5] at e3
  by_cases hq : thg t L q = c
  · have hqL : q < L := by
      have : q ≠ L := fun z => hc2 (hq.symm.trans (hth.1.mpr z))
      omega
    refine Or.inl ⟨hq, syc M 1 (rs (M 1) 6 (M 1 6 + (Int32.ofNat 1))), ?_, ct_next h0 hqL, ⟨fun a ha => syc_ne _ _ ha, by rw [syc_at, rs_ne _ _ (by decide)]⟩, by rw [syc_at, rs_ne _ _ (by decide)], hqL⟩
    simp (disch := omega) only [zL, zlt, zle, zeq, zadd, zmul, zin, zix, zsh1, Nat.add_zero, Nat.zero_add, Nat.mul_zero, if_true, if_false, if_pos, if_neg, sy_bi_ri, sy_bi_rt, sy_bv_rv, sy_bv_rt, sy_br_rr, sy_br_rn, sy_hi_ri, sy_hi_rt, sy_bs_t, sy_bx_t, sy_bb_t, bz_bo, ite_bz0, ite_bz1, jfX10_takes, h3, h4, e3, hq, sy_upd_st]
  · refine Or.inr ⟨hq, ?_⟩
    simp (disch := omega) only [zL, zlt, zle, zeq, zadd, zmul, zin, zix, zsh1, Nat.add_zero, Nat.zero_add, Nat.mul_zero, if_true, if_false, if_pos, if_neg, sy_bi_ri, sy_bi_rt, sy_bv_rv, sy_bv_rt, sy_br_rr, sy_br_rn, sy_hi_ri, sy_hi_rt, sy_bs_t, sy_bx_t, sy_bb_t, bz_bo, ite_bz0, ite_bz1, jfX10_takes, h3, h4, e3]
theorem c_fails {q : Nat} (h : ct M t L q) : ∃ M1, jfX10_fails M = sy_ri (Int32.ofNat 0) M1 ∧ M1 1 7 = Int32.ofNat q ∧ fk M M1 := by
  obtain ⟨i, sz, h1, h2, h3, h4, h5, h6, h7, h8⟩ := h
  have e4 := (h6 i h1).2.1
  rw [← h5] at e4
  refine ⟨syc M 1 (rs (M 1) 7 (Int32.ofNat q)), ?_, by rw [syc_at, rs_at], ⟨fun a ha => syc_ne _ _ ha, by rw [syc_at, rs_ne _ _ (by decide)]⟩⟩
  simp (disch := omega) only [zL, zlt, zle, zeq, zadd, zmul, zin, zix, zsh1, Nat.add_zero, Nat.zero_add, Nat.mul_zero, if_true, if_false, if_pos, if_neg, sy_bi_ri, sy_bi_rt, sy_bv_rv, sy_bv_rt, sy_br_rr, sy_br_rn, sy_hi_ri, sy_hi_rt, sy_bs_t, sy_bx_t, sy_bb_t, bz_bo, ite_bz0, ite_bz1, jfX10_fails, h4, e4, sy_upd_st]
end
