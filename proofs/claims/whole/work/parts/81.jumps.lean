/-! ===== steps are added; jumps land ===== -/
section
variable {M : sy_M}
/-- the class wrote its place in the tape, and steps of the staged law -/
def fl (M M1 : sy_M) : Prop := (∀ a, a ≠ 1 → a ≠ 35 → a ≠ 40 → M1 a = M a) ∧ M1 1 4 = M 1 4 ∧ M1 35 6 = M 35 6
theorem fl.trans {M M1 M2 : sy_M} (a : fl M M1) (b : fl M1 M2) : fl M M2 := ⟨fun c h h2 h3 => (b.1 c h h2 h3).trans (a.1 c h h2 h3), b.2.1.trans a.2.1, b.2.2.trans a.2.2⟩
theorem fl_rfl {M : sy_M} : fl M M := ⟨fun _ _ _ _ => rfl, rfl, rfl⟩
theorem fk.fl {M M1 : sy_M} (h : fk M M1) : fl M M1 := ⟨fun a h1 _ _ => h.1 a h1, h.2, by rw [h.1 35 (by decide)]⟩
/-- the steps of the class's own that it adds leave the tape alone -/
def fs (M M1 : sy_M) : Prop := (∀ a, a ≠ 35 → a ≠ 40 → M1 a = M a) ∧ M1 35 6 = M 35 6
theorem fs.fl {M M1 : sy_M} (h : fs M M1) : fl M M1 := ⟨fun a _ h1 h2 => h.1 a h1 h2, by rw [h.1 1 (by decide) (by decide)], h.2⟩
theorem fs_1 {M M1 : sy_M} (h : fs M M1) : M1 1 = M 1 := h.1 1 (by decide) (by decide)
theorem fs_ct {M1 : sy_M} {t : Nat → Nat} {L q : Nat} (h : fs M M1) (c : ct M t L q) : ct M1 t L q := ct_congr c (fun a ha => h.1 a (by omega) (by omega))
def m_add (M : sy_M) (s : Nat) (x : Int32) : sy_M := syc (syc M 40 (rs (M 40) s x)) 35 (rs (M 35) 5 (Int32.ofNat (s + 1)))
theorem fs_add {s : Nat} {x : Int32} : fs M (m_add M s x) := ⟨fun a h1 h2 => by unfold m_add; rw [syc_ne _ _ h1, syc_ne _ _ h2], by unfold m_add; rw [syc_at, rs_ne _ _ (by decide)]⟩
theorem m_add_40 {s : Nat} {x : Int32} : m_add M s x 40 = rs (M 40) s x := by unfold m_add; rw [syc_ne _ _ (by decide), syc_at]
theorem m_add_35 {s : Nat} {x : Int32} : m_add M s x 35 5 = Int32.ofNat (s + 1) := by unfold m_add; rw [syc_at, rs_at]
theorem c_adds {s : Nat} {a b : Int32} (h : M 35 5 = Int32.ofNat s) (hs : s < 512) : jfX4_add 35 a b M = sy_rv (m_add M s (a + 16 * b)) := by
  unfold jfX4_add m_add
  rw [show sy_is 4 35 = true from rfl, sy_bs_t, h, if_neg (show ¬ Int32.ofNat s < 0 from znn s (by omega)), sy_bs_t, if_pos (show Int32.ofNat s < 512 from (zlt (b := 512) (by omega) (by decide)).mpr hs), sy_bs_t, sy_bs_t, show sy_li (35 + 5) = 512 from rfl, zin hs (by decide), sy_bx_t, zix (by omega)]
  simp only [sy_upd_st]
  rw [sy_bs_t, sy_bs_t, syc_ne _ _ (show 35 ≠ 35 + 5 by decide), h, show (1 : Int32) = (Int32.ofNat 1) from rfl, zadd]
theorem c_add_any (a b : Int32) : ∃ M1, jfX4_add 35 a b M = sy_rv M1 ∧ fs M M1 := by
  by_cases h0 : M 35 5 < 0
  · refine ⟨M, ?_, fun _ _ _ => rfl, rfl⟩
    unfold jfX4_add
    rw [show sy_is 4 35 = true from rfl, sy_bs_t, if_pos h0]
  · by_cases h1 : M 35 5 < 512
    · obtain ⟨k, hk, ek⟩ := zex_lt (x := M 35 5) (n := 512) (znlt.mp h0) h1 (by decide)
      exact ⟨_, c_adds ek hk, fs_add⟩
    · refine ⟨M, ?_, fun _ _ _ => rfl, rfl⟩
      unfold jfX4_add
      rw [show sy_is 4 35 = true from rfl, sy_bs_t, if_neg h0, sy_bs_t, if_neg h1]
theorem c_addJump {s n : Nat} {a b : Int32} (h : M 35 5 = Int32.ofNat s) (hs : s < 512) (hb : b + 1 = Int32.ofNat n) : jfX4_addJump 35 a b M = sy_ri (Int32.ofNat s) (m_add M s (a + 16 * Int32.ofNat n)) := by
  unfold jfX4_addJump
  rw [show sy_is 4 35 = true from rfl, sy_bs_t, hb, c_adds h hs, sy_bv_rv, sy_bs_t, m_add_35, show (1 : Int32) = (Int32.ofNat 1) from rfl, zsub (by omega), Nat.add_sub_cancel]
theorem c_addJump_any (a b : Int32) : ∃ v M1, jfX4_addJump 35 a b M = sy_ri v M1 ∧ fs M M1 := by
  obtain ⟨M1, e1, f1⟩ := c_add_any (M := M) a (b + 1)
  refine ⟨M1 35 5 - 1, M1, ?_, f1⟩
  unfold jfX4_addJump
  rw [show sy_is 4 35 = true from rfl, sy_bs_t, e1, sy_bv_rv, sy_bs_t]
theorem c_land_any (a : Int32) : ∃ M1, jfX4_land 35 a M = sy_rv M1 ∧ (∀ c, c ≠ 40 → M1 c = M c) := by
  unfold jfX4_land
  refine sy_forR (n := 512) (F := sy_F) (R := fun c => ∃ M1, c = sy_rv M1 ∧ (∀ c, c ≠ 40 → M1 c = M c)) (fun k i (x : Int32 × sy_M) => jfX4_land_4 k 35 x.1 (Int32.ofNat i) x.2) (fun i x => ∀ c, c ≠ 40 → x.2 c = M c) ?_ ?_ (a, M) (fun _ _ => rfl) (by rw [sy_F_eq]; omega)
  · intro k i ⟨b, N⟩ hi h
    simp only at h
    show (∃ a' : Int32 × sy_M, jgX4_land_4 (jfX4_land_4 k) 35 b (Int32.ofNat i) N = _ ∧ _) ∨ (∃ M1, jgX4_land_4 (jfX4_land_4 k) 35 b (Int32.ofNat i) N = _ ∧ _)
    have l40 : ∀ N : sy_M, sy_len N (35 + 5) = 512 := fun N => by rw [sy_len_li (by decide)]; rfl
    unfold jgX4_land_4
    rw [if_pos (show Int32.ofNat i < 512 from (zlt (b := 512) (by omega) (by decide)).mpr hi)]
    by_cases h0 : b < 0
    · rw [if_pos h0]
      exact Or.inr ⟨N, rfl, h⟩
    · rw [if_neg h0]
      by_cases h1 : b < 512
      · obtain ⟨j, hj, rfl⟩ := zex_lt (x := b) (n := 512) (znlt.mp h0) h1 (by decide)
        rw [if_pos h1, show sy_is 4 35 = true from rfl, sy_bs_t, l40, zin hj (by decide), sy_bx_t]
        simp only
        rw [sy_bs_t, sy_bs_t, sy_bx_t, sy_bs_t, show sy_li (35 + 5) = 512 from rfl, zin hj (by decide), sy_bx_t, show (1 : Int32) = (Int32.ofNat 1) from rfl, zadd, sy_upd_st]
        exact Or.inl ⟨(_, _), rfl, fun c hc => (syc_ne _ _ hc).trans (h c hc)⟩
      · rw [if_neg h1]
        exact Or.inr ⟨N, rfl, h⟩
  · intro k ⟨b, N⟩ h
    refine ⟨N, ?_, h⟩
    show jgX4_land_4 (jfX4_land_4 k) 35 b (Int32.ofNat 512) N = _
    unfold jgX4_land_4
    rw [if_neg (show ¬ (Int32.ofNat 512 : Int32) < 512 by decide)]
/-- jumps that will land together -/
def enc : List Nat → Nat
  | [] => 0
  | j :: _ => j + 1
def jmp (J : List Nat) : Int32 := Int32.ofNat (enc J) - (Int32.ofNat 1)
theorem jmp_1 (J : List Nat) : jmp J + 1 = Int32.ofNat (enc J) := by
  unfold jmp
  show Int32.ofNat (enc J) - (Int32.ofNat 1) + (Int32.ofNat 1) = _
  rw [Int32.sub_add_cancel]
theorem jmp_c (j : Nat) (J : List Nat) : jmp (j :: J) = Int32.ofNat j := by
  show Int32.ofNat (j + 1) - (Int32.ofNat 1) = _
  rw [zsub (by omega), Nat.add_sub_cancel]
def chn (F : Nat → Int32) (kd : Nat) : List Nat → Prop
  | [] => True
  | j :: J => F j = Int32.ofNat (kd + 16 * enc J) ∧ j < 512 ∧ (∀ i ∈ J, i < j) ∧ chn F kd J
theorem chn_congr {F G : Nat → Int32} {kd : Nat} : ∀ (J : List Nat), (∀ j ∈ J, G j = F j) → chn F kd J → chn G kd J
  | [], _, _ => trivial
  | j :: J, h, ⟨a, b, c, d⟩ => ⟨(h j (List.mem_cons_self ..)).trans a, b, c, chn_congr J (fun i hi => h i (List.mem_cons_of_mem _ hi)) d⟩
theorem enc_le {F : Nat → Int32} {kd : Nat} : ∀ (J : List Nat), chn F kd J → enc J ≤ 512
  | [], _ => by show 0 ≤ 512; omega
  | j :: J, ⟨a, b, c, d⟩ => by show j + 1 ≤ 512; omega
/-- where all have landed -/
def lnd (F : Nat → Int32) (kd T : Nat) (J : List Nat) : Nat → Int32 := fun i => if i ∈ J then Int32.ofNat (kd + 16 * T) else F i
theorem c_land_J {kd s : Nat} (hkd : kd < 16) (hs : s ≤ 512) : ∀ (J : List Nat) (k c : Nat) (M : sy_M), chn (M 40) kd J → M 35 5 = Int32.ofNat s → c + J.length ≤ 512 → jfX4_land_4 (k + J.length + 1) 35 (jmp J) (Int32.ofNat c) M = sy_rv (syc M 40 (lnd (M 40) kd s J))
  | [], k, c, M, _, _, _ => by
    have : syc M 40 (lnd (M 40) kd s []) = M := by
      have : lnd (M 40) kd s [] = M 40 := by
        funext i
        unfold lnd
        rw [if_neg (List.not_mem_nil)]
      rw [this, syc_self]
    rw [this]
    show jgX4_land_4 (jfX4_land_4 k) 35 (jmp []) (Int32.ofNat c) M = _
    unfold jgX4_land_4
    rw [if_pos (show jmp [] < 0 by decide), ite_self]
  | j :: J, k, c, M, ⟨a1, a2, a3, a4⟩, h5, hc => by
    have l40 : ∀ N : sy_M, sy_len N (35 + 5) = 512 := fun N => by rw [sy_len_li (by decide)]; rfl
    have el := enc_le J a4
    rw [List.length_cons] at hc ⊢
    have ih := c_land_J hkd hs J k (c + 1) (syc M 40 (rs (M 40) j (Int32.ofNat (kd + 16 * s)))) (by
      rw [syc_at]
      exact chn_congr J (fun i hi => rs_ne _ _ (by have := a3 i hi; omega)) a4) (by rw [syc_ne _ _ (by decide)]; exact h5) (by omega)
    rw [syc_at, syc_st] at ih
    have el2 : lnd (rs (M 40) j (Int32.ofNat (kd + 16 * s))) kd s J = lnd (M 40) kd s (j :: J) := by
      funext i
      unfold lnd
      by_cases h1 : i ∈ J
      · rw [if_pos h1, if_pos (List.mem_cons_of_mem _ h1)]
      · rw [if_neg h1]
        by_cases h2 : i = j
        · rw [h2, rs_at, if_pos (List.mem_cons_self ..)]
        · rw [rs_ne _ _ h2, if_neg (fun z => by rcases List.mem_cons.mp z with z | z <;> contradiction)]
    rw [el2] at ih
    rw [← ih]
    show jgX4_land_4 (jfX4_land_4 (k + J.length + 1)) 35 (jmp (j :: J)) (Int32.ofNat c) M = _
    unfold jgX4_land_4
    have n1 : (kd + 16 * enc J) % 16 = kd := by omega
    have n2 : (kd + 16 * enc J) / 16 = enc J := by omega
    rw [jmp_c, if_pos (show Int32.ofNat c < 512 from (zlt (b := 512) (by omega) (by decide)).mpr (by omega)), if_neg (show ¬ Int32.ofNat j < 0 from znn j (by omega)), if_pos (show Int32.ofNat j < 512 from (zlt (b := 512) (by omega) (by decide)).mpr a2), show sy_is 4 35 = true from rfl, sy_bs_t, l40, zin a2 (by decide), sy_bx_t, zix (by omega)]
    simp only
    rw [show 35 + 5 = 40 from rfl, a1, zand15 (by omega), zshr4 (by omega), n1, n2, sy_bs_t, sy_bs_t, sy_bx_t, sy_bs_t, show sy_li 40 = 512 from rfl, zin a2 (by decide), sy_bx_t, h5, show (16 : Int32) = (Int32.ofNat 16) from rfl, zmul, zadd, show (1 : Int32) = (Int32.ofNat 1) from rfl, zadd, sy_upd_st]
    rfl
/-- steps whose jumps have not landed -/
def PB (F : Nat → Int32) (kd : Nat) (pol : Bool) (s0 s : Nat) (J : List Nat) (mn : (Nat → Int32) → Bool) : Prop := ∀ (G : Nat → Int32) (T : Nat), s ≤ T → T ≤ 1000 → (∀ i, s0 ≤ i → i < s → i ∉ J → G i = F i) → (∀ j ∈ J, G j = Int32.ofNat (kd + 16 * T)) → ∀ v fl il lf, ∃ il' lf', hr G v T (s0, fl, il, lf, 0) (s, mn v, il', lf', 0) ∨ (mn v = pol ∧ hr G v T (s0, fl, il, lf, 0) (T, pol, il', lf', 0))
theorem PB_base {F : Nat → Int32} {kd : Nat} {pol : Bool} {s0 s : Nat} {mn : (Nat → Int32) → Bool} (B : Blk F s0 s mn) : PB F kd pol s0 s [] mn := by
  intro G T h1 h2 h3 h4 v fl il lf
  obtain ⟨il', lf', r⟩ := B v fl il lf
  exact ⟨il', lf', Or.inl (hr_mono r h1 (Nat.le_refl _) (fun i a b => h3 i a b (List.not_mem_nil)))⟩
theorem hk_jump {v : Nat → Int32} {pol : Bool} {kd s T : Nat} {x : Bool × Bool × Int32 × Int32} (hk0 : kd = bif pol then 7 else 8) (h : s < T) : hk v kd T (s, x) = (bif x.1 == pol then T else s + 1, x) := by
  obtain ⟨fl, r⟩ := x
  subst hk0
  unfold hk
  cases pol <;> cases fl <;> simp (config := { decide := true }) only [cond_true, cond_false, if_true, if_false, decide_eq_true h, Bool.and_true, Bool.and_false, Bool.true_and, Bool.false_and, Bool.not_true, Bool.not_false] <;> rfl
theorem hr_up {F v : Nat → Int32} {e : Nat} {x y : HS} (a : hr F v e x y) : x.1 ≤ y.1 := by
  obtain ⟨n, a⟩ := a
  exact hrn_up n x a
theorem PB_next {F F1 : Nat → Int32} {kd : Nat} {pol : Bool} {s0 s s2 : Nat} {J : List Nat} {mn b : (Nat → Int32) → Bool} (hkd : kd = bif pol then 7 else 8) (P : PB F kd pol s0 s J mn) (hJ : ∀ j ∈ J, j < s) (e : ∀ i, s0 ≤ i → i < s → F1 i = F i) (hs : s < s2) (B : Blk F1 (s + 1) s2 b) : PB F1 kd pol s0 s2 (s :: J) (fun v => bif mn v == pol then pol else b v) := by
  intro G T h1 h2 h3 h4 v fl il lf
  have kl : kd ≤ 8 := by rw [hkd]; cases pol <;> decide
  obtain ⟨il', lf', r⟩ := P G T (by omega) h2 (fun i a c d => (h3 i a (by omega) (fun z => (List.mem_cons.mp z).elim (fun z => absurd z (by omega)) d)).trans (e i a c)) (fun j hj => h4 j (List.mem_cons_of_mem _ hj)) v fl il lf
  rcases r with r | ⟨r1, r2⟩
  · have jm : G s = Int32.ofNat (kd + 16 * T) := h4 s (List.mem_cons_self ..)
    have hj := hk_jump (v := v) (x := (mn v, il', lf', 0)) hkd (show s < T by omega)
    simp only at hj
    cases hm : (mn v == pol) with
    | true =>
      rw [hm, cond_true] at hj
      have em : mn v = pol := eq_of_beq hm
      refine ⟨il', lf', Or.inr ⟨?_, r.trans (hr.step (by simp only; omega) jm kl h2 ?_)⟩⟩
      · simp only [hm, cond_true]
      · rw [hj, em]; exact hr.refl _
    | false =>
      rw [hm, cond_false] at hj
      obtain ⟨il2, lf2, r2⟩ := B v (mn v) il' lf'
      refine ⟨il2, lf2, Or.inl (r.trans (hr.step (by simp only; omega) jm kl h2 ?_))⟩
      rw [hj]
      simp only [hm, cond_false]
      exact hr_mono r2 h1 (Nat.le_refl _) (fun i a c => h3 i (by have := hr_up r; simp only at this; omega) c (fun z => by
        rcases List.mem_cons.mp z with z | z
        · omega
        · have := hJ i z; omega))
  · refine ⟨il', lf', Or.inr ⟨?_, r2⟩⟩
    simp only [r1, beq_self_eq_true, cond_true]
theorem PB_end {F : Nat → Int32} {kd : Nat} {pol : Bool} {s0 s : Nat} {J : List Nat} {mn : (Nat → Int32) → Bool} (P : PB F kd pol s0 s J mn) (hs : s ≤ 1000) : Blk (lnd F kd s J) s0 s mn := by
  intro v fl il lf
  obtain ⟨il', lf', r⟩ := P (lnd F kd s J) s (Nat.le_refl _) hs (fun i a b c => by unfold lnd; rw [if_neg c]) (fun j hj => by unfold lnd; rw [if_pos hj]) v fl il lf
  rcases r with r | ⟨r1, r2⟩
  · exact ⟨il', lf', r⟩
  · rw [r1]; exact ⟨il', lf', r2⟩
end
