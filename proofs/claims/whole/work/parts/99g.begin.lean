/-! ===== the start: what holds at the loop's head ===== -/
section
variable {H : xe_H} {L : Nat} {xs : Nat → Int32}
def M0 (H : xe_H) (L : Nat) (xs : Nat → Int32) : sy_M := fun a => if a = 134 then (fun j => if j = 0 then Int32.ofNat L else 0) else if a = 1000000 then xs else if a < 133 then Z H a else fun _ => 0
theorem M0_z {a : Nat} (h : a < 133) : M0 H L xs a = Z H a := by
  unfold M0
  rw [if_neg (by omega), if_neg (by omega), if_pos h]
theorem H0_1 (h : chk1 H = true) : H.1 = 133 ∧ H.2.1 = 18264 ∧ ∀ a, a < 133 → ∃ r o, sy_row a = some r ∧ H.2.2 a = some o ∧ o.1 = r.1 ∧ o.2.1 = r.2.1 ∧ (∀ x ∈ r.2.2, x.1 < r.2.1) ∧ ∀ j, j < r.2.1 → vok r (o.2.2 j) j = true := by
  unfold chk1 at h
  rw [Bool.and_eq_true, Bool.and_eq_true] at h
  refine ⟨Nat.eq_of_beq_eq_true h.1, Nat.eq_of_beq_eq_true h.2.1, fun a ha => ?_⟩
  have h2 := List.all_eq_true.mp h.2.2 a (List.mem_range.mpr ha)
  cases hr : sy_row a with
  | none => rw [hr] at h2; cases h2
  | some r =>
    cases ho : H.2.2 a with
    | none => rw [hr, ho] at h2; cases h2
    | some o =>
      rw [hr, ho] at h2
      have h2 : (Nat.beq o.1 r.1 && (Nat.beq o.2.1 r.2.1 && (r.2.2.all (fun x => Nat.blt x.1 r.2.1) && (List.range r.2.1).all (fun j => vok r (o.2.2 j) j)))) = true := h2
      rw [Bool.and_eq_true, Bool.and_eq_true, Bool.and_eq_true] at h2
      refine ⟨r, o, rfl, rfl, Nat.eq_of_beq_eq_true h2.1, Nat.eq_of_beq_eq_true h2.2.1, fun x hx => ?_, fun j hj => ?_⟩
      · have := List.all_eq_true.mp h2.2.2.1 x hx
        rwa [Nat.blt_eq] at this
      · exact List.all_eq_true.mp h2.2.2.2 j (List.mem_range.mpr hj)
theorem lkr_ge : ∀ {l : List (Nat × Nat)} {n j : Nat}, (∀ x ∈ l, x.1 < n) → n ≤ j → sy_lkr l j = none
  | [], _, _, _, _ => rfl
  | x :: l, n, j, h, hj => by
    unfold sy_lkr
    have h1 := h x List.mem_cons_self
    have hb : Nat.beq x.1 j = false := by
      cases hb : Nat.beq x.1 j with
      | false => rfl
      | true => have := Nat.eq_of_beq_eq_true hb; omega
    rw [hb, cond_false]
    exact lkr_ge (fun y hy => h y (List.mem_cons_of_mem _ hy)) hj
theorem Z_at {a j : Nat} {o : xe_O} (e : H.2.2 a = some o) : Z H a j = (match o.2.2 j with
    | .int x => x
    | _ => 0) := by
  unfold Z
  rw [e]
  rfl
theorem sy_ok1 {a : Nat} {r : Nat × Nat × List (Nat × Nat)} (h : sy_row a = some r) : r.1 < 1000 ∨ r.1 = 1000 ∨ r.1 = 1001 ∨ r.1 = 1002 ∨ r.1 = 1004 := by
  have := sy_row_ok h
  unfold sy_okRow at this
  by_cases c : r.1 < 1000
  · exact Or.inl c
  · have c1 : Nat.blt r.1 1000 = false := by
      cases hb : Nat.blt r.1 1000 with
      | false => rfl
      | true => rw [Nat.blt_eq] at hb; exact absurd hb c
    rw [c1, cond_false] at this
    cases hb : Nat.beq r.1 1004 with
    | true => have := Nat.eq_of_beq_eq_true hb; omega
    | false =>
      rw [hb, cond_false, Bool.and_eq_true, Bool.or_eq_true, Bool.or_eq_true] at this
      rcases this.2 with z | z | z
      · have := Nat.eq_of_beq_eq_true z; omega
      · have := Nat.eq_of_beq_eq_true z; omega
      · have := Nat.eq_of_beq_eq_true z; omega
theorem val_eq (c1 : chk1 H = true) (wh : Wh H) {a j : Nat} (ha : a < 133) {r : Nat × Nat × List (Nat × Nat)} {o : xe_O} (hr : sy_row a = some r) (ho : H.2.2 a = some o) (h1 : o.1 = r.1) (h2 : o.2.1 = r.2.1) (h3 : ∀ x ∈ r.2.2, x.1 < r.2.1) (h4 : ∀ j, j < r.2.1 → vok r (o.2.2 j) j = true) : sy_val r (M0 H L xs) a j = o.2.2 j := by
  have w := wh.2.2 a o ho (by rw [(H0_1 c1).1]; exact ha)
  have hd : ∀ j, r.2.1 ≤ j → o.2.2 j = dfl r.1 := fun j hj => by rw [← h1]; exact w j (by rw [h2]; exact hj)
  have ok := sy_ok1 hr
  have mz : ∀ j, M0 H L xs a j = (match o.2.2 j with
    | .int x => x
    | _ => 0) := fun j => by rw [M0_z ha]; exact Z_at ho
  unfold sy_val
  by_cases c1 : r.1 = 1001
  · have b1 : Nat.beq r.1 1001 = true := by rw [c1]; rfl
    have lng : ∀ j, o.2.2 j = .long 0 := fun j => by
      by_cases hj : j < r.2.1
      · have := h4 j hj
        unfold vok at this
        rw [b1, cond_true] at this
        exact of_decide_eq_true this
      · rw [hd j (by omega), c1]; rfl
    rw [b1, cond_true, lng j]
    have z : ∀ j, M0 H L xs a j = 0 := fun j => by rw [mz j, lng j]
    unfold sy_rl
    rw [z, z]
    rfl
  · have b1 : Nat.beq r.1 1001 = false := by
      cases hb : Nat.beq r.1 1001 with
      | false => rfl
      | true => exact absurd (Nat.eq_of_beq_eq_true hb) c1
    rw [b1, cond_false]
    by_cases hj : j < r.2.1
    · have v := h4 j hj
      unfold vok at v
      rw [b1, cond_false] at v
      cases hl : sy_lkr r.2.2 j with
      | some x =>
        rw [hl] at v
        exact (of_decide_eq_true v).symm
      | none =>
        rw [hl] at v
        cases b4 : Nat.beq r.1 1004 with
        | true => rw [b4] at v; cases v
        | false =>
          rw [b4] at v
          have e5 : (Nat.blt r.1 1000 && Nat.ble r.2.1 j) = false := by
            cases hc : Nat.ble r.2.1 j with
            | false => rw [Bool.and_false]
            | true => have := Nat.le_of_ble_eq_true hc; omega
          simp only [e5, Bool.or_false, cond_false]
          have mj := mz j
          cases hv : o.2.2 j with
          | int x => rw [hv] at mj; rw [mj]
          | _ => rw [hv] at v; cases v
    · have hl : sy_lkr r.2.2 j = none := lkr_ge h3 (by omega)
      rw [hl]
      have hd := hd j (by omega)
      have mj := mz j
      rw [hd] at mj ⊢
      have ble : Nat.ble r.2.1 j = true := Nat.ble_eq_true_of_le (by omega)
      rcases ok with z | z | z | z | z
      · have b : Nat.blt r.1 1000 = true := by rw [Nat.blt_eq]; exact z
        have d : dfl r.1 = .null := by unfold dfl; rw [if_neg (by omega), if_neg (by omega)]
        simp only [b, ble, d, Bool.and_true, Bool.or_true, cond_true]
      · rw [z] at mj ⊢
        have mj : M0 H L xs a j = 0 := mj
        rw [mj]
        rfl
      · exact absurd z c1
      · rw [z] at mj ⊢
        have mj : M0 H L xs a j = 0 := mj
        rw [mj]
        rfl
      · rw [z]
        rfl
theorem M0_enc (c1 : chk1 H = true) (wh : Wh H) (hL : L ≤ 384) : sy_enc (M0 H L xs) = ph (1500, L, fun j => .int (xs j)) H := by
  have h133 : M0 H L xs 133 0 = 0 := by
    unfold M0
    rw [if_neg (by decide), if_neg (by decide), if_neg (by decide)]
  have h134 : M0 H L xs 134 0 = Int32.ofNat L := by
    unfold M0
    rw [if_pos rfl, if_pos rfl]
  have hsc : M0 H L xs 1000000 = xs := by
    unfold M0
    rw [if_neg (by decide), if_pos rfl]
  obtain ⟨k1, k2, k3⟩ := H0_1 c1
  unfold sy_enc
  rw [h133]
  refine Prod.ext ?_ (Prod.ext ?_ ?_)
  · show 133 + (0 : Int32).toNatClampNeg = H.1
    rw [k1]; rfl
  · show 18264 + 6 * (0 : Int32).toNatClampNeg = H.2.1
    rw [k2]; rfl
  · funext a
    show sy_hp (M0 H L xs) a = (if a = 1000000 then some (1500, L, fun j => .int (xs j)) else H.2.2 a)
    by_cases ha : a < 133
    · rw [if_neg (by omega)]
      obtain ⟨r, o, hr, ho, h1, h2, h3, h4⟩ := k3 a ha
      unfold sy_hp
      rw [hr, ho]
      show some (r.1, r.2.1, sy_val r (M0 H L xs) a) = some o
      have : sy_val r (M0 H L xs) a = o.2.2 := funext fun j => val_eq c1 wh ha hr ho h1 h2 h3 h4
      rw [this, ← h1, ← h2]
    · unfold sy_hp
      rw [sy_row_no (by omega)]
      show (if a = 1000000 then some (1500, (M0 H L xs 134 0).toNatClampNeg, fun j => Value.int (M0 H L xs 1000000 j)) else xs_SPof zbyt a) = (if a = 1000000 then some (1500, L, fun j => .int (xs j)) else H.2.2 a)
      by_cases hs : a = 1000000
      · rw [if_pos hs, if_pos hs, h134, hsc, zix (by omega)]
      · rw [if_neg hs, if_neg hs]
        exact (wh.2.1 a (by rw [k1]; omega)).symm
theorem M0_bo (h : chk3 H = true) : bo (M0 H L xs) := by
  unfold chk3 at h
  simp only [Bool.and_eq_true, decide_eq_true_iff] at h
  obtain ⟨_, _, _, _, _, _, _, _, _, _, _, _, _, _, _, _, _, _, a, b, c⟩ := h
  unfold bo
  rw [M0_z (by decide)]
  exact ⟨a, b, c⟩
theorem M0_inv (c1 : chk1 H = true) (wh : Wh H) (h2 : chk2 H = true) (h3 : chk3 H = true) : Inv Ask txo (Int32.ofNat L) xs 0 (M0 H L xs) := by
  unfold chk2 at h2
  unfold chk3 at h3
  simp only [Bool.and_eq_true, decide_eq_true_iff] at h2 h3
  obtain ⟨a1, a2, a3, a4, a5, a6, a7, a8, a9, a10, a11, a12, a13⟩ := h2
  obtain ⟨b1, b2, b3, b4, b5, b6, b7, b8, b9, b10, b11, b12, b13, b14, b15, b16, b17, b18, _⟩ := h3
  have rg : ∀ {n : Nat} {f : Nat → Bool}, (List.range n).all f = true → ∀ i, i < n → f i = true := fun h i hi => List.all_eq_true.mp h i (List.mem_range.mpr hi)
  have m := fun {a : Nat} (h : a < 133) => M0_z (H := H) (L := L) (xs := xs) h
  have z0 : ∀ p, p < 7 → Z H 122 (14 + 9 * p + 6) = 0 ∧ Z H 122 (14 + 9 * p + 7) = 0 ∧ Z H 122 (14 + 9 * p + 8) = 0 := fun p hp => by
    have := rg a12 p hp
    simp only [Bool.and_eq_true, decide_eq_true_iff] at this
    exact this
  have d0 : ∀ p o, p < 7 → o < 7 → Z H 122 (77 + 7 * p + o) = 0 := fun p o hp ho => of_decide_eq_true (rg (rg a13 p hp) o ho)
  have G : gr (Z H 122) 0 := by
    refine ⟨fun i h1 h2 h3 h4 h5 => ?_, a2, by omega, fun _ p hp => absurd hp (Nat.not_lt_zero p), fun p _ hp => ⟨(z0 p hp).1, (z0 p hp).2.1, (z0 p hp).2.2, fun o ho => ⟨d0 p o hp ho, d0 o p ho hp⟩⟩, a3, fun p hp => absurd hp (Nat.not_lt_zero p)⟩
    have := rg a1 i h1
    have nb : ∀ k, i ≠ k → Nat.beq i k = false := fun k hk => by
      cases hb : Nat.beq i k with
      | false => rfl
      | true => exact absurd (Nat.eq_of_beq_eq_true hb) hk
    rw [nb 1 h2, nb 2 h3, nb 11 h4, nb 13 h5, Bool.false_or, Bool.false_or, Bool.false_or, Bool.false_or] at this
    unfold okr at this
    rw [Bool.and_eq_true, decide_eq_true_iff, decide_eq_true_iff] at this
    exact ⟨_, this.2, zex this.1⟩
  have HW : hw (M0 H L xs) 9 (Z H 122) := by
    refine ⟨⟨rfl, fun i hi => ?_, fun i hi => ?_, ?_, ?_, fun i h1 h2 => ?_, ?_⟩, Or.inr ⟨by decide, ?_, 0, 0, by omega, by omega, a4, ?_, ?_, fun a w ha => absurd ha (Nat.not_lt_zero a)⟩⟩
    · rw [m (by decide)]; exact of_decide_eq_true (rg a6 i hi)
    · rw [m (by decide)]; exact of_decide_eq_true (rg a7 i hi)
    · rw [m (by decide)]; exact a8
    · rw [m (by decide)]; exact a9
    · have := of_decide_eq_true (rg a10 (i - 4) (by omega))
      rw [show i - 4 + 5 = i + 1 by omega, show i - 4 + 4 = i by omega] at this
      rw [m (by decide)]; exact this
    · rw [m (by decide)]; exact a11
    · rw [m (by decide)]; exact b1
    · rw [m (by decide)]; exact b2
    · rw [m (by decide)]; exact b3
  have f1 : Z H 122 1 < 1 := by rw [a5]; decide
  have hi : ∀ a, (a = 122 ∨ a = 123) → ∀ i, 826 ≤ i → Z H a i = 0 := fun a ha i hi => by
    obtain ⟨k1, k2, k3⟩ := H0_1 c1
    obtain ⟨r, o, hr, ho, q1, q2, q3, q4⟩ := k3 a (by omega)
    have er : r.1 = 1000 ∧ r.2.1 = 826 := by
      rcases ha with z | z
      · subst z
        have e : sy_row 122 = some (1000, 826, []) := by decide +kernel
        rw [e] at hr
        have := Option.some.inj hr
        rw [← this]; exact ⟨rfl, rfl⟩
      · subst z
        have e : sy_row 123 = some (1000, 826, []) := by decide +kernel
        rw [e] at hr
        have := Option.some.inj hr
        rw [← this]; exact ⟨rfl, rfl⟩
    have w := wh.2.2 a o ho (by rw [k1]; omega) i (by rw [q2, er.2]; exact hi)
    rw [Z_at ho, w, q1, er.1]
    rfl
  refine ⟨⟨0, ?_, ?_, ?_, ?_, ?_⟩, ⟨?_, ?_, ?_, ?_⟩, ⟨0, 0, by omega, by omega, ?_, ?_, ?_, fun j hj => absurd hj (Nat.not_lt_zero j)⟩, ⟨⟨rfl, Or.inr ⟨by decide, ?_⟩⟩, ⟨rfl, Or.inr ⟨by decide, ?_⟩⟩, fun k hk => ?_⟩, ⟨rfl, Or.inl ⟨rfl, ?_, ?_⟩⟩, ⟨0, by omega, ?_, ?_, fun i hi => absurd hi (Nat.not_lt_zero i)⟩, ?_, ?_, ⟨0, by omega, ?_⟩, ?_, ?_⟩
  · rw [m (by decide)]; exact G
  · rw [m (a := 122) (by decide)]; exact HW
  · rw [m (by decide)]; exact ⟨0, fun _ => (0, 0, fun _ => true), fun _ => rfl, fun z => absurd f1 z⟩
  · rw [m (a := 122) (by decide)]
    exact cAK_none (by rw [m (by decide)]; exact b4) f1
  · rw [m (by decide), m (by decide), b4, a5]
  · rw [m (by decide), m (by decide), b5, b6]
  · rw [m (by decide), b6]; exact Or.inl rfl
  · intro z
    rw [m (by decide), b6] at z
    exact absurd z (by decide)
  · intro i h
    rw [m (by decide), m (by decide), hi 123 (Or.inr rfl) i h, hi 122 (Or.inl rfl) i h]
  · rw [m (by decide)]; exact b7
  · rw [m (by decide)]; exact b8
  · rw [m (by decide)]; exact b9
  · rw [m (by decide)]; exact b10
  · rw [m (by decide)]; exact b11
  · have := rg b12 k hk
    rw [Bool.and_eq_true, decide_eq_true_iff] at this
    refine ⟨this.1, Or.inr ⟨by omega, ?_⟩⟩
    rw [m (by omega)]; exact this.2
  · rw [m (by decide)]; exact b13
  · rw [m (by decide)]; exact b14
  · rw [m (by decide)]; exact b15
  · rw [m (by decide)]; exact b16
  · rw [m (by decide), m (by decide)]; exact b17
  · rw [m (by decide)]; exact b18
  · unfold M0
    rw [if_neg (by decide), if_neg (by decide), if_neg (by decide)]
    rfl
  · unfold M0
    rw [if_pos rfl, if_pos rfl]
  · unfold M0
    rw [if_neg (by decide), if_pos rfl]
end
