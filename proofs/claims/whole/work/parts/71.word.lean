/-! ===== the class knows words ===== -/
section
variable {M : sy_M} {t : Nat → Nat} {L : Nat}
def alk (ok : Bool) (j : Nat) : Int32 := bif ok then Int32.ofNat j else -(Int32.ofNat 1)
theorem wd_blk {q e : Nat} (hb : ∀ i, i < L → M 2 i = Int32.ofNat (t i)) (ht : ∀ i, t i ≤ 255) (hL : L ≤ 400) (hq : q ≤ e) (he : e ≤ L) (word : Int32) : ∀ (W : List Nat) (j : Nat) (ok : Bool) (o k : Nat), (∀ c ∈ W, c ≠ 32 ∧ c < 256) → (∀ i, i < W.length → sy_sc 1500000 (o + i) = Int32.ofNat (W.getD i 0)) → sy_sc 1500000 (o + W.length) = (Int32.ofNat 32) → o + W.length < 128 → j + W.length ≤ 400 → jfX10_wordAt_10 (k + W.length + 1) (Int32.ofNat q) (Int32.ofNat e) word (alk ok j) (Int32.ofNat o) M = bif ok && (Nat.beq (e - q) (j + W.length) && eqw t (q + j) W) then sy_ri word M else jfX10_wordAt_10 k (Int32.ofNat q) (Int32.ofNat e) (word + (Int32.ofNat 1)) (Int32.ofNat 0) (Int32.ofNat (o + W.length + 1)) M
  | [], j, ok, o, k, _, _, hs, ho, hj => by
    show jgX10_wordAt_10 (jfX10_wordAt_10 k) (Int32.ofNat q) (Int32.ofNat e) word (alk ok j) (Int32.ofNat o) M = _
    have hs0 : sy_sc 1500000 o = (Int32.ofNat 32) := hs
    have eq1 : Int32.ofNat e - Int32.ofNat q = Int32.ofNat (e - q) := zsub hq
    simp (disch := omega) only [jgX10_wordAt_10, jfX10_wordAt_104, zL, zto, zlt, if_pos, zin, sy_bx_t, zix, hs0, if_true, eq1, zadd]
    unfold alk
    cases ok
    · rw [cond_false, if_neg (fun z => znn (e - q) (by omega) (by rw [← z]; decide))]
      rfl
    · rw [cond_true]
      by_cases h : e - q = j
      · rw [if_pos (by rw [h]), h]
        have : Nat.beq j (j + 0) = true := Nat.beq_refl j
        rw [show ([] : List Nat).length = 0 from rfl, this]
        rfl
      · rw [if_neg (fun z => h ((zeq (by omega) (by omega)).mp z).symm)]
        have : Nat.beq (e - q) (j + 0) = false := by
          cases hq2 : Nat.beq (e - q) (j + 0) with
          | false => rfl
          | true => exact absurd (Nat.eq_of_beq_eq_true hq2) h
        rw [show ([] : List Nat).length = 0 from rfl, this]
        rfl
  | c :: W, j, ok, o, k, hc, hw0, hs, ho, hj => by
    have hlen : (c :: W).length = W.length + 1 := rfl
    rw [hlen] at hs ho hj ⊢
    have hc0 := hc c (List.mem_cons_self ..)
    have hs0 : sy_sc 1500000 o = Int32.ofNat c := hw0 0 (by rw [hlen]; omega)
    have step : ∀ ok2, jfX10_wordAt_10 (k + W.length + 1) (Int32.ofNat q) (Int32.ofNat e) word (alk ok2 (j + 1)) (Int32.ofNat (o + 1)) M = bif ok2 && (Nat.beq (e - q) (j + 1 + W.length) && eqw t (q + (j + 1)) W) then sy_ri word M else jfX10_wordAt_10 k (Int32.ofNat q) (Int32.ofNat e) (word + (Int32.ofNat 1)) (Int32.ofNat 0) (Int32.ofNat (o + 1 + W.length + 1)) M := by
      intro ok2
      refine wd_blk hb ht hL hq he word W (j + 1) ok2 (o + 1) k (fun x hx => hc x (List.mem_cons_of_mem _ hx)) (fun i hi => ?_) ?_ (by omega) (by omega)
      · have := hw0 (i + 1) (by rw [hlen]; omega)
        rw [show o + 1 + i = o + (i + 1) by omega]
        exact this
      · rw [show o + 1 + W.length = o + (W.length + 1) by omega]; exact hs
    rw [show k + (W.length + 1) + 1 = (k + W.length + 1) + 1 by omega]
    show jgX10_wordAt_10 (jfX10_wordAt_10 (k + W.length + 1)) (Int32.ofNat q) (Int32.ofNat e) word (alk ok j) (Int32.ofNat o) M = _
    have n32 : ¬ Int32.ofNat c = (Int32.ofNat 32) := fun z => hc0.1 ((zeq (by omega) (by omega)).mp z)
    simp (disch := omega) only [jgX10_wordAt_10, jfX10_wordAt_86, jfX10_wordAt_87, jfX10_wordAt_102, jfX10_wordAt_104, zL, zto, zlt, if_pos, zin, sy_bx_t, zix, hs0, zadd, if_true]
    rw [if_neg n32]
    have s1 := step true
    have s0 := step false
    rw [show alk true (j + 1) = Int32.ofNat (j + 1) from rfl] at s1
    rw [show alk false (j + 1) = -(Int32.ofNat 1) from rfl] at s0
    have eo : o + 1 + W.length + 1 = o + (W.length + 1) + 1 := by omega
    have ej : j + 1 + W.length = j + (W.length + 1) := by omega
    rw [eo, ej] at s1 s0
    cases ok
    · rw [show alk false j = -(Int32.ofNat 1) from rfl, if_pos (show (-(Int32.ofNat 1) : Int32) < (Int32.ofNat 0) by decide), s0]
      rfl
    · rw [show alk true j = Int32.ofNat j from rfl, if_neg (znn j (by omega)), zadd, zadd]
      by_cases h : q + j < e
      · rw [if_pos ((zlt (by omega) (by omega)).mpr h), c_byteAt hb hL (by omega), sy_bi_ri]
        by_cases h2 : t (q + j) = c
        · rw [if_pos (by rw [h2]), if_neg (show ¬ ((Int32.ofNat 1) : Int32) = (Int32.ofNat 0) by decide), s1, Bool.true_and, Bool.true_and]
          have : eqw t (q + j) (c :: W) = eqw t (q + (j + 1)) W := by
            show (Nat.beq (t (q + j)) c && eqw t (q + j + 1) W) = _
            rw [h2, Nat.beq_refl]
            rfl
          rw [this]
        · have ht2 := ht (q + j)
          rw [if_neg (fun z => h2 ((zeq (by omega) (by omega)).mp z)), s0, Bool.false_and, Bool.true_and, cond_false]
          have : eqw t (q + j) (c :: W) = false := by
            show (Nat.beq (t (q + j)) c && eqw t (q + j + 1) W) = _
            have : Nat.beq (t (q + j)) c = false := by
              cases hq2 : Nat.beq (t (q + j)) c with
              | false => rfl
              | true => exact absurd (Nat.eq_of_beq_eq_true hq2) h2
            rw [this]
            rfl
          rw [this, Bool.and_false]
          rfl
      · rw [if_neg (fun z => h ((zlt (by omega) (by omega)).mp z)), s0, Bool.false_and, Bool.true_and, cond_false]
        have : Nat.beq (e - q) (j + (W.length + 1)) = false := by
          cases hq2 : Nat.beq (e - q) (j + (W.length + 1)) with
          | false => rfl
          | true => have := Nat.eq_of_beq_eq_true hq2; omega
        rw [this]
        rfl
theorem gd_1 : ∀ (a b : List Nat) (i : Nat), i < a.length → (a ++ b).getD i 0 = a.getD i 0
  | [], _, i, h => absurd h (Nat.not_lt_zero i)
  | x :: a, b, 0, _ => rfl
  | x :: a, b, i + 1, h => gd_1 a b i (Nat.lt_of_succ_lt_succ h)
theorem gd_2 : ∀ (a b : List Nat) (i : Nat), (a ++ b).getD (a.length + i) 0 = b.getD i 0
  | [], _, i => by rw [show ([] : List Nat).length = 0 from rfl, Nat.zero_add]; rfl
  | x :: a, b, i => by
    rw [show (x :: a).length + i = (a.length + i) + 1 by rw [List.length_cons]; omega]
    exact gd_2 a b i
/-- the words as one text -/
def wst : List (List Nat) → List Nat
  | [] => []
  | w :: l => w ++ 32 :: wst l
theorem wds_ok : ∀ w ∈ wds, ∀ c ∈ w, c ≠ 32 ∧ c < 256 := by decide
theorem wst_len : (wst wds).length = 128 := by decide +kernel
theorem wst_ch : ∀ i : Fin 128, sy_sc 1500000 i.1 = Int32.ofNat ((wst wds).getD i.1 0) := by decide +kernel
theorem wd_all {q e : Nat} (hb : ∀ i, i < L → M 2 i = Int32.ofNat (t i)) (ht : ∀ i, t i ≤ 255) (hL : L ≤ 400) (hq : q ≤ e) (he : e ≤ L) : ∀ (l : List (List Nat)) (o kw k : Nat), (∀ w ∈ l, ∀ c ∈ w, c ≠ 32 ∧ c < 256) → (∀ i, i < (wst l).length → sy_sc 1500000 (o + i) = Int32.ofNat ((wst l).getD i 0)) → o + (wst l).length = 128 → jfX10_wordAt_10 (k + (wst l).length + 1) (Int32.ofNat q) (Int32.ofNat e) (Int32.ofNat kw) (Int32.ofNat 0) (Int32.ofNat o) M = sy_ri (Int32.ofNat (wco t q e l kw)) M
  | [], o, kw, k, _, _, ho => by
    have : o = 128 := ho
    subst this
    show jgX10_wordAt_10 (jfX10_wordAt_10 k) (Int32.ofNat q) (Int32.ofNat e) (Int32.ofNat kw) (Int32.ofNat 0) (Int32.ofNat 128) M = _
    unfold jgX10_wordAt_10
    rw [if_neg (show ¬ (Int32.ofNat 128 < Nat.toInt32 128) by decide)]
    rfl
  | w :: l, o, kw, k, h1, h2, ho => by
    have hl : (wst (w :: l)).length = w.length + ((wst l).length + 1) := by
      show (w ++ 32 :: wst l).length = _
      rw [List.length_append, List.length_cons]
    rw [hl] at h2 ho ⊢
    have g1 : ∀ i, i < w.length → sy_sc 1500000 (o + i) = Int32.ofNat (w.getD i 0) := by
      intro i hi
      rw [h2 i (by omega)]
      show Int32.ofNat ((w ++ 32 :: wst l).getD i 0) = _
      rw [gd_1 _ _ _ hi]
    have g2 : sy_sc 1500000 (o + w.length) = (Int32.ofNat 32) := by
      rw [h2 w.length (by omega)]
      show Int32.ofNat ((w ++ 32 :: wst l).getD w.length 0) = _
      exact congrArg Int32.ofNat (gd_2 w (32 :: wst l) 0)
    have g3 : ∀ i, i < (wst l).length → sy_sc 1500000 (o + w.length + 1 + i) = Int32.ofNat ((wst l).getD i 0) := by
      intro i hi
      rw [show o + w.length + 1 + i = o + (w.length + 1 + i) by omega, h2 _ (by omega)]
      show Int32.ofNat ((w ++ 32 :: wst l).getD (w.length + 1 + i) 0) = _
      rw [show w.length + 1 + i = w.length + (i + 1) by omega]
      exact congrArg Int32.ofNat (gd_2 w (32 :: wst l) (i + 1))
    have e1 := wd_blk hb ht hL hq he (Int32.ofNat kw) w 0 true o (k + (wst l).length + 1) (h1 w (List.mem_cons_self ..)) g1 g2 (by omega) (by omega)
    rw [show k + (w.length + ((wst l).length + 1)) + 1 = k + (wst l).length + 1 + w.length + 1 by omega]
    refine Eq.trans e1 ?_
    have e2 := wd_all hb ht hL hq he l (o + w.length + 1) (kw + 1) k (fun x hx => h1 x (List.mem_cons_of_mem _ hx)) g3 (by omega)
    rw [zadd, e2, Bool.true_and, Nat.zero_add, Nat.add_zero]
    show _ = sy_ri (Int32.ofNat (bif Nat.beq (e - q) w.length && eqw t q w then kw else wco t q e l (kw + 1))) M
    cases (Nat.beq (e - q) w.length && eqw t q w) <;> rfl
theorem c_wordAt {q e : Nat} (hb : ∀ i, i < L → M 2 i = Int32.ofNat (t i)) (ht : ∀ i, t i ≤ 255) (hL : L ≤ 400) (hq : q ≤ e) (he : e ≤ L) : jfX10_wordAt (Int32.ofNat q) (Int32.ofNat e) M = sy_ri (Int32.ofNat (wco t q e wds 260)) M := by
  have := wd_all hb ht hL hq he wds 0 260 5871 wds_ok (fun i hi => by rw [Nat.zero_add]; exact wst_ch ⟨i, by rw [wst_len] at hi; exact hi⟩) (by rw [wst_len])
  rw [wst_len] at this
  unfold jfX10_wordAt
  rw [show sy_F = 5871 + 128 + 1 from sy_F_eq]
  exact this
theorem c_thingAt {q : Nat} (hb : ∀ i, i < L → M 2 i = Int32.ofNat (t i)) (ht : ∀ i, t i ≤ 255) (hL : L ≤ 400) (hq : q < L) : jfX10_thingAt (Int32.ofNat q) (Int32.ofNat (ten t L q)) M = sy_ri (Int32.ofNat (thg t L q)) M := by
  have hg := ten_gt (t := t) hq
  have hk := c_kindOf (M := M) (ht q)
  have e1 : Int32.ofNat (ten t L q) - Int32.ofNat q = Int32.ofNat (ten t L q - q) := zsub (by omega)
  have e0 : jfX10_thingAt (Int32.ofNat q) (Int32.ofNat (ten t L q)) M = if kdn (t q) = (Int32.ofNat 257) then (if 3 < ten t L q - q then sy_ri (Int32.ofNat 258) M else sy_ri (Int32.ofNat 257) M) else if kdn (t q) = -(Int32.ofNat 1) then sy_ri (Int32.ofNat (t q)) M else sy_ri (Int32.ofNat (wco t q (ten t L q) wds 260)) M := by
    simp (disch := omega) only [zL, zlt, zle, zeq, zadd, zmul, zin, zix, zsh1, Nat.add_zero, Nat.zero_add, Nat.mul_zero, if_true, if_false, if_pos, if_neg, sy_bi_ri, sy_bi_rt, sy_bv_rv, sy_bv_rt, sy_br_rr, sy_br_rn, sy_hi_ri, sy_hi_rt, sy_bs_t, sy_bx_t, sy_bb_t, bz_bo, ite_bz0, ite_bz1, jfX10_thingAt, c_byteAt hb hL hq, hk, e1, c_wordAt hb ht hL]
  rw [e0]
  unfold thg
  have nb : Nat.ble L q = false := by
    cases h : Nat.ble L q with
    | false => rfl
    | true => rw [Nat.ble_eq] at h; omega
  rw [nb, cond_false]
  cases hd : isd (t q) with
  | true =>
    rw [if_pos (kdn_d.mpr hd), cond_true]
    by_cases h3 : 3 < ten t L q - q
    · have : Nat.ble (ten t L q - q) 3 = false := by
        cases h : Nat.ble (ten t L q - q) 3 with
        | false => rfl
        | true => rw [Nat.ble_eq] at h; omega
      rw [if_pos h3, this]
      rfl
    · have : Nat.ble (ten t L q - q) 3 = true := Nat.ble_eq.mpr (by omega)
      rw [if_neg h3, this]
      rfl
  | false =>
    rw [if_neg (fun z => by rw [kdn_d.mp z] at hd; cases hd), cond_false]
    cases ha : isa (t q) with
    | true =>
      rw [kdn_a.mpr ha]
      rfl
    | false =>
      have : kdn (t q) = -(Int32.ofNat 1) := by unfold kdn; rw [ha, hd]; rfl
      rw [if_pos this]
      rfl
end
