/-! ===== the steps of a law ===== -/
theorem zand15 {a : Nat} (h : a < 2147483648) : Int32.ofNat a &&& 15 = Int32.ofNat (a % 16) := by
  apply Int32.toBitVec_inj.mp
  rw [Int32.toBitVec_and]
  show BitVec.ofNat 32 a &&& 15#32 = BitVec.ofNat 32 (a % 16)
  apply BitVec.eq_of_toNat_eq
  rw [BitVec.toNat_and, BitVec.toNat_ofNat, BitVec.toNat_ofNat, BitVec.toNat_ofNat, Nat.mod_eq_of_lt (show a < 2 ^ 32 by omega), Nat.mod_eq_of_lt (show a % 16 < 2 ^ 32 by omega)]
  exact Nat.and_two_pow_sub_one_eq_mod a 4
theorem zshr4 {a : Nat} (h : a < 2147483648) : Int32.ofNat a >>> (4 &&& 31) = Int32.ofNat (a / 16) := by
  have e : (4 &&& 31 : Int32) = Int32.ofNat 4 := by decide
  rw [e]
  apply Int32.toBitVec_inj.mp
  rw [sar_bv _ (by decide)]
  show (BitVec.ofNat 32 a).sshiftRight 4 = BitVec.ofNat 32 (a / 16)
  have hm : (BitVec.ofNat 32 a).msb = false := by
    rw [BitVec.msb_eq_decide, BitVec.toNat_ofNat, Nat.mod_eq_of_lt (show a < 2 ^ 32 by omega)]
    exact decide_eq_false (by omega)
  rw [BitVec.sshiftRight_eq_of_msb_false hm]
  apply BitVec.eq_of_toNat_eq
  rw [BitVec.toNat_ushiftRight, BitVec.toNat_ofNat, BitVec.toNat_ofNat, Nat.mod_eq_of_lt (show a < 2 ^ 32 by omega), Nat.mod_eq_of_lt (show a / 16 < 2 ^ 32 by omega), Nat.shiftRight_eq_div_pow]
/-- where it stands, the flag, is it less, what stood left, the sum -/
abbrev HS := Nat × Bool × Bool × Int32 × Int32
def hk (v : Nat → Int32) (kd nm : Nat) (x : HS) : HS :=
  if kd = 0 then (x.1 + 1, x.2.1, x.2.2.1, x.2.2.2.1, x.2.2.2.2 + Int32.ofNat nm)
  else if kd = 1 then (x.1 + 1, x.2.1, x.2.2.1, x.2.2.2.1, x.2.2.2.2 + (if nm < 9 then v nm else 0))
  else if kd = 2 then (x.1 + 1, x.2.1, true, x.2.2.2.2, 0)
  else if kd = 3 then (x.1 + 1, x.2.1, false, x.2.2.2.2, 0)
  else if kd = 4 then (x.1 + 1, bif x.2.2.1 then decide (x.2.2.2.1 < x.2.2.2.2) else decide (x.2.2.2.2 < x.2.2.2.1), x.2.2.1, x.2.2.2.1, 0)
  else if kd = 5 then (x.1 + 1, !decide ((if nm < 9 then v nm else 0) = 0), x.2.2.1, x.2.2.2.1, x.2.2.2.2)
  else if kd = 6 then (x.1 + 1, !x.2.1, x.2.2.1, x.2.2.2.1, x.2.2.2.2)
  else if kd = 7 then (bif x.2.1 && decide (x.1 < nm) then nm else x.1 + 1, x.2)
  else (bif !x.2.1 && decide (x.1 < nm) then nm else x.1 + 1, x.2)
theorem hk_up (v : Nat → Int32) {kd nm : Nat} (h : kd ≤ 8) (x : HS) : x.1 < (hk v kd nm x).1 := by
  obtain ⟨a, fl, il, lf, sm⟩ := x
  unfold hk
  rcases (show kd = 0 ∨ kd = 1 ∨ kd = 2 ∨ kd = 3 ∨ kd = 4 ∨ kd = 5 ∨ kd = 6 ∨ kd = 7 ∨ kd = 8 by omega) with e | e | e | e | e | e | e | e | e <;> subst e <;> simp (config := { decide := true }) only [if_true, if_false]
  all_goals first | omega | skip
  · cases fl
    · show a < a + 1; omega
    · by_cases h : a < nm
      · rw [decide_eq_true h]; exact h
      · rw [decide_eq_false h]; show a < a + 1; omega
  · cases fl
    · by_cases h : a < nm
      · rw [decide_eq_true h]; exact h
      · rw [decide_eq_false h]; show a < a + 1; omega
    · show a < a + 1; omega
/-- from one to the other, below an end -/
def hrn (F : Nat → Int32) (v : Nat → Int32) (e : Nat) : Nat → HS → HS → Prop
  | 0, x, y => x = y
  | n + 1, x, y => ∃ kd nm : Nat, x.1 < e ∧ F x.1 = Int32.ofNat (kd + 16 * nm) ∧ kd ≤ 8 ∧ nm ≤ 1000 ∧ hrn F v e n (hk v kd nm x) y
def hr (F : Nat → Int32) (v : Nat → Int32) (e : Nat) (x y : HS) : Prop := ∃ n, hrn F v e n x y
theorem hr.refl {F v : Nat → Int32} {e : Nat} (x : HS) : hr F v e x x := ⟨0, rfl⟩
theorem hr.step {F v : Nat → Int32} {e : Nat} {x y : HS} {kd nm : Nat} (h1 : x.1 < e) (h2 : F x.1 = Int32.ofNat (kd + 16 * nm)) (h3 : kd ≤ 8) (h4 : nm ≤ 1000) (h5 : hr F v e (hk v kd nm x) y) : hr F v e x y := by
  obtain ⟨n, h⟩ := h5
  exact ⟨n + 1, kd, nm, h1, h2, h3, h4, h⟩
theorem hrn_tr {F v : Nat → Int32} {e : Nat} {y z : HS} (b : hr F v e y z) : ∀ (n : Nat) (x : HS), hrn F v e n x y → hr F v e x z
  | 0, x, h => by
    have h : x = y := h
    rw [h]; exact b
  | n + 1, x, ⟨kd, nm, h1, h2, h3, h4, h5⟩ => hr.step h1 h2 h3 h4 (hrn_tr b n _ h5)
theorem hr.trans {F v : Nat → Int32} {e : Nat} {x y z : HS} (a : hr F v e x y) (b : hr F v e y z) : hr F v e x z := by
  obtain ⟨n, h⟩ := a
  exact hrn_tr b n x h
theorem hrn_up {F v : Nat → Int32} {e : Nat} {y : HS} : ∀ (n : Nat) (x : HS), hrn F v e n x y → x.1 ≤ y.1
  | 0, x, h => by
    have h : x = y := h
    rw [h]; exact Nat.le_refl _
  | n + 1, x, ⟨kd, nm, h1, h2, h3, h4, h5⟩ => Nat.le_trans (Nat.le_of_lt (hk_up v h3 _)) (hrn_up n _ h5)
theorem hrn_mono {F G v : Nat → Int32} {e e1 b : Nat} {y : HS} (he : e ≤ e1) (h : ∀ i, b ≤ i → i < e → G i = F i) : ∀ (n : Nat) (x : HS), b ≤ x.1 → hrn F v e n x y → hrn G v e1 n x y
  | 0, x, _, a => a
  | n + 1, x, hb, ⟨kd, nm, h1, h2, h3, h4, h5⟩ => ⟨kd, nm, by omega, (h _ hb h1).trans h2, h3, h4, hrn_mono he h n _ (by have := hk_up v (nm := nm) h3 x; omega) h5⟩
theorem hr_mono {F G v : Nat → Int32} {e e1 b : Nat} {x y : HS} (a : hr F v e x y) (he : e ≤ e1) (hb : b ≤ x.1) (h : ∀ i, b ≤ i → i < e → G i = F i) : hr G v e1 x y := by
  obtain ⟨n, a⟩ := a
  exact ⟨n, hrn_mono he h n x hb a⟩
/-- these steps, from a beginning with no sum, come to their end with this flag -/
def Blk (F : Nat → Int32) (b e : Nat) (mn : (Nat → Int32) → Bool) : Prop := ∀ v fl il lf, ∃ il' lf', hr F v e (b, fl, il, lf, 0) (e, mn v, il', lf', 0)
theorem Blk_congr {F G : Nat → Int32} {b e : Nat} {mn : (Nat → Int32) → Bool} (B : Blk F b e mn) (h : ∀ i, b ≤ i → i < e → G i = F i) : Blk G b e mn := by
  intro v fl il lf
  obtain ⟨il', lf', r⟩ := B v fl il lf
  exact ⟨il', lf', hr_mono r (Nat.le_refl _) (Nat.le_refl _) h⟩
/-! the class runs them -/
theorem h_step {N : sy_M} {v : Nat → Int32} {line e kd nm k : Nat} (hl : line < 12) (h33 : N 33 line = Int32.ofNat e) (he : e ≤ 512) (hv0 : ∀ j, j < 9 → N 52 j = v j) (x : HS) (h1 : x.1 < e) (h2 : N 34 x.1 = Int32.ofNat (kd + 16 * nm)) (h3 : kd ≤ 8) (h4 : nm ≤ 1000) : jfX4_holds_31 (k + 1) 29 (Int32.ofNat line) (bz x.2.1) (bz x.2.2.1) x.2.2.2.1 x.2.2.2.2 (Int32.ofNat x.1) N = jfX4_holds_31 k 29 (Int32.ofNat line) (bz (hk v kd nm x).2.1) (bz (hk v kd nm x).2.2.1) (hk v kd nm x).2.2.2.1 (hk v kd nm x).2.2.2.2 (Int32.ofNat (hk v kd nm x).1) N := by
  obtain ⟨a, fl, il, lf, sm⟩ := x
  simp only at h1 h2
  have l33 : sy_len N 33 = 12 := by rw [sy_len_li (by decide)]; rfl
  have l34 : sy_len N 34 = 512 := by rw [sy_len_li (by decide)]; rfl
  have is4 : sy_is 4 29 = true := rfl
  have n1 : (kd + 16 * nm) % 16 = kd := by omega
  have n2 : (kd + 16 * nm) / 16 = nm := by omega
  have an : N 34 a &&& 15 = Int32.ofNat kd := by rw [h2, zand15 (by omega), n1]
  have sr : N 34 a >>> (4 &&& 31) = Int32.ofNat nm := by rw [h2, zshr4 (by omega), n2]
  have e0 : jfX4_holds_31 (k + 1) 29 (Int32.ofNat line) (bz fl) (bz il) lf sm (Int32.ofNat a) N = jfX4_holds_93 (jfX4_holds_31 k) 29 (Int32.ofNat line) (bz fl) (bz il) lf sm (Int32.ofNat a) (Int32.ofNat nm) (if nm < 9 then v nm else 0) N := by
    show jgX4_holds_31 (jfX4_holds_31 k) 29 (Int32.ofNat line) (bz fl) (bz il) lf sm (Int32.ofNat a) N = _
    unfold jgX4_holds_31
    rw [if_neg (show ¬ Int32.ofNat a < 0 from znn a (by omega)), is4, sy_bs_t, show 29 + 4 = 33 from rfl, show 29 + 5 = 34 from rfl, l33, l34, zin hl (by decide), sy_bx_t, zix (by omega), h33, if_pos ((zlt (by omega) (by omega)).mpr h1), if_pos (show Int32.ofNat a < 512 from (zlt (b := 512) (by omega) (by decide)).mpr (by omega)), sy_bs_t, zin (show a < 512 by omega) (by decide), sy_bx_t, zix (by omega)]
    simp only [sr]
    rw [if_neg (show ¬ Int32.ofNat nm < 0 from znn nm (by omega))]
    by_cases h9 : nm < 9
    · rw [if_pos (show Int32.ofNat nm < 9 from (zlt (b := 9) (by omega) (by decide)).mpr h9), if_pos (show Int32.ofNat nm < Nat.toInt32 9 from (zlt (b := 9) (by omega) (by decide)).mpr h9), zin h9 (by decide), sy_bx_t, zix (by omega), hv0 nm h9, if_pos h9]
    · rw [if_neg (show ¬ Int32.ofNat nm < 9 from fun z => h9 ((zlt (b := 9) (by omega) (by decide)).mp z)), if_neg h9]
      rfl
  rw [e0]
  generalize hw : (if nm < 9 then v nm else 0) = w
  have e1 : jfX4_holds_93 (jfX4_holds_31 k) 29 (Int32.ofNat line) (bz fl) (bz il) lf sm (Int32.ofNat a) (Int32.ofNat nm) w N = (if Int32.ofNat kd = 0 then jfX4_holds_156 (jfX4_holds_31 k) 29 (Int32.ofNat line) (bz fl) (bz il) lf sm (Int32.ofNat a) (Int32.ofNat nm) N else if Int32.ofNat kd = 1 then jfX4_holds_166 (jfX4_holds_31 k) 29 (Int32.ofNat line) (bz fl) (bz il) lf sm (Int32.ofNat a) w N else if Int32.ofNat kd = 2 then jfX4_holds_176 (jfX4_holds_31 k) 29 (Int32.ofNat line) (bz fl) sm (Int32.ofNat a) N else if Int32.ofNat kd = 3 then jfX4_holds_176 (jfX4_holds_31 k) 29 (Int32.ofNat line) (bz fl) sm (Int32.ofNat a) N else if Int32.ofNat kd = 4 then jfX4_holds_207 (jfX4_holds_31 k) 29 (Int32.ofNat line) (bz il) lf sm (Int32.ofNat a) N else if Int32.ofNat kd = 5 then jfX4_holds_246 (jfX4_holds_31 k) 29 (Int32.ofNat line) (bz il) lf sm (Int32.ofNat a) w N else if Int32.ofNat kd = 6 then jfX4_holds_260 (jfX4_holds_31 k) 29 (Int32.ofNat line) (bz fl) (bz il) lf sm (Int32.ofNat a) N else if Int32.ofNat kd = 7 then jfX4_holds_273 (jfX4_holds_31 k) 29 (Int32.ofNat line) (bz fl) (bz il) lf sm (Int32.ofNat a) (Int32.ofNat nm) N else if Int32.ofNat kd = 8 then jfX4_holds_298 (jfX4_holds_31 k) 29 (Int32.ofNat line) (bz fl) (bz il) lf sm (Int32.ofNat a) (Int32.ofNat nm) N else jfX4_holds_323 (jfX4_holds_31 k) 29 (Int32.ofNat line) (bz fl) (bz il) lf sm (Int32.ofNat a) N) := by
    unfold jfX4_holds_93
    rw [is4, sy_bs_t, show 29 + 5 = 34 from rfl, l34, zin (show a < 512 by omega) (by decide), sy_bx_t, zix (by omega), an]
  rw [e1]
  have s1 : Int32.ofNat a + 1 = Int32.ofNat (a + 1) := zadd a 1
  have b01 : bz false = 0 := rfl
  have b11 : bz true = 1 := rfl
  have h176 : jfX4_holds_176 (jfX4_holds_31 k) 29 (Int32.ofNat line) (bz fl) sm (Int32.ofNat a) N = jfX4_holds_199 (jfX4_holds_31 k) 29 (Int32.ofNat line) (bz fl) sm (Int32.ofNat a) (bz (decide (Int32.ofNat kd = 2))) N := by
    unfold jfX4_holds_176
    rw [is4, sy_bs_t, show 29 + 5 = 34 from rfl, l34, zin (show a < 512 by omega) (by decide), sy_bx_t, zix (by omega), an]
    by_cases h : Int32.ofNat kd = 2
    · rw [if_pos h, decide_eq_true h]; rfl
    · rw [if_neg h, decide_eq_false h]; rfl
  rw [h176]
  rcases (show kd = 0 ∨ kd = 1 ∨ kd = 2 ∨ kd = 3 ∨ kd = 4 ∨ kd = 5 ∨ kd = 6 ∨ kd = 7 ∨ kd = 8 by omega) with e | e | e | e | e | e | e | e | e <;> subst e <;> simp (config := { decide := true }) only [if_true, if_false]
  · unfold jfX4_holds_156 jfX4_holds_323
    simp only [s1]
    rfl
  · unfold jfX4_holds_166 jfX4_holds_323
    simp only [s1]
    show _ = jfX4_holds_31 k 29 (Int32.ofNat line) (bz fl) (bz il) lf (sm + (if nm < 9 then v nm else 0)) (Int32.ofNat (a + 1)) N
    rw [hw]
  · unfold jfX4_holds_199 jfX4_holds_323
    simp only [s1]
    rfl
  · unfold jfX4_holds_199 jfX4_holds_323
    simp only [s1]
    rfl
  · unfold jfX4_holds_207 jfX4_holds_239 jfX4_holds_323
    simp only [s1]
    cases il
    · rw [if_pos b01]
      show _ = jfX4_holds_31 k 29 (Int32.ofNat line) (bz (decide (sm < lf))) (bz false) lf 0 (Int32.ofNat (a + 1)) N
      by_cases h : sm < lf
      · rw [if_pos h, decide_eq_true h]; rfl
      · rw [if_neg h, decide_eq_false h]; rfl
    · rw [if_neg (show ¬ bz true = 0 by decide)]
      show _ = jfX4_holds_31 k 29 (Int32.ofNat line) (bz (decide (lf < sm))) (bz true) lf 0 (Int32.ofNat (a + 1)) N
      by_cases h : lf < sm
      · rw [if_pos h, decide_eq_true h]; rfl
      · rw [if_neg h, decide_eq_false h]; rfl
  · unfold jfX4_holds_246 jfX4_holds_256 jfX4_holds_323
    simp only [s1]
    show _ = jfX4_holds_31 k 29 (Int32.ofNat line) (bz (!decide ((if nm < 9 then v nm else 0) = 0))) (bz il) lf sm (Int32.ofNat (a + 1)) N
    rw [hw]
    by_cases h : w = 0
    · rw [if_pos h, decide_eq_true h]; rfl
    · rw [if_neg h, decide_eq_false h]; rfl
  · unfold jfX4_holds_260 jfX4_holds_269 jfX4_holds_323
    simp only [s1]
    cases fl
    · rfl
    · rfl
  · unfold jfX4_holds_273 jfX4_holds_291 jfX4_holds_293 jfX4_holds_323
    simp only [s1]
    cases fl
    · rfl
    · rw [if_neg (show ¬ bz true = 0 by decide)]
      show _ = jfX4_holds_31 k 29 (Int32.ofNat line) (bz true) (bz il) lf sm (Int32.ofNat (bif true && decide (a < nm) then nm else a + 1)) N
      by_cases h : a < nm
      · rw [if_pos ((zlt (by omega) (by omega)).mpr h), decide_eq_true h, show Int32.ofNat nm - 1 + 1 = Int32.ofNat nm from by rw [show (1 : Int32) = (Int32.ofNat 1) from rfl, zsub (by omega), zadd]; congr 1; omega]
        rfl
      · rw [if_neg (fun z => h ((zlt (by omega) (by omega)).mp z)), decide_eq_false h]
        rfl
  · unfold jfX4_holds_298 jfX4_holds_316 jfX4_holds_318 jfX4_holds_323
    simp only [s1]
    cases fl
    · rw [if_pos b01]
      show _ = jfX4_holds_31 k 29 (Int32.ofNat line) (bz false) (bz il) lf sm (Int32.ofNat (bif true && decide (a < nm) then nm else a + 1)) N
      by_cases h : a < nm
      · rw [if_pos ((zlt (by omega) (by omega)).mpr h), decide_eq_true h, show Int32.ofNat nm - 1 + 1 = Int32.ofNat nm from by rw [show (1 : Int32) = (Int32.ofNat 1) from rfl, zsub (by omega), zadd]; congr 1; omega]
        rfl
      · rw [if_neg (fun z => h ((zlt (by omega) (by omega)).mp z)), decide_eq_false h]
        rfl
    · rfl
theorem h_run {N : sy_M} {v : Nat → Int32} {line e : Nat} {y : HS} (hl : line < 12) (h33 : N 33 line = Int32.ofNat e) (he : e ≤ 512) (hv0 : ∀ j, j < 9 → N 52 j = v j) (hy : y.1 ≤ e) : ∀ (n : Nat) (x : HS), hrn (N 34) v e n x y → ∀ k, e - x.1 < k → ∃ k', e - y.1 < k' ∧ jfX4_holds_31 k 29 (Int32.ofNat line) (bz x.2.1) (bz x.2.2.1) x.2.2.2.1 x.2.2.2.2 (Int32.ofNat x.1) N = jfX4_holds_31 k' 29 (Int32.ofNat line) (bz y.2.1) (bz y.2.2.1) y.2.2.2.1 y.2.2.2.2 (Int32.ofNat y.1) N
  | 0, x, h, k, hk1 => by
    have h : x = y := h
    rw [← h]
    exact ⟨k, hk1, rfl⟩
  | n + 1, x, ⟨kd, nm, h1, h2, h3, h4, h5⟩, k, hk1 => by
    have up := hk_up v (nm := nm) h3 x
    have up2 := hrn_up n _ h5
    obtain ⟨k0, rfl⟩ : ∃ k0, k = k0 + 1 := ⟨k - 1, by omega⟩
    obtain ⟨k', a1, a2⟩ := h_run hl h33 he hv0 hy n _ h5 k0 (by omega)
    exact ⟨k', a1, (h_step (v := v) hl h33 he hv0 x h1 h2 h3 h4).trans a2⟩
theorem c_holds {N : sy_M} {v : Nat → Int32} {line b e : Nat} {mn : Bool} {il : Bool} {lf : Int32} (hl : line < 12) (h32 : N 32 line = Int32.ofNat b) (h33 : N 33 line = Int32.ofNat e) (hb : b ≤ e) (he : e ≤ 512) (hv0 : ∀ j, j < 9 → N 52 j = v j) (r : hr (N 34) v e (b, true, true, 0, 0) (e, mn, il, lf, 0)) : jfX4_holds 29 (Int32.ofNat line) N = sy_ri (bz mn) N := by
  obtain ⟨n, r⟩ := r
  obtain ⟨k, a1, a2⟩ := h_run hl h33 he hv0 (Nat.le_refl _) n _ r sy_F (by rw [sy_F_eq]; simp only; omega)
  simp only at a1 a2
  unfold jfX4_holds
  rw [if_neg (show ¬ Int32.ofNat line < 0 from znn line (by omega)), if_pos (show Int32.ofNat line < 12 from (zlt (b := 12) (by omega) (by decide)).mpr hl), show sy_is 4 29 = true from rfl, sy_bs_t, show 29 + 3 = 32 from rfl, sy_len_li (by decide), show sy_li 32 = 12 from rfl, zin hl (by decide), sy_bx_t, zix (by omega)]
  simp only [h32]
  refine Eq.trans a2 ?_
  obtain ⟨k0, rfl⟩ : ∃ k0, k = k0 + 1 := ⟨k - 1, by omega⟩
  show jgX4_holds_31 (jfX4_holds_31 k0) 29 (Int32.ofNat line) (bz mn) (bz il) lf 0 (Int32.ofNat e) N = _
  unfold jgX4_holds_31
  rw [if_neg (show ¬ Int32.ofNat e < 0 from znn e (by omega)), show sy_is 4 29 = true from rfl, sy_bs_t, show 29 + 4 = 33 from rfl, sy_len_li (by decide), show sy_li 33 = 12 from rfl, zin hl (by decide), sy_bx_t, zix (by omega), h33, if_neg (fun z => by rw [zlt (by omega) (by omega)] at z; omega), bz_bo, sy_bb_t]
