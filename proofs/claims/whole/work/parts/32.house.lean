/-! ===== a house of the class as a row ===== -/
theorem h_tab : ∀ i : Fin 133, sy_is 2 i.1 = true → (i.1 = 9 ∨ i.1 = 14 ∨ i.1 = 19 ∨ i.1 = 24 ∨ (59 ≤ i.1 ∧ i.1 ≤ 114 ∧ i.1 % 5 = 4)) ∧ sy_li (i.1 + 1) = 63 ∧ sy_li (i.1 + 2) = 49 ∧ sy_is 6 (i.1 + 3) = true ∧ sy_ia (i.1 + 1) = true ∧ sy_ia (i.1 + 2) = true ∧ sy_ia (i.1 + 4) = true ∧ sy_li (i.1 + 4) = (if i.1 = 19 then 0 else 300) := by decide +kernel
theorem h_is {h : Nat} (hh : sy_is 2 h = true) : (h = 9 ∨ h = 14 ∨ h = 19 ∨ h = 24 ∨ (59 ≤ h ∧ h ≤ 114 ∧ h % 5 = 4)) ∧ sy_li (h + 1) = 63 ∧ sy_li (h + 2) = 49 ∧ sy_is 6 (h + 3) = true ∧ sy_ia (h + 1) = true ∧ sy_ia (h + 2) = true ∧ sy_ia (h + 4) = true ∧ sy_li (h + 4) = (if h = 19 then 0 else 300) := by
  obtain ⟨r, hr, _⟩ := sy_is_row hh
  exact h_tab ⟨h, sy_row_lt hr⟩ hh
theorem h_lt {h : Nat} (hh : sy_is 2 h = true) : h = 9 ∨ h = 14 ∨ h = 19 ∨ h = 24 ∨ (59 ≤ h ∧ h ≤ 114 ∧ h % 5 = 4) := (h_is hh).1
theorem h_63 {h : Nat} (hh : sy_is 2 h = true) : sy_li (h + 1) = 63 := (h_is hh).2.1
theorem h_49 {h : Nat} (hh : sy_is 2 h = true) : sy_li (h + 2) = 49 := (h_is hh).2.2.1
theorem h_6 {h : Nat} (hh : sy_is 2 h = true) : sy_is 6 (h + 3) = true := (h_is hh).2.2.2.1
theorem h_a1 {h : Nat} (hh : sy_is 2 h = true) : sy_ia (h + 1) = true := (h_is hh).2.2.2.2.1
theorem h_a2 {h : Nat} (hh : sy_is 2 h = true) : sy_ia (h + 2) = true := (h_is hh).2.2.2.2.2.1
theorem h_a4 {h : Nat} (hh : sy_is 2 h = true) : sy_ia (h + 4) = true := (h_is hh).2.2.2.2.2.2.1
theorem h_300 {h : Nat} (hh : sy_is 2 h = true) : sy_li (h + 4) = (if h = 19 then 0 else 300) := (h_is hh).2.2.2.2.2.2.2
theorem h_31 (h : Nat) : h + 3 + 1 = h + 4 := rfl
theorem sy_len_li {M : sy_M} {a : Nat} (h : a < 1000) : sy_len M a = sy_li a := by
  unfold sy_len
  have : Nat.beq a 1000000 = false := by
    cases hb : Nat.beq a 1000000 with
    | false => rfl
    | true => have := Nat.eq_of_beq_eq_true hb; omega
  rw [this]
  rfl
/-- a house as a row, but for its log -/
def hv (M : sy_M) (h : Nat) (f : Nat → Int32) : Prop := sy_is 2 h = true ∧ (∀ i, i < 63 → M (h + 1) i = f (14 + i)) ∧ (∀ i, i < 49 → M (h + 2) i = f (77 + i)) ∧ M h 3 = f 3 ∧ M h 4 = f 0 ∧ (∀ i, 4 ≤ i → i ≤ 11 → M h (i + 1) = f i) ∧ M h 13 = f 13
/-- its log -/
def lv (M : sy_M) (h : Nat) (f : Nat → Int32) : Prop := (h = 19 ∧ M (h + 3) 0 = (Int32.ofNat 0) ∧ M (h + 3) 3 = (Int32.ofNat 0)) ∨ (h ≠ 19 ∧ M (h + 3) 0 = (Int32.ofNat 60) ∧ ∃ r nx : Nat, r ≤ 60 ∧ nx < 60 ∧ f 12 = Int32.ofNat r ∧ M (h + 3) 2 = Int32.ofNat r ∧ M (h + 3) 3 = Int32.ofNat nx ∧ ∀ a w, a < r → w < 5 → M (h + 4) (5 * ((nx + 59 - a) % 60) + w) = f (126 + 5 * a + w))
def hw (M : sy_M) (h : Nat) (f : Nat → Int32) : Prop := hv M h f ∧ lv M h f
/-- only the house's cells were written -/
def fh (h : Nat) (M M1 : sy_M) : Prop := ∀ a, a < h ∨ h + 4 < a → M1 a = M a
theorem fh.trans {h : Nat} {M M1 M2 : sy_M} (a : fh h M M1) (b : fh h M1 M2) : fh h M M2 := fun c hc => (b c hc).trans (a c hc)
theorem fh_rfl {h : Nat} {M : sy_M} : fh h M M := fun _ _ => rfl
theorem fh_syc {h a : Nat} {M : sy_M} {g : Nat → Int32} (ha : h ≤ a) (hb : a ≤ h + 4) : fh h M (syc M a g) := fun c hc => syc_ne _ _ (by omega)
theorem hv_congr {M M1 : sy_M} {h : Nat} {f : Nat → Int32} (H : hv M h f) (e0 : M1 h = M h) (e1 : M1 (h + 1) = M (h + 1)) (e2 : M1 (h + 2) = M (h + 2)) : hv M1 h f := by
  obtain ⟨a, b, c, d⟩ := H
  refine ⟨a, ?_, ?_, ?_⟩
  · rw [e1]; exact b
  · rw [e2]; exact c
  · rw [e0]; exact d
theorem lv_congr {M M1 : sy_M} {h : Nat} {f : Nat → Int32} (H : lv M h f) (e3 : M1 (h + 3) = M (h + 3)) (e4 : M1 (h + 4) = M (h + 4)) : lv M1 h f := by
  unfold lv
  rw [e3, e4]
  exact H
theorem hw_congr {M M1 : sy_M} {h : Nat} {f : Nat → Int32} (H : hw M h f) (e : ∀ a, h ≤ a → a ≤ h + 4 → M1 a = M a) : hw M1 h f :=
  ⟨hv_congr H.1 (e _ (by omega) (by omega)) (e _ (by omega) (by omega)) (e _ (by omega) (by omega)), lv_congr H.2 (e _ (by omega) (by omega)) (e _ (by omega) (by omega))⟩
/-- another row with the same log -/
theorem lv_row {M : sy_M} {h : Nat} {f g : Nat → Int32} (H : lv M h f) (e : ∀ i, i = 12 ∨ 126 ≤ i → g i = f i) : lv M h g := by
  rcases H with H | ⟨a, b, r, nx, h1, h2, h3, h4, h5, h6⟩
  · exact Or.inl H
  · refine Or.inr ⟨a, b, r, nx, h1, h2, (e 12 (Or.inl rfl)).trans h3, h4, h5, ?_⟩
    intro x w hx hw
    rw [h6 x w hx hw, e _ (Or.inr (by omega))]
theorem hv_row {M : sy_M} {h : Nat} {f g : Nat → Int32} (H : hv M h f) (e : ∀ i, i < 126 → i ≠ 12 → g i = f i) : hv M h g := by
  obtain ⟨a, b, c, d1, d2, d3, d4⟩ := H
  refine ⟨a, ?_, ?_, ?_, ?_, ?_, ?_⟩
  · intro i hi
    rw [b i hi, e _ (by omega) (by omega)]
  · intro i hi
    rw [c i hi, e _ (by omega) (by omega)]
  · rw [d1, e _ (by omega) (by omega)]
  · rw [d2, e _ (by omega) (by omega)]
  · intro i h1 h2
    rw [d3 i h1 h2, e _ (by omega) (by omega)]
  · rw [d4, e _ (by omega) (by omega)]
theorem hw_set {M : sy_M} {h : Nat} {f : Nat → Int32} (H : hw M h f) {j : Nat} (hj : j < 63) (v : Int32) : hw (syc M (h + 1) (rs (M (h + 1)) j v)) h (rs f (14 + j) v) := by
  obtain ⟨⟨a, b, c, d1, d2, d3, d4⟩, L⟩ := H
  refine ⟨⟨a, ?_, ?_, ?_, ?_, ?_, ?_⟩, ?_⟩
  · intro i hi
    rw [syc_at]
    unfold rs
    by_cases e : i = j
    · rw [if_pos e, if_pos (by omega)]
    · rw [if_neg e, if_neg (by omega)]
      exact b i hi
  · intro i hi
    rw [syc_ne _ _ (by omega), rs_ne _ _ (by omega)]
    exact c i hi
  · rw [syc_ne _ _ (by omega), rs_ne _ _ (by omega)]
    exact d1
  · rw [syc_ne _ _ (by omega), rs_ne _ _ (by omega)]
    exact d2
  · intro i h1 h2
    rw [syc_ne _ _ (by omega), rs_ne _ _ (by omega)]
    exact d3 i h1 h2
  · rw [syc_ne _ _ (by omega), rs_ne _ _ (by omega)]
    exact d4
  · exact lv_row (lv_congr L (syc_ne _ _ (by omega)) (syc_ne _ _ (by omega))) (fun i hi => rs_ne _ _ (by omega))
theorem hw_debt {M : sy_M} {h : Nat} {f : Nat → Int32} (H : hw M h f) {j : Nat} (hj : j < 49) (v : Int32) : hw (syc M (h + 2) (rs (M (h + 2)) j v)) h (rs f (77 + j) v) := by
  obtain ⟨⟨a, b, c, d1, d2, d3, d4⟩, L⟩ := H
  refine ⟨⟨a, ?_, ?_, ?_, ?_, ?_, ?_⟩, ?_⟩
  · intro i hi
    rw [syc_ne _ _ (by omega), rs_ne _ _ (by omega)]
    exact b i hi
  · intro i hi
    rw [syc_at]
    unfold rs
    by_cases e : i = j
    · rw [if_pos e, if_pos (by omega)]
    · rw [if_neg e, if_neg (by omega)]
      exact c i hi
  · rw [syc_ne _ _ (by omega), rs_ne _ _ (by omega)]
    exact d1
  · rw [syc_ne _ _ (by omega), rs_ne _ _ (by omega)]
    exact d2
  · intro i h1 h2
    rw [syc_ne _ _ (by omega), rs_ne _ _ (by omega)]
    exact d3 i h1 h2
  · rw [syc_ne _ _ (by omega), rs_ne _ _ (by omega)]
    exact d4
  · exact lv_row (lv_congr L (syc_ne _ _ (by omega)) (syc_ne _ _ (by omega))) (fun i hi => rs_ne _ _ (by omega))
/-- which place of the row a field is -/
def hf (j i : Nat) : Prop := (j = i + 1 ∧ 4 ≤ i ∧ i ≤ 11) ∨ (j = 3 ∧ i = 3) ∨ (j = 4 ∧ i = 0) ∨ (j = 13 ∧ i = 13)
theorem hw_fld {M : sy_M} {h : Nat} {f : Nat → Int32} (H : hw M h f) {j i : Nat} (hj : hf j i) (v : Int32) : hw (syc M h (rs (M h) j v)) h (rs f i v) := by
  obtain ⟨⟨a, b, c, d1, d2, d3, d4⟩, L⟩ := H
  unfold hf at hj
  refine ⟨⟨a, ?_, ?_, ?_, ?_, ?_, ?_⟩, ?_⟩
  · intro k hk
    rw [syc_ne _ _ (by omega), rs_ne _ _ (by omega)]
    exact b k hk
  · intro k hk
    rw [syc_ne _ _ (by omega), rs_ne _ _ (by omega)]
    exact c k hk
  · rw [syc_at]
    unfold rs
    by_cases e : i = 3
    · rw [if_pos (by omega), if_pos (by omega)]
    · rw [if_neg (by omega), if_neg (by omega)]
      exact d1
  · rw [syc_at]
    unfold rs
    by_cases e : i = 0
    · rw [if_pos (by omega), if_pos (by omega)]
    · rw [if_neg (by omega), if_neg (by omega)]
      exact d2
  · intro k h1 h2
    rw [syc_at]
    unfold rs
    by_cases e : i = k
    · rw [if_pos (by omega), if_pos (by omega)]
    · rw [if_neg (by omega), if_neg (by omega)]
      exact d3 k h1 h2
  · rw [syc_at]
    unfold rs
    by_cases e : i = 13
    · rw [if_pos (by omega), if_pos (by omega)]
    · rw [if_neg (by omega), if_neg (by omega)]
      exact d4
  · exact lv_row (lv_congr L (syc_ne _ _ (by omega)) (syc_ne _ _ (by omega))) (fun k hk => rs_ne _ _ (by omega))
theorem hv_fact {M : sy_M} {h : Nat} {f : Nat → Int32} (H : hv M h f) {p w : Nat} (hp : p < 7) (hw : w < 9) : M (h + 1) (9 * p + w) = f (14 + 9 * p + w) := by
  rw [H.2.1 (9 * p + w) (by omega), show 14 + (9 * p + w) = 14 + 9 * p + w by omega]
theorem hv_owed {M : sy_M} {h : Nat} {f : Nat → Int32} (H : hv M h f) {p o : Nat} (hp : p < 7) (ho : o < 7) : M (h + 2) (7 * p + o) = f (77 + 7 * p + o) := by
  rw [H.2.2.1 (7 * p + o) (by omega), show 77 + (7 * p + o) = 77 + 7 * p + o by omega]
theorem hv_3 {M : sy_M} {h : Nat} {f : Nat → Int32} (H : hv M h f) : M h 3 = f 3 := H.2.2.2.1
theorem hv_4 {M : sy_M} {h : Nat} {f : Nat → Int32} (H : hv M h f) : M h 4 = f 0 := H.2.2.2.2.1
theorem hv_5 {M : sy_M} {h : Nat} {f : Nat → Int32} (H : hv M h f) : M h 5 = f 4 := H.2.2.2.2.2.1 4 (by omega) (by omega)
theorem hv_6 {M : sy_M} {h : Nat} {f : Nat → Int32} (H : hv M h f) : M h 6 = f 5 := H.2.2.2.2.2.1 5 (by omega) (by omega)
theorem hv_7 {M : sy_M} {h : Nat} {f : Nat → Int32} (H : hv M h f) : M h 7 = f 6 := H.2.2.2.2.2.1 6 (by omega) (by omega)
theorem hv_8 {M : sy_M} {h : Nat} {f : Nat → Int32} (H : hv M h f) : M h 8 = f 7 := H.2.2.2.2.2.1 7 (by omega) (by omega)
theorem hv_9 {M : sy_M} {h : Nat} {f : Nat → Int32} (H : hv M h f) : M h 9 = f 8 := H.2.2.2.2.2.1 8 (by omega) (by omega)
theorem hv_10 {M : sy_M} {h : Nat} {f : Nat → Int32} (H : hv M h f) : M h 10 = f 9 := H.2.2.2.2.2.1 9 (by omega) (by omega)
theorem hv_11 {M : sy_M} {h : Nat} {f : Nat → Int32} (H : hv M h f) : M h 11 = f 10 := H.2.2.2.2.2.1 10 (by omega) (by omega)
theorem hv_12 {M : sy_M} {h : Nat} {f : Nat → Int32} (H : hv M h f) : M h 12 = f 11 := H.2.2.2.2.2.1 11 (by omega) (by omega)
theorem hv_13 {M : sy_M} {h : Nat} {f : Nat → Int32} (H : hv M h f) : M h 13 = f 13 := H.2.2.2.2.2.2
theorem znn (p : Nat) (h : p < 2147483648) : ¬ (Int32.ofNat p < (Int32.ofNat 0)) := by
  rw [zlt h (by decide)]; omega
theorem zmulc (p q : Nat) : Int32.ofNat p * Int32.ofNat q = Int32.ofNat (q * p) := by rw [zmul, Nat.mul_comm]
theorem c_get {M : sy_M} {h : Nat} {f : Nat → Int32} (H : hv M h f) {p w : Nat} (hp : p < 7) (hw : w < 9) : jfX2_get h (Int32.ofNat p) (Int32.ofNat w) M = sy_ri (f (14 + 9 * p + w)) M := by
  have hl := h_lt H.1
  simp (disch := omega) only [jfX2_get, jfX2_get_25, zL, zmulc, zadd, zlt, zeq, if_pos, if_neg, H.1, sy_bs_t, sy_len_li, h_63 H.1, zin, sy_bx_t, zix, hv_fact H]
theorem c_set {M : sy_M} {h : Nat} (hh : sy_is 2 h = true) {p w : Nat} {v : Int32} (hp : p < 7) (hw : w < 9) : jfX2_set h (Int32.ofNat p) (Int32.ofNat w) v M = sy_rv (syc M (h + 1) (rs (M (h + 1)) (9 * p + w) v)) := by
  have hl := h_lt hh
  simp (disch := omega) only [jfX2_set, zL, zmulc, zadd, zlt, zeq, if_pos, if_neg, hh, sy_bs_t, sy_len_li, h_63 hh, zin, sy_bx_t, zix, sy_upd_st]
theorem c_setw {M : sy_M} {h : Nat} {f : Nat → Int32} (H : hw M h f) {p w : Nat} (v : Int32) (hp : p < 7) (hq : w < 9) : ∃ M1, jfX2_set h (Int32.ofNat p) (Int32.ofNat w) v M = sy_rv M1 ∧ hw M1 h (rs f (14 + 9 * p + w) v) ∧ fh h M M1 := by
  refine ⟨_, c_set H.1.1 hp hq, ?_, fh_syc (by omega) (by omega)⟩
  have := hw_set H (j := 9 * p + w) (by omega) v
  rwa [show 14 + (9 * p + w) = 14 + 9 * p + w by omega] at this
theorem c_isDebt {M : sy_M} {p o : Nat} (hp : p < 7) (ho : o < 7) : jfX2_isDebt (Int32.ofNat p) (Int32.ofNat o) M = sy_ri (Int32.ofNat 1) M := by
  simp (disch := omega) only [zL, zlt, zle, zeq, zadd, zmul, zin, zix, zsh1, Nat.add_zero, Nat.zero_add, Nat.mul_zero, if_true, if_false, if_pos, if_neg, sy_bi_ri, sy_bi_rt, sy_bv_rv, sy_bv_rt, sy_br_rr, sy_br_rn, sy_hi_ri, sy_hi_rt, sy_bs_t, sy_bx_t, sy_bb_t, bz_bo, ite_bz0, ite_bz1, jfX2_isDebt]
theorem c_owed {M : sy_M} {h : Nat} {f : Nat → Int32} (H : hv M h f) {p o : Nat} (hp : p < 7) (ho : o < 7) : jfX2_owed h (Int32.ofNat p) (Int32.ofNat o) M = sy_ri (f (77 + 7 * p + o)) M := by
  have hl := h_lt H.1
  simp (disch := omega) only [jfX2_owed, c_isDebt, sy_bi_ri, zL, zmulc, zadd, zlt, zeq, if_pos, if_neg, H.1, sy_bs_t, sy_bb_t, sy_len_li, h_49 H.1, zin, sy_bx_t, zix, hv_owed H]
theorem c_setOwed {M : sy_M} {h : Nat} {f : Nat → Int32} (H : hw M h f) {p o : Nat} (v : Int32) (hp : p < 7) (ho : o < 7) : ∃ M1, jfX2_setOwed h (Int32.ofNat p) (Int32.ofNat o) v M = sy_rv M1 ∧ hw M1 h (rs f (77 + 7 * p + o) v) ∧ fh h M M1 := by
  have hl := h_lt H.1.1
  refine ⟨syc M (h + 2) (rs (M (h + 2)) (7 * p + o) v), ?_, ?_, fh_syc (by omega) (by omega)⟩
  · simp (disch := omega) only [jfX2_setOwed, c_isDebt, sy_bi_ri, zL, zmulc, zadd, zlt, zeq, if_pos, if_neg, H.1.1, sy_bs_t, sy_bb_t, sy_len_li, h_49 H.1.1, zin, sy_bx_t, zix, sy_upd_st]
  · have := hw_debt H (j := 7 * p + o) (by omega) v
    rwa [show 77 + (7 * p + o) = 77 + 7 * p + o by omega] at this
