/-! ===== the machine over numbers, held against our small machine: the heap that its numbers stand for ===== -/
def sy_lkr : List (Nat × Nat) → Nat → Option Nat
  | [], _ => none
  | r :: l, j => bif Nat.beq r.1 j then some r.2 else sy_lkr l j
def sy_val (r : Nat × Nat × List (Nat × Nat)) (M : sy_M) (a j : Nat) : Value := bif Nat.beq r.1 1001 then .long (sy_rl M a j) else match sy_lkr r.2.2 j with
  | some x => .ref x
  | none => bif Nat.beq r.1 1004 || (Nat.blt r.1 1000 && Nat.ble r.2.1 j) then .null else .int (M a j)
/-- the heap -/
def sy_hp (M : sy_M) (a : Nat) : Option xe_O := match sy_row a with
  | some r => some (r.1, r.2.1, sy_val r M a)
  | none => if a = 1000000 then some (1500, (M 134 0).toNatClampNeg, fun j => .int (M 1000000 j)) else xs_SPof zbyt a
def sy_enc (M : sy_M) : xe_H := (133 + (M 133 0).toNatClampNeg, 18264 + 6 * (M 133 0).toNatClampNeg, sy_hp M)
theorem sy_rowa_lt : ∀ (l : List (Nat × Nat × List (Nat × Nat))) (a : Nat) (r : Nat × Nat × List (Nat × Nat)), sy_rowa l a = some r → a < l.length ∧ l[a]? = some r
  | [], a, r, h => by cases h
  | x :: l, a, r, h => by
    unfold sy_rowa at h
    cases a with
    | zero => exact ⟨by simp, by simpa using h⟩
    | succ b =>
      have h : sy_rowa l b = some r := h
      have := sy_rowa_lt l b r h
      exact ⟨by simp; omega, by simpa using this.2⟩
theorem zSH_len : zSH.length = 133 := by decide +kernel
theorem sy_rowt_eq : ∀ i : Fin 133, sy_rowt i.1 = sy_rowa zSH i.1 := by decide +kernel
theorem sy_row_eq {a : Nat} {r : Nat × Nat × List (Nat × Nat)} (h : sy_row a = some r) : sy_rowa zSH a = some r := by
  unfold sy_row at h
  cases hb : Nat.blt a 133 with
  | true =>
    rw [hb] at h
    rw [← sy_rowt_eq ⟨a, by simpa [Nat.blt_eq] using hb⟩]
    exact h
  | false => rw [hb] at h; cases h
theorem sy_row_lt {a : Nat} {r : Nat × Nat × List (Nat × Nat)} (h : sy_row a = some r) : a < 133 := by
  have := (sy_rowa_lt zSH a r (sy_row_eq h)).1
  rw [zSH_len] at this
  exact this
def sy_okRow (a : Nat) (r : Nat × Nat × List (Nat × Nat)) : Bool := bif Nat.blt r.1 1000 then Nat.beq r.2.1 (sy_cn r.1) && (List.range r.2.1).all (fun j => decide (sy_lkr r.2.2 j = (match sy_rf r.1 j with
    | none => none
    | some (true, n) => some (a + n)
    | some (false, n) => some n))) else (bif Nat.beq r.1 1004 then Nat.beq a 58 && (Nat.beq r.2.1 12 && (List.range 12).all (fun j => decide (sy_lkr r.2.2 j = some (59 + 5 * j)))) else (r.2.2.isEmpty && (Nat.beq r.1 1000 || (Nat.beq r.1 1001 || Nat.beq r.1 1002))))
def sy_okTab : Nat → List (Nat × Nat × List (Nat × Nat)) → Bool
  | _, [] => true
  | a, r :: l => sy_okRow a r && sy_okTab (a + 1) l
theorem zSH_ok : sy_okTab 0 zSH = true := by decide +kernel
theorem sy_okTab_at : ∀ (l : List (Nat × Nat × List (Nat × Nat))) (s a : Nat) (r : Nat × Nat × List (Nat × Nat)), sy_okTab s l = true → sy_rowa l a = some r → sy_okRow (s + a) r = true
  | [], _, _, _, _, h => by cases h
  | x :: l, s, a, r, ho, h => by
    unfold sy_okTab at ho
    rw [Bool.and_eq_true] at ho
    unfold sy_rowa at h
    cases a with
    | zero =>
      have h : x = r := by simpa using h
      subst h
      exact ho.1
    | succ b =>
      have h : sy_rowa l b = some r := h
      have := sy_okTab_at l (s + 1) b r ho.2 h
      rw [show s + (b + 1) = s + 1 + b by omega]
      exact this
theorem sy_row_ok {a : Nat} {r : Nat × Nat × List (Nat × Nat)} (h : sy_row a = some r) : sy_okRow a r = true := by
  have := sy_okTab_at zSH 0 a r zSH_ok (sy_row_eq h)
  rwa [Nat.zero_add] at this
theorem sy_is_row {c a : Nat} (h : sy_is c a = true) : ∃ r, sy_row a = some r ∧ r.1 = c := by
  unfold sy_is at h
  split at h
  · rename_i r hr
    exact ⟨r, hr, Nat.eq_of_beq_eq_true h⟩
  · cases h
theorem sy_ln_row {t a n : Nat} (h : n < sy_ln t a) : ∃ r, sy_row a = some r ∧ r.1 = t ∧ r.2.1 = sy_ln t a := by
  unfold sy_ln at h ⊢
  split at h
  · rename_i r hr
    cases hb : Nat.beq r.1 t with
    | true => rw [hb] at h; exact ⟨r, hr, Nat.eq_of_beq_eq_true hb, rfl⟩
    | false => rw [hb] at h; exact absurd h (Nat.not_lt_zero _)
  · exact absurd h (Nat.not_lt_zero _)
theorem sy_hp_row {a : Nat} {r : Nat × Nat × List (Nat × Nat)} (M : sy_M) (h : sy_row a = some r) : (sy_enc M).2.2 a = some (r.1, r.2.1, sy_val r M a) := by
  show sy_hp M a = _
  unfold sy_hp
  rw [h]
theorem sy_row_no {a : Nat} (h : 133 ≤ a) : sy_row a = none := by
  cases hr : sy_row a with
  | none => rfl
  | some r => have := sy_row_lt hr; omega
theorem sy_hp_script (M : sy_M) : (sy_enc M).2.2 1000000 = some (1500, (M 134 0).toNatClampNeg, fun j => .int (M 1000000 j)) := by
  show sy_hp M 1000000 = _
  unfold sy_hp
  rw [sy_row_no (by decide)]
  rfl
theorem sy_upd_at (M : sy_M) (a j : Nat) (v : Int32) : sy_upd M a j v a j = v := by simp [sy_upd]
theorem sy_upd_ne (M : sy_M) {a b : Nat} (j i : Nat) (v : Int32) (h : b ≠ a) : sy_upd M a j v b i = M b i := by simp [sy_upd, h]
theorem sy_upd_ni (M : sy_M) {a b j i : Nat} (v : Int32) (h : i ≠ j) : sy_upd M a j v b i = M b i := by
  unfold sy_upd
  rw [if_neg h]
  split <;> rfl
theorem sy_upd_row (M : sy_M) {a : Nat} (j : Nat) (v : Int32) : (fun i => sy_upd M a j v a i) = fun i => if i = j then v else M a i := by
  funext i
  simp [sy_upd]
/-- two heaps are one -/
theorem sy_enc_put {M M1 : sy_M} {a : Nat} {r : Nat × Nat × List (Nat × Nat)} {f : Nat → Value} (hr : sy_row a = some r) (hf : ∀ j, f j = sy_val r M1 a j) (hM : ∀ b, b ≠ a → M1 b = M b) : xe_put (sy_enc M) a (r.1, r.2.1, f) = sy_enc M1 := by
  have ha := sy_row_lt hr
  have h133 : M1 133 = M 133 := hM 133 (by omega)
  have h134 : M1 134 = M 134 := hM 134 (by omega)
  have hsc : M1 1000000 = M 1000000 := hM 1000000 (by omega)
  have hff : f = sy_val r M1 a := funext hf
  unfold xe_put sy_enc
  rw [h133]
  refine Prod.ext rfl (Prod.ext rfl ?_)
  funext b
  show (if b = a then some (r.1, r.2.1, f) else sy_hp M b) = sy_hp M1 b
  by_cases hb : b = a
  · rw [if_pos hb, hb, hff]
    unfold sy_hp
    rw [hr]
  · rw [if_neg hb]
    unfold sy_hp
    rw [h134, hsc]
    cases hrb : sy_row b with
    | none => rfl
    | some r2 =>
      show some (r2.1, r2.2.1, sy_val r2 M b) = some (r2.1, r2.2.1, sy_val r2 M1 b)
      have : sy_val r2 M b = sy_val r2 M1 b := by
        funext j
        unfold sy_val sy_rl
        rw [hM b hb]
      rw [this]
/-- an int is written -/
theorem sy_put_int {M : sy_M} {a j : Nat} {v : Int32} {r : Nat × Nat × List (Nat × Nat)} (hr : sy_row a = some r) (h1 : r.1 ≠ 1001) (h4 : r.1 ≠ 1004) (hl : sy_lkr r.2.2 j = none) (hj : r.1 < 1000 → j < r.2.1) : xe_put (sy_enc M) a (r.1, r.2.1, xe_upd (sy_val r M a) j (.int v)) = sy_enc (sy_upd M a j v) := by
  refine sy_enc_put hr (fun i => ?_) (fun b hb => funext fun i => sy_upd_ne M j i v hb)
  have e1 : Nat.beq r.1 1001 = false := by
    cases hb : Nat.beq r.1 1001 with
    | false => rfl
    | true => exact absurd (Nat.eq_of_beq_eq_true hb) h1
  have e4 : Nat.beq r.1 1004 = false := by
    cases hb : Nat.beq r.1 1004 with
    | false => rfl
    | true => exact absurd (Nat.eq_of_beq_eq_true hb) h4
  unfold xe_upd
  by_cases hi : i = j
  · rw [if_pos hi, hi]
    unfold sy_val
    rw [e1, hl, e4]
    have e5 : (Nat.blt r.1 1000 && Nat.ble r.2.1 j) = false := by
      cases hb : Nat.blt r.1 1000 with
      | false => rfl
      | true =>
        have := hj (by simpa [Nat.blt_eq] using hb)
        cases hc : Nat.ble r.2.1 j with
        | false => rfl
        | true => have := Nat.le_of_ble_eq_true hc; omega
    rw [e5, sy_upd_at]
    rfl
  · rw [if_neg hi]
    unfold sy_val
    rw [e1]
    simp only [cond_false]
    rw [sy_upd_ni M v hi]
/-- a long's two places -/
theorem sy_rl_wl (M : sy_M) (a j b i : Nat) (v : Int64) : sy_rl (sy_wl M a j v) b i = if b = a ∧ i = j then v else sy_rl M b i := by
  have hv1 := v.toInt_lt
  have hv2 := v.le_toInt
  by_cases hb : b = a
  · subst hb
    by_cases hi : i = j
    · subst hi
      rw [if_pos ⟨rfl, rfl⟩]
      unfold sy_rl sy_wl
      rw [sy_upd_at, sy_upd_ni _ _ (by omega), sy_upd_at]
      rw [Int32.toInt_ofInt_of_le (by omega) (by omega), Int32.toInt_ofInt]
      have e : ((v.toInt % 4294967296).bmod Int32.size) % 4294967296 = v.toInt % 4294967296 := by
        have := Int.bmod_emod (x := v.toInt % 4294967296) (m := 4294967296)
        show ((v.toInt % 4294967296).bmod 4294967296) % ((4294967296 : Nat) : Int) = _
        rw [this]
        omega
      rw [e]
      have e2 : v.toInt / 4294967296 * 4294967296 + v.toInt % 4294967296 = v.toInt := by omega
      rw [e2, Int64.ofInt_toInt]
    · rw [if_neg (by intro z; exact hi z.2)]
      unfold sy_rl sy_wl
      rw [sy_upd_ni _ _ (by omega), sy_upd_ni _ _ (by omega), sy_upd_ni _ _ (by omega), sy_upd_ni _ _ (by omega)]
  · rw [if_neg (by intro z; exact hb z.1)]
    unfold sy_rl sy_wl
    rw [sy_upd_ne _ _ _ _ hb, sy_upd_ne _ _ _ _ hb, sy_upd_ne _ _ _ _ hb, sy_upd_ne _ _ _ _ hb]
theorem sy_put_long {M : sy_M} {a j : Nat} {v : Int64} {r : Nat × Nat × List (Nat × Nat)} (hr : sy_row a = some r) (h1 : r.1 = 1001) : xe_put (sy_enc M) a (r.1, r.2.1, xe_upd (sy_val r M a) j (.long v)) = sy_enc (sy_wl M a j v) := by
  refine sy_enc_put hr (fun i => ?_) (fun b hb => funext fun i => ?_)
  · unfold xe_upd sy_val
    rw [h1]
    show (if i = j then Value.long v else Value.long (sy_rl M a i)) = Value.long (sy_rl (sy_wl M a j v) a i)
    rw [sy_rl_wl]
    by_cases hi : i = j
    · rw [if_pos hi, if_pos ⟨rfl, hi⟩]
    · rw [if_neg hi, if_neg (by intro z; exact hi z.2)]
  · unfold sy_wl
    rw [sy_upd_ne _ _ _ _ hb, sy_upd_ne _ _ _ _ hb]
theorem sy_lkr_nil (j : Nat) : sy_lkr [] j = none := rfl
/-- the row of an array of ints, longs or booleans -/
theorem sy_row_arr {a : Nat} {r : Nat × Nat × List (Nat × Nat)} (h : sy_row a = some r) (h1 : r.1 = 1000 ∨ r.1 = 1001 ∨ r.1 = 1002) : r.2.2 = [] := by
  have := sy_row_ok h
  unfold sy_okRow at this
  rcases h1 with e | e | e <;> (rw [e] at this; simpa using this)
theorem sy_row_fld {a j : Nat} {r : Nat × Nat × List (Nat × Nat)} (h : sy_row a = some r) (h1 : r.1 < 1000) (hj : j < sy_cn r.1) : r.2.1 = sy_cn r.1 ∧ sy_lkr r.2.2 j = (match sy_rf r.1 j with
    | none => none
    | some (true, n) => some (a + n)
    | some (false, n) => some n) := by
  have := sy_row_ok h
  unfold sy_okRow at this
  have e : Nat.blt r.1 1000 = true := by simpa [Nat.blt_eq] using h1
  rw [e, cond_true, Bool.and_eq_true, Nat.beq_eq, List.all_eq_true] at this
  refine ⟨this.1, ?_⟩
  have := this.2 j (by rw [List.mem_range, this.1]; exact hj)
  exact of_decide_eq_true this
theorem sy_val_int {r : Nat × Nat × List (Nat × Nat)} {M : sy_M} {a j : Nat} (h1 : r.1 ≠ 1001) (h4 : r.1 ≠ 1004) (hl : sy_lkr r.2.2 j = none) (hj : r.1 < 1000 → j < r.2.1) : sy_val r M a j = .int (M a j) := by
  have e1 : Nat.beq r.1 1001 = false := by
    cases hb : Nat.beq r.1 1001 with
    | false => rfl
    | true => exact absurd (Nat.eq_of_beq_eq_true hb) h1
  have e4 : Nat.beq r.1 1004 = false := by
    cases hb : Nat.beq r.1 1004 with
    | false => rfl
    | true => exact absurd (Nat.eq_of_beq_eq_true hb) h4
  unfold sy_val
  rw [e1, hl, e4]
  have e5 : (Nat.blt r.1 1000 && Nat.ble r.2.1 j) = false := by
    cases hb : Nat.blt r.1 1000 with
    | false => rfl
    | true =>
      have := hj (by simpa [Nat.blt_eq] using hb)
      cases hc : Nat.ble r.2.1 j with
      | false => rfl
      | true => have := Nat.le_of_ble_eq_true hc; omega
  rw [e5]
  rfl
theorem sy_val_ref {r : Nat × Nat × List (Nat × Nat)} {M : sy_M} {a j x : Nat} (h1 : r.1 ≠ 1001) (hl : sy_lkr r.2.2 j = some x) : sy_val r M a j = .ref x := by
  have e1 : Nat.beq r.1 1001 = false := by
    cases hb : Nat.beq r.1 1001 with
    | false => rfl
    | true => exact absurd (Nat.eq_of_beq_eq_true hb) h1
  unfold sy_val
  rw [e1, hl]
  rfl
theorem sy_val_long {r : Nat × Nat × List (Nat × Nat)} {M : sy_M} {a j : Nat} (h1 : r.1 = 1001) : sy_val r M a j = .long (sy_rl M a j) := by
  unfold sy_val
  rw [h1]
  rfl
