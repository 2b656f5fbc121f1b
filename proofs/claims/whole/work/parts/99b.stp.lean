/-! ===== the law's cases ===== -/
section
variable {L : Nat} {S : Nat → Int32} {e i : Nat} {M : sy_M}
def stp (L : Nat) (S : Nat → Int32) (e i : Nat) (c : (Int32 → sy_M → sy_O) → sy_O) : Prop := ∃ M3, (∀ k23, c k23 = k23 (Int32.ofNat (i + 6)) M3) ∧ Inv Ask txo (Int32.ofNat L) S (e + 1) M3 ∧ bo M3
theorem la_in {j : Nat} (hL : L ≤ 384) (h : i + 6 ≤ L) (hj : j < 6) : xe_in (Int32.ofNat i + Int32.ofNat j) (Int32.ofNat L).toNatClampNeg = true := by
  rw [zadd, zix (by omega)]
  exact zin (by omega) (by omega)
theorem lg_self (x : Int64) : lg_cmp x x = 0 := (lg_cmp_eq x x).mpr rfl
theorem thr_end {c : Nat} {v : Int32} {A B : sy_O} {N : sy_M} (c4 : c < 4) (h0 : c = 0 → sy_rl N 132 0 = Int32.toInt64 v) : (if Int32.ofNat c = 0 then (if lg_cmp (sy_rl N 132 0) (Int32.toInt64 v) = 0 then A else B) else A) = A := by
  by_cases h : Int32.ofNat c = 0
  · have hc : c = 0 := (zeq (b := 0) (by omega) (by decide)).mp h
    rw [if_pos h, h0 hc, if_pos (lg_self _)]
  · rw [if_neg h]
theorem thr_endB {c : Nat} {b : Bool} {A B : sy_O} {N : sy_M} (c4 : c < 4) (h0 : c = 0 → sy_rl N 132 0 = bif b then Int64.ofNat 1 else Int64.ofNat 0) : (if Int32.ofNat c = 0 then (if bz b = 0 then (if lg_cmp (sy_rl N 132 0) (Int64.ofNat 0) = 0 then A else B) else (if lg_cmp (sy_rl N 132 0) (Int64.ofNat 1) = 0 then A else B)) else A) = A := by
  by_cases h : Int32.ofNat c = 0
  · have hc : c = 0 := (zeq (b := 0) (by omega) (by decide)).mp h
    rw [if_pos h, h0 hc]
    cases b
    · rw [if_pos (show bz false = 0 from rfl), cond_false, if_pos (lg_self _)]
    · rw [if_neg (show ¬ bz true = 0 by decide), cond_true, if_pos (lg_self _)]
  · rw [if_neg h]
theorem stp_ite {c : Prop} [Decidable c] {A B : (Int32 → sy_M → sy_O) → sy_O} (h1 : stp L S e i A) (h2 : stp L S e i B) : stp L S e i (fun k => if c then A k else B k) := by
  by_cases h : c
  · obtain ⟨M3, a, b⟩ := h1
    exact ⟨M3, fun k => (if_pos h).trans (a k), b⟩
  · obtain ⟨M3, a, b⟩ := h2
    exact ⟨M3, fun k => (if_neg h).trans (a k), b⟩
theorem la_63 (I : Inv Ask txo (Int32.ofNat L) S e M) (hb : bo M) : stp L S e i (fun k23 => jfL_law__3150 k23 (Int32.ofNat i) M) := by
  obtain ⟨k, hk, ek⟩ := I.2.2.2.2.2.2.2.2.1
  refine ⟨M, fun k23 => ?_, Inv_congr I (fun _ _ => rfl) (fun _ _ => rfl) I.2.2.2.2.1 ⟨k, by omega, ek⟩, hb⟩
  show k23 (Int32.ofNat i + 6) M = _
  rw [show Int32.ofNat i + 6 = Int32.ofNat (i + 6) from zadd i 6]
end
