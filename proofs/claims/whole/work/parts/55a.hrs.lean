/-! ===== hours ===== -/
def atN (a b t : Nat) : Bool := bif Nat.blt b a then Nat.ble a t || Nat.ble t b else Nat.ble a t && Nat.ble t b
def hrsN (a b : Nat) : Nat := sy_fo (fun t x => x + (bif atN a b t then 1 else 0)) 48 0 0
def fm48 (x : Int32) : Int32 := if (x ^^^ (Int32.ofNat 48)) < (Int32.ofNat 0) then (if x - x / (Int32.ofNat 48) * (Int32.ofNat 48) = (Int32.ofNat 0) then x - x / (Int32.ofNat 48) * (Int32.ofNat 48) else x - x / (Int32.ofNat 48) * (Int32.ofNat 48) + (Int32.ofNat 48)) else x - x / (Int32.ofNat 48) * (Int32.ofNat 48)
theorem hrs_fm : ∀ a b : Fin 48, fm48 (Int32.ofNat b.1 - Int32.ofNat a.1) + (Int32.ofNat 1) = Int32.ofNat (hrsN a.1 b.1) := by decide +kernel
theorem hrs_le : ∀ a b : Fin 48, 1 ≤ hrsN a.1 b.1 ∧ hrsN a.1 b.1 ≤ 48 := by decide +kernel
