/-! ===== our machine runs the law on the empty script ===== -/
def xe_isOne (r : Option (xe_R × xe_H)) : Bool := match r with
  | some (.inl (some (.int x)), _) => decide (x = 1)
  | _ => false
set_option maxRecDepth 1000000 in
theorem zt0 : xe_isOne (xe_run zP zK 20000 500 qL_law_ 0 (xe_ent 7 [.ref 1000000]) [] (xs_h0 0 (fun _ => 0))) = true := by decide +kernel
