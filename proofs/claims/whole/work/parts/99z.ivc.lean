/-! ===== the claim ===== -/
theorem H0_wh : Wh H0 := (ph_tr (s := (1500, 0, fun _ => .null)) 13 0 _ _ h00 wh00 (show R0 = some (23, l23, [], H0) from R0_eq.1)).2
theorem i_vc : Claimed_1_1 ∧ Claimed_1_2 := i_vc_of (fun L xs hL => by
  obtain ⟨n, M1, h1⟩ := la_loop (S := xs) hL 385 0 0 (M0 H0 L xs) (by omega) (by omega) (by omega) (M0_inv R0_eq.2.1 H0_wh R0_eq.2.2.1 R0_eq.2.2.2) (M0_bo R0_eq.2.2.2)
  have E := jtL_law__23 n xe_no xe_no (Int32.ofNat 0) (M0 H0 L xs) _ h1
  have E1 : xe_End 56 qL_law_ 23 l23 [] (ph (1500, L, fun j => .int (xs j)) H0) (.inl (some (.int 1)), sy_enc M1) := by
    rw [← M0_enc R0_eq.2.1 H0_wh hL]
    exact E
  have t := (ph_tr (s := (1500, L, fun j => .int (xs j))) 13 0 _ _ h00 wh00 (show R0 = some (23, l23, [], H0) from R0_eq.1)).1
  obtain ⟨k, hk⟩ := tr_End (xe_End.deep (d1 := 500) (by decide) E1) 13 0 _ _ _ t
  exact ⟨k, _, hk⟩)
