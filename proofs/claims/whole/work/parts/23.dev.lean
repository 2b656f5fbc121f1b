/-! dev tree alone -/
theorem sy_row_lt {a : Nat} {r : Nat × Nat × List (Nat × Nat)} (h : sy_row a = some r) : a < 133 := sorry
theorem sy_is_row {c a : Nat} (h : sy_is c a = true) : ∃ r, sy_row a = some r ∧ r.1 = c := sorry
theorem sy_rl_wl (M : sy_M) (a j b i : Nat) (v : Int64) : sy_rl (sy_wl M a j v) b i = if b = a ∧ i = j then v else sy_rl M b i := sorry
noncomputable def sy_F : Nat := Classical.choose (⟨6000, rfl⟩ : ∃ n : Nat, n = 6000)
theorem sy_F_eq : sy_F = 6000 := Classical.choose_spec (⟨6000, rfl⟩ : ∃ n : Nat, n = 6000)
noncomputable def sy_D : Nat := Classical.choose (⟨12, rfl⟩ : ∃ n : Nat, n = 12)
theorem sy_D_eq : sy_D = 12 := Classical.choose_spec (⟨12, rfl⟩ : ∃ n : Nat, n = 12)
