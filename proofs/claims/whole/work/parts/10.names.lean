/-! ===== names and tables of the classes, written by a program out of the claim (wip/whole/gen_tables.py) ===== -/
/-- the words that stay, out of the tables -/
def zWS : List Cond := lw_tbl.filter xs_steady
theorem xs_mw {w : Cond} (i : Nat) (h : lw_tbl[i]? = some w) (hs : xs_steady w = true) : w ∈ zWS := List.mem_filter.mpr ⟨List.mem_of_getElem? h, hs⟩
def xs_plB : List Cond → List Nat → Bool
  | [], _ => true
  | w :: l, i :: ps => (decide (lw_tbl[i]? = some w ∧ xs_steady w = true) || decide (w ∈ xs_refs)) && xs_plB l ps
  | _ :: _, [] => false
theorem xs_places {L : List Cond} (ps : List Nat) (h : xs_plB L ps = true) : ∀ a ∈ L, a ∈ zWS ∨ a ∈ xs_refs := by
  induction L generalizing ps with
  | nil => intro a ha; cases ha
  | cons w l ih =>
    intro a ha
    cases ps with
    | nil => cases h
    | cons i ps =>
      simp only [xs_plB, Bool.and_eq_true, Bool.or_eq_true, decide_eq_true_eq] at h
      rcases List.mem_cons.mp ha with e | e
      · subst e
        rcases h.1 with z | z
        · exact Or.inl (xs_mw i z.1 z.2)
        · exact Or.inr z
      · exact ih ps h.2 a e
theorem xs_allLK {cl : List vw_C} {EX : List (Nat × String)} {STR : List (String × Nat × String × Nat)} {WS : List Cond} {K : xe_K} {PI : List xs_MI} {own : String} (l : List (Nat × xe_L)) (h : ∀ r ∈ l, xs_LK cl EX STR WS K PI own r.1 r.2) (idx : Nat) : xs_LK cl EX STR WS K PI own idx (xe_lk l idx) := by
  induction l with
  | nil => exact trivial
  | cons r l ih =>
    unfold xe_lk
    split
    · rename_i e
      rw [Nat.beq_eq] at e
      rw [← e]
      exact h r List.mem_cons_self
    · exact ih (fun q hq => h q (List.mem_cons_of_mem _ hq))
theorem xs_decB_ok {cc : ByteArray} {l : List xe_I} (h : xs_decB cc l = true) : ∀ pc i n b, xe_at l pc = some (i, n, b) → xs_dec cc pc i := by
  induction l with
  | nil => intro pc i n b hb; cases hb
  | cons r l ih =>
    intro pc i n b hb
    unfold xs_decB at h
    rw [List.all_cons, Bool.and_eq_true] at h
    unfold xe_at at hb
    split at hb
    · rename_i e
      rw [Nat.beq_eq] at e
      have e2 : r.2 = (i, n, b) := Option.some.inj hb
      have h1 := h.1
      split at h1
      · rename_i i0 n0 hd
        simp only [Bool.and_eq_true, Bool.or_eq_true, decide_eq_true_eq, Nat.beq_eq] at h1
        rw [e2] at h1
        obtain ⟨h2, h3⟩ := h1
        have h2 : i0 = i := h2
        subst h2
        rw [e] at hd
        unfold xs_dec
        split
        · exact ⟨n0, hd⟩
        · rename_i hz
          rcases h3 with z | z
          · exact absurd z hz
          · rw [z]; exact hd
      · cases h1
    · exact ih h.2 pc i n b hb
theorem xs_thrB_ok {cc : ByteArray} {lk : List (Nat × xe_L)} {l : List xe_I} (h : xs_thrB cc lk l = true) : ∀ pc idx n b cx k ic, xe_at l pc = some (.new idx, n, b) → xe_lk lk idx = (10, cx, k, ic) → decode cc (pc + 3) = .ok (.dup, 1) ∧ decode cc (pc + 4) = .ok (.invokespecial ic.toNat, 3) ∧ decode cc (pc + 7) = .ok (.athrow, 1) := by
  induction l with
  | nil => intro pc idx n b cx k ic hb; cases hb
  | cons r l ih =>
    intro pc idx n b cx k ic hb hlk
    unfold xs_thrB at h
    rw [List.all_cons, Bool.and_eq_true] at h
    unfold xe_at at hb
    split at hb
    · rename_i e
      rw [Nat.beq_eq] at e
      have e2 : r.2 = (.new idx, n, b) := Option.some.inj hb
      have h1 := h.1
      rw [e2] at h1
      dsimp only at h1
      rw [hlk, e] at h1
      exact of_decide_eq_true h1
    · exact ih h.2 pc idx n b cx k ic hb hlk
theorem tyX0_ok : ∀ k, k < 3 → parseFieldDescriptor (TX0 k).2.2.1 = some (tyX0 k) := by decide +kernel
theorem nmX0 : ∀ a, a < 3 → ∀ b, b < 3 → a ≠ b → (TX0 a).2.1 ≠ (TX0 b).2.1 := by decide +kernel
theorem dvX0_ok : ∀ k, k < 3 → defaultValue (tyX0 k) = dvX0.getD k .null ∧ ∀ D : xs_D, xs_T D (dvX0.getD k .null) = dvX0.getD k .null := by
  intro k hk
  have h : ∀ k, k < 3 → defaultValue (tyX0 k) = dvX0.getD k .null ∧ (dvX0.getD k .null = .int 0 ∨ dvX0.getD k .null = .null) := by decide +kernel
  refine ⟨(h k hk).1, fun D => ?_⟩
  rcases (h k hk).2 with e | e <;> rw [e] <;> rfl
theorem tyX1_ok : ∀ k, k < 3 → parseFieldDescriptor (TX1 k).2.2.1 = some (tyX1 k) := by decide +kernel
theorem nmX1 : ∀ a, a < 3 → ∀ b, b < 3 → a ≠ b → (TX1 a).2.1 ≠ (TX1 b).2.1 := by decide +kernel
theorem dvX1_ok : ∀ k, k < 3 → defaultValue (tyX1 k) = dvX1.getD k .null ∧ ∀ D : xs_D, xs_T D (dvX1.getD k .null) = dvX1.getD k .null := by
  intro k hk
  have h : ∀ k, k < 3 → defaultValue (tyX1 k) = dvX1.getD k .null ∧ (dvX1.getD k .null = .int 0 ∨ dvX1.getD k .null = .null) := by decide +kernel
  refine ⟨(h k hk).1, fun D => ?_⟩
  rcases (h k hk).2 with e | e <;> rw [e] <;> rfl
theorem tyX2_ok : ∀ k, k < 14 → parseFieldDescriptor (TX2 k).2.2.1 = some (tyX2 k) := by decide +kernel
theorem nmX2 : ∀ a, a < 14 → ∀ b, b < 14 → a ≠ b → (TX2 a).2.1 ≠ (TX2 b).2.1 := by decide +kernel
theorem dvX2_ok : ∀ k, k < 14 → defaultValue (tyX2 k) = dvX2.getD k .null ∧ ∀ D : xs_D, xs_T D (dvX2.getD k .null) = dvX2.getD k .null := by
  intro k hk
  have h : ∀ k, k < 14 → defaultValue (tyX2 k) = dvX2.getD k .null ∧ (dvX2.getD k .null = .int 0 ∨ dvX2.getD k .null = .null) := by decide +kernel
  refine ⟨(h k hk).1, fun D => ?_⟩
  rcases (h k hk).2 with e | e <;> rw [e] <;> rfl
theorem tyX3_ok : ∀ k, k < 2 → parseFieldDescriptor (TX3 k).2.2.1 = some (tyX3 k) := by decide +kernel
theorem nmX3 : ∀ a, a < 2 → ∀ b, b < 2 → a ≠ b → (TX3 a).2.1 ≠ (TX3 b).2.1 := by decide +kernel
theorem dvX3_ok : ∀ k, k < 2 → defaultValue (tyX3 k) = dvX3.getD k .null ∧ ∀ D : xs_D, xs_T D (dvX3.getD k .null) = dvX3.getD k .null := by
  intro k hk
  have h : ∀ k, k < 2 → defaultValue (tyX3 k) = dvX3.getD k .null ∧ (dvX3.getD k .null = .int 0 ∨ dvX3.getD k .null = .null) := by decide +kernel
  refine ⟨(h k hk).1, fun D => ?_⟩
  rcases (h k hk).2 with e | e <;> rw [e] <;> rfl
theorem tyX4_ok : ∀ k, k < 7 → parseFieldDescriptor (TX4 k).2.2.1 = some (tyX4 k) := by decide +kernel
theorem nmX4 : ∀ a, a < 7 → ∀ b, b < 7 → a ≠ b → (TX4 a).2.1 ≠ (TX4 b).2.1 := by decide +kernel
theorem dvX4_ok : ∀ k, k < 7 → defaultValue (tyX4 k) = dvX4.getD k .null ∧ ∀ D : xs_D, xs_T D (dvX4.getD k .null) = dvX4.getD k .null := by
  intro k hk
  have h : ∀ k, k < 7 → defaultValue (tyX4 k) = dvX4.getD k .null ∧ (dvX4.getD k .null = .int 0 ∨ dvX4.getD k .null = .null) := by decide +kernel
  refine ⟨(h k hk).1, fun D => ?_⟩
  rcases (h k hk).2 with e | e <;> rw [e] <;> rfl
theorem tyX5_ok : ∀ k, k < 2 → parseFieldDescriptor (TX5 k).2.2.1 = some (tyX5 k) := by decide +kernel
theorem nmX5 : ∀ a, a < 2 → ∀ b, b < 2 → a ≠ b → (TX5 a).2.1 ≠ (TX5 b).2.1 := by decide +kernel
theorem dvX5_ok : ∀ k, k < 2 → defaultValue (tyX5 k) = dvX5.getD k .null ∧ ∀ D : xs_D, xs_T D (dvX5.getD k .null) = dvX5.getD k .null := by
  intro k hk
  have h : ∀ k, k < 2 → defaultValue (tyX5 k) = dvX5.getD k .null ∧ (dvX5.getD k .null = .int 0 ∨ dvX5.getD k .null = .null) := by decide +kernel
  refine ⟨(h k hk).1, fun D => ?_⟩
  rcases (h k hk).2 with e | e <;> rw [e] <;> rfl
theorem tyX7_ok : ∀ k, k < 4 → parseFieldDescriptor (TX7 k).2.2.1 = some (tyX7 k) := by decide +kernel
theorem nmX7 : ∀ a, a < 4 → ∀ b, b < 4 → a ≠ b → (TX7 a).2.1 ≠ (TX7 b).2.1 := by decide +kernel
theorem dvX7_ok : ∀ k, k < 4 → defaultValue (tyX7 k) = dvX7.getD k .null ∧ ∀ D : xs_D, xs_T D (dvX7.getD k .null) = dvX7.getD k .null := by
  intro k hk
  have h : ∀ k, k < 4 → defaultValue (tyX7 k) = dvX7.getD k .null ∧ (dvX7.getD k .null = .int 0 ∨ dvX7.getD k .null = .null) := by decide +kernel
  refine ⟨(h k hk).1, fun D => ?_⟩
  rcases (h k hk).2 with e | e <;> rw [e] <;> rfl
theorem tyX8_ok : ∀ k, k < 3 → parseFieldDescriptor (TX8 k).2.2.1 = some (tyX8 k) := by decide +kernel
theorem nmX8 : ∀ a, a < 3 → ∀ b, b < 3 → a ≠ b → (TX8 a).2.1 ≠ (TX8 b).2.1 := by decide +kernel
theorem dvX8_ok : ∀ k, k < 3 → defaultValue (tyX8 k) = dvX8.getD k .null ∧ ∀ D : xs_D, xs_T D (dvX8.getD k .null) = dvX8.getD k .null := by
  intro k hk
  have h : ∀ k, k < 3 → defaultValue (tyX8 k) = dvX8.getD k .null ∧ (dvX8.getD k .null = .int 0 ∨ dvX8.getD k .null = .null) := by decide +kernel
  refine ⟨(h k hk).1, fun D => ?_⟩
  rcases (h k hk).2 with e | e <;> rw [e] <;> rfl
theorem tyX9_ok : ∀ k, k < 5 → parseFieldDescriptor (TX9 k).2.2.1 = some (tyX9 k) := by decide +kernel
theorem nmX9 : ∀ a, a < 5 → ∀ b, b < 5 → a ≠ b → (TX9 a).2.1 ≠ (TX9 b).2.1 := by decide +kernel
theorem dvX9_ok : ∀ k, k < 5 → defaultValue (tyX9 k) = dvX9.getD k .null ∧ ∀ D : xs_D, xs_T D (dvX9.getD k .null) = dvX9.getD k .null := by
  intro k hk
  have h : ∀ k, k < 5 → defaultValue (tyX9 k) = dvX9.getD k .null ∧ (dvX9.getD k .null = .int 0 ∨ dvX9.getD k .null = .null) := by decide +kernel
  refine ⟨(h k hk).1, fun D => ?_⟩
  rcases (h k hk).2 with e | e <;> rw [e] <;> rfl
theorem tyX10_ok : ∀ k, k < 8 → parseFieldDescriptor (TX10 k).2.2.1 = some (tyX10 k) := by decide +kernel
theorem nmX10 : ∀ a, a < 8 → ∀ b, b < 8 → a ≠ b → (TX10 a).2.1 ≠ (TX10 b).2.1 := by decide +kernel
theorem dvX10_ok : ∀ k, k < 8 → defaultValue (tyX10 k) = dvX10.getD k .null ∧ ∀ D : xs_D, xs_T D (dvX10.getD k .null) = dvX10.getD k .null := by
  intro k hk
  have h : ∀ k, k < 8 → defaultValue (tyX10 k) = dvX10.getD k .null ∧ (dvX10.getD k .null = .int 0 ∨ dvX10.getD k .null = .null) := by decide +kernel
  refine ⟨(h k hk).1, fun D => ?_⟩
  rcases (h k hk).2 with e | e <;> rw [e] <;> rfl
theorem tyX11_ok : ∀ k, k < 18 → parseFieldDescriptor (TX11 k).2.2.1 = some (tyX11 k) := by decide +kernel
theorem nmX11 : ∀ a, a < 18 → ∀ b, b < 18 → a ≠ b → (TX11 a).2.1 ≠ (TX11 b).2.1 := by decide +kernel
theorem dvX11_ok : ∀ k, k < 18 → defaultValue (tyX11 k) = dvX11.getD k .null ∧ ∀ D : xs_D, xs_T D (dvX11.getD k .null) = dvX11.getD k .null := by
  intro k hk
  have h : ∀ k, k < 18 → defaultValue (tyX11 k) = dvX11.getD k .null ∧ (dvX11.getD k .null = .int 0 ∨ dvX11.getD k .null = .null) := by decide +kernel
  refine ⟨(h k hk).1, fun D => ?_⟩
  rcases (h k hk).2 with e | e <;> rw [e] <;> rfl
theorem tyX12_ok : ∀ k, k < 26 → parseFieldDescriptor (TX12 k).2.2.1 = some (tyX12 k) := by decide +kernel
theorem nmX12 : ∀ a, a < 26 → ∀ b, b < 26 → a ≠ b → (TX12 a).2.1 ≠ (TX12 b).2.1 := by decide +kernel
theorem dvX12_ok : ∀ k, k < 26 → defaultValue (tyX12 k) = dvX12.getD k .null ∧ ∀ D : xs_D, xs_T D (dvX12.getD k .null) = dvX12.getD k .null := by
  intro k hk
  have h : ∀ k, k < 26 → defaultValue (tyX12 k) = dvX12.getD k .null ∧ (dvX12.getD k .null = .int 0 ∨ dvX12.getD k .null = .null) := by decide +kernel
  refine ⟨(h k hk).1, fun D => ?_⟩
  rcases (h k hk).2 with e | e <;> rw [e] <;> rfl
def zPI : List xs_MI := [(yX0_init, cX0_init, none, []), (yX0_slot, cX0_slot, (some (.object "StairMeter$House")), []), (yX0_remember, cX0_remember, none, []), (yX0_takeBack, cX0_takeBack, (some .boolean), []), (yX0_forget, cX0_forget, none, []), (yX1_init, cX1_init, none, []), (yX1_readRows, cX1_readRows, (some .boolean), []), (yX1_isPossible, cX1_isPossible, (some .boolean), []), (yX2_init, cX2_init, none, []), (yX2_takeOver, cX2_takeOver, none, []), (yX2_get, cX2_get, (some .int), []), (yX2_set, cX2_set, none, []), (yX2_sum, cX2_sum, (some .int), []), (yX2_isIn, cX2_isIn, (some .boolean), []), (yX2_hours, cX2_hours, (some .int), []), (yX2_metered, cX2_metered, (some .int), []), (yX2_burnt, cX2_burnt, (some .int), []), (yX2_isLike, cX2_isLike, (some .boolean), []), (yX2_swapRooms, cX2_swapRooms, none, []), (yX2_owed, cX2_owed, (some .int), []), (yX2_setOwed, cX2_setOwed, none, []), (yX2_isDebt, cX2_isDebt, (some .boolean), []), (yX2_owesMore, cX2_owesMore, (some .int), []), (yX2_creditors, cX2_creditors, (some .int), []), (yX2_moveCoins, cX2_moveCoins, none, []), (yX2_addGas, cX2_addGas, none, []), (yX2_takeCoin, cX2_takeCoin, none, []), (yX2_draw, cX2_draw, (some .int), []), (yX2_light, cX2_light, none, []), (yX2_darken, cX2_darken, none, []), (yX2_chill, cX2_chill, none, []), (yX2_turnClock, cX2_turnClock, none, []), (yX3_init, cX3_init, none, []), (yX3_readLine, cX3_readLine, (some .boolean), []), (yX3_readLodger, cX3_readLodger, (some .boolean), []), (yX3_readFact, cX3_readFact, (some .boolean), []), (yX3_readDebt, cX3_readDebt, (some .boolean), []), (yX4_init, cX4_init, none, []), (yX4_clear, cX4_clear, none, []), (yX4_takeOver, cX4_takeOver, none, []), (yX4_addLine, cX4_addLine, none, []), (yX4_add, cX4_add, none, []), (yX4_addJump, cX4_addJump, (some .int), []), (yX4_land, cX4_land, none, []), (yX4_turnOf, cX4_turnOf, (some .int), []), (yX4_isRefused, cX4_isRefused, (some .boolean), []), (yX4_holds, cX4_holds, (some .boolean), []), (yX5_init, cX5_init, none, []), (yX5_readLine, cX5_readLine, (some .boolean), []), (yX5_kindOf, cX5_kindOf, (some .int), []), (yX5_readAny, cX5_readAny, (some .boolean), []), (yX5_readAll, cX5_readAll, (some .boolean), []), (yX5_readAtom, cX5_readAtom, (some .boolean), []), (yX5_readOrder, cX5_readOrder, (some .boolean), []), (yX5_readSum, cX5_readSum, (some .boolean), []), (yX5_partOf, cX5_partOf, (some .int), []), (yX6_init, cX6_init, none, []), (yX6_readLines, cX6_readLines, (some .boolean), []), (yX7_init, cX7_init, none, []), (yX7_takeOver, cX7_takeOver, none, []), (yX7_add, cX7_add, none, []), (yX7_cell, cX7_cell, (some .int), []), (yX8_init, cX8_init, none, []), (yX8_learn, cX8_learn, none, []), (yX8_presentAt, cX8_presentAt, (some .int), []), (yX8_needsAt, cX8_needsAt, (some .int), []), (yX8_pass, cX8_pass, (some .int), []), (yX8_whoGoes, cX8_whoGoes, (some .int), []), (yX8_tell, cX8_tell, none, []), (yX9_init, cX9_init, none, []), (yX9_solve, cX9_solve, none, []), (yX9_sharedTicks, cX9_sharedTicks, (some .int), []), (yX9_choose, cX9_choose, none, []), (yX9_keep, cX9_keep, none, []), (yX9_partnerOf, cX9_partnerOf, (some .int), []), (yX10_init, cX10_init, none, []), (yX10_append, cX10_append, none, []), (yX10_byteAt, cX10_byteAt, (some .int), []), (yX10_open, cX10_open, none, []), (yX10_behindThing, cX10_behindThing, (some .int), []), (yX10_kindOf, cX10_kindOf, (some .int), []), (yX10_addThing, cX10_addThing, none, []), (yX10_thingAt, cX10_thingAt, (some .int), []), (yX10_numberAt, cX10_numberAt, (some .int), []), (yX10_wordAt, cX10_wordAt, (some .int), []), (yX10_thing, cX10_thing, (some .int), []), (yX10_takes, cX10_takes, (some .boolean), []), (yX10_takesNumber, cX10_takesNumber, (some .int), []), (yX10_fails, cX10_fails, (some .boolean), []), (yX11_init, cX11_init, none, []), (yX11_feed, cX11_feed, (some .int), []), (yX11_end, cX11_end, (some .boolean), []), (yX11_house, cX11_house, (some .int), []), (yX11_law, cX11_law, (some .int), []), (yX11_fault, cX11_fault, (some .int), []), (yX11_lodger, cX11_lodger, (some .int), []), (yX11_owes, cX11_owes, (some .int), []), (yX11_isHome, cX11_isHome, (some .boolean), []), (yX11_needs, cX11_needs, (some .int), []), (yX11_count, cX11_count, (some .int), []), (yX11_inside, cX11_inside, (some .int), []), (yX11_ticks, cX11_ticks, (some .int), []), (yX11_put, cX11_put, (some .int), []), (yX11_lend, cX11_lend, (some .int), []), (yX11_repay, cX11_repay, (some .int), []), (yX11_waits, cX11_waits, (some .int), []), (yX11_price, cX11_price, (some .int), []), (yX11_change, cX11_change, (some .int), []), (yX11_home, cX11_home, (some .int), []), (yX11_empty, cX11_empty, (some .int), []), (yX11_lasts, cX11_lasts, (some .int), []), (yX11_out, cX11_out, (some .int), []), (yX11_firstDark, cX11_firstDark, (some .int), []), (yX11_feeder, cX11_feeder, (some .int), []), (yX11_shiver, cX11_shiver, (some .int), []), (yX11_firstColder, cX11_firstColder, (some .int), []), (yX11_after, cX11_after, (some .int), []), (yX11_coins, cX11_coins, (some .int), []), (yX11_ease, cX11_ease, (some .int), []), (yX11_start, cX11_start, none, []), (yX11_run, cX11_run, (some .int), []), (yX11_grief, cX11_grief, (some .int), []), (yX11_restless, cX11_restless, (some .int), []), (yX11_wouldWait, cX11_wouldWait, (some .boolean), []), (yX11_saint, cX11_saint, (some .int), []), (yX11_warmer, cX11_warmer, (some .boolean), []), (yX11_bestWait, cX11_bestWait, (some .int), []), (yX11_griefBy, cX11_griefBy, (some .int), []), (yX11_griefAhead, cX11_griefAhead, (some .int), []), (yX11_fair, cX11_fair, (some .int), []), (yX11_share, cX11_share, (some .int), []), (yX11_hundredths, cX11_hundredths, (some .int), []), (yX11_tops, cX11_tops, (some .int), []), (yX11_stand, cX11_stand, (some .int), []), (yX11_mostNeeds, cX11_mostNeeds, (some .int), []), (yX11_dear, cX11_dear, (some .int), []), (yX11_earns, cX11_earns, (some .int), []), (yX11_earned, cX11_earned, (some .int), []), (yX11_odds, cX11_odds, (some .int), []), (yX11_culprit, cX11_culprit, (some .int), []), (yX11_ask, cX11_ask, (some .int), []), (yX11_fitting, cX11_fitting, (some .int), []), (yX11_drawn, cX11_drawn, (some .int), []), (yX11_isDrawn, cX11_isDrawn, (some .boolean), []), (yX11_readClues, cX11_readClues, none, []), (yX11_fewer, cX11_fewer, (some .int), []), (yX11_pairs, cX11_pairs, (some .int), []), (yX11_keepers, cX11_keepers, (some .int), []), (yX11_isKeeping, cX11_isKeeping, (some .boolean), []), (yX11_kettle, cX11_kettle, (some .boolean), []), (yX11_swings, cX11_swings, (some .int), []), (yX11_minimal, cX11_minimal, (some .int), []), (yX11_dummies, cX11_dummies, (some .int), []), (yX11_swung, cX11_swung, (some .int), []), (yX11_needsEach, cX11_needsEach, (some .boolean), []), (yX11_carries, cX11_carries, (some .boolean), []), (yX11_net, cX11_net, (some .int), []), (yX11_debt, cX11_debt, (some .int), []), (yX11_ring, cX11_ring, (some .boolean), []), (yX11_poorest, cX11_poorest, (some .int), []), (yX11_rests, cX11_rests, (some .int), []), (yX11_isContent, cX11_isContent, (some .boolean), []), (yX11_gain, cX11_gain, (some .int), []), (yX11_busy, cX11_busy, (some .int), []), (yX11_alone, cX11_alone, (some .int), []), (yX11_miser, cX11_miser, (some .int), []), (yX11_alike, cX11_alike, (some .int), []), (yX11_trial, cX11_trial, (some .int), []), (yX11_span, cX11_span, (some .int), []), (yX11_led, cX11_led, (some .int), []), (yX11_log, cX11_log, (some .int), []), (yX11_seed, cX11_seed, (some .int), []), (yX11_undo, cX11_undo, (some .boolean), []), (yX11_image, cX11_image, none, []), (yX11_back, cX11_back, (some .boolean), []), (yX11_everybody, cX11_everybody, (some .int), []), (yX11_checkLodger, cX11_checkLodger, none, []), (yX11_checkTwo, cX11_checkTwo, none, []), (yX11_checkTick, cX11_checkTick, none, []), (yX11_checkRange, cX11_checkRange, none, []), (yX12_init, cX12_init, none, []), (yX12_thrown, cX12_thrown, (some .int), []), (yX12_isIn, cX12_isIn, (some .boolean), []), (yX12_lesser, cX12_lesser, (some .int), []), (yX12_greater, cX12_greater, (some .int), []), (yX12_isOf, cX12_isOf, (some .boolean), []), (yX12_bits, cX12_bits, (some .int), []), (yX12_of, cX12_of, (some .int), []), (yX12_lays, cX12_lays, none, []), (yX12_owed, cX12_owed, (some .int), []), (yX12_isLodger, cX12_isLodger, (some .boolean), []), (yX12_isTick, cX12_isTick, (some .boolean), []), (yX12_atHome, cX12_atHome, (some .boolean), []), (yX12_homeIn, cX12_homeIn, (some .int), []), (yX12_burnsOf, cX12_burnsOf, (some .int), []), (yX12_needsIn, cX12_needsIn, (some .int), []), (yX12_hoursOf, cX12_hoursOf, (some .int), []), (yX12_all, cX12_all, (some .int), []), (yX12_feed, cX12_feed, (some .int), []), (yX12_end, cX12_end, (some .boolean), []), (yX12_letter, cX12_letter, (some .int), []), (yX12_skip, cX12_skip, none, []), (yX12_isSign, cX12_isSign, (some .boolean), []), (yX12_has, cX12_has, (some .boolean), []), (yX12_wrong, cX12_wrong, none, []), (yX12_here, cX12_here, (some .int), []), (yX12_figures, cX12_figures, (some .int), []), (yX12_behind, cX12_behind, (some .int), []), (yX12_maybe, cX12_maybe, (some .int), []), (yX12_lodgerLine, cX12_lodgerLine, none, []), (yX12_owesLine, cX12_owesLine, none, []), (yX12_tells, cX12_tells, none, []), (yX12_houseLine, cX12_houseLine, none, []), (yX12_begins, cX12_begins, none, []), (yX12_read, cX12_read, (some .int), []), (yX12_putsAside, cX12_putsAside, none, []), (yX12_comesBack, cX12_comesBack, none, []), (yX12_house, cX12_house, (some .int), []), (yX12_part, cX12_part, (some .int), []), (yX12_sum, cX12_sum, (some .int), []), (yX12_plain, cX12_plain, (some .boolean), []), (yX12_atom, cX12_atom, (some .boolean), []), (yX12_every, cX12_every, (some .boolean), []), (yX12_some, cX12_some, (some .boolean), []), (yX12_lawLine, cX12_lawLine, none, []), (yX12_law, cX12_law, (some .int), []), (yX12_fault, cX12_fault, (some .int), []), (yX12_asks, cX12_asks, none, []), (yX12_draw, cX12_draw, (some .int), []), (yX12_logs, cX12_logs, none, []), (yX12_feeds, cX12_feeds, none, []), (yX12_isLit, cX12_isLit, none, []), (yX12_isDark, cX12_isDark, none, []), (yX12_whoFeeds, cX12_whoFeeds, (some .int), []), (yX12_passes, cX12_passes, (some .boolean), []), (yX12_goes, cX12_goes, (some .int), []), (yX12_fedOf, cX12_fedOf, (some .int), []), (yX12_coldOfAll, cX12_coldOfAll, (some .int), []), (yX12_metered, cX12_metered, (some .int), []), (yX12_lodger, cX12_lodger, (some .int), []), (yX12_areTwo, cX12_areTwo, none, []), (yX12_owes, cX12_owes, (some .int), []), (yX12_isHome, cX12_isHome, (some .boolean), []), (yX12_needs, cX12_needs, (some .int), []), (yX12_remembers, cX12_remembers, none, []), (yX12_sets, cX12_sets, (some .int), []), (yX12_ticks, cX12_ticks, (some .int), []), (yX12_put, cX12_put, (some .int), []), (yX12_lend, cX12_lend, (some .int), []), (yX12_repay, cX12_repay, (some .int), []), (yX12_waits, cX12_waits, (some .int), []), (yX12_price, cX12_price, (some .int), []), (yX12_rooms, cX12_rooms, none, []), (yX12_change, cX12_change, (some .int), []), (yX12_home, cX12_home, (some .int), []), (yX12_empty, cX12_empty, (some .int), []), (yX12_inside, cX12_inside, (some .int), []), (yX12_firstDark, cX12_firstDark, (some .int), []), (yX12_lasts, cX12_lasts, (some .int), []), (yX12_out, cX12_out, (some .int), []), (yX12_feeder, cX12_feeder, (some .int), []), (yX12_keepsColds, cX12_keepsColds, none, []), (yX12_colder, cX12_colder, (some .int), []), (yX12_shiver, cX12_shiver, (some .int), []), (yX12_after, cX12_after, (some .int), []), (yX12_coins, cX12_coins, (some .int), []), (yX12_ease, cX12_ease, (some .int), []), (yX12_grieves, cX12_grieves, none, []), (yX12_griefOf, cX12_griefOf, (some .int), []), (yX12_bestOf, cX12_bestOf, (some .int), []), (yX12_grief, cX12_grief, (some .int), []), (yX12_restless, cX12_restless, (some .int), []), (yX12_saint, cX12_saint, (some .int), []), (yX12_fair, cX12_fair, (some .int), []), (yX12_topsOf, cX12_topsOf, (some .int), []), (yX12_tops, cX12_tops, (some .int), []), (yX12_stand, cX12_stand, (some .int), []), (yX12_byPrice, cX12_byPrice, (some .int), []), (yX12_dear, cX12_dear, (some .int), []), (yX12_earns, cX12_earns, (some .int), []), (yX12_areRows, cX12_areRows, (some .boolean), []), (yX12_heard, cX12_heard, (some .int), []), (yX12_culprit, cX12_culprit, (some .int), []), (yX12_ask, cX12_ask, (some .int), []), (yX12_drawn, cX12_drawn, (some .int), []), (yX12_warmer, cX12_warmer, (some .boolean), []), (yX12_together, cX12_together, (some .int), []), (yX12_lowest, cX12_lowest, (some .int), []), (yX12_allBest, cX12_allBest, none, []), (yX12_pairs, cX12_pairs, (some .int), []), (yX12_keepers, cX12_keepers, (some .int), []), (yX12_carries, cX12_carries, (some .boolean), []), (yX12_kettle, cX12_kettle, (some .boolean), []), (yX12_swingsBy, cX12_swingsBy, (some .boolean), []), (yX12_swingsOf, cX12_swingsOf, (some .int), []), (yX12_swings, cX12_swings, (some .int), []), (yX12_isLeast, cX12_isLeast, (some .boolean), []), (yX12_minimal, cX12_minimal, (some .int), []), (yX12_dummies, cX12_dummies, (some .int), []), (yX12_net, cX12_net, (some .int), []), (yX12_owesOf, cX12_owesOf, (some .int), []), (yX12_debt, cX12_debt, (some .int), []), (yX12_ring, cX12_ring, (some .boolean), []), (yX12_poorest, cX12_poorest, (some .int), []), (yX12_hasBy, cX12_hasBy, (some .int), []), (yX12_rests, cX12_rests, (some .int), []), (yX12_odds, cX12_odds, (some .int), []), (yX12_busy, cX12_busy, (some .int), []), (yX12_alone, cX12_alone, (some .int), []), (yX12_miser, cX12_miser, (some .int), []), (yX12_alike, cX12_alike, (some .int), []), (yX12_trial, cX12_trial, (some .int), []), (yX12_span, cX12_span, (some .int), []), (yX12_logged, cX12_logged, (some .int), []), (yX12_led, cX12_led, (some .int), []), (yX12_log, cX12_log, (some .int), []), (yX12_seed, cX12_seed, (some .int), []), (yX12_undo, cX12_undo, (some .boolean), []), (yX12_image, cX12_image, none, []), (yX12_back, cX12_back, (some .boolean), []), (yX12_count, cX12_count, (some .int), []), (yL_house, cL_house, (some .int), [13, 15]), (yL_law, cL_law, (some .int), [13]), (yL_lodger, cL_lodger, (some .int), [24, 26]), (yL_owes, cL_owes, (some .int), [24, 13]), (yL_isHome, cL_isHome, (some .int), [24]), (yL_needs, cL_needs, (some .int), [24]), (yL_ticks, cL_ticks, (some .int), [13]), (yL_put, cL_put, (some .int), [24, 45]), (yL_lend, cL_lend, (some .int), [24, 13, 45]), (yL_repay, cL_repay, (some .int), [24, 13, 45]), (yL_waits, cL_waits, (some .int), [24, 13]), (yL_price, cL_price, (some .int), [13]), (yL_change, cL_change, (some .int), [24, 13]), (yL_home, cL_home, (some .int), [24]), (yL_after, cL_after, (some .int), [24, 13, 26]), (yL_coins, cL_coins, (some .int), [13]), (yL_ease, cL_ease, (some .int), [13]), (yL_grief, cL_grief, (some .int), [24, 13]), (yL_saint, cL_saint, (some .int), [24]), (yL_fair, cL_fair, (some .int), [24, 13]), (yL_stand, cL_stand, (some .int), [24]), (yL_earns, cL_earns, (some .int), [13]), (yL_culprit, cL_culprit, (some .int), [13]), (yL_ask, cL_ask, (some .int), [13]), (yL_drawn, cL_drawn, (some .int), [13, 26]), (yL_warmer, cL_warmer, (some .int), [24, 13]), (yL_pairs, cL_pairs, (some .int), [24]), (yL_swings, cL_swings, (some .int), [24]), (yL_net, cL_net, (some .int), [24, 13]), (yL_ring, cL_ring, (some .int), [24]), (yL_rests, cL_rests, (some .int), [24, 13]), (yL_odds, cL_odds, (some .int), [13]), (yL_trial, cL_trial, (some .int), [13]), (yL_span, cL_span, (some .int), [13]), (yL_led, cL_led, (some .int), [24]), (yL_log, cL_log, (some .int), [26]), (yJ6_bitCount_0f7a4, cJ6_bitCount_0f7a4, (some .int), []), (yJ9_floorMod_7cf53, cJ9_floorMod_7cf53, (some .int), []), (yJ9_max_7cf53, cJ9_max_7cf53, (some .int), []), (yJ9_min_7cf53, cJ9_min_7cf53, (some .int), [])]
