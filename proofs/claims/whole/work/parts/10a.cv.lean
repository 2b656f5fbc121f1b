/-! ===== the classes are as the words tell ===== -/
def xs_plC : List Cond → List Nat → Bool
  | [], _ => true
  | w :: l, i :: ps => decide (lw_tbl[i]? = some w ∧ xs_steady w = true) && xs_plC l ps
  | _ :: _, [] => false
theorem xs_plC_ok {L : List Cond} (ps : List Nat) (h : xs_plC L ps = true) : ∀ a ∈ L, a ∈ zWS := by
  induction L generalizing ps with
  | nil => intro a ha; cases ha
  | cons w l ih =>
    cases ps with
    | nil => cases h
    | cons i ps =>
      unfold xs_plC at h
      rw [Bool.and_eq_true, decide_eq_true_eq] at h
      intro a ha
      rcases List.mem_cons.mp ha with rfl | e
      · exact xs_mw i h.1.1 h.1.2
      · exact ih ps h.2 a e
theorem zu_0 : ∀ w ∈ u_ws RX0 TX0 3, w ∈ zWS := xs_plC_ok [472, 474, 476] (by decide +kernel)
theorem zu_1 : ∀ w ∈ u_ws RX1 TX1 3, w ∈ zWS := xs_plC_ok [249, 251, 253] (by decide +kernel)
theorem zu_2 : ∀ w ∈ u_ws RX2 TX2 14, w ∈ zWS := xs_plC_ok [329, 331, 333, 335, 337, 339, 341, 343, 345, 347, 349, 351, 353, 355] (by decide +kernel)
theorem zu_3 : ∀ w ∈ u_ws RX3 TX3 2, w ∈ zWS := xs_plC_ok [405, 403] (by decide +kernel)
theorem zu_4 : ∀ w ∈ u_ws RX4 TX4 7, w ∈ zWS := xs_plC_ok [373, 375, 377, 379, 381, 383, 385] (by decide +kernel)
theorem zu_5 : ∀ w ∈ u_ws RX5 TX5 2, w ∈ zWS := xs_plC_ok [417, 415] (by decide +kernel)
theorem zu_6 : ∀ w ∈ u_ws RX7 TX7 4, w ∈ zWS := xs_plC_ok [279, 281, 283, 285] (by decide +kernel)
theorem zu_7 : ∀ w ∈ u_ws RX8 TX8 3, w ∈ zWS := xs_plC_ok [429, 431, 433] (by decide +kernel)
theorem zu_8 : ∀ w ∈ u_ws RX9 TX9 5, w ∈ zWS := xs_plC_ok [448, 450, 452, 454, 456] (by decide +kernel)
theorem zu_9 : ∀ w ∈ u_ws RX10 TX10 8, w ∈ zWS := xs_plC_ok [219, 221, 223, 225, 227, 229, 231, 233] (by decide +kernel)
theorem zu_10 : ∀ w ∈ u_ws RX11 TX11 18, w ∈ zWS := xs_plC_ok [497, 499, 501, 503, 505, 507, 509, 511, 513, 515, 517, 519, 521, 523, 525, 527, 529, 531] (by decide +kernel)
theorem zu_11 : ∀ w ∈ u_ws RX12 TX12 26, w ∈ zWS := xs_plC_ok [1574, 1576, 1578, 1580, 1582, 1584, 1586, 1588, 1590, 1592, 1594, 1596, 1598, 1600, 1602, 1604, 1606, 1608, 1610, 1612, 1614, 1616, 1618, 1620, 1622, 1624] (by decide +kernel)
theorem zCV : xs_CV zcl zWS := by
  intro ci C T N h
  match ci, h with
  | 0, h => cases h; exact ⟨zu_0, ⟨tyX0, tyX0_ok⟩, nmX0⟩
  | 1, h => cases h; exact ⟨zu_1, ⟨tyX1, tyX1_ok⟩, nmX1⟩
  | 2, h => cases h; exact ⟨zu_2, ⟨tyX2, tyX2_ok⟩, nmX2⟩
  | 3, h => cases h; exact ⟨zu_3, ⟨tyX3, tyX3_ok⟩, nmX3⟩
  | 4, h => cases h; exact ⟨zu_4, ⟨tyX4, tyX4_ok⟩, nmX4⟩
  | 5, h => cases h; exact ⟨zu_5, ⟨tyX5, tyX5_ok⟩, nmX5⟩
  | 6, h => cases h; exact ⟨zu_6, ⟨tyX7, tyX7_ok⟩, nmX7⟩
  | 7, h => cases h; exact ⟨zu_7, ⟨tyX8, tyX8_ok⟩, nmX8⟩
  | 8, h => cases h; exact ⟨zu_8, ⟨tyX9, tyX9_ok⟩, nmX9⟩
  | 9, h => cases h; exact ⟨zu_9, ⟨tyX10, tyX10_ok⟩, nmX10⟩
  | 10, h => cases h; exact ⟨zu_10, ⟨tyX11, tyX11_ok⟩, nmX11⟩
  | 11, h => cases h; exact ⟨zu_11, ⟨tyX12, tyX12_ok⟩, nmX12⟩
  | j + 12, h => cases h
theorem zsteady : ∀ w ∈ zWS, xs_steady w = true := fun w hw => (List.mem_filter.mp hw).2
