/-! ===== cases of the law (gen_la.py) ===== -/
section
variable {L : Nat} {S : Nat → Int32} {e i : Nat} {M : sy_M}
theorem la_42 (I : Inv Ask txo (Int32.ofNat L) S e M) (he : e < 90000) (hb : bo M) (hL : L ≤ 384) (hi : i + 6 ≤ L) : stp L S e i (fun k23 => jfL_law__2372 k23 (Int32.ofNat i) M) := by
  have l0 : M 134 0 = Int32.ofNat L := I.2.2.2.2.2.2.2.2.2.1
  have s0 : M 1000000 = S := I.2.2.2.2.2.2.2.2.2.2
  have z6 : Int32.ofNat i + 6 = Int32.ofNat (i + 6) := zadd i 6
  obtain ⟨v, M1, M3, e1, e2, I3, l1, s1⟩ := o_minimal I
  have b1 := bo_E (by decide +kernel) (jtX11_minimal _ _ e1) hb
  have b3 := bo_E (by decide +kernel) (jtX12_minimal _ _ e2) b1
  refine ⟨M3, fun k23 => ?_, I3, b3⟩
  simp only [jfL_law__2372, jfL_law__3150, l0, s0, sy_bx_t, e1, sy_bi_ri, l1, s1, e2, z6, if_true]
theorem la_43 (I : Inv Ask txo (Int32.ofNat L) S e M) (he : e < 90000) (hb : bo M) (hL : L ≤ 384) (hi : i + 6 ≤ L) : stp L S e i (fun k23 => jfL_law__2385 k23 (Int32.ofNat i) M) := by
  have l0 : M 134 0 = Int32.ofNat L := I.2.2.2.2.2.2.2.2.2.1
  have s0 : M 1000000 = S := I.2.2.2.2.2.2.2.2.2.2
  have z6 : Int32.ofNat i + 6 = Int32.ofNat (i + 6) := zadd i 6
  obtain ⟨v, M1, M3, e1, e2, I3, l1, s1⟩ := o_dummies I
  have b1 := bo_E (by decide +kernel) (jtX11_dummies _ _ e1) hb
  have b3 := bo_E (by decide +kernel) (jtX12_dummies _ _ e2) b1
  refine ⟨M3, fun k23 => ?_, I3, b3⟩
  simp only [jfL_law__2385, jfL_law__3150, l0, s0, sy_bx_t, e1, sy_bi_ri, l1, s1, e2, z6, if_true]
theorem la_44 (I : Inv Ask txo (Int32.ofNat L) S e M) (he : e < 90000) (hb : bo M) (hL : L ≤ 384) (hi : i + 6 ≤ L) : stp L S e i (fun k23 => jfL_law__2398 k23 (Int32.ofNat i) M) := by
  have x1 : xe_in (Int32.ofNat i + 1) (Int32.ofNat L).toNatClampNeg = true := la_in (j := 1) hL hi (by decide)
  have x2 : xe_in (Int32.ofNat i + 2) (Int32.ofNat L).toNatClampNeg = true := la_in (j := 2) hL hi (by decide)
  have l0 : M 134 0 = Int32.ofNat L := I.2.2.2.2.2.2.2.2.2.1
  have s0 : M 1000000 = S := I.2.2.2.2.2.2.2.2.2.2
  have z6 : Int32.ofNat i + 6 = Int32.ofNat (i + 6) := zadd i 6
  obtain ⟨c, v, M1, M3, e1, e2, t3, c4, h0, I3, l1, s1⟩ := o_net I he (S (Int32.toNatClampNeg (Int32.ofNat i + 1))) (S (Int32.toNatClampNeg (Int32.ofNat i + 2)))
  have b1 := bo_E (by decide +kernel) (jtL_net _ _ _ _ e1) hb
  have b3 := bo_E (by decide +kernel) (jtX12_net _ _ _ _ e2) b1
  refine ⟨M3, fun k23 => ?_, I3, b3⟩
  simp only [jfL_law__2398, jfL_law__2463, jfL_law__3150, x1, x2, l0, s0, sy_bx_t, e1, sy_bi_ri, l1, s1, e2, z6, if_true, jfX12_thrown, t3]
  exact thr_end c4 h0
theorem la_45 (I : Inv Ask txo (Int32.ofNat L) S e M) (he : e < 90000) (hb : bo M) (hL : L ≤ 384) (hi : i + 6 ≤ L) : stp L S e i (fun k23 => jfL_law__2466 k23 (Int32.ofNat i) M) := by
  have l0 : M 134 0 = Int32.ofNat L := I.2.2.2.2.2.2.2.2.2.1
  have s0 : M 1000000 = S := I.2.2.2.2.2.2.2.2.2.2
  have z6 : Int32.ofNat i + 6 = Int32.ofNat (i + 6) := zadd i 6
  obtain ⟨v, M1, M3, e1, e2, I3, l1, s1⟩ := o_debt I
  have b1 := bo_E (by decide +kernel) (jtX11_debt _ _ e1) hb
  have b3 := bo_E (by decide +kernel) (jtX12_debt _ _ e2) b1
  refine ⟨M3, fun k23 => ?_, I3, b3⟩
  simp only [jfL_law__2466, jfL_law__3150, l0, s0, sy_bx_t, e1, sy_bi_ri, l1, s1, e2, z6, if_true]
theorem la_46 (I : Inv Ask txo (Int32.ofNat L) S e M) (he : e < 90000) (hb : bo M) (hL : L ≤ 384) (hi : i + 6 ≤ L) : stp L S e i (fun k23 => jfL_law__2479 k23 (Int32.ofNat i) M) := by
  have x1 : xe_in (Int32.ofNat i + 1) (Int32.ofNat L).toNatClampNeg = true := la_in (j := 1) hL hi (by decide)
  have l0 : M 134 0 = Int32.ofNat L := I.2.2.2.2.2.2.2.2.2.1
  have s0 : M 1000000 = S := I.2.2.2.2.2.2.2.2.2.2
  have z6 : Int32.ofNat i + 6 = Int32.ofNat (i + 6) := zadd i 6
  obtain ⟨c, b, M1, M3, e1, e2, t3, c4, h0, I3, l1, s1⟩ := o_ring I he (S (Int32.toNatClampNeg (Int32.ofNat i + 1)))
  have b1 := bo_E (by decide +kernel) (jtL_ring _ _ _ e1) hb
  have b3 := bo_E (by decide +kernel) (jtX12_ring _ _ _ e2) b1
  refine ⟨M3, fun k23 => ?_, I3, b3⟩
  simp only [jfL_law__2479, jfL_law__2533, jfL_law__2539, jfL_law__3150, x1, l0, s0, sy_bx_t, e1, sy_bi_ri, l1, s1, e2, z6, if_true, jfX12_thrown, t3]
  exact thr_endB c4 h0
theorem la_47 (I : Inv Ask txo (Int32.ofNat L) S e M) (he : e < 90000) (hb : bo M) (hL : L ≤ 384) (hi : i + 6 ≤ L) : stp L S e i (fun k23 => jfL_law__2542 k23 (Int32.ofNat i) M) := by
  have l0 : M 134 0 = Int32.ofNat L := I.2.2.2.2.2.2.2.2.2.1
  have s0 : M 1000000 = S := I.2.2.2.2.2.2.2.2.2.2
  have z6 : Int32.ofNat i + 6 = Int32.ofNat (i + 6) := zadd i 6
  obtain ⟨v, M1, M3, e1, e2, I3, l1, s1⟩ := o_poorest I
  have b1 := bo_E (by decide +kernel) (jtX11_poorest _ _ e1) hb
  have b3 := bo_E (by decide +kernel) (jtX12_poorest _ _ e2) b1
  refine ⟨M3, fun k23 => ?_, I3, b3⟩
  simp only [jfL_law__2542, jfL_law__3150, l0, s0, sy_bx_t, e1, sy_bi_ri, l1, s1, e2, z6, if_true]
theorem la_48 (I : Inv Ask txo (Int32.ofNat L) S e M) (he : e < 90000) (hb : bo M) (hL : L ≤ 384) (hi : i + 6 ≤ L) : stp L S e i (fun k23 => jfL_law__2555 k23 (Int32.ofNat i) M) := by
  have x1 : xe_in (Int32.ofNat i + 1) (Int32.ofNat L).toNatClampNeg = true := la_in (j := 1) hL hi (by decide)
  have x2 : xe_in (Int32.ofNat i + 2) (Int32.ofNat L).toNatClampNeg = true := la_in (j := 2) hL hi (by decide)
  have l0 : M 134 0 = Int32.ofNat L := I.2.2.2.2.2.2.2.2.2.1
  have s0 : M 1000000 = S := I.2.2.2.2.2.2.2.2.2.2
  have z6 : Int32.ofNat i + 6 = Int32.ofNat (i + 6) := zadd i 6
  obtain ⟨c, v, M1, M3, e1, e2, t3, c4, h0, I3, l1, s1⟩ := o_rests I he (S (Int32.toNatClampNeg (Int32.ofNat i + 1))) (S (Int32.toNatClampNeg (Int32.ofNat i + 2)))
  have b1 := bo_E (by decide +kernel) (jtL_rests _ _ _ _ e1) hb
  have b3 := bo_E (by decide +kernel) (jtX12_rests _ _ _ _ e2) b1
  refine ⟨M3, fun k23 => ?_, I3, b3⟩
  simp only [jfL_law__2555, jfL_law__2620, jfL_law__3150, x1, x2, l0, s0, sy_bx_t, e1, sy_bi_ri, l1, s1, e2, z6, if_true, jfX12_thrown, t3]
  exact thr_end c4 h0
theorem la_49 (I : Inv Ask txo (Int32.ofNat L) S e M) (he : e < 90000) (hb : bo M) (hL : L ≤ 384) (hi : i + 6 ≤ L) : stp L S e i (fun k23 => jfL_law__2623 k23 (Int32.ofNat i) M) := by
  have x1 : xe_in (Int32.ofNat i + 1) (Int32.ofNat L).toNatClampNeg = true := la_in (j := 1) hL hi (by decide)
  have x2 : xe_in (Int32.ofNat i + 2) (Int32.ofNat L).toNatClampNeg = true := la_in (j := 2) hL hi (by decide)
  have l0 : M 134 0 = Int32.ofNat L := I.2.2.2.2.2.2.2.2.2.1
  have s0 : M 1000000 = S := I.2.2.2.2.2.2.2.2.2.2
  have z6 : Int32.ofNat i + 6 = Int32.ofNat (i + 6) := zadd i 6
  obtain ⟨c, v, M1, M3, e1, e2, t3, c4, h0, I3, l1, s1⟩ := o_odds I he (S (Int32.toNatClampNeg (Int32.ofNat i + 1))) (S (Int32.toNatClampNeg (Int32.ofNat i + 2)))
  have b1 := bo_E (by decide +kernel) (jtL_odds _ _ _ _ e1) hb
  have b3 := bo_E (by decide +kernel) (jtX12_odds _ _ _ _ e2) b1
  refine ⟨M3, fun k23 => ?_, I3, b3⟩
  simp only [jfL_law__2623, jfL_law__2688, jfL_law__3150, x1, x2, l0, s0, sy_bx_t, e1, sy_bi_ri, l1, s1, e2, z6, if_true, jfX12_thrown, t3]
  exact thr_end c4 h0
theorem la_50 (I : Inv Ask txo (Int32.ofNat L) S e M) (he : e < 90000) (hb : bo M) (hL : L ≤ 384) (hi : i + 6 ≤ L) : stp L S e i (fun k23 => jfL_law__2691 k23 (Int32.ofNat i) M) := by
  have l0 : M 134 0 = Int32.ofNat L := I.2.2.2.2.2.2.2.2.2.1
  have s0 : M 1000000 = S := I.2.2.2.2.2.2.2.2.2.2
  have z6 : Int32.ofNat i + 6 = Int32.ofNat (i + 6) := zadd i 6
  obtain ⟨v, M1, M3, e1, e2, I3, l1, s1⟩ := o_busy I
  have b1 := bo_E (by decide +kernel) (jtX11_busy _ _ e1) hb
  have b3 := bo_E (by decide +kernel) (jtX12_busy _ _ e2) b1
  refine ⟨M3, fun k23 => ?_, I3, b3⟩
  simp only [jfL_law__2691, jfL_law__3150, l0, s0, sy_bx_t, e1, sy_bi_ri, l1, s1, e2, z6, if_true]
theorem la_51 (I : Inv Ask txo (Int32.ofNat L) S e M) (he : e < 90000) (hb : bo M) (hL : L ≤ 384) (hi : i + 6 ≤ L) : stp L S e i (fun k23 => jfL_law__2704 k23 (Int32.ofNat i) M) := by
  have l0 : M 134 0 = Int32.ofNat L := I.2.2.2.2.2.2.2.2.2.1
  have s0 : M 1000000 = S := I.2.2.2.2.2.2.2.2.2.2
  have z6 : Int32.ofNat i + 6 = Int32.ofNat (i + 6) := zadd i 6
  obtain ⟨v, M1, M3, e1, e2, I3, l1, s1⟩ := o_alone I
  have b1 := bo_E (by decide +kernel) (jtX11_alone _ _ e1) hb
  have b3 := bo_E (by decide +kernel) (jtX12_alone _ _ e2) b1
  refine ⟨M3, fun k23 => ?_, I3, b3⟩
  simp only [jfL_law__2704, jfL_law__3150, l0, s0, sy_bx_t, e1, sy_bi_ri, l1, s1, e2, z6, if_true]
theorem la_52 (I : Inv Ask txo (Int32.ofNat L) S e M) (he : e < 90000) (hb : bo M) (hL : L ≤ 384) (hi : i + 6 ≤ L) : stp L S e i (fun k23 => jfL_law__2717 k23 (Int32.ofNat i) M) := by
  have l0 : M 134 0 = Int32.ofNat L := I.2.2.2.2.2.2.2.2.2.1
  have s0 : M 1000000 = S := I.2.2.2.2.2.2.2.2.2.2
  have z6 : Int32.ofNat i + 6 = Int32.ofNat (i + 6) := zadd i 6
  obtain ⟨v, M1, M3, e1, e2, I3, l1, s1⟩ := o_miser I
  have b1 := bo_E (by decide +kernel) (jtX11_miser _ _ e1) hb
  have b3 := bo_E (by decide +kernel) (jtX12_miser _ _ e2) b1
  refine ⟨M3, fun k23 => ?_, I3, b3⟩
  simp only [jfL_law__2717, jfL_law__3150, l0, s0, sy_bx_t, e1, sy_bi_ri, l1, s1, e2, z6, if_true]
theorem la_53 (I : Inv Ask txo (Int32.ofNat L) S e M) (he : e < 90000) (hb : bo M) (hL : L ≤ 384) (hi : i + 6 ≤ L) : stp L S e i (fun k23 => jfL_law__2730 k23 (Int32.ofNat i) M) := by
  have l0 : M 134 0 = Int32.ofNat L := I.2.2.2.2.2.2.2.2.2.1
  have s0 : M 1000000 = S := I.2.2.2.2.2.2.2.2.2.2
  have z6 : Int32.ofNat i + 6 = Int32.ofNat (i + 6) := zadd i 6
  obtain ⟨v, M1, M3, e1, e2, I3, l1, s1⟩ := o_alike I
  have b1 := bo_E (by decide +kernel) (jtX11_alike _ _ e1) hb
  have b3 := bo_E (by decide +kernel) (jtX12_alike _ _ e2) b1
  refine ⟨M3, fun k23 => ?_, I3, b3⟩
  simp only [jfL_law__2730, jfL_law__3150, l0, s0, sy_bx_t, e1, sy_bi_ri, l1, s1, e2, z6, if_true]
theorem la_54 (I : Inv Ask txo (Int32.ofNat L) S e M) (he : e < 90000) (hb : bo M) (hL : L ≤ 384) (hi : i + 6 ≤ L) : stp L S e i (fun k23 => jfL_law__2743 k23 (Int32.ofNat i) M) := by
  have x1 : xe_in (Int32.ofNat i + 1) (Int32.ofNat L).toNatClampNeg = true := la_in (j := 1) hL hi (by decide)
  have x2 : xe_in (Int32.ofNat i + 2) (Int32.ofNat L).toNatClampNeg = true := la_in (j := 2) hL hi (by decide)
  have l0 : M 134 0 = Int32.ofNat L := I.2.2.2.2.2.2.2.2.2.1
  have s0 : M 1000000 = S := I.2.2.2.2.2.2.2.2.2.2
  have z6 : Int32.ofNat i + 6 = Int32.ofNat (i + 6) := zadd i 6
  by_cases hz : S (Int32.toNatClampNeg (Int32.ofNat i + 2)) = 0
  · obtain ⟨c, v, M1, M3, e1, e2, t3, c4, h0, I3, l1, s1⟩ := o_trial mAK_Ask I he (S (Int32.toNatClampNeg (Int32.ofNat i + 1))) false
    replace e1 : jfL_trial (S (Int32.toNatClampNeg (Int32.ofNat i + 1))) 0 M = _ := e1
    replace e2 : jfX12_trial (S (Int32.toNatClampNeg (Int32.ofNat i + 1))) 0 M1 = _ := e2
    have b1 := bo_E (by decide +kernel) (jtL_trial _ _ _ _ e1) hb
    have b3 := bo_E (by decide +kernel) (jtX12_trial _ _ _ _ e2) b1
    refine ⟨M3, fun k23 => ?_, I3, b3⟩
    simp only [jfL_law__2743, jfL_law__2764, jfL_law__2791, jfL_law__2824, jfL_law__3150, x1, x2, l0, s0, sy_bx_t, e1, sy_bi_ri, l1, s1, e2, z6, if_true, hz, if_false, jfX12_thrown, t3]
    exact thr_end c4 h0
  · obtain ⟨c, v, M1, M3, e1, e2, t3, c4, h0, I3, l1, s1⟩ := o_trial mAK_Ask I he (S (Int32.toNatClampNeg (Int32.ofNat i + 1))) true
    replace e1 : jfL_trial (S (Int32.toNatClampNeg (Int32.ofNat i + 1))) 1 M = _ := e1
    replace e2 : jfX12_trial (S (Int32.toNatClampNeg (Int32.ofNat i + 1))) 1 M1 = _ := e2
    have b1 := bo_E (by decide +kernel) (jtL_trial _ _ _ _ e1) hb
    have b3 := bo_E (by decide +kernel) (jtX12_trial _ _ _ _ e2) b1
    refine ⟨M3, fun k23 => ?_, I3, b3⟩
    simp only [jfL_law__2743, jfL_law__2764, jfL_law__2791, jfL_law__2824, jfL_law__3150, x1, x2, l0, s0, sy_bx_t, e1, sy_bi_ri, l1, s1, e2, z6, if_true, hz, if_false, jfX12_thrown, t3]
    exact thr_end c4 h0
theorem la_55 (I : Inv Ask txo (Int32.ofNat L) S e M) (he : e < 90000) (hb : bo M) (hL : L ≤ 384) (hi : i + 6 ≤ L) : stp L S e i (fun k23 => jfL_law__2827 k23 (Int32.ofNat i) M) := by
  have x1 : xe_in (Int32.ofNat i + 1) (Int32.ofNat L).toNatClampNeg = true := la_in (j := 1) hL hi (by decide)
  have x2 : xe_in (Int32.ofNat i + 2) (Int32.ofNat L).toNatClampNeg = true := la_in (j := 2) hL hi (by decide)
  have l0 : M 134 0 = Int32.ofNat L := I.2.2.2.2.2.2.2.2.2.1
  have s0 : M 1000000 = S := I.2.2.2.2.2.2.2.2.2.2
  have z6 : Int32.ofNat i + 6 = Int32.ofNat (i + 6) := zadd i 6
  by_cases hz : S (Int32.toNatClampNeg (Int32.ofNat i + 2)) = 0
  · obtain ⟨c, v, M1, M3, e1, e2, t3, c4, h0, I3, l1, s1⟩ := o_span mAK_Ask I he (S (Int32.toNatClampNeg (Int32.ofNat i + 1))) false
    replace e1 : jfL_span (S (Int32.toNatClampNeg (Int32.ofNat i + 1))) 0 M = _ := e1
    replace e2 : jfX12_span (S (Int32.toNatClampNeg (Int32.ofNat i + 1))) 0 M1 = _ := e2
    have b1 := bo_E (by decide +kernel) (jtL_span _ _ _ _ e1) hb
    have b3 := bo_E (by decide +kernel) (jtX12_span _ _ _ _ e2) b1
    refine ⟨M3, fun k23 => ?_, I3, b3⟩
    simp only [jfL_law__2827, jfL_law__2848, jfL_law__2875, jfL_law__2908, jfL_law__3150, x1, x2, l0, s0, sy_bx_t, e1, sy_bi_ri, l1, s1, e2, z6, if_true, hz, if_false, jfX12_thrown, t3]
    exact thr_end c4 h0
  · obtain ⟨c, v, M1, M3, e1, e2, t3, c4, h0, I3, l1, s1⟩ := o_span mAK_Ask I he (S (Int32.toNatClampNeg (Int32.ofNat i + 1))) true
    replace e1 : jfL_span (S (Int32.toNatClampNeg (Int32.ofNat i + 1))) 1 M = _ := e1
    replace e2 : jfX12_span (S (Int32.toNatClampNeg (Int32.ofNat i + 1))) 1 M1 = _ := e2
    have b1 := bo_E (by decide +kernel) (jtL_span _ _ _ _ e1) hb
    have b3 := bo_E (by decide +kernel) (jtX12_span _ _ _ _ e2) b1
    refine ⟨M3, fun k23 => ?_, I3, b3⟩
    simp only [jfL_law__2827, jfL_law__2848, jfL_law__2875, jfL_law__2908, jfL_law__3150, x1, x2, l0, s0, sy_bx_t, e1, sy_bi_ri, l1, s1, e2, z6, if_true, hz, if_false, jfX12_thrown, t3]
    exact thr_end c4 h0
theorem la_56 (I : Inv Ask txo (Int32.ofNat L) S e M) (he : e < 90000) (hb : bo M) (hL : L ≤ 384) (hi : i + 6 ≤ L) : stp L S e i (fun k23 => jfL_law__2911 k23 (Int32.ofNat i) M) := by
  have x1 : xe_in (Int32.ofNat i + 1) (Int32.ofNat L).toNatClampNeg = true := la_in (j := 1) hL hi (by decide)
  have x2 : xe_in (Int32.ofNat i + 2) (Int32.ofNat L).toNatClampNeg = true := la_in (j := 2) hL hi (by decide)
  have l0 : M 134 0 = Int32.ofNat L := I.2.2.2.2.2.2.2.2.2.1
  have s0 : M 1000000 = S := I.2.2.2.2.2.2.2.2.2.2
  have z6 : Int32.ofNat i + 6 = Int32.ofNat (i + 6) := zadd i 6
  by_cases hz : S (Int32.toNatClampNeg (Int32.ofNat i + 2)) = 0
  · obtain ⟨c, v, M1, M3, e1, e2, t3, c4, h0, I3, l1, s1⟩ := o_led I he (S (Int32.toNatClampNeg (Int32.ofNat i + 1))) false
    replace e1 : jfL_led (S (Int32.toNatClampNeg (Int32.ofNat i + 1))) 0 M = _ := e1
    replace e2 : jfX12_led (S (Int32.toNatClampNeg (Int32.ofNat i + 1))) 0 M1 = _ := e2
    have b1 := bo_E (by decide +kernel) (jtL_led _ _ _ _ e1) hb
    have b3 := bo_E (by decide +kernel) (jtX12_led _ _ _ _ e2) b1
    refine ⟨M3, fun k23 => ?_, I3, b3⟩
    simp only [jfL_law__2911, jfL_law__2932, jfL_law__2959, jfL_law__2992, jfL_law__3150, x1, x2, l0, s0, sy_bx_t, e1, sy_bi_ri, l1, s1, e2, z6, if_true, hz, if_false, jfX12_thrown, t3]
    exact thr_end c4 h0
  · obtain ⟨c, v, M1, M3, e1, e2, t3, c4, h0, I3, l1, s1⟩ := o_led I he (S (Int32.toNatClampNeg (Int32.ofNat i + 1))) true
    replace e1 : jfL_led (S (Int32.toNatClampNeg (Int32.ofNat i + 1))) 1 M = _ := e1
    replace e2 : jfX12_led (S (Int32.toNatClampNeg (Int32.ofNat i + 1))) 1 M1 = _ := e2
    have b1 := bo_E (by decide +kernel) (jtL_led _ _ _ _ e1) hb
    have b3 := bo_E (by decide +kernel) (jtX12_led _ _ _ _ e2) b1
    refine ⟨M3, fun k23 => ?_, I3, b3⟩
    simp only [jfL_law__2911, jfL_law__2932, jfL_law__2959, jfL_law__2992, jfL_law__3150, x1, x2, l0, s0, sy_bx_t, e1, sy_bi_ri, l1, s1, e2, z6, if_true, hz, if_false, jfX12_thrown, t3]
    exact thr_end c4 h0
theorem la_57 (I : Inv Ask txo (Int32.ofNat L) S e M) (he : e < 90000) (hb : bo M) (hL : L ≤ 384) (hi : i + 6 ≤ L) : stp L S e i (fun k23 => jfL_law__2995 k23 (Int32.ofNat i) M) := by
  have x1 : xe_in (Int32.ofNat i + 1) (Int32.ofNat L).toNatClampNeg = true := la_in (j := 1) hL hi (by decide)
  have x2 : xe_in (Int32.ofNat i + 2) (Int32.ofNat L).toNatClampNeg = true := la_in (j := 2) hL hi (by decide)
  have l0 : M 134 0 = Int32.ofNat L := I.2.2.2.2.2.2.2.2.2.1
  have s0 : M 1000000 = S := I.2.2.2.2.2.2.2.2.2.2
  have z6 : Int32.ofNat i + 6 = Int32.ofNat (i + 6) := zadd i 6
  obtain ⟨c, v, M1, M3, e1, e2, t3, c4, h0, I3, l1, s1⟩ := o_log I he (S (Int32.toNatClampNeg (Int32.ofNat i + 1))) (S (Int32.toNatClampNeg (Int32.ofNat i + 2)))
  have b1 := bo_E (by decide +kernel) (jtL_log _ _ _ _ e1) hb
  have b3 := bo_E (by decide +kernel) (jtX12_log _ _ _ _ e2) b1
  refine ⟨M3, fun k23 => ?_, I3, b3⟩
  simp only [jfL_law__2995, jfL_law__3060, jfL_law__3150, x1, x2, l0, s0, sy_bx_t, e1, sy_bi_ri, l1, s1, e2, z6, if_true, jfX12_thrown, t3]
  exact thr_end c4 h0
theorem la_58 (I : Inv Ask txo (Int32.ofNat L) S e M) (he : e < 90000) (hb : bo M) (hL : L ≤ 384) (hi : i + 6 ≤ L) : stp L S e i (fun k23 => jfL_law__3063 k23 (Int32.ofNat i) M) := by
  have x1 : xe_in (Int32.ofNat i + 1) (Int32.ofNat L).toNatClampNeg = true := la_in (j := 1) hL hi (by decide)
  have l0 : M 134 0 = Int32.ofNat L := I.2.2.2.2.2.2.2.2.2.1
  have s0 : M 1000000 = S := I.2.2.2.2.2.2.2.2.2.2
  have z6 : Int32.ofNat i + 6 = Int32.ofNat (i + 6) := zadd i 6
  obtain ⟨v, M1, M3, e1, e2, I3, l1, s1⟩ := o_seed mAK_Ask I (S (Int32.toNatClampNeg (Int32.ofNat i + 1)))
  have b1 := bo_E (by decide +kernel) (jtX11_seed _ _ _ e1) hb
  have b3 := bo_E (by decide +kernel) (jtX12_seed _ _ _ e2) b1
  refine ⟨M3, fun k23 => ?_, I3, b3⟩
  simp only [jfL_law__3063, jfL_law__3150, x1, l0, s0, sy_bx_t, e1, sy_bi_ri, l1, s1, e2, z6, if_true]
theorem la_59 (I : Inv Ask txo (Int32.ofNat L) S e M) (he : e < 90000) (hb : bo M) (hL : L ≤ 384) (hi : i + 6 ≤ L) : stp L S e i (fun k23 => jfL_law__3088 k23 (Int32.ofNat i) M) := by
  have l0 : M 134 0 = Int32.ofNat L := I.2.2.2.2.2.2.2.2.2.1
  have s0 : M 1000000 = S := I.2.2.2.2.2.2.2.2.2.2
  have z6 : Int32.ofNat i + 6 = Int32.ofNat (i + 6) := zadd i 6
  obtain ⟨v, M1, M3, e1, e2, I3, l1, s1⟩ := o_undo mAK_Ask I
  have b1 := bo_E (by decide +kernel) (jtX11_undo _ _ e1) hb
  have b3 := bo_E (by decide +kernel) (jtX12_undo _ _ e2) b1
  refine ⟨M3, fun k23 => ?_, I3, b3⟩
  simp only [jfL_law__3088, jfL_law__3150, l0, s0, sy_bx_t, e1, sy_bi_ri, l1, s1, e2, z6, if_true]
theorem la_60 (I : Inv Ask txo (Int32.ofNat L) S e M) (he : e < 90000) (hb : bo M) (hL : L ≤ 384) (hi : i + 6 ≤ L) : stp L S e i (fun k23 => jfL_law__3101 k23 (Int32.ofNat i) M) := by
  have l0 : M 134 0 = Int32.ofNat L := I.2.2.2.2.2.2.2.2.2.1
  have s0 : M 1000000 = S := I.2.2.2.2.2.2.2.2.2.2
  have z6 : Int32.ofNat i + 6 = Int32.ofNat (i + 6) := zadd i 6
  obtain ⟨M1, M3, e1, e2, I3, l1, s1⟩ := o_image I
  have b1 := bo_E (by decide +kernel) (jtX11_image _ _ e1) hb
  have b3 := bo_E (by decide +kernel) (jtX12_image _ _ e2) b1
  refine ⟨M3, fun k23 => ?_, I3, b3⟩
  simp only [jfL_law__3101, jfL_law__3150, l0, s0, sy_bx_t, e1, sy_bi_ri, l1, s1, e2, z6, if_true, sy_bv_rv]
theorem la_61 (I : Inv Ask txo (Int32.ofNat L) S e M) (he : e < 90000) (hb : bo M) (hL : L ≤ 384) (hi : i + 6 ≤ L) : stp L S e i (fun k23 => jfL_law__3112 k23 (Int32.ofNat i) M) := by
  have l0 : M 134 0 = Int32.ofNat L := I.2.2.2.2.2.2.2.2.2.1
  have s0 : M 1000000 = S := I.2.2.2.2.2.2.2.2.2.2
  have z6 : Int32.ofNat i + 6 = Int32.ofNat (i + 6) := zadd i 6
  obtain ⟨v, M1, M3, e1, e2, I3, l1, s1⟩ := o_back I
  have b1 := bo_E (by decide +kernel) (jtX11_back _ _ e1) hb
  have b3 := bo_E (by decide +kernel) (jtX12_back _ _ e2) b1
  refine ⟨M3, fun k23 => ?_, I3, b3⟩
  simp only [jfL_law__3112, jfL_law__3150, l0, s0, sy_bx_t, e1, sy_bi_ri, l1, s1, e2, z6, if_true]
theorem la_62 (I : Inv Ask txo (Int32.ofNat L) S e M) (he : e < 90000) (hb : bo M) (hL : L ≤ 384) (hi : i + 6 ≤ L) : stp L S e i (fun k23 => jfL_law__3125 k23 (Int32.ofNat i) M) := by
  have x1 : xe_in (Int32.ofNat i + 1) (Int32.ofNat L).toNatClampNeg = true := la_in (j := 1) hL hi (by decide)
  have l0 : M 134 0 = Int32.ofNat L := I.2.2.2.2.2.2.2.2.2.1
  have s0 : M 1000000 = S := I.2.2.2.2.2.2.2.2.2.2
  have z6 : Int32.ofNat i + 6 = Int32.ofNat (i + 6) := zadd i 6
  obtain ⟨v, M1, M3, e1, e2, I3, l1, s1⟩ := o_count I (S (Int32.toNatClampNeg (Int32.ofNat i + 1)))
  have b1 := bo_E (by decide +kernel) (jtX11_count _ _ _ e1) hb
  have b3 := bo_E (by decide +kernel) (jtX12_count _ _ _ e2) b1
  refine ⟨M3, fun k23 => ?_, I3, b3⟩
  simp only [jfL_law__3125, jfL_law__3150, x1, l0, s0, sy_bx_t, e1, sy_bi_ri, l1, s1, e2, z6, if_true]
end
