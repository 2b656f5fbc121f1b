/-! ===== cases of the law (gen_la.py) ===== -/
section
variable {L : Nat} {S : Nat → Int32} {e i : Nat} {M : sy_M}
theorem la_0 (I : Inv Ask txo (Int32.ofNat L) S e M) (he : e < 90000) (hb : bo M) (hL : L ≤ 384) (hi : i + 6 ≤ L) : stp L S e i (fun k23 => jfL_law__308 k23 (Int32.ofNat i) M) := by
  have x1 : xe_in (Int32.ofNat i + 1) (Int32.ofNat L).toNatClampNeg = true := la_in (j := 1) hL hi (by decide)
  have x2 : xe_in (Int32.ofNat i + 2) (Int32.ofNat L).toNatClampNeg = true := la_in (j := 2) hL hi (by decide)
  have x3 : xe_in (Int32.ofNat i + 3) (Int32.ofNat L).toNatClampNeg = true := la_in (j := 3) hL hi (by decide)
  have x4 : xe_in (Int32.ofNat i + 4) (Int32.ofNat L).toNatClampNeg = true := la_in (j := 4) hL hi (by decide)
  have x5 : xe_in (Int32.ofNat i + 5) (Int32.ofNat L).toNatClampNeg = true := la_in (j := 5) hL hi (by decide)
  have l0 : M 134 0 = Int32.ofNat L := I.2.2.2.2.2.2.2.2.2.1
  have s0 : M 1000000 = S := I.2.2.2.2.2.2.2.2.2.2
  have z6 : Int32.ofNat i + 6 = Int32.ofNat (i + 6) := zadd i 6
  obtain ⟨v, M1, M3, e1, e2, I3, l1, s1⟩ := o_feed I (S (Int32.toNatClampNeg (Int32.ofNat i + 1))) (S (Int32.toNatClampNeg (Int32.ofNat i + 2))) (S (Int32.toNatClampNeg (Int32.ofNat i + 3))) (S (Int32.toNatClampNeg (Int32.ofNat i + 4))) (S (Int32.toNatClampNeg (Int32.ofNat i + 5)))
  have b1 := bo_E (by decide +kernel) (jtX11_feed _ _ _ _ _ _ _ e1) hb
  have b3 := bo_E (by decide +kernel) (jtX12_feed _ _ _ _ _ _ _ e2) b1
  refine ⟨M3, fun k23 => ?_, I3, b3⟩
  simp only [jfL_law__308, jfL_law__3150, x1, x2, x3, x4, x5, l0, s0, sy_bx_t, e1, sy_bi_ri, l1, s1, e2, z6, if_true]
theorem la_1 (I : Inv Ask txo (Int32.ofNat L) S e M) (he : e < 90000) (hb : bo M) (hL : L ≤ 384) (hi : i + 6 ≤ L) : stp L S e i (fun k23 => jfL_law__381 k23 (Int32.ofNat i) M) := by
  have x1 : xe_in (Int32.ofNat i + 1) (Int32.ofNat L).toNatClampNeg = true := la_in (j := 1) hL hi (by decide)
  have l0 : M 134 0 = Int32.ofNat L := I.2.2.2.2.2.2.2.2.2.1
  have s0 : M 1000000 = S := I.2.2.2.2.2.2.2.2.2.2
  have z6 : Int32.ofNat i + 6 = Int32.ofNat (i + 6) := zadd i 6
  obtain ⟨v, M1, M3, e1, e2, I3, l1, s1⟩ := o_end I (S (Int32.toNatClampNeg (Int32.ofNat i + 1)))
  have b1 := bo_E (by decide +kernel) (jtX11_end _ _ _ e1) hb
  have b3 := bo_E (by decide +kernel) (jtX12_end _ _ _ e2) b1
  refine ⟨M3, fun k23 => ?_, I3, b3⟩
  simp only [jfL_law__381, jfL_law__3150, x1, l0, s0, sy_bx_t, e1, sy_bi_ri, l1, s1, e2, z6, if_true]
theorem la_2 (I : Inv Ask txo (Int32.ofNat L) S e M) (he : e < 90000) (hb : bo M) (hL : L ≤ 384) (hi : i + 6 ≤ L) : stp L S e i (fun k23 => jfL_law__406 k23 (Int32.ofNat i) M) := by
  have l0 : M 134 0 = Int32.ofNat L := I.2.2.2.2.2.2.2.2.2.1
  have s0 : M 1000000 = S := I.2.2.2.2.2.2.2.2.2.2
  have z6 : Int32.ofNat i + 6 = Int32.ofNat (i + 6) := zadd i 6
  obtain ⟨c, v, M1, M3, e1, e2, t3, c4, h0, I3, l1, s1⟩ := o_house mAK_Ask I he
  have b1 := bo_E (by decide +kernel) (jtL_house _ _ e1) hb
  have b3 := bo_E (by decide +kernel) (jtX12_house _ _ e2) b1
  refine ⟨M3, fun k23 => ?_, I3, b3⟩
  simp only [jfL_law__406, jfL_law__447, jfL_law__3150, l0, s0, sy_bx_t, e1, sy_bi_ri, l1, s1, e2, z6, if_true, jfX12_thrown, t3]
  exact thr_end c4 h0
theorem la_3 (I : Inv Ask txo (Int32.ofNat L) S e M) (he : e < 90000) (hb : bo M) (hL : L ≤ 384) (hi : i + 6 ≤ L) : stp L S e i (fun k23 => jfL_law__450 k23 (Int32.ofNat i) M) := by
  have l0 : M 134 0 = Int32.ofNat L := I.2.2.2.2.2.2.2.2.2.1
  have s0 : M 1000000 = S := I.2.2.2.2.2.2.2.2.2.2
  have z6 : Int32.ofNat i + 6 = Int32.ofNat (i + 6) := zadd i 6
  obtain ⟨c, v, M1, M3, e1, e2, t3, c4, h0, I3, l1, s1⟩ := o_law I he hb
  have b1 := bo_E (by decide +kernel) (jtL_law _ _ e1) hb
  have b3 := bo_E (by decide +kernel) (jtX12_law _ _ e2) b1
  refine ⟨M3, fun k23 => ?_, I3, b3⟩
  simp only [jfL_law__450, jfL_law__491, jfL_law__3150, l0, s0, sy_bx_t, e1, sy_bi_ri, l1, s1, e2, z6, if_true, jfX12_thrown, t3]
  exact thr_end c4 h0
theorem la_4 (I : Inv Ask txo (Int32.ofNat L) S e M) (he : e < 90000) (hb : bo M) (hL : L ≤ 384) (hi : i + 6 ≤ L) : stp L S e i (fun k23 => jfL_law__494 k23 (Int32.ofNat i) M) := by
  have l0 : M 134 0 = Int32.ofNat L := I.2.2.2.2.2.2.2.2.2.1
  have s0 : M 1000000 = S := I.2.2.2.2.2.2.2.2.2.2
  have z6 : Int32.ofNat i + 6 = Int32.ofNat (i + 6) := zadd i 6
  obtain ⟨v, M1, M3, e1, e2, I3, l1, s1⟩ := o_fault I
  have b1 := bo_E (by decide +kernel) (jtX11_fault _ _ e1) hb
  have b3 := bo_E (by decide +kernel) (jtX12_fault _ _ e2) b1
  refine ⟨M3, fun k23 => ?_, I3, b3⟩
  simp only [jfL_law__494, jfL_law__3150, l0, s0, sy_bx_t, e1, sy_bi_ri, l1, s1, e2, z6, if_true]
theorem la_5 (I : Inv Ask txo (Int32.ofNat L) S e M) (he : e < 90000) (hb : bo M) (hL : L ≤ 384) (hi : i + 6 ≤ L) : stp L S e i (fun k23 => jfL_law__507 k23 (Int32.ofNat i) M) := by
  have x1 : xe_in (Int32.ofNat i + 1) (Int32.ofNat L).toNatClampNeg = true := la_in (j := 1) hL hi (by decide)
  have x2 : xe_in (Int32.ofNat i + 2) (Int32.ofNat L).toNatClampNeg = true := la_in (j := 2) hL hi (by decide)
  have l0 : M 134 0 = Int32.ofNat L := I.2.2.2.2.2.2.2.2.2.1
  have s0 : M 1000000 = S := I.2.2.2.2.2.2.2.2.2.2
  have z6 : Int32.ofNat i + 6 = Int32.ofNat (i + 6) := zadd i 6
  obtain ⟨c, v, M1, M3, e1, e2, t3, c4, h0, I3, l1, s1⟩ := o_lodger mAK_Ask I he (S (Int32.toNatClampNeg (Int32.ofNat i + 1))) (S (Int32.toNatClampNeg (Int32.ofNat i + 2)))
  have b1 := bo_E (by decide +kernel) (jtL_lodger _ _ _ _ e1) hb
  have b3 := bo_E (by decide +kernel) (jtX12_lodger _ _ _ _ e2) b1
  refine ⟨M3, fun k23 => ?_, I3, b3⟩
  simp only [jfL_law__507, jfL_law__572, jfL_law__3150, x1, x2, l0, s0, sy_bx_t, e1, sy_bi_ri, l1, s1, e2, z6, if_true, jfX12_thrown, t3]
  exact thr_end c4 h0
theorem la_6 (I : Inv Ask txo (Int32.ofNat L) S e M) (he : e < 90000) (hb : bo M) (hL : L ≤ 384) (hi : i + 6 ≤ L) : stp L S e i (fun k23 => jfL_law__575 k23 (Int32.ofNat i) M) := by
  have x1 : xe_in (Int32.ofNat i + 1) (Int32.ofNat L).toNatClampNeg = true := la_in (j := 1) hL hi (by decide)
  have x2 : xe_in (Int32.ofNat i + 2) (Int32.ofNat L).toNatClampNeg = true := la_in (j := 2) hL hi (by decide)
  have l0 : M 134 0 = Int32.ofNat L := I.2.2.2.2.2.2.2.2.2.1
  have s0 : M 1000000 = S := I.2.2.2.2.2.2.2.2.2.2
  have z6 : Int32.ofNat i + 6 = Int32.ofNat (i + 6) := zadd i 6
  obtain ⟨c, v, M1, M3, e1, e2, t3, c4, h0, I3, l1, s1⟩ := o_owes I he (S (Int32.toNatClampNeg (Int32.ofNat i + 1))) (S (Int32.toNatClampNeg (Int32.ofNat i + 2)))
  have b1 := bo_E (by decide +kernel) (jtL_owes _ _ _ _ e1) hb
  have b3 := bo_E (by decide +kernel) (jtX12_owes _ _ _ _ e2) b1
  refine ⟨M3, fun k23 => ?_, I3, b3⟩
  simp only [jfL_law__575, jfL_law__640, jfL_law__3150, x1, x2, l0, s0, sy_bx_t, e1, sy_bi_ri, l1, s1, e2, z6, if_true, jfX12_thrown, t3]
  exact thr_end c4 h0
theorem la_7 (I : Inv Ask txo (Int32.ofNat L) S e M) (he : e < 90000) (hb : bo M) (hL : L ≤ 384) (hi : i + 6 ≤ L) : stp L S e i (fun k23 => jfL_law__643 k23 (Int32.ofNat i) M) := by
  have x1 : xe_in (Int32.ofNat i + 1) (Int32.ofNat L).toNatClampNeg = true := la_in (j := 1) hL hi (by decide)
  have x2 : xe_in (Int32.ofNat i + 2) (Int32.ofNat L).toNatClampNeg = true := la_in (j := 2) hL hi (by decide)
  have l0 : M 134 0 = Int32.ofNat L := I.2.2.2.2.2.2.2.2.2.1
  have s0 : M 1000000 = S := I.2.2.2.2.2.2.2.2.2.2
  have z6 : Int32.ofNat i + 6 = Int32.ofNat (i + 6) := zadd i 6
  obtain ⟨c, b, M1, M3, e1, e2, t3, c4, h0, I3, l1, s1⟩ := o_isHome I he (S (Int32.toNatClampNeg (Int32.ofNat i + 1))) (S (Int32.toNatClampNeg (Int32.ofNat i + 2)))
  have b1 := bo_E (by decide +kernel) (jtL_isHome _ _ _ _ e1) hb
  have b3 := bo_E (by decide +kernel) (jtX12_isHome _ _ _ _ e2) b1
  refine ⟨M3, fun k23 => ?_, I3, b3⟩
  simp only [jfL_law__643, jfL_law__709, jfL_law__715, jfL_law__3150, x1, x2, l0, s0, sy_bx_t, e1, sy_bi_ri, l1, s1, e2, z6, if_true, jfX12_thrown, t3]
  exact thr_endB c4 h0
theorem la_8 (I : Inv Ask txo (Int32.ofNat L) S e M) (he : e < 90000) (hb : bo M) (hL : L ≤ 384) (hi : i + 6 ≤ L) : stp L S e i (fun k23 => jfL_law__718 k23 (Int32.ofNat i) M) := by
  have x1 : xe_in (Int32.ofNat i + 1) (Int32.ofNat L).toNatClampNeg = true := la_in (j := 1) hL hi (by decide)
  have l0 : M 134 0 = Int32.ofNat L := I.2.2.2.2.2.2.2.2.2.1
  have s0 : M 1000000 = S := I.2.2.2.2.2.2.2.2.2.2
  have z6 : Int32.ofNat i + 6 = Int32.ofNat (i + 6) := zadd i 6
  obtain ⟨c, v, M1, M3, e1, e2, t3, c4, h0, I3, l1, s1⟩ := o_needs I he (S (Int32.toNatClampNeg (Int32.ofNat i + 1)))
  have b1 := bo_E (by decide +kernel) (jtL_needs _ _ _ e1) hb
  have b3 := bo_E (by decide +kernel) (jtX12_needs _ _ _ e2) b1
  refine ⟨M3, fun k23 => ?_, I3, b3⟩
  simp only [jfL_law__718, jfL_law__771, jfL_law__3150, x1, l0, s0, sy_bx_t, e1, sy_bi_ri, l1, s1, e2, z6, if_true, jfX12_thrown, t3]
  exact thr_end c4 h0
theorem la_9 (I : Inv Ask txo (Int32.ofNat L) S e M) (he : e < 90000) (hb : bo M) (hL : L ≤ 384) (hi : i + 6 ≤ L) : stp L S e i (fun k23 => jfL_law__774 k23 (Int32.ofNat i) M) := by
  have x1 : xe_in (Int32.ofNat i + 1) (Int32.ofNat L).toNatClampNeg = true := la_in (j := 1) hL hi (by decide)
  have l0 : M 134 0 = Int32.ofNat L := I.2.2.2.2.2.2.2.2.2.1
  have s0 : M 1000000 = S := I.2.2.2.2.2.2.2.2.2.2
  have z6 : Int32.ofNat i + 6 = Int32.ofNat (i + 6) := zadd i 6
  obtain ⟨c, v, M1, M3, e1, e2, t3, c4, h0, I3, l1, s1⟩ := o_ticks mAK_Ask I he (S (Int32.toNatClampNeg (Int32.ofNat i + 1)))
  have b1 := bo_E (by decide +kernel) (jtL_ticks _ _ _ e1) hb
  have b3 := bo_E (by decide +kernel) (jtX12_ticks _ _ _ e2) b1
  refine ⟨M3, fun k23 => ?_, I3, b3⟩
  simp only [jfL_law__774, jfL_law__827, jfL_law__3150, x1, l0, s0, sy_bx_t, e1, sy_bi_ri, l1, s1, e2, z6, if_true, jfX12_thrown, t3]
  exact thr_end c4 h0
theorem la_10 (I : Inv Ask txo (Int32.ofNat L) S e M) (he : e < 90000) (hb : bo M) (hL : L ≤ 384) (hi : i + 6 ≤ L) : stp L S e i (fun k23 => jfL_law__830 k23 (Int32.ofNat i) M) := by
  have x1 : xe_in (Int32.ofNat i + 1) (Int32.ofNat L).toNatClampNeg = true := la_in (j := 1) hL hi (by decide)
  have l0 : M 134 0 = Int32.ofNat L := I.2.2.2.2.2.2.2.2.2.1
  have s0 : M 1000000 = S := I.2.2.2.2.2.2.2.2.2.2
  have z6 : Int32.ofNat i + 6 = Int32.ofNat (i + 6) := zadd i 6
  obtain ⟨c, v, M1, M3, e1, e2, t3, c4, h0, I3, l1, s1⟩ := o_put mAK_Ask I he (S (Int32.toNatClampNeg (Int32.ofNat i + 1)))
  have b1 := bo_E (by decide +kernel) (jtL_put _ _ _ e1) hb
  have b3 := bo_E (by decide +kernel) (jtX12_put _ _ _ e2) b1
  refine ⟨M3, fun k23 => ?_, I3, b3⟩
  simp only [jfL_law__830, jfL_law__883, jfL_law__3150, x1, l0, s0, sy_bx_t, e1, sy_bi_ri, l1, s1, e2, z6, if_true, jfX12_thrown, t3]
  exact thr_end c4 h0
theorem la_11 (I : Inv Ask txo (Int32.ofNat L) S e M) (he : e < 90000) (hb : bo M) (hL : L ≤ 384) (hi : i + 6 ≤ L) : stp L S e i (fun k23 => jfL_law__886 k23 (Int32.ofNat i) M) := by
  have x1 : xe_in (Int32.ofNat i + 1) (Int32.ofNat L).toNatClampNeg = true := la_in (j := 1) hL hi (by decide)
  have x2 : xe_in (Int32.ofNat i + 2) (Int32.ofNat L).toNatClampNeg = true := la_in (j := 2) hL hi (by decide)
  have l0 : M 134 0 = Int32.ofNat L := I.2.2.2.2.2.2.2.2.2.1
  have s0 : M 1000000 = S := I.2.2.2.2.2.2.2.2.2.2
  have z6 : Int32.ofNat i + 6 = Int32.ofNat (i + 6) := zadd i 6
  obtain ⟨c, v, M1, M3, e1, e2, t3, c4, h0, I3, l1, s1⟩ := o_lend mAK_Ask I he (S (Int32.toNatClampNeg (Int32.ofNat i + 1))) (S (Int32.toNatClampNeg (Int32.ofNat i + 2)))
  have b1 := bo_E (by decide +kernel) (jtL_lend _ _ _ _ e1) hb
  have b3 := bo_E (by decide +kernel) (jtX12_lend _ _ _ _ e2) b1
  refine ⟨M3, fun k23 => ?_, I3, b3⟩
  simp only [jfL_law__886, jfL_law__951, jfL_law__3150, x1, x2, l0, s0, sy_bx_t, e1, sy_bi_ri, l1, s1, e2, z6, if_true, jfX12_thrown, t3]
  exact thr_end c4 h0
theorem la_12 (I : Inv Ask txo (Int32.ofNat L) S e M) (he : e < 90000) (hb : bo M) (hL : L ≤ 384) (hi : i + 6 ≤ L) : stp L S e i (fun k23 => jfL_law__954 k23 (Int32.ofNat i) M) := by
  have x1 : xe_in (Int32.ofNat i + 1) (Int32.ofNat L).toNatClampNeg = true := la_in (j := 1) hL hi (by decide)
  have x2 : xe_in (Int32.ofNat i + 2) (Int32.ofNat L).toNatClampNeg = true := la_in (j := 2) hL hi (by decide)
  have l0 : M 134 0 = Int32.ofNat L := I.2.2.2.2.2.2.2.2.2.1
  have s0 : M 1000000 = S := I.2.2.2.2.2.2.2.2.2.2
  have z6 : Int32.ofNat i + 6 = Int32.ofNat (i + 6) := zadd i 6
  obtain ⟨c, v, M1, M3, e1, e2, t3, c4, h0, I3, l1, s1⟩ := o_repay mAK_Ask I he (S (Int32.toNatClampNeg (Int32.ofNat i + 1))) (S (Int32.toNatClampNeg (Int32.ofNat i + 2)))
  have b1 := bo_E (by decide +kernel) (jtL_repay _ _ _ _ e1) hb
  have b3 := bo_E (by decide +kernel) (jtX12_repay _ _ _ _ e2) b1
  refine ⟨M3, fun k23 => ?_, I3, b3⟩
  simp only [jfL_law__954, jfL_law__1019, jfL_law__3150, x1, x2, l0, s0, sy_bx_t, e1, sy_bi_ri, l1, s1, e2, z6, if_true, jfX12_thrown, t3]
  exact thr_end c4 h0
theorem la_13 (I : Inv Ask txo (Int32.ofNat L) S e M) (he : e < 90000) (hb : bo M) (hL : L ≤ 384) (hi : i + 6 ≤ L) : stp L S e i (fun k23 => jfL_law__1022 k23 (Int32.ofNat i) M) := by
  have x1 : xe_in (Int32.ofNat i + 1) (Int32.ofNat L).toNatClampNeg = true := la_in (j := 1) hL hi (by decide)
  have x2 : xe_in (Int32.ofNat i + 2) (Int32.ofNat L).toNatClampNeg = true := la_in (j := 2) hL hi (by decide)
  have l0 : M 134 0 = Int32.ofNat L := I.2.2.2.2.2.2.2.2.2.1
  have s0 : M 1000000 = S := I.2.2.2.2.2.2.2.2.2.2
  have z6 : Int32.ofNat i + 6 = Int32.ofNat (i + 6) := zadd i 6
  obtain ⟨c, v, M1, M3, e1, e2, t3, c4, h0, I3, l1, s1⟩ := o_waits mAK_Ask I he (S (Int32.toNatClampNeg (Int32.ofNat i + 1))) (S (Int32.toNatClampNeg (Int32.ofNat i + 2)))
  have b1 := bo_E (by decide +kernel) (jtL_waits _ _ _ _ e1) hb
  have b3 := bo_E (by decide +kernel) (jtX12_waits _ _ _ _ e2) b1
  refine ⟨M3, fun k23 => ?_, I3, b3⟩
  simp only [jfL_law__1022, jfL_law__1087, jfL_law__3150, x1, x2, l0, s0, sy_bx_t, e1, sy_bi_ri, l1, s1, e2, z6, if_true, jfX12_thrown, t3]
  exact thr_end c4 h0
theorem la_14 (I : Inv Ask txo (Int32.ofNat L) S e M) (he : e < 90000) (hb : bo M) (hL : L ≤ 384) (hi : i + 6 ≤ L) : stp L S e i (fun k23 => jfL_law__1090 k23 (Int32.ofNat i) M) := by
  have x1 : xe_in (Int32.ofNat i + 1) (Int32.ofNat L).toNatClampNeg = true := la_in (j := 1) hL hi (by decide)
  have l0 : M 134 0 = Int32.ofNat L := I.2.2.2.2.2.2.2.2.2.1
  have s0 : M 1000000 = S := I.2.2.2.2.2.2.2.2.2.2
  have z6 : Int32.ofNat i + 6 = Int32.ofNat (i + 6) := zadd i 6
  obtain ⟨c, v, M1, M3, e1, e2, t3, c4, h0, I3, l1, s1⟩ := o_price mAK_Ask I he (S (Int32.toNatClampNeg (Int32.ofNat i + 1)))
  have b1 := bo_E (by decide +kernel) (jtL_price _ _ _ e1) hb
  have b3 := bo_E (by decide +kernel) (jtX12_price _ _ _ e2) b1
  refine ⟨M3, fun k23 => ?_, I3, b3⟩
  simp only [jfL_law__1090, jfL_law__1143, jfL_law__3150, x1, l0, s0, sy_bx_t, e1, sy_bi_ri, l1, s1, e2, z6, if_true, jfX12_thrown, t3]
  exact thr_end c4 h0
theorem la_15 (I : Inv Ask txo (Int32.ofNat L) S e M) (he : e < 90000) (hb : bo M) (hL : L ≤ 384) (hi : i + 6 ≤ L) : stp L S e i (fun k23 => jfL_law__1146 k23 (Int32.ofNat i) M) := by
  have x1 : xe_in (Int32.ofNat i + 1) (Int32.ofNat L).toNatClampNeg = true := la_in (j := 1) hL hi (by decide)
  have x2 : xe_in (Int32.ofNat i + 2) (Int32.ofNat L).toNatClampNeg = true := la_in (j := 2) hL hi (by decide)
  have l0 : M 134 0 = Int32.ofNat L := I.2.2.2.2.2.2.2.2.2.1
  have s0 : M 1000000 = S := I.2.2.2.2.2.2.2.2.2.2
  have z6 : Int32.ofNat i + 6 = Int32.ofNat (i + 6) := zadd i 6
  obtain ⟨c, v, M1, M3, e1, e2, t3, c4, h0, I3, l1, s1⟩ := o_change mAK_Ask I he (S (Int32.toNatClampNeg (Int32.ofNat i + 1))) (S (Int32.toNatClampNeg (Int32.ofNat i + 2)))
  have b1 := bo_E (by decide +kernel) (jtL_change _ _ _ _ e1) hb
  have b3 := bo_E (by decide +kernel) (jtX12_change _ _ _ _ e2) b1
  refine ⟨M3, fun k23 => ?_, I3, b3⟩
  simp only [jfL_law__1146, jfL_law__1211, jfL_law__3150, x1, x2, l0, s0, sy_bx_t, e1, sy_bi_ri, l1, s1, e2, z6, if_true, jfX12_thrown, t3]
  exact thr_end c4 h0
theorem la_16 (I : Inv Ask txo (Int32.ofNat L) S e M) (he : e < 90000) (hb : bo M) (hL : L ≤ 384) (hi : i + 6 ≤ L) : stp L S e i (fun k23 => jfL_law__1214 k23 (Int32.ofNat i) M) := by
  have x1 : xe_in (Int32.ofNat i + 1) (Int32.ofNat L).toNatClampNeg = true := la_in (j := 1) hL hi (by decide)
  have x2 : xe_in (Int32.ofNat i + 2) (Int32.ofNat L).toNatClampNeg = true := la_in (j := 2) hL hi (by decide)
  have x3 : xe_in (Int32.ofNat i + 3) (Int32.ofNat L).toNatClampNeg = true := la_in (j := 3) hL hi (by decide)
  have l0 : M 134 0 = Int32.ofNat L := I.2.2.2.2.2.2.2.2.2.1
  have s0 : M 1000000 = S := I.2.2.2.2.2.2.2.2.2.2
  have z6 : Int32.ofNat i + 6 = Int32.ofNat (i + 6) := zadd i 6
  obtain ⟨c, v, M1, M3, e1, e2, t3, c4, h0, I3, l1, s1⟩ := o_home mAK_Ask I he (S (Int32.toNatClampNeg (Int32.ofNat i + 1))) (S (Int32.toNatClampNeg (Int32.ofNat i + 2))) (S (Int32.toNatClampNeg (Int32.ofNat i + 3)))
  have b1 := bo_E (by decide +kernel) (jtL_home _ _ _ _ _ e1) hb
  have b3 := bo_E (by decide +kernel) (jtX12_home _ _ _ _ _ e2) b1
  refine ⟨M3, fun k23 => ?_, I3, b3⟩
  simp only [jfL_law__1214, jfL_law__1263, jfL_law__1291, jfL_law__3150, x1, x2, x3, l0, s0, sy_bx_t, e1, sy_bi_ri, l1, s1, e2, z6, if_true, jfX12_thrown, t3]
  exact thr_end c4 h0
theorem la_17 (I : Inv Ask txo (Int32.ofNat L) S e M) (he : e < 90000) (hb : bo M) (hL : L ≤ 384) (hi : i + 6 ≤ L) : stp L S e i (fun k23 => jfL_law__1294 k23 (Int32.ofNat i) M) := by
  have l0 : M 134 0 = Int32.ofNat L := I.2.2.2.2.2.2.2.2.2.1
  have s0 : M 1000000 = S := I.2.2.2.2.2.2.2.2.2.2
  have z6 : Int32.ofNat i + 6 = Int32.ofNat (i + 6) := zadd i 6
  obtain ⟨v, M1, M3, e1, e2, I3, l1, s1⟩ := o_empty mAK_Ask I
  have b1 := bo_E (by decide +kernel) (jtX11_empty _ _ e1) hb
  have b3 := bo_E (by decide +kernel) (jtX12_empty _ _ e2) b1
  refine ⟨M3, fun k23 => ?_, I3, b3⟩
  simp only [jfL_law__1294, jfL_law__3150, l0, s0, sy_bx_t, e1, sy_bi_ri, l1, s1, e2, z6, if_true]
theorem la_18 (I : Inv Ask txo (Int32.ofNat L) S e M) (he : e < 90000) (hb : bo M) (hL : L ≤ 384) (hi : i + 6 ≤ L) : stp L S e i (fun k23 => jfL_law__1307 k23 (Int32.ofNat i) M) := by
  have l0 : M 134 0 = Int32.ofNat L := I.2.2.2.2.2.2.2.2.2.1
  have s0 : M 1000000 = S := I.2.2.2.2.2.2.2.2.2.2
  have z6 : Int32.ofNat i + 6 = Int32.ofNat (i + 6) := zadd i 6
  obtain ⟨v, M1, M3, e1, e2, I3, l1, s1⟩ := o_inside I
  have b1 := bo_E (by decide +kernel) (jtX11_inside _ _ e1) hb
  have b3 := bo_E (by decide +kernel) (jtX12_inside _ _ e2) b1
  refine ⟨M3, fun k23 => ?_, I3, b3⟩
  simp only [jfL_law__1307, jfL_law__3150, l0, s0, sy_bx_t, e1, sy_bi_ri, l1, s1, e2, z6, if_true]
theorem la_19 (I : Inv Ask txo (Int32.ofNat L) S e M) (he : e < 90000) (hb : bo M) (hL : L ≤ 384) (hi : i + 6 ≤ L) : stp L S e i (fun k23 => jfL_law__1320 k23 (Int32.ofNat i) M) := by
  have l0 : M 134 0 = Int32.ofNat L := I.2.2.2.2.2.2.2.2.2.1
  have s0 : M 1000000 = S := I.2.2.2.2.2.2.2.2.2.2
  have z6 : Int32.ofNat i + 6 = Int32.ofNat (i + 6) := zadd i 6
  obtain ⟨v, M1, M3, e1, e2, I3, l1, s1⟩ := o_lasts mAK_Ask I
  have b1 := bo_E (by decide +kernel) (jtX11_lasts _ _ e1) hb
  have b3 := bo_E (by decide +kernel) (jtX12_lasts _ _ e2) b1
  refine ⟨M3, fun k23 => ?_, I3, b3⟩
  simp only [jfL_law__1320, jfL_law__3150, l0, s0, sy_bx_t, e1, sy_bi_ri, l1, s1, e2, z6, if_true]
theorem la_20 (I : Inv Ask txo (Int32.ofNat L) S e M) (he : e < 90000) (hb : bo M) (hL : L ≤ 384) (hi : i + 6 ≤ L) : stp L S e i (fun k23 => jfL_law__1333 k23 (Int32.ofNat i) M) := by
  have l0 : M 134 0 = Int32.ofNat L := I.2.2.2.2.2.2.2.2.2.1
  have s0 : M 1000000 = S := I.2.2.2.2.2.2.2.2.2.2
  have z6 : Int32.ofNat i + 6 = Int32.ofNat (i + 6) := zadd i 6
  obtain ⟨v, M1, M3, e1, e2, I3, l1, s1⟩ := o_out mAK_Ask I
  have b1 := bo_E (by decide +kernel) (jtX11_out _ _ e1) hb
  have b3 := bo_E (by decide +kernel) (jtX12_out _ _ e2) b1
  refine ⟨M3, fun k23 => ?_, I3, b3⟩
  simp only [jfL_law__1333, jfL_law__3150, l0, s0, sy_bx_t, e1, sy_bi_ri, l1, s1, e2, z6, if_true]
end
