/-! ===== cases of the law (gen_la.py) ===== -/
section
variable {L : Nat} {S : Nat → Int32} {e i : Nat} {M : sy_M}
theorem la_21 (I : Inv Ask txo (Int32.ofNat L) S e M) (he : e < 90000) (hb : bo M) (hL : L ≤ 384) (hi : i + 6 ≤ L) : stp L S e i (fun k23 => jfL_law__1346 k23 (Int32.ofNat i) M) := by
  have l0 : M 134 0 = Int32.ofNat L := I.2.2.2.2.2.2.2.2.2.1
  have s0 : M 1000000 = S := I.2.2.2.2.2.2.2.2.2.2
  have z6 : Int32.ofNat i + 6 = Int32.ofNat (i + 6) := zadd i 6
  obtain ⟨v, M1, M3, e1, e2, I3, l1, s1⟩ := o_feeder mAK_Ask I
  have b1 := bo_E (by decide +kernel) (jtX11_feeder _ _ e1) hb
  have b3 := bo_E (by decide +kernel) (jtX12_feeder _ _ e2) b1
  refine ⟨M3, fun k23 => ?_, I3, b3⟩
  simp only [jfL_law__1346, jfL_law__3150, l0, s0, sy_bx_t, e1, sy_bi_ri, l1, s1, e2, z6, if_true]
theorem la_22 (I : Inv Ask txo (Int32.ofNat L) S e M) (he : e < 90000) (hb : bo M) (hL : L ≤ 384) (hi : i + 6 ≤ L) : stp L S e i (fun k23 => jfL_law__1359 k23 (Int32.ofNat i) M) := by
  have l0 : M 134 0 = Int32.ofNat L := I.2.2.2.2.2.2.2.2.2.1
  have s0 : M 1000000 = S := I.2.2.2.2.2.2.2.2.2.2
  have z6 : Int32.ofNat i + 6 = Int32.ofNat (i + 6) := zadd i 6
  obtain ⟨v, M1, M3, e1, e2, I3, l1, s1⟩ := o_shiver mAK_Ask I
  have b1 := bo_E (by decide +kernel) (jtX11_shiver _ _ e1) hb
  have b3 := bo_E (by decide +kernel) (jtX12_shiver _ _ e2) b1
  refine ⟨M3, fun k23 => ?_, I3, b3⟩
  simp only [jfL_law__1359, jfL_law__3150, l0, s0, sy_bx_t, e1, sy_bi_ri, l1, s1, e2, z6, if_true]
theorem la_23 (I : Inv Ask txo (Int32.ofNat L) S e M) (he : e < 90000) (hb : bo M) (hL : L ≤ 384) (hi : i + 6 ≤ L) : stp L S e i (fun k23 => jfL_law__1372 k23 (Int32.ofNat i) M) := by
  have x1 : xe_in (Int32.ofNat i + 1) (Int32.ofNat L).toNatClampNeg = true := la_in (j := 1) hL hi (by decide)
  have x2 : xe_in (Int32.ofNat i + 2) (Int32.ofNat L).toNatClampNeg = true := la_in (j := 2) hL hi (by decide)
  have x3 : xe_in (Int32.ofNat i + 3) (Int32.ofNat L).toNatClampNeg = true := la_in (j := 3) hL hi (by decide)
  have l0 : M 134 0 = Int32.ofNat L := I.2.2.2.2.2.2.2.2.2.1
  have s0 : M 1000000 = S := I.2.2.2.2.2.2.2.2.2.2
  have z6 : Int32.ofNat i + 6 = Int32.ofNat (i + 6) := zadd i 6
  obtain ⟨c, v, M1, M3, e1, e2, t3, c4, h0, I3, l1, s1⟩ := o_after mAK_Ask I he (S (Int32.toNatClampNeg (Int32.ofNat i + 1))) (S (Int32.toNatClampNeg (Int32.ofNat i + 2))) (S (Int32.toNatClampNeg (Int32.ofNat i + 3)))
  have b1 := bo_E (by decide +kernel) (jtL_after _ _ _ _ _ e1) hb
  have b3 := bo_E (by decide +kernel) (jtX12_after _ _ _ _ _ e2) b1
  refine ⟨M3, fun k23 => ?_, I3, b3⟩
  simp only [jfL_law__1372, jfL_law__1421, jfL_law__1449, jfL_law__3150, x1, x2, x3, l0, s0, sy_bx_t, e1, sy_bi_ri, l1, s1, e2, z6, if_true, jfX12_thrown, t3]
  exact thr_end c4 h0
theorem la_24 (I : Inv Ask txo (Int32.ofNat L) S e M) (he : e < 90000) (hb : bo M) (hL : L ≤ 384) (hi : i + 6 ≤ L) : stp L S e i (fun k23 => jfL_law__1452 k23 (Int32.ofNat i) M) := by
  have x1 : xe_in (Int32.ofNat i + 1) (Int32.ofNat L).toNatClampNeg = true := la_in (j := 1) hL hi (by decide)
  have l0 : M 134 0 = Int32.ofNat L := I.2.2.2.2.2.2.2.2.2.1
  have s0 : M 1000000 = S := I.2.2.2.2.2.2.2.2.2.2
  have z6 : Int32.ofNat i + 6 = Int32.ofNat (i + 6) := zadd i 6
  obtain ⟨c, v, M1, M3, e1, e2, t3, c4, h0, I3, l1, s1⟩ := o_coins I he (S (Int32.toNatClampNeg (Int32.ofNat i + 1)))
  have b1 := bo_E (by decide +kernel) (jtL_coins _ _ _ e1) hb
  have b3 := bo_E (by decide +kernel) (jtX12_coins _ _ _ e2) b1
  refine ⟨M3, fun k23 => ?_, I3, b3⟩
  simp only [jfL_law__1452, jfL_law__1505, jfL_law__3150, x1, l0, s0, sy_bx_t, e1, sy_bi_ri, l1, s1, e2, z6, if_true, jfX12_thrown, t3]
  exact thr_end c4 h0
theorem la_25 (I : Inv Ask txo (Int32.ofNat L) S e M) (he : e < 90000) (hb : bo M) (hL : L ≤ 384) (hi : i + 6 ≤ L) : stp L S e i (fun k23 => jfL_law__1508 k23 (Int32.ofNat i) M) := by
  have x1 : xe_in (Int32.ofNat i + 1) (Int32.ofNat L).toNatClampNeg = true := la_in (j := 1) hL hi (by decide)
  have l0 : M 134 0 = Int32.ofNat L := I.2.2.2.2.2.2.2.2.2.1
  have s0 : M 1000000 = S := I.2.2.2.2.2.2.2.2.2.2
  have z6 : Int32.ofNat i + 6 = Int32.ofNat (i + 6) := zadd i 6
  obtain ⟨c, v, M1, M3, e1, e2, t3, c4, h0, I3, l1, s1⟩ := o_ease mAK_Ask I he (S (Int32.toNatClampNeg (Int32.ofNat i + 1)))
  have b1 := bo_E (by decide +kernel) (jtL_ease _ _ _ e1) hb
  have b3 := bo_E (by decide +kernel) (jtX12_ease _ _ _ e2) b1
  refine ⟨M3, fun k23 => ?_, I3, b3⟩
  simp only [jfL_law__1508, jfL_law__1561, jfL_law__3150, x1, l0, s0, sy_bx_t, e1, sy_bi_ri, l1, s1, e2, z6, if_true, jfX12_thrown, t3]
  exact thr_end c4 h0
theorem la_26 (I : Inv Ask txo (Int32.ofNat L) S e M) (he : e < 90000) (hb : bo M) (hL : L ≤ 384) (hi : i + 6 ≤ L) : stp L S e i (fun k23 => jfL_law__1564 k23 (Int32.ofNat i) M) := by
  have x1 : xe_in (Int32.ofNat i + 1) (Int32.ofNat L).toNatClampNeg = true := la_in (j := 1) hL hi (by decide)
  have x2 : xe_in (Int32.ofNat i + 2) (Int32.ofNat L).toNatClampNeg = true := la_in (j := 2) hL hi (by decide)
  have l0 : M 134 0 = Int32.ofNat L := I.2.2.2.2.2.2.2.2.2.1
  have s0 : M 1000000 = S := I.2.2.2.2.2.2.2.2.2.2
  have z6 : Int32.ofNat i + 6 = Int32.ofNat (i + 6) := zadd i 6
  obtain ⟨c, v, M1, M3, e1, e2, t3, c4, h0, I3, l1, s1⟩ := o_grief mAK_Ask I he (S (Int32.toNatClampNeg (Int32.ofNat i + 1))) (S (Int32.toNatClampNeg (Int32.ofNat i + 2)))
  have b1 := bo_E (by decide +kernel) (jtL_grief _ _ _ _ e1) hb
  have b3 := bo_E (by decide +kernel) (jtX12_grief _ _ _ _ e2) b1
  refine ⟨M3, fun k23 => ?_, I3, b3⟩
  simp only [jfL_law__1564, jfL_law__1629, jfL_law__3150, x1, x2, l0, s0, sy_bx_t, e1, sy_bi_ri, l1, s1, e2, z6, if_true, jfX12_thrown, t3]
  exact thr_end c4 h0
theorem la_27 (I : Inv Ask txo (Int32.ofNat L) S e M) (he : e < 90000) (hb : bo M) (hL : L ≤ 384) (hi : i + 6 ≤ L) : stp L S e i (fun k23 => jfL_law__1632 k23 (Int32.ofNat i) M) := by
  have l0 : M 134 0 = Int32.ofNat L := I.2.2.2.2.2.2.2.2.2.1
  have s0 : M 1000000 = S := I.2.2.2.2.2.2.2.2.2.2
  have z6 : Int32.ofNat i + 6 = Int32.ofNat (i + 6) := zadd i 6
  obtain ⟨v, M1, M3, e1, e2, I3, l1, s1⟩ := o_restless mAK_Ask I
  have b1 := bo_E (by decide +kernel) (jtX11_restless _ _ e1) hb
  have b3 := bo_E (by decide +kernel) (jtX12_restless _ _ e2) b1
  refine ⟨M3, fun k23 => ?_, I3, b3⟩
  simp only [jfL_law__1632, jfL_law__3150, l0, s0, sy_bx_t, e1, sy_bi_ri, l1, s1, e2, z6, if_true]
theorem la_28 (I : Inv Ask txo (Int32.ofNat L) S e M) (he : e < 90000) (hb : bo M) (hL : L ≤ 384) (hi : i + 6 ≤ L) : stp L S e i (fun k23 => jfL_law__1645 k23 (Int32.ofNat i) M) := by
  have x1 : xe_in (Int32.ofNat i + 1) (Int32.ofNat L).toNatClampNeg = true := la_in (j := 1) hL hi (by decide)
  have x2 : xe_in (Int32.ofNat i + 2) (Int32.ofNat L).toNatClampNeg = true := la_in (j := 2) hL hi (by decide)
  have l0 : M 134 0 = Int32.ofNat L := I.2.2.2.2.2.2.2.2.2.1
  have s0 : M 1000000 = S := I.2.2.2.2.2.2.2.2.2.2
  have z6 : Int32.ofNat i + 6 = Int32.ofNat (i + 6) := zadd i 6
  by_cases hz : S (Int32.toNatClampNeg (Int32.ofNat i + 2)) = 0
  · obtain ⟨c, v, M1, M3, e1, e2, t3, c4, h0, I3, l1, s1⟩ := o_saint mAK_Ask I he (S (Int32.toNatClampNeg (Int32.ofNat i + 1))) false
    replace e1 : jfL_saint (S (Int32.toNatClampNeg (Int32.ofNat i + 1))) 0 M = _ := e1
    replace e2 : jfX12_saint (S (Int32.toNatClampNeg (Int32.ofNat i + 1))) 0 M1 = _ := e2
    have b1 := bo_E (by decide +kernel) (jtL_saint _ _ _ _ e1) hb
    have b3 := bo_E (by decide +kernel) (jtX12_saint _ _ _ _ e2) b1
    refine ⟨M3, fun k23 => ?_, I3, b3⟩
    simp only [jfL_law__1645, jfL_law__1666, jfL_law__1693, jfL_law__1726, jfL_law__3150, x1, x2, l0, s0, sy_bx_t, e1, sy_bi_ri, l1, s1, e2, z6, if_true, hz, if_false, jfX12_thrown, t3]
    exact thr_end c4 h0
  · obtain ⟨c, v, M1, M3, e1, e2, t3, c4, h0, I3, l1, s1⟩ := o_saint mAK_Ask I he (S (Int32.toNatClampNeg (Int32.ofNat i + 1))) true
    replace e1 : jfL_saint (S (Int32.toNatClampNeg (Int32.ofNat i + 1))) 1 M = _ := e1
    replace e2 : jfX12_saint (S (Int32.toNatClampNeg (Int32.ofNat i + 1))) 1 M1 = _ := e2
    have b1 := bo_E (by decide +kernel) (jtL_saint _ _ _ _ e1) hb
    have b3 := bo_E (by decide +kernel) (jtX12_saint _ _ _ _ e2) b1
    refine ⟨M3, fun k23 => ?_, I3, b3⟩
    simp only [jfL_law__1645, jfL_law__1666, jfL_law__1693, jfL_law__1726, jfL_law__3150, x1, x2, l0, s0, sy_bx_t, e1, sy_bi_ri, l1, s1, e2, z6, if_true, hz, if_false, jfX12_thrown, t3]
    exact thr_end c4 h0
theorem la_29 (I : Inv Ask txo (Int32.ofNat L) S e M) (he : e < 90000) (hb : bo M) (hL : L ≤ 384) (hi : i + 6 ≤ L) : stp L S e i (fun k23 => jfL_law__1729 k23 (Int32.ofNat i) M) := by
  have x1 : xe_in (Int32.ofNat i + 1) (Int32.ofNat L).toNatClampNeg = true := la_in (j := 1) hL hi (by decide)
  have x2 : xe_in (Int32.ofNat i + 2) (Int32.ofNat L).toNatClampNeg = true := la_in (j := 2) hL hi (by decide)
  have l0 : M 134 0 = Int32.ofNat L := I.2.2.2.2.2.2.2.2.2.1
  have s0 : M 1000000 = S := I.2.2.2.2.2.2.2.2.2.2
  have z6 : Int32.ofNat i + 6 = Int32.ofNat (i + 6) := zadd i 6
  obtain ⟨c, v, M1, M3, e1, e2, t3, c4, h0, I3, l1, s1⟩ := o_fair I he (S (Int32.toNatClampNeg (Int32.ofNat i + 1))) (S (Int32.toNatClampNeg (Int32.ofNat i + 2)))
  have b1 := bo_E (by decide +kernel) (jtL_fair _ _ _ _ e1) hb
  have b3 := bo_E (by decide +kernel) (jtX12_fair _ _ _ _ e2) b1
  refine ⟨M3, fun k23 => ?_, I3, b3⟩
  simp only [jfL_law__1729, jfL_law__1794, jfL_law__3150, x1, x2, l0, s0, sy_bx_t, e1, sy_bi_ri, l1, s1, e2, z6, if_true, jfX12_thrown, t3]
  exact thr_end c4 h0
theorem la_30 (I : Inv Ask txo (Int32.ofNat L) S e M) (he : e < 90000) (hb : bo M) (hL : L ≤ 384) (hi : i + 6 ≤ L) : stp L S e i (fun k23 => jfL_law__1797 k23 (Int32.ofNat i) M) := by
  have x1 : xe_in (Int32.ofNat i + 1) (Int32.ofNat L).toNatClampNeg = true := la_in (j := 1) hL hi (by decide)
  have l0 : M 134 0 = Int32.ofNat L := I.2.2.2.2.2.2.2.2.2.1
  have s0 : M 1000000 = S := I.2.2.2.2.2.2.2.2.2.2
  have z6 : Int32.ofNat i + 6 = Int32.ofNat (i + 6) := zadd i 6
  obtain ⟨v, M1, M3, e1, e2, I3, l1, s1⟩ := o_tops I (S (Int32.toNatClampNeg (Int32.ofNat i + 1)))
  have b1 := bo_E (by decide +kernel) (jtX11_tops _ _ _ e1) hb
  have b3 := bo_E (by decide +kernel) (jtX12_tops _ _ _ e2) b1
  refine ⟨M3, fun k23 => ?_, I3, b3⟩
  simp only [jfL_law__1797, jfL_law__3150, x1, l0, s0, sy_bx_t, e1, sy_bi_ri, l1, s1, e2, z6, if_true]
theorem la_31 (I : Inv Ask txo (Int32.ofNat L) S e M) (he : e < 90000) (hb : bo M) (hL : L ≤ 384) (hi : i + 6 ≤ L) : stp L S e i (fun k23 => jfL_law__1822 k23 (Int32.ofNat i) M) := by
  have x1 : xe_in (Int32.ofNat i + 1) (Int32.ofNat L).toNatClampNeg = true := la_in (j := 1) hL hi (by decide)
  have l0 : M 134 0 = Int32.ofNat L := I.2.2.2.2.2.2.2.2.2.1
  have s0 : M 1000000 = S := I.2.2.2.2.2.2.2.2.2.2
  have z6 : Int32.ofNat i + 6 = Int32.ofNat (i + 6) := zadd i 6
  obtain ⟨c, v, M1, M3, e1, e2, t3, c4, h0, I3, l1, s1⟩ := o_stand I he (S (Int32.toNatClampNeg (Int32.ofNat i + 1)))
  have b1 := bo_E (by decide +kernel) (jtL_stand _ _ _ e1) hb
  have b3 := bo_E (by decide +kernel) (jtX12_stand _ _ _ e2) b1
  refine ⟨M3, fun k23 => ?_, I3, b3⟩
  simp only [jfL_law__1822, jfL_law__1875, jfL_law__3150, x1, l0, s0, sy_bx_t, e1, sy_bi_ri, l1, s1, e2, z6, if_true, jfX12_thrown, t3]
  exact thr_end c4 h0
theorem la_32 (I : Inv Ask txo (Int32.ofNat L) S e M) (he : e < 90000) (hb : bo M) (hL : L ≤ 384) (hi : i + 6 ≤ L) : stp L S e i (fun k23 => jfL_law__1878 k23 (Int32.ofNat i) M) := by
  have x1 : xe_in (Int32.ofNat i + 1) (Int32.ofNat L).toNatClampNeg = true := la_in (j := 1) hL hi (by decide)
  have l0 : M 134 0 = Int32.ofNat L := I.2.2.2.2.2.2.2.2.2.1
  have s0 : M 1000000 = S := I.2.2.2.2.2.2.2.2.2.2
  have z6 : Int32.ofNat i + 6 = Int32.ofNat (i + 6) := zadd i 6
  by_cases hz : S (Int32.toNatClampNeg (Int32.ofNat i + 1)) = 0
  · obtain ⟨v, M1, M3, e1, e2, I3, l1, s1⟩ := o_dear mAK_Ask I false
    replace e1 : jfX11_dear 0 M = _ := e1
    replace e2 : jfX12_dear 0 M1 = _ := e2
    have b1 := bo_E (by decide +kernel) (jtX11_dear _ _ _ e1) hb
    have b3 := bo_E (by decide +kernel) (jtX12_dear _ _ _ e2) b1
    refine ⟨M3, fun k23 => ?_, I3, b3⟩
    simp only [jfL_law__1878, jfL_law__1893, jfL_law__1911, jfL_law__3150, x1, l0, s0, sy_bx_t, e1, sy_bi_ri, l1, s1, e2, z6, if_true, hz, if_false]
  · obtain ⟨v, M1, M3, e1, e2, I3, l1, s1⟩ := o_dear mAK_Ask I true
    replace e1 : jfX11_dear 1 M = _ := e1
    replace e2 : jfX12_dear 1 M1 = _ := e2
    have b1 := bo_E (by decide +kernel) (jtX11_dear _ _ _ e1) hb
    have b3 := bo_E (by decide +kernel) (jtX12_dear _ _ _ e2) b1
    refine ⟨M3, fun k23 => ?_, I3, b3⟩
    simp only [jfL_law__1878, jfL_law__1893, jfL_law__1911, jfL_law__3150, x1, l0, s0, sy_bx_t, e1, sy_bi_ri, l1, s1, e2, z6, if_true, hz, if_false]
theorem la_33 (I : Inv Ask txo (Int32.ofNat L) S e M) (he : e < 90000) (hb : bo M) (hL : L ≤ 384) (hi : i + 6 ≤ L) : stp L S e i (fun k23 => jfL_law__1919 k23 (Int32.ofNat i) M) := by
  have x1 : xe_in (Int32.ofNat i + 1) (Int32.ofNat L).toNatClampNeg = true := la_in (j := 1) hL hi (by decide)
  have l0 : M 134 0 = Int32.ofNat L := I.2.2.2.2.2.2.2.2.2.1
  have s0 : M 1000000 = S := I.2.2.2.2.2.2.2.2.2.2
  have z6 : Int32.ofNat i + 6 = Int32.ofNat (i + 6) := zadd i 6
  obtain ⟨c, v, M1, M3, e1, e2, t3, c4, h0, I3, l1, s1⟩ := o_earns mAK_Ask I he (S (Int32.toNatClampNeg (Int32.ofNat i + 1)))
  have b1 := bo_E (by decide +kernel) (jtL_earns _ _ _ e1) hb
  have b3 := bo_E (by decide +kernel) (jtX12_earns _ _ _ e2) b1
  refine ⟨M3, fun k23 => ?_, I3, b3⟩
  simp only [jfL_law__1919, jfL_law__1972, jfL_law__3150, x1, l0, s0, sy_bx_t, e1, sy_bi_ri, l1, s1, e2, z6, if_true, jfX12_thrown, t3]
  exact thr_end c4 h0
theorem la_34 (I : Inv Ask txo (Int32.ofNat L) S e M) (he : e < 90000) (hb : bo M) (hL : L ≤ 384) (hi : i + 6 ≤ L) : stp L S e i (fun k23 => jfL_law__1975 k23 (Int32.ofNat i) M) := by
  have x1 : xe_in (Int32.ofNat i + 1) (Int32.ofNat L).toNatClampNeg = true := la_in (j := 1) hL hi (by decide)
  have l0 : M 134 0 = Int32.ofNat L := I.2.2.2.2.2.2.2.2.2.1
  have s0 : M 1000000 = S := I.2.2.2.2.2.2.2.2.2.2
  have z6 : Int32.ofNat i + 6 = Int32.ofNat (i + 6) := zadd i 6
  by_cases hz : S (Int32.toNatClampNeg (Int32.ofNat i + 1)) = 0
  · obtain ⟨c, v, M1, M3, e1, e2, t3, c4, h0, I3, l1, s1⟩ := o_culprit I he 0
    replace e1 : jfL_culprit 0 M = _ := e1
    replace e2 : jfX12_culprit 0 M1 = _ := e2
    have b1 := bo_E (by decide +kernel) (jtL_culprit _ _ _ e1) hb
    have b3 := bo_E (by decide +kernel) (jtX12_culprit _ _ _ e2) b1
    refine ⟨M3, fun k23 => ?_, I3, b3⟩
    simp only [jfL_law__1975, jfL_law__1990, jfL_law__2011, jfL_law__2044, jfL_law__3150, x1, l0, s0, sy_bx_t, e1, sy_bi_ri, l1, s1, e2, z6, if_true, hz, if_false, jfX12_thrown, t3]
    exact thr_end c4 h0
  · obtain ⟨c, v, M1, M3, e1, e2, t3, c4, h0, I3, l1, s1⟩ := o_culprit I he 1
    replace e1 : jfL_culprit 1 M = _ := e1
    replace e2 : jfX12_culprit 1 M1 = _ := e2
    have b1 := bo_E (by decide +kernel) (jtL_culprit _ _ _ e1) hb
    have b3 := bo_E (by decide +kernel) (jtX12_culprit _ _ _ e2) b1
    refine ⟨M3, fun k23 => ?_, I3, b3⟩
    simp only [jfL_law__1975, jfL_law__1990, jfL_law__2011, jfL_law__2044, jfL_law__3150, x1, l0, s0, sy_bx_t, e1, sy_bi_ri, l1, s1, e2, z6, if_true, hz, if_false, jfX12_thrown, t3]
    exact thr_end c4 h0
theorem la_35 (I : Inv Ask txo (Int32.ofNat L) S e M) (he : e < 90000) (hb : bo M) (hL : L ≤ 384) (hi : i + 6 ≤ L) : stp L S e i (fun k23 => jfL_law__2047 k23 (Int32.ofNat i) M) := by
  have l0 : M 134 0 = Int32.ofNat L := I.2.2.2.2.2.2.2.2.2.1
  have s0 : M 1000000 = S := I.2.2.2.2.2.2.2.2.2.2
  have z6 : Int32.ofNat i + 6 = Int32.ofNat (i + 6) := zadd i 6
  obtain ⟨c, v, M1, M3, e1, e2, t3, c4, h0, I3, l1, s1⟩ := o_ask I he
  have b1 := bo_E (by decide +kernel) (jtL_ask _ _ e1) hb
  have b3 := bo_E (by decide +kernel) (jtX12_ask _ _ e2) b1
  refine ⟨M3, fun k23 => ?_, I3, b3⟩
  simp only [jfL_law__2047, jfL_law__2088, jfL_law__3150, l0, s0, sy_bx_t, e1, sy_bi_ri, l1, s1, e2, z6, if_true, jfX12_thrown, t3]
  exact thr_end c4 h0
theorem la_36 (I : Inv Ask txo (Int32.ofNat L) S e M) (he : e < 90000) (hb : bo M) (hL : L ≤ 384) (hi : i + 6 ≤ L) : stp L S e i (fun k23 => jfL_law__2091 k23 (Int32.ofNat i) M) := by
  have x1 : xe_in (Int32.ofNat i + 1) (Int32.ofNat L).toNatClampNeg = true := la_in (j := 1) hL hi (by decide)
  have l0 : M 134 0 = Int32.ofNat L := I.2.2.2.2.2.2.2.2.2.1
  have s0 : M 1000000 = S := I.2.2.2.2.2.2.2.2.2.2
  have z6 : Int32.ofNat i + 6 = Int32.ofNat (i + 6) := zadd i 6
  obtain ⟨c, v, M1, M3, e1, e2, t3, c4, h0, I3, l1, s1⟩ := o_drawn I he (S (Int32.toNatClampNeg (Int32.ofNat i + 1)))
  have b1 := bo_E (by decide +kernel) (jtL_drawn _ _ _ e1) hb
  have b3 := bo_E (by decide +kernel) (jtX12_drawn _ _ _ e2) b1
  refine ⟨M3, fun k23 => ?_, I3, b3⟩
  simp only [jfL_law__2091, jfL_law__2144, jfL_law__3150, x1, l0, s0, sy_bx_t, e1, sy_bi_ri, l1, s1, e2, z6, if_true, jfX12_thrown, t3]
  exact thr_end c4 h0
theorem la_37 (I : Inv Ask txo (Int32.ofNat L) S e M) (he : e < 90000) (hb : bo M) (hL : L ≤ 384) (hi : i + 6 ≤ L) : stp L S e i (fun k23 => jfL_law__2147 k23 (Int32.ofNat i) M) := by
  have x1 : xe_in (Int32.ofNat i + 1) (Int32.ofNat L).toNatClampNeg = true := la_in (j := 1) hL hi (by decide)
  have x2 : xe_in (Int32.ofNat i + 2) (Int32.ofNat L).toNatClampNeg = true := la_in (j := 2) hL hi (by decide)
  have l0 : M 134 0 = Int32.ofNat L := I.2.2.2.2.2.2.2.2.2.1
  have s0 : M 1000000 = S := I.2.2.2.2.2.2.2.2.2.2
  have z6 : Int32.ofNat i + 6 = Int32.ofNat (i + 6) := zadd i 6
  obtain ⟨c, b, M1, M3, e1, e2, t3, c4, h0, I3, l1, s1⟩ := o_warmer mAK_Ask I he (S (Int32.toNatClampNeg (Int32.ofNat i + 1))) (S (Int32.toNatClampNeg (Int32.ofNat i + 2)))
  have b1 := bo_E (by decide +kernel) (jtL_warmer _ _ _ _ e1) hb
  have b3 := bo_E (by decide +kernel) (jtX12_warmer _ _ _ _ e2) b1
  refine ⟨M3, fun k23 => ?_, I3, b3⟩
  simp only [jfL_law__2147, jfL_law__2213, jfL_law__2219, jfL_law__3150, x1, x2, l0, s0, sy_bx_t, e1, sy_bi_ri, l1, s1, e2, z6, if_true, jfX12_thrown, t3]
  exact thr_endB c4 h0
theorem la_38 (I : Inv Ask txo (Int32.ofNat L) S e M) (he : e < 90000) (hb : bo M) (hL : L ≤ 384) (hi : i + 6 ≤ L) : stp L S e i (fun k23 => jfL_law__2222 k23 (Int32.ofNat i) M) := by
  have x1 : xe_in (Int32.ofNat i + 1) (Int32.ofNat L).toNatClampNeg = true := la_in (j := 1) hL hi (by decide)
  have l0 : M 134 0 = Int32.ofNat L := I.2.2.2.2.2.2.2.2.2.1
  have s0 : M 1000000 = S := I.2.2.2.2.2.2.2.2.2.2
  have z6 : Int32.ofNat i + 6 = Int32.ofNat (i + 6) := zadd i 6
  obtain ⟨c, v, M1, M3, e1, e2, t3, c4, h0, I3, l1, s1⟩ := o_pairs I he (S (Int32.toNatClampNeg (Int32.ofNat i + 1)))
  have b1 := bo_E (by decide +kernel) (jtL_pairs _ _ _ e1) hb
  have b3 := bo_E (by decide +kernel) (jtX12_pairs _ _ _ e2) b1
  refine ⟨M3, fun k23 => ?_, I3, b3⟩
  simp only [jfL_law__2222, jfL_law__2275, jfL_law__3150, x1, l0, s0, sy_bx_t, e1, sy_bi_ri, l1, s1, e2, z6, if_true, jfX12_thrown, t3]
  exact thr_end c4 h0
theorem la_39 (I : Inv Ask txo (Int32.ofNat L) S e M) (he : e < 90000) (hb : bo M) (hL : L ≤ 384) (hi : i + 6 ≤ L) : stp L S e i (fun k23 => jfL_law__2278 k23 (Int32.ofNat i) M) := by
  have l0 : M 134 0 = Int32.ofNat L := I.2.2.2.2.2.2.2.2.2.1
  have s0 : M 1000000 = S := I.2.2.2.2.2.2.2.2.2.2
  have z6 : Int32.ofNat i + 6 = Int32.ofNat (i + 6) := zadd i 6
  obtain ⟨v, M1, M3, e1, e2, I3, l1, s1⟩ := o_keepers I
  have b1 := bo_E (by decide +kernel) (jtX11_keepers _ _ e1) hb
  have b3 := bo_E (by decide +kernel) (jtX12_keepers _ _ e2) b1
  refine ⟨M3, fun k23 => ?_, I3, b3⟩
  simp only [jfL_law__2278, jfL_law__3150, l0, s0, sy_bx_t, e1, sy_bi_ri, l1, s1, e2, z6, if_true]
theorem la_40 (I : Inv Ask txo (Int32.ofNat L) S e M) (he : e < 90000) (hb : bo M) (hL : L ≤ 384) (hi : i + 6 ≤ L) : stp L S e i (fun k23 => jfL_law__2291 k23 (Int32.ofNat i) M) := by
  have x1 : xe_in (Int32.ofNat i + 1) (Int32.ofNat L).toNatClampNeg = true := la_in (j := 1) hL hi (by decide)
  have l0 : M 134 0 = Int32.ofNat L := I.2.2.2.2.2.2.2.2.2.1
  have s0 : M 1000000 = S := I.2.2.2.2.2.2.2.2.2.2
  have z6 : Int32.ofNat i + 6 = Int32.ofNat (i + 6) := zadd i 6
  obtain ⟨v, M1, M3, e1, e2, I3, l1, s1⟩ := o_kettle I (S (Int32.toNatClampNeg (Int32.ofNat i + 1)))
  have b1 := bo_E (by decide +kernel) (jtX11_kettle _ _ _ e1) hb
  have b3 := bo_E (by decide +kernel) (jtX12_kettle _ _ _ e2) b1
  refine ⟨M3, fun k23 => ?_, I3, b3⟩
  simp only [jfL_law__2291, jfL_law__3150, x1, l0, s0, sy_bx_t, e1, sy_bi_ri, l1, s1, e2, z6, if_true]
theorem la_41 (I : Inv Ask txo (Int32.ofNat L) S e M) (he : e < 90000) (hb : bo M) (hL : L ≤ 384) (hi : i + 6 ≤ L) : stp L S e i (fun k23 => jfL_law__2316 k23 (Int32.ofNat i) M) := by
  have x1 : xe_in (Int32.ofNat i + 1) (Int32.ofNat L).toNatClampNeg = true := la_in (j := 1) hL hi (by decide)
  have l0 : M 134 0 = Int32.ofNat L := I.2.2.2.2.2.2.2.2.2.1
  have s0 : M 1000000 = S := I.2.2.2.2.2.2.2.2.2.2
  have z6 : Int32.ofNat i + 6 = Int32.ofNat (i + 6) := zadd i 6
  obtain ⟨c, v, M1, M3, e1, e2, t3, c4, h0, I3, l1, s1⟩ := o_swings I he (S (Int32.toNatClampNeg (Int32.ofNat i + 1)))
  have b1 := bo_E (by decide +kernel) (jtL_swings _ _ _ e1) hb
  have b3 := bo_E (by decide +kernel) (jtX12_swings _ _ _ e2) b1
  refine ⟨M3, fun k23 => ?_, I3, b3⟩
  simp only [jfL_law__2316, jfL_law__2369, jfL_law__3150, x1, l0, s0, sy_bx_t, e1, sy_bi_ri, l1, s1, e2, z6, if_true, jfX12_thrown, t3]
  exact thr_end c4 h0
end
