/-! ===== functions of the methods (18); written by wip/whole/run_f.py ===== -/
noncomputable section
def jfL_law__2533 (k23 : Int32 → sy_M → sy_O) (a4 : Int32) (s0 : Int64) (s1 : Int64) (M : sy_M) : sy_O :=
  if (lg_cmp s1 s0) = 0 then
    jfL_law__2539 k23 a4 M
  else
    sy_ri 0 M
set_option maxRecDepth 100000 in
theorem jrL_law__2533 (k23 : Int32 → sy_M → sy_O) (w5 : Value) (w6 : Value) (a4 : Int32) (s0 : Int64) (s1 : Int64) (M : sy_M) : sy_run skL qL_law_ [(2533, .lcmp, 1, [true, true, true, true, true, false, false]), (2534, .ifCond .eq 5, 3, []), (2537, .iconst 0, 1, []), (2538, .ireturn, 1, [])] [] [(2539, juL_law__2539 (jfL_law__2539 k23))] 5 [] 2533 [.ref 1000000, .ref 0, .ref 121, .ref 132, .int a4, w5, w6] [.long s0, .long s1] M = jfL_law__2533 k23 a4 s0 s1 M := rfl
theorem jtL_law__2533 {k23 : Int32 → sy_M → sy_O} (hk23 : ∀ (w5 : Value) (w6 : Value) (a4 : Int32) (M : sy_M) (r : xe_R × sy_M), k23 a4 M = some r → sy_E (56) qL_law_ 23 [.ref 1000000, .ref 0, .ref 121, .ref 132, .int a4, w5, w6] [] M r) : ∀ (w5 : Value) (w6 : Value) (a4 : Int32) (s0 : Int64) (s1 : Int64) (M : sy_M) (r : xe_R × sy_M), jfL_law__2533 k23 a4 s0 s1 M = some r → sy_E (56) qL_law_ 2533 [.ref 1000000, .ref 0, .ref 121, .ref 132, .int a4, w5, w6] [.long s0, .long s1] M r := by
  intro w5 w6 a4 s0 s1 M r h
  exact sy_run_by (d := 55) ((jrL_law__2533 _ _ _ _ _ _ M).trans h) hkL (by decide +kernel) sy_cs_nil (sy_us_cons (jwL_law__2539 (jtL_law__2539 hk23)) sy_us_nil)
def jfL_law__2479 (k23 : Int32 → sy_M → sy_O) (a4 : Int32) (M : sy_M) : sy_O :=
  sy_bx (xe_in (a4 + 1) (M 134 0).toNatClampNeg) <|
  sy_bi (jfL_ring (M 1000000 (Int32.toNatClampNeg (a4 + 1))) M) fun v2 M1 =>
  sy_bx (xe_in (a4 + 1) (M1 134 0).toNatClampNeg) <|
  sy_bi (jfX12_ring (M1 1000000 (Int32.toNatClampNeg (a4 + 1))) M1) fun v4 M3 =>
  sy_bi (jfX12_thrown M3) fun v6 M5 =>
  if v6 = v2 then
    if v2 = 0 then
      if v4 = 0 then
        jfL_law__2533 k23 a4 (Int64.ofNat 0) (sy_rl M5 132 0) M5
      else
        jfL_law__2533 k23 a4 (Int64.ofNat 1) (sy_rl M5 132 0) M5
    else
      jfL_law__2539 k23 a4 M5
  else
    sy_ri 0 M5
set_option maxRecDepth 100000 in
theorem jrL_law__2479 (k23 : Int32 → sy_M → sy_O) (w5 : Value) (w6 : Value) (a4 : Int32) (M : sy_M) : sy_run skL qL_law_ [(2479, .aload_n 1, 1, [true, true, true, true, true, false, false]), (2480, .aload_n 0, 1, []), (2481, .iload 4, 2, []), (2483, .iconst 1, 1, []), (2484, .iadd, 1, []), (2485, .iaload, 1, []), (2486, .aload_n 3, 1, []), (2487, .invokestatic 306, 3, []), (2490, .istore 5, 2, []), (2492, .aload_n 2, 1, []), (2493, .aload_n 0, 1, []), (2494, .iload 4, 2, []), (2496, .iconst 1, 1, []), (2497, .iadd, 1, []), (2498, .iaload, 1, []), (2499, .invokevirtual 308, 3, []), (2502, .istore 6, 2, []), (2504, .aload_n 2, 1, []), (2505, .invokevirtual 154, 3, []), (2508, .iload 5, 2, []), (2510, .if_icmp .eq 5, 3, []), (2513, .iconst 0, 1, []), (2514, .ireturn, 1, []), (2515, .iload 5, 2, []), (2517, .ifCond .ne 22, 3, []), (2520, .aload_n 3, 1, []), (2521, .iconst 0, 1, []), (2522, .laload, 1, []), (2523, .iload 6, 2, []), (2525, .ifCond .eq 7, 3, []), (2528, .lconst 1, 1, []), (2529, .goto 4, 3, []), (2532, .lconst 0, 1, [true, true, true, true, true, false, false])] [(350, 0, jcL_ring), (302, 0, jcX12_ring), (181, 0, jcX12_thrown)] [(2539, juL_law__2539 (jfL_law__2539 k23)), (2533, juL_law__2533 (jfL_law__2533 k23))] 34 [] 2479 [.ref 1000000, .ref 0, .ref 121, .ref 132, .int a4, w5, w6] [] M = jfL_law__2479 k23 a4 M := rfl
theorem jtL_law__2479 {k23 : Int32 → sy_M → sy_O} (hk23 : ∀ (w5 : Value) (w6 : Value) (a4 : Int32) (M : sy_M) (r : xe_R × sy_M), k23 a4 M = some r → sy_E (56) qL_law_ 23 [.ref 1000000, .ref 0, .ref 121, .ref 132, .int a4, w5, w6] [] M r) : ∀ (w5 : Value) (w6 : Value) (a4 : Int32) (M : sy_M) (r : xe_R × sy_M), jfL_law__2479 k23 a4 M = some r → sy_E (56) qL_law_ 2479 [.ref 1000000, .ref 0, .ref 121, .ref 132, .int a4, w5, w6] [] M r := by
  intro w5 w6 a4 M r h
  exact sy_run_by (d := 55) ((jrL_law__2479 _ _ _ _ M).trans h) hkL (by decide +kernel) (sy_cs_cons (jeL_ring.deep (by decide)) (sy_cs_cons (jeX12_ring.deep (by decide)) (sy_cs_cons (jeX12_thrown.deep (by decide)) sy_cs_nil))) (sy_us_cons (jwL_law__2539 (jtL_law__2539 hk23)) (sy_us_cons (jwL_law__2533 (jtL_law__2533 hk23)) sy_us_nil))
def jfL_law__2542 (k23 : Int32 → sy_M → sy_O) (a4 : Int32) (M : sy_M) : sy_O :=
  sy_bi (jfX11_poorest M) fun v2 M1 =>
  sy_bi (jfX12_poorest M1) fun v4 M3 =>
  if v2 = v4 then
    jfL_law__3150 k23 a4 M3
  else
    sy_ri 0 M3
set_option maxRecDepth 100000 in
theorem jrL_law__2542 (k23 : Int32 → sy_M → sy_O) (w5 : Value) (w6 : Value) (a4 : Int32) (M : sy_M) : sy_run skL qL_law_ [(2542, .aload_n 1, 1, [true, true, true, true, true, false, false]), (2543, .invokevirtual 309, 3, []), (2546, .aload_n 2, 1, []), (2547, .invokevirtual 312, 3, []), (2550, .if_icmp .eq 600, 3, []), (2553, .iconst 0, 1, []), (2554, .ireturn, 1, [])] [(159, 0, jcX11_poorest), (303, 0, jcX12_poorest)] [(3150, juL_law__3150 (jfL_law__3150 k23))] 8 [] 2542 [.ref 1000000, .ref 0, .ref 121, .ref 132, .int a4, w5, w6] [] M = jfL_law__2542 k23 a4 M := rfl
theorem jtL_law__2542 {k23 : Int32 → sy_M → sy_O} (hk23 : ∀ (w5 : Value) (w6 : Value) (a4 : Int32) (M : sy_M) (r : xe_R × sy_M), k23 a4 M = some r → sy_E (56) qL_law_ 23 [.ref 1000000, .ref 0, .ref 121, .ref 132, .int a4, w5, w6] [] M r) : ∀ (w5 : Value) (w6 : Value) (a4 : Int32) (M : sy_M) (r : xe_R × sy_M), jfL_law__2542 k23 a4 M = some r → sy_E (56) qL_law_ 2542 [.ref 1000000, .ref 0, .ref 121, .ref 132, .int a4, w5, w6] [] M r := by
  intro w5 w6 a4 M r h
  exact sy_run_by (d := 55) ((jrL_law__2542 _ _ _ _ M).trans h) hkL (by decide +kernel) (sy_cs_cons (jeX11_poorest.deep (by decide)) (sy_cs_cons (jeX12_poorest.deep (by decide)) sy_cs_nil)) (sy_us_cons (jwL_law__3150 (jtL_law__3150 hk23)) sy_us_nil)
def jfL_law__2620 (k23 : Int32 → sy_M → sy_O) (a4 : Int32) (M : sy_M) : sy_O :=
  jfL_law__3150 k23 a4 M
set_option maxRecDepth 100000 in
theorem jrL_law__2620 (k23 : Int32 → sy_M → sy_O) (w5 : Value) (w6 : Value) (a4 : Int32) (M : sy_M) : sy_run skL qL_law_ [(2620, .goto 530, 3, [true, true, true, true, true, false, false])] [] [(3150, juL_law__3150 (jfL_law__3150 k23))] 2 [] 2620 [.ref 1000000, .ref 0, .ref 121, .ref 132, .int a4, w5, w6] [] M = jfL_law__2620 k23 a4 M := rfl
theorem jtL_law__2620 {k23 : Int32 → sy_M → sy_O} (hk23 : ∀ (w5 : Value) (w6 : Value) (a4 : Int32) (M : sy_M) (r : xe_R × sy_M), k23 a4 M = some r → sy_E (56) qL_law_ 23 [.ref 1000000, .ref 0, .ref 121, .ref 132, .int a4, w5, w6] [] M r) : ∀ (w5 : Value) (w6 : Value) (a4 : Int32) (M : sy_M) (r : xe_R × sy_M), jfL_law__2620 k23 a4 M = some r → sy_E (56) qL_law_ 2620 [.ref 1000000, .ref 0, .ref 121, .ref 132, .int a4, w5, w6] [] M r := by
  intro w5 w6 a4 M r h
  exact sy_run_by (d := 55) ((jrL_law__2620 _ _ _ _ M).trans h) hkL (by decide +kernel) sy_cs_nil (sy_us_cons (jwL_law__3150 (jtL_law__3150 hk23)) sy_us_nil)
def jfL_law__2555 (k23 : Int32 → sy_M → sy_O) (a4 : Int32) (M : sy_M) : sy_O :=
  sy_bx (xe_in (a4 + 1) (M 134 0).toNatClampNeg) <|
  sy_bx (xe_in (a4 + 2) (M 134 0).toNatClampNeg) <|
  sy_bi (jfL_rests (M 1000000 (Int32.toNatClampNeg (a4 + 1))) (M 1000000 (Int32.toNatClampNeg (a4 + 2))) M) fun v2 M1 =>
  sy_bx (xe_in (a4 + 1) (M1 134 0).toNatClampNeg) <|
  sy_bx (xe_in (a4 + 2) (M1 134 0).toNatClampNeg) <|
  sy_bi (jfX12_rests (M1 1000000 (Int32.toNatClampNeg (a4 + 1))) (M1 1000000 (Int32.toNatClampNeg (a4 + 2))) M1) fun v4 M3 =>
  sy_bi (jfX12_thrown M3) fun v6 M5 =>
  if v6 = v2 then
    if v2 = 0 then
      if (lg_cmp (sy_rl M5 132 0) (Int32.toInt64 v4)) = 0 then
        jfL_law__2620 k23 a4 M5
      else
        sy_ri 0 M5
    else
      jfL_law__2620 k23 a4 M5
  else
    sy_ri 0 M5
set_option maxRecDepth 100000 in
theorem jrL_law__2555 (k23 : Int32 → sy_M → sy_O) (w5 : Value) (w6 : Value) (a4 : Int32) (M : sy_M) : sy_run skL qL_law_ [(2555, .aload_n 1, 1, [true, true, true, true, true, false, false]), (2556, .aload_n 0, 1, []), (2557, .iload 4, 2, []), (2559, .iconst 1, 1, []), (2560, .iadd, 1, []), (2561, .iaload, 1, []), (2562, .aload_n 0, 1, []), (2563, .iload 4, 2, []), (2565, .iconst 2, 1, []), (2566, .iadd, 1, []), (2567, .iaload, 1, []), (2568, .aload_n 3, 1, []), (2569, .invokestatic 313, 3, []), (2572, .istore 5, 2, []), (2574, .aload_n 2, 1, []), (2575, .aload_n 0, 1, []), (2576, .iload 4, 2, []), (2578, .iconst 1, 1, []), (2579, .iadd, 1, []), (2580, .iaload, 1, []), (2581, .aload_n 0, 1, []), (2582, .iload 4, 2, []), (2584, .iconst 2, 1, []), (2585, .iadd, 1, []), (2586, .iaload, 1, []), (2587, .invokevirtual 315, 3, []), (2590, .istore 6, 2, []), (2592, .aload_n 2, 1, []), (2593, .invokevirtual 154, 3, []), (2596, .iload 5, 2, []), (2598, .if_icmp .eq 5, 3, []), (2601, .iconst 0, 1, []), (2602, .ireturn, 1, []), (2603, .iload 5, 2, []), (2605, .ifCond .ne 15, 3, []), (2608, .aload_n 3, 1, []), (2609, .iconst 0, 1, []), (2610, .laload, 1, []), (2611, .iload 6, 2, []), (2613, .i2l, 1, []), (2614, .lcmp, 1, []), (2615, .ifCond .eq 5, 3, []), (2618, .iconst 0, 1, []), (2619, .ireturn, 1, [])] [(351, 0, jcL_rests), (305, 0, jcX12_rests), (181, 0, jcX12_thrown)] [(2620, juL_law__2620 (jfL_law__2620 k23))] 45 [] 2555 [.ref 1000000, .ref 0, .ref 121, .ref 132, .int a4, w5, w6] [] M = jfL_law__2555 k23 a4 M := rfl
theorem jtL_law__2555 {k23 : Int32 → sy_M → sy_O} (hk23 : ∀ (w5 : Value) (w6 : Value) (a4 : Int32) (M : sy_M) (r : xe_R × sy_M), k23 a4 M = some r → sy_E (56) qL_law_ 23 [.ref 1000000, .ref 0, .ref 121, .ref 132, .int a4, w5, w6] [] M r) : ∀ (w5 : Value) (w6 : Value) (a4 : Int32) (M : sy_M) (r : xe_R × sy_M), jfL_law__2555 k23 a4 M = some r → sy_E (56) qL_law_ 2555 [.ref 1000000, .ref 0, .ref 121, .ref 132, .int a4, w5, w6] [] M r := by
  intro w5 w6 a4 M r h
  exact sy_run_by (d := 55) ((jrL_law__2555 _ _ _ _ M).trans h) hkL (by decide +kernel) (sy_cs_cons (jeL_rests.deep (by decide)) (sy_cs_cons (jeX12_rests.deep (by decide)) (sy_cs_cons (jeX12_thrown.deep (by decide)) sy_cs_nil))) (sy_us_cons (jwL_law__2620 (jtL_law__2620 hk23)) sy_us_nil)
def jfL_law__2688 (k23 : Int32 → sy_M → sy_O) (a4 : Int32) (M : sy_M) : sy_O :=
  jfL_law__3150 k23 a4 M
set_option maxRecDepth 100000 in
theorem jrL_law__2688 (k23 : Int32 → sy_M → sy_O) (w5 : Value) (w6 : Value) (a4 : Int32) (M : sy_M) : sy_run skL qL_law_ [(2688, .goto 462, 3, [true, true, true, true, true, false, false])] [] [(3150, juL_law__3150 (jfL_law__3150 k23))] 2 [] 2688 [.ref 1000000, .ref 0, .ref 121, .ref 132, .int a4, w5, w6] [] M = jfL_law__2688 k23 a4 M := rfl
theorem jtL_law__2688 {k23 : Int32 → sy_M → sy_O} (hk23 : ∀ (w5 : Value) (w6 : Value) (a4 : Int32) (M : sy_M) (r : xe_R × sy_M), k23 a4 M = some r → sy_E (56) qL_law_ 23 [.ref 1000000, .ref 0, .ref 121, .ref 132, .int a4, w5, w6] [] M r) : ∀ (w5 : Value) (w6 : Value) (a4 : Int32) (M : sy_M) (r : xe_R × sy_M), jfL_law__2688 k23 a4 M = some r → sy_E (56) qL_law_ 2688 [.ref 1000000, .ref 0, .ref 121, .ref 132, .int a4, w5, w6] [] M r := by
  intro w5 w6 a4 M r h
  exact sy_run_by (d := 55) ((jrL_law__2688 _ _ _ _ M).trans h) hkL (by decide +kernel) sy_cs_nil (sy_us_cons (jwL_law__3150 (jtL_law__3150 hk23)) sy_us_nil)
def jfL_law__2623 (k23 : Int32 → sy_M → sy_O) (a4 : Int32) (M : sy_M) : sy_O :=
  sy_bx (xe_in (a4 + 1) (M 134 0).toNatClampNeg) <|
  sy_bx (xe_in (a4 + 2) (M 134 0).toNatClampNeg) <|
  sy_bi (jfL_odds (M 1000000 (Int32.toNatClampNeg (a4 + 1))) (M 1000000 (Int32.toNatClampNeg (a4 + 2))) M) fun v2 M1 =>
  sy_bx (xe_in (a4 + 1) (M1 134 0).toNatClampNeg) <|
  sy_bx (xe_in (a4 + 2) (M1 134 0).toNatClampNeg) <|
  sy_bi (jfX12_odds (M1 1000000 (Int32.toNatClampNeg (a4 + 1))) (M1 1000000 (Int32.toNatClampNeg (a4 + 2))) M1) fun v4 M3 =>
  sy_bi (jfX12_thrown M3) fun v6 M5 =>
  if v6 = v2 then
    if v2 = 0 then
      if (lg_cmp (sy_rl M5 132 0) (Int32.toInt64 v4)) = 0 then
        jfL_law__2688 k23 a4 M5
      else
        sy_ri 0 M5
    else
      jfL_law__2688 k23 a4 M5
  else
    sy_ri 0 M5
set_option maxRecDepth 100000 in
theorem jrL_law__2623 (k23 : Int32 → sy_M → sy_O) (w5 : Value) (w6 : Value) (a4 : Int32) (M : sy_M) : sy_run skL qL_law_ [(2623, .aload_n 1, 1, [true, true, true, true, true, false, false]), (2624, .aload_n 0, 1, []), (2625, .iload 4, 2, []), (2627, .iconst 1, 1, []), (2628, .iadd, 1, []), (2629, .iaload, 1, []), (2630, .aload_n 0, 1, []), (2631, .iload 4, 2, []), (2633, .iconst 2, 1, []), (2634, .iadd, 1, []), (2635, .iaload, 1, []), (2636, .aload_n 3, 1, []), (2637, .invokestatic 316, 3, []), (2640, .istore 5, 2, []), (2642, .aload_n 2, 1, []), (2643, .aload_n 0, 1, []), (2644, .iload 4, 2, []), (2646, .iconst 1, 1, []), (2647, .iadd, 1, []), (2648, .iaload, 1, []), (2649, .aload_n 0, 1, []), (2650, .iload 4, 2, []), (2652, .iconst 2, 1, []), (2653, .iadd, 1, []), (2654, .iaload, 1, []), (2655, .invokevirtual 318, 3, []), (2658, .istore 6, 2, []), (2660, .aload_n 2, 1, []), (2661, .invokevirtual 154, 3, []), (2664, .iload 5, 2, []), (2666, .if_icmp .eq 5, 3, []), (2669, .iconst 0, 1, []), (2670, .ireturn, 1, []), (2671, .iload 5, 2, []), (2673, .ifCond .ne 15, 3, []), (2676, .aload_n 3, 1, []), (2677, .iconst 0, 1, []), (2678, .laload, 1, []), (2679, .iload 6, 2, []), (2681, .i2l, 1, []), (2682, .lcmp, 1, []), (2683, .ifCond .eq 5, 3, []), (2686, .iconst 0, 1, []), (2687, .ireturn, 1, [])] [(352, 0, jcL_odds), (306, 0, jcX12_odds), (181, 0, jcX12_thrown)] [(2688, juL_law__2688 (jfL_law__2688 k23))] 45 [] 2623 [.ref 1000000, .ref 0, .ref 121, .ref 132, .int a4, w5, w6] [] M = jfL_law__2623 k23 a4 M := rfl
theorem jtL_law__2623 {k23 : Int32 → sy_M → sy_O} (hk23 : ∀ (w5 : Value) (w6 : Value) (a4 : Int32) (M : sy_M) (r : xe_R × sy_M), k23 a4 M = some r → sy_E (56) qL_law_ 23 [.ref 1000000, .ref 0, .ref 121, .ref 132, .int a4, w5, w6] [] M r) : ∀ (w5 : Value) (w6 : Value) (a4 : Int32) (M : sy_M) (r : xe_R × sy_M), jfL_law__2623 k23 a4 M = some r → sy_E (56) qL_law_ 2623 [.ref 1000000, .ref 0, .ref 121, .ref 132, .int a4, w5, w6] [] M r := by
  intro w5 w6 a4 M r h
  exact sy_run_by (d := 55) ((jrL_law__2623 _ _ _ _ M).trans h) hkL (by decide +kernel) (sy_cs_cons (jeL_odds.deep (by decide)) (sy_cs_cons (jeX12_odds.deep (by decide)) (sy_cs_cons (jeX12_thrown.deep (by decide)) sy_cs_nil))) (sy_us_cons (jwL_law__2688 (jtL_law__2688 hk23)) sy_us_nil)
def jfL_law__2691 (k23 : Int32 → sy_M → sy_O) (a4 : Int32) (M : sy_M) : sy_O :=
  sy_bi (jfX11_busy M) fun v2 M1 =>
  sy_bi (jfX12_busy M1) fun v4 M3 =>
  if v2 = v4 then
    jfL_law__3150 k23 a4 M3
  else
    sy_ri 0 M3
set_option maxRecDepth 100000 in
theorem jrL_law__2691 (k23 : Int32 → sy_M → sy_O) (w5 : Value) (w6 : Value) (a4 : Int32) (M : sy_M) : sy_run skL qL_law_ [(2691, .aload_n 1, 1, [true, true, true, true, true, false, false]), (2692, .invokevirtual 319, 3, []), (2695, .aload_n 2, 1, []), (2696, .invokevirtual 322, 3, []), (2699, .if_icmp .eq 451, 3, []), (2702, .iconst 0, 1, []), (2703, .ireturn, 1, [])] [(163, 0, jcX11_busy), (307, 0, jcX12_busy)] [(3150, juL_law__3150 (jfL_law__3150 k23))] 8 [] 2691 [.ref 1000000, .ref 0, .ref 121, .ref 132, .int a4, w5, w6] [] M = jfL_law__2691 k23 a4 M := rfl
theorem jtL_law__2691 {k23 : Int32 → sy_M → sy_O} (hk23 : ∀ (w5 : Value) (w6 : Value) (a4 : Int32) (M : sy_M) (r : xe_R × sy_M), k23 a4 M = some r → sy_E (56) qL_law_ 23 [.ref 1000000, .ref 0, .ref 121, .ref 132, .int a4, w5, w6] [] M r) : ∀ (w5 : Value) (w6 : Value) (a4 : Int32) (M : sy_M) (r : xe_R × sy_M), jfL_law__2691 k23 a4 M = some r → sy_E (56) qL_law_ 2691 [.ref 1000000, .ref 0, .ref 121, .ref 132, .int a4, w5, w6] [] M r := by
  intro w5 w6 a4 M r h
  exact sy_run_by (d := 55) ((jrL_law__2691 _ _ _ _ M).trans h) hkL (by decide +kernel) (sy_cs_cons (jeX11_busy.deep (by decide)) (sy_cs_cons (jeX12_busy.deep (by decide)) sy_cs_nil)) (sy_us_cons (jwL_law__3150 (jtL_law__3150 hk23)) sy_us_nil)
def jfL_law__2704 (k23 : Int32 → sy_M → sy_O) (a4 : Int32) (M : sy_M) : sy_O :=
  sy_bi (jfX11_alone M) fun v2 M1 =>
  sy_bi (jfX12_alone M1) fun v4 M3 =>
  if v2 = v4 then
    jfL_law__3150 k23 a4 M3
  else
    sy_ri 0 M3
set_option maxRecDepth 100000 in
theorem jrL_law__2704 (k23 : Int32 → sy_M → sy_O) (w5 : Value) (w6 : Value) (a4 : Int32) (M : sy_M) : sy_run skL qL_law_ [(2704, .aload_n 1, 1, [true, true, true, true, true, false, false]), (2705, .invokevirtual 323, 3, []), (2708, .aload_n 2, 1, []), (2709, .invokevirtual 326, 3, []), (2712, .if_icmp .eq 438, 3, []), (2715, .iconst 0, 1, []), (2716, .ireturn, 1, [])] [(164, 0, jcX11_alone), (308, 0, jcX12_alone)] [(3150, juL_law__3150 (jfL_law__3150 k23))] 8 [] 2704 [.ref 1000000, .ref 0, .ref 121, .ref 132, .int a4, w5, w6] [] M = jfL_law__2704 k23 a4 M := rfl
theorem jtL_law__2704 {k23 : Int32 → sy_M → sy_O} (hk23 : ∀ (w5 : Value) (w6 : Value) (a4 : Int32) (M : sy_M) (r : xe_R × sy_M), k23 a4 M = some r → sy_E (56) qL_law_ 23 [.ref 1000000, .ref 0, .ref 121, .ref 132, .int a4, w5, w6] [] M r) : ∀ (w5 : Value) (w6 : Value) (a4 : Int32) (M : sy_M) (r : xe_R × sy_M), jfL_law__2704 k23 a4 M = some r → sy_E (56) qL_law_ 2704 [.ref 1000000, .ref 0, .ref 121, .ref 132, .int a4, w5, w6] [] M r := by
  intro w5 w6 a4 M r h
  exact sy_run_by (d := 55) ((jrL_law__2704 _ _ _ _ M).trans h) hkL (by decide +kernel) (sy_cs_cons (jeX11_alone.deep (by decide)) (sy_cs_cons (jeX12_alone.deep (by decide)) sy_cs_nil)) (sy_us_cons (jwL_law__3150 (jtL_law__3150 hk23)) sy_us_nil)
def jfL_law__2717 (k23 : Int32 → sy_M → sy_O) (a4 : Int32) (M : sy_M) : sy_O :=
  sy_bi (jfX11_miser M) fun v2 M1 =>
  sy_bi (jfX12_miser M1) fun v4 M3 =>
  if v2 = v4 then
    jfL_law__3150 k23 a4 M3
  else
    sy_ri 0 M3
set_option maxRecDepth 100000 in
theorem jrL_law__2717 (k23 : Int32 → sy_M → sy_O) (w5 : Value) (w6 : Value) (a4 : Int32) (M : sy_M) : sy_run skL qL_law_ [(2717, .aload_n 1, 1, [true, true, true, true, true, false, false]), (2718, .invokevirtual 327, 3, []), (2721, .aload_n 2, 1, []), (2722, .invokevirtual 330, 3, []), (2725, .if_icmp .eq 425, 3, []), (2728, .iconst 0, 1, []), (2729, .ireturn, 1, [])] [(165, 0, jcX11_miser), (309, 0, jcX12_miser)] [(3150, juL_law__3150 (jfL_law__3150 k23))] 8 [] 2717 [.ref 1000000, .ref 0, .ref 121, .ref 132, .int a4, w5, w6] [] M = jfL_law__2717 k23 a4 M := rfl
theorem jtL_law__2717 {k23 : Int32 → sy_M → sy_O} (hk23 : ∀ (w5 : Value) (w6 : Value) (a4 : Int32) (M : sy_M) (r : xe_R × sy_M), k23 a4 M = some r → sy_E (56) qL_law_ 23 [.ref 1000000, .ref 0, .ref 121, .ref 132, .int a4, w5, w6] [] M r) : ∀ (w5 : Value) (w6 : Value) (a4 : Int32) (M : sy_M) (r : xe_R × sy_M), jfL_law__2717 k23 a4 M = some r → sy_E (56) qL_law_ 2717 [.ref 1000000, .ref 0, .ref 121, .ref 132, .int a4, w5, w6] [] M r := by
  intro w5 w6 a4 M r h
  exact sy_run_by (d := 55) ((jrL_law__2717 _ _ _ _ M).trans h) hkL (by decide +kernel) (sy_cs_cons (jeX11_miser.deep (by decide)) (sy_cs_cons (jeX12_miser.deep (by decide)) sy_cs_nil)) (sy_us_cons (jwL_law__3150 (jtL_law__3150 hk23)) sy_us_nil)
def jfL_law__2730 (k23 : Int32 → sy_M → sy_O) (a4 : Int32) (M : sy_M) : sy_O :=
  sy_bi (jfX11_alike M) fun v2 M1 =>
  sy_bi (jfX12_alike M1) fun v4 M3 =>
  if v2 = v4 then
    jfL_law__3150 k23 a4 M3
  else
    sy_ri 0 M3
set_option maxRecDepth 100000 in
theorem jrL_law__2730 (k23 : Int32 → sy_M → sy_O) (w5 : Value) (w6 : Value) (a4 : Int32) (M : sy_M) : sy_run skL qL_law_ [(2730, .aload_n 1, 1, [true, true, true, true, true, false, false]), (2731, .invokevirtual 331, 3, []), (2734, .aload_n 2, 1, []), (2735, .invokevirtual 334, 3, []), (2738, .if_icmp .eq 412, 3, []), (2741, .iconst 0, 1, []), (2742, .ireturn, 1, [])] [(166, 0, jcX11_alike), (310, 0, jcX12_alike)] [(3150, juL_law__3150 (jfL_law__3150 k23))] 8 [] 2730 [.ref 1000000, .ref 0, .ref 121, .ref 132, .int a4, w5, w6] [] M = jfL_law__2730 k23 a4 M := rfl
theorem jtL_law__2730 {k23 : Int32 → sy_M → sy_O} (hk23 : ∀ (w5 : Value) (w6 : Value) (a4 : Int32) (M : sy_M) (r : xe_R × sy_M), k23 a4 M = some r → sy_E (56) qL_law_ 23 [.ref 1000000, .ref 0, .ref 121, .ref 132, .int a4, w5, w6] [] M r) : ∀ (w5 : Value) (w6 : Value) (a4 : Int32) (M : sy_M) (r : xe_R × sy_M), jfL_law__2730 k23 a4 M = some r → sy_E (56) qL_law_ 2730 [.ref 1000000, .ref 0, .ref 121, .ref 132, .int a4, w5, w6] [] M r := by
  intro w5 w6 a4 M r h
  exact sy_run_by (d := 55) ((jrL_law__2730 _ _ _ _ M).trans h) hkL (by decide +kernel) (sy_cs_cons (jeX11_alike.deep (by decide)) (sy_cs_cons (jeX12_alike.deep (by decide)) sy_cs_nil)) (sy_us_cons (jwL_law__3150 (jtL_law__3150 hk23)) sy_us_nil)
def jfL_law__2824 (k23 : Int32 → sy_M → sy_O) (a4 : Int32) (M : sy_M) : sy_O :=
  jfL_law__3150 k23 a4 M
set_option maxRecDepth 100000 in
theorem jrL_law__2824 (k23 : Int32 → sy_M → sy_O) (w5 : Value) (w6 : Value) (a4 : Int32) (M : sy_M) : sy_run skL qL_law_ [(2824, .goto 326, 3, [true, true, true, true, true, false, false])] [] [(3150, juL_law__3150 (jfL_law__3150 k23))] 2 [] 2824 [.ref 1000000, .ref 0, .ref 121, .ref 132, .int a4, w5, w6] [] M = jfL_law__2824 k23 a4 M := rfl
theorem jtL_law__2824 {k23 : Int32 → sy_M → sy_O} (hk23 : ∀ (w5 : Value) (w6 : Value) (a4 : Int32) (M : sy_M) (r : xe_R × sy_M), k23 a4 M = some r → sy_E (56) qL_law_ 23 [.ref 1000000, .ref 0, .ref 121, .ref 132, .int a4, w5, w6] [] M r) : ∀ (w5 : Value) (w6 : Value) (a4 : Int32) (M : sy_M) (r : xe_R × sy_M), jfL_law__2824 k23 a4 M = some r → sy_E (56) qL_law_ 2824 [.ref 1000000, .ref 0, .ref 121, .ref 132, .int a4, w5, w6] [] M r := by
  intro w5 w6 a4 M r h
  exact sy_run_by (d := 55) ((jrL_law__2824 _ _ _ _ M).trans h) hkL (by decide +kernel) sy_cs_nil (sy_us_cons (jwL_law__3150 (jtL_law__3150 hk23)) sy_us_nil)
def jfL_law__2791 (k23 : Int32 → sy_M → sy_O) (a4 : Int32) (a5 : Int32) (s0 : Int32) (s1 : Int32) (M : sy_M) : sy_O :=
  sy_bi (jfX12_trial s1 s0 M) fun v2 M1 =>
  sy_bi (jfX12_thrown M1) fun v4 M3 =>
  if v4 = a5 then
    if a5 = 0 then
      if (lg_cmp (sy_rl M3 132 0) (Int32.toInt64 v2)) = 0 then
        jfL_law__2824 k23 a4 M3
      else
        sy_ri 0 M3
    else
      jfL_law__2824 k23 a4 M3
  else
    sy_ri 0 M3
set_option maxRecDepth 100000 in
theorem jrL_law__2791 (k23 : Int32 → sy_M → sy_O) (w6 : Value) (a4 : Int32) (a5 : Int32) (s0 : Int32) (s1 : Int32) (M : sy_M) : sy_run skL qL_law_ [(2791, .invokevirtual 337, 3, [true, true, true, true, true, true, false]), (2794, .istore 6, 2, []), (2796, .aload_n 2, 1, []), (2797, .invokevirtual 154, 3, []), (2800, .iload 5, 2, []), (2802, .if_icmp .eq 5, 3, []), (2805, .iconst 0, 1, []), (2806, .ireturn, 1, []), (2807, .iload 5, 2, []), (2809, .ifCond .ne 15, 3, []), (2812, .aload_n 3, 1, []), (2813, .iconst 0, 1, []), (2814, .laload, 1, []), (2815, .iload 6, 2, []), (2817, .i2l, 1, []), (2818, .lcmp, 1, []), (2819, .ifCond .eq 5, 3, []), (2822, .iconst 0, 1, []), (2823, .ireturn, 1, [])] [(311, 0, jcX12_trial), (181, 0, jcX12_thrown)] [(2824, juL_law__2824 (jfL_law__2824 k23))] 20 [] 2791 [.ref 1000000, .ref 0, .ref 121, .ref 132, .int a4, .int a5, w6] [.int s0, .int s1, .ref 121] M = jfL_law__2791 k23 a4 a5 s0 s1 M := rfl
theorem jtL_law__2791 {k23 : Int32 → sy_M → sy_O} (hk23 : ∀ (w5 : Value) (w6 : Value) (a4 : Int32) (M : sy_M) (r : xe_R × sy_M), k23 a4 M = some r → sy_E (56) qL_law_ 23 [.ref 1000000, .ref 0, .ref 121, .ref 132, .int a4, w5, w6] [] M r) : ∀ (w6 : Value) (a4 : Int32) (a5 : Int32) (s0 : Int32) (s1 : Int32) (M : sy_M) (r : xe_R × sy_M), jfL_law__2791 k23 a4 a5 s0 s1 M = some r → sy_E (56) qL_law_ 2791 [.ref 1000000, .ref 0, .ref 121, .ref 132, .int a4, .int a5, w6] [.int s0, .int s1, .ref 121] M r := by
  intro w6 a4 a5 s0 s1 M r h
  exact sy_run_by (d := 55) ((jrL_law__2791 _ _ _ _ _ _ M).trans h) hkL (by decide +kernel) (sy_cs_cons (jeX12_trial.deep (by decide)) (sy_cs_cons (jeX12_thrown.deep (by decide)) sy_cs_nil)) (sy_us_cons (jwL_law__2824 (jtL_law__2824 hk23)) sy_us_nil)
def jfL_law__2764 (k23 : Int32 → sy_M → sy_O) (a4 : Int32) (s0 : Int32) (s1 : Int32) (M : sy_M) : sy_O :=
  sy_bi (jfL_trial s1 s0 M) fun v2 M1 =>
  sy_bx (xe_in (a4 + 1) (M1 134 0).toNatClampNeg) <|
  sy_bx (xe_in (a4 + 2) (M1 134 0).toNatClampNeg) <|
  if (M1 1000000 (Int32.toNatClampNeg (a4 + 2))) = 0 then
    jfL_law__2791 k23 a4 v2 0 (M1 1000000 (Int32.toNatClampNeg (a4 + 1))) M1
  else
    jfL_law__2791 k23 a4 v2 1 (M1 1000000 (Int32.toNatClampNeg (a4 + 1))) M1
set_option maxRecDepth 100000 in
theorem jrL_law__2764 (k23 : Int32 → sy_M → sy_O) (w5 : Value) (w6 : Value) (a4 : Int32) (s0 : Int32) (s1 : Int32) (M : sy_M) : sy_run skL qL_law_ [(2764, .aload_n 3, 1, [true, true, true, true, true, false, false]), (2765, .invokestatic 335, 3, []), (2768, .istore 5, 2, []), (2770, .aload_n 2, 1, []), (2771, .aload_n 0, 1, []), (2772, .iload 4, 2, []), (2774, .iconst 1, 1, []), (2775, .iadd, 1, []), (2776, .iaload, 1, []), (2777, .aload_n 0, 1, []), (2778, .iload 4, 2, []), (2780, .iconst 2, 1, []), (2781, .iadd, 1, []), (2782, .iaload, 1, []), (2783, .ifCond .eq 7, 3, []), (2786, .iconst 1, 1, []), (2787, .goto 4, 3, []), (2790, .iconst 0, 1, [true, true, true, true, true, true, false])] [(353, 0, jcL_trial)] [(2791, juL_law__2791 (jfL_law__2791 k23))] 19 [] 2764 [.ref 1000000, .ref 0, .ref 121, .ref 132, .int a4, w5, w6] [.int s0, .int s1, .ref 0] M = jfL_law__2764 k23 a4 s0 s1 M := rfl
theorem jtL_law__2764 {k23 : Int32 → sy_M → sy_O} (hk23 : ∀ (w5 : Value) (w6 : Value) (a4 : Int32) (M : sy_M) (r : xe_R × sy_M), k23 a4 M = some r → sy_E (56) qL_law_ 23 [.ref 1000000, .ref 0, .ref 121, .ref 132, .int a4, w5, w6] [] M r) : ∀ (w5 : Value) (w6 : Value) (a4 : Int32) (s0 : Int32) (s1 : Int32) (M : sy_M) (r : xe_R × sy_M), jfL_law__2764 k23 a4 s0 s1 M = some r → sy_E (56) qL_law_ 2764 [.ref 1000000, .ref 0, .ref 121, .ref 132, .int a4, w5, w6] [.int s0, .int s1, .ref 0] M r := by
  intro w5 w6 a4 s0 s1 M r h
  exact sy_run_by (d := 55) ((jrL_law__2764 _ _ _ _ _ _ M).trans h) hkL (by decide +kernel) (sy_cs_cons (jeL_trial.deep (by decide)) sy_cs_nil) (sy_us_cons (jwL_law__2791 (jtL_law__2791 hk23)) sy_us_nil)
def jfL_law__2743 (k23 : Int32 → sy_M → sy_O) (a4 : Int32) (M : sy_M) : sy_O :=
  sy_bx (xe_in (a4 + 1) (M 134 0).toNatClampNeg) <|
  sy_bx (xe_in (a4 + 2) (M 134 0).toNatClampNeg) <|
  if (M 1000000 (Int32.toNatClampNeg (a4 + 2))) = 0 then
    jfL_law__2764 k23 a4 0 (M 1000000 (Int32.toNatClampNeg (a4 + 1))) M
  else
    jfL_law__2764 k23 a4 1 (M 1000000 (Int32.toNatClampNeg (a4 + 1))) M
set_option maxRecDepth 100000 in
theorem jrL_law__2743 (k23 : Int32 → sy_M → sy_O) (w5 : Value) (w6 : Value) (a4 : Int32) (M : sy_M) : sy_run skL qL_law_ [(2743, .aload_n 1, 1, [true, true, true, true, true, false, false]), (2744, .aload_n 0, 1, []), (2745, .iload 4, 2, []), (2747, .iconst 1, 1, []), (2748, .iadd, 1, []), (2749, .iaload, 1, []), (2750, .aload_n 0, 1, []), (2751, .iload 4, 2, []), (2753, .iconst 2, 1, []), (2754, .iadd, 1, []), (2755, .iaload, 1, []), (2756, .ifCond .eq 7, 3, []), (2759, .iconst 1, 1, []), (2760, .goto 4, 3, []), (2763, .iconst 0, 1, [true, true, true, true, true, false, false])] [] [(2764, juL_law__2764 (jfL_law__2764 k23))] 16 [] 2743 [.ref 1000000, .ref 0, .ref 121, .ref 132, .int a4, w5, w6] [] M = jfL_law__2743 k23 a4 M := rfl
theorem jtL_law__2743 {k23 : Int32 → sy_M → sy_O} (hk23 : ∀ (w5 : Value) (w6 : Value) (a4 : Int32) (M : sy_M) (r : xe_R × sy_M), k23 a4 M = some r → sy_E (56) qL_law_ 23 [.ref 1000000, .ref 0, .ref 121, .ref 132, .int a4, w5, w6] [] M r) : ∀ (w5 : Value) (w6 : Value) (a4 : Int32) (M : sy_M) (r : xe_R × sy_M), jfL_law__2743 k23 a4 M = some r → sy_E (56) qL_law_ 2743 [.ref 1000000, .ref 0, .ref 121, .ref 132, .int a4, w5, w6] [] M r := by
  intro w5 w6 a4 M r h
  exact sy_run_by (d := 55) ((jrL_law__2743 _ _ _ _ M).trans h) hkL (by decide +kernel) sy_cs_nil (sy_us_cons (jwL_law__2764 (jtL_law__2764 hk23)) sy_us_nil)
def jfL_law__2908 (k23 : Int32 → sy_M → sy_O) (a4 : Int32) (M : sy_M) : sy_O :=
  jfL_law__3150 k23 a4 M
set_option maxRecDepth 100000 in
theorem jrL_law__2908 (k23 : Int32 → sy_M → sy_O) (w5 : Value) (w6 : Value) (a4 : Int32) (M : sy_M) : sy_run skL qL_law_ [(2908, .goto 242, 3, [true, true, true, true, true, false, false])] [] [(3150, juL_law__3150 (jfL_law__3150 k23))] 2 [] 2908 [.ref 1000000, .ref 0, .ref 121, .ref 132, .int a4, w5, w6] [] M = jfL_law__2908 k23 a4 M := rfl
theorem jtL_law__2908 {k23 : Int32 → sy_M → sy_O} (hk23 : ∀ (w5 : Value) (w6 : Value) (a4 : Int32) (M : sy_M) (r : xe_R × sy_M), k23 a4 M = some r → sy_E (56) qL_law_ 23 [.ref 1000000, .ref 0, .ref 121, .ref 132, .int a4, w5, w6] [] M r) : ∀ (w5 : Value) (w6 : Value) (a4 : Int32) (M : sy_M) (r : xe_R × sy_M), jfL_law__2908 k23 a4 M = some r → sy_E (56) qL_law_ 2908 [.ref 1000000, .ref 0, .ref 121, .ref 132, .int a4, w5, w6] [] M r := by
  intro w5 w6 a4 M r h
  exact sy_run_by (d := 55) ((jrL_law__2908 _ _ _ _ M).trans h) hkL (by decide +kernel) sy_cs_nil (sy_us_cons (jwL_law__3150 (jtL_law__3150 hk23)) sy_us_nil)
def jfL_law__2875 (k23 : Int32 → sy_M → sy_O) (a4 : Int32) (a5 : Int32) (s0 : Int32) (s1 : Int32) (M : sy_M) : sy_O :=
  sy_bi (jfX12_span s1 s0 M) fun v2 M1 =>
  sy_bi (jfX12_thrown M1) fun v4 M3 =>
  if v4 = a5 then
    if a5 = 0 then
      if (lg_cmp (sy_rl M3 132 0) (Int32.toInt64 v2)) = 0 then
        jfL_law__2908 k23 a4 M3
      else
        sy_ri 0 M3
    else
      jfL_law__2908 k23 a4 M3
  else
    sy_ri 0 M3
set_option maxRecDepth 100000 in
theorem jrL_law__2875 (k23 : Int32 → sy_M → sy_O) (w6 : Value) (a4 : Int32) (a5 : Int32) (s0 : Int32) (s1 : Int32) (M : sy_M) : sy_run skL qL_law_ [(2875, .invokevirtual 340, 3, [true, true, true, true, true, true, false]), (2878, .istore 6, 2, []), (2880, .aload_n 2, 1, []), (2881, .invokevirtual 154, 3, []), (2884, .iload 5, 2, []), (2886, .if_icmp .eq 5, 3, []), (2889, .iconst 0, 1, []), (2890, .ireturn, 1, []), (2891, .iload 5, 2, []), (2893, .ifCond .ne 15, 3, []), (2896, .aload_n 3, 1, []), (2897, .iconst 0, 1, []), (2898, .laload, 1, []), (2899, .iload 6, 2, []), (2901, .i2l, 1, []), (2902, .lcmp, 1, []), (2903, .ifCond .eq 5, 3, []), (2906, .iconst 0, 1, []), (2907, .ireturn, 1, [])] [(312, 0, jcX12_span), (181, 0, jcX12_thrown)] [(2908, juL_law__2908 (jfL_law__2908 k23))] 20 [] 2875 [.ref 1000000, .ref 0, .ref 121, .ref 132, .int a4, .int a5, w6] [.int s0, .int s1, .ref 121] M = jfL_law__2875 k23 a4 a5 s0 s1 M := rfl
theorem jtL_law__2875 {k23 : Int32 → sy_M → sy_O} (hk23 : ∀ (w5 : Value) (w6 : Value) (a4 : Int32) (M : sy_M) (r : xe_R × sy_M), k23 a4 M = some r → sy_E (56) qL_law_ 23 [.ref 1000000, .ref 0, .ref 121, .ref 132, .int a4, w5, w6] [] M r) : ∀ (w6 : Value) (a4 : Int32) (a5 : Int32) (s0 : Int32) (s1 : Int32) (M : sy_M) (r : xe_R × sy_M), jfL_law__2875 k23 a4 a5 s0 s1 M = some r → sy_E (56) qL_law_ 2875 [.ref 1000000, .ref 0, .ref 121, .ref 132, .int a4, .int a5, w6] [.int s0, .int s1, .ref 121] M r := by
  intro w6 a4 a5 s0 s1 M r h
  exact sy_run_by (d := 55) ((jrL_law__2875 _ _ _ _ _ _ M).trans h) hkL (by decide +kernel) (sy_cs_cons (jeX12_span.deep (by decide)) (sy_cs_cons (jeX12_thrown.deep (by decide)) sy_cs_nil)) (sy_us_cons (jwL_law__2908 (jtL_law__2908 hk23)) sy_us_nil)
def jfL_law__2848 (k23 : Int32 → sy_M → sy_O) (a4 : Int32) (s0 : Int32) (s1 : Int32) (M : sy_M) : sy_O :=
  sy_bi (jfL_span s1 s0 M) fun v2 M1 =>
  sy_bx (xe_in (a4 + 1) (M1 134 0).toNatClampNeg) <|
  sy_bx (xe_in (a4 + 2) (M1 134 0).toNatClampNeg) <|
  if (M1 1000000 (Int32.toNatClampNeg (a4 + 2))) = 0 then
    jfL_law__2875 k23 a4 v2 0 (M1 1000000 (Int32.toNatClampNeg (a4 + 1))) M1
  else
    jfL_law__2875 k23 a4 v2 1 (M1 1000000 (Int32.toNatClampNeg (a4 + 1))) M1
set_option maxRecDepth 100000 in
theorem jrL_law__2848 (k23 : Int32 → sy_M → sy_O) (w5 : Value) (w6 : Value) (a4 : Int32) (s0 : Int32) (s1 : Int32) (M : sy_M) : sy_run skL qL_law_ [(2848, .aload_n 3, 1, [true, true, true, true, true, false, false]), (2849, .invokestatic 338, 3, []), (2852, .istore 5, 2, []), (2854, .aload_n 2, 1, []), (2855, .aload_n 0, 1, []), (2856, .iload 4, 2, []), (2858, .iconst 1, 1, []), (2859, .iadd, 1, []), (2860, .iaload, 1, []), (2861, .aload_n 0, 1, []), (2862, .iload 4, 2, []), (2864, .iconst 2, 1, []), (2865, .iadd, 1, []), (2866, .iaload, 1, []), (2867, .ifCond .eq 7, 3, []), (2870, .iconst 1, 1, []), (2871, .goto 4, 3, []), (2874, .iconst 0, 1, [true, true, true, true, true, true, false])] [(354, 0, jcL_span)] [(2875, juL_law__2875 (jfL_law__2875 k23))] 19 [] 2848 [.ref 1000000, .ref 0, .ref 121, .ref 132, .int a4, w5, w6] [.int s0, .int s1, .ref 0] M = jfL_law__2848 k23 a4 s0 s1 M := rfl
theorem jtL_law__2848 {k23 : Int32 → sy_M → sy_O} (hk23 : ∀ (w5 : Value) (w6 : Value) (a4 : Int32) (M : sy_M) (r : xe_R × sy_M), k23 a4 M = some r → sy_E (56) qL_law_ 23 [.ref 1000000, .ref 0, .ref 121, .ref 132, .int a4, w5, w6] [] M r) : ∀ (w5 : Value) (w6 : Value) (a4 : Int32) (s0 : Int32) (s1 : Int32) (M : sy_M) (r : xe_R × sy_M), jfL_law__2848 k23 a4 s0 s1 M = some r → sy_E (56) qL_law_ 2848 [.ref 1000000, .ref 0, .ref 121, .ref 132, .int a4, w5, w6] [.int s0, .int s1, .ref 0] M r := by
  intro w5 w6 a4 s0 s1 M r h
  exact sy_run_by (d := 55) ((jrL_law__2848 _ _ _ _ _ _ M).trans h) hkL (by decide +kernel) (sy_cs_cons (jeL_span.deep (by decide)) sy_cs_nil) (sy_us_cons (jwL_law__2875 (jtL_law__2875 hk23)) sy_us_nil)
def jfL_law__2827 (k23 : Int32 → sy_M → sy_O) (a4 : Int32) (M : sy_M) : sy_O :=
  sy_bx (xe_in (a4 + 1) (M 134 0).toNatClampNeg) <|
  sy_bx (xe_in (a4 + 2) (M 134 0).toNatClampNeg) <|
  if (M 1000000 (Int32.toNatClampNeg (a4 + 2))) = 0 then
    jfL_law__2848 k23 a4 0 (M 1000000 (Int32.toNatClampNeg (a4 + 1))) M
  else
    jfL_law__2848 k23 a4 1 (M 1000000 (Int32.toNatClampNeg (a4 + 1))) M
set_option maxRecDepth 100000 in
theorem jrL_law__2827 (k23 : Int32 → sy_M → sy_O) (w5 : Value) (w6 : Value) (a4 : Int32) (M : sy_M) : sy_run skL qL_law_ [(2827, .aload_n 1, 1, [true, true, true, true, true, false, false]), (2828, .aload_n 0, 1, []), (2829, .iload 4, 2, []), (2831, .iconst 1, 1, []), (2832, .iadd, 1, []), (2833, .iaload, 1, []), (2834, .aload_n 0, 1, []), (2835, .iload 4, 2, []), (2837, .iconst 2, 1, []), (2838, .iadd, 1, []), (2839, .iaload, 1, []), (2840, .ifCond .eq 7, 3, []), (2843, .iconst 1, 1, []), (2844, .goto 4, 3, []), (2847, .iconst 0, 1, [true, true, true, true, true, false, false])] [] [(2848, juL_law__2848 (jfL_law__2848 k23))] 16 [] 2827 [.ref 1000000, .ref 0, .ref 121, .ref 132, .int a4, w5, w6] [] M = jfL_law__2827 k23 a4 M := rfl
theorem jtL_law__2827 {k23 : Int32 → sy_M → sy_O} (hk23 : ∀ (w5 : Value) (w6 : Value) (a4 : Int32) (M : sy_M) (r : xe_R × sy_M), k23 a4 M = some r → sy_E (56) qL_law_ 23 [.ref 1000000, .ref 0, .ref 121, .ref 132, .int a4, w5, w6] [] M r) : ∀ (w5 : Value) (w6 : Value) (a4 : Int32) (M : sy_M) (r : xe_R × sy_M), jfL_law__2827 k23 a4 M = some r → sy_E (56) qL_law_ 2827 [.ref 1000000, .ref 0, .ref 121, .ref 132, .int a4, w5, w6] [] M r := by
  intro w5 w6 a4 M r h
  exact sy_run_by (d := 55) ((jrL_law__2827 _ _ _ _ M).trans h) hkL (by decide +kernel) sy_cs_nil (sy_us_cons (jwL_law__2848 (jtL_law__2848 hk23)) sy_us_nil)
def jfL_law__2992 (k23 : Int32 → sy_M → sy_O) (a4 : Int32) (M : sy_M) : sy_O :=
  jfL_law__3150 k23 a4 M
set_option maxRecDepth 100000 in
theorem jrL_law__2992 (k23 : Int32 → sy_M → sy_O) (w5 : Value) (w6 : Value) (a4 : Int32) (M : sy_M) : sy_run skL qL_law_ [(2992, .goto 158, 3, [true, true, true, true, true, false, false])] [] [(3150, juL_law__3150 (jfL_law__3150 k23))] 2 [] 2992 [.ref 1000000, .ref 0, .ref 121, .ref 132, .int a4, w5, w6] [] M = jfL_law__2992 k23 a4 M := rfl
theorem jtL_law__2992 {k23 : Int32 → sy_M → sy_O} (hk23 : ∀ (w5 : Value) (w6 : Value) (a4 : Int32) (M : sy_M) (r : xe_R × sy_M), k23 a4 M = some r → sy_E (56) qL_law_ 23 [.ref 1000000, .ref 0, .ref 121, .ref 132, .int a4, w5, w6] [] M r) : ∀ (w5 : Value) (w6 : Value) (a4 : Int32) (M : sy_M) (r : xe_R × sy_M), jfL_law__2992 k23 a4 M = some r → sy_E (56) qL_law_ 2992 [.ref 1000000, .ref 0, .ref 121, .ref 132, .int a4, w5, w6] [] M r := by
  intro w5 w6 a4 M r h
  exact sy_run_by (d := 55) ((jrL_law__2992 _ _ _ _ M).trans h) hkL (by decide +kernel) sy_cs_nil (sy_us_cons (jwL_law__3150 (jtL_law__3150 hk23)) sy_us_nil)
def jfL_law__2959 (k23 : Int32 → sy_M → sy_O) (a4 : Int32) (a5 : Int32) (s0 : Int32) (s1 : Int32) (M : sy_M) : sy_O :=
  sy_bi (jfX12_led s1 s0 M) fun v2 M1 =>
  sy_bi (jfX12_thrown M1) fun v4 M3 =>
  if v4 = a5 then
    if a5 = 0 then
      if (lg_cmp (sy_rl M3 132 0) (Int32.toInt64 v2)) = 0 then
        jfL_law__2992 k23 a4 M3
      else
        sy_ri 0 M3
    else
      jfL_law__2992 k23 a4 M3
  else
    sy_ri 0 M3
set_option maxRecDepth 100000 in
theorem jrL_law__2959 (k23 : Int32 → sy_M → sy_O) (w6 : Value) (a4 : Int32) (a5 : Int32) (s0 : Int32) (s1 : Int32) (M : sy_M) : sy_run skL qL_law_ [(2959, .invokevirtual 343, 3, [true, true, true, true, true, true, false]), (2962, .istore 6, 2, []), (2964, .aload_n 2, 1, []), (2965, .invokevirtual 154, 3, []), (2968, .iload 5, 2, []), (2970, .if_icmp .eq 5, 3, []), (2973, .iconst 0, 1, []), (2974, .ireturn, 1, []), (2975, .iload 5, 2, []), (2977, .ifCond .ne 15, 3, []), (2980, .aload_n 3, 1, []), (2981, .iconst 0, 1, []), (2982, .laload, 1, []), (2983, .iload 6, 2, []), (2985, .i2l, 1, []), (2986, .lcmp, 1, []), (2987, .ifCond .eq 5, 3, []), (2990, .iconst 0, 1, []), (2991, .ireturn, 1, [])] [(314, 0, jcX12_led), (181, 0, jcX12_thrown)] [(2992, juL_law__2992 (jfL_law__2992 k23))] 20 [] 2959 [.ref 1000000, .ref 0, .ref 121, .ref 132, .int a4, .int a5, w6] [.int s0, .int s1, .ref 121] M = jfL_law__2959 k23 a4 a5 s0 s1 M := rfl
theorem jtL_law__2959 {k23 : Int32 → sy_M → sy_O} (hk23 : ∀ (w5 : Value) (w6 : Value) (a4 : Int32) (M : sy_M) (r : xe_R × sy_M), k23 a4 M = some r → sy_E (56) qL_law_ 23 [.ref 1000000, .ref 0, .ref 121, .ref 132, .int a4, w5, w6] [] M r) : ∀ (w6 : Value) (a4 : Int32) (a5 : Int32) (s0 : Int32) (s1 : Int32) (M : sy_M) (r : xe_R × sy_M), jfL_law__2959 k23 a4 a5 s0 s1 M = some r → sy_E (56) qL_law_ 2959 [.ref 1000000, .ref 0, .ref 121, .ref 132, .int a4, .int a5, w6] [.int s0, .int s1, .ref 121] M r := by
  intro w6 a4 a5 s0 s1 M r h
  exact sy_run_by (d := 55) ((jrL_law__2959 _ _ _ _ _ _ M).trans h) hkL (by decide +kernel) (sy_cs_cons (jeX12_led.deep (by decide)) (sy_cs_cons (jeX12_thrown.deep (by decide)) sy_cs_nil)) (sy_us_cons (jwL_law__2992 (jtL_law__2992 hk23)) sy_us_nil)
def jfL_law__2932 (k23 : Int32 → sy_M → sy_O) (a4 : Int32) (s0 : Int32) (s1 : Int32) (M : sy_M) : sy_O :=
  sy_bi (jfL_led s1 s0 M) fun v2 M1 =>
  sy_bx (xe_in (a4 + 1) (M1 134 0).toNatClampNeg) <|
  sy_bx (xe_in (a4 + 2) (M1 134 0).toNatClampNeg) <|
  if (M1 1000000 (Int32.toNatClampNeg (a4 + 2))) = 0 then
    jfL_law__2959 k23 a4 v2 0 (M1 1000000 (Int32.toNatClampNeg (a4 + 1))) M1
  else
    jfL_law__2959 k23 a4 v2 1 (M1 1000000 (Int32.toNatClampNeg (a4 + 1))) M1
set_option maxRecDepth 100000 in
theorem jrL_law__2932 (k23 : Int32 → sy_M → sy_O) (w5 : Value) (w6 : Value) (a4 : Int32) (s0 : Int32) (s1 : Int32) (M : sy_M) : sy_run skL qL_law_ [(2932, .aload_n 3, 1, [true, true, true, true, true, false, false]), (2933, .invokestatic 341, 3, []), (2936, .istore 5, 2, []), (2938, .aload_n 2, 1, []), (2939, .aload_n 0, 1, []), (2940, .iload 4, 2, []), (2942, .iconst 1, 1, []), (2943, .iadd, 1, []), (2944, .iaload, 1, []), (2945, .aload_n 0, 1, []), (2946, .iload 4, 2, []), (2948, .iconst 2, 1, []), (2949, .iadd, 1, []), (2950, .iaload, 1, []), (2951, .ifCond .eq 7, 3, []), (2954, .iconst 1, 1, []), (2955, .goto 4, 3, []), (2958, .iconst 0, 1, [true, true, true, true, true, true, false])] [(355, 0, jcL_led)] [(2959, juL_law__2959 (jfL_law__2959 k23))] 19 [] 2932 [.ref 1000000, .ref 0, .ref 121, .ref 132, .int a4, w5, w6] [.int s0, .int s1, .ref 0] M = jfL_law__2932 k23 a4 s0 s1 M := rfl
theorem jtL_law__2932 {k23 : Int32 → sy_M → sy_O} (hk23 : ∀ (w5 : Value) (w6 : Value) (a4 : Int32) (M : sy_M) (r : xe_R × sy_M), k23 a4 M = some r → sy_E (56) qL_law_ 23 [.ref 1000000, .ref 0, .ref 121, .ref 132, .int a4, w5, w6] [] M r) : ∀ (w5 : Value) (w6 : Value) (a4 : Int32) (s0 : Int32) (s1 : Int32) (M : sy_M) (r : xe_R × sy_M), jfL_law__2932 k23 a4 s0 s1 M = some r → sy_E (56) qL_law_ 2932 [.ref 1000000, .ref 0, .ref 121, .ref 132, .int a4, w5, w6] [.int s0, .int s1, .ref 0] M r := by
  intro w5 w6 a4 s0 s1 M r h
  exact sy_run_by (d := 55) ((jrL_law__2932 _ _ _ _ _ _ M).trans h) hkL (by decide +kernel) (sy_cs_cons (jeL_led.deep (by decide)) sy_cs_nil) (sy_us_cons (jwL_law__2959 (jtL_law__2959 hk23)) sy_us_nil)
def jfL_law__2911 (k23 : Int32 → sy_M → sy_O) (a4 : Int32) (M : sy_M) : sy_O :=
  sy_bx (xe_in (a4 + 1) (M 134 0).toNatClampNeg) <|
  sy_bx (xe_in (a4 + 2) (M 134 0).toNatClampNeg) <|
  if (M 1000000 (Int32.toNatClampNeg (a4 + 2))) = 0 then
    jfL_law__2932 k23 a4 0 (M 1000000 (Int32.toNatClampNeg (a4 + 1))) M
  else
    jfL_law__2932 k23 a4 1 (M 1000000 (Int32.toNatClampNeg (a4 + 1))) M
set_option maxRecDepth 100000 in
theorem jrL_law__2911 (k23 : Int32 → sy_M → sy_O) (w5 : Value) (w6 : Value) (a4 : Int32) (M : sy_M) : sy_run skL qL_law_ [(2911, .aload_n 1, 1, [true, true, true, true, true, false, false]), (2912, .aload_n 0, 1, []), (2913, .iload 4, 2, []), (2915, .iconst 1, 1, []), (2916, .iadd, 1, []), (2917, .iaload, 1, []), (2918, .aload_n 0, 1, []), (2919, .iload 4, 2, []), (2921, .iconst 2, 1, []), (2922, .iadd, 1, []), (2923, .iaload, 1, []), (2924, .ifCond .eq 7, 3, []), (2927, .iconst 1, 1, []), (2928, .goto 4, 3, []), (2931, .iconst 0, 1, [true, true, true, true, true, false, false])] [] [(2932, juL_law__2932 (jfL_law__2932 k23))] 16 [] 2911 [.ref 1000000, .ref 0, .ref 121, .ref 132, .int a4, w5, w6] [] M = jfL_law__2911 k23 a4 M := rfl
theorem jtL_law__2911 {k23 : Int32 → sy_M → sy_O} (hk23 : ∀ (w5 : Value) (w6 : Value) (a4 : Int32) (M : sy_M) (r : xe_R × sy_M), k23 a4 M = some r → sy_E (56) qL_law_ 23 [.ref 1000000, .ref 0, .ref 121, .ref 132, .int a4, w5, w6] [] M r) : ∀ (w5 : Value) (w6 : Value) (a4 : Int32) (M : sy_M) (r : xe_R × sy_M), jfL_law__2911 k23 a4 M = some r → sy_E (56) qL_law_ 2911 [.ref 1000000, .ref 0, .ref 121, .ref 132, .int a4, w5, w6] [] M r := by
  intro w5 w6 a4 M r h
  exact sy_run_by (d := 55) ((jrL_law__2911 _ _ _ _ M).trans h) hkL (by decide +kernel) sy_cs_nil (sy_us_cons (jwL_law__2932 (jtL_law__2932 hk23)) sy_us_nil)
def jfL_law__3060 (k23 : Int32 → sy_M → sy_O) (a4 : Int32) (M : sy_M) : sy_O :=
  jfL_law__3150 k23 a4 M
set_option maxRecDepth 100000 in
theorem jrL_law__3060 (k23 : Int32 → sy_M → sy_O) (w5 : Value) (w6 : Value) (a4 : Int32) (M : sy_M) : sy_run skL qL_law_ [(3060, .goto 90, 3, [true, true, true, true, true, false, false])] [] [(3150, juL_law__3150 (jfL_law__3150 k23))] 2 [] 3060 [.ref 1000000, .ref 0, .ref 121, .ref 132, .int a4, w5, w6] [] M = jfL_law__3060 k23 a4 M := rfl
theorem jtL_law__3060 {k23 : Int32 → sy_M → sy_O} (hk23 : ∀ (w5 : Value) (w6 : Value) (a4 : Int32) (M : sy_M) (r : xe_R × sy_M), k23 a4 M = some r → sy_E (56) qL_law_ 23 [.ref 1000000, .ref 0, .ref 121, .ref 132, .int a4, w5, w6] [] M r) : ∀ (w5 : Value) (w6 : Value) (a4 : Int32) (M : sy_M) (r : xe_R × sy_M), jfL_law__3060 k23 a4 M = some r → sy_E (56) qL_law_ 3060 [.ref 1000000, .ref 0, .ref 121, .ref 132, .int a4, w5, w6] [] M r := by
  intro w5 w6 a4 M r h
  exact sy_run_by (d := 55) ((jrL_law__3060 _ _ _ _ M).trans h) hkL (by decide +kernel) sy_cs_nil (sy_us_cons (jwL_law__3150 (jtL_law__3150 hk23)) sy_us_nil)
def jfL_law__2995 (k23 : Int32 → sy_M → sy_O) (a4 : Int32) (M : sy_M) : sy_O :=
  sy_bx (xe_in (a4 + 1) (M 134 0).toNatClampNeg) <|
  sy_bx (xe_in (a4 + 2) (M 134 0).toNatClampNeg) <|
  sy_bi (jfL_log (M 1000000 (Int32.toNatClampNeg (a4 + 1))) (M 1000000 (Int32.toNatClampNeg (a4 + 2))) M) fun v2 M1 =>
  sy_bx (xe_in (a4 + 1) (M1 134 0).toNatClampNeg) <|
  sy_bx (xe_in (a4 + 2) (M1 134 0).toNatClampNeg) <|
  sy_bi (jfX12_log (M1 1000000 (Int32.toNatClampNeg (a4 + 1))) (M1 1000000 (Int32.toNatClampNeg (a4 + 2))) M1) fun v4 M3 =>
  sy_bi (jfX12_thrown M3) fun v6 M5 =>
  if v6 = v2 then
    if v2 = 0 then
      if (lg_cmp (sy_rl M5 132 0) (Int32.toInt64 v4)) = 0 then
        jfL_law__3060 k23 a4 M5
      else
        sy_ri 0 M5
    else
      jfL_law__3060 k23 a4 M5
  else
    sy_ri 0 M5
set_option maxRecDepth 100000 in
theorem jrL_law__2995 (k23 : Int32 → sy_M → sy_O) (w5 : Value) (w6 : Value) (a4 : Int32) (M : sy_M) : sy_run skL qL_law_ [(2995, .aload_n 1, 1, [true, true, true, true, true, false, false]), (2996, .aload_n 0, 1, []), (2997, .iload 4, 2, []), (2999, .iconst 1, 1, []), (3000, .iadd, 1, []), (3001, .iaload, 1, []), (3002, .aload_n 0, 1, []), (3003, .iload 4, 2, []), (3005, .iconst 2, 1, []), (3006, .iadd, 1, []), (3007, .iaload, 1, []), (3008, .aload_n 3, 1, []), (3009, .invokestatic 344, 3, []), (3012, .istore 5, 2, []), (3014, .aload_n 2, 1, []), (3015, .aload_n 0, 1, []), (3016, .iload 4, 2, []), (3018, .iconst 1, 1, []), (3019, .iadd, 1, []), (3020, .iaload, 1, []), (3021, .aload_n 0, 1, []), (3022, .iload 4, 2, []), (3024, .iconst 2, 1, []), (3025, .iadd, 1, []), (3026, .iaload, 1, []), (3027, .invokevirtual 346, 3, []), (3030, .istore 6, 2, []), (3032, .aload_n 2, 1, []), (3033, .invokevirtual 154, 3, []), (3036, .iload 5, 2, []), (3038, .if_icmp .eq 5, 3, []), (3041, .iconst 0, 1, []), (3042, .ireturn, 1, []), (3043, .iload 5, 2, []), (3045, .ifCond .ne 15, 3, []), (3048, .aload_n 3, 1, []), (3049, .iconst 0, 1, []), (3050, .laload, 1, []), (3051, .iload 6, 2, []), (3053, .i2l, 1, []), (3054, .lcmp, 1, []), (3055, .ifCond .eq 5, 3, []), (3058, .iconst 0, 1, []), (3059, .ireturn, 1, [])] [(356, 0, jcL_log), (315, 0, jcX12_log), (181, 0, jcX12_thrown)] [(3060, juL_law__3060 (jfL_law__3060 k23))] 45 [] 2995 [.ref 1000000, .ref 0, .ref 121, .ref 132, .int a4, w5, w6] [] M = jfL_law__2995 k23 a4 M := rfl
theorem jtL_law__2995 {k23 : Int32 → sy_M → sy_O} (hk23 : ∀ (w5 : Value) (w6 : Value) (a4 : Int32) (M : sy_M) (r : xe_R × sy_M), k23 a4 M = some r → sy_E (56) qL_law_ 23 [.ref 1000000, .ref 0, .ref 121, .ref 132, .int a4, w5, w6] [] M r) : ∀ (w5 : Value) (w6 : Value) (a4 : Int32) (M : sy_M) (r : xe_R × sy_M), jfL_law__2995 k23 a4 M = some r → sy_E (56) qL_law_ 2995 [.ref 1000000, .ref 0, .ref 121, .ref 132, .int a4, w5, w6] [] M r := by
  intro w5 w6 a4 M r h
  exact sy_run_by (d := 55) ((jrL_law__2995 _ _ _ _ M).trans h) hkL (by decide +kernel) (sy_cs_cons (jeL_log.deep (by decide)) (sy_cs_cons (jeX12_log.deep (by decide)) (sy_cs_cons (jeX12_thrown.deep (by decide)) sy_cs_nil))) (sy_us_cons (jwL_law__3060 (jtL_law__3060 hk23)) sy_us_nil)
def jfL_law__3063 (k23 : Int32 → sy_M → sy_O) (a4 : Int32) (M : sy_M) : sy_O :=
  sy_bx (xe_in (a4 + 1) (M 134 0).toNatClampNeg) <|
  sy_bi (jfX11_seed (M 1000000 (Int32.toNatClampNeg (a4 + 1))) M) fun v2 M1 =>
  sy_bx (xe_in (a4 + 1) (M1 134 0).toNatClampNeg) <|
  sy_bi (jfX12_seed (M1 1000000 (Int32.toNatClampNeg (a4 + 1))) M1) fun v4 M3 =>
  if v2 = v4 then
    jfL_law__3150 k23 a4 M3
  else
    sy_ri 0 M3
set_option maxRecDepth 100000 in
theorem jrL_law__3063 (k23 : Int32 → sy_M → sy_O) (w5 : Value) (w6 : Value) (a4 : Int32) (M : sy_M) : sy_run skL qL_law_ [(3063, .aload_n 1, 1, [true, true, true, true, true, false, false]), (3064, .aload_n 0, 1, []), (3065, .iload 4, 2, []), (3067, .iconst 1, 1, []), (3068, .iadd, 1, []), (3069, .iaload, 1, []), (3070, .invokevirtual 347, 3, []), (3073, .aload_n 2, 1, []), (3074, .aload_n 0, 1, []), (3075, .iload 4, 2, []), (3077, .iconst 1, 1, []), (3078, .iadd, 1, []), (3079, .iaload, 1, []), (3080, .invokevirtual 350, 3, []), (3083, .if_icmp .eq 67, 3, []), (3086, .iconst 0, 1, []), (3087, .ireturn, 1, [])] [(171, 0, jcX11_seed), (316, 0, jcX12_seed)] [(3150, juL_law__3150 (jfL_law__3150 k23))] 18 [] 3063 [.ref 1000000, .ref 0, .ref 121, .ref 132, .int a4, w5, w6] [] M = jfL_law__3063 k23 a4 M := rfl
theorem jtL_law__3063 {k23 : Int32 → sy_M → sy_O} (hk23 : ∀ (w5 : Value) (w6 : Value) (a4 : Int32) (M : sy_M) (r : xe_R × sy_M), k23 a4 M = some r → sy_E (56) qL_law_ 23 [.ref 1000000, .ref 0, .ref 121, .ref 132, .int a4, w5, w6] [] M r) : ∀ (w5 : Value) (w6 : Value) (a4 : Int32) (M : sy_M) (r : xe_R × sy_M), jfL_law__3063 k23 a4 M = some r → sy_E (56) qL_law_ 3063 [.ref 1000000, .ref 0, .ref 121, .ref 132, .int a4, w5, w6] [] M r := by
  intro w5 w6 a4 M r h
  exact sy_run_by (d := 55) ((jrL_law__3063 _ _ _ _ M).trans h) hkL (by decide +kernel) (sy_cs_cons (jeX11_seed.deep (by decide)) (sy_cs_cons (jeX12_seed.deep (by decide)) sy_cs_nil)) (sy_us_cons (jwL_law__3150 (jtL_law__3150 hk23)) sy_us_nil)
def jfL_law__3088 (k23 : Int32 → sy_M → sy_O) (a4 : Int32) (M : sy_M) : sy_O :=
  sy_bi (jfX11_undo M) fun v2 M1 =>
  sy_bi (jfX12_undo M1) fun v4 M3 =>
  if v2 = v4 then
    jfL_law__3150 k23 a4 M3
  else
    sy_ri 0 M3
set_option maxRecDepth 100000 in
theorem jrL_law__3088 (k23 : Int32 → sy_M → sy_O) (w5 : Value) (w6 : Value) (a4 : Int32) (M : sy_M) : sy_run skL qL_law_ [(3088, .aload_n 1, 1, [true, true, true, true, true, false, false]), (3089, .invokevirtual 351, 3, []), (3092, .aload_n 2, 1, []), (3093, .invokevirtual 355, 3, []), (3096, .if_icmp .eq 54, 3, []), (3099, .iconst 0, 1, []), (3100, .ireturn, 1, [])] [(172, 0, jcX11_undo), (317, 0, jcX12_undo)] [(3150, juL_law__3150 (jfL_law__3150 k23))] 8 [] 3088 [.ref 1000000, .ref 0, .ref 121, .ref 132, .int a4, w5, w6] [] M = jfL_law__3088 k23 a4 M := rfl
theorem jtL_law__3088 {k23 : Int32 → sy_M → sy_O} (hk23 : ∀ (w5 : Value) (w6 : Value) (a4 : Int32) (M : sy_M) (r : xe_R × sy_M), k23 a4 M = some r → sy_E (56) qL_law_ 23 [.ref 1000000, .ref 0, .ref 121, .ref 132, .int a4, w5, w6] [] M r) : ∀ (w5 : Value) (w6 : Value) (a4 : Int32) (M : sy_M) (r : xe_R × sy_M), jfL_law__3088 k23 a4 M = some r → sy_E (56) qL_law_ 3088 [.ref 1000000, .ref 0, .ref 121, .ref 132, .int a4, w5, w6] [] M r := by
  intro w5 w6 a4 M r h
  exact sy_run_by (d := 55) ((jrL_law__3088 _ _ _ _ M).trans h) hkL (by decide +kernel) (sy_cs_cons (jeX11_undo.deep (by decide)) (sy_cs_cons (jeX12_undo.deep (by decide)) sy_cs_nil)) (sy_us_cons (jwL_law__3150 (jtL_law__3150 hk23)) sy_us_nil)
def jfL_law__3101 (k23 : Int32 → sy_M → sy_O) (a4 : Int32) (M : sy_M) : sy_O :=
  sy_bv (jfX11_image M) fun M1 =>
  sy_bv (jfX12_image M1) fun M2 =>
  jfL_law__3150 k23 a4 M2
set_option maxRecDepth 100000 in
theorem jrL_law__3101 (k23 : Int32 → sy_M → sy_O) (w5 : Value) (w6 : Value) (a4 : Int32) (M : sy_M) : sy_run skL qL_law_ [(3101, .aload_n 1, 1, [true, true, true, true, true, false, false]), (3102, .invokevirtual 356, 3, []), (3105, .aload_n 2, 1, []), (3106, .invokevirtual 359, 3, []), (3109, .goto 41, 3, [])] [(173, 1, jcX11_image), (318, 1, jcX12_image)] [(3150, juL_law__3150 (jfL_law__3150 k23))] 6 [] 3101 [.ref 1000000, .ref 0, .ref 121, .ref 132, .int a4, w5, w6] [] M = jfL_law__3101 k23 a4 M := rfl
theorem jtL_law__3101 {k23 : Int32 → sy_M → sy_O} (hk23 : ∀ (w5 : Value) (w6 : Value) (a4 : Int32) (M : sy_M) (r : xe_R × sy_M), k23 a4 M = some r → sy_E (56) qL_law_ 23 [.ref 1000000, .ref 0, .ref 121, .ref 132, .int a4, w5, w6] [] M r) : ∀ (w5 : Value) (w6 : Value) (a4 : Int32) (M : sy_M) (r : xe_R × sy_M), jfL_law__3101 k23 a4 M = some r → sy_E (56) qL_law_ 3101 [.ref 1000000, .ref 0, .ref 121, .ref 132, .int a4, w5, w6] [] M r := by
  intro w5 w6 a4 M r h
  exact sy_run_by (d := 55) ((jrL_law__3101 _ _ _ _ M).trans h) hkL (by decide +kernel) (sy_cs_cons (jeX11_image.deep (by decide)) (sy_cs_cons (jeX12_image.deep (by decide)) sy_cs_nil)) (sy_us_cons (jwL_law__3150 (jtL_law__3150 hk23)) sy_us_nil)
def jfL_law__3112 (k23 : Int32 → sy_M → sy_O) (a4 : Int32) (M : sy_M) : sy_O :=
  sy_bi (jfX11_back M) fun v2 M1 =>
  sy_bi (jfX12_back M1) fun v4 M3 =>
  if v2 = v4 then
    jfL_law__3150 k23 a4 M3
  else
    sy_ri 0 M3
set_option maxRecDepth 100000 in
theorem jrL_law__3112 (k23 : Int32 → sy_M → sy_O) (w5 : Value) (w6 : Value) (a4 : Int32) (M : sy_M) : sy_run skL qL_law_ [(3112, .aload_n 1, 1, [true, true, true, true, true, false, false]), (3113, .invokevirtual 360, 3, []), (3116, .aload_n 2, 1, []), (3117, .invokevirtual 363, 3, []), (3120, .if_icmp .eq 30, 3, []), (3123, .iconst 0, 1, []), (3124, .ireturn, 1, [])] [(174, 0, jcX11_back), (319, 0, jcX12_back)] [(3150, juL_law__3150 (jfL_law__3150 k23))] 8 [] 3112 [.ref 1000000, .ref 0, .ref 121, .ref 132, .int a4, w5, w6] [] M = jfL_law__3112 k23 a4 M := rfl
theorem jtL_law__3112 {k23 : Int32 → sy_M → sy_O} (hk23 : ∀ (w5 : Value) (w6 : Value) (a4 : Int32) (M : sy_M) (r : xe_R × sy_M), k23 a4 M = some r → sy_E (56) qL_law_ 23 [.ref 1000000, .ref 0, .ref 121, .ref 132, .int a4, w5, w6] [] M r) : ∀ (w5 : Value) (w6 : Value) (a4 : Int32) (M : sy_M) (r : xe_R × sy_M), jfL_law__3112 k23 a4 M = some r → sy_E (56) qL_law_ 3112 [.ref 1000000, .ref 0, .ref 121, .ref 132, .int a4, w5, w6] [] M r := by
  intro w5 w6 a4 M r h
  exact sy_run_by (d := 55) ((jrL_law__3112 _ _ _ _ M).trans h) hkL (by decide +kernel) (sy_cs_cons (jeX11_back.deep (by decide)) (sy_cs_cons (jeX12_back.deep (by decide)) sy_cs_nil)) (sy_us_cons (jwL_law__3150 (jtL_law__3150 hk23)) sy_us_nil)
def jfL_law__3125 (k23 : Int32 → sy_M → sy_O) (a4 : Int32) (M : sy_M) : sy_O :=
  sy_bx (xe_in (a4 + 1) (M 134 0).toNatClampNeg) <|
  sy_bi (jfX11_count (M 1000000 (Int32.toNatClampNeg (a4 + 1))) M) fun v2 M1 =>
  sy_bx (xe_in (a4 + 1) (M1 134 0).toNatClampNeg) <|
  sy_bi (jfX12_count (M1 1000000 (Int32.toNatClampNeg (a4 + 1))) M1) fun v4 M3 =>
  if v2 = v4 then
    jfL_law__3150 k23 a4 M3
  else
    sy_ri 0 M3
set_option maxRecDepth 100000 in
theorem jrL_law__3125 (k23 : Int32 → sy_M → sy_O) (w5 : Value) (w6 : Value) (a4 : Int32) (M : sy_M) : sy_run skL qL_law_ [(3125, .aload_n 1, 1, [true, true, true, true, true, false, false]), (3126, .aload_n 0, 1, []), (3127, .iload 4, 2, []), (3129, .iconst 1, 1, []), (3130, .iadd, 1, []), (3131, .iaload, 1, []), (3132, .invokevirtual 364, 3, []), (3135, .aload_n 2, 1, []), (3136, .aload_n 0, 1, []), (3137, .iload 4, 2, []), (3139, .iconst 1, 1, []), (3140, .iadd, 1, []), (3141, .iaload, 1, []), (3142, .invokevirtual 367, 3, []), (3145, .if_icmp .eq 5, 3, []), (3148, .iconst 0, 1, []), (3149, .ireturn, 1, [])] [(99, 0, jcX11_count), (320, 0, jcX12_count)] [(3150, juL_law__3150 (jfL_law__3150 k23))] 18 [] 3125 [.ref 1000000, .ref 0, .ref 121, .ref 132, .int a4, w5, w6] [] M = jfL_law__3125 k23 a4 M := rfl
theorem jtL_law__3125 {k23 : Int32 → sy_M → sy_O} (hk23 : ∀ (w5 : Value) (w6 : Value) (a4 : Int32) (M : sy_M) (r : xe_R × sy_M), k23 a4 M = some r → sy_E (56) qL_law_ 23 [.ref 1000000, .ref 0, .ref 121, .ref 132, .int a4, w5, w6] [] M r) : ∀ (w5 : Value) (w6 : Value) (a4 : Int32) (M : sy_M) (r : xe_R × sy_M), jfL_law__3125 k23 a4 M = some r → sy_E (56) qL_law_ 3125 [.ref 1000000, .ref 0, .ref 121, .ref 132, .int a4, w5, w6] [] M r := by
  intro w5 w6 a4 M r h
  exact sy_run_by (d := 55) ((jrL_law__3125 _ _ _ _ M).trans h) hkL (by decide +kernel) (sy_cs_cons (jeX11_count.deep (by decide)) (sy_cs_cons (jeX12_count.deep (by decide)) sy_cs_nil)) (sy_us_cons (jwL_law__3150 (jtL_law__3150 hk23)) sy_us_nil)
end
