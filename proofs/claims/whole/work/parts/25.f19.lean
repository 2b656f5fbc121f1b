/-! ===== functions of the methods (19); written by wip/whole/run_f.py ===== -/
noncomputable section
def jgL_law__23 (k23 : Int32 → sy_M → sy_O) (a4 : Int32) (M : sy_M) : sy_O :=
  if ((Nat.toInt32 (M 134 0).toNatClampNeg) - 6) < a4 then
    sy_ri 1 M
  else
    sy_bx (xe_in a4 (M 134 0).toNatClampNeg) <|
    if ((M 1000000 (Int32.toNatClampNeg a4)) &&& 63) = 0 then
      jfL_law__308 k23 a4 M
    else if ((M 1000000 (Int32.toNatClampNeg a4)) &&& 63) = 1 then
      jfL_law__381 k23 a4 M
    else if ((M 1000000 (Int32.toNatClampNeg a4)) &&& 63) = 2 then
      jfL_law__406 k23 a4 M
    else if ((M 1000000 (Int32.toNatClampNeg a4)) &&& 63) = 3 then
      jfL_law__450 k23 a4 M
    else if ((M 1000000 (Int32.toNatClampNeg a4)) &&& 63) = 4 then
      jfL_law__494 k23 a4 M
    else if ((M 1000000 (Int32.toNatClampNeg a4)) &&& 63) = 5 then
      jfL_law__507 k23 a4 M
    else if ((M 1000000 (Int32.toNatClampNeg a4)) &&& 63) = 6 then
      jfL_law__575 k23 a4 M
    else if ((M 1000000 (Int32.toNatClampNeg a4)) &&& 63) = 7 then
      jfL_law__643 k23 a4 M
    else if ((M 1000000 (Int32.toNatClampNeg a4)) &&& 63) = 8 then
      jfL_law__718 k23 a4 M
    else if ((M 1000000 (Int32.toNatClampNeg a4)) &&& 63) = 9 then
      jfL_law__774 k23 a4 M
    else if ((M 1000000 (Int32.toNatClampNeg a4)) &&& 63) = 10 then
      jfL_law__830 k23 a4 M
    else if ((M 1000000 (Int32.toNatClampNeg a4)) &&& 63) = 11 then
      jfL_law__886 k23 a4 M
    else if ((M 1000000 (Int32.toNatClampNeg a4)) &&& 63) = 12 then
      jfL_law__954 k23 a4 M
    else if ((M 1000000 (Int32.toNatClampNeg a4)) &&& 63) = 13 then
      jfL_law__1022 k23 a4 M
    else if ((M 1000000 (Int32.toNatClampNeg a4)) &&& 63) = 14 then
      jfL_law__1090 k23 a4 M
    else if ((M 1000000 (Int32.toNatClampNeg a4)) &&& 63) = 15 then
      jfL_law__1146 k23 a4 M
    else if ((M 1000000 (Int32.toNatClampNeg a4)) &&& 63) = 16 then
      jfL_law__1214 k23 a4 M
    else if ((M 1000000 (Int32.toNatClampNeg a4)) &&& 63) = 17 then
      jfL_law__1294 k23 a4 M
    else if ((M 1000000 (Int32.toNatClampNeg a4)) &&& 63) = 18 then
      jfL_law__1307 k23 a4 M
    else if ((M 1000000 (Int32.toNatClampNeg a4)) &&& 63) = 19 then
      jfL_law__1320 k23 a4 M
    else if ((M 1000000 (Int32.toNatClampNeg a4)) &&& 63) = 20 then
      jfL_law__1333 k23 a4 M
    else if ((M 1000000 (Int32.toNatClampNeg a4)) &&& 63) = 21 then
      jfL_law__1346 k23 a4 M
    else if ((M 1000000 (Int32.toNatClampNeg a4)) &&& 63) = 22 then
      jfL_law__1359 k23 a4 M
    else if ((M 1000000 (Int32.toNatClampNeg a4)) &&& 63) = 23 then
      jfL_law__1372 k23 a4 M
    else if ((M 1000000 (Int32.toNatClampNeg a4)) &&& 63) = 24 then
      jfL_law__1452 k23 a4 M
    else if ((M 1000000 (Int32.toNatClampNeg a4)) &&& 63) = 25 then
      jfL_law__1508 k23 a4 M
    else if ((M 1000000 (Int32.toNatClampNeg a4)) &&& 63) = 26 then
      jfL_law__1564 k23 a4 M
    else if ((M 1000000 (Int32.toNatClampNeg a4)) &&& 63) = 27 then
      jfL_law__1632 k23 a4 M
    else if ((M 1000000 (Int32.toNatClampNeg a4)) &&& 63) = 28 then
      jfL_law__1645 k23 a4 M
    else if ((M 1000000 (Int32.toNatClampNeg a4)) &&& 63) = 29 then
      jfL_law__1729 k23 a4 M
    else if ((M 1000000 (Int32.toNatClampNeg a4)) &&& 63) = 30 then
      jfL_law__1797 k23 a4 M
    else if ((M 1000000 (Int32.toNatClampNeg a4)) &&& 63) = 31 then
      jfL_law__1822 k23 a4 M
    else if ((M 1000000 (Int32.toNatClampNeg a4)) &&& 63) = 32 then
      jfL_law__1878 k23 a4 M
    else if ((M 1000000 (Int32.toNatClampNeg a4)) &&& 63) = 33 then
      jfL_law__1919 k23 a4 M
    else if ((M 1000000 (Int32.toNatClampNeg a4)) &&& 63) = 34 then
      jfL_law__1975 k23 a4 M
    else if ((M 1000000 (Int32.toNatClampNeg a4)) &&& 63) = 35 then
      jfL_law__2047 k23 a4 M
    else if ((M 1000000 (Int32.toNatClampNeg a4)) &&& 63) = 36 then
      jfL_law__2091 k23 a4 M
    else if ((M 1000000 (Int32.toNatClampNeg a4)) &&& 63) = 37 then
      jfL_law__2147 k23 a4 M
    else if ((M 1000000 (Int32.toNatClampNeg a4)) &&& 63) = 38 then
      jfL_law__2222 k23 a4 M
    else if ((M 1000000 (Int32.toNatClampNeg a4)) &&& 63) = 39 then
      jfL_law__2278 k23 a4 M
    else if ((M 1000000 (Int32.toNatClampNeg a4)) &&& 63) = 40 then
      jfL_law__2291 k23 a4 M
    else if ((M 1000000 (Int32.toNatClampNeg a4)) &&& 63) = 41 then
      jfL_law__2316 k23 a4 M
    else if ((M 1000000 (Int32.toNatClampNeg a4)) &&& 63) = 42 then
      jfL_law__2372 k23 a4 M
    else if ((M 1000000 (Int32.toNatClampNeg a4)) &&& 63) = 43 then
      jfL_law__2385 k23 a4 M
    else if ((M 1000000 (Int32.toNatClampNeg a4)) &&& 63) = 44 then
      jfL_law__2398 k23 a4 M
    else if ((M 1000000 (Int32.toNatClampNeg a4)) &&& 63) = 45 then
      jfL_law__2466 k23 a4 M
    else if ((M 1000000 (Int32.toNatClampNeg a4)) &&& 63) = 46 then
      jfL_law__2479 k23 a4 M
    else if ((M 1000000 (Int32.toNatClampNeg a4)) &&& 63) = 47 then
      jfL_law__2542 k23 a4 M
    else if ((M 1000000 (Int32.toNatClampNeg a4)) &&& 63) = 48 then
      jfL_law__2555 k23 a4 M
    else if ((M 1000000 (Int32.toNatClampNeg a4)) &&& 63) = 49 then
      jfL_law__2623 k23 a4 M
    else if ((M 1000000 (Int32.toNatClampNeg a4)) &&& 63) = 50 then
      jfL_law__2691 k23 a4 M
    else if ((M 1000000 (Int32.toNatClampNeg a4)) &&& 63) = 51 then
      jfL_law__2704 k23 a4 M
    else if ((M 1000000 (Int32.toNatClampNeg a4)) &&& 63) = 52 then
      jfL_law__2717 k23 a4 M
    else if ((M 1000000 (Int32.toNatClampNeg a4)) &&& 63) = 53 then
      jfL_law__2730 k23 a4 M
    else if ((M 1000000 (Int32.toNatClampNeg a4)) &&& 63) = 54 then
      jfL_law__2743 k23 a4 M
    else if ((M 1000000 (Int32.toNatClampNeg a4)) &&& 63) = 55 then
      jfL_law__2827 k23 a4 M
    else if ((M 1000000 (Int32.toNatClampNeg a4)) &&& 63) = 56 then
      jfL_law__2911 k23 a4 M
    else if ((M 1000000 (Int32.toNatClampNeg a4)) &&& 63) = 57 then
      jfL_law__2995 k23 a4 M
    else if ((M 1000000 (Int32.toNatClampNeg a4)) &&& 63) = 58 then
      jfL_law__3063 k23 a4 M
    else if ((M 1000000 (Int32.toNatClampNeg a4)) &&& 63) = 59 then
      jfL_law__3088 k23 a4 M
    else if ((M 1000000 (Int32.toNatClampNeg a4)) &&& 63) = 60 then
      jfL_law__3101 k23 a4 M
    else if ((M 1000000 (Int32.toNatClampNeg a4)) &&& 63) = 61 then
      jfL_law__3112 k23 a4 M
    else if ((M 1000000 (Int32.toNatClampNeg a4)) &&& 63) = 62 then
      jfL_law__3125 k23 a4 M
    else jfL_law__3150 k23 a4 M
def jfL_law__23 : Nat → Int32 → sy_M → sy_O
  | 0, _, _ => none
  | n + 1, a4, M => jgL_law__23 (jfL_law__23 n) a4 M
set_option maxRecDepth 100000 in
theorem jrL_law__23 (k23 : Int32 → sy_M → sy_O) (w5 : Value) (w6 : Value) (a4 : Int32) (M : sy_M) : sy_run skL qL_law_ [(23, .iload 4, 2, [true, true, true, true, true, false, false]), (25, .aload_n 0, 1, []), (26, .arraylength, 1, []), (27, .bipush 6, 2, []), (29, .isub, 1, []), (30, .if_icmp .gt 3126, 3, []), (33, .aload_n 0, 1, []), (34, .iload 4, 2, []), (36, .iaload, 1, []), (37, .bipush 63, 2, []), (39, .iand, 1, []), (40, .tableswitch 3110 0 62 #[268, 341, 366, 410, 454, 467, 535, 603, 678, 734, 790, 846, 914, 982, 1050, 1106, 1174, 1254, 1267, 1280, 1293, 1306, 1319, 1332, 1412, 1468, 1524, 1592, 1605, 1689, 1757, 1782, 1838, 1879, 1935, 2007, 2051, 2107, 2182, 2238, 2251, 2276, 2332, 2345, 2358, 2426, 2439, 2502, 2515, 2583, 2651, 2664, 2677, 2690, 2703, 2787, 2871, 2955, 3023, 3048, 3061, 3072, 3085], 268, []), (3156, .iconst 1, 1, [false, false, false, false, false, false, false]), (3157, .ireturn, 1, [])] [] [(308, juL_law__308 (jfL_law__308 k23)), (381, juL_law__381 (jfL_law__381 k23)), (406, juL_law__406 (jfL_law__406 k23)), (450, juL_law__450 (jfL_law__450 k23)), (494, juL_law__494 (jfL_law__494 k23)), (507, juL_law__507 (jfL_law__507 k23)), (575, juL_law__575 (jfL_law__575 k23)), (643, juL_law__643 (jfL_law__643 k23)), (718, juL_law__718 (jfL_law__718 k23)), (774, juL_law__774 (jfL_law__774 k23)), (830, juL_law__830 (jfL_law__830 k23)), (886, juL_law__886 (jfL_law__886 k23)), (954, juL_law__954 (jfL_law__954 k23)), (1022, juL_law__1022 (jfL_law__1022 k23)), (1090, juL_law__1090 (jfL_law__1090 k23)), (1146, juL_law__1146 (jfL_law__1146 k23)), (1214, juL_law__1214 (jfL_law__1214 k23)), (1294, juL_law__1294 (jfL_law__1294 k23)), (1307, juL_law__1307 (jfL_law__1307 k23)), (1320, juL_law__1320 (jfL_law__1320 k23)), (1333, juL_law__1333 (jfL_law__1333 k23)), (1346, juL_law__1346 (jfL_law__1346 k23)), (1359, juL_law__1359 (jfL_law__1359 k23)), (1372, juL_law__1372 (jfL_law__1372 k23)), (1452, juL_law__1452 (jfL_law__1452 k23)), (1508, juL_law__1508 (jfL_law__1508 k23)), (1564, juL_law__1564 (jfL_law__1564 k23)), (1632, juL_law__1632 (jfL_law__1632 k23)), (1645, juL_law__1645 (jfL_law__1645 k23)), (1729, juL_law__1729 (jfL_law__1729 k23)), (1797, juL_law__1797 (jfL_law__1797 k23)), (1822, juL_law__1822 (jfL_law__1822 k23)), (1878, juL_law__1878 (jfL_law__1878 k23)), (1919, juL_law__1919 (jfL_law__1919 k23)), (1975, juL_law__1975 (jfL_law__1975 k23)), (2047, juL_law__2047 (jfL_law__2047 k23)), (2091, juL_law__2091 (jfL_law__2091 k23)), (2147, juL_law__2147 (jfL_law__2147 k23)), (2222, juL_law__2222 (jfL_law__2222 k23)), (2278, juL_law__2278 (jfL_law__2278 k23)), (2291, juL_law__2291 (jfL_law__2291 k23)), (2316, juL_law__2316 (jfL_law__2316 k23)), (2372, juL_law__2372 (jfL_law__2372 k23)), (2385, juL_law__2385 (jfL_law__2385 k23)), (2398, juL_law__2398 (jfL_law__2398 k23)), (2466, juL_law__2466 (jfL_law__2466 k23)), (2479, juL_law__2479 (jfL_law__2479 k23)), (2542, juL_law__2542 (jfL_law__2542 k23)), (2555, juL_law__2555 (jfL_law__2555 k23)), (2623, juL_law__2623 (jfL_law__2623 k23)), (2691, juL_law__2691 (jfL_law__2691 k23)), (2704, juL_law__2704 (jfL_law__2704 k23)), (2717, juL_law__2717 (jfL_law__2717 k23)), (2730, juL_law__2730 (jfL_law__2730 k23)), (2743, juL_law__2743 (jfL_law__2743 k23)), (2827, juL_law__2827 (jfL_law__2827 k23)), (2911, juL_law__2911 (jfL_law__2911 k23)), (2995, juL_law__2995 (jfL_law__2995 k23)), (3063, juL_law__3063 (jfL_law__3063 k23)), (3088, juL_law__3088 (jfL_law__3088 k23)), (3101, juL_law__3101 (jfL_law__3101 k23)), (3112, juL_law__3112 (jfL_law__3112 k23)), (3125, juL_law__3125 (jfL_law__3125 k23)), (3150, juL_law__3150 (jfL_law__3150 k23))] 15 [] 23 [.ref 1000000, .ref 0, .ref 121, .ref 132, .int a4, w5, w6] [] M = jgL_law__23 k23 a4 M := rfl
theorem jtL_law__23 : ∀ n : Nat, ∀ (w5 : Value) (w6 : Value) (a4 : Int32) (M : sy_M) (r : xe_R × sy_M), jfL_law__23 n a4 M = some r → sy_E (56) qL_law_ 23 [.ref 1000000, .ref 0, .ref 121, .ref 132, .int a4, w5, w6] [] M r := by
  intro n
  induction n with
  | zero => intro w5 w6 a4 M r h; exact absurd (show (none : sy_O) = some r from h) (by simp)
  | succ n ih => intro w5 w6 a4 M r h; exact sy_run_by (d := 55) ((jrL_law__23 _ _ _ _ M).trans h) hkL (by decide +kernel) sy_cs_nil (sy_us_cons (jwL_law__308 (jtL_law__308 ih)) (sy_us_cons (jwL_law__381 (jtL_law__381 ih)) (sy_us_cons (jwL_law__406 (jtL_law__406 ih)) (sy_us_cons (jwL_law__450 (jtL_law__450 ih)) (sy_us_cons (jwL_law__494 (jtL_law__494 ih)) (sy_us_cons (jwL_law__507 (jtL_law__507 ih)) (sy_us_cons (jwL_law__575 (jtL_law__575 ih)) (sy_us_cons (jwL_law__643 (jtL_law__643 ih)) (sy_us_cons (jwL_law__718 (jtL_law__718 ih)) (sy_us_cons (jwL_law__774 (jtL_law__774 ih)) (sy_us_cons (jwL_law__830 (jtL_law__830 ih)) (sy_us_cons (jwL_law__886 (jtL_law__886 ih)) (sy_us_cons (jwL_law__954 (jtL_law__954 ih)) (sy_us_cons (jwL_law__1022 (jtL_law__1022 ih)) (sy_us_cons (jwL_law__1090 (jtL_law__1090 ih)) (sy_us_cons (jwL_law__1146 (jtL_law__1146 ih)) (sy_us_cons (jwL_law__1214 (jtL_law__1214 ih)) (sy_us_cons (jwL_law__1294 (jtL_law__1294 ih)) (sy_us_cons (jwL_law__1307 (jtL_law__1307 ih)) (sy_us_cons (jwL_law__1320 (jtL_law__1320 ih)) (sy_us_cons (jwL_law__1333 (jtL_law__1333 ih)) (sy_us_cons (jwL_law__1346 (jtL_law__1346 ih)) (sy_us_cons (jwL_law__1359 (jtL_law__1359 ih)) (sy_us_cons (jwL_law__1372 (jtL_law__1372 ih)) (sy_us_cons (jwL_law__1452 (jtL_law__1452 ih)) (sy_us_cons (jwL_law__1508 (jtL_law__1508 ih)) (sy_us_cons (jwL_law__1564 (jtL_law__1564 ih)) (sy_us_cons (jwL_law__1632 (jtL_law__1632 ih)) (sy_us_cons (jwL_law__1645 (jtL_law__1645 ih)) (sy_us_cons (jwL_law__1729 (jtL_law__1729 ih)) (sy_us_cons (jwL_law__1797 (jtL_law__1797 ih)) (sy_us_cons (jwL_law__1822 (jtL_law__1822 ih)) (sy_us_cons (jwL_law__1878 (jtL_law__1878 ih)) (sy_us_cons (jwL_law__1919 (jtL_law__1919 ih)) (sy_us_cons (jwL_law__1975 (jtL_law__1975 ih)) (sy_us_cons (jwL_law__2047 (jtL_law__2047 ih)) (sy_us_cons (jwL_law__2091 (jtL_law__2091 ih)) (sy_us_cons (jwL_law__2147 (jtL_law__2147 ih)) (sy_us_cons (jwL_law__2222 (jtL_law__2222 ih)) (sy_us_cons (jwL_law__2278 (jtL_law__2278 ih)) (sy_us_cons (jwL_law__2291 (jtL_law__2291 ih)) (sy_us_cons (jwL_law__2316 (jtL_law__2316 ih)) (sy_us_cons (jwL_law__2372 (jtL_law__2372 ih)) (sy_us_cons (jwL_law__2385 (jtL_law__2385 ih)) (sy_us_cons (jwL_law__2398 (jtL_law__2398 ih)) (sy_us_cons (jwL_law__2466 (jtL_law__2466 ih)) (sy_us_cons (jwL_law__2479 (jtL_law__2479 ih)) (sy_us_cons (jwL_law__2542 (jtL_law__2542 ih)) (sy_us_cons (jwL_law__2555 (jtL_law__2555 ih)) (sy_us_cons (jwL_law__2623 (jtL_law__2623 ih)) (sy_us_cons (jwL_law__2691 (jtL_law__2691 ih)) (sy_us_cons (jwL_law__2704 (jtL_law__2704 ih)) (sy_us_cons (jwL_law__2717 (jtL_law__2717 ih)) (sy_us_cons (jwL_law__2730 (jtL_law__2730 ih)) (sy_us_cons (jwL_law__2743 (jtL_law__2743 ih)) (sy_us_cons (jwL_law__2827 (jtL_law__2827 ih)) (sy_us_cons (jwL_law__2911 (jtL_law__2911 ih)) (sy_us_cons (jwL_law__2995 (jtL_law__2995 ih)) (sy_us_cons (jwL_law__3063 (jtL_law__3063 ih)) (sy_us_cons (jwL_law__3088 (jtL_law__3088 ih)) (sy_us_cons (jwL_law__3101 (jtL_law__3101 ih)) (sy_us_cons (jwL_law__3112 (jtL_law__3112 ih)) (sy_us_cons (jwL_law__3125 (jtL_law__3125 ih)) (sy_us_cons (jwL_law__3150 (jtL_law__3150 ih)) sy_us_nil))))))))))))))))))))))))))))))))))))))))))))))))))))))))))))))))
end
