/-! ===== functions of the methods (19); written by wip/whole/run_f.py ===== -/
noncomputable section
def jgL_law__23 (k23 : Int32 → sy_M → sy_O) (a4 : Int32) (M : sy_M) : sy_O :=
  if ((Nat.toInt32 (M 134 0).toNatClampNeg) - 6) < a4 then
    sy_ri 1 M
  else
    sy_bx (xe_in a4 (M 134 0).toNatClampNeg) <|
    if ((M 1000000 (Int32.toNatClampNeg a4)) &&& 63) = 0 then
      jfL_law__308 k23 a4 M
    else if ((M 1000000 (Int32.toNatClampNeg a4)) &&& 63) = 1 then
      jfL_law__381 k23 a4 M
    else if ((M 1000000 (Int32.toNatClampNeg a4)) &&& 63) = 2 then
      jfL_law__406 k23 a4 M
    else if ((M 1000000 (Int32.toNatClampNeg a4)) &&& 63) = 3 then
      jfL_law__450 k23 a4 M
    else if ((M 1000000 (Int32.toNatClampNeg a4)) &&& 63) = 4 then
      jfL_law__494 k23 a4 M
    else if ((M 1000000 (Int32.toNatClampNeg a4)) &&& 63) = 5 then
      jfL_law__507 k23 a4 M
    else if ((M 1000000 (Int32.toNatClampNeg a4)) &&& 63) = 6 then
      jfL_law__575 k23 a4 M
    else if ((M 1000000 (Int32.toNatClampNeg a4)) &&& 63) = 7 then
      jfL_law__643 k23 a4 M
    else if ((M 1000000 (Int32.toNatClampNeg a4)) &&& 63) = 8 then
      jfL_law__718 k23 a4 M
    else if ((M 1000000 (Int32.toNatClampNeg a4)) &&& 63) = 9 then
      jfL_law__774 k23 a4 M
    else if ((M 1000000 (Int32.toNatClampNeg a4)) &&& 63) = 10 then
      jfL_law__830 k23 a4 M
    else if ((M 1000000 (Int32.toNatClampNeg a4)) &&& 63) = 11 then
      jfL_law__886 k23 a4 M
    else if ((M 1000000 (Int32.toNatClampNeg a4)) &&& 63) = 12 then
      jfL_law__954 k23 a4 M
    else if ((M 1000000 (Int32.toNatClampNeg a4)) &&& 63) = 13 then
      jfL_law__1022 k23 a4 M
    else if ((M 1000000 (Int32.toNatClampNeg a4)) &&& 63) = 14 then
      jfL_law__1090 k23 a4 M
    else if ((M 1000000 (Int32.toNatClampNeg a4)) &&& 63) = 15 then
      jfL_law__1146 k23 a4 M
    else if ((M 1000000 (Int32.toNatClampNeg a4)) &&& 63) = 16 then
      jfL_law__1214 k23 a4 M
    else if ((M 1000000 (Int32.toNatClampNeg a4)) &&& 63) = 17 then
      jfL_law__1294 k23 a4 M
    else if ((M 1000000 (Int32.toNatClampNeg a4)) &&& 63) = 18 then
      jfL_law__1307 k23 a4 M
    else if ((M 1000000 (Int32.toNatClampNeg a4)) &&& 63) = 19 then
      jfL_law__1320 k23 a4 M
    else if ((M 1000000 (Int32.toNatClampNeg a4)) &&& 63) = 20 then
      jfL_law__1333 k23 a4 M
    else if ((M 1000000 (Int32.toNatClampNeg a4)) &&& 63) = 21 then
      jfL_law__1346 k23 a4 M
    else if ((M 1000000 (Int32.toNatClampNeg a4)) &&& 63) = 22 then
      jfL_law__1359 k23 a4 M
    else if ((M 1000000 (Int32.toNatClampNeg a4)) &&& 63) = 23 then
      jfL_law__1372 k23 a4 M
    else if ((M 1000000 (Int32.toNatClampNeg a4)) &&& 63) = 24 then
      jfL_law__1452 k23 a4 M
    else if ((M 1000000 (Int32.toNatClampNeg a4)) &&& 63) = 25 then
      jfL_law__1508 k23 a4 M
    else if ((M 1000000 (Int32.toNatClampNeg a4)) &&& 63) = 26 then
      jfL_law__1564 k23 a4 M
    else if ((M 1000000 (Int32.toNatClampNeg a4)) &&& 63) = 27 then
      jfL_law__1632 k23 a4 M
    else if ((M 1000000 (Int32.toNatClampNeg a4)) &&& 63) = 28 then
      jfL_law__1645 k23 a4 M
    else if ((M 1000000 (Int32.toNatClampNeg a4)) &&& 63) = 29 then
      jfL_law__1729 k23 a4 M
    else if ((M 1000000 (Int32.toNatClampNeg a4)) &&& 63) = 30 then
      jfL_law__1797 k23 a4 M
    else if ((M 1000000 (Int32.toNatClampNeg a4)) &&& 63) = 31 then
      jfL_law__1822 k23 a4 M
    else if ((M 1000000 (Int32.toNatClampNeg a4)) &&& 63) = 32 then
      jfL_law__1878 k23 a4 M
    else if ((M 1000000 (Int32.toNatClampNeg a4)) &&& 63) = 33 then
      jfL_law__1919 k23 a4 M
    else if ((M 1000000 (Int32.toNatClampNeg a4)) &&& 63) = 34 then
      jfL_law__1975 k23 a4 M
    else if ((M 1000000 (Int32.toNatClampNeg a4)) &&& 63) = 35 then
      jfL_law__2047 k23 a4 M
    else if ((M 1000000 (Int32.toNatClampNeg a4)) &&& 63) = 36 then
      jfL_law__2091 k23 a4 M
    else if ((M 1000000 (Int32.toNatClampNeg a4)) &&& 63) = 37 then
      jfL_law__2147 k23 a4 M
    else if ((M 1000000 (Int32.toNatClampNeg a4)) &&& 63) = 38 then
      jfL_law__2222 k23 a4 M
    else if ((M 1000000 (Int32.toNatClampNeg a4)) &&& 63) = 39 then
      jfL_law__2278 k23 a4 M
    else if ((M 1000000 (Int32.toNatClampNeg a4)) &&& 63) = 40 then
      jfL_law__2291 k23 a4 M
    else if ((M 1000000 (Int32.toNatClampNeg a4)) &&& 63) = 41 then
      jfL_law__2316 k23 a4 M
    else if ((M 1000000 (Int32.toNatClampNeg a4)) &&& 63) = 42 then
      jfL_law__2372 k23 a4 M
    else if ((M 1000000 (Int32.toNatClampNeg a4)) &&& 63) = 43 then
      jfL_law__2385 k23 a4 M
    else if ((M 1000000 (Int32.toNatClampNeg a4)) &&& 63) = 44 then
      jfL_law__2398 k23 a4 M
    else if ((M 1000000 (Int32.toNatClampNeg a4)) &&& 63) = 45 then
      jfL_law__2466 k23 a4 M
    else if ((M 1000000 (Int32.toNatClampNeg a4)) &&& 63) = 46 then
      jfL_law__2479 k23 a4 M
    else if ((M 1000000 (Int32.toNatClampNeg a4)) &&& 63) = 47 then
      jfL_law__2542 k23 a4 M
    else if ((M 1000000 (Int32.toNatClampNeg a4)) &&& 63) = 48 then
      jfL_law__2555 k23 a4 M
    else if ((M 1000000 (Int32.toNatClampNeg a4)) &&& 63) = 49 then
      jfL_law__2623 k23 a4 M
    else if ((M 1000000 (Int32.toNatClampNeg a4)) &&& 63) = 50 then
      jfL_law__2691 k23 a4 M
    else if ((M 1000000 (Int32.toNatClampNeg a4)) &&& 63) = 51 then
      jfL_law__2704 k23 a4 M
    else if ((M 1000000 (Int32.toNatClampNeg a4)) &&& 63) = 52 then
      jfL_law__2717 k23 a4 M
    else if ((M 1000000 (Int32.toNatClampNeg a4)) &&& 63) = 53 then
      jfL_law__2730 k23 a4 M
    else if ((M 1000000 (Int32.toNatClampNeg a4)) &&& 63) = 54 then
      jfL_law__2743 k23 a4 M
    else if ((M 1000000 (Int32.toNatClampNeg a4)) &&& 63) = 55 then
      jfL_law__2827 k23 a4 M
    else if ((M 1000000 (Int32.toNatClampNeg a4)) &&& 63) = 56 then
      jfL_law__2911 k23 a4 M
    else if ((M 1000000 (Int32.toNatClampNeg a4)) &&& 63) = 57 then
      jfL_law__2995 k23 a4 M
    else if ((M 1000000 (Int32.toNatClampNeg a4)) &&& 63) = 58 then
      jfL_law__3063 k23 a4 M
    else if ((M 1000000 (Int32.toNatClampNeg a4)) &&& 63) = 59 then
      jfL_law__3088 k23 a4 M
    else if ((M 1000000 (Int32.toNatClampNeg a4)) &&& 63) = 60 then
      jfL_law__3101 k23 a4 M
    else if ((M 1000000 (Int32.toNatClampNeg a4)) &&& 63) = 61 then
      jfL_law__3112 k23 a4 M
    else if ((M 1000000 (Int32.toNatClampNeg a4)) &&& 63) = 62 then
      jfL_law__3125 k23 a4 M
    else jfL_law__3150 k23 a4 M
def jfL_law__23 : Nat → Int32 → sy_M → sy_O
  | 0, _, _ => none
  | n + 1, a4, M => jgL_law__23 (jfL_law__23 n) a4 M
end
