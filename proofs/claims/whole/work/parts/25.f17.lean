/-! ===== functions of the methods (17); written by wip/whole/run_f.py ===== -/
noncomputable section
def jfL_law__1822 (k23 : Int32 → sy_M → sy_O) (a4 : Int32) (M : sy_M) : sy_O :=
  sy_bx (xe_in (a4 + 1) (M 134 0).toNatClampNeg) <|
  sy_bi (jfL_stand (M 1000000 (Int32.toNatClampNeg (a4 + 1))) M) fun v2 M1 =>
  sy_bx (xe_in (a4 + 1) (M1 134 0).toNatClampNeg) <|
  sy_bi (jfX12_stand (M1 1000000 (Int32.toNatClampNeg (a4 + 1))) M1) fun v4 M3 =>
  sy_bi (jfX12_thrown M3) fun v6 M5 =>
  if v6 = v2 then
    if v2 = 0 then
      if (lg_cmp (sy_rl M5 132 0) (Int32.toInt64 v4)) = 0 then
        jfL_law__1875 k23 a4 M5
      else
        sy_ri 0 M5
    else
      jfL_law__1875 k23 a4 M5
  else
    sy_ri 0 M5
set_option maxRecDepth 100000 in
theorem jrL_law__1822 (k23 : Int32 → sy_M → sy_O) (w5 : Value) (w6 : Value) (a4 : Int32) (M : sy_M) : sy_run skL qL_law_ [(1822, .aload_n 1, 1, [true, true, true, true, true, false, false]), (1823, .aload_n 0, 1, []), (1824, .iload 4, 2, []), (1826, .iconst 1, 1, []), (1827, .iadd, 1, []), (1828, .iaload, 1, []), (1829, .aload_n 3, 1, []), (1830, .invokestatic 254, 3, []), (1833, .istore 5, 2, []), (1835, .aload_n 2, 1, []), (1836, .aload_n 0, 1, []), (1837, .iload 4, 2, []), (1839, .iconst 1, 1, []), (1840, .iadd, 1, []), (1841, .iaload, 1, []), (1842, .invokevirtual 256, 3, []), (1845, .istore 6, 2, []), (1847, .aload_n 2, 1, []), (1848, .invokevirtual 154, 3, []), (1851, .iload 5, 2, []), (1853, .if_icmp .eq 5, 3, []), (1856, .iconst 0, 1, []), (1857, .ireturn, 1, []), (1858, .iload 5, 2, []), (1860, .ifCond .ne 15, 3, []), (1863, .aload_n 3, 1, []), (1864, .iconst 0, 1, []), (1865, .laload, 1, []), (1866, .iload 6, 2, []), (1868, .i2l, 1, []), (1869, .lcmp, 1, []), (1870, .ifCond .eq 5, 3, []), (1873, .iconst 0, 1, []), (1874, .ireturn, 1, [])] [(341, 0, jcL_stand), (276, 0, jcX12_stand), (181, 0, jcX12_thrown)] [(1875, juL_law__1875 (jfL_law__1875 k23))] 35 [] 1822 [.ref 1000000, .ref 0, .ref 121, .ref 132, .int a4, w5, w6] [] M = jfL_law__1822 k23 a4 M := rfl
theorem jtL_law__1822 {k23 : Int32 → sy_M → sy_O} (hk23 : ∀ (w5 : Value) (w6 : Value) (a4 : Int32) (M : sy_M) (r : xe_R × sy_M), k23 a4 M = some r → sy_E (56) qL_law_ 23 [.ref 1000000, .ref 0, .ref 121, .ref 132, .int a4, w5, w6] [] M r) : ∀ (w5 : Value) (w6 : Value) (a4 : Int32) (M : sy_M) (r : xe_R × sy_M), jfL_law__1822 k23 a4 M = some r → sy_E (56) qL_law_ 1822 [.ref 1000000, .ref 0, .ref 121, .ref 132, .int a4, w5, w6] [] M r := by
  intro w5 w6 a4 M r h
  exact sy_run_by (d := 55) ((jrL_law__1822 _ _ _ _ M).trans h) hkL (by decide +kernel) (sy_cs_cons (jeL_stand.deep (by decide)) (sy_cs_cons (jeX12_stand.deep (by decide)) (sy_cs_cons (jeX12_thrown.deep (by decide)) sy_cs_nil))) (sy_us_cons (jwL_law__1875 (jtL_law__1875 hk23)) sy_us_nil)
def jfL_law__1911 (k23 : Int32 → sy_M → sy_O) (a4 : Int32) (s0 : Int32) (s2 : Int32) (M : sy_M) : sy_O :=
  sy_bi (jfX12_dear s0 M) fun v2 M1 =>
  if s2 = v2 then
    jfL_law__3150 k23 a4 M1
  else
    sy_ri 0 M1
set_option maxRecDepth 100000 in
theorem jrL_law__1911 (k23 : Int32 → sy_M → sy_O) (w5 : Value) (w6 : Value) (a4 : Int32) (s0 : Int32) (s2 : Int32) (M : sy_M) : sy_run skL qL_law_ [(1911, .invokevirtual 260, 3, [true, true, true, true, true, false, false]), (1914, .if_icmp .eq 1236, 3, []), (1917, .iconst 0, 1, []), (1918, .ireturn, 1, [])] [(278, 0, jcX12_dear)] [(3150, juL_law__3150 (jfL_law__3150 k23))] 5 [] 1911 [.ref 1000000, .ref 0, .ref 121, .ref 132, .int a4, w5, w6] [.int s0, .ref 121, .int s2] M = jfL_law__1911 k23 a4 s0 s2 M := rfl
theorem jtL_law__1911 {k23 : Int32 → sy_M → sy_O} (hk23 : ∀ (w5 : Value) (w6 : Value) (a4 : Int32) (M : sy_M) (r : xe_R × sy_M), k23 a4 M = some r → sy_E (56) qL_law_ 23 [.ref 1000000, .ref 0, .ref 121, .ref 132, .int a4, w5, w6] [] M r) : ∀ (w5 : Value) (w6 : Value) (a4 : Int32) (s0 : Int32) (s2 : Int32) (M : sy_M) (r : xe_R × sy_M), jfL_law__1911 k23 a4 s0 s2 M = some r → sy_E (56) qL_law_ 1911 [.ref 1000000, .ref 0, .ref 121, .ref 132, .int a4, w5, w6] [.int s0, .ref 121, .int s2] M r := by
  intro w5 w6 a4 s0 s2 M r h
  exact sy_run_by (d := 55) ((jrL_law__1911 _ _ _ _ _ _ M).trans h) hkL (by decide +kernel) (sy_cs_cons (jeX12_dear.deep (by decide)) sy_cs_nil) (sy_us_cons (jwL_law__3150 (jtL_law__3150 hk23)) sy_us_nil)
def jfL_law__1893 (k23 : Int32 → sy_M → sy_O) (a4 : Int32) (s0 : Int32) (M : sy_M) : sy_O :=
  sy_bi (jfX11_dear s0 M) fun v2 M1 =>
  sy_bx (xe_in (a4 + 1) (M1 134 0).toNatClampNeg) <|
  if (M1 1000000 (Int32.toNatClampNeg (a4 + 1))) = 0 then
    jfL_law__1911 k23 a4 0 v2 M1
  else
    jfL_law__1911 k23 a4 1 v2 M1
set_option maxRecDepth 100000 in
theorem jrL_law__1893 (k23 : Int32 → sy_M → sy_O) (w5 : Value) (w6 : Value) (a4 : Int32) (s0 : Int32) (M : sy_M) : sy_run skL qL_law_ [(1893, .invokevirtual 257, 3, [true, true, true, true, true, false, false]), (1896, .aload_n 2, 1, []), (1897, .aload_n 0, 1, []), (1898, .iload 4, 2, []), (1900, .iconst 1, 1, []), (1901, .iadd, 1, []), (1902, .iaload, 1, []), (1903, .ifCond .eq 7, 3, []), (1906, .iconst 1, 1, []), (1907, .goto 4, 3, []), (1910, .iconst 0, 1, [true, true, true, true, true, false, false])] [(135, 0, jcX11_dear)] [(1911, juL_law__1911 (jfL_law__1911 k23))] 12 [] 1893 [.ref 1000000, .ref 0, .ref 121, .ref 132, .int a4, w5, w6] [.int s0, .ref 0] M = jfL_law__1893 k23 a4 s0 M := rfl
theorem jtL_law__1893 {k23 : Int32 → sy_M → sy_O} (hk23 : ∀ (w5 : Value) (w6 : Value) (a4 : Int32) (M : sy_M) (r : xe_R × sy_M), k23 a4 M = some r → sy_E (56) qL_law_ 23 [.ref 1000000, .ref 0, .ref 121, .ref 132, .int a4, w5, w6] [] M r) : ∀ (w5 : Value) (w6 : Value) (a4 : Int32) (s0 : Int32) (M : sy_M) (r : xe_R × sy_M), jfL_law__1893 k23 a4 s0 M = some r → sy_E (56) qL_law_ 1893 [.ref 1000000, .ref 0, .ref 121, .ref 132, .int a4, w5, w6] [.int s0, .ref 0] M r := by
  intro w5 w6 a4 s0 M r h
  exact sy_run_by (d := 55) ((jrL_law__1893 _ _ _ _ _ M).trans h) hkL (by decide +kernel) (sy_cs_cons (jeX11_dear.deep (by decide)) sy_cs_nil) (sy_us_cons (jwL_law__1911 (jtL_law__1911 hk23)) sy_us_nil)
def jfL_law__1878 (k23 : Int32 → sy_M → sy_O) (a4 : Int32) (M : sy_M) : sy_O :=
  sy_bx (xe_in (a4 + 1) (M 134 0).toNatClampNeg) <|
  if (M 1000000 (Int32.toNatClampNeg (a4 + 1))) = 0 then
    jfL_law__1893 k23 a4 0 M
  else
    jfL_law__1893 k23 a4 1 M
set_option maxRecDepth 100000 in
theorem jrL_law__1878 (k23 : Int32 → sy_M → sy_O) (w5 : Value) (w6 : Value) (a4 : Int32) (M : sy_M) : sy_run skL qL_law_ [(1878, .aload_n 1, 1, [true, true, true, true, true, false, false]), (1879, .aload_n 0, 1, []), (1880, .iload 4, 2, []), (1882, .iconst 1, 1, []), (1883, .iadd, 1, []), (1884, .iaload, 1, []), (1885, .ifCond .eq 7, 3, []), (1888, .iconst 1, 1, []), (1889, .goto 4, 3, []), (1892, .iconst 0, 1, [true, true, true, true, true, false, false])] [] [(1893, juL_law__1893 (jfL_law__1893 k23))] 11 [] 1878 [.ref 1000000, .ref 0, .ref 121, .ref 132, .int a4, w5, w6] [] M = jfL_law__1878 k23 a4 M := rfl
theorem jtL_law__1878 {k23 : Int32 → sy_M → sy_O} (hk23 : ∀ (w5 : Value) (w6 : Value) (a4 : Int32) (M : sy_M) (r : xe_R × sy_M), k23 a4 M = some r → sy_E (56) qL_law_ 23 [.ref 1000000, .ref 0, .ref 121, .ref 132, .int a4, w5, w6] [] M r) : ∀ (w5 : Value) (w6 : Value) (a4 : Int32) (M : sy_M) (r : xe_R × sy_M), jfL_law__1878 k23 a4 M = some r → sy_E (56) qL_law_ 1878 [.ref 1000000, .ref 0, .ref 121, .ref 132, .int a4, w5, w6] [] M r := by
  intro w5 w6 a4 M r h
  exact sy_run_by (d := 55) ((jrL_law__1878 _ _ _ _ M).trans h) hkL (by decide +kernel) sy_cs_nil (sy_us_cons (jwL_law__1893 (jtL_law__1893 hk23)) sy_us_nil)
def jfL_law__1972 (k23 : Int32 → sy_M → sy_O) (a4 : Int32) (M : sy_M) : sy_O :=
  jfL_law__3150 k23 a4 M
set_option maxRecDepth 100000 in
theorem jrL_law__1972 (k23 : Int32 → sy_M → sy_O) (w5 : Value) (w6 : Value) (a4 : Int32) (M : sy_M) : sy_run skL qL_law_ [(1972, .goto 1178, 3, [true, true, true, true, true, false, false])] [] [(3150, juL_law__3150 (jfL_law__3150 k23))] 2 [] 1972 [.ref 1000000, .ref 0, .ref 121, .ref 132, .int a4, w5, w6] [] M = jfL_law__1972 k23 a4 M := rfl
theorem jtL_law__1972 {k23 : Int32 → sy_M → sy_O} (hk23 : ∀ (w5 : Value) (w6 : Value) (a4 : Int32) (M : sy_M) (r : xe_R × sy_M), k23 a4 M = some r → sy_E (56) qL_law_ 23 [.ref 1000000, .ref 0, .ref 121, .ref 132, .int a4, w5, w6] [] M r) : ∀ (w5 : Value) (w6 : Value) (a4 : Int32) (M : sy_M) (r : xe_R × sy_M), jfL_law__1972 k23 a4 M = some r → sy_E (56) qL_law_ 1972 [.ref 1000000, .ref 0, .ref 121, .ref 132, .int a4, w5, w6] [] M r := by
  intro w5 w6 a4 M r h
  exact sy_run_by (d := 55) ((jrL_law__1972 _ _ _ _ M).trans h) hkL (by decide +kernel) sy_cs_nil (sy_us_cons (jwL_law__3150 (jtL_law__3150 hk23)) sy_us_nil)
def jfL_law__1919 (k23 : Int32 → sy_M → sy_O) (a4 : Int32) (M : sy_M) : sy_O :=
  sy_bx (xe_in (a4 + 1) (M 134 0).toNatClampNeg) <|
  sy_bi (jfL_earns (M 1000000 (Int32.toNatClampNeg (a4 + 1))) M) fun v2 M1 =>
  sy_bx (xe_in (a4 + 1) (M1 134 0).toNatClampNeg) <|
  sy_bi (jfX12_earns (M1 1000000 (Int32.toNatClampNeg (a4 + 1))) M1) fun v4 M3 =>
  sy_bi (jfX12_thrown M3) fun v6 M5 =>
  if v6 = v2 then
    if v2 = 0 then
      if (lg_cmp (sy_rl M5 132 0) (Int32.toInt64 v4)) = 0 then
        jfL_law__1972 k23 a4 M5
      else
        sy_ri 0 M5
    else
      jfL_law__1972 k23 a4 M5
  else
    sy_ri 0 M5
set_option maxRecDepth 100000 in
theorem jrL_law__1919 (k23 : Int32 → sy_M → sy_O) (w5 : Value) (w6 : Value) (a4 : Int32) (M : sy_M) : sy_run skL qL_law_ [(1919, .aload_n 1, 1, [true, true, true, true, true, false, false]), (1920, .aload_n 0, 1, []), (1921, .iload 4, 2, []), (1923, .iconst 1, 1, []), (1924, .iadd, 1, []), (1925, .iaload, 1, []), (1926, .aload_n 3, 1, []), (1927, .invokestatic 261, 3, []), (1930, .istore 5, 2, []), (1932, .aload_n 2, 1, []), (1933, .aload_n 0, 1, []), (1934, .iload 4, 2, []), (1936, .iconst 1, 1, []), (1937, .iadd, 1, []), (1938, .iaload, 1, []), (1939, .invokevirtual 263, 3, []), (1942, .istore 6, 2, []), (1944, .aload_n 2, 1, []), (1945, .invokevirtual 154, 3, []), (1948, .iload 5, 2, []), (1950, .if_icmp .eq 5, 3, []), (1953, .iconst 0, 1, []), (1954, .ireturn, 1, []), (1955, .iload 5, 2, []), (1957, .ifCond .ne 15, 3, []), (1960, .aload_n 3, 1, []), (1961, .iconst 0, 1, []), (1962, .laload, 1, []), (1963, .iload 6, 2, []), (1965, .i2l, 1, []), (1966, .lcmp, 1, []), (1967, .ifCond .eq 5, 3, []), (1970, .iconst 0, 1, []), (1971, .ireturn, 1, [])] [(342, 0, jcL_earns), (279, 0, jcX12_earns), (181, 0, jcX12_thrown)] [(1972, juL_law__1972 (jfL_law__1972 k23))] 35 [] 1919 [.ref 1000000, .ref 0, .ref 121, .ref 132, .int a4, w5, w6] [] M = jfL_law__1919 k23 a4 M := rfl
theorem jtL_law__1919 {k23 : Int32 → sy_M → sy_O} (hk23 : ∀ (w5 : Value) (w6 : Value) (a4 : Int32) (M : sy_M) (r : xe_R × sy_M), k23 a4 M = some r → sy_E (56) qL_law_ 23 [.ref 1000000, .ref 0, .ref 121, .ref 132, .int a4, w5, w6] [] M r) : ∀ (w5 : Value) (w6 : Value) (a4 : Int32) (M : sy_M) (r : xe_R × sy_M), jfL_law__1919 k23 a4 M = some r → sy_E (56) qL_law_ 1919 [.ref 1000000, .ref 0, .ref 121, .ref 132, .int a4, w5, w6] [] M r := by
  intro w5 w6 a4 M r h
  exact sy_run_by (d := 55) ((jrL_law__1919 _ _ _ _ M).trans h) hkL (by decide +kernel) (sy_cs_cons (jeL_earns.deep (by decide)) (sy_cs_cons (jeX12_earns.deep (by decide)) (sy_cs_cons (jeX12_thrown.deep (by decide)) sy_cs_nil))) (sy_us_cons (jwL_law__1972 (jtL_law__1972 hk23)) sy_us_nil)
def jfL_law__2044 (k23 : Int32 → sy_M → sy_O) (a4 : Int32) (M : sy_M) : sy_O :=
  jfL_law__3150 k23 a4 M
set_option maxRecDepth 100000 in
theorem jrL_law__2044 (k23 : Int32 → sy_M → sy_O) (w5 : Value) (w6 : Value) (a4 : Int32) (M : sy_M) : sy_run skL qL_law_ [(2044, .goto 1106, 3, [true, true, true, true, true, false, false])] [] [(3150, juL_law__3150 (jfL_law__3150 k23))] 2 [] 2044 [.ref 1000000, .ref 0, .ref 121, .ref 132, .int a4, w5, w6] [] M = jfL_law__2044 k23 a4 M := rfl
theorem jtL_law__2044 {k23 : Int32 → sy_M → sy_O} (hk23 : ∀ (w5 : Value) (w6 : Value) (a4 : Int32) (M : sy_M) (r : xe_R × sy_M), k23 a4 M = some r → sy_E (56) qL_law_ 23 [.ref 1000000, .ref 0, .ref 121, .ref 132, .int a4, w5, w6] [] M r) : ∀ (w5 : Value) (w6 : Value) (a4 : Int32) (M : sy_M) (r : xe_R × sy_M), jfL_law__2044 k23 a4 M = some r → sy_E (56) qL_law_ 2044 [.ref 1000000, .ref 0, .ref 121, .ref 132, .int a4, w5, w6] [] M r := by
  intro w5 w6 a4 M r h
  exact sy_run_by (d := 55) ((jrL_law__2044 _ _ _ _ M).trans h) hkL (by decide +kernel) sy_cs_nil (sy_us_cons (jwL_law__3150 (jtL_law__3150 hk23)) sy_us_nil)
def jfL_law__2011 (k23 : Int32 → sy_M → sy_O) (a4 : Int32) (a5 : Int32) (s0 : Int32) (M : sy_M) : sy_O :=
  sy_bi (jfX12_culprit s0 M) fun v2 M1 =>
  sy_bi (jfX12_thrown M1) fun v4 M3 =>
  if v4 = a5 then
    if a5 = 0 then
      if (lg_cmp (sy_rl M3 132 0) (Int32.toInt64 v2)) = 0 then
        jfL_law__2044 k23 a4 M3
      else
        sy_ri 0 M3
    else
      jfL_law__2044 k23 a4 M3
  else
    sy_ri 0 M3
set_option maxRecDepth 100000 in
theorem jrL_law__2011 (k23 : Int32 → sy_M → sy_O) (w6 : Value) (a4 : Int32) (a5 : Int32) (s0 : Int32) (M : sy_M) : sy_run skL qL_law_ [(2011, .invokevirtual 267, 3, [true, true, true, true, true, true, false]), (2014, .istore 6, 2, []), (2016, .aload_n 2, 1, []), (2017, .invokevirtual 154, 3, []), (2020, .iload 5, 2, []), (2022, .if_icmp .eq 5, 3, []), (2025, .iconst 0, 1, []), (2026, .ireturn, 1, []), (2027, .iload 5, 2, []), (2029, .ifCond .ne 15, 3, []), (2032, .aload_n 3, 1, []), (2033, .iconst 0, 1, []), (2034, .laload, 1, []), (2035, .iload 6, 2, []), (2037, .i2l, 1, []), (2038, .lcmp, 1, []), (2039, .ifCond .eq 5, 3, []), (2042, .iconst 0, 1, []), (2043, .ireturn, 1, [])] [(282, 0, jcX12_culprit), (181, 0, jcX12_thrown)] [(2044, juL_law__2044 (jfL_law__2044 k23))] 20 [] 2011 [.ref 1000000, .ref 0, .ref 121, .ref 132, .int a4, .int a5, w6] [.int s0, .ref 121] M = jfL_law__2011 k23 a4 a5 s0 M := rfl
theorem jtL_law__2011 {k23 : Int32 → sy_M → sy_O} (hk23 : ∀ (w5 : Value) (w6 : Value) (a4 : Int32) (M : sy_M) (r : xe_R × sy_M), k23 a4 M = some r → sy_E (56) qL_law_ 23 [.ref 1000000, .ref 0, .ref 121, .ref 132, .int a4, w5, w6] [] M r) : ∀ (w6 : Value) (a4 : Int32) (a5 : Int32) (s0 : Int32) (M : sy_M) (r : xe_R × sy_M), jfL_law__2011 k23 a4 a5 s0 M = some r → sy_E (56) qL_law_ 2011 [.ref 1000000, .ref 0, .ref 121, .ref 132, .int a4, .int a5, w6] [.int s0, .ref 121] M r := by
  intro w6 a4 a5 s0 M r h
  exact sy_run_by (d := 55) ((jrL_law__2011 _ _ _ _ _ M).trans h) hkL (by decide +kernel) (sy_cs_cons (jeX12_culprit.deep (by decide)) (sy_cs_cons (jeX12_thrown.deep (by decide)) sy_cs_nil)) (sy_us_cons (jwL_law__2044 (jtL_law__2044 hk23)) sy_us_nil)
def jfL_law__1990 (k23 : Int32 → sy_M → sy_O) (a4 : Int32) (s0 : Int32) (M : sy_M) : sy_O :=
  sy_bi (jfL_culprit s0 M) fun v2 M1 =>
  sy_bx (xe_in (a4 + 1) (M1 134 0).toNatClampNeg) <|
  if (M1 1000000 (Int32.toNatClampNeg (a4 + 1))) = 0 then
    jfL_law__2011 k23 a4 v2 0 M1
  else
    jfL_law__2011 k23 a4 v2 1 M1
set_option maxRecDepth 100000 in
theorem jrL_law__1990 (k23 : Int32 → sy_M → sy_O) (w5 : Value) (w6 : Value) (a4 : Int32) (s0 : Int32) (M : sy_M) : sy_run skL qL_law_ [(1990, .aload_n 3, 1, [true, true, true, true, true, false, false]), (1991, .invokestatic 264, 3, []), (1994, .istore 5, 2, []), (1996, .aload_n 2, 1, []), (1997, .aload_n 0, 1, []), (1998, .iload 4, 2, []), (2000, .iconst 1, 1, []), (2001, .iadd, 1, []), (2002, .iaload, 1, []), (2003, .ifCond .eq 7, 3, []), (2006, .iconst 1, 1, []), (2007, .goto 4, 3, []), (2010, .iconst 0, 1, [true, true, true, true, true, true, false])] [(343, 0, jcL_culprit)] [(2011, juL_law__2011 (jfL_law__2011 k23))] 14 [] 1990 [.ref 1000000, .ref 0, .ref 121, .ref 132, .int a4, w5, w6] [.int s0, .ref 0] M = jfL_law__1990 k23 a4 s0 M := rfl
theorem jtL_law__1990 {k23 : Int32 → sy_M → sy_O} (hk23 : ∀ (w5 : Value) (w6 : Value) (a4 : Int32) (M : sy_M) (r : xe_R × sy_M), k23 a4 M = some r → sy_E (56) qL_law_ 23 [.ref 1000000, .ref 0, .ref 121, .ref 132, .int a4, w5, w6] [] M r) : ∀ (w5 : Value) (w6 : Value) (a4 : Int32) (s0 : Int32) (M : sy_M) (r : xe_R × sy_M), jfL_law__1990 k23 a4 s0 M = some r → sy_E (56) qL_law_ 1990 [.ref 1000000, .ref 0, .ref 121, .ref 132, .int a4, w5, w6] [.int s0, .ref 0] M r := by
  intro w5 w6 a4 s0 M r h
  exact sy_run_by (d := 55) ((jrL_law__1990 _ _ _ _ _ M).trans h) hkL (by decide +kernel) (sy_cs_cons (jeL_culprit.deep (by decide)) sy_cs_nil) (sy_us_cons (jwL_law__2011 (jtL_law__2011 hk23)) sy_us_nil)
def jfL_law__1975 (k23 : Int32 → sy_M → sy_O) (a4 : Int32) (M : sy_M) : sy_O :=
  sy_bx (xe_in (a4 + 1) (M 134 0).toNatClampNeg) <|
  if (M 1000000 (Int32.toNatClampNeg (a4 + 1))) = 0 then
    jfL_law__1990 k23 a4 0 M
  else
    jfL_law__1990 k23 a4 1 M
set_option maxRecDepth 100000 in
theorem jrL_law__1975 (k23 : Int32 → sy_M → sy_O) (w5 : Value) (w6 : Value) (a4 : Int32) (M : sy_M) : sy_run skL qL_law_ [(1975, .aload_n 1, 1, [true, true, true, true, true, false, false]), (1976, .aload_n 0, 1, []), (1977, .iload 4, 2, []), (1979, .iconst 1, 1, []), (1980, .iadd, 1, []), (1981, .iaload, 1, []), (1982, .ifCond .eq 7, 3, []), (1985, .iconst 1, 1, []), (1986, .goto 4, 3, []), (1989, .iconst 0, 1, [true, true, true, true, true, false, false])] [] [(1990, juL_law__1990 (jfL_law__1990 k23))] 11 [] 1975 [.ref 1000000, .ref 0, .ref 121, .ref 132, .int a4, w5, w6] [] M = jfL_law__1975 k23 a4 M := rfl
theorem jtL_law__1975 {k23 : Int32 → sy_M → sy_O} (hk23 : ∀ (w5 : Value) (w6 : Value) (a4 : Int32) (M : sy_M) (r : xe_R × sy_M), k23 a4 M = some r → sy_E (56) qL_law_ 23 [.ref 1000000, .ref 0, .ref 121, .ref 132, .int a4, w5, w6] [] M r) : ∀ (w5 : Value) (w6 : Value) (a4 : Int32) (M : sy_M) (r : xe_R × sy_M), jfL_law__1975 k23 a4 M = some r → sy_E (56) qL_law_ 1975 [.ref 1000000, .ref 0, .ref 121, .ref 132, .int a4, w5, w6] [] M r := by
  intro w5 w6 a4 M r h
  exact sy_run_by (d := 55) ((jrL_law__1975 _ _ _ _ M).trans h) hkL (by decide +kernel) sy_cs_nil (sy_us_cons (jwL_law__1990 (jtL_law__1990 hk23)) sy_us_nil)
def jfL_law__2088 (k23 : Int32 → sy_M → sy_O) (a4 : Int32) (M : sy_M) : sy_O :=
  jfL_law__3150 k23 a4 M
set_option maxRecDepth 100000 in
theorem jrL_law__2088 (k23 : Int32 → sy_M → sy_O) (w5 : Value) (w6 : Value) (a4 : Int32) (M : sy_M) : sy_run skL qL_law_ [(2088, .goto 1062, 3, [true, true, true, true, true, false, false])] [] [(3150, juL_law__3150 (jfL_law__3150 k23))] 2 [] 2088 [.ref 1000000, .ref 0, .ref 121, .ref 132, .int a4, w5, w6] [] M = jfL_law__2088 k23 a4 M := rfl
theorem jtL_law__2088 {k23 : Int32 → sy_M → sy_O} (hk23 : ∀ (w5 : Value) (w6 : Value) (a4 : Int32) (M : sy_M) (r : xe_R × sy_M), k23 a4 M = some r → sy_E (56) qL_law_ 23 [.ref 1000000, .ref 0, .ref 121, .ref 132, .int a4, w5, w6] [] M r) : ∀ (w5 : Value) (w6 : Value) (a4 : Int32) (M : sy_M) (r : xe_R × sy_M), jfL_law__2088 k23 a4 M = some r → sy_E (56) qL_law_ 2088 [.ref 1000000, .ref 0, .ref 121, .ref 132, .int a4, w5, w6] [] M r := by
  intro w5 w6 a4 M r h
  exact sy_run_by (d := 55) ((jrL_law__2088 _ _ _ _ M).trans h) hkL (by decide +kernel) sy_cs_nil (sy_us_cons (jwL_law__3150 (jtL_law__3150 hk23)) sy_us_nil)
def jfL_law__2047 (k23 : Int32 → sy_M → sy_O) (a4 : Int32) (M : sy_M) : sy_O :=
  sy_bi (jfL_ask M) fun v2 M1 =>
  sy_bi (jfX12_ask M1) fun v4 M3 =>
  sy_bi (jfX12_thrown M3) fun v6 M5 =>
  if v6 = v2 then
    if v2 = 0 then
      if (lg_cmp (sy_rl M5 132 0) (Int32.toInt64 v4)) = 0 then
        jfL_law__2088 k23 a4 M5
      else
        sy_ri 0 M5
    else
      jfL_law__2088 k23 a4 M5
  else
    sy_ri 0 M5
set_option maxRecDepth 100000 in
theorem jrL_law__2047 (k23 : Int32 → sy_M → sy_O) (w5 : Value) (w6 : Value) (a4 : Int32) (M : sy_M) : sy_run skL qL_law_ [(2047, .aload_n 1, 1, [true, true, true, true, true, false, false]), (2048, .aload_n 3, 1, []), (2049, .invokestatic 268, 3, []), (2052, .istore 5, 2, []), (2054, .aload_n 2, 1, []), (2055, .invokevirtual 270, 3, []), (2058, .istore 6, 2, []), (2060, .aload_n 2, 1, []), (2061, .invokevirtual 154, 3, []), (2064, .iload 5, 2, []), (2066, .if_icmp .eq 5, 3, []), (2069, .iconst 0, 1, []), (2070, .ireturn, 1, []), (2071, .iload 5, 2, []), (2073, .ifCond .ne 15, 3, []), (2076, .aload_n 3, 1, []), (2077, .iconst 0, 1, []), (2078, .laload, 1, []), (2079, .iload 6, 2, []), (2081, .i2l, 1, []), (2082, .lcmp, 1, []), (2083, .ifCond .eq 5, 3, []), (2086, .iconst 0, 1, []), (2087, .ireturn, 1, [])] [(344, 0, jcL_ask), (283, 0, jcX12_ask), (181, 0, jcX12_thrown)] [(2088, juL_law__2088 (jfL_law__2088 k23))] 25 [] 2047 [.ref 1000000, .ref 0, .ref 121, .ref 132, .int a4, w5, w6] [] M = jfL_law__2047 k23 a4 M := rfl
theorem jtL_law__2047 {k23 : Int32 → sy_M → sy_O} (hk23 : ∀ (w5 : Value) (w6 : Value) (a4 : Int32) (M : sy_M) (r : xe_R × sy_M), k23 a4 M = some r → sy_E (56) qL_law_ 23 [.ref 1000000, .ref 0, .ref 121, .ref 132, .int a4, w5, w6] [] M r) : ∀ (w5 : Value) (w6 : Value) (a4 : Int32) (M : sy_M) (r : xe_R × sy_M), jfL_law__2047 k23 a4 M = some r → sy_E (56) qL_law_ 2047 [.ref 1000000, .ref 0, .ref 121, .ref 132, .int a4, w5, w6] [] M r := by
  intro w5 w6 a4 M r h
  exact sy_run_by (d := 55) ((jrL_law__2047 _ _ _ _ M).trans h) hkL (by decide +kernel) (sy_cs_cons (jeL_ask.deep (by decide)) (sy_cs_cons (jeX12_ask.deep (by decide)) (sy_cs_cons (jeX12_thrown.deep (by decide)) sy_cs_nil))) (sy_us_cons (jwL_law__2088 (jtL_law__2088 hk23)) sy_us_nil)
def jfL_law__2144 (k23 : Int32 → sy_M → sy_O) (a4 : Int32) (M : sy_M) : sy_O :=
  jfL_law__3150 k23 a4 M
set_option maxRecDepth 100000 in
theorem jrL_law__2144 (k23 : Int32 → sy_M → sy_O) (w5 : Value) (w6 : Value) (a4 : Int32) (M : sy_M) : sy_run skL qL_law_ [(2144, .goto 1006, 3, [true, true, true, true, true, false, false])] [] [(3150, juL_law__3150 (jfL_law__3150 k23))] 2 [] 2144 [.ref 1000000, .ref 0, .ref 121, .ref 132, .int a4, w5, w6] [] M = jfL_law__2144 k23 a4 M := rfl
theorem jtL_law__2144 {k23 : Int32 → sy_M → sy_O} (hk23 : ∀ (w5 : Value) (w6 : Value) (a4 : Int32) (M : sy_M) (r : xe_R × sy_M), k23 a4 M = some r → sy_E (56) qL_law_ 23 [.ref 1000000, .ref 0, .ref 121, .ref 132, .int a4, w5, w6] [] M r) : ∀ (w5 : Value) (w6 : Value) (a4 : Int32) (M : sy_M) (r : xe_R × sy_M), jfL_law__2144 k23 a4 M = some r → sy_E (56) qL_law_ 2144 [.ref 1000000, .ref 0, .ref 121, .ref 132, .int a4, w5, w6] [] M r := by
  intro w5 w6 a4 M r h
  exact sy_run_by (d := 55) ((jrL_law__2144 _ _ _ _ M).trans h) hkL (by decide +kernel) sy_cs_nil (sy_us_cons (jwL_law__3150 (jtL_law__3150 hk23)) sy_us_nil)
def jfL_law__2091 (k23 : Int32 → sy_M → sy_O) (a4 : Int32) (M : sy_M) : sy_O :=
  sy_bx (xe_in (a4 + 1) (M 134 0).toNatClampNeg) <|
  sy_bi (jfL_drawn (M 1000000 (Int32.toNatClampNeg (a4 + 1))) M) fun v2 M1 =>
  sy_bx (xe_in (a4 + 1) (M1 134 0).toNatClampNeg) <|
  sy_bi (jfX12_drawn (M1 1000000 (Int32.toNatClampNeg (a4 + 1))) M1) fun v4 M3 =>
  sy_bi (jfX12_thrown M3) fun v6 M5 =>
  if v6 = v2 then
    if v2 = 0 then
      if (lg_cmp (sy_rl M5 132 0) (Int32.toInt64 v4)) = 0 then
        jfL_law__2144 k23 a4 M5
      else
        sy_ri 0 M5
    else
      jfL_law__2144 k23 a4 M5
  else
    sy_ri 0 M5
set_option maxRecDepth 100000 in
theorem jrL_law__2091 (k23 : Int32 → sy_M → sy_O) (w5 : Value) (w6 : Value) (a4 : Int32) (M : sy_M) : sy_run skL qL_law_ [(2091, .aload_n 1, 1, [true, true, true, true, true, false, false]), (2092, .aload_n 0, 1, []), (2093, .iload 4, 2, []), (2095, .iconst 1, 1, []), (2096, .iadd, 1, []), (2097, .iaload, 1, []), (2098, .aload_n 3, 1, []), (2099, .invokestatic 271, 3, []), (2102, .istore 5, 2, []), (2104, .aload_n 2, 1, []), (2105, .aload_n 0, 1, []), (2106, .iload 4, 2, []), (2108, .iconst 1, 1, []), (2109, .iadd, 1, []), (2110, .iaload, 1, []), (2111, .invokevirtual 273, 3, []), (2114, .istore 6, 2, []), (2116, .aload_n 2, 1, []), (2117, .invokevirtual 154, 3, []), (2120, .iload 5, 2, []), (2122, .if_icmp .eq 5, 3, []), (2125, .iconst 0, 1, []), (2126, .ireturn, 1, []), (2127, .iload 5, 2, []), (2129, .ifCond .ne 15, 3, []), (2132, .aload_n 3, 1, []), (2133, .iconst 0, 1, []), (2134, .laload, 1, []), (2135, .iload 6, 2, []), (2137, .i2l, 1, []), (2138, .lcmp, 1, []), (2139, .ifCond .eq 5, 3, []), (2142, .iconst 0, 1, []), (2143, .ireturn, 1, [])] [(345, 0, jcL_drawn), (284, 0, jcX12_drawn), (181, 0, jcX12_thrown)] [(2144, juL_law__2144 (jfL_law__2144 k23))] 35 [] 2091 [.ref 1000000, .ref 0, .ref 121, .ref 132, .int a4, w5, w6] [] M = jfL_law__2091 k23 a4 M := rfl
theorem jtL_law__2091 {k23 : Int32 → sy_M → sy_O} (hk23 : ∀ (w5 : Value) (w6 : Value) (a4 : Int32) (M : sy_M) (r : xe_R × sy_M), k23 a4 M = some r → sy_E (56) qL_law_ 23 [.ref 1000000, .ref 0, .ref 121, .ref 132, .int a4, w5, w6] [] M r) : ∀ (w5 : Value) (w6 : Value) (a4 : Int32) (M : sy_M) (r : xe_R × sy_M), jfL_law__2091 k23 a4 M = some r → sy_E (56) qL_law_ 2091 [.ref 1000000, .ref 0, .ref 121, .ref 132, .int a4, w5, w6] [] M r := by
  intro w5 w6 a4 M r h
  exact sy_run_by (d := 55) ((jrL_law__2091 _ _ _ _ M).trans h) hkL (by decide +kernel) (sy_cs_cons (jeL_drawn.deep (by decide)) (sy_cs_cons (jeX12_drawn.deep (by decide)) (sy_cs_cons (jeX12_thrown.deep (by decide)) sy_cs_nil))) (sy_us_cons (jwL_law__2144 (jtL_law__2144 hk23)) sy_us_nil)
def jfL_law__2219 (k23 : Int32 → sy_M → sy_O) (a4 : Int32) (M : sy_M) : sy_O :=
  jfL_law__3150 k23 a4 M
set_option maxRecDepth 100000 in
theorem jrL_law__2219 (k23 : Int32 → sy_M → sy_O) (w5 : Value) (w6 : Value) (a4 : Int32) (M : sy_M) : sy_run skL qL_law_ [(2219, .goto 931, 3, [true, true, true, true, true, false, false])] [] [(3150, juL_law__3150 (jfL_law__3150 k23))] 2 [] 2219 [.ref 1000000, .ref 0, .ref 121, .ref 132, .int a4, w5, w6] [] M = jfL_law__2219 k23 a4 M := rfl
theorem jtL_law__2219 {k23 : Int32 → sy_M → sy_O} (hk23 : ∀ (w5 : Value) (w6 : Value) (a4 : Int32) (M : sy_M) (r : xe_R × sy_M), k23 a4 M = some r → sy_E (56) qL_law_ 23 [.ref 1000000, .ref 0, .ref 121, .ref 132, .int a4, w5, w6] [] M r) : ∀ (w5 : Value) (w6 : Value) (a4 : Int32) (M : sy_M) (r : xe_R × sy_M), jfL_law__2219 k23 a4 M = some r → sy_E (56) qL_law_ 2219 [.ref 1000000, .ref 0, .ref 121, .ref 132, .int a4, w5, w6] [] M r := by
  intro w5 w6 a4 M r h
  exact sy_run_by (d := 55) ((jrL_law__2219 _ _ _ _ M).trans h) hkL (by decide +kernel) sy_cs_nil (sy_us_cons (jwL_law__3150 (jtL_law__3150 hk23)) sy_us_nil)
def jfL_law__2213 (k23 : Int32 → sy_M → sy_O) (a4 : Int32) (s0 : Int64) (s1 : Int64) (M : sy_M) : sy_O :=
  if (lg_cmp s1 s0) = 0 then
    jfL_law__2219 k23 a4 M
  else
    sy_ri 0 M
set_option maxRecDepth 100000 in
theorem jrL_law__2213 (k23 : Int32 → sy_M → sy_O) (w5 : Value) (w6 : Value) (a4 : Int32) (s0 : Int64) (s1 : Int64) (M : sy_M) : sy_run skL qL_law_ [(2213, .lcmp, 1, [true, true, true, true, true, false, false]), (2214, .ifCond .eq 5, 3, []), (2217, .iconst 0, 1, []), (2218, .ireturn, 1, [])] [] [(2219, juL_law__2219 (jfL_law__2219 k23))] 5 [] 2213 [.ref 1000000, .ref 0, .ref 121, .ref 132, .int a4, w5, w6] [.long s0, .long s1] M = jfL_law__2213 k23 a4 s0 s1 M := rfl
theorem jtL_law__2213 {k23 : Int32 → sy_M → sy_O} (hk23 : ∀ (w5 : Value) (w6 : Value) (a4 : Int32) (M : sy_M) (r : xe_R × sy_M), k23 a4 M = some r → sy_E (56) qL_law_ 23 [.ref 1000000, .ref 0, .ref 121, .ref 132, .int a4, w5, w6] [] M r) : ∀ (w5 : Value) (w6 : Value) (a4 : Int32) (s0 : Int64) (s1 : Int64) (M : sy_M) (r : xe_R × sy_M), jfL_law__2213 k23 a4 s0 s1 M = some r → sy_E (56) qL_law_ 2213 [.ref 1000000, .ref 0, .ref 121, .ref 132, .int a4, w5, w6] [.long s0, .long s1] M r := by
  intro w5 w6 a4 s0 s1 M r h
  exact sy_run_by (d := 55) ((jrL_law__2213 _ _ _ _ _ _ M).trans h) hkL (by decide +kernel) sy_cs_nil (sy_us_cons (jwL_law__2219 (jtL_law__2219 hk23)) sy_us_nil)
def jfL_law__2147 (k23 : Int32 → sy_M → sy_O) (a4 : Int32) (M : sy_M) : sy_O :=
  sy_bx (xe_in (a4 + 1) (M 134 0).toNatClampNeg) <|
  sy_bx (xe_in (a4 + 2) (M 134 0).toNatClampNeg) <|
  sy_bi (jfL_warmer (M 1000000 (Int32.toNatClampNeg (a4 + 1))) (M 1000000 (Int32.toNatClampNeg (a4 + 2))) M) fun v2 M1 =>
  sy_bx (xe_in (a4 + 1) (M1 134 0).toNatClampNeg) <|
  sy_bx (xe_in (a4 + 2) (M1 134 0).toNatClampNeg) <|
  sy_bi (jfX12_warmer (M1 1000000 (Int32.toNatClampNeg (a4 + 1))) (M1 1000000 (Int32.toNatClampNeg (a4 + 2))) M1) fun v4 M3 =>
  sy_bi (jfX12_thrown M3) fun v6 M5 =>
  if v6 = v2 then
    if v2 = 0 then
      if v4 = 0 then
        jfL_law__2213 k23 a4 (Int64.ofNat 0) (sy_rl M5 132 0) M5
      else
        jfL_law__2213 k23 a4 (Int64.ofNat 1) (sy_rl M5 132 0) M5
    else
      jfL_law__2219 k23 a4 M5
  else
    sy_ri 0 M5
set_option maxRecDepth 100000 in
theorem jrL_law__2147 (k23 : Int32 → sy_M → sy_O) (w5 : Value) (w6 : Value) (a4 : Int32) (M : sy_M) : sy_run skL qL_law_ [(2147, .aload_n 1, 1, [true, true, true, true, true, false, false]), (2148, .aload_n 0, 1, []), (2149, .iload 4, 2, []), (2151, .iconst 1, 1, []), (2152, .iadd, 1, []), (2153, .iaload, 1, []), (2154, .aload_n 0, 1, []), (2155, .iload 4, 2, []), (2157, .iconst 2, 1, []), (2158, .iadd, 1, []), (2159, .iaload, 1, []), (2160, .aload_n 3, 1, []), (2161, .invokestatic 274, 3, []), (2164, .istore 5, 2, []), (2166, .aload_n 2, 1, []), (2167, .aload_n 0, 1, []), (2168, .iload 4, 2, []), (2170, .iconst 1, 1, []), (2171, .iadd, 1, []), (2172, .iaload, 1, []), (2173, .aload_n 0, 1, []), (2174, .iload 4, 2, []), (2176, .iconst 2, 1, []), (2177, .iadd, 1, []), (2178, .iaload, 1, []), (2179, .invokevirtual 276, 3, []), (2182, .istore 6, 2, []), (2184, .aload_n 2, 1, []), (2185, .invokevirtual 154, 3, []), (2188, .iload 5, 2, []), (2190, .if_icmp .eq 5, 3, []), (2193, .iconst 0, 1, []), (2194, .ireturn, 1, []), (2195, .iload 5, 2, []), (2197, .ifCond .ne 22, 3, []), (2200, .aload_n 3, 1, []), (2201, .iconst 0, 1, []), (2202, .laload, 1, []), (2203, .iload 6, 2, []), (2205, .ifCond .eq 7, 3, []), (2208, .lconst 1, 1, []), (2209, .goto 4, 3, []), (2212, .lconst 0, 1, [true, true, true, true, true, false, false])] [(346, 0, jcL_warmer), (285, 0, jcX12_warmer), (181, 0, jcX12_thrown)] [(2219, juL_law__2219 (jfL_law__2219 k23)), (2213, juL_law__2213 (jfL_law__2213 k23))] 44 [] 2147 [.ref 1000000, .ref 0, .ref 121, .ref 132, .int a4, w5, w6] [] M = jfL_law__2147 k23 a4 M := rfl
theorem jtL_law__2147 {k23 : Int32 → sy_M → sy_O} (hk23 : ∀ (w5 : Value) (w6 : Value) (a4 : Int32) (M : sy_M) (r : xe_R × sy_M), k23 a4 M = some r → sy_E (56) qL_law_ 23 [.ref 1000000, .ref 0, .ref 121, .ref 132, .int a4, w5, w6] [] M r) : ∀ (w5 : Value) (w6 : Value) (a4 : Int32) (M : sy_M) (r : xe_R × sy_M), jfL_law__2147 k23 a4 M = some r → sy_E (56) qL_law_ 2147 [.ref 1000000, .ref 0, .ref 121, .ref 132, .int a4, w5, w6] [] M r := by
  intro w5 w6 a4 M r h
  exact sy_run_by (d := 55) ((jrL_law__2147 _ _ _ _ M).trans h) hkL (by decide +kernel) (sy_cs_cons (jeL_warmer.deep (by decide)) (sy_cs_cons (jeX12_warmer.deep (by decide)) (sy_cs_cons (jeX12_thrown.deep (by decide)) sy_cs_nil))) (sy_us_cons (jwL_law__2219 (jtL_law__2219 hk23)) (sy_us_cons (jwL_law__2213 (jtL_law__2213 hk23)) sy_us_nil))
def jfL_law__2275 (k23 : Int32 → sy_M → sy_O) (a4 : Int32) (M : sy_M) : sy_O :=
  jfL_law__3150 k23 a4 M
set_option maxRecDepth 100000 in
theorem jrL_law__2275 (k23 : Int32 → sy_M → sy_O) (w5 : Value) (w6 : Value) (a4 : Int32) (M : sy_M) : sy_run skL qL_law_ [(2275, .goto 875, 3, [true, true, true, true, true, false, false])] [] [(3150, juL_law__3150 (jfL_law__3150 k23))] 2 [] 2275 [.ref 1000000, .ref 0, .ref 121, .ref 132, .int a4, w5, w6] [] M = jfL_law__2275 k23 a4 M := rfl
theorem jtL_law__2275 {k23 : Int32 → sy_M → sy_O} (hk23 : ∀ (w5 : Value) (w6 : Value) (a4 : Int32) (M : sy_M) (r : xe_R × sy_M), k23 a4 M = some r → sy_E (56) qL_law_ 23 [.ref 1000000, .ref 0, .ref 121, .ref 132, .int a4, w5, w6] [] M r) : ∀ (w5 : Value) (w6 : Value) (a4 : Int32) (M : sy_M) (r : xe_R × sy_M), jfL_law__2275 k23 a4 M = some r → sy_E (56) qL_law_ 2275 [.ref 1000000, .ref 0, .ref 121, .ref 132, .int a4, w5, w6] [] M r := by
  intro w5 w6 a4 M r h
  exact sy_run_by (d := 55) ((jrL_law__2275 _ _ _ _ M).trans h) hkL (by decide +kernel) sy_cs_nil (sy_us_cons (jwL_law__3150 (jtL_law__3150 hk23)) sy_us_nil)
def jfL_law__2222 (k23 : Int32 → sy_M → sy_O) (a4 : Int32) (M : sy_M) : sy_O :=
  sy_bx (xe_in (a4 + 1) (M 134 0).toNatClampNeg) <|
  sy_bi (jfL_pairs (M 1000000 (Int32.toNatClampNeg (a4 + 1))) M) fun v2 M1 =>
  sy_bx (xe_in (a4 + 1) (M1 134 0).toNatClampNeg) <|
  sy_bi (jfX12_pairs (M1 1000000 (Int32.toNatClampNeg (a4 + 1))) M1) fun v4 M3 =>
  sy_bi (jfX12_thrown M3) fun v6 M5 =>
  if v6 = v2 then
    if v2 = 0 then
      if (lg_cmp (sy_rl M5 132 0) (Int32.toInt64 v4)) = 0 then
        jfL_law__2275 k23 a4 M5
      else
        sy_ri 0 M5
    else
      jfL_law__2275 k23 a4 M5
  else
    sy_ri 0 M5
set_option maxRecDepth 100000 in
theorem jrL_law__2222 (k23 : Int32 → sy_M → sy_O) (w5 : Value) (w6 : Value) (a4 : Int32) (M : sy_M) : sy_run skL qL_law_ [(2222, .aload_n 1, 1, [true, true, true, true, true, false, false]), (2223, .aload_n 0, 1, []), (2224, .iload 4, 2, []), (2226, .iconst 1, 1, []), (2227, .iadd, 1, []), (2228, .iaload, 1, []), (2229, .aload_n 3, 1, []), (2230, .invokestatic 277, 3, []), (2233, .istore 5, 2, []), (2235, .aload_n 2, 1, []), (2236, .aload_n 0, 1, []), (2237, .iload 4, 2, []), (2239, .iconst 1, 1, []), (2240, .iadd, 1, []), (2241, .iaload, 1, []), (2242, .invokevirtual 279, 3, []), (2245, .istore 6, 2, []), (2247, .aload_n 2, 1, []), (2248, .invokevirtual 154, 3, []), (2251, .iload 5, 2, []), (2253, .if_icmp .eq 5, 3, []), (2256, .iconst 0, 1, []), (2257, .ireturn, 1, []), (2258, .iload 5, 2, []), (2260, .ifCond .ne 15, 3, []), (2263, .aload_n 3, 1, []), (2264, .iconst 0, 1, []), (2265, .laload, 1, []), (2266, .iload 6, 2, []), (2268, .i2l, 1, []), (2269, .lcmp, 1, []), (2270, .ifCond .eq 5, 3, []), (2273, .iconst 0, 1, []), (2274, .ireturn, 1, [])] [(347, 0, jcL_pairs), (289, 0, jcX12_pairs), (181, 0, jcX12_thrown)] [(2275, juL_law__2275 (jfL_law__2275 k23))] 35 [] 2222 [.ref 1000000, .ref 0, .ref 121, .ref 132, .int a4, w5, w6] [] M = jfL_law__2222 k23 a4 M := rfl
theorem jtL_law__2222 {k23 : Int32 → sy_M → sy_O} (hk23 : ∀ (w5 : Value) (w6 : Value) (a4 : Int32) (M : sy_M) (r : xe_R × sy_M), k23 a4 M = some r → sy_E (56) qL_law_ 23 [.ref 1000000, .ref 0, .ref 121, .ref 132, .int a4, w5, w6] [] M r) : ∀ (w5 : Value) (w6 : Value) (a4 : Int32) (M : sy_M) (r : xe_R × sy_M), jfL_law__2222 k23 a4 M = some r → sy_E (56) qL_law_ 2222 [.ref 1000000, .ref 0, .ref 121, .ref 132, .int a4, w5, w6] [] M r := by
  intro w5 w6 a4 M r h
  exact sy_run_by (d := 55) ((jrL_law__2222 _ _ _ _ M).trans h) hkL (by decide +kernel) (sy_cs_cons (jeL_pairs.deep (by decide)) (sy_cs_cons (jeX12_pairs.deep (by decide)) (sy_cs_cons (jeX12_thrown.deep (by decide)) sy_cs_nil))) (sy_us_cons (jwL_law__2275 (jtL_law__2275 hk23)) sy_us_nil)
def jfL_law__2278 (k23 : Int32 → sy_M → sy_O) (a4 : Int32) (M : sy_M) : sy_O :=
  sy_bi (jfX11_keepers M) fun v2 M1 =>
  sy_bi (jfX12_keepers M1) fun v4 M3 =>
  if v2 = v4 then
    jfL_law__3150 k23 a4 M3
  else
    sy_ri 0 M3
set_option maxRecDepth 100000 in
theorem jrL_law__2278 (k23 : Int32 → sy_M → sy_O) (w5 : Value) (w6 : Value) (a4 : Int32) (M : sy_M) : sy_run skL qL_law_ [(2278, .aload_n 1, 1, [true, true, true, true, true, false, false]), (2279, .invokevirtual 280, 3, []), (2282, .aload_n 2, 1, []), (2283, .invokevirtual 283, 3, []), (2286, .if_icmp .eq 864, 3, []), (2289, .iconst 0, 1, []), (2290, .ireturn, 1, [])] [(147, 0, jcX11_keepers), (290, 0, jcX12_keepers)] [(3150, juL_law__3150 (jfL_law__3150 k23))] 8 [] 2278 [.ref 1000000, .ref 0, .ref 121, .ref 132, .int a4, w5, w6] [] M = jfL_law__2278 k23 a4 M := rfl
theorem jtL_law__2278 {k23 : Int32 → sy_M → sy_O} (hk23 : ∀ (w5 : Value) (w6 : Value) (a4 : Int32) (M : sy_M) (r : xe_R × sy_M), k23 a4 M = some r → sy_E (56) qL_law_ 23 [.ref 1000000, .ref 0, .ref 121, .ref 132, .int a4, w5, w6] [] M r) : ∀ (w5 : Value) (w6 : Value) (a4 : Int32) (M : sy_M) (r : xe_R × sy_M), jfL_law__2278 k23 a4 M = some r → sy_E (56) qL_law_ 2278 [.ref 1000000, .ref 0, .ref 121, .ref 132, .int a4, w5, w6] [] M r := by
  intro w5 w6 a4 M r h
  exact sy_run_by (d := 55) ((jrL_law__2278 _ _ _ _ M).trans h) hkL (by decide +kernel) (sy_cs_cons (jeX11_keepers.deep (by decide)) (sy_cs_cons (jeX12_keepers.deep (by decide)) sy_cs_nil)) (sy_us_cons (jwL_law__3150 (jtL_law__3150 hk23)) sy_us_nil)
def jfL_law__2291 (k23 : Int32 → sy_M → sy_O) (a4 : Int32) (M : sy_M) : sy_O :=
  sy_bx (xe_in (a4 + 1) (M 134 0).toNatClampNeg) <|
  sy_bi (jfX11_kettle (M 1000000 (Int32.toNatClampNeg (a4 + 1))) M) fun v2 M1 =>
  sy_bx (xe_in (a4 + 1) (M1 134 0).toNatClampNeg) <|
  sy_bi (jfX12_kettle (M1 1000000 (Int32.toNatClampNeg (a4 + 1))) M1) fun v4 M3 =>
  if v2 = v4 then
    jfL_law__3150 k23 a4 M3
  else
    sy_ri 0 M3
set_option maxRecDepth 100000 in
theorem jrL_law__2291 (k23 : Int32 → sy_M → sy_O) (w5 : Value) (w6 : Value) (a4 : Int32) (M : sy_M) : sy_run skL qL_law_ [(2291, .aload_n 1, 1, [true, true, true, true, true, false, false]), (2292, .aload_n 0, 1, []), (2293, .iload 4, 2, []), (2295, .iconst 1, 1, []), (2296, .iadd, 1, []), (2297, .iaload, 1, []), (2298, .invokevirtual 284, 3, []), (2301, .aload_n 2, 1, []), (2302, .aload_n 0, 1, []), (2303, .iload 4, 2, []), (2305, .iconst 1, 1, []), (2306, .iadd, 1, []), (2307, .iaload, 1, []), (2308, .invokevirtual 287, 3, []), (2311, .if_icmp .eq 839, 3, []), (2314, .iconst 0, 1, []), (2315, .ireturn, 1, [])] [(149, 0, jcX11_kettle), (292, 0, jcX12_kettle)] [(3150, juL_law__3150 (jfL_law__3150 k23))] 18 [] 2291 [.ref 1000000, .ref 0, .ref 121, .ref 132, .int a4, w5, w6] [] M = jfL_law__2291 k23 a4 M := rfl
theorem jtL_law__2291 {k23 : Int32 → sy_M → sy_O} (hk23 : ∀ (w5 : Value) (w6 : Value) (a4 : Int32) (M : sy_M) (r : xe_R × sy_M), k23 a4 M = some r → sy_E (56) qL_law_ 23 [.ref 1000000, .ref 0, .ref 121, .ref 132, .int a4, w5, w6] [] M r) : ∀ (w5 : Value) (w6 : Value) (a4 : Int32) (M : sy_M) (r : xe_R × sy_M), jfL_law__2291 k23 a4 M = some r → sy_E (56) qL_law_ 2291 [.ref 1000000, .ref 0, .ref 121, .ref 132, .int a4, w5, w6] [] M r := by
  intro w5 w6 a4 M r h
  exact sy_run_by (d := 55) ((jrL_law__2291 _ _ _ _ M).trans h) hkL (by decide +kernel) (sy_cs_cons (jeX11_kettle.deep (by decide)) (sy_cs_cons (jeX12_kettle.deep (by decide)) sy_cs_nil)) (sy_us_cons (jwL_law__3150 (jtL_law__3150 hk23)) sy_us_nil)
def jfL_law__2369 (k23 : Int32 → sy_M → sy_O) (a4 : Int32) (M : sy_M) : sy_O :=
  jfL_law__3150 k23 a4 M
set_option maxRecDepth 100000 in
theorem jrL_law__2369 (k23 : Int32 → sy_M → sy_O) (w5 : Value) (w6 : Value) (a4 : Int32) (M : sy_M) : sy_run skL qL_law_ [(2369, .goto 781, 3, [true, true, true, true, true, false, false])] [] [(3150, juL_law__3150 (jfL_law__3150 k23))] 2 [] 2369 [.ref 1000000, .ref 0, .ref 121, .ref 132, .int a4, w5, w6] [] M = jfL_law__2369 k23 a4 M := rfl
theorem jtL_law__2369 {k23 : Int32 → sy_M → sy_O} (hk23 : ∀ (w5 : Value) (w6 : Value) (a4 : Int32) (M : sy_M) (r : xe_R × sy_M), k23 a4 M = some r → sy_E (56) qL_law_ 23 [.ref 1000000, .ref 0, .ref 121, .ref 132, .int a4, w5, w6] [] M r) : ∀ (w5 : Value) (w6 : Value) (a4 : Int32) (M : sy_M) (r : xe_R × sy_M), jfL_law__2369 k23 a4 M = some r → sy_E (56) qL_law_ 2369 [.ref 1000000, .ref 0, .ref 121, .ref 132, .int a4, w5, w6] [] M r := by
  intro w5 w6 a4 M r h
  exact sy_run_by (d := 55) ((jrL_law__2369 _ _ _ _ M).trans h) hkL (by decide +kernel) sy_cs_nil (sy_us_cons (jwL_law__3150 (jtL_law__3150 hk23)) sy_us_nil)
def jfL_law__2316 (k23 : Int32 → sy_M → sy_O) (a4 : Int32) (M : sy_M) : sy_O :=
  sy_bx (xe_in (a4 + 1) (M 134 0).toNatClampNeg) <|
  sy_bi (jfL_swings (M 1000000 (Int32.toNatClampNeg (a4 + 1))) M) fun v2 M1 =>
  sy_bx (xe_in (a4 + 1) (M1 134 0).toNatClampNeg) <|
  sy_bi (jfX12_swings (M1 1000000 (Int32.toNatClampNeg (a4 + 1))) M1) fun v4 M3 =>
  sy_bi (jfX12_thrown M3) fun v6 M5 =>
  if v6 = v2 then
    if v2 = 0 then
      if (lg_cmp (sy_rl M5 132 0) (Int32.toInt64 v4)) = 0 then
        jfL_law__2369 k23 a4 M5
      else
        sy_ri 0 M5
    else
      jfL_law__2369 k23 a4 M5
  else
    sy_ri 0 M5
set_option maxRecDepth 100000 in
theorem jrL_law__2316 (k23 : Int32 → sy_M → sy_O) (w5 : Value) (w6 : Value) (a4 : Int32) (M : sy_M) : sy_run skL qL_law_ [(2316, .aload_n 1, 1, [true, true, true, true, true, false, false]), (2317, .aload_n 0, 1, []), (2318, .iload 4, 2, []), (2320, .iconst 1, 1, []), (2321, .iadd, 1, []), (2322, .iaload, 1, []), (2323, .aload_n 3, 1, []), (2324, .invokestatic 288, 3, []), (2327, .istore 5, 2, []), (2329, .aload_n 2, 1, []), (2330, .aload_n 0, 1, []), (2331, .iload 4, 2, []), (2333, .iconst 1, 1, []), (2334, .iadd, 1, []), (2335, .iaload, 1, []), (2336, .invokevirtual 290, 3, []), (2339, .istore 6, 2, []), (2341, .aload_n 2, 1, []), (2342, .invokevirtual 154, 3, []), (2345, .iload 5, 2, []), (2347, .if_icmp .eq 5, 3, []), (2350, .iconst 0, 1, []), (2351, .ireturn, 1, []), (2352, .iload 5, 2, []), (2354, .ifCond .ne 15, 3, []), (2357, .aload_n 3, 1, []), (2358, .iconst 0, 1, []), (2359, .laload, 1, []), (2360, .iload 6, 2, []), (2362, .i2l, 1, []), (2363, .lcmp, 1, []), (2364, .ifCond .eq 5, 3, []), (2367, .iconst 0, 1, []), (2368, .ireturn, 1, [])] [(348, 0, jcL_swings), (295, 0, jcX12_swings), (181, 0, jcX12_thrown)] [(2369, juL_law__2369 (jfL_law__2369 k23))] 35 [] 2316 [.ref 1000000, .ref 0, .ref 121, .ref 132, .int a4, w5, w6] [] M = jfL_law__2316 k23 a4 M := rfl
theorem jtL_law__2316 {k23 : Int32 → sy_M → sy_O} (hk23 : ∀ (w5 : Value) (w6 : Value) (a4 : Int32) (M : sy_M) (r : xe_R × sy_M), k23 a4 M = some r → sy_E (56) qL_law_ 23 [.ref 1000000, .ref 0, .ref 121, .ref 132, .int a4, w5, w6] [] M r) : ∀ (w5 : Value) (w6 : Value) (a4 : Int32) (M : sy_M) (r : xe_R × sy_M), jfL_law__2316 k23 a4 M = some r → sy_E (56) qL_law_ 2316 [.ref 1000000, .ref 0, .ref 121, .ref 132, .int a4, w5, w6] [] M r := by
  intro w5 w6 a4 M r h
  exact sy_run_by (d := 55) ((jrL_law__2316 _ _ _ _ M).trans h) hkL (by decide +kernel) (sy_cs_cons (jeL_swings.deep (by decide)) (sy_cs_cons (jeX12_swings.deep (by decide)) (sy_cs_cons (jeX12_thrown.deep (by decide)) sy_cs_nil))) (sy_us_cons (jwL_law__2369 (jtL_law__2369 hk23)) sy_us_nil)
def jfL_law__2372 (k23 : Int32 → sy_M → sy_O) (a4 : Int32) (M : sy_M) : sy_O :=
  sy_bi (jfX11_minimal M) fun v2 M1 =>
  sy_bi (jfX12_minimal M1) fun v4 M3 =>
  if v2 = v4 then
    jfL_law__3150 k23 a4 M3
  else
    sy_ri 0 M3
set_option maxRecDepth 100000 in
theorem jrL_law__2372 (k23 : Int32 → sy_M → sy_O) (w5 : Value) (w6 : Value) (a4 : Int32) (M : sy_M) : sy_run skL qL_law_ [(2372, .aload_n 1, 1, [true, true, true, true, true, false, false]), (2373, .invokevirtual 291, 3, []), (2376, .aload_n 2, 1, []), (2377, .invokevirtual 294, 3, []), (2380, .if_icmp .eq 770, 3, []), (2383, .iconst 0, 1, []), (2384, .ireturn, 1, [])] [(151, 0, jcX11_minimal), (297, 0, jcX12_minimal)] [(3150, juL_law__3150 (jfL_law__3150 k23))] 8 [] 2372 [.ref 1000000, .ref 0, .ref 121, .ref 132, .int a4, w5, w6] [] M = jfL_law__2372 k23 a4 M := rfl
theorem jtL_law__2372 {k23 : Int32 → sy_M → sy_O} (hk23 : ∀ (w5 : Value) (w6 : Value) (a4 : Int32) (M : sy_M) (r : xe_R × sy_M), k23 a4 M = some r → sy_E (56) qL_law_ 23 [.ref 1000000, .ref 0, .ref 121, .ref 132, .int a4, w5, w6] [] M r) : ∀ (w5 : Value) (w6 : Value) (a4 : Int32) (M : sy_M) (r : xe_R × sy_M), jfL_law__2372 k23 a4 M = some r → sy_E (56) qL_law_ 2372 [.ref 1000000, .ref 0, .ref 121, .ref 132, .int a4, w5, w6] [] M r := by
  intro w5 w6 a4 M r h
  exact sy_run_by (d := 55) ((jrL_law__2372 _ _ _ _ M).trans h) hkL (by decide +kernel) (sy_cs_cons (jeX11_minimal.deep (by decide)) (sy_cs_cons (jeX12_minimal.deep (by decide)) sy_cs_nil)) (sy_us_cons (jwL_law__3150 (jtL_law__3150 hk23)) sy_us_nil)
def jfL_law__2385 (k23 : Int32 → sy_M → sy_O) (a4 : Int32) (M : sy_M) : sy_O :=
  sy_bi (jfX11_dummies M) fun v2 M1 =>
  sy_bi (jfX12_dummies M1) fun v4 M3 =>
  if v2 = v4 then
    jfL_law__3150 k23 a4 M3
  else
    sy_ri 0 M3
set_option maxRecDepth 100000 in
theorem jrL_law__2385 (k23 : Int32 → sy_M → sy_O) (w5 : Value) (w6 : Value) (a4 : Int32) (M : sy_M) : sy_run skL qL_law_ [(2385, .aload_n 1, 1, [true, true, true, true, true, false, false]), (2386, .invokevirtual 295, 3, []), (2389, .aload_n 2, 1, []), (2390, .invokevirtual 298, 3, []), (2393, .if_icmp .eq 757, 3, []), (2396, .iconst 0, 1, []), (2397, .ireturn, 1, [])] [(152, 0, jcX11_dummies), (298, 0, jcX12_dummies)] [(3150, juL_law__3150 (jfL_law__3150 k23))] 8 [] 2385 [.ref 1000000, .ref 0, .ref 121, .ref 132, .int a4, w5, w6] [] M = jfL_law__2385 k23 a4 M := rfl
theorem jtL_law__2385 {k23 : Int32 → sy_M → sy_O} (hk23 : ∀ (w5 : Value) (w6 : Value) (a4 : Int32) (M : sy_M) (r : xe_R × sy_M), k23 a4 M = some r → sy_E (56) qL_law_ 23 [.ref 1000000, .ref 0, .ref 121, .ref 132, .int a4, w5, w6] [] M r) : ∀ (w5 : Value) (w6 : Value) (a4 : Int32) (M : sy_M) (r : xe_R × sy_M), jfL_law__2385 k23 a4 M = some r → sy_E (56) qL_law_ 2385 [.ref 1000000, .ref 0, .ref 121, .ref 132, .int a4, w5, w6] [] M r := by
  intro w5 w6 a4 M r h
  exact sy_run_by (d := 55) ((jrL_law__2385 _ _ _ _ M).trans h) hkL (by decide +kernel) (sy_cs_cons (jeX11_dummies.deep (by decide)) (sy_cs_cons (jeX12_dummies.deep (by decide)) sy_cs_nil)) (sy_us_cons (jwL_law__3150 (jtL_law__3150 hk23)) sy_us_nil)
def jfL_law__2463 (k23 : Int32 → sy_M → sy_O) (a4 : Int32) (M : sy_M) : sy_O :=
  jfL_law__3150 k23 a4 M
set_option maxRecDepth 100000 in
theorem jrL_law__2463 (k23 : Int32 → sy_M → sy_O) (w5 : Value) (w6 : Value) (a4 : Int32) (M : sy_M) : sy_run skL qL_law_ [(2463, .goto 687, 3, [true, true, true, true, true, false, false])] [] [(3150, juL_law__3150 (jfL_law__3150 k23))] 2 [] 2463 [.ref 1000000, .ref 0, .ref 121, .ref 132, .int a4, w5, w6] [] M = jfL_law__2463 k23 a4 M := rfl
theorem jtL_law__2463 {k23 : Int32 → sy_M → sy_O} (hk23 : ∀ (w5 : Value) (w6 : Value) (a4 : Int32) (M : sy_M) (r : xe_R × sy_M), k23 a4 M = some r → sy_E (56) qL_law_ 23 [.ref 1000000, .ref 0, .ref 121, .ref 132, .int a4, w5, w6] [] M r) : ∀ (w5 : Value) (w6 : Value) (a4 : Int32) (M : sy_M) (r : xe_R × sy_M), jfL_law__2463 k23 a4 M = some r → sy_E (56) qL_law_ 2463 [.ref 1000000, .ref 0, .ref 121, .ref 132, .int a4, w5, w6] [] M r := by
  intro w5 w6 a4 M r h
  exact sy_run_by (d := 55) ((jrL_law__2463 _ _ _ _ M).trans h) hkL (by decide +kernel) sy_cs_nil (sy_us_cons (jwL_law__3150 (jtL_law__3150 hk23)) sy_us_nil)
def jfL_law__2398 (k23 : Int32 → sy_M → sy_O) (a4 : Int32) (M : sy_M) : sy_O :=
  sy_bx (xe_in (a4 + 1) (M 134 0).toNatClampNeg) <|
  sy_bx (xe_in (a4 + 2) (M 134 0).toNatClampNeg) <|
  sy_bi (jfL_net (M 1000000 (Int32.toNatClampNeg (a4 + 1))) (M 1000000 (Int32.toNatClampNeg (a4 + 2))) M) fun v2 M1 =>
  sy_bx (xe_in (a4 + 1) (M1 134 0).toNatClampNeg) <|
  sy_bx (xe_in (a4 + 2) (M1 134 0).toNatClampNeg) <|
  sy_bi (jfX12_net (M1 1000000 (Int32.toNatClampNeg (a4 + 1))) (M1 1000000 (Int32.toNatClampNeg (a4 + 2))) M1) fun v4 M3 =>
  sy_bi (jfX12_thrown M3) fun v6 M5 =>
  if v6 = v2 then
    if v2 = 0 then
      if (lg_cmp (sy_rl M5 132 0) (Int32.toInt64 v4)) = 0 then
        jfL_law__2463 k23 a4 M5
      else
        sy_ri 0 M5
    else
      jfL_law__2463 k23 a4 M5
  else
    sy_ri 0 M5
set_option maxRecDepth 100000 in
theorem jrL_law__2398 (k23 : Int32 → sy_M → sy_O) (w5 : Value) (w6 : Value) (a4 : Int32) (M : sy_M) : sy_run skL qL_law_ [(2398, .aload_n 1, 1, [true, true, true, true, true, false, false]), (2399, .aload_n 0, 1, []), (2400, .iload 4, 2, []), (2402, .iconst 1, 1, []), (2403, .iadd, 1, []), (2404, .iaload, 1, []), (2405, .aload_n 0, 1, []), (2406, .iload 4, 2, []), (2408, .iconst 2, 1, []), (2409, .iadd, 1, []), (2410, .iaload, 1, []), (2411, .aload_n 3, 1, []), (2412, .invokestatic 299, 3, []), (2415, .istore 5, 2, []), (2417, .aload_n 2, 1, []), (2418, .aload_n 0, 1, []), (2419, .iload 4, 2, []), (2421, .iconst 1, 1, []), (2422, .iadd, 1, []), (2423, .iaload, 1, []), (2424, .aload_n 0, 1, []), (2425, .iload 4, 2, []), (2427, .iconst 2, 1, []), (2428, .iadd, 1, []), (2429, .iaload, 1, []), (2430, .invokevirtual 301, 3, []), (2433, .istore 6, 2, []), (2435, .aload_n 2, 1, []), (2436, .invokevirtual 154, 3, []), (2439, .iload 5, 2, []), (2441, .if_icmp .eq 5, 3, []), (2444, .iconst 0, 1, []), (2445, .ireturn, 1, []), (2446, .iload 5, 2, []), (2448, .ifCond .ne 15, 3, []), (2451, .aload_n 3, 1, []), (2452, .iconst 0, 1, []), (2453, .laload, 1, []), (2454, .iload 6, 2, []), (2456, .i2l, 1, []), (2457, .lcmp, 1, []), (2458, .ifCond .eq 5, 3, []), (2461, .iconst 0, 1, []), (2462, .ireturn, 1, [])] [(349, 0, jcL_net), (299, 0, jcX12_net), (181, 0, jcX12_thrown)] [(2463, juL_law__2463 (jfL_law__2463 k23))] 45 [] 2398 [.ref 1000000, .ref 0, .ref 121, .ref 132, .int a4, w5, w6] [] M = jfL_law__2398 k23 a4 M := rfl
theorem jtL_law__2398 {k23 : Int32 → sy_M → sy_O} (hk23 : ∀ (w5 : Value) (w6 : Value) (a4 : Int32) (M : sy_M) (r : xe_R × sy_M), k23 a4 M = some r → sy_E (56) qL_law_ 23 [.ref 1000000, .ref 0, .ref 121, .ref 132, .int a4, w5, w6] [] M r) : ∀ (w5 : Value) (w6 : Value) (a4 : Int32) (M : sy_M) (r : xe_R × sy_M), jfL_law__2398 k23 a4 M = some r → sy_E (56) qL_law_ 2398 [.ref 1000000, .ref 0, .ref 121, .ref 132, .int a4, w5, w6] [] M r := by
  intro w5 w6 a4 M r h
  exact sy_run_by (d := 55) ((jrL_law__2398 _ _ _ _ M).trans h) hkL (by decide +kernel) (sy_cs_cons (jeL_net.deep (by decide)) (sy_cs_cons (jeX12_net.deep (by decide)) (sy_cs_cons (jeX12_thrown.deep (by decide)) sy_cs_nil))) (sy_us_cons (jwL_law__2463 (jtL_law__2463 hk23)) sy_us_nil)
def jfL_law__2466 (k23 : Int32 → sy_M → sy_O) (a4 : Int32) (M : sy_M) : sy_O :=
  sy_bi (jfX11_debt M) fun v2 M1 =>
  sy_bi (jfX12_debt M1) fun v4 M3 =>
  if v2 = v4 then
    jfL_law__3150 k23 a4 M3
  else
    sy_ri 0 M3
set_option maxRecDepth 100000 in
theorem jrL_law__2466 (k23 : Int32 → sy_M → sy_O) (w5 : Value) (w6 : Value) (a4 : Int32) (M : sy_M) : sy_run skL qL_law_ [(2466, .aload_n 1, 1, [true, true, true, true, true, false, false]), (2467, .invokevirtual 302, 3, []), (2470, .aload_n 2, 1, []), (2471, .invokevirtual 305, 3, []), (2474, .if_icmp .eq 676, 3, []), (2477, .iconst 0, 1, []), (2478, .ireturn, 1, [])] [(157, 0, jcX11_debt), (301, 0, jcX12_debt)] [(3150, juL_law__3150 (jfL_law__3150 k23))] 8 [] 2466 [.ref 1000000, .ref 0, .ref 121, .ref 132, .int a4, w5, w6] [] M = jfL_law__2466 k23 a4 M := rfl
theorem jtL_law__2466 {k23 : Int32 → sy_M → sy_O} (hk23 : ∀ (w5 : Value) (w6 : Value) (a4 : Int32) (M : sy_M) (r : xe_R × sy_M), k23 a4 M = some r → sy_E (56) qL_law_ 23 [.ref 1000000, .ref 0, .ref 121, .ref 132, .int a4, w5, w6] [] M r) : ∀ (w5 : Value) (w6 : Value) (a4 : Int32) (M : sy_M) (r : xe_R × sy_M), jfL_law__2466 k23 a4 M = some r → sy_E (56) qL_law_ 2466 [.ref 1000000, .ref 0, .ref 121, .ref 132, .int a4, w5, w6] [] M r := by
  intro w5 w6 a4 M r h
  exact sy_run_by (d := 55) ((jrL_law__2466 _ _ _ _ M).trans h) hkL (by decide +kernel) (sy_cs_cons (jeX11_debt.deep (by decide)) (sy_cs_cons (jeX12_debt.deep (by decide)) sy_cs_nil)) (sy_us_cons (jwL_law__3150 (jtL_law__3150 hk23)) sy_us_nil)
def jfL_law__2539 (k23 : Int32 → sy_M → sy_O) (a4 : Int32) (M : sy_M) : sy_O :=
  jfL_law__3150 k23 a4 M
set_option maxRecDepth 100000 in
theorem jrL_law__2539 (k23 : Int32 → sy_M → sy_O) (w5 : Value) (w6 : Value) (a4 : Int32) (M : sy_M) : sy_run skL qL_law_ [(2539, .goto 611, 3, [true, true, true, true, true, false, false])] [] [(3150, juL_law__3150 (jfL_law__3150 k23))] 2 [] 2539 [.ref 1000000, .ref 0, .ref 121, .ref 132, .int a4, w5, w6] [] M = jfL_law__2539 k23 a4 M := rfl
theorem jtL_law__2539 {k23 : Int32 → sy_M → sy_O} (hk23 : ∀ (w5 : Value) (w6 : Value) (a4 : Int32) (M : sy_M) (r : xe_R × sy_M), k23 a4 M = some r → sy_E (56) qL_law_ 23 [.ref 1000000, .ref 0, .ref 121, .ref 132, .int a4, w5, w6] [] M r) : ∀ (w5 : Value) (w6 : Value) (a4 : Int32) (M : sy_M) (r : xe_R × sy_M), jfL_law__2539 k23 a4 M = some r → sy_E (56) qL_law_ 2539 [.ref 1000000, .ref 0, .ref 121, .ref 132, .int a4, w5, w6] [] M r := by
  intro w5 w6 a4 M r h
  exact sy_run_by (d := 55) ((jrL_law__2539 _ _ _ _ M).trans h) hkL (by decide +kernel) sy_cs_nil (sy_us_cons (jwL_law__3150 (jtL_law__3150 hk23)) sy_us_nil)
end
