/-! ===== functions of the methods (15); written by wip/whole/run_f.py ===== -/
noncomputable section
def jfL_law__3150 (k23 : Int32 → sy_M → sy_O) (a4 : Int32) (M : sy_M) : sy_O :=
  let v1 := a4 + 6
  k23 v1 M
set_option maxRecDepth 100000 in
theorem jrL_law__3150 (k23 : Int32 → sy_M → sy_O) (w5 : Value) (w6 : Value) (a4 : Int32) (M : sy_M) : sy_run skL qL_law_ [(3150, .iinc 4 6, 3, [true, true, true, true, true, false, false]), (3153, .goto (-3130), 3, [])] [] [(23, juL_law__23 k23)] 3 [] 3150 [.ref 1000000, .ref 0, .ref 121, .ref 132, .int a4, w5, w6] [] M = jfL_law__3150 k23 a4 M := rfl
theorem jtL_law__3150 {k23 : Int32 → sy_M → sy_O} (hk23 : ∀ (w5 : Value) (w6 : Value) (a4 : Int32) (M : sy_M) (r : xe_R × sy_M), k23 a4 M = some r → sy_E (56) qL_law_ 23 [.ref 1000000, .ref 0, .ref 121, .ref 132, .int a4, w5, w6] [] M r) : ∀ (w5 : Value) (w6 : Value) (a4 : Int32) (M : sy_M) (r : xe_R × sy_M), jfL_law__3150 k23 a4 M = some r → sy_E (56) qL_law_ 3150 [.ref 1000000, .ref 0, .ref 121, .ref 132, .int a4, w5, w6] [] M r := by
  intro w5 w6 a4 M r h
  exact sy_run_by (d := 55) ((jrL_law__3150 _ _ _ _ M).trans h) hkL (by decide +kernel) sy_cs_nil (sy_us_cons (jwL_law__23 hk23) sy_us_nil)
def jfL_law__308 (k23 : Int32 → sy_M → sy_O) (a4 : Int32) (M : sy_M) : sy_O :=
  sy_bx (xe_in (a4 + 1) (M 134 0).toNatClampNeg) <|
  sy_bx (xe_in (a4 + 2) (M 134 0).toNatClampNeg) <|
  sy_bx (xe_in (a4 + 3) (M 134 0).toNatClampNeg) <|
  sy_bx (xe_in (a4 + 4) (M 134 0).toNatClampNeg) <|
  sy_bx (xe_in (a4 + 5) (M 134 0).toNatClampNeg) <|
  sy_bi (jfX11_feed (M 1000000 (Int32.toNatClampNeg (a4 + 1))) (M 1000000 (Int32.toNatClampNeg (a4 + 2))) (M 1000000 (Int32.toNatClampNeg (a4 + 3))) (M 1000000 (Int32.toNatClampNeg (a4 + 4))) (M 1000000 (Int32.toNatClampNeg (a4 + 5))) M) fun v2 M1 =>
  sy_bx (xe_in (a4 + 1) (M1 134 0).toNatClampNeg) <|
  sy_bx (xe_in (a4 + 2) (M1 134 0).toNatClampNeg) <|
  sy_bx (xe_in (a4 + 3) (M1 134 0).toNatClampNeg) <|
  sy_bx (xe_in (a4 + 4) (M1 134 0).toNatClampNeg) <|
  sy_bx (xe_in (a4 + 5) (M1 134 0).toNatClampNeg) <|
  sy_bi (jfX12_feed (M1 1000000 (Int32.toNatClampNeg (a4 + 1))) (M1 1000000 (Int32.toNatClampNeg (a4 + 2))) (M1 1000000 (Int32.toNatClampNeg (a4 + 3))) (M1 1000000 (Int32.toNatClampNeg (a4 + 4))) (M1 1000000 (Int32.toNatClampNeg (a4 + 5))) M1) fun v4 M3 =>
  if v2 = v4 then
    jfL_law__3150 k23 a4 M3
  else
    sy_ri 0 M3
set_option maxRecDepth 100000 in
theorem jrL_law__308 (k23 : Int32 → sy_M → sy_O) (w5 : Value) (w6 : Value) (a4 : Int32) (M : sy_M) : sy_run skL qL_law_ [(308, .aload_n 1, 1, [true, true, true, true, true, false, false]), (309, .aload_n 0, 1, []), (310, .iload 4, 2, []), (312, .iconst 1, 1, []), (313, .iadd, 1, []), (314, .iaload, 1, []), (315, .aload_n 0, 1, []), (316, .iload 4, 2, []), (318, .iconst 2, 1, []), (319, .iadd, 1, []), (320, .iaload, 1, []), (321, .aload_n 0, 1, []), (322, .iload 4, 2, []), (324, .iconst 3, 1, []), (325, .iadd, 1, []), (326, .iaload, 1, []), (327, .aload_n 0, 1, []), (328, .iload 4, 2, []), (330, .iconst 4, 1, []), (331, .iadd, 1, []), (332, .iaload, 1, []), (333, .aload_n 0, 1, []), (334, .iload 4, 2, []), (336, .iconst 5, 1, []), (337, .iadd, 1, []), (338, .iaload, 1, []), (339, .invokevirtual 139, 3, []), (342, .aload_n 2, 1, []), (343, .aload_n 0, 1, []), (344, .iload 4, 2, []), (346, .iconst 1, 1, []), (347, .iadd, 1, []), (348, .iaload, 1, []), (349, .aload_n 0, 1, []), (350, .iload 4, 2, []), (352, .iconst 2, 1, []), (353, .iadd, 1, []), (354, .iaload, 1, []), (355, .aload_n 0, 1, []), (356, .iload 4, 2, []), (358, .iconst 3, 1, []), (359, .iadd, 1, []), (360, .iaload, 1, []), (361, .aload_n 0, 1, []), (362, .iload 4, 2, []), (364, .iconst 4, 1, []), (365, .iadd, 1, []), (366, .iaload, 1, []), (367, .aload_n 0, 1, []), (368, .iload 4, 2, []), (370, .iconst 5, 1, []), (371, .iadd, 1, []), (372, .iaload, 1, []), (373, .invokevirtual 143, 3, []), (376, .if_icmp .eq 2774, 3, []), (379, .iconst 0, 1, []), (380, .ireturn, 1, [])] [(90, 0, jcX11_feed), (198, 0, jcX12_feed)] [(3150, juL_law__3150 (jfL_law__3150 k23))] 58 [] 308 [.ref 1000000, .ref 0, .ref 121, .ref 132, .int a4, w5, w6] [] M = jfL_law__308 k23 a4 M := rfl
theorem jtL_law__308 {k23 : Int32 → sy_M → sy_O} (hk23 : ∀ (w5 : Value) (w6 : Value) (a4 : Int32) (M : sy_M) (r : xe_R × sy_M), k23 a4 M = some r → sy_E (56) qL_law_ 23 [.ref 1000000, .ref 0, .ref 121, .ref 132, .int a4, w5, w6] [] M r) : ∀ (w5 : Value) (w6 : Value) (a4 : Int32) (M : sy_M) (r : xe_R × sy_M), jfL_law__308 k23 a4 M = some r → sy_E (56) qL_law_ 308 [.ref 1000000, .ref 0, .ref 121, .ref 132, .int a4, w5, w6] [] M r := by
  intro w5 w6 a4 M r h
  exact sy_run_by (d := 55) ((jrL_law__308 _ _ _ _ M).trans h) hkL (by decide +kernel) (sy_cs_cons (jeX11_feed.deep (by decide)) (sy_cs_cons (jeX12_feed.deep (by decide)) sy_cs_nil)) (sy_us_cons (jwL_law__3150 (jtL_law__3150 hk23)) sy_us_nil)
def jfL_law__381 (k23 : Int32 → sy_M → sy_O) (a4 : Int32) (M : sy_M) : sy_O :=
  sy_bx (xe_in (a4 + 1) (M 134 0).toNatClampNeg) <|
  sy_bi (jfX11_end (M 1000000 (Int32.toNatClampNeg (a4 + 1))) M) fun v2 M1 =>
  sy_bx (xe_in (a4 + 1) (M1 134 0).toNatClampNeg) <|
  sy_bi (jfX12_end (M1 1000000 (Int32.toNatClampNeg (a4 + 1))) M1) fun v4 M3 =>
  if v2 = v4 then
    jfL_law__3150 k23 a4 M3
  else
    sy_ri 0 M3
set_option maxRecDepth 100000 in
theorem jrL_law__381 (k23 : Int32 → sy_M → sy_O) (w5 : Value) (w6 : Value) (a4 : Int32) (M : sy_M) : sy_run skL qL_law_ [(381, .aload_n 1, 1, [true, true, true, true, true, false, false]), (382, .aload_n 0, 1, []), (383, .iload 4, 2, []), (385, .iconst 1, 1, []), (386, .iadd, 1, []), (387, .iaload, 1, []), (388, .invokevirtual 144, 3, []), (391, .aload_n 2, 1, []), (392, .aload_n 0, 1, []), (393, .iload 4, 2, []), (395, .iconst 1, 1, []), (396, .iadd, 1, []), (397, .iaload, 1, []), (398, .invokevirtual 147, 3, []), (401, .if_icmp .eq 2749, 3, []), (404, .iconst 0, 1, []), (405, .ireturn, 1, [])] [(91, 0, jcX11_end), (199, 0, jcX12_end)] [(3150, juL_law__3150 (jfL_law__3150 k23))] 18 [] 381 [.ref 1000000, .ref 0, .ref 121, .ref 132, .int a4, w5, w6] [] M = jfL_law__381 k23 a4 M := rfl
theorem jtL_law__381 {k23 : Int32 → sy_M → sy_O} (hk23 : ∀ (w5 : Value) (w6 : Value) (a4 : Int32) (M : sy_M) (r : xe_R × sy_M), k23 a4 M = some r → sy_E (56) qL_law_ 23 [.ref 1000000, .ref 0, .ref 121, .ref 132, .int a4, w5, w6] [] M r) : ∀ (w5 : Value) (w6 : Value) (a4 : Int32) (M : sy_M) (r : xe_R × sy_M), jfL_law__381 k23 a4 M = some r → sy_E (56) qL_law_ 381 [.ref 1000000, .ref 0, .ref 121, .ref 132, .int a4, w5, w6] [] M r := by
  intro w5 w6 a4 M r h
  exact sy_run_by (d := 55) ((jrL_law__381 _ _ _ _ M).trans h) hkL (by decide +kernel) (sy_cs_cons (jeX11_end.deep (by decide)) (sy_cs_cons (jeX12_end.deep (by decide)) sy_cs_nil)) (sy_us_cons (jwL_law__3150 (jtL_law__3150 hk23)) sy_us_nil)
def jfL_law__447 (k23 : Int32 → sy_M → sy_O) (a4 : Int32) (M : sy_M) : sy_O :=
  jfL_law__3150 k23 a4 M
set_option maxRecDepth 100000 in
theorem jrL_law__447 (k23 : Int32 → sy_M → sy_O) (w5 : Value) (w6 : Value) (a4 : Int32) (M : sy_M) : sy_run skL qL_law_ [(447, .goto 2703, 3, [true, true, true, true, true, false, false])] [] [(3150, juL_law__3150 (jfL_law__3150 k23))] 2 [] 447 [.ref 1000000, .ref 0, .ref 121, .ref 132, .int a4, w5, w6] [] M = jfL_law__447 k23 a4 M := rfl
theorem jtL_law__447 {k23 : Int32 → sy_M → sy_O} (hk23 : ∀ (w5 : Value) (w6 : Value) (a4 : Int32) (M : sy_M) (r : xe_R × sy_M), k23 a4 M = some r → sy_E (56) qL_law_ 23 [.ref 1000000, .ref 0, .ref 121, .ref 132, .int a4, w5, w6] [] M r) : ∀ (w5 : Value) (w6 : Value) (a4 : Int32) (M : sy_M) (r : xe_R × sy_M), jfL_law__447 k23 a4 M = some r → sy_E (56) qL_law_ 447 [.ref 1000000, .ref 0, .ref 121, .ref 132, .int a4, w5, w6] [] M r := by
  intro w5 w6 a4 M r h
  exact sy_run_by (d := 55) ((jrL_law__447 _ _ _ _ M).trans h) hkL (by decide +kernel) sy_cs_nil (sy_us_cons (jwL_law__3150 (jtL_law__3150 hk23)) sy_us_nil)
def jfL_law__406 (k23 : Int32 → sy_M → sy_O) (a4 : Int32) (M : sy_M) : sy_O :=
  sy_bi (jfL_house M) fun v2 M1 =>
  sy_bi (jfX12_house M1) fun v4 M3 =>
  sy_bi (jfX12_thrown M3) fun v6 M5 =>
  if v6 = v2 then
    if v2 = 0 then
      if (lg_cmp (sy_rl M5 132 0) (Int32.toInt64 v4)) = 0 then
        jfL_law__447 k23 a4 M5
      else
        sy_ri 0 M5
    else
      jfL_law__447 k23 a4 M5
  else
    sy_ri 0 M5
set_option maxRecDepth 100000 in
theorem jrL_law__406 (k23 : Int32 → sy_M → sy_O) (w5 : Value) (w6 : Value) (a4 : Int32) (M : sy_M) : sy_run skL qL_law_ [(406, .aload_n 1, 1, [true, true, true, true, true, false, false]), (407, .aload_n 3, 1, []), (408, .invokestatic 148, 3, []), (411, .istore 5, 2, []), (413, .aload_n 2, 1, []), (414, .invokevirtual 153, 3, []), (417, .istore 6, 2, []), (419, .aload_n 2, 1, []), (420, .invokevirtual 154, 3, []), (423, .iload 5, 2, []), (425, .if_icmp .eq 5, 3, []), (428, .iconst 0, 1, []), (429, .ireturn, 1, []), (430, .iload 5, 2, []), (432, .ifCond .ne 15, 3, []), (435, .aload_n 3, 1, []), (436, .iconst 0, 1, []), (437, .laload, 1, []), (438, .iload 6, 2, []), (440, .i2l, 1, []), (441, .lcmp, 1, []), (442, .ifCond .eq 5, 3, []), (445, .iconst 0, 1, []), (446, .ireturn, 1, [])] [(321, 0, jcL_house), (217, 0, jcX12_house), (181, 0, jcX12_thrown)] [(447, juL_law__447 (jfL_law__447 k23))] 25 [] 406 [.ref 1000000, .ref 0, .ref 121, .ref 132, .int a4, w5, w6] [] M = jfL_law__406 k23 a4 M := rfl
theorem jtL_law__406 {k23 : Int32 → sy_M → sy_O} (hk23 : ∀ (w5 : Value) (w6 : Value) (a4 : Int32) (M : sy_M) (r : xe_R × sy_M), k23 a4 M = some r → sy_E (56) qL_law_ 23 [.ref 1000000, .ref 0, .ref 121, .ref 132, .int a4, w5, w6] [] M r) : ∀ (w5 : Value) (w6 : Value) (a4 : Int32) (M : sy_M) (r : xe_R × sy_M), jfL_law__406 k23 a4 M = some r → sy_E (56) qL_law_ 406 [.ref 1000000, .ref 0, .ref 121, .ref 132, .int a4, w5, w6] [] M r := by
  intro w5 w6 a4 M r h
  exact sy_run_by (d := 55) ((jrL_law__406 _ _ _ _ M).trans h) hkL (by decide +kernel) (sy_cs_cons (jeL_house.deep (by decide)) (sy_cs_cons (jeX12_house.deep (by decide)) (sy_cs_cons (jeX12_thrown.deep (by decide)) sy_cs_nil))) (sy_us_cons (jwL_law__447 (jtL_law__447 hk23)) sy_us_nil)
def jfL_law__491 (k23 : Int32 → sy_M → sy_O) (a4 : Int32) (M : sy_M) : sy_O :=
  jfL_law__3150 k23 a4 M
set_option maxRecDepth 100000 in
theorem jrL_law__491 (k23 : Int32 → sy_M → sy_O) (w5 : Value) (w6 : Value) (a4 : Int32) (M : sy_M) : sy_run skL qL_law_ [(491, .goto 2659, 3, [true, true, true, true, true, false, false])] [] [(3150, juL_law__3150 (jfL_law__3150 k23))] 2 [] 491 [.ref 1000000, .ref 0, .ref 121, .ref 132, .int a4, w5, w6] [] M = jfL_law__491 k23 a4 M := rfl
theorem jtL_law__491 {k23 : Int32 → sy_M → sy_O} (hk23 : ∀ (w5 : Value) (w6 : Value) (a4 : Int32) (M : sy_M) (r : xe_R × sy_M), k23 a4 M = some r → sy_E (56) qL_law_ 23 [.ref 1000000, .ref 0, .ref 121, .ref 132, .int a4, w5, w6] [] M r) : ∀ (w5 : Value) (w6 : Value) (a4 : Int32) (M : sy_M) (r : xe_R × sy_M), jfL_law__491 k23 a4 M = some r → sy_E (56) qL_law_ 491 [.ref 1000000, .ref 0, .ref 121, .ref 132, .int a4, w5, w6] [] M r := by
  intro w5 w6 a4 M r h
  exact sy_run_by (d := 55) ((jrL_law__491 _ _ _ _ M).trans h) hkL (by decide +kernel) sy_cs_nil (sy_us_cons (jwL_law__3150 (jtL_law__3150 hk23)) sy_us_nil)
def jfL_law__450 (k23 : Int32 → sy_M → sy_O) (a4 : Int32) (M : sy_M) : sy_O :=
  sy_bi (jfL_law M) fun v2 M1 =>
  sy_bi (jfX12_law M1) fun v4 M3 =>
  sy_bi (jfX12_thrown M3) fun v6 M5 =>
  if v6 = v2 then
    if v2 = 0 then
      if (lg_cmp (sy_rl M5 132 0) (Int32.toInt64 v4)) = 0 then
        jfL_law__491 k23 a4 M5
      else
        sy_ri 0 M5
    else
      jfL_law__491 k23 a4 M5
  else
    sy_ri 0 M5
set_option maxRecDepth 100000 in
theorem jrL_law__450 (k23 : Int32 → sy_M → sy_O) (w5 : Value) (w6 : Value) (a4 : Int32) (M : sy_M) : sy_run skL qL_law_ [(450, .aload_n 1, 1, [true, true, true, true, true, false, false]), (451, .aload_n 3, 1, []), (452, .invokestatic 157, 3, []), (455, .istore 5, 2, []), (457, .aload_n 2, 1, []), (458, .invokevirtual 159, 3, []), (461, .istore 6, 2, []), (463, .aload_n 2, 1, []), (464, .invokevirtual 154, 3, []), (467, .iload 5, 2, []), (469, .if_icmp .eq 5, 3, []), (472, .iconst 0, 1, []), (473, .ireturn, 1, []), (474, .iload 5, 2, []), (476, .ifCond .ne 15, 3, []), (479, .aload_n 3, 1, []), (480, .iconst 0, 1, []), (481, .laload, 1, []), (482, .iload 6, 2, []), (484, .i2l, 1, []), (485, .lcmp, 1, []), (486, .ifCond .eq 5, 3, []), (489, .iconst 0, 1, []), (490, .ireturn, 1, [])] [(322, 0, jcL_law), (225, 0, jcX12_law), (181, 0, jcX12_thrown)] [(491, juL_law__491 (jfL_law__491 k23))] 25 [] 450 [.ref 1000000, .ref 0, .ref 121, .ref 132, .int a4, w5, w6] [] M = jfL_law__450 k23 a4 M := rfl
theorem jtL_law__450 {k23 : Int32 → sy_M → sy_O} (hk23 : ∀ (w5 : Value) (w6 : Value) (a4 : Int32) (M : sy_M) (r : xe_R × sy_M), k23 a4 M = some r → sy_E (56) qL_law_ 23 [.ref 1000000, .ref 0, .ref 121, .ref 132, .int a4, w5, w6] [] M r) : ∀ (w5 : Value) (w6 : Value) (a4 : Int32) (M : sy_M) (r : xe_R × sy_M), jfL_law__450 k23 a4 M = some r → sy_E (56) qL_law_ 450 [.ref 1000000, .ref 0, .ref 121, .ref 132, .int a4, w5, w6] [] M r := by
  intro w5 w6 a4 M r h
  exact sy_run_by (d := 55) ((jrL_law__450 _ _ _ _ M).trans h) hkL (by decide +kernel) (sy_cs_cons (jeL_law.deep (by decide)) (sy_cs_cons (jeX12_law.deep (by decide)) (sy_cs_cons (jeX12_thrown.deep (by decide)) sy_cs_nil))) (sy_us_cons (jwL_law__491 (jtL_law__491 hk23)) sy_us_nil)
def jfL_law__494 (k23 : Int32 → sy_M → sy_O) (a4 : Int32) (M : sy_M) : sy_O :=
  sy_bi (jfX11_fault M) fun v2 M1 =>
  sy_bi (jfX12_fault M1) fun v4 M3 =>
  if v2 = v4 then
    jfL_law__3150 k23 a4 M3
  else
    sy_ri 0 M3
set_option maxRecDepth 100000 in
theorem jrL_law__494 (k23 : Int32 → sy_M → sy_O) (w5 : Value) (w6 : Value) (a4 : Int32) (M : sy_M) : sy_run skL qL_law_ [(494, .aload_n 1, 1, [true, true, true, true, true, false, false]), (495, .invokevirtual 160, 3, []), (498, .aload_n 2, 1, []), (499, .invokevirtual 163, 3, []), (502, .if_icmp .eq 2648, 3, []), (505, .iconst 0, 1, []), (506, .ireturn, 1, [])] [(94, 0, jcX11_fault), (226, 0, jcX12_fault)] [(3150, juL_law__3150 (jfL_law__3150 k23))] 8 [] 494 [.ref 1000000, .ref 0, .ref 121, .ref 132, .int a4, w5, w6] [] M = jfL_law__494 k23 a4 M := rfl
theorem jtL_law__494 {k23 : Int32 → sy_M → sy_O} (hk23 : ∀ (w5 : Value) (w6 : Value) (a4 : Int32) (M : sy_M) (r : xe_R × sy_M), k23 a4 M = some r → sy_E (56) qL_law_ 23 [.ref 1000000, .ref 0, .ref 121, .ref 132, .int a4, w5, w6] [] M r) : ∀ (w5 : Value) (w6 : Value) (a4 : Int32) (M : sy_M) (r : xe_R × sy_M), jfL_law__494 k23 a4 M = some r → sy_E (56) qL_law_ 494 [.ref 1000000, .ref 0, .ref 121, .ref 132, .int a4, w5, w6] [] M r := by
  intro w5 w6 a4 M r h
  exact sy_run_by (d := 55) ((jrL_law__494 _ _ _ _ M).trans h) hkL (by decide +kernel) (sy_cs_cons (jeX11_fault.deep (by decide)) (sy_cs_cons (jeX12_fault.deep (by decide)) sy_cs_nil)) (sy_us_cons (jwL_law__3150 (jtL_law__3150 hk23)) sy_us_nil)
def jfL_law__572 (k23 : Int32 → sy_M → sy_O) (a4 : Int32) (M : sy_M) : sy_O :=
  jfL_law__3150 k23 a4 M
set_option maxRecDepth 100000 in
theorem jrL_law__572 (k23 : Int32 → sy_M → sy_O) (w5 : Value) (w6 : Value) (a4 : Int32) (M : sy_M) : sy_run skL qL_law_ [(572, .goto 2578, 3, [true, true, true, true, true, false, false])] [] [(3150, juL_law__3150 (jfL_law__3150 k23))] 2 [] 572 [.ref 1000000, .ref 0, .ref 121, .ref 132, .int a4, w5, w6] [] M = jfL_law__572 k23 a4 M := rfl
theorem jtL_law__572 {k23 : Int32 → sy_M → sy_O} (hk23 : ∀ (w5 : Value) (w6 : Value) (a4 : Int32) (M : sy_M) (r : xe_R × sy_M), k23 a4 M = some r → sy_E (56) qL_law_ 23 [.ref 1000000, .ref 0, .ref 121, .ref 132, .int a4, w5, w6] [] M r) : ∀ (w5 : Value) (w6 : Value) (a4 : Int32) (M : sy_M) (r : xe_R × sy_M), jfL_law__572 k23 a4 M = some r → sy_E (56) qL_law_ 572 [.ref 1000000, .ref 0, .ref 121, .ref 132, .int a4, w5, w6] [] M r := by
  intro w5 w6 a4 M r h
  exact sy_run_by (d := 55) ((jrL_law__572 _ _ _ _ M).trans h) hkL (by decide +kernel) sy_cs_nil (sy_us_cons (jwL_law__3150 (jtL_law__3150 hk23)) sy_us_nil)
def jfL_law__507 (k23 : Int32 → sy_M → sy_O) (a4 : Int32) (M : sy_M) : sy_O :=
  sy_bx (xe_in (a4 + 1) (M 134 0).toNatClampNeg) <|
  sy_bx (xe_in (a4 + 2) (M 134 0).toNatClampNeg) <|
  sy_bi (jfL_lodger (M 1000000 (Int32.toNatClampNeg (a4 + 1))) (M 1000000 (Int32.toNatClampNeg (a4 + 2))) M) fun v2 M1 =>
  sy_bx (xe_in (a4 + 1) (M1 134 0).toNatClampNeg) <|
  sy_bx (xe_in (a4 + 2) (M1 134 0).toNatClampNeg) <|
  sy_bi (jfX12_lodger (M1 1000000 (Int32.toNatClampNeg (a4 + 1))) (M1 1000000 (Int32.toNatClampNeg (a4 + 2))) M1) fun v4 M3 =>
  sy_bi (jfX12_thrown M3) fun v6 M5 =>
  if v6 = v2 then
    if v2 = 0 then
      if (lg_cmp (sy_rl M5 132 0) (Int32.toInt64 v4)) = 0 then
        jfL_law__572 k23 a4 M5
      else
        sy_ri 0 M5
    else
      jfL_law__572 k23 a4 M5
  else
    sy_ri 0 M5
set_option maxRecDepth 100000 in
theorem jrL_law__507 (k23 : Int32 → sy_M → sy_O) (w5 : Value) (w6 : Value) (a4 : Int32) (M : sy_M) : sy_run skL qL_law_ [(507, .aload_n 1, 1, [true, true, true, true, true, false, false]), (508, .aload_n 0, 1, []), (509, .iload 4, 2, []), (511, .iconst 1, 1, []), (512, .iadd, 1, []), (513, .iaload, 1, []), (514, .aload_n 0, 1, []), (515, .iload 4, 2, []), (517, .iconst 2, 1, []), (518, .iadd, 1, []), (519, .iaload, 1, []), (520, .aload_n 3, 1, []), (521, .invokestatic 164, 3, []), (524, .istore 5, 2, []), (526, .aload_n 2, 1, []), (527, .aload_n 0, 1, []), (528, .iload 4, 2, []), (530, .iconst 1, 1, []), (531, .iadd, 1, []), (532, .iaload, 1, []), (533, .aload_n 0, 1, []), (534, .iload 4, 2, []), (536, .iconst 2, 1, []), (537, .iadd, 1, []), (538, .iaload, 1, []), (539, .invokevirtual 167, 3, []), (542, .istore 6, 2, []), (544, .aload_n 2, 1, []), (545, .invokevirtual 154, 3, []), (548, .iload 5, 2, []), (550, .if_icmp .eq 5, 3, []), (553, .iconst 0, 1, []), (554, .ireturn, 1, []), (555, .iload 5, 2, []), (557, .ifCond .ne 15, 3, []), (560, .aload_n 3, 1, []), (561, .iconst 0, 1, []), (562, .laload, 1, []), (563, .iload 6, 2, []), (565, .i2l, 1, []), (566, .lcmp, 1, []), (567, .ifCond .eq 5, 3, []), (570, .iconst 0, 1, []), (571, .ireturn, 1, [])] [(323, 0, jcL_lodger), (239, 0, jcX12_lodger), (181, 0, jcX12_thrown)] [(572, juL_law__572 (jfL_law__572 k23))] 45 [] 507 [.ref 1000000, .ref 0, .ref 121, .ref 132, .int a4, w5, w6] [] M = jfL_law__507 k23 a4 M := rfl
theorem jtL_law__507 {k23 : Int32 → sy_M → sy_O} (hk23 : ∀ (w5 : Value) (w6 : Value) (a4 : Int32) (M : sy_M) (r : xe_R × sy_M), k23 a4 M = some r → sy_E (56) qL_law_ 23 [.ref 1000000, .ref 0, .ref 121, .ref 132, .int a4, w5, w6] [] M r) : ∀ (w5 : Value) (w6 : Value) (a4 : Int32) (M : sy_M) (r : xe_R × sy_M), jfL_law__507 k23 a4 M = some r → sy_E (56) qL_law_ 507 [.ref 1000000, .ref 0, .ref 121, .ref 132, .int a4, w5, w6] [] M r := by
  intro w5 w6 a4 M r h
  exact sy_run_by (d := 55) ((jrL_law__507 _ _ _ _ M).trans h) hkL (by decide +kernel) (sy_cs_cons (jeL_lodger.deep (by decide)) (sy_cs_cons (jeX12_lodger.deep (by decide)) (sy_cs_cons (jeX12_thrown.deep (by decide)) sy_cs_nil))) (sy_us_cons (jwL_law__572 (jtL_law__572 hk23)) sy_us_nil)
def jfL_law__640 (k23 : Int32 → sy_M → sy_O) (a4 : Int32) (M : sy_M) : sy_O :=
  jfL_law__3150 k23 a4 M
set_option maxRecDepth 100000 in
theorem jrL_law__640 (k23 : Int32 → sy_M → sy_O) (w5 : Value) (w6 : Value) (a4 : Int32) (M : sy_M) : sy_run skL qL_law_ [(640, .goto 2510, 3, [true, true, true, true, true, false, false])] [] [(3150, juL_law__3150 (jfL_law__3150 k23))] 2 [] 640 [.ref 1000000, .ref 0, .ref 121, .ref 132, .int a4, w5, w6] [] M = jfL_law__640 k23 a4 M := rfl
theorem jtL_law__640 {k23 : Int32 → sy_M → sy_O} (hk23 : ∀ (w5 : Value) (w6 : Value) (a4 : Int32) (M : sy_M) (r : xe_R × sy_M), k23 a4 M = some r → sy_E (56) qL_law_ 23 [.ref 1000000, .ref 0, .ref 121, .ref 132, .int a4, w5, w6] [] M r) : ∀ (w5 : Value) (w6 : Value) (a4 : Int32) (M : sy_M) (r : xe_R × sy_M), jfL_law__640 k23 a4 M = some r → sy_E (56) qL_law_ 640 [.ref 1000000, .ref 0, .ref 121, .ref 132, .int a4, w5, w6] [] M r := by
  intro w5 w6 a4 M r h
  exact sy_run_by (d := 55) ((jrL_law__640 _ _ _ _ M).trans h) hkL (by decide +kernel) sy_cs_nil (sy_us_cons (jwL_law__3150 (jtL_law__3150 hk23)) sy_us_nil)
def jfL_law__575 (k23 : Int32 → sy_M → sy_O) (a4 : Int32) (M : sy_M) : sy_O :=
  sy_bx (xe_in (a4 + 1) (M 134 0).toNatClampNeg) <|
  sy_bx (xe_in (a4 + 2) (M 134 0).toNatClampNeg) <|
  sy_bi (jfL_owes (M 1000000 (Int32.toNatClampNeg (a4 + 1))) (M 1000000 (Int32.toNatClampNeg (a4 + 2))) M) fun v2 M1 =>
  sy_bx (xe_in (a4 + 1) (M1 134 0).toNatClampNeg) <|
  sy_bx (xe_in (a4 + 2) (M1 134 0).toNatClampNeg) <|
  sy_bi (jfX12_owes (M1 1000000 (Int32.toNatClampNeg (a4 + 1))) (M1 1000000 (Int32.toNatClampNeg (a4 + 2))) M1) fun v4 M3 =>
  sy_bi (jfX12_thrown M3) fun v6 M5 =>
  if v6 = v2 then
    if v2 = 0 then
      if (lg_cmp (sy_rl M5 132 0) (Int32.toInt64 v4)) = 0 then
        jfL_law__640 k23 a4 M5
      else
        sy_ri 0 M5
    else
      jfL_law__640 k23 a4 M5
  else
    sy_ri 0 M5
set_option maxRecDepth 100000 in
theorem jrL_law__575 (k23 : Int32 → sy_M → sy_O) (w5 : Value) (w6 : Value) (a4 : Int32) (M : sy_M) : sy_run skL qL_law_ [(575, .aload_n 1, 1, [true, true, true, true, true, false, false]), (576, .aload_n 0, 1, []), (577, .iload 4, 2, []), (579, .iconst 1, 1, []), (580, .iadd, 1, []), (581, .iaload, 1, []), (582, .aload_n 0, 1, []), (583, .iload 4, 2, []), (585, .iconst 2, 1, []), (586, .iadd, 1, []), (587, .iaload, 1, []), (588, .aload_n 3, 1, []), (589, .invokestatic 168, 3, []), (592, .istore 5, 2, []), (594, .aload_n 2, 1, []), (595, .aload_n 0, 1, []), (596, .iload 4, 2, []), (598, .iconst 1, 1, []), (599, .iadd, 1, []), (600, .iaload, 1, []), (601, .aload_n 0, 1, []), (602, .iload 4, 2, []), (604, .iconst 2, 1, []), (605, .iadd, 1, []), (606, .iaload, 1, []), (607, .invokevirtual 170, 3, []), (610, .istore 6, 2, []), (612, .aload_n 2, 1, []), (613, .invokevirtual 154, 3, []), (616, .iload 5, 2, []), (618, .if_icmp .eq 5, 3, []), (621, .iconst 0, 1, []), (622, .ireturn, 1, []), (623, .iload 5, 2, []), (625, .ifCond .ne 15, 3, []), (628, .aload_n 3, 1, []), (629, .iconst 0, 1, []), (630, .laload, 1, []), (631, .iload 6, 2, []), (633, .i2l, 1, []), (634, .lcmp, 1, []), (635, .ifCond .eq 5, 3, []), (638, .iconst 0, 1, []), (639, .ireturn, 1, [])] [(324, 0, jcL_owes), (241, 0, jcX12_owes), (181, 0, jcX12_thrown)] [(640, juL_law__640 (jfL_law__640 k23))] 45 [] 575 [.ref 1000000, .ref 0, .ref 121, .ref 132, .int a4, w5, w6] [] M = jfL_law__575 k23 a4 M := rfl
theorem jtL_law__575 {k23 : Int32 → sy_M → sy_O} (hk23 : ∀ (w5 : Value) (w6 : Value) (a4 : Int32) (M : sy_M) (r : xe_R × sy_M), k23 a4 M = some r → sy_E (56) qL_law_ 23 [.ref 1000000, .ref 0, .ref 121, .ref 132, .int a4, w5, w6] [] M r) : ∀ (w5 : Value) (w6 : Value) (a4 : Int32) (M : sy_M) (r : xe_R × sy_M), jfL_law__575 k23 a4 M = some r → sy_E (56) qL_law_ 575 [.ref 1000000, .ref 0, .ref 121, .ref 132, .int a4, w5, w6] [] M r := by
  intro w5 w6 a4 M r h
  exact sy_run_by (d := 55) ((jrL_law__575 _ _ _ _ M).trans h) hkL (by decide +kernel) (sy_cs_cons (jeL_owes.deep (by decide)) (sy_cs_cons (jeX12_owes.deep (by decide)) (sy_cs_cons (jeX12_thrown.deep (by decide)) sy_cs_nil))) (sy_us_cons (jwL_law__640 (jtL_law__640 hk23)) sy_us_nil)
def jfL_law__715 (k23 : Int32 → sy_M → sy_O) (a4 : Int32) (M : sy_M) : sy_O :=
  jfL_law__3150 k23 a4 M
set_option maxRecDepth 100000 in
theorem jrL_law__715 (k23 : Int32 → sy_M → sy_O) (w5 : Value) (w6 : Value) (a4 : Int32) (M : sy_M) : sy_run skL qL_law_ [(715, .goto 2435, 3, [true, true, true, true, true, false, false])] [] [(3150, juL_law__3150 (jfL_law__3150 k23))] 2 [] 715 [.ref 1000000, .ref 0, .ref 121, .ref 132, .int a4, w5, w6] [] M = jfL_law__715 k23 a4 M := rfl
theorem jtL_law__715 {k23 : Int32 → sy_M → sy_O} (hk23 : ∀ (w5 : Value) (w6 : Value) (a4 : Int32) (M : sy_M) (r : xe_R × sy_M), k23 a4 M = some r → sy_E (56) qL_law_ 23 [.ref 1000000, .ref 0, .ref 121, .ref 132, .int a4, w5, w6] [] M r) : ∀ (w5 : Value) (w6 : Value) (a4 : Int32) (M : sy_M) (r : xe_R × sy_M), jfL_law__715 k23 a4 M = some r → sy_E (56) qL_law_ 715 [.ref 1000000, .ref 0, .ref 121, .ref 132, .int a4, w5, w6] [] M r := by
  intro w5 w6 a4 M r h
  exact sy_run_by (d := 55) ((jrL_law__715 _ _ _ _ M).trans h) hkL (by decide +kernel) sy_cs_nil (sy_us_cons (jwL_law__3150 (jtL_law__3150 hk23)) sy_us_nil)
def jfL_law__709 (k23 : Int32 → sy_M → sy_O) (a4 : Int32) (s0 : Int64) (s1 : Int64) (M : sy_M) : sy_O :=
  if (lg_cmp s1 s0) = 0 then
    jfL_law__715 k23 a4 M
  else
    sy_ri 0 M
set_option maxRecDepth 100000 in
theorem jrL_law__709 (k23 : Int32 → sy_M → sy_O) (w5 : Value) (w6 : Value) (a4 : Int32) (s0 : Int64) (s1 : Int64) (M : sy_M) : sy_run skL qL_law_ [(709, .lcmp, 1, [true, true, true, true, true, false, false]), (710, .ifCond .eq 5, 3, []), (713, .iconst 0, 1, []), (714, .ireturn, 1, [])] [] [(715, juL_law__715 (jfL_law__715 k23))] 5 [] 709 [.ref 1000000, .ref 0, .ref 121, .ref 132, .int a4, w5, w6] [.long s0, .long s1] M = jfL_law__709 k23 a4 s0 s1 M := rfl
theorem jtL_law__709 {k23 : Int32 → sy_M → sy_O} (hk23 : ∀ (w5 : Value) (w6 : Value) (a4 : Int32) (M : sy_M) (r : xe_R × sy_M), k23 a4 M = some r → sy_E (56) qL_law_ 23 [.ref 1000000, .ref 0, .ref 121, .ref 132, .int a4, w5, w6] [] M r) : ∀ (w5 : Value) (w6 : Value) (a4 : Int32) (s0 : Int64) (s1 : Int64) (M : sy_M) (r : xe_R × sy_M), jfL_law__709 k23 a4 s0 s1 M = some r → sy_E (56) qL_law_ 709 [.ref 1000000, .ref 0, .ref 121, .ref 132, .int a4, w5, w6] [.long s0, .long s1] M r := by
  intro w5 w6 a4 s0 s1 M r h
  exact sy_run_by (d := 55) ((jrL_law__709 _ _ _ _ _ _ M).trans h) hkL (by decide +kernel) sy_cs_nil (sy_us_cons (jwL_law__715 (jtL_law__715 hk23)) sy_us_nil)
def jfL_law__643 (k23 : Int32 → sy_M → sy_O) (a4 : Int32) (M : sy_M) : sy_O :=
  sy_bx (xe_in (a4 + 1) (M 134 0).toNatClampNeg) <|
  sy_bx (xe_in (a4 + 2) (M 134 0).toNatClampNeg) <|
  sy_bi (jfL_isHome (M 1000000 (Int32.toNatClampNeg (a4 + 1))) (M 1000000 (Int32.toNatClampNeg (a4 + 2))) M) fun v2 M1 =>
  sy_bx (xe_in (a4 + 1) (M1 134 0).toNatClampNeg) <|
  sy_bx (xe_in (a4 + 2) (M1 134 0).toNatClampNeg) <|
  sy_bi (jfX12_isHome (M1 1000000 (Int32.toNatClampNeg (a4 + 1))) (M1 1000000 (Int32.toNatClampNeg (a4 + 2))) M1) fun v4 M3 =>
  sy_bi (jfX12_thrown M3) fun v6 M5 =>
  if v6 = v2 then
    if v2 = 0 then
      if v4 = 0 then
        jfL_law__709 k23 a4 (Int64.ofNat 0) (sy_rl M5 132 0) M5
      else
        jfL_law__709 k23 a4 (Int64.ofNat 1) (sy_rl M5 132 0) M5
    else
      jfL_law__715 k23 a4 M5
  else
    sy_ri 0 M5
set_option maxRecDepth 100000 in
theorem jrL_law__643 (k23 : Int32 → sy_M → sy_O) (w5 : Value) (w6 : Value) (a4 : Int32) (M : sy_M) : sy_run skL qL_law_ [(643, .aload_n 1, 1, [true, true, true, true, true, false, false]), (644, .aload_n 0, 1, []), (645, .iload 4, 2, []), (647, .iconst 1, 1, []), (648, .iadd, 1, []), (649, .iaload, 1, []), (650, .aload_n 0, 1, []), (651, .iload 4, 2, []), (653, .iconst 2, 1, []), (654, .iadd, 1, []), (655, .iaload, 1, []), (656, .aload_n 3, 1, []), (657, .invokestatic 171, 3, []), (660, .istore 5, 2, []), (662, .aload_n 2, 1, []), (663, .aload_n 0, 1, []), (664, .iload 4, 2, []), (666, .iconst 1, 1, []), (667, .iadd, 1, []), (668, .iaload, 1, []), (669, .aload_n 0, 1, []), (670, .iload 4, 2, []), (672, .iconst 2, 1, []), (673, .iadd, 1, []), (674, .iaload, 1, []), (675, .invokevirtual 173, 3, []), (678, .istore 6, 2, []), (680, .aload_n 2, 1, []), (681, .invokevirtual 154, 3, []), (684, .iload 5, 2, []), (686, .if_icmp .eq 5, 3, []), (689, .iconst 0, 1, []), (690, .ireturn, 1, []), (691, .iload 5, 2, []), (693, .ifCond .ne 22, 3, []), (696, .aload_n 3, 1, []), (697, .iconst 0, 1, []), (698, .laload, 1, []), (699, .iload 6, 2, []), (701, .ifCond .eq 7, 3, []), (704, .lconst 1, 1, []), (705, .goto 4, 3, []), (708, .lconst 0, 1, [true, true, true, true, true, false, false])] [(325, 0, jcL_isHome), (242, 0, jcX12_isHome), (181, 0, jcX12_thrown)] [(715, juL_law__715 (jfL_law__715 k23)), (709, juL_law__709 (jfL_law__709 k23))] 44 [] 643 [.ref 1000000, .ref 0, .ref 121, .ref 132, .int a4, w5, w6] [] M = jfL_law__643 k23 a4 M := rfl
theorem jtL_law__643 {k23 : Int32 → sy_M → sy_O} (hk23 : ∀ (w5 : Value) (w6 : Value) (a4 : Int32) (M : sy_M) (r : xe_R × sy_M), k23 a4 M = some r → sy_E (56) qL_law_ 23 [.ref 1000000, .ref 0, .ref 121, .ref 132, .int a4, w5, w6] [] M r) : ∀ (w5 : Value) (w6 : Value) (a4 : Int32) (M : sy_M) (r : xe_R × sy_M), jfL_law__643 k23 a4 M = some r → sy_E (56) qL_law_ 643 [.ref 1000000, .ref 0, .ref 121, .ref 132, .int a4, w5, w6] [] M r := by
  intro w5 w6 a4 M r h
  exact sy_run_by (d := 55) ((jrL_law__643 _ _ _ _ M).trans h) hkL (by decide +kernel) (sy_cs_cons (jeL_isHome.deep (by decide)) (sy_cs_cons (jeX12_isHome.deep (by decide)) (sy_cs_cons (jeX12_thrown.deep (by decide)) sy_cs_nil))) (sy_us_cons (jwL_law__715 (jtL_law__715 hk23)) (sy_us_cons (jwL_law__709 (jtL_law__709 hk23)) sy_us_nil))
def jfL_law__771 (k23 : Int32 → sy_M → sy_O) (a4 : Int32) (M : sy_M) : sy_O :=
  jfL_law__3150 k23 a4 M
set_option maxRecDepth 100000 in
theorem jrL_law__771 (k23 : Int32 → sy_M → sy_O) (w5 : Value) (w6 : Value) (a4 : Int32) (M : sy_M) : sy_run skL qL_law_ [(771, .goto 2379, 3, [true, true, true, true, true, false, false])] [] [(3150, juL_law__3150 (jfL_law__3150 k23))] 2 [] 771 [.ref 1000000, .ref 0, .ref 121, .ref 132, .int a4, w5, w6] [] M = jfL_law__771 k23 a4 M := rfl
theorem jtL_law__771 {k23 : Int32 → sy_M → sy_O} (hk23 : ∀ (w5 : Value) (w6 : Value) (a4 : Int32) (M : sy_M) (r : xe_R × sy_M), k23 a4 M = some r → sy_E (56) qL_law_ 23 [.ref 1000000, .ref 0, .ref 121, .ref 132, .int a4, w5, w6] [] M r) : ∀ (w5 : Value) (w6 : Value) (a4 : Int32) (M : sy_M) (r : xe_R × sy_M), jfL_law__771 k23 a4 M = some r → sy_E (56) qL_law_ 771 [.ref 1000000, .ref 0, .ref 121, .ref 132, .int a4, w5, w6] [] M r := by
  intro w5 w6 a4 M r h
  exact sy_run_by (d := 55) ((jrL_law__771 _ _ _ _ M).trans h) hkL (by decide +kernel) sy_cs_nil (sy_us_cons (jwL_law__3150 (jtL_law__3150 hk23)) sy_us_nil)
def jfL_law__718 (k23 : Int32 → sy_M → sy_O) (a4 : Int32) (M : sy_M) : sy_O :=
  sy_bx (xe_in (a4 + 1) (M 134 0).toNatClampNeg) <|
  sy_bi (jfL_needs (M 1000000 (Int32.toNatClampNeg (a4 + 1))) M) fun v2 M1 =>
  sy_bx (xe_in (a4 + 1) (M1 134 0).toNatClampNeg) <|
  sy_bi (jfX12_needs (M1 1000000 (Int32.toNatClampNeg (a4 + 1))) M1) fun v4 M3 =>
  sy_bi (jfX12_thrown M3) fun v6 M5 =>
  if v6 = v2 then
    if v2 = 0 then
      if (lg_cmp (sy_rl M5 132 0) (Int32.toInt64 v4)) = 0 then
        jfL_law__771 k23 a4 M5
      else
        sy_ri 0 M5
    else
      jfL_law__771 k23 a4 M5
  else
    sy_ri 0 M5
set_option maxRecDepth 100000 in
theorem jrL_law__718 (k23 : Int32 → sy_M → sy_O) (w5 : Value) (w6 : Value) (a4 : Int32) (M : sy_M) : sy_run skL qL_law_ [(718, .aload_n 1, 1, [true, true, true, true, true, false, false]), (719, .aload_n 0, 1, []), (720, .iload 4, 2, []), (722, .iconst 1, 1, []), (723, .iadd, 1, []), (724, .iaload, 1, []), (725, .aload_n 3, 1, []), (726, .invokestatic 174, 3, []), (729, .istore 5, 2, []), (731, .aload_n 2, 1, []), (732, .aload_n 0, 1, []), (733, .iload 4, 2, []), (735, .iconst 1, 1, []), (736, .iadd, 1, []), (737, .iaload, 1, []), (738, .invokevirtual 177, 3, []), (741, .istore 6, 2, []), (743, .aload_n 2, 1, []), (744, .invokevirtual 154, 3, []), (747, .iload 5, 2, []), (749, .if_icmp .eq 5, 3, []), (752, .iconst 0, 1, []), (753, .ireturn, 1, []), (754, .iload 5, 2, []), (756, .ifCond .ne 15, 3, []), (759, .aload_n 3, 1, []), (760, .iconst 0, 1, []), (761, .laload, 1, []), (762, .iload 6, 2, []), (764, .i2l, 1, []), (765, .lcmp, 1, []), (766, .ifCond .eq 5, 3, []), (769, .iconst 0, 1, []), (770, .ireturn, 1, [])] [(326, 0, jcL_needs), (243, 0, jcX12_needs), (181, 0, jcX12_thrown)] [(771, juL_law__771 (jfL_law__771 k23))] 35 [] 718 [.ref 1000000, .ref 0, .ref 121, .ref 132, .int a4, w5, w6] [] M = jfL_law__718 k23 a4 M := rfl
theorem jtL_law__718 {k23 : Int32 → sy_M → sy_O} (hk23 : ∀ (w5 : Value) (w6 : Value) (a4 : Int32) (M : sy_M) (r : xe_R × sy_M), k23 a4 M = some r → sy_E (56) qL_law_ 23 [.ref 1000000, .ref 0, .ref 121, .ref 132, .int a4, w5, w6] [] M r) : ∀ (w5 : Value) (w6 : Value) (a4 : Int32) (M : sy_M) (r : xe_R × sy_M), jfL_law__718 k23 a4 M = some r → sy_E (56) qL_law_ 718 [.ref 1000000, .ref 0, .ref 121, .ref 132, .int a4, w5, w6] [] M r := by
  intro w5 w6 a4 M r h
  exact sy_run_by (d := 55) ((jrL_law__718 _ _ _ _ M).trans h) hkL (by decide +kernel) (sy_cs_cons (jeL_needs.deep (by decide)) (sy_cs_cons (jeX12_needs.deep (by decide)) (sy_cs_cons (jeX12_thrown.deep (by decide)) sy_cs_nil))) (sy_us_cons (jwL_law__771 (jtL_law__771 hk23)) sy_us_nil)
def jfL_law__827 (k23 : Int32 → sy_M → sy_O) (a4 : Int32) (M : sy_M) : sy_O :=
  jfL_law__3150 k23 a4 M
set_option maxRecDepth 100000 in
theorem jrL_law__827 (k23 : Int32 → sy_M → sy_O) (w5 : Value) (w6 : Value) (a4 : Int32) (M : sy_M) : sy_run skL qL_law_ [(827, .goto 2323, 3, [true, true, true, true, true, false, false])] [] [(3150, juL_law__3150 (jfL_law__3150 k23))] 2 [] 827 [.ref 1000000, .ref 0, .ref 121, .ref 132, .int a4, w5, w6] [] M = jfL_law__827 k23 a4 M := rfl
theorem jtL_law__827 {k23 : Int32 → sy_M → sy_O} (hk23 : ∀ (w5 : Value) (w6 : Value) (a4 : Int32) (M : sy_M) (r : xe_R × sy_M), k23 a4 M = some r → sy_E (56) qL_law_ 23 [.ref 1000000, .ref 0, .ref 121, .ref 132, .int a4, w5, w6] [] M r) : ∀ (w5 : Value) (w6 : Value) (a4 : Int32) (M : sy_M) (r : xe_R × sy_M), jfL_law__827 k23 a4 M = some r → sy_E (56) qL_law_ 827 [.ref 1000000, .ref 0, .ref 121, .ref 132, .int a4, w5, w6] [] M r := by
  intro w5 w6 a4 M r h
  exact sy_run_by (d := 55) ((jrL_law__827 _ _ _ _ M).trans h) hkL (by decide +kernel) sy_cs_nil (sy_us_cons (jwL_law__3150 (jtL_law__3150 hk23)) sy_us_nil)
def jfL_law__774 (k23 : Int32 → sy_M → sy_O) (a4 : Int32) (M : sy_M) : sy_O :=
  sy_bx (xe_in (a4 + 1) (M 134 0).toNatClampNeg) <|
  sy_bi (jfL_ticks (M 1000000 (Int32.toNatClampNeg (a4 + 1))) M) fun v2 M1 =>
  sy_bx (xe_in (a4 + 1) (M1 134 0).toNatClampNeg) <|
  sy_bi (jfX12_ticks (M1 1000000 (Int32.toNatClampNeg (a4 + 1))) M1) fun v4 M3 =>
  sy_bi (jfX12_thrown M3) fun v6 M5 =>
  if v6 = v2 then
    if v2 = 0 then
      if (lg_cmp (sy_rl M5 132 0) (Int32.toInt64 v4)) = 0 then
        jfL_law__827 k23 a4 M5
      else
        sy_ri 0 M5
    else
      jfL_law__827 k23 a4 M5
  else
    sy_ri 0 M5
set_option maxRecDepth 100000 in
theorem jrL_law__774 (k23 : Int32 → sy_M → sy_O) (w5 : Value) (w6 : Value) (a4 : Int32) (M : sy_M) : sy_run skL qL_law_ [(774, .aload_n 1, 1, [true, true, true, true, true, false, false]), (775, .aload_n 0, 1, []), (776, .iload 4, 2, []), (778, .iconst 1, 1, []), (779, .iadd, 1, []), (780, .iaload, 1, []), (781, .aload_n 3, 1, []), (782, .invokestatic 178, 3, []), (785, .istore 5, 2, []), (787, .aload_n 2, 1, []), (788, .aload_n 0, 1, []), (789, .iload 4, 2, []), (791, .iconst 1, 1, []), (792, .iadd, 1, []), (793, .iaload, 1, []), (794, .invokevirtual 180, 3, []), (797, .istore 6, 2, []), (799, .aload_n 2, 1, []), (800, .invokevirtual 154, 3, []), (803, .iload 5, 2, []), (805, .if_icmp .eq 5, 3, []), (808, .iconst 0, 1, []), (809, .ireturn, 1, []), (810, .iload 5, 2, []), (812, .ifCond .ne 15, 3, []), (815, .aload_n 3, 1, []), (816, .iconst 0, 1, []), (817, .laload, 1, []), (818, .iload 6, 2, []), (820, .i2l, 1, []), (821, .lcmp, 1, []), (822, .ifCond .eq 5, 3, []), (825, .iconst 0, 1, []), (826, .ireturn, 1, [])] [(327, 0, jcL_ticks), (246, 0, jcX12_ticks), (181, 0, jcX12_thrown)] [(827, juL_law__827 (jfL_law__827 k23))] 35 [] 774 [.ref 1000000, .ref 0, .ref 121, .ref 132, .int a4, w5, w6] [] M = jfL_law__774 k23 a4 M := rfl
theorem jtL_law__774 {k23 : Int32 → sy_M → sy_O} (hk23 : ∀ (w5 : Value) (w6 : Value) (a4 : Int32) (M : sy_M) (r : xe_R × sy_M), k23 a4 M = some r → sy_E (56) qL_law_ 23 [.ref 1000000, .ref 0, .ref 121, .ref 132, .int a4, w5, w6] [] M r) : ∀ (w5 : Value) (w6 : Value) (a4 : Int32) (M : sy_M) (r : xe_R × sy_M), jfL_law__774 k23 a4 M = some r → sy_E (56) qL_law_ 774 [.ref 1000000, .ref 0, .ref 121, .ref 132, .int a4, w5, w6] [] M r := by
  intro w5 w6 a4 M r h
  exact sy_run_by (d := 55) ((jrL_law__774 _ _ _ _ M).trans h) hkL (by decide +kernel) (sy_cs_cons (jeL_ticks.deep (by decide)) (sy_cs_cons (jeX12_ticks.deep (by decide)) (sy_cs_cons (jeX12_thrown.deep (by decide)) sy_cs_nil))) (sy_us_cons (jwL_law__827 (jtL_law__827 hk23)) sy_us_nil)
def jfL_law__883 (k23 : Int32 → sy_M → sy_O) (a4 : Int32) (M : sy_M) : sy_O :=
  jfL_law__3150 k23 a4 M
set_option maxRecDepth 100000 in
theorem jrL_law__883 (k23 : Int32 → sy_M → sy_O) (w5 : Value) (w6 : Value) (a4 : Int32) (M : sy_M) : sy_run skL qL_law_ [(883, .goto 2267, 3, [true, true, true, true, true, false, false])] [] [(3150, juL_law__3150 (jfL_law__3150 k23))] 2 [] 883 [.ref 1000000, .ref 0, .ref 121, .ref 132, .int a4, w5, w6] [] M = jfL_law__883 k23 a4 M := rfl
theorem jtL_law__883 {k23 : Int32 → sy_M → sy_O} (hk23 : ∀ (w5 : Value) (w6 : Value) (a4 : Int32) (M : sy_M) (r : xe_R × sy_M), k23 a4 M = some r → sy_E (56) qL_law_ 23 [.ref 1000000, .ref 0, .ref 121, .ref 132, .int a4, w5, w6] [] M r) : ∀ (w5 : Value) (w6 : Value) (a4 : Int32) (M : sy_M) (r : xe_R × sy_M), jfL_law__883 k23 a4 M = some r → sy_E (56) qL_law_ 883 [.ref 1000000, .ref 0, .ref 121, .ref 132, .int a4, w5, w6] [] M r := by
  intro w5 w6 a4 M r h
  exact sy_run_by (d := 55) ((jrL_law__883 _ _ _ _ M).trans h) hkL (by decide +kernel) sy_cs_nil (sy_us_cons (jwL_law__3150 (jtL_law__3150 hk23)) sy_us_nil)
def jfL_law__830 (k23 : Int32 → sy_M → sy_O) (a4 : Int32) (M : sy_M) : sy_O :=
  sy_bx (xe_in (a4 + 1) (M 134 0).toNatClampNeg) <|
  sy_bi (jfL_put (M 1000000 (Int32.toNatClampNeg (a4 + 1))) M) fun v2 M1 =>
  sy_bx (xe_in (a4 + 1) (M1 134 0).toNatClampNeg) <|
  sy_bi (jfX12_put (M1 1000000 (Int32.toNatClampNeg (a4 + 1))) M1) fun v4 M3 =>
  sy_bi (jfX12_thrown M3) fun v6 M5 =>
  if v6 = v2 then
    if v2 = 0 then
      if (lg_cmp (sy_rl M5 132 0) (Int32.toInt64 v4)) = 0 then
        jfL_law__883 k23 a4 M5
      else
        sy_ri 0 M5
    else
      jfL_law__883 k23 a4 M5
  else
    sy_ri 0 M5
set_option maxRecDepth 100000 in
theorem jrL_law__830 (k23 : Int32 → sy_M → sy_O) (w5 : Value) (w6 : Value) (a4 : Int32) (M : sy_M) : sy_run skL qL_law_ [(830, .aload_n 1, 1, [true, true, true, true, true, false, false]), (831, .aload_n 0, 1, []), (832, .iload 4, 2, []), (834, .iconst 1, 1, []), (835, .iadd, 1, []), (836, .iaload, 1, []), (837, .aload_n 3, 1, []), (838, .invokestatic 181, 3, []), (841, .istore 5, 2, []), (843, .aload_n 2, 1, []), (844, .aload_n 0, 1, []), (845, .iload 4, 2, []), (847, .iconst 1, 1, []), (848, .iadd, 1, []), (849, .iaload, 1, []), (850, .invokevirtual 183, 3, []), (853, .istore 6, 2, []), (855, .aload_n 2, 1, []), (856, .invokevirtual 154, 3, []), (859, .iload 5, 2, []), (861, .if_icmp .eq 5, 3, []), (864, .iconst 0, 1, []), (865, .ireturn, 1, []), (866, .iload 5, 2, []), (868, .ifCond .ne 15, 3, []), (871, .aload_n 3, 1, []), (872, .iconst 0, 1, []), (873, .laload, 1, []), (874, .iload 6, 2, []), (876, .i2l, 1, []), (877, .lcmp, 1, []), (878, .ifCond .eq 5, 3, []), (881, .iconst 0, 1, []), (882, .ireturn, 1, [])] [(328, 0, jcL_put), (247, 0, jcX12_put), (181, 0, jcX12_thrown)] [(883, juL_law__883 (jfL_law__883 k23))] 35 [] 830 [.ref 1000000, .ref 0, .ref 121, .ref 132, .int a4, w5, w6] [] M = jfL_law__830 k23 a4 M := rfl
theorem jtL_law__830 {k23 : Int32 → sy_M → sy_O} (hk23 : ∀ (w5 : Value) (w6 : Value) (a4 : Int32) (M : sy_M) (r : xe_R × sy_M), k23 a4 M = some r → sy_E (56) qL_law_ 23 [.ref 1000000, .ref 0, .ref 121, .ref 132, .int a4, w5, w6] [] M r) : ∀ (w5 : Value) (w6 : Value) (a4 : Int32) (M : sy_M) (r : xe_R × sy_M), jfL_law__830 k23 a4 M = some r → sy_E (56) qL_law_ 830 [.ref 1000000, .ref 0, .ref 121, .ref 132, .int a4, w5, w6] [] M r := by
  intro w5 w6 a4 M r h
  exact sy_run_by (d := 55) ((jrL_law__830 _ _ _ _ M).trans h) hkL (by decide +kernel) (sy_cs_cons (jeL_put.deep (by decide)) (sy_cs_cons (jeX12_put.deep (by decide)) (sy_cs_cons (jeX12_thrown.deep (by decide)) sy_cs_nil))) (sy_us_cons (jwL_law__883 (jtL_law__883 hk23)) sy_us_nil)
def jfL_law__951 (k23 : Int32 → sy_M → sy_O) (a4 : Int32) (M : sy_M) : sy_O :=
  jfL_law__3150 k23 a4 M
set_option maxRecDepth 100000 in
theorem jrL_law__951 (k23 : Int32 → sy_M → sy_O) (w5 : Value) (w6 : Value) (a4 : Int32) (M : sy_M) : sy_run skL qL_law_ [(951, .goto 2199, 3, [true, true, true, true, true, false, false])] [] [(3150, juL_law__3150 (jfL_law__3150 k23))] 2 [] 951 [.ref 1000000, .ref 0, .ref 121, .ref 132, .int a4, w5, w6] [] M = jfL_law__951 k23 a4 M := rfl
theorem jtL_law__951 {k23 : Int32 → sy_M → sy_O} (hk23 : ∀ (w5 : Value) (w6 : Value) (a4 : Int32) (M : sy_M) (r : xe_R × sy_M), k23 a4 M = some r → sy_E (56) qL_law_ 23 [.ref 1000000, .ref 0, .ref 121, .ref 132, .int a4, w5, w6] [] M r) : ∀ (w5 : Value) (w6 : Value) (a4 : Int32) (M : sy_M) (r : xe_R × sy_M), jfL_law__951 k23 a4 M = some r → sy_E (56) qL_law_ 951 [.ref 1000000, .ref 0, .ref 121, .ref 132, .int a4, w5, w6] [] M r := by
  intro w5 w6 a4 M r h
  exact sy_run_by (d := 55) ((jrL_law__951 _ _ _ _ M).trans h) hkL (by decide +kernel) sy_cs_nil (sy_us_cons (jwL_law__3150 (jtL_law__3150 hk23)) sy_us_nil)
def jfL_law__886 (k23 : Int32 → sy_M → sy_O) (a4 : Int32) (M : sy_M) : sy_O :=
  sy_bx (xe_in (a4 + 1) (M 134 0).toNatClampNeg) <|
  sy_bx (xe_in (a4 + 2) (M 134 0).toNatClampNeg) <|
  sy_bi (jfL_lend (M 1000000 (Int32.toNatClampNeg (a4 + 1))) (M 1000000 (Int32.toNatClampNeg (a4 + 2))) M) fun v2 M1 =>
  sy_bx (xe_in (a4 + 1) (M1 134 0).toNatClampNeg) <|
  sy_bx (xe_in (a4 + 2) (M1 134 0).toNatClampNeg) <|
  sy_bi (jfX12_lend (M1 1000000 (Int32.toNatClampNeg (a4 + 1))) (M1 1000000 (Int32.toNatClampNeg (a4 + 2))) M1) fun v4 M3 =>
  sy_bi (jfX12_thrown M3) fun v6 M5 =>
  if v6 = v2 then
    if v2 = 0 then
      if (lg_cmp (sy_rl M5 132 0) (Int32.toInt64 v4)) = 0 then
        jfL_law__951 k23 a4 M5
      else
        sy_ri 0 M5
    else
      jfL_law__951 k23 a4 M5
  else
    sy_ri 0 M5
set_option maxRecDepth 100000 in
theorem jrL_law__886 (k23 : Int32 → sy_M → sy_O) (w5 : Value) (w6 : Value) (a4 : Int32) (M : sy_M) : sy_run skL qL_law_ [(886, .aload_n 1, 1, [true, true, true, true, true, false, false]), (887, .aload_n 0, 1, []), (888, .iload 4, 2, []), (890, .iconst 1, 1, []), (891, .iadd, 1, []), (892, .iaload, 1, []), (893, .aload_n 0, 1, []), (894, .iload 4, 2, []), (896, .iconst 2, 1, []), (897, .iadd, 1, []), (898, .iaload, 1, []), (899, .aload_n 3, 1, []), (900, .invokestatic 184, 3, []), (903, .istore 5, 2, []), (905, .aload_n 2, 1, []), (906, .aload_n 0, 1, []), (907, .iload 4, 2, []), (909, .iconst 1, 1, []), (910, .iadd, 1, []), (911, .iaload, 1, []), (912, .aload_n 0, 1, []), (913, .iload 4, 2, []), (915, .iconst 2, 1, []), (916, .iadd, 1, []), (917, .iaload, 1, []), (918, .invokevirtual 186, 3, []), (921, .istore 6, 2, []), (923, .aload_n 2, 1, []), (924, .invokevirtual 154, 3, []), (927, .iload 5, 2, []), (929, .if_icmp .eq 5, 3, []), (932, .iconst 0, 1, []), (933, .ireturn, 1, []), (934, .iload 5, 2, []), (936, .ifCond .ne 15, 3, []), (939, .aload_n 3, 1, []), (940, .iconst 0, 1, []), (941, .laload, 1, []), (942, .iload 6, 2, []), (944, .i2l, 1, []), (945, .lcmp, 1, []), (946, .ifCond .eq 5, 3, []), (949, .iconst 0, 1, []), (950, .ireturn, 1, [])] [(329, 0, jcL_lend), (248, 0, jcX12_lend), (181, 0, jcX12_thrown)] [(951, juL_law__951 (jfL_law__951 k23))] 45 [] 886 [.ref 1000000, .ref 0, .ref 121, .ref 132, .int a4, w5, w6] [] M = jfL_law__886 k23 a4 M := rfl
theorem jtL_law__886 {k23 : Int32 → sy_M → sy_O} (hk23 : ∀ (w5 : Value) (w6 : Value) (a4 : Int32) (M : sy_M) (r : xe_R × sy_M), k23 a4 M = some r → sy_E (56) qL_law_ 23 [.ref 1000000, .ref 0, .ref 121, .ref 132, .int a4, w5, w6] [] M r) : ∀ (w5 : Value) (w6 : Value) (a4 : Int32) (M : sy_M) (r : xe_R × sy_M), jfL_law__886 k23 a4 M = some r → sy_E (56) qL_law_ 886 [.ref 1000000, .ref 0, .ref 121, .ref 132, .int a4, w5, w6] [] M r := by
  intro w5 w6 a4 M r h
  exact sy_run_by (d := 55) ((jrL_law__886 _ _ _ _ M).trans h) hkL (by decide +kernel) (sy_cs_cons (jeL_lend.deep (by decide)) (sy_cs_cons (jeX12_lend.deep (by decide)) (sy_cs_cons (jeX12_thrown.deep (by decide)) sy_cs_nil))) (sy_us_cons (jwL_law__951 (jtL_law__951 hk23)) sy_us_nil)
def jfL_law__1019 (k23 : Int32 → sy_M → sy_O) (a4 : Int32) (M : sy_M) : sy_O :=
  jfL_law__3150 k23 a4 M
set_option maxRecDepth 100000 in
theorem jrL_law__1019 (k23 : Int32 → sy_M → sy_O) (w5 : Value) (w6 : Value) (a4 : Int32) (M : sy_M) : sy_run skL qL_law_ [(1019, .goto 2131, 3, [true, true, true, true, true, false, false])] [] [(3150, juL_law__3150 (jfL_law__3150 k23))] 2 [] 1019 [.ref 1000000, .ref 0, .ref 121, .ref 132, .int a4, w5, w6] [] M = jfL_law__1019 k23 a4 M := rfl
theorem jtL_law__1019 {k23 : Int32 → sy_M → sy_O} (hk23 : ∀ (w5 : Value) (w6 : Value) (a4 : Int32) (M : sy_M) (r : xe_R × sy_M), k23 a4 M = some r → sy_E (56) qL_law_ 23 [.ref 1000000, .ref 0, .ref 121, .ref 132, .int a4, w5, w6] [] M r) : ∀ (w5 : Value) (w6 : Value) (a4 : Int32) (M : sy_M) (r : xe_R × sy_M), jfL_law__1019 k23 a4 M = some r → sy_E (56) qL_law_ 1019 [.ref 1000000, .ref 0, .ref 121, .ref 132, .int a4, w5, w6] [] M r := by
  intro w5 w6 a4 M r h
  exact sy_run_by (d := 55) ((jrL_law__1019 _ _ _ _ M).trans h) hkL (by decide +kernel) sy_cs_nil (sy_us_cons (jwL_law__3150 (jtL_law__3150 hk23)) sy_us_nil)
def jfL_law__954 (k23 : Int32 → sy_M → sy_O) (a4 : Int32) (M : sy_M) : sy_O :=
  sy_bx (xe_in (a4 + 1) (M 134 0).toNatClampNeg) <|
  sy_bx (xe_in (a4 + 2) (M 134 0).toNatClampNeg) <|
  sy_bi (jfL_repay (M 1000000 (Int32.toNatClampNeg (a4 + 1))) (M 1000000 (Int32.toNatClampNeg (a4 + 2))) M) fun v2 M1 =>
  sy_bx (xe_in (a4 + 1) (M1 134 0).toNatClampNeg) <|
  sy_bx (xe_in (a4 + 2) (M1 134 0).toNatClampNeg) <|
  sy_bi (jfX12_repay (M1 1000000 (Int32.toNatClampNeg (a4 + 1))) (M1 1000000 (Int32.toNatClampNeg (a4 + 2))) M1) fun v4 M3 =>
  sy_bi (jfX12_thrown M3) fun v6 M5 =>
  if v6 = v2 then
    if v2 = 0 then
      if (lg_cmp (sy_rl M5 132 0) (Int32.toInt64 v4)) = 0 then
        jfL_law__1019 k23 a4 M5
      else
        sy_ri 0 M5
    else
      jfL_law__1019 k23 a4 M5
  else
    sy_ri 0 M5
set_option maxRecDepth 100000 in
theorem jrL_law__954 (k23 : Int32 → sy_M → sy_O) (w5 : Value) (w6 : Value) (a4 : Int32) (M : sy_M) : sy_run skL qL_law_ [(954, .aload_n 1, 1, [true, true, true, true, true, false, false]), (955, .aload_n 0, 1, []), (956, .iload 4, 2, []), (958, .iconst 1, 1, []), (959, .iadd, 1, []), (960, .iaload, 1, []), (961, .aload_n 0, 1, []), (962, .iload 4, 2, []), (964, .iconst 2, 1, []), (965, .iadd, 1, []), (966, .iaload, 1, []), (967, .aload_n 3, 1, []), (968, .invokestatic 187, 3, []), (971, .istore 5, 2, []), (973, .aload_n 2, 1, []), (974, .aload_n 0, 1, []), (975, .iload 4, 2, []), (977, .iconst 1, 1, []), (978, .iadd, 1, []), (979, .iaload, 1, []), (980, .aload_n 0, 1, []), (981, .iload 4, 2, []), (983, .iconst 2, 1, []), (984, .iadd, 1, []), (985, .iaload, 1, []), (986, .invokevirtual 189, 3, []), (989, .istore 6, 2, []), (991, .aload_n 2, 1, []), (992, .invokevirtual 154, 3, []), (995, .iload 5, 2, []), (997, .if_icmp .eq 5, 3, []), (1000, .iconst 0, 1, []), (1001, .ireturn, 1, []), (1002, .iload 5, 2, []), (1004, .ifCond .ne 15, 3, []), (1007, .aload_n 3, 1, []), (1008, .iconst 0, 1, []), (1009, .laload, 1, []), (1010, .iload 6, 2, []), (1012, .i2l, 1, []), (1013, .lcmp, 1, []), (1014, .ifCond .eq 5, 3, []), (1017, .iconst 0, 1, []), (1018, .ireturn, 1, [])] [(330, 0, jcL_repay), (249, 0, jcX12_repay), (181, 0, jcX12_thrown)] [(1019, juL_law__1019 (jfL_law__1019 k23))] 45 [] 954 [.ref 1000000, .ref 0, .ref 121, .ref 132, .int a4, w5, w6] [] M = jfL_law__954 k23 a4 M := rfl
theorem jtL_law__954 {k23 : Int32 → sy_M → sy_O} (hk23 : ∀ (w5 : Value) (w6 : Value) (a4 : Int32) (M : sy_M) (r : xe_R × sy_M), k23 a4 M = some r → sy_E (56) qL_law_ 23 [.ref 1000000, .ref 0, .ref 121, .ref 132, .int a4, w5, w6] [] M r) : ∀ (w5 : Value) (w6 : Value) (a4 : Int32) (M : sy_M) (r : xe_R × sy_M), jfL_law__954 k23 a4 M = some r → sy_E (56) qL_law_ 954 [.ref 1000000, .ref 0, .ref 121, .ref 132, .int a4, w5, w6] [] M r := by
  intro w5 w6 a4 M r h
  exact sy_run_by (d := 55) ((jrL_law__954 _ _ _ _ M).trans h) hkL (by decide +kernel) (sy_cs_cons (jeL_repay.deep (by decide)) (sy_cs_cons (jeX12_repay.deep (by decide)) (sy_cs_cons (jeX12_thrown.deep (by decide)) sy_cs_nil))) (sy_us_cons (jwL_law__1019 (jtL_law__1019 hk23)) sy_us_nil)
def jfL_law__1087 (k23 : Int32 → sy_M → sy_O) (a4 : Int32) (M : sy_M) : sy_O :=
  jfL_law__3150 k23 a4 M
set_option maxRecDepth 100000 in
theorem jrL_law__1087 (k23 : Int32 → sy_M → sy_O) (w5 : Value) (w6 : Value) (a4 : Int32) (M : sy_M) : sy_run skL qL_law_ [(1087, .goto 2063, 3, [true, true, true, true, true, false, false])] [] [(3150, juL_law__3150 (jfL_law__3150 k23))] 2 [] 1087 [.ref 1000000, .ref 0, .ref 121, .ref 132, .int a4, w5, w6] [] M = jfL_law__1087 k23 a4 M := rfl
theorem jtL_law__1087 {k23 : Int32 → sy_M → sy_O} (hk23 : ∀ (w5 : Value) (w6 : Value) (a4 : Int32) (M : sy_M) (r : xe_R × sy_M), k23 a4 M = some r → sy_E (56) qL_law_ 23 [.ref 1000000, .ref 0, .ref 121, .ref 132, .int a4, w5, w6] [] M r) : ∀ (w5 : Value) (w6 : Value) (a4 : Int32) (M : sy_M) (r : xe_R × sy_M), jfL_law__1087 k23 a4 M = some r → sy_E (56) qL_law_ 1087 [.ref 1000000, .ref 0, .ref 121, .ref 132, .int a4, w5, w6] [] M r := by
  intro w5 w6 a4 M r h
  exact sy_run_by (d := 55) ((jrL_law__1087 _ _ _ _ M).trans h) hkL (by decide +kernel) sy_cs_nil (sy_us_cons (jwL_law__3150 (jtL_law__3150 hk23)) sy_us_nil)
def jfL_law__1022 (k23 : Int32 → sy_M → sy_O) (a4 : Int32) (M : sy_M) : sy_O :=
  sy_bx (xe_in (a4 + 1) (M 134 0).toNatClampNeg) <|
  sy_bx (xe_in (a4 + 2) (M 134 0).toNatClampNeg) <|
  sy_bi (jfL_waits (M 1000000 (Int32.toNatClampNeg (a4 + 1))) (M 1000000 (Int32.toNatClampNeg (a4 + 2))) M) fun v2 M1 =>
  sy_bx (xe_in (a4 + 1) (M1 134 0).toNatClampNeg) <|
  sy_bx (xe_in (a4 + 2) (M1 134 0).toNatClampNeg) <|
  sy_bi (jfX12_waits (M1 1000000 (Int32.toNatClampNeg (a4 + 1))) (M1 1000000 (Int32.toNatClampNeg (a4 + 2))) M1) fun v4 M3 =>
  sy_bi (jfX12_thrown M3) fun v6 M5 =>
  if v6 = v2 then
    if v2 = 0 then
      if (lg_cmp (sy_rl M5 132 0) (Int32.toInt64 v4)) = 0 then
        jfL_law__1087 k23 a4 M5
      else
        sy_ri 0 M5
    else
      jfL_law__1087 k23 a4 M5
  else
    sy_ri 0 M5
set_option maxRecDepth 100000 in
theorem jrL_law__1022 (k23 : Int32 → sy_M → sy_O) (w5 : Value) (w6 : Value) (a4 : Int32) (M : sy_M) : sy_run skL qL_law_ [(1022, .aload_n 1, 1, [true, true, true, true, true, false, false]), (1023, .aload_n 0, 1, []), (1024, .iload 4, 2, []), (1026, .iconst 1, 1, []), (1027, .iadd, 1, []), (1028, .iaload, 1, []), (1029, .aload_n 0, 1, []), (1030, .iload 4, 2, []), (1032, .iconst 2, 1, []), (1033, .iadd, 1, []), (1034, .iaload, 1, []), (1035, .aload_n 3, 1, []), (1036, .invokestatic 190, 3, []), (1039, .istore 5, 2, []), (1041, .aload_n 2, 1, []), (1042, .aload_n 0, 1, []), (1043, .iload 4, 2, []), (1045, .iconst 1, 1, []), (1046, .iadd, 1, []), (1047, .iaload, 1, []), (1048, .aload_n 0, 1, []), (1049, .iload 4, 2, []), (1051, .iconst 2, 1, []), (1052, .iadd, 1, []), (1053, .iaload, 1, []), (1054, .invokevirtual 192, 3, []), (1057, .istore 6, 2, []), (1059, .aload_n 2, 1, []), (1060, .invokevirtual 154, 3, []), (1063, .iload 5, 2, []), (1065, .if_icmp .eq 5, 3, []), (1068, .iconst 0, 1, []), (1069, .ireturn, 1, []), (1070, .iload 5, 2, []), (1072, .ifCond .ne 15, 3, []), (1075, .aload_n 3, 1, []), (1076, .iconst 0, 1, []), (1077, .laload, 1, []), (1078, .iload 6, 2, []), (1080, .i2l, 1, []), (1081, .lcmp, 1, []), (1082, .ifCond .eq 5, 3, []), (1085, .iconst 0, 1, []), (1086, .ireturn, 1, [])] [(331, 0, jcL_waits), (250, 0, jcX12_waits), (181, 0, jcX12_thrown)] [(1087, juL_law__1087 (jfL_law__1087 k23))] 45 [] 1022 [.ref 1000000, .ref 0, .ref 121, .ref 132, .int a4, w5, w6] [] M = jfL_law__1022 k23 a4 M := rfl
theorem jtL_law__1022 {k23 : Int32 → sy_M → sy_O} (hk23 : ∀ (w5 : Value) (w6 : Value) (a4 : Int32) (M : sy_M) (r : xe_R × sy_M), k23 a4 M = some r → sy_E (56) qL_law_ 23 [.ref 1000000, .ref 0, .ref 121, .ref 132, .int a4, w5, w6] [] M r) : ∀ (w5 : Value) (w6 : Value) (a4 : Int32) (M : sy_M) (r : xe_R × sy_M), jfL_law__1022 k23 a4 M = some r → sy_E (56) qL_law_ 1022 [.ref 1000000, .ref 0, .ref 121, .ref 132, .int a4, w5, w6] [] M r := by
  intro w5 w6 a4 M r h
  exact sy_run_by (d := 55) ((jrL_law__1022 _ _ _ _ M).trans h) hkL (by decide +kernel) (sy_cs_cons (jeL_waits.deep (by decide)) (sy_cs_cons (jeX12_waits.deep (by decide)) (sy_cs_cons (jeX12_thrown.deep (by decide)) sy_cs_nil))) (sy_us_cons (jwL_law__1087 (jtL_law__1087 hk23)) sy_us_nil)
def jfL_law__1143 (k23 : Int32 → sy_M → sy_O) (a4 : Int32) (M : sy_M) : sy_O :=
  jfL_law__3150 k23 a4 M
set_option maxRecDepth 100000 in
theorem jrL_law__1143 (k23 : Int32 → sy_M → sy_O) (w5 : Value) (w6 : Value) (a4 : Int32) (M : sy_M) : sy_run skL qL_law_ [(1143, .goto 2007, 3, [true, true, true, true, true, false, false])] [] [(3150, juL_law__3150 (jfL_law__3150 k23))] 2 [] 1143 [.ref 1000000, .ref 0, .ref 121, .ref 132, .int a4, w5, w6] [] M = jfL_law__1143 k23 a4 M := rfl
theorem jtL_law__1143 {k23 : Int32 → sy_M → sy_O} (hk23 : ∀ (w5 : Value) (w6 : Value) (a4 : Int32) (M : sy_M) (r : xe_R × sy_M), k23 a4 M = some r → sy_E (56) qL_law_ 23 [.ref 1000000, .ref 0, .ref 121, .ref 132, .int a4, w5, w6] [] M r) : ∀ (w5 : Value) (w6 : Value) (a4 : Int32) (M : sy_M) (r : xe_R × sy_M), jfL_law__1143 k23 a4 M = some r → sy_E (56) qL_law_ 1143 [.ref 1000000, .ref 0, .ref 121, .ref 132, .int a4, w5, w6] [] M r := by
  intro w5 w6 a4 M r h
  exact sy_run_by (d := 55) ((jrL_law__1143 _ _ _ _ M).trans h) hkL (by decide +kernel) sy_cs_nil (sy_us_cons (jwL_law__3150 (jtL_law__3150 hk23)) sy_us_nil)
def jfL_law__1090 (k23 : Int32 → sy_M → sy_O) (a4 : Int32) (M : sy_M) : sy_O :=
  sy_bx (xe_in (a4 + 1) (M 134 0).toNatClampNeg) <|
  sy_bi (jfL_price (M 1000000 (Int32.toNatClampNeg (a4 + 1))) M) fun v2 M1 =>
  sy_bx (xe_in (a4 + 1) (M1 134 0).toNatClampNeg) <|
  sy_bi (jfX12_price (M1 1000000 (Int32.toNatClampNeg (a4 + 1))) M1) fun v4 M3 =>
  sy_bi (jfX12_thrown M3) fun v6 M5 =>
  if v6 = v2 then
    if v2 = 0 then
      if (lg_cmp (sy_rl M5 132 0) (Int32.toInt64 v4)) = 0 then
        jfL_law__1143 k23 a4 M5
      else
        sy_ri 0 M5
    else
      jfL_law__1143 k23 a4 M5
  else
    sy_ri 0 M5
set_option maxRecDepth 100000 in
theorem jrL_law__1090 (k23 : Int32 → sy_M → sy_O) (w5 : Value) (w6 : Value) (a4 : Int32) (M : sy_M) : sy_run skL qL_law_ [(1090, .aload_n 1, 1, [true, true, true, true, true, false, false]), (1091, .aload_n 0, 1, []), (1092, .iload 4, 2, []), (1094, .iconst 1, 1, []), (1095, .iadd, 1, []), (1096, .iaload, 1, []), (1097, .aload_n 3, 1, []), (1098, .invokestatic 193, 3, []), (1101, .istore 5, 2, []), (1103, .aload_n 2, 1, []), (1104, .aload_n 0, 1, []), (1105, .iload 4, 2, []), (1107, .iconst 1, 1, []), (1108, .iadd, 1, []), (1109, .iaload, 1, []), (1110, .invokevirtual 195, 3, []), (1113, .istore 6, 2, []), (1115, .aload_n 2, 1, []), (1116, .invokevirtual 154, 3, []), (1119, .iload 5, 2, []), (1121, .if_icmp .eq 5, 3, []), (1124, .iconst 0, 1, []), (1125, .ireturn, 1, []), (1126, .iload 5, 2, []), (1128, .ifCond .ne 15, 3, []), (1131, .aload_n 3, 1, []), (1132, .iconst 0, 1, []), (1133, .laload, 1, []), (1134, .iload 6, 2, []), (1136, .i2l, 1, []), (1137, .lcmp, 1, []), (1138, .ifCond .eq 5, 3, []), (1141, .iconst 0, 1, []), (1142, .ireturn, 1, [])] [(332, 0, jcL_price), (251, 0, jcX12_price), (181, 0, jcX12_thrown)] [(1143, juL_law__1143 (jfL_law__1143 k23))] 35 [] 1090 [.ref 1000000, .ref 0, .ref 121, .ref 132, .int a4, w5, w6] [] M = jfL_law__1090 k23 a4 M := rfl
theorem jtL_law__1090 {k23 : Int32 → sy_M → sy_O} (hk23 : ∀ (w5 : Value) (w6 : Value) (a4 : Int32) (M : sy_M) (r : xe_R × sy_M), k23 a4 M = some r → sy_E (56) qL_law_ 23 [.ref 1000000, .ref 0, .ref 121, .ref 132, .int a4, w5, w6] [] M r) : ∀ (w5 : Value) (w6 : Value) (a4 : Int32) (M : sy_M) (r : xe_R × sy_M), jfL_law__1090 k23 a4 M = some r → sy_E (56) qL_law_ 1090 [.ref 1000000, .ref 0, .ref 121, .ref 132, .int a4, w5, w6] [] M r := by
  intro w5 w6 a4 M r h
  exact sy_run_by (d := 55) ((jrL_law__1090 _ _ _ _ M).trans h) hkL (by decide +kernel) (sy_cs_cons (jeL_price.deep (by decide)) (sy_cs_cons (jeX12_price.deep (by decide)) (sy_cs_cons (jeX12_thrown.deep (by decide)) sy_cs_nil))) (sy_us_cons (jwL_law__1143 (jtL_law__1143 hk23)) sy_us_nil)
end
