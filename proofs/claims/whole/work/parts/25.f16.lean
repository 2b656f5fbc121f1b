/-! ===== functions of the methods (16); written by wip/whole/run_f.py ===== -/
noncomputable section
def jfL_law__1211 (k23 : Int32 → sy_M → sy_O) (a4 : Int32) (M : sy_M) : sy_O :=
  jfL_law__3150 k23 a4 M
set_option maxRecDepth 100000 in
theorem jrL_law__1211 (k23 : Int32 → sy_M → sy_O) (w5 : Value) (w6 : Value) (a4 : Int32) (M : sy_M) : sy_run skL qL_law_ [(1211, .goto 1939, 3, [true, true, true, true, true, false, false])] [] [(3150, juL_law__3150 (jfL_law__3150 k23))] 2 [] 1211 [.ref 1000000, .ref 0, .ref 121, .ref 132, .int a4, w5, w6] [] M = jfL_law__1211 k23 a4 M := rfl
theorem jtL_law__1211 {k23 : Int32 → sy_M → sy_O} (hk23 : ∀ (w5 : Value) (w6 : Value) (a4 : Int32) (M : sy_M) (r : xe_R × sy_M), k23 a4 M = some r → sy_E (56) qL_law_ 23 [.ref 1000000, .ref 0, .ref 121, .ref 132, .int a4, w5, w6] [] M r) : ∀ (w5 : Value) (w6 : Value) (a4 : Int32) (M : sy_M) (r : xe_R × sy_M), jfL_law__1211 k23 a4 M = some r → sy_E (56) qL_law_ 1211 [.ref 1000000, .ref 0, .ref 121, .ref 132, .int a4, w5, w6] [] M r := by
  intro w5 w6 a4 M r h
  exact sy_run_by (d := 55) ((jrL_law__1211 _ _ _ _ M).trans h) hkL (by decide +kernel) sy_cs_nil (sy_us_cons (jwL_law__3150 (jtL_law__3150 hk23)) sy_us_nil)
def jfL_law__1146 (k23 : Int32 → sy_M → sy_O) (a4 : Int32) (M : sy_M) : sy_O :=
  sy_bx (xe_in (a4 + 1) (M 134 0).toNatClampNeg) <|
  sy_bx (xe_in (a4 + 2) (M 134 0).toNatClampNeg) <|
  sy_bi (jfL_change (M 1000000 (Int32.toNatClampNeg (a4 + 1))) (M 1000000 (Int32.toNatClampNeg (a4 + 2))) M) fun v2 M1 =>
  sy_bx (xe_in (a4 + 1) (M1 134 0).toNatClampNeg) <|
  sy_bx (xe_in (a4 + 2) (M1 134 0).toNatClampNeg) <|
  sy_bi (jfX12_change (M1 1000000 (Int32.toNatClampNeg (a4 + 1))) (M1 1000000 (Int32.toNatClampNeg (a4 + 2))) M1) fun v4 M3 =>
  sy_bi (jfX12_thrown M3) fun v6 M5 =>
  if v6 = v2 then
    if v2 = 0 then
      if (lg_cmp (sy_rl M5 132 0) (Int32.toInt64 v4)) = 0 then
        jfL_law__1211 k23 a4 M5
      else
        sy_ri 0 M5
    else
      jfL_law__1211 k23 a4 M5
  else
    sy_ri 0 M5
set_option maxRecDepth 100000 in
theorem jrL_law__1146 (k23 : Int32 → sy_M → sy_O) (w5 : Value) (w6 : Value) (a4 : Int32) (M : sy_M) : sy_run skL qL_law_ [(1146, .aload_n 1, 1, [true, true, true, true, true, false, false]), (1147, .aload_n 0, 1, []), (1148, .iload 4, 2, []), (1150, .iconst 1, 1, []), (1151, .iadd, 1, []), (1152, .iaload, 1, []), (1153, .aload_n 0, 1, []), (1154, .iload 4, 2, []), (1156, .iconst 2, 1, []), (1157, .iadd, 1, []), (1158, .iaload, 1, []), (1159, .aload_n 3, 1, []), (1160, .invokestatic 196, 3, []), (1163, .istore 5, 2, []), (1165, .aload_n 2, 1, []), (1166, .aload_n 0, 1, []), (1167, .iload 4, 2, []), (1169, .iconst 1, 1, []), (1170, .iadd, 1, []), (1171, .iaload, 1, []), (1172, .aload_n 0, 1, []), (1173, .iload 4, 2, []), (1175, .iconst 2, 1, []), (1176, .iadd, 1, []), (1177, .iaload, 1, []), (1178, .invokevirtual 198, 3, []), (1181, .istore 6, 2, []), (1183, .aload_n 2, 1, []), (1184, .invokevirtual 154, 3, []), (1187, .iload 5, 2, []), (1189, .if_icmp .eq 5, 3, []), (1192, .iconst 0, 1, []), (1193, .ireturn, 1, []), (1194, .iload 5, 2, []), (1196, .ifCond .ne 15, 3, []), (1199, .aload_n 3, 1, []), (1200, .iconst 0, 1, []), (1201, .laload, 1, []), (1202, .iload 6, 2, []), (1204, .i2l, 1, []), (1205, .lcmp, 1, []), (1206, .ifCond .eq 5, 3, []), (1209, .iconst 0, 1, []), (1210, .ireturn, 1, [])] [(333, 0, jcL_change), (253, 0, jcX12_change), (181, 0, jcX12_thrown)] [(1211, juL_law__1211 (jfL_law__1211 k23))] 45 [] 1146 [.ref 1000000, .ref 0, .ref 121, .ref 132, .int a4, w5, w6] [] M = jfL_law__1146 k23 a4 M := rfl
theorem jtL_law__1146 {k23 : Int32 → sy_M → sy_O} (hk23 : ∀ (w5 : Value) (w6 : Value) (a4 : Int32) (M : sy_M) (r : xe_R × sy_M), k23 a4 M = some r → sy_E (56) qL_law_ 23 [.ref 1000000, .ref 0, .ref 121, .ref 132, .int a4, w5, w6] [] M r) : ∀ (w5 : Value) (w6 : Value) (a4 : Int32) (M : sy_M) (r : xe_R × sy_M), jfL_law__1146 k23 a4 M = some r → sy_E (56) qL_law_ 1146 [.ref 1000000, .ref 0, .ref 121, .ref 132, .int a4, w5, w6] [] M r := by
  intro w5 w6 a4 M r h
  exact sy_run_by (d := 55) ((jrL_law__1146 _ _ _ _ M).trans h) hkL (by decide +kernel) (sy_cs_cons (jeL_change.deep (by decide)) (sy_cs_cons (jeX12_change.deep (by decide)) (sy_cs_cons (jeX12_thrown.deep (by decide)) sy_cs_nil))) (sy_us_cons (jwL_law__1211 (jtL_law__1211 hk23)) sy_us_nil)
def jfL_law__1291 (k23 : Int32 → sy_M → sy_O) (a4 : Int32) (M : sy_M) : sy_O :=
  jfL_law__3150 k23 a4 M
set_option maxRecDepth 100000 in
theorem jrL_law__1291 (k23 : Int32 → sy_M → sy_O) (w5 : Value) (w6 : Value) (a4 : Int32) (M : sy_M) : sy_run skL qL_law_ [(1291, .goto 1859, 3, [true, true, true, true, true, false, false])] [] [(3150, juL_law__3150 (jfL_law__3150 k23))] 2 [] 1291 [.ref 1000000, .ref 0, .ref 121, .ref 132, .int a4, w5, w6] [] M = jfL_law__1291 k23 a4 M := rfl
theorem jtL_law__1291 {k23 : Int32 → sy_M → sy_O} (hk23 : ∀ (w5 : Value) (w6 : Value) (a4 : Int32) (M : sy_M) (r : xe_R × sy_M), k23 a4 M = some r → sy_E (56) qL_law_ 23 [.ref 1000000, .ref 0, .ref 121, .ref 132, .int a4, w5, w6] [] M r) : ∀ (w5 : Value) (w6 : Value) (a4 : Int32) (M : sy_M) (r : xe_R × sy_M), jfL_law__1291 k23 a4 M = some r → sy_E (56) qL_law_ 1291 [.ref 1000000, .ref 0, .ref 121, .ref 132, .int a4, w5, w6] [] M r := by
  intro w5 w6 a4 M r h
  exact sy_run_by (d := 55) ((jrL_law__1291 _ _ _ _ M).trans h) hkL (by decide +kernel) sy_cs_nil (sy_us_cons (jwL_law__3150 (jtL_law__3150 hk23)) sy_us_nil)
def jfL_law__1263 (k23 : Int32 → sy_M → sy_O) (a4 : Int32) (a5 : Int32) (a6 : Int32) (M : sy_M) : sy_O :=
  sy_bi (jfX12_thrown M) fun v2 M1 =>
  if v2 = a5 then
    if a5 = 0 then
      if (lg_cmp (sy_rl M1 132 0) (Int32.toInt64 a6)) = 0 then
        jfL_law__1291 k23 a4 M1
      else
        sy_ri 0 M1
    else
      jfL_law__1291 k23 a4 M1
  else
    sy_ri 0 M1
set_option maxRecDepth 100000 in
theorem jrL_law__1263 (k23 : Int32 → sy_M → sy_O) (a4 : Int32) (a5 : Int32) (a6 : Int32) (M : sy_M) : sy_run skL qL_law_ [(1263, .aload_n 2, 1, []), (1264, .invokevirtual 154, 3, []), (1267, .iload 5, 2, []), (1269, .if_icmp .eq 5, 3, []), (1272, .iconst 0, 1, []), (1273, .ireturn, 1, []), (1274, .iload 5, 2, []), (1276, .ifCond .ne 15, 3, []), (1279, .aload_n 3, 1, []), (1280, .iconst 0, 1, []), (1281, .laload, 1, []), (1282, .iload 6, 2, []), (1284, .i2l, 1, []), (1285, .lcmp, 1, []), (1286, .ifCond .eq 5, 3, []), (1289, .iconst 0, 1, []), (1290, .ireturn, 1, [])] [(181, 0, jcX12_thrown)] [(1291, juL_law__1291 (jfL_law__1291 k23))] 18 [] 1263 [.ref 1000000, .ref 0, .ref 121, .ref 132, .int a4, .int a5, .int a6] [] M = jfL_law__1263 k23 a4 a5 a6 M := rfl
theorem jtL_law__1263 {k23 : Int32 → sy_M → sy_O} (hk23 : ∀ (w5 : Value) (w6 : Value) (a4 : Int32) (M : sy_M) (r : xe_R × sy_M), k23 a4 M = some r → sy_E (56) qL_law_ 23 [.ref 1000000, .ref 0, .ref 121, .ref 132, .int a4, w5, w6] [] M r) : ∀ (a4 : Int32) (a5 : Int32) (a6 : Int32) (M : sy_M) (r : xe_R × sy_M), jfL_law__1263 k23 a4 a5 a6 M = some r → sy_E (56) qL_law_ 1263 [.ref 1000000, .ref 0, .ref 121, .ref 132, .int a4, .int a5, .int a6] [] M r := by
  intro a4 a5 a6 M r h
  exact sy_run_by (d := 55) ((jrL_law__1263 _ _ _ _ M).trans h) hkL (by decide +kernel) (sy_cs_cons (jeX12_thrown.deep (by decide)) sy_cs_nil) (sy_us_cons (jwL_law__1291 (jtL_law__1291 hk23)) sy_us_nil)
def jfL_law__1214 (k23 : Int32 → sy_M → sy_O) (a4 : Int32) (M : sy_M) : sy_O :=
  sy_bx (xe_in (a4 + 1) (M 134 0).toNatClampNeg) <|
  sy_bx (xe_in (a4 + 2) (M 134 0).toNatClampNeg) <|
  sy_bx (xe_in (a4 + 3) (M 134 0).toNatClampNeg) <|
  sy_bi (jfL_home (M 1000000 (Int32.toNatClampNeg (a4 + 1))) (M 1000000 (Int32.toNatClampNeg (a4 + 2))) (M 1000000 (Int32.toNatClampNeg (a4 + 3))) M) fun v2 M1 =>
  sy_bx (xe_in (a4 + 1) (M1 134 0).toNatClampNeg) <|
  sy_bx (xe_in (a4 + 2) (M1 134 0).toNatClampNeg) <|
  sy_bx (xe_in (a4 + 3) (M1 134 0).toNatClampNeg) <|
  sy_bi (jfX12_home (M1 1000000 (Int32.toNatClampNeg (a4 + 1))) (M1 1000000 (Int32.toNatClampNeg (a4 + 2))) (M1 1000000 (Int32.toNatClampNeg (a4 + 3))) M1) fun v4 M3 =>
  jfL_law__1263 k23 a4 v2 v4 M3
set_option maxRecDepth 100000 in
theorem jrL_law__1214 (k23 : Int32 → sy_M → sy_O) (w5 : Value) (w6 : Value) (a4 : Int32) (M : sy_M) : sy_run skL qL_law_ [(1214, .aload_n 1, 1, [true, true, true, true, true, false, false]), (1215, .aload_n 0, 1, []), (1216, .iload 4, 2, []), (1218, .iconst 1, 1, []), (1219, .iadd, 1, []), (1220, .iaload, 1, []), (1221, .aload_n 0, 1, []), (1222, .iload 4, 2, []), (1224, .iconst 2, 1, []), (1225, .iadd, 1, []), (1226, .iaload, 1, []), (1227, .aload_n 0, 1, []), (1228, .iload 4, 2, []), (1230, .iconst 3, 1, []), (1231, .iadd, 1, []), (1232, .iaload, 1, []), (1233, .aload_n 3, 1, []), (1234, .invokestatic 199, 3, []), (1237, .istore 5, 2, []), (1239, .aload_n 2, 1, []), (1240, .aload_n 0, 1, []), (1241, .iload 4, 2, []), (1243, .iconst 1, 1, []), (1244, .iadd, 1, []), (1245, .iaload, 1, []), (1246, .aload_n 0, 1, []), (1247, .iload 4, 2, []), (1249, .iconst 2, 1, []), (1250, .iadd, 1, []), (1251, .iaload, 1, []), (1252, .aload_n 0, 1, []), (1253, .iload 4, 2, []), (1255, .iconst 3, 1, []), (1256, .iadd, 1, []), (1257, .iaload, 1, []), (1258, .invokevirtual 202, 3, []), (1261, .istore 6, 2, [])] [(334, 0, jcL_home), (254, 0, jcX12_home)] [(1263, juL_law__1263 (jfL_law__1263 k23))] 38 [] 1214 [.ref 1000000, .ref 0, .ref 121, .ref 132, .int a4, w5, w6] [] M = jfL_law__1214 k23 a4 M := rfl
theorem jtL_law__1214 {k23 : Int32 → sy_M → sy_O} (hk23 : ∀ (w5 : Value) (w6 : Value) (a4 : Int32) (M : sy_M) (r : xe_R × sy_M), k23 a4 M = some r → sy_E (56) qL_law_ 23 [.ref 1000000, .ref 0, .ref 121, .ref 132, .int a4, w5, w6] [] M r) : ∀ (w5 : Value) (w6 : Value) (a4 : Int32) (M : sy_M) (r : xe_R × sy_M), jfL_law__1214 k23 a4 M = some r → sy_E (56) qL_law_ 1214 [.ref 1000000, .ref 0, .ref 121, .ref 132, .int a4, w5, w6] [] M r := by
  intro w5 w6 a4 M r h
  exact sy_run_by (d := 55) ((jrL_law__1214 _ _ _ _ M).trans h) hkL (by decide +kernel) (sy_cs_cons (jeL_home.deep (by decide)) (sy_cs_cons (jeX12_home.deep (by decide)) sy_cs_nil)) (sy_us_cons (jwL_law__1263 (jtL_law__1263 hk23)) sy_us_nil)
def jfL_law__1294 (k23 : Int32 → sy_M → sy_O) (a4 : Int32) (M : sy_M) : sy_O :=
  sy_bi (jfX11_empty M) fun v2 M1 =>
  sy_bi (jfX12_empty M1) fun v4 M3 =>
  if v2 = v4 then
    jfL_law__3150 k23 a4 M3
  else
    sy_ri 0 M3
set_option maxRecDepth 100000 in
theorem jrL_law__1294 (k23 : Int32 → sy_M → sy_O) (w5 : Value) (w6 : Value) (a4 : Int32) (M : sy_M) : sy_run skL qL_law_ [(1294, .aload_n 1, 1, [true, true, true, true, true, false, false]), (1295, .invokevirtual 203, 3, []), (1298, .aload_n 2, 1, []), (1299, .invokevirtual 206, 3, []), (1302, .if_icmp .eq 1848, 3, []), (1305, .iconst 0, 1, []), (1306, .ireturn, 1, [])] [(109, 0, jcX11_empty), (255, 0, jcX12_empty)] [(3150, juL_law__3150 (jfL_law__3150 k23))] 8 [] 1294 [.ref 1000000, .ref 0, .ref 121, .ref 132, .int a4, w5, w6] [] M = jfL_law__1294 k23 a4 M := rfl
theorem jtL_law__1294 {k23 : Int32 → sy_M → sy_O} (hk23 : ∀ (w5 : Value) (w6 : Value) (a4 : Int32) (M : sy_M) (r : xe_R × sy_M), k23 a4 M = some r → sy_E (56) qL_law_ 23 [.ref 1000000, .ref 0, .ref 121, .ref 132, .int a4, w5, w6] [] M r) : ∀ (w5 : Value) (w6 : Value) (a4 : Int32) (M : sy_M) (r : xe_R × sy_M), jfL_law__1294 k23 a4 M = some r → sy_E (56) qL_law_ 1294 [.ref 1000000, .ref 0, .ref 121, .ref 132, .int a4, w5, w6] [] M r := by
  intro w5 w6 a4 M r h
  exact sy_run_by (d := 55) ((jrL_law__1294 _ _ _ _ M).trans h) hkL (by decide +kernel) (sy_cs_cons (jeX11_empty.deep (by decide)) (sy_cs_cons (jeX12_empty.deep (by decide)) sy_cs_nil)) (sy_us_cons (jwL_law__3150 (jtL_law__3150 hk23)) sy_us_nil)
def jfL_law__1307 (k23 : Int32 → sy_M → sy_O) (a4 : Int32) (M : sy_M) : sy_O :=
  sy_bi (jfX11_inside M) fun v2 M1 =>
  sy_bi (jfX12_inside M1) fun v4 M3 =>
  if v2 = v4 then
    jfL_law__3150 k23 a4 M3
  else
    sy_ri 0 M3
set_option maxRecDepth 100000 in
theorem jrL_law__1307 (k23 : Int32 → sy_M → sy_O) (w5 : Value) (w6 : Value) (a4 : Int32) (M : sy_M) : sy_run skL qL_law_ [(1307, .aload_n 1, 1, [true, true, true, true, true, false, false]), (1308, .invokevirtual 207, 3, []), (1311, .aload_n 2, 1, []), (1312, .invokevirtual 210, 3, []), (1315, .if_icmp .eq 1835, 3, []), (1318, .iconst 0, 1, []), (1319, .ireturn, 1, [])] [(100, 0, jcX11_inside), (256, 0, jcX12_inside)] [(3150, juL_law__3150 (jfL_law__3150 k23))] 8 [] 1307 [.ref 1000000, .ref 0, .ref 121, .ref 132, .int a4, w5, w6] [] M = jfL_law__1307 k23 a4 M := rfl
theorem jtL_law__1307 {k23 : Int32 → sy_M → sy_O} (hk23 : ∀ (w5 : Value) (w6 : Value) (a4 : Int32) (M : sy_M) (r : xe_R × sy_M), k23 a4 M = some r → sy_E (56) qL_law_ 23 [.ref 1000000, .ref 0, .ref 121, .ref 132, .int a4, w5, w6] [] M r) : ∀ (w5 : Value) (w6 : Value) (a4 : Int32) (M : sy_M) (r : xe_R × sy_M), jfL_law__1307 k23 a4 M = some r → sy_E (56) qL_law_ 1307 [.ref 1000000, .ref 0, .ref 121, .ref 132, .int a4, w5, w6] [] M r := by
  intro w5 w6 a4 M r h
  exact sy_run_by (d := 55) ((jrL_law__1307 _ _ _ _ M).trans h) hkL (by decide +kernel) (sy_cs_cons (jeX11_inside.deep (by decide)) (sy_cs_cons (jeX12_inside.deep (by decide)) sy_cs_nil)) (sy_us_cons (jwL_law__3150 (jtL_law__3150 hk23)) sy_us_nil)
def jfL_law__1320 (k23 : Int32 → sy_M → sy_O) (a4 : Int32) (M : sy_M) : sy_O :=
  sy_bi (jfX11_lasts M) fun v2 M1 =>
  sy_bi (jfX12_lasts M1) fun v4 M3 =>
  if v2 = v4 then
    jfL_law__3150 k23 a4 M3
  else
    sy_ri 0 M3
set_option maxRecDepth 100000 in
theorem jrL_law__1320 (k23 : Int32 → sy_M → sy_O) (w5 : Value) (w6 : Value) (a4 : Int32) (M : sy_M) : sy_run skL qL_law_ [(1320, .aload_n 1, 1, [true, true, true, true, true, false, false]), (1321, .invokevirtual 211, 3, []), (1324, .aload_n 2, 1, []), (1325, .invokevirtual 214, 3, []), (1328, .if_icmp .eq 1822, 3, []), (1331, .iconst 0, 1, []), (1332, .ireturn, 1, [])] [(110, 0, jcX11_lasts), (258, 0, jcX12_lasts)] [(3150, juL_law__3150 (jfL_law__3150 k23))] 8 [] 1320 [.ref 1000000, .ref 0, .ref 121, .ref 132, .int a4, w5, w6] [] M = jfL_law__1320 k23 a4 M := rfl
theorem jtL_law__1320 {k23 : Int32 → sy_M → sy_O} (hk23 : ∀ (w5 : Value) (w6 : Value) (a4 : Int32) (M : sy_M) (r : xe_R × sy_M), k23 a4 M = some r → sy_E (56) qL_law_ 23 [.ref 1000000, .ref 0, .ref 121, .ref 132, .int a4, w5, w6] [] M r) : ∀ (w5 : Value) (w6 : Value) (a4 : Int32) (M : sy_M) (r : xe_R × sy_M), jfL_law__1320 k23 a4 M = some r → sy_E (56) qL_law_ 1320 [.ref 1000000, .ref 0, .ref 121, .ref 132, .int a4, w5, w6] [] M r := by
  intro w5 w6 a4 M r h
  exact sy_run_by (d := 55) ((jrL_law__1320 _ _ _ _ M).trans h) hkL (by decide +kernel) (sy_cs_cons (jeX11_lasts.deep (by decide)) (sy_cs_cons (jeX12_lasts.deep (by decide)) sy_cs_nil)) (sy_us_cons (jwL_law__3150 (jtL_law__3150 hk23)) sy_us_nil)
def jfL_law__1333 (k23 : Int32 → sy_M → sy_O) (a4 : Int32) (M : sy_M) : sy_O :=
  sy_bi (jfX11_out M) fun v2 M1 =>
  sy_bi (jfX12_out M1) fun v4 M3 =>
  if v2 = v4 then
    jfL_law__3150 k23 a4 M3
  else
    sy_ri 0 M3
set_option maxRecDepth 100000 in
theorem jrL_law__1333 (k23 : Int32 → sy_M → sy_O) (w5 : Value) (w6 : Value) (a4 : Int32) (M : sy_M) : sy_run skL qL_law_ [(1333, .aload_n 1, 1, [true, true, true, true, true, false, false]), (1334, .invokevirtual 215, 3, []), (1337, .aload_n 2, 1, []), (1338, .invokevirtual 218, 3, []), (1341, .if_icmp .eq 1809, 3, []), (1344, .iconst 0, 1, []), (1345, .ireturn, 1, [])] [(111, 0, jcX11_out), (259, 0, jcX12_out)] [(3150, juL_law__3150 (jfL_law__3150 k23))] 8 [] 1333 [.ref 1000000, .ref 0, .ref 121, .ref 132, .int a4, w5, w6] [] M = jfL_law__1333 k23 a4 M := rfl
theorem jtL_law__1333 {k23 : Int32 → sy_M → sy_O} (hk23 : ∀ (w5 : Value) (w6 : Value) (a4 : Int32) (M : sy_M) (r : xe_R × sy_M), k23 a4 M = some r → sy_E (56) qL_law_ 23 [.ref 1000000, .ref 0, .ref 121, .ref 132, .int a4, w5, w6] [] M r) : ∀ (w5 : Value) (w6 : Value) (a4 : Int32) (M : sy_M) (r : xe_R × sy_M), jfL_law__1333 k23 a4 M = some r → sy_E (56) qL_law_ 1333 [.ref 1000000, .ref 0, .ref 121, .ref 132, .int a4, w5, w6] [] M r := by
  intro w5 w6 a4 M r h
  exact sy_run_by (d := 55) ((jrL_law__1333 _ _ _ _ M).trans h) hkL (by decide +kernel) (sy_cs_cons (jeX11_out.deep (by decide)) (sy_cs_cons (jeX12_out.deep (by decide)) sy_cs_nil)) (sy_us_cons (jwL_law__3150 (jtL_law__3150 hk23)) sy_us_nil)
def jfL_law__1346 (k23 : Int32 → sy_M → sy_O) (a4 : Int32) (M : sy_M) : sy_O :=
  sy_bi (jfX11_feeder M) fun v2 M1 =>
  sy_bi (jfX12_feeder M1) fun v4 M3 =>
  if v2 = v4 then
    jfL_law__3150 k23 a4 M3
  else
    sy_ri 0 M3
set_option maxRecDepth 100000 in
theorem jrL_law__1346 (k23 : Int32 → sy_M → sy_O) (w5 : Value) (w6 : Value) (a4 : Int32) (M : sy_M) : sy_run skL qL_law_ [(1346, .aload_n 1, 1, [true, true, true, true, true, false, false]), (1347, .invokevirtual 219, 3, []), (1350, .aload_n 2, 1, []), (1351, .invokevirtual 222, 3, []), (1354, .if_icmp .eq 1796, 3, []), (1357, .iconst 0, 1, []), (1358, .ireturn, 1, [])] [(113, 0, jcX11_feeder), (260, 0, jcX12_feeder)] [(3150, juL_law__3150 (jfL_law__3150 k23))] 8 [] 1346 [.ref 1000000, .ref 0, .ref 121, .ref 132, .int a4, w5, w6] [] M = jfL_law__1346 k23 a4 M := rfl
theorem jtL_law__1346 {k23 : Int32 → sy_M → sy_O} (hk23 : ∀ (w5 : Value) (w6 : Value) (a4 : Int32) (M : sy_M) (r : xe_R × sy_M), k23 a4 M = some r → sy_E (56) qL_law_ 23 [.ref 1000000, .ref 0, .ref 121, .ref 132, .int a4, w5, w6] [] M r) : ∀ (w5 : Value) (w6 : Value) (a4 : Int32) (M : sy_M) (r : xe_R × sy_M), jfL_law__1346 k23 a4 M = some r → sy_E (56) qL_law_ 1346 [.ref 1000000, .ref 0, .ref 121, .ref 132, .int a4, w5, w6] [] M r := by
  intro w5 w6 a4 M r h
  exact sy_run_by (d := 55) ((jrL_law__1346 _ _ _ _ M).trans h) hkL (by decide +kernel) (sy_cs_cons (jeX11_feeder.deep (by decide)) (sy_cs_cons (jeX12_feeder.deep (by decide)) sy_cs_nil)) (sy_us_cons (jwL_law__3150 (jtL_law__3150 hk23)) sy_us_nil)
def jfL_law__1359 (k23 : Int32 → sy_M → sy_O) (a4 : Int32) (M : sy_M) : sy_O :=
  sy_bi (jfX11_shiver M) fun v2 M1 =>
  sy_bi (jfX12_shiver M1) fun v4 M3 =>
  if v2 = v4 then
    jfL_law__3150 k23 a4 M3
  else
    sy_ri 0 M3
set_option maxRecDepth 100000 in
theorem jrL_law__1359 (k23 : Int32 → sy_M → sy_O) (w5 : Value) (w6 : Value) (a4 : Int32) (M : sy_M) : sy_run skL qL_law_ [(1359, .aload_n 1, 1, [true, true, true, true, true, false, false]), (1360, .invokevirtual 223, 3, []), (1363, .aload_n 2, 1, []), (1364, .invokevirtual 226, 3, []), (1367, .if_icmp .eq 1783, 3, []), (1370, .iconst 0, 1, []), (1371, .ireturn, 1, [])] [(114, 0, jcX11_shiver), (263, 0, jcX12_shiver)] [(3150, juL_law__3150 (jfL_law__3150 k23))] 8 [] 1359 [.ref 1000000, .ref 0, .ref 121, .ref 132, .int a4, w5, w6] [] M = jfL_law__1359 k23 a4 M := rfl
theorem jtL_law__1359 {k23 : Int32 → sy_M → sy_O} (hk23 : ∀ (w5 : Value) (w6 : Value) (a4 : Int32) (M : sy_M) (r : xe_R × sy_M), k23 a4 M = some r → sy_E (56) qL_law_ 23 [.ref 1000000, .ref 0, .ref 121, .ref 132, .int a4, w5, w6] [] M r) : ∀ (w5 : Value) (w6 : Value) (a4 : Int32) (M : sy_M) (r : xe_R × sy_M), jfL_law__1359 k23 a4 M = some r → sy_E (56) qL_law_ 1359 [.ref 1000000, .ref 0, .ref 121, .ref 132, .int a4, w5, w6] [] M r := by
  intro w5 w6 a4 M r h
  exact sy_run_by (d := 55) ((jrL_law__1359 _ _ _ _ M).trans h) hkL (by decide +kernel) (sy_cs_cons (jeX11_shiver.deep (by decide)) (sy_cs_cons (jeX12_shiver.deep (by decide)) sy_cs_nil)) (sy_us_cons (jwL_law__3150 (jtL_law__3150 hk23)) sy_us_nil)
def jfL_law__1449 (k23 : Int32 → sy_M → sy_O) (a4 : Int32) (M : sy_M) : sy_O :=
  jfL_law__3150 k23 a4 M
set_option maxRecDepth 100000 in
theorem jrL_law__1449 (k23 : Int32 → sy_M → sy_O) (w5 : Value) (w6 : Value) (a4 : Int32) (M : sy_M) : sy_run skL qL_law_ [(1449, .goto 1701, 3, [true, true, true, true, true, false, false])] [] [(3150, juL_law__3150 (jfL_law__3150 k23))] 2 [] 1449 [.ref 1000000, .ref 0, .ref 121, .ref 132, .int a4, w5, w6] [] M = jfL_law__1449 k23 a4 M := rfl
theorem jtL_law__1449 {k23 : Int32 → sy_M → sy_O} (hk23 : ∀ (w5 : Value) (w6 : Value) (a4 : Int32) (M : sy_M) (r : xe_R × sy_M), k23 a4 M = some r → sy_E (56) qL_law_ 23 [.ref 1000000, .ref 0, .ref 121, .ref 132, .int a4, w5, w6] [] M r) : ∀ (w5 : Value) (w6 : Value) (a4 : Int32) (M : sy_M) (r : xe_R × sy_M), jfL_law__1449 k23 a4 M = some r → sy_E (56) qL_law_ 1449 [.ref 1000000, .ref 0, .ref 121, .ref 132, .int a4, w5, w6] [] M r := by
  intro w5 w6 a4 M r h
  exact sy_run_by (d := 55) ((jrL_law__1449 _ _ _ _ M).trans h) hkL (by decide +kernel) sy_cs_nil (sy_us_cons (jwL_law__3150 (jtL_law__3150 hk23)) sy_us_nil)
def jfL_law__1421 (k23 : Int32 → sy_M → sy_O) (a4 : Int32) (a5 : Int32) (a6 : Int32) (M : sy_M) : sy_O :=
  sy_bi (jfX12_thrown M) fun v2 M1 =>
  if v2 = a5 then
    if a5 = 0 then
      if (lg_cmp (sy_rl M1 132 0) (Int32.toInt64 a6)) = 0 then
        jfL_law__1449 k23 a4 M1
      else
        sy_ri 0 M1
    else
      jfL_law__1449 k23 a4 M1
  else
    sy_ri 0 M1
set_option maxRecDepth 100000 in
theorem jrL_law__1421 (k23 : Int32 → sy_M → sy_O) (a4 : Int32) (a5 : Int32) (a6 : Int32) (M : sy_M) : sy_run skL qL_law_ [(1421, .aload_n 2, 1, []), (1422, .invokevirtual 154, 3, []), (1425, .iload 5, 2, []), (1427, .if_icmp .eq 5, 3, []), (1430, .iconst 0, 1, []), (1431, .ireturn, 1, []), (1432, .iload 5, 2, []), (1434, .ifCond .ne 15, 3, []), (1437, .aload_n 3, 1, []), (1438, .iconst 0, 1, []), (1439, .laload, 1, []), (1440, .iload 6, 2, []), (1442, .i2l, 1, []), (1443, .lcmp, 1, []), (1444, .ifCond .eq 5, 3, []), (1447, .iconst 0, 1, []), (1448, .ireturn, 1, [])] [(181, 0, jcX12_thrown)] [(1449, juL_law__1449 (jfL_law__1449 k23))] 18 [] 1421 [.ref 1000000, .ref 0, .ref 121, .ref 132, .int a4, .int a5, .int a6] [] M = jfL_law__1421 k23 a4 a5 a6 M := rfl
theorem jtL_law__1421 {k23 : Int32 → sy_M → sy_O} (hk23 : ∀ (w5 : Value) (w6 : Value) (a4 : Int32) (M : sy_M) (r : xe_R × sy_M), k23 a4 M = some r → sy_E (56) qL_law_ 23 [.ref 1000000, .ref 0, .ref 121, .ref 132, .int a4, w5, w6] [] M r) : ∀ (a4 : Int32) (a5 : Int32) (a6 : Int32) (M : sy_M) (r : xe_R × sy_M), jfL_law__1421 k23 a4 a5 a6 M = some r → sy_E (56) qL_law_ 1421 [.ref 1000000, .ref 0, .ref 121, .ref 132, .int a4, .int a5, .int a6] [] M r := by
  intro a4 a5 a6 M r h
  exact sy_run_by (d := 55) ((jrL_law__1421 _ _ _ _ M).trans h) hkL (by decide +kernel) (sy_cs_cons (jeX12_thrown.deep (by decide)) sy_cs_nil) (sy_us_cons (jwL_law__1449 (jtL_law__1449 hk23)) sy_us_nil)
def jfL_law__1372 (k23 : Int32 → sy_M → sy_O) (a4 : Int32) (M : sy_M) : sy_O :=
  sy_bx (xe_in (a4 + 1) (M 134 0).toNatClampNeg) <|
  sy_bx (xe_in (a4 + 2) (M 134 0).toNatClampNeg) <|
  sy_bx (xe_in (a4 + 3) (M 134 0).toNatClampNeg) <|
  sy_bi (jfL_after (M 1000000 (Int32.toNatClampNeg (a4 + 1))) (M 1000000 (Int32.toNatClampNeg (a4 + 2))) (M 1000000 (Int32.toNatClampNeg (a4 + 3))) M) fun v2 M1 =>
  sy_bx (xe_in (a4 + 1) (M1 134 0).toNatClampNeg) <|
  sy_bx (xe_in (a4 + 2) (M1 134 0).toNatClampNeg) <|
  sy_bx (xe_in (a4 + 3) (M1 134 0).toNatClampNeg) <|
  sy_bi (jfX12_after (M1 1000000 (Int32.toNatClampNeg (a4 + 1))) (M1 1000000 (Int32.toNatClampNeg (a4 + 2))) (M1 1000000 (Int32.toNatClampNeg (a4 + 3))) M1) fun v4 M3 =>
  jfL_law__1421 k23 a4 v2 v4 M3
set_option maxRecDepth 100000 in
theorem jrL_law__1372 (k23 : Int32 → sy_M → sy_O) (w5 : Value) (w6 : Value) (a4 : Int32) (M : sy_M) : sy_run skL qL_law_ [(1372, .aload_n 1, 1, [true, true, true, true, true, false, false]), (1373, .aload_n 0, 1, []), (1374, .iload 4, 2, []), (1376, .iconst 1, 1, []), (1377, .iadd, 1, []), (1378, .iaload, 1, []), (1379, .aload_n 0, 1, []), (1380, .iload 4, 2, []), (1382, .iconst 2, 1, []), (1383, .iadd, 1, []), (1384, .iaload, 1, []), (1385, .aload_n 0, 1, []), (1386, .iload 4, 2, []), (1388, .iconst 3, 1, []), (1389, .iadd, 1, []), (1390, .iaload, 1, []), (1391, .aload_n 3, 1, []), (1392, .invokestatic 227, 3, []), (1395, .istore 5, 2, []), (1397, .aload_n 2, 1, []), (1398, .aload_n 0, 1, []), (1399, .iload 4, 2, []), (1401, .iconst 1, 1, []), (1402, .iadd, 1, []), (1403, .iaload, 1, []), (1404, .aload_n 0, 1, []), (1405, .iload 4, 2, []), (1407, .iconst 2, 1, []), (1408, .iadd, 1, []), (1409, .iaload, 1, []), (1410, .aload_n 0, 1, []), (1411, .iload 4, 2, []), (1413, .iconst 3, 1, []), (1414, .iadd, 1, []), (1415, .iaload, 1, []), (1416, .invokevirtual 229, 3, []), (1419, .istore 6, 2, [])] [(335, 0, jcL_after), (264, 0, jcX12_after)] [(1421, juL_law__1421 (jfL_law__1421 k23))] 38 [] 1372 [.ref 1000000, .ref 0, .ref 121, .ref 132, .int a4, w5, w6] [] M = jfL_law__1372 k23 a4 M := rfl
theorem jtL_law__1372 {k23 : Int32 → sy_M → sy_O} (hk23 : ∀ (w5 : Value) (w6 : Value) (a4 : Int32) (M : sy_M) (r : xe_R × sy_M), k23 a4 M = some r → sy_E (56) qL_law_ 23 [.ref 1000000, .ref 0, .ref 121, .ref 132, .int a4, w5, w6] [] M r) : ∀ (w5 : Value) (w6 : Value) (a4 : Int32) (M : sy_M) (r : xe_R × sy_M), jfL_law__1372 k23 a4 M = some r → sy_E (56) qL_law_ 1372 [.ref 1000000, .ref 0, .ref 121, .ref 132, .int a4, w5, w6] [] M r := by
  intro w5 w6 a4 M r h
  exact sy_run_by (d := 55) ((jrL_law__1372 _ _ _ _ M).trans h) hkL (by decide +kernel) (sy_cs_cons (jeL_after.deep (by decide)) (sy_cs_cons (jeX12_after.deep (by decide)) sy_cs_nil)) (sy_us_cons (jwL_law__1421 (jtL_law__1421 hk23)) sy_us_nil)
def jfL_law__1505 (k23 : Int32 → sy_M → sy_O) (a4 : Int32) (M : sy_M) : sy_O :=
  jfL_law__3150 k23 a4 M
set_option maxRecDepth 100000 in
theorem jrL_law__1505 (k23 : Int32 → sy_M → sy_O) (w5 : Value) (w6 : Value) (a4 : Int32) (M : sy_M) : sy_run skL qL_law_ [(1505, .goto 1645, 3, [true, true, true, true, true, false, false])] [] [(3150, juL_law__3150 (jfL_law__3150 k23))] 2 [] 1505 [.ref 1000000, .ref 0, .ref 121, .ref 132, .int a4, w5, w6] [] M = jfL_law__1505 k23 a4 M := rfl
theorem jtL_law__1505 {k23 : Int32 → sy_M → sy_O} (hk23 : ∀ (w5 : Value) (w6 : Value) (a4 : Int32) (M : sy_M) (r : xe_R × sy_M), k23 a4 M = some r → sy_E (56) qL_law_ 23 [.ref 1000000, .ref 0, .ref 121, .ref 132, .int a4, w5, w6] [] M r) : ∀ (w5 : Value) (w6 : Value) (a4 : Int32) (M : sy_M) (r : xe_R × sy_M), jfL_law__1505 k23 a4 M = some r → sy_E (56) qL_law_ 1505 [.ref 1000000, .ref 0, .ref 121, .ref 132, .int a4, w5, w6] [] M r := by
  intro w5 w6 a4 M r h
  exact sy_run_by (d := 55) ((jrL_law__1505 _ _ _ _ M).trans h) hkL (by decide +kernel) sy_cs_nil (sy_us_cons (jwL_law__3150 (jtL_law__3150 hk23)) sy_us_nil)
def jfL_law__1452 (k23 : Int32 → sy_M → sy_O) (a4 : Int32) (M : sy_M) : sy_O :=
  sy_bx (xe_in (a4 + 1) (M 134 0).toNatClampNeg) <|
  sy_bi (jfL_coins (M 1000000 (Int32.toNatClampNeg (a4 + 1))) M) fun v2 M1 =>
  sy_bx (xe_in (a4 + 1) (M1 134 0).toNatClampNeg) <|
  sy_bi (jfX12_coins (M1 1000000 (Int32.toNatClampNeg (a4 + 1))) M1) fun v4 M3 =>
  sy_bi (jfX12_thrown M3) fun v6 M5 =>
  if v6 = v2 then
    if v2 = 0 then
      if (lg_cmp (sy_rl M5 132 0) (Int32.toInt64 v4)) = 0 then
        jfL_law__1505 k23 a4 M5
      else
        sy_ri 0 M5
    else
      jfL_law__1505 k23 a4 M5
  else
    sy_ri 0 M5
set_option maxRecDepth 100000 in
theorem jrL_law__1452 (k23 : Int32 → sy_M → sy_O) (w5 : Value) (w6 : Value) (a4 : Int32) (M : sy_M) : sy_run skL qL_law_ [(1452, .aload_n 1, 1, [true, true, true, true, true, false, false]), (1453, .aload_n 0, 1, []), (1454, .iload 4, 2, []), (1456, .iconst 1, 1, []), (1457, .iadd, 1, []), (1458, .iaload, 1, []), (1459, .aload_n 3, 1, []), (1460, .invokestatic 230, 3, []), (1463, .istore 5, 2, []), (1465, .aload_n 2, 1, []), (1466, .aload_n 0, 1, []), (1467, .iload 4, 2, []), (1469, .iconst 1, 1, []), (1470, .iadd, 1, []), (1471, .iaload, 1, []), (1472, .invokevirtual 232, 3, []), (1475, .istore 6, 2, []), (1477, .aload_n 2, 1, []), (1478, .invokevirtual 154, 3, []), (1481, .iload 5, 2, []), (1483, .if_icmp .eq 5, 3, []), (1486, .iconst 0, 1, []), (1487, .ireturn, 1, []), (1488, .iload 5, 2, []), (1490, .ifCond .ne 15, 3, []), (1493, .aload_n 3, 1, []), (1494, .iconst 0, 1, []), (1495, .laload, 1, []), (1496, .iload 6, 2, []), (1498, .i2l, 1, []), (1499, .lcmp, 1, []), (1500, .ifCond .eq 5, 3, []), (1503, .iconst 0, 1, []), (1504, .ireturn, 1, [])] [(336, 0, jcL_coins), (265, 0, jcX12_coins), (181, 0, jcX12_thrown)] [(1505, juL_law__1505 (jfL_law__1505 k23))] 35 [] 1452 [.ref 1000000, .ref 0, .ref 121, .ref 132, .int a4, w5, w6] [] M = jfL_law__1452 k23 a4 M := rfl
theorem jtL_law__1452 {k23 : Int32 → sy_M → sy_O} (hk23 : ∀ (w5 : Value) (w6 : Value) (a4 : Int32) (M : sy_M) (r : xe_R × sy_M), k23 a4 M = some r → sy_E (56) qL_law_ 23 [.ref 1000000, .ref 0, .ref 121, .ref 132, .int a4, w5, w6] [] M r) : ∀ (w5 : Value) (w6 : Value) (a4 : Int32) (M : sy_M) (r : xe_R × sy_M), jfL_law__1452 k23 a4 M = some r → sy_E (56) qL_law_ 1452 [.ref 1000000, .ref 0, .ref 121, .ref 132, .int a4, w5, w6] [] M r := by
  intro w5 w6 a4 M r h
  exact sy_run_by (d := 55) ((jrL_law__1452 _ _ _ _ M).trans h) hkL (by decide +kernel) (sy_cs_cons (jeL_coins.deep (by decide)) (sy_cs_cons (jeX12_coins.deep (by decide)) (sy_cs_cons (jeX12_thrown.deep (by decide)) sy_cs_nil))) (sy_us_cons (jwL_law__1505 (jtL_law__1505 hk23)) sy_us_nil)
def jfL_law__1561 (k23 : Int32 → sy_M → sy_O) (a4 : Int32) (M : sy_M) : sy_O :=
  jfL_law__3150 k23 a4 M
set_option maxRecDepth 100000 in
theorem jrL_law__1561 (k23 : Int32 → sy_M → sy_O) (w5 : Value) (w6 : Value) (a4 : Int32) (M : sy_M) : sy_run skL qL_law_ [(1561, .goto 1589, 3, [true, true, true, true, true, false, false])] [] [(3150, juL_law__3150 (jfL_law__3150 k23))] 2 [] 1561 [.ref 1000000, .ref 0, .ref 121, .ref 132, .int a4, w5, w6] [] M = jfL_law__1561 k23 a4 M := rfl
theorem jtL_law__1561 {k23 : Int32 → sy_M → sy_O} (hk23 : ∀ (w5 : Value) (w6 : Value) (a4 : Int32) (M : sy_M) (r : xe_R × sy_M), k23 a4 M = some r → sy_E (56) qL_law_ 23 [.ref 1000000, .ref 0, .ref 121, .ref 132, .int a4, w5, w6] [] M r) : ∀ (w5 : Value) (w6 : Value) (a4 : Int32) (M : sy_M) (r : xe_R × sy_M), jfL_law__1561 k23 a4 M = some r → sy_E (56) qL_law_ 1561 [.ref 1000000, .ref 0, .ref 121, .ref 132, .int a4, w5, w6] [] M r := by
  intro w5 w6 a4 M r h
  exact sy_run_by (d := 55) ((jrL_law__1561 _ _ _ _ M).trans h) hkL (by decide +kernel) sy_cs_nil (sy_us_cons (jwL_law__3150 (jtL_law__3150 hk23)) sy_us_nil)
def jfL_law__1508 (k23 : Int32 → sy_M → sy_O) (a4 : Int32) (M : sy_M) : sy_O :=
  sy_bx (xe_in (a4 + 1) (M 134 0).toNatClampNeg) <|
  sy_bi (jfL_ease (M 1000000 (Int32.toNatClampNeg (a4 + 1))) M) fun v2 M1 =>
  sy_bx (xe_in (a4 + 1) (M1 134 0).toNatClampNeg) <|
  sy_bi (jfX12_ease (M1 1000000 (Int32.toNatClampNeg (a4 + 1))) M1) fun v4 M3 =>
  sy_bi (jfX12_thrown M3) fun v6 M5 =>
  if v6 = v2 then
    if v2 = 0 then
      if (lg_cmp (sy_rl M5 132 0) (Int32.toInt64 v4)) = 0 then
        jfL_law__1561 k23 a4 M5
      else
        sy_ri 0 M5
    else
      jfL_law__1561 k23 a4 M5
  else
    sy_ri 0 M5
set_option maxRecDepth 100000 in
theorem jrL_law__1508 (k23 : Int32 → sy_M → sy_O) (w5 : Value) (w6 : Value) (a4 : Int32) (M : sy_M) : sy_run skL qL_law_ [(1508, .aload_n 1, 1, [true, true, true, true, true, false, false]), (1509, .aload_n 0, 1, []), (1510, .iload 4, 2, []), (1512, .iconst 1, 1, []), (1513, .iadd, 1, []), (1514, .iaload, 1, []), (1515, .aload_n 3, 1, []), (1516, .invokestatic 233, 3, []), (1519, .istore 5, 2, []), (1521, .aload_n 2, 1, []), (1522, .aload_n 0, 1, []), (1523, .iload 4, 2, []), (1525, .iconst 1, 1, []), (1526, .iadd, 1, []), (1527, .iaload, 1, []), (1528, .invokevirtual 235, 3, []), (1531, .istore 6, 2, []), (1533, .aload_n 2, 1, []), (1534, .invokevirtual 154, 3, []), (1537, .iload 5, 2, []), (1539, .if_icmp .eq 5, 3, []), (1542, .iconst 0, 1, []), (1543, .ireturn, 1, []), (1544, .iload 5, 2, []), (1546, .ifCond .ne 15, 3, []), (1549, .aload_n 3, 1, []), (1550, .iconst 0, 1, []), (1551, .laload, 1, []), (1552, .iload 6, 2, []), (1554, .i2l, 1, []), (1555, .lcmp, 1, []), (1556, .ifCond .eq 5, 3, []), (1559, .iconst 0, 1, []), (1560, .ireturn, 1, [])] [(337, 0, jcL_ease), (266, 0, jcX12_ease), (181, 0, jcX12_thrown)] [(1561, juL_law__1561 (jfL_law__1561 k23))] 35 [] 1508 [.ref 1000000, .ref 0, .ref 121, .ref 132, .int a4, w5, w6] [] M = jfL_law__1508 k23 a4 M := rfl
theorem jtL_law__1508 {k23 : Int32 → sy_M → sy_O} (hk23 : ∀ (w5 : Value) (w6 : Value) (a4 : Int32) (M : sy_M) (r : xe_R × sy_M), k23 a4 M = some r → sy_E (56) qL_law_ 23 [.ref 1000000, .ref 0, .ref 121, .ref 132, .int a4, w5, w6] [] M r) : ∀ (w5 : Value) (w6 : Value) (a4 : Int32) (M : sy_M) (r : xe_R × sy_M), jfL_law__1508 k23 a4 M = some r → sy_E (56) qL_law_ 1508 [.ref 1000000, .ref 0, .ref 121, .ref 132, .int a4, w5, w6] [] M r := by
  intro w5 w6 a4 M r h
  exact sy_run_by (d := 55) ((jrL_law__1508 _ _ _ _ M).trans h) hkL (by decide +kernel) (sy_cs_cons (jeL_ease.deep (by decide)) (sy_cs_cons (jeX12_ease.deep (by decide)) (sy_cs_cons (jeX12_thrown.deep (by decide)) sy_cs_nil))) (sy_us_cons (jwL_law__1561 (jtL_law__1561 hk23)) sy_us_nil)
def jfL_law__1629 (k23 : Int32 → sy_M → sy_O) (a4 : Int32) (M : sy_M) : sy_O :=
  jfL_law__3150 k23 a4 M
set_option maxRecDepth 100000 in
theorem jrL_law__1629 (k23 : Int32 → sy_M → sy_O) (w5 : Value) (w6 : Value) (a4 : Int32) (M : sy_M) : sy_run skL qL_law_ [(1629, .goto 1521, 3, [true, true, true, true, true, false, false])] [] [(3150, juL_law__3150 (jfL_law__3150 k23))] 2 [] 1629 [.ref 1000000, .ref 0, .ref 121, .ref 132, .int a4, w5, w6] [] M = jfL_law__1629 k23 a4 M := rfl
theorem jtL_law__1629 {k23 : Int32 → sy_M → sy_O} (hk23 : ∀ (w5 : Value) (w6 : Value) (a4 : Int32) (M : sy_M) (r : xe_R × sy_M), k23 a4 M = some r → sy_E (56) qL_law_ 23 [.ref 1000000, .ref 0, .ref 121, .ref 132, .int a4, w5, w6] [] M r) : ∀ (w5 : Value) (w6 : Value) (a4 : Int32) (M : sy_M) (r : xe_R × sy_M), jfL_law__1629 k23 a4 M = some r → sy_E (56) qL_law_ 1629 [.ref 1000000, .ref 0, .ref 121, .ref 132, .int a4, w5, w6] [] M r := by
  intro w5 w6 a4 M r h
  exact sy_run_by (d := 55) ((jrL_law__1629 _ _ _ _ M).trans h) hkL (by decide +kernel) sy_cs_nil (sy_us_cons (jwL_law__3150 (jtL_law__3150 hk23)) sy_us_nil)
def jfL_law__1564 (k23 : Int32 → sy_M → sy_O) (a4 : Int32) (M : sy_M) : sy_O :=
  sy_bx (xe_in (a4 + 1) (M 134 0).toNatClampNeg) <|
  sy_bx (xe_in (a4 + 2) (M 134 0).toNatClampNeg) <|
  sy_bi (jfL_grief (M 1000000 (Int32.toNatClampNeg (a4 + 1))) (M 1000000 (Int32.toNatClampNeg (a4 + 2))) M) fun v2 M1 =>
  sy_bx (xe_in (a4 + 1) (M1 134 0).toNatClampNeg) <|
  sy_bx (xe_in (a4 + 2) (M1 134 0).toNatClampNeg) <|
  sy_bi (jfX12_grief (M1 1000000 (Int32.toNatClampNeg (a4 + 1))) (M1 1000000 (Int32.toNatClampNeg (a4 + 2))) M1) fun v4 M3 =>
  sy_bi (jfX12_thrown M3) fun v6 M5 =>
  if v6 = v2 then
    if v2 = 0 then
      if (lg_cmp (sy_rl M5 132 0) (Int32.toInt64 v4)) = 0 then
        jfL_law__1629 k23 a4 M5
      else
        sy_ri 0 M5
    else
      jfL_law__1629 k23 a4 M5
  else
    sy_ri 0 M5
set_option maxRecDepth 100000 in
theorem jrL_law__1564 (k23 : Int32 → sy_M → sy_O) (w5 : Value) (w6 : Value) (a4 : Int32) (M : sy_M) : sy_run skL qL_law_ [(1564, .aload_n 1, 1, [true, true, true, true, true, false, false]), (1565, .aload_n 0, 1, []), (1566, .iload 4, 2, []), (1568, .iconst 1, 1, []), (1569, .iadd, 1, []), (1570, .iaload, 1, []), (1571, .aload_n 0, 1, []), (1572, .iload 4, 2, []), (1574, .iconst 2, 1, []), (1575, .iadd, 1, []), (1576, .iaload, 1, []), (1577, .aload_n 3, 1, []), (1578, .invokestatic 236, 3, []), (1581, .istore 5, 2, []), (1583, .aload_n 2, 1, []), (1584, .aload_n 0, 1, []), (1585, .iload 4, 2, []), (1587, .iconst 1, 1, []), (1588, .iadd, 1, []), (1589, .iaload, 1, []), (1590, .aload_n 0, 1, []), (1591, .iload 4, 2, []), (1593, .iconst 2, 1, []), (1594, .iadd, 1, []), (1595, .iaload, 1, []), (1596, .invokevirtual 238, 3, []), (1599, .istore 6, 2, []), (1601, .aload_n 2, 1, []), (1602, .invokevirtual 154, 3, []), (1605, .iload 5, 2, []), (1607, .if_icmp .eq 5, 3, []), (1610, .iconst 0, 1, []), (1611, .ireturn, 1, []), (1612, .iload 5, 2, []), (1614, .ifCond .ne 15, 3, []), (1617, .aload_n 3, 1, []), (1618, .iconst 0, 1, []), (1619, .laload, 1, []), (1620, .iload 6, 2, []), (1622, .i2l, 1, []), (1623, .lcmp, 1, []), (1624, .ifCond .eq 5, 3, []), (1627, .iconst 0, 1, []), (1628, .ireturn, 1, [])] [(338, 0, jcL_grief), (270, 0, jcX12_grief), (181, 0, jcX12_thrown)] [(1629, juL_law__1629 (jfL_law__1629 k23))] 45 [] 1564 [.ref 1000000, .ref 0, .ref 121, .ref 132, .int a4, w5, w6] [] M = jfL_law__1564 k23 a4 M := rfl
theorem jtL_law__1564 {k23 : Int32 → sy_M → sy_O} (hk23 : ∀ (w5 : Value) (w6 : Value) (a4 : Int32) (M : sy_M) (r : xe_R × sy_M), k23 a4 M = some r → sy_E (56) qL_law_ 23 [.ref 1000000, .ref 0, .ref 121, .ref 132, .int a4, w5, w6] [] M r) : ∀ (w5 : Value) (w6 : Value) (a4 : Int32) (M : sy_M) (r : xe_R × sy_M), jfL_law__1564 k23 a4 M = some r → sy_E (56) qL_law_ 1564 [.ref 1000000, .ref 0, .ref 121, .ref 132, .int a4, w5, w6] [] M r := by
  intro w5 w6 a4 M r h
  exact sy_run_by (d := 55) ((jrL_law__1564 _ _ _ _ M).trans h) hkL (by decide +kernel) (sy_cs_cons (jeL_grief.deep (by decide)) (sy_cs_cons (jeX12_grief.deep (by decide)) (sy_cs_cons (jeX12_thrown.deep (by decide)) sy_cs_nil))) (sy_us_cons (jwL_law__1629 (jtL_law__1629 hk23)) sy_us_nil)
def jfL_law__1632 (k23 : Int32 → sy_M → sy_O) (a4 : Int32) (M : sy_M) : sy_O :=
  sy_bi (jfX11_restless M) fun v2 M1 =>
  sy_bi (jfX12_restless M1) fun v4 M3 =>
  if v2 = v4 then
    jfL_law__3150 k23 a4 M3
  else
    sy_ri 0 M3
set_option maxRecDepth 100000 in
theorem jrL_law__1632 (k23 : Int32 → sy_M → sy_O) (w5 : Value) (w6 : Value) (a4 : Int32) (M : sy_M) : sy_run skL qL_law_ [(1632, .aload_n 1, 1, [true, true, true, true, true, false, false]), (1633, .invokevirtual 239, 3, []), (1636, .aload_n 2, 1, []), (1637, .invokevirtual 242, 3, []), (1640, .if_icmp .eq 1510, 3, []), (1643, .iconst 0, 1, []), (1644, .ireturn, 1, [])] [(122, 0, jcX11_restless), (271, 0, jcX12_restless)] [(3150, juL_law__3150 (jfL_law__3150 k23))] 8 [] 1632 [.ref 1000000, .ref 0, .ref 121, .ref 132, .int a4, w5, w6] [] M = jfL_law__1632 k23 a4 M := rfl
theorem jtL_law__1632 {k23 : Int32 → sy_M → sy_O} (hk23 : ∀ (w5 : Value) (w6 : Value) (a4 : Int32) (M : sy_M) (r : xe_R × sy_M), k23 a4 M = some r → sy_E (56) qL_law_ 23 [.ref 1000000, .ref 0, .ref 121, .ref 132, .int a4, w5, w6] [] M r) : ∀ (w5 : Value) (w6 : Value) (a4 : Int32) (M : sy_M) (r : xe_R × sy_M), jfL_law__1632 k23 a4 M = some r → sy_E (56) qL_law_ 1632 [.ref 1000000, .ref 0, .ref 121, .ref 132, .int a4, w5, w6] [] M r := by
  intro w5 w6 a4 M r h
  exact sy_run_by (d := 55) ((jrL_law__1632 _ _ _ _ M).trans h) hkL (by decide +kernel) (sy_cs_cons (jeX11_restless.deep (by decide)) (sy_cs_cons (jeX12_restless.deep (by decide)) sy_cs_nil)) (sy_us_cons (jwL_law__3150 (jtL_law__3150 hk23)) sy_us_nil)
def jfL_law__1726 (k23 : Int32 → sy_M → sy_O) (a4 : Int32) (M : sy_M) : sy_O :=
  jfL_law__3150 k23 a4 M
set_option maxRecDepth 100000 in
theorem jrL_law__1726 (k23 : Int32 → sy_M → sy_O) (w5 : Value) (w6 : Value) (a4 : Int32) (M : sy_M) : sy_run skL qL_law_ [(1726, .goto 1424, 3, [true, true, true, true, true, false, false])] [] [(3150, juL_law__3150 (jfL_law__3150 k23))] 2 [] 1726 [.ref 1000000, .ref 0, .ref 121, .ref 132, .int a4, w5, w6] [] M = jfL_law__1726 k23 a4 M := rfl
theorem jtL_law__1726 {k23 : Int32 → sy_M → sy_O} (hk23 : ∀ (w5 : Value) (w6 : Value) (a4 : Int32) (M : sy_M) (r : xe_R × sy_M), k23 a4 M = some r → sy_E (56) qL_law_ 23 [.ref 1000000, .ref 0, .ref 121, .ref 132, .int a4, w5, w6] [] M r) : ∀ (w5 : Value) (w6 : Value) (a4 : Int32) (M : sy_M) (r : xe_R × sy_M), jfL_law__1726 k23 a4 M = some r → sy_E (56) qL_law_ 1726 [.ref 1000000, .ref 0, .ref 121, .ref 132, .int a4, w5, w6] [] M r := by
  intro w5 w6 a4 M r h
  exact sy_run_by (d := 55) ((jrL_law__1726 _ _ _ _ M).trans h) hkL (by decide +kernel) sy_cs_nil (sy_us_cons (jwL_law__3150 (jtL_law__3150 hk23)) sy_us_nil)
def jfL_law__1693 (k23 : Int32 → sy_M → sy_O) (a4 : Int32) (a5 : Int32) (s0 : Int32) (s1 : Int32) (M : sy_M) : sy_O :=
  sy_bi (jfX12_saint s1 s0 M) fun v2 M1 =>
  sy_bi (jfX12_thrown M1) fun v4 M3 =>
  if v4 = a5 then
    if a5 = 0 then
      if (lg_cmp (sy_rl M3 132 0) (Int32.toInt64 v2)) = 0 then
        jfL_law__1726 k23 a4 M3
      else
        sy_ri 0 M3
    else
      jfL_law__1726 k23 a4 M3
  else
    sy_ri 0 M3
set_option maxRecDepth 100000 in
theorem jrL_law__1693 (k23 : Int32 → sy_M → sy_O) (w6 : Value) (a4 : Int32) (a5 : Int32) (s0 : Int32) (s1 : Int32) (M : sy_M) : sy_run skL qL_law_ [(1693, .invokevirtual 246, 3, [true, true, true, true, true, true, false]), (1696, .istore 6, 2, []), (1698, .aload_n 2, 1, []), (1699, .invokevirtual 154, 3, []), (1702, .iload 5, 2, []), (1704, .if_icmp .eq 5, 3, []), (1707, .iconst 0, 1, []), (1708, .ireturn, 1, []), (1709, .iload 5, 2, []), (1711, .ifCond .ne 15, 3, []), (1714, .aload_n 3, 1, []), (1715, .iconst 0, 1, []), (1716, .laload, 1, []), (1717, .iload 6, 2, []), (1719, .i2l, 1, []), (1720, .lcmp, 1, []), (1721, .ifCond .eq 5, 3, []), (1724, .iconst 0, 1, []), (1725, .ireturn, 1, [])] [(272, 0, jcX12_saint), (181, 0, jcX12_thrown)] [(1726, juL_law__1726 (jfL_law__1726 k23))] 20 [] 1693 [.ref 1000000, .ref 0, .ref 121, .ref 132, .int a4, .int a5, w6] [.int s0, .int s1, .ref 121] M = jfL_law__1693 k23 a4 a5 s0 s1 M := rfl
theorem jtL_law__1693 {k23 : Int32 → sy_M → sy_O} (hk23 : ∀ (w5 : Value) (w6 : Value) (a4 : Int32) (M : sy_M) (r : xe_R × sy_M), k23 a4 M = some r → sy_E (56) qL_law_ 23 [.ref 1000000, .ref 0, .ref 121, .ref 132, .int a4, w5, w6] [] M r) : ∀ (w6 : Value) (a4 : Int32) (a5 : Int32) (s0 : Int32) (s1 : Int32) (M : sy_M) (r : xe_R × sy_M), jfL_law__1693 k23 a4 a5 s0 s1 M = some r → sy_E (56) qL_law_ 1693 [.ref 1000000, .ref 0, .ref 121, .ref 132, .int a4, .int a5, w6] [.int s0, .int s1, .ref 121] M r := by
  intro w6 a4 a5 s0 s1 M r h
  exact sy_run_by (d := 55) ((jrL_law__1693 _ _ _ _ _ _ M).trans h) hkL (by decide +kernel) (sy_cs_cons (jeX12_saint.deep (by decide)) (sy_cs_cons (jeX12_thrown.deep (by decide)) sy_cs_nil)) (sy_us_cons (jwL_law__1726 (jtL_law__1726 hk23)) sy_us_nil)
def jfL_law__1666 (k23 : Int32 → sy_M → sy_O) (a4 : Int32) (s0 : Int32) (s1 : Int32) (M : sy_M) : sy_O :=
  sy_bi (jfL_saint s1 s0 M) fun v2 M1 =>
  sy_bx (xe_in (a4 + 1) (M1 134 0).toNatClampNeg) <|
  sy_bx (xe_in (a4 + 2) (M1 134 0).toNatClampNeg) <|
  if (M1 1000000 (Int32.toNatClampNeg (a4 + 2))) = 0 then
    jfL_law__1693 k23 a4 v2 0 (M1 1000000 (Int32.toNatClampNeg (a4 + 1))) M1
  else
    jfL_law__1693 k23 a4 v2 1 (M1 1000000 (Int32.toNatClampNeg (a4 + 1))) M1
set_option maxRecDepth 100000 in
theorem jrL_law__1666 (k23 : Int32 → sy_M → sy_O) (w5 : Value) (w6 : Value) (a4 : Int32) (s0 : Int32) (s1 : Int32) (M : sy_M) : sy_run skL qL_law_ [(1666, .aload_n 3, 1, [true, true, true, true, true, false, false]), (1667, .invokestatic 243, 3, []), (1670, .istore 5, 2, []), (1672, .aload_n 2, 1, []), (1673, .aload_n 0, 1, []), (1674, .iload 4, 2, []), (1676, .iconst 1, 1, []), (1677, .iadd, 1, []), (1678, .iaload, 1, []), (1679, .aload_n 0, 1, []), (1680, .iload 4, 2, []), (1682, .iconst 2, 1, []), (1683, .iadd, 1, []), (1684, .iaload, 1, []), (1685, .ifCond .eq 7, 3, []), (1688, .iconst 1, 1, []), (1689, .goto 4, 3, []), (1692, .iconst 0, 1, [true, true, true, true, true, true, false])] [(339, 0, jcL_saint)] [(1693, juL_law__1693 (jfL_law__1693 k23))] 19 [] 1666 [.ref 1000000, .ref 0, .ref 121, .ref 132, .int a4, w5, w6] [.int s0, .int s1, .ref 0] M = jfL_law__1666 k23 a4 s0 s1 M := rfl
theorem jtL_law__1666 {k23 : Int32 → sy_M → sy_O} (hk23 : ∀ (w5 : Value) (w6 : Value) (a4 : Int32) (M : sy_M) (r : xe_R × sy_M), k23 a4 M = some r → sy_E (56) qL_law_ 23 [.ref 1000000, .ref 0, .ref 121, .ref 132, .int a4, w5, w6] [] M r) : ∀ (w5 : Value) (w6 : Value) (a4 : Int32) (s0 : Int32) (s1 : Int32) (M : sy_M) (r : xe_R × sy_M), jfL_law__1666 k23 a4 s0 s1 M = some r → sy_E (56) qL_law_ 1666 [.ref 1000000, .ref 0, .ref 121, .ref 132, .int a4, w5, w6] [.int s0, .int s1, .ref 0] M r := by
  intro w5 w6 a4 s0 s1 M r h
  exact sy_run_by (d := 55) ((jrL_law__1666 _ _ _ _ _ _ M).trans h) hkL (by decide +kernel) (sy_cs_cons (jeL_saint.deep (by decide)) sy_cs_nil) (sy_us_cons (jwL_law__1693 (jtL_law__1693 hk23)) sy_us_nil)
def jfL_law__1645 (k23 : Int32 → sy_M → sy_O) (a4 : Int32) (M : sy_M) : sy_O :=
  sy_bx (xe_in (a4 + 1) (M 134 0).toNatClampNeg) <|
  sy_bx (xe_in (a4 + 2) (M 134 0).toNatClampNeg) <|
  if (M 1000000 (Int32.toNatClampNeg (a4 + 2))) = 0 then
    jfL_law__1666 k23 a4 0 (M 1000000 (Int32.toNatClampNeg (a4 + 1))) M
  else
    jfL_law__1666 k23 a4 1 (M 1000000 (Int32.toNatClampNeg (a4 + 1))) M
set_option maxRecDepth 100000 in
theorem jrL_law__1645 (k23 : Int32 → sy_M → sy_O) (w5 : Value) (w6 : Value) (a4 : Int32) (M : sy_M) : sy_run skL qL_law_ [(1645, .aload_n 1, 1, [true, true, true, true, true, false, false]), (1646, .aload_n 0, 1, []), (1647, .iload 4, 2, []), (1649, .iconst 1, 1, []), (1650, .iadd, 1, []), (1651, .iaload, 1, []), (1652, .aload_n 0, 1, []), (1653, .iload 4, 2, []), (1655, .iconst 2, 1, []), (1656, .iadd, 1, []), (1657, .iaload, 1, []), (1658, .ifCond .eq 7, 3, []), (1661, .iconst 1, 1, []), (1662, .goto 4, 3, []), (1665, .iconst 0, 1, [true, true, true, true, true, false, false])] [] [(1666, juL_law__1666 (jfL_law__1666 k23))] 16 [] 1645 [.ref 1000000, .ref 0, .ref 121, .ref 132, .int a4, w5, w6] [] M = jfL_law__1645 k23 a4 M := rfl
theorem jtL_law__1645 {k23 : Int32 → sy_M → sy_O} (hk23 : ∀ (w5 : Value) (w6 : Value) (a4 : Int32) (M : sy_M) (r : xe_R × sy_M), k23 a4 M = some r → sy_E (56) qL_law_ 23 [.ref 1000000, .ref 0, .ref 121, .ref 132, .int a4, w5, w6] [] M r) : ∀ (w5 : Value) (w6 : Value) (a4 : Int32) (M : sy_M) (r : xe_R × sy_M), jfL_law__1645 k23 a4 M = some r → sy_E (56) qL_law_ 1645 [.ref 1000000, .ref 0, .ref 121, .ref 132, .int a4, w5, w6] [] M r := by
  intro w5 w6 a4 M r h
  exact sy_run_by (d := 55) ((jrL_law__1645 _ _ _ _ M).trans h) hkL (by decide +kernel) sy_cs_nil (sy_us_cons (jwL_law__1666 (jtL_law__1666 hk23)) sy_us_nil)
def jfL_law__1794 (k23 : Int32 → sy_M → sy_O) (a4 : Int32) (M : sy_M) : sy_O :=
  jfL_law__3150 k23 a4 M
set_option maxRecDepth 100000 in
theorem jrL_law__1794 (k23 : Int32 → sy_M → sy_O) (w5 : Value) (w6 : Value) (a4 : Int32) (M : sy_M) : sy_run skL qL_law_ [(1794, .goto 1356, 3, [true, true, true, true, true, false, false])] [] [(3150, juL_law__3150 (jfL_law__3150 k23))] 2 [] 1794 [.ref 1000000, .ref 0, .ref 121, .ref 132, .int a4, w5, w6] [] M = jfL_law__1794 k23 a4 M := rfl
theorem jtL_law__1794 {k23 : Int32 → sy_M → sy_O} (hk23 : ∀ (w5 : Value) (w6 : Value) (a4 : Int32) (M : sy_M) (r : xe_R × sy_M), k23 a4 M = some r → sy_E (56) qL_law_ 23 [.ref 1000000, .ref 0, .ref 121, .ref 132, .int a4, w5, w6] [] M r) : ∀ (w5 : Value) (w6 : Value) (a4 : Int32) (M : sy_M) (r : xe_R × sy_M), jfL_law__1794 k23 a4 M = some r → sy_E (56) qL_law_ 1794 [.ref 1000000, .ref 0, .ref 121, .ref 132, .int a4, w5, w6] [] M r := by
  intro w5 w6 a4 M r h
  exact sy_run_by (d := 55) ((jrL_law__1794 _ _ _ _ M).trans h) hkL (by decide +kernel) sy_cs_nil (sy_us_cons (jwL_law__3150 (jtL_law__3150 hk23)) sy_us_nil)
def jfL_law__1729 (k23 : Int32 → sy_M → sy_O) (a4 : Int32) (M : sy_M) : sy_O :=
  sy_bx (xe_in (a4 + 1) (M 134 0).toNatClampNeg) <|
  sy_bx (xe_in (a4 + 2) (M 134 0).toNatClampNeg) <|
  sy_bi (jfL_fair (M 1000000 (Int32.toNatClampNeg (a4 + 1))) (M 1000000 (Int32.toNatClampNeg (a4 + 2))) M) fun v2 M1 =>
  sy_bx (xe_in (a4 + 1) (M1 134 0).toNatClampNeg) <|
  sy_bx (xe_in (a4 + 2) (M1 134 0).toNatClampNeg) <|
  sy_bi (jfX12_fair (M1 1000000 (Int32.toNatClampNeg (a4 + 1))) (M1 1000000 (Int32.toNatClampNeg (a4 + 2))) M1) fun v4 M3 =>
  sy_bi (jfX12_thrown M3) fun v6 M5 =>
  if v6 = v2 then
    if v2 = 0 then
      if (lg_cmp (sy_rl M5 132 0) (Int32.toInt64 v4)) = 0 then
        jfL_law__1794 k23 a4 M5
      else
        sy_ri 0 M5
    else
      jfL_law__1794 k23 a4 M5
  else
    sy_ri 0 M5
set_option maxRecDepth 100000 in
theorem jrL_law__1729 (k23 : Int32 → sy_M → sy_O) (w5 : Value) (w6 : Value) (a4 : Int32) (M : sy_M) : sy_run skL qL_law_ [(1729, .aload_n 1, 1, [true, true, true, true, true, false, false]), (1730, .aload_n 0, 1, []), (1731, .iload 4, 2, []), (1733, .iconst 1, 1, []), (1734, .iadd, 1, []), (1735, .iaload, 1, []), (1736, .aload_n 0, 1, []), (1737, .iload 4, 2, []), (1739, .iconst 2, 1, []), (1740, .iadd, 1, []), (1741, .iaload, 1, []), (1742, .aload_n 3, 1, []), (1743, .invokestatic 247, 3, []), (1746, .istore 5, 2, []), (1748, .aload_n 2, 1, []), (1749, .aload_n 0, 1, []), (1750, .iload 4, 2, []), (1752, .iconst 1, 1, []), (1753, .iadd, 1, []), (1754, .iaload, 1, []), (1755, .aload_n 0, 1, []), (1756, .iload 4, 2, []), (1758, .iconst 2, 1, []), (1759, .iadd, 1, []), (1760, .iaload, 1, []), (1761, .invokevirtual 249, 3, []), (1764, .istore 6, 2, []), (1766, .aload_n 2, 1, []), (1767, .invokevirtual 154, 3, []), (1770, .iload 5, 2, []), (1772, .if_icmp .eq 5, 3, []), (1775, .iconst 0, 1, []), (1776, .ireturn, 1, []), (1777, .iload 5, 2, []), (1779, .ifCond .ne 15, 3, []), (1782, .aload_n 3, 1, []), (1783, .iconst 0, 1, []), (1784, .laload, 1, []), (1785, .iload 6, 2, []), (1787, .i2l, 1, []), (1788, .lcmp, 1, []), (1789, .ifCond .eq 5, 3, []), (1792, .iconst 0, 1, []), (1793, .ireturn, 1, [])] [(340, 0, jcL_fair), (273, 0, jcX12_fair), (181, 0, jcX12_thrown)] [(1794, juL_law__1794 (jfL_law__1794 k23))] 45 [] 1729 [.ref 1000000, .ref 0, .ref 121, .ref 132, .int a4, w5, w6] [] M = jfL_law__1729 k23 a4 M := rfl
theorem jtL_law__1729 {k23 : Int32 → sy_M → sy_O} (hk23 : ∀ (w5 : Value) (w6 : Value) (a4 : Int32) (M : sy_M) (r : xe_R × sy_M), k23 a4 M = some r → sy_E (56) qL_law_ 23 [.ref 1000000, .ref 0, .ref 121, .ref 132, .int a4, w5, w6] [] M r) : ∀ (w5 : Value) (w6 : Value) (a4 : Int32) (M : sy_M) (r : xe_R × sy_M), jfL_law__1729 k23 a4 M = some r → sy_E (56) qL_law_ 1729 [.ref 1000000, .ref 0, .ref 121, .ref 132, .int a4, w5, w6] [] M r := by
  intro w5 w6 a4 M r h
  exact sy_run_by (d := 55) ((jrL_law__1729 _ _ _ _ M).trans h) hkL (by decide +kernel) (sy_cs_cons (jeL_fair.deep (by decide)) (sy_cs_cons (jeX12_fair.deep (by decide)) (sy_cs_cons (jeX12_thrown.deep (by decide)) sy_cs_nil))) (sy_us_cons (jwL_law__1794 (jtL_law__1794 hk23)) sy_us_nil)
def jfL_law__1797 (k23 : Int32 → sy_M → sy_O) (a4 : Int32) (M : sy_M) : sy_O :=
  sy_bx (xe_in (a4 + 1) (M 134 0).toNatClampNeg) <|
  sy_bi (jfX11_tops (M 1000000 (Int32.toNatClampNeg (a4 + 1))) M) fun v2 M1 =>
  sy_bx (xe_in (a4 + 1) (M1 134 0).toNatClampNeg) <|
  sy_bi (jfX12_tops (M1 1000000 (Int32.toNatClampNeg (a4 + 1))) M1) fun v4 M3 =>
  if v2 = v4 then
    jfL_law__3150 k23 a4 M3
  else
    sy_ri 0 M3
set_option maxRecDepth 100000 in
theorem jrL_law__1797 (k23 : Int32 → sy_M → sy_O) (w5 : Value) (w6 : Value) (a4 : Int32) (M : sy_M) : sy_run skL qL_law_ [(1797, .aload_n 1, 1, [true, true, true, true, true, false, false]), (1798, .aload_n 0, 1, []), (1799, .iload 4, 2, []), (1801, .iconst 1, 1, []), (1802, .iadd, 1, []), (1803, .iaload, 1, []), (1804, .invokevirtual 250, 3, []), (1807, .aload_n 2, 1, []), (1808, .aload_n 0, 1, []), (1809, .iload 4, 2, []), (1811, .iconst 1, 1, []), (1812, .iadd, 1, []), (1813, .iaload, 1, []), (1814, .invokevirtual 253, 3, []), (1817, .if_icmp .eq 1333, 3, []), (1820, .iconst 0, 1, []), (1821, .ireturn, 1, [])] [(132, 0, jcX11_tops), (275, 0, jcX12_tops)] [(3150, juL_law__3150 (jfL_law__3150 k23))] 18 [] 1797 [.ref 1000000, .ref 0, .ref 121, .ref 132, .int a4, w5, w6] [] M = jfL_law__1797 k23 a4 M := rfl
theorem jtL_law__1797 {k23 : Int32 → sy_M → sy_O} (hk23 : ∀ (w5 : Value) (w6 : Value) (a4 : Int32) (M : sy_M) (r : xe_R × sy_M), k23 a4 M = some r → sy_E (56) qL_law_ 23 [.ref 1000000, .ref 0, .ref 121, .ref 132, .int a4, w5, w6] [] M r) : ∀ (w5 : Value) (w6 : Value) (a4 : Int32) (M : sy_M) (r : xe_R × sy_M), jfL_law__1797 k23 a4 M = some r → sy_E (56) qL_law_ 1797 [.ref 1000000, .ref 0, .ref 121, .ref 132, .int a4, w5, w6] [] M r := by
  intro w5 w6 a4 M r h
  exact sy_run_by (d := 55) ((jrL_law__1797 _ _ _ _ M).trans h) hkL (by decide +kernel) (sy_cs_cons (jeX11_tops.deep (by decide)) (sy_cs_cons (jeX12_tops.deep (by decide)) sy_cs_nil)) (sy_us_cons (jwL_law__3150 (jtL_law__3150 hk23)) sy_us_nil)
def jfL_law__1875 (k23 : Int32 → sy_M → sy_O) (a4 : Int32) (M : sy_M) : sy_O :=
  jfL_law__3150 k23 a4 M
set_option maxRecDepth 100000 in
theorem jrL_law__1875 (k23 : Int32 → sy_M → sy_O) (w5 : Value) (w6 : Value) (a4 : Int32) (M : sy_M) : sy_run skL qL_law_ [(1875, .goto 1275, 3, [true, true, true, true, true, false, false])] [] [(3150, juL_law__3150 (jfL_law__3150 k23))] 2 [] 1875 [.ref 1000000, .ref 0, .ref 121, .ref 132, .int a4, w5, w6] [] M = jfL_law__1875 k23 a4 M := rfl
theorem jtL_law__1875 {k23 : Int32 → sy_M → sy_O} (hk23 : ∀ (w5 : Value) (w6 : Value) (a4 : Int32) (M : sy_M) (r : xe_R × sy_M), k23 a4 M = some r → sy_E (56) qL_law_ 23 [.ref 1000000, .ref 0, .ref 121, .ref 132, .int a4, w5, w6] [] M r) : ∀ (w5 : Value) (w6 : Value) (a4 : Int32) (M : sy_M) (r : xe_R × sy_M), jfL_law__1875 k23 a4 M = some r → sy_E (56) qL_law_ 1875 [.ref 1000000, .ref 0, .ref 121, .ref 132, .int a4, w5, w6] [] M r := by
  intro w5 w6 a4 M r h
  exact sy_run_by (d := 55) ((jrL_law__1875 _ _ _ _ M).trans h) hkL (by decide +kernel) sy_cs_nil (sy_us_cons (jwL_law__3150 (jtL_law__3150 hk23)) sy_us_nil)
end
