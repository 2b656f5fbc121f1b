/-! dev tree alone: the functions -/
noncomputable section
def jgX11_bestWait_12 (k12 : Int32 → Int32 → Int32 → Int32 → sy_M → sy_O) (a1 : Int32) (a2 : Int32) (a3 : Int32) (a4 : Int32) (M : sy_M) : sy_O :=
  if 20 < a4 then
    sy_ri a2 M
  else
    sy_bi (jfX11_griefBy a1 a4 M) fun v2 M1 =>
    if v2 < a3 then
      jfX11_bestWait_40 k12 a1 a4 v2 a4 M1
    else
      jfX11_bestWait_40 k12 a1 a2 a3 a4 M1
def jfX11_bestWait_12 : Nat → Int32 → Int32 → Int32 → Int32 → sy_M → sy_O
  | 0, _, _, _, _, _ => none
  | n + 1, a1, a2, a3, a4, M => jgX11_bestWait_12 (jfX11_bestWait_12 n) a1 a2 a3 a4 M
def jfX11_bestWait (a1 : Int32) (M : sy_M) : sy_O :=
  sy_bi (jfX11_griefBy a1 0 M) fun v2 M1 =>
  jfX11_bestWait_12 sy_F a1 0 v2 1 M1
def jfX11_lodger_60 (a1 : Int32) (M : sy_M) : sy_O :=
  sy_bv (jfX8_tell 9 a1 M) fun M1 =>
  sy_bi (jfX4_turnOf 29 M1) fun v3 M2 =>
  sy_ri v3 M2
def jfX11_lodger_87 (a1 : Int32) (M : sy_M) : sy_O :=
  sy_bv (jfX8_tell 9 a1 M) fun M1 =>
  sy_bi (jfX4_isRefused 29 M1) fun v3 M2 =>
  if v3 = 0 then
    sy_ri 0 M2
  else
    sy_ri 1 M2
def jfX11_lodger_122 (a1 : Int32) (M : sy_M) : sy_O :=
  sy_bi (jfX2_get 9 a1 8 M) fun v2 M1 =>
  sy_bi (jfX2_sum 9 8 M1) fun v4 M3 =>
  sy_bi (jfX11_hundredths v2 v4 M3) fun v6 M5 =>
  sy_ri v6 M5
def jfX11_lodger_145 (a1 : Int32) (M : sy_M) : sy_O :=
  sy_bi (jfX2_metered 9 a1 M) fun v2 M1 =>
  sy_ri v2 M1
def jfX11_lodger_154 (a1 : Int32) (M : sy_M) : sy_O :=
  sy_bv (jfX8_learn 9 M) fun M1 =>
  sy_bi (jfX11_bestWait a1 M1) fun v3 M2 =>
  sy_ri v3 M2
def jfX11_lodger_25 (a1 : Int32) (a2 : Int32) (M : sy_M) : sy_O :=
  if a2 = 9 then
    jfX11_lodger_60 a1 M
  else if a2 = 10 then
    jfX11_lodger_87 a1 M
  else if a2 = 11 then
    jfX11_lodger_122 a1 M
  else if a2 = 12 then
    jfX11_lodger_145 a1 M
  else if a2 = 13 then
    jfX11_lodger_154 a1 M
  else sy_bx (xe_in (M 133 0) 100000) <|
  sy_rt 23 (sy_upd M 133 0 (M 133 0 + 1))
def jfX11_lodger (a1 : Int32) (a2 : Int32) (M : sy_M) : sy_O :=
  sy_bv (jfX11_checkLodger a1 M) fun M1 =>
  if a2 < 0 then
    jfX11_lodger_25 a1 a2 M1
  else
    if a2 < 9 then
      sy_bi (jfX2_get 9 a1 a2 M1) fun v3 M2 =>
      sy_ri v3 M2
    else
      jfX11_lodger_25 a1 a2 M1
def jfL_lodger (a1 : Int32) (a2 : Int32) (M : sy_M) : sy_O :=
  sy_hi (jfX11_lodger a1 a2 M) (fun v2 M1 =>
    let M5 := sy_wl M1 132 0 (Int32.toInt64 v2)
    sy_ri 0 M5)
  (fun c3 M4 => if c3 = 22 then sy_ri 1 M4 else if c3 = 23 then sy_ri 2 M4 else none)
def jfX12_isLodger (a1 : Int32) (M : sy_M) : sy_O :=
  sy_bi (jfX12_isIn a1 0 ((M 122 3) - 1) M) fun v2 M1 =>
  sy_bb (sy_bo v2) <| sy_ri v2 M1
def jfX12_of (a1 : Int32) (a2 : Int32) (M : sy_M) : sy_O :=
  sy_bx (xe_in ((14 + (9 * a1)) + a2) 826) <|
  sy_ri (M 122 (Int32.toNatClampNeg ((14 + (9 * a1)) + a2))) M
def jfX12_asks_146 (s0 : Int32) (M : sy_M) : sy_O :=
  sy_bb (sy_bo s0) <|
  let M1 := sy_upd M 121 16 s0
  let v2 := (M1 121 12)
  let M3 := sy_upd M1 121 12 (-1)
  let M4 := sy_upd M3 121 9 426
  let M5 := sy_upd M4 121 10 (M4 122 2)
  let M6 := sy_upd M5 121 11 0
  let M7 := sy_upd M6 121 13 0
  sy_bi (jfX12_read 1 M7) fun v9 M8 =>
  let M10 := sy_upd M8 121 12 v2
  sy_rv M10
def jfX12_asks_121 (a1 : Int32) (s0 : Int32) (M : sy_M) : sy_O :=
  sy_bb (sy_bo s0) <|
  let M1 := sy_upd M 121 15 s0
  sy_bi (jfX12_of a1 6 M1) fun v3 M2 =>
  sy_bi (jfX12_of a1 3 M2) fun v5 M4 =>
  if v5 < v3 then
    jfX12_asks_146 1 M4
  else
    jfX12_asks_146 0 M4
def jfX12_asks_65 (a1 : Int32) (M : sy_M) : sy_O :=
  sy_bi (jfX12_of a1 6 M) fun v2 M1 =>
  let M3 := sy_upd M1 127 4 v2
  let M4 := sy_upd M3 127 5 (M3 122 8)
  let M5 := sy_upd M4 127 6 (M4 122 4)
  if (M5 122 11) = a1 then
    jfX12_asks_121 a1 1 M5
  else
    jfX12_asks_121 a1 0 M5
def jfX12_asks (a1 : Int32) (M : sy_M) : sy_O :=
  let M1 := sy_upd M 121 17 0
  let M2 := sy_upd M1 121 18 0
  if (M2 122 1) < 1 then
    sy_rv M2
  else
    let M3 := sy_upd M2 127 0 a1
    sy_bi (jfX12_of a1 0 M3) fun v5 M4 =>
    let M6 := sy_upd M4 127 1 v5
    sy_bi (jfX12_of a1 5 M6) fun v8 M7 =>
    let M9 := sy_upd M7 127 2 v8
    sy_bi (jfX12_of a1 8 M9) fun v11 M10 =>
    let M12 := sy_upd M10 127 3 v11
    jfX12_asks_65 a1 M12
def jfX12_atHome_42 (M : sy_M) : sy_O :=
  sy_ri 1 M
def jfX12_atHome (a1 : Int32) (a2 : Int32) (M : sy_M) : sy_O :=
  sy_bi (jfX12_of a1 1 M) fun v2 M1 =>
  sy_bi (jfX12_of a1 2 M1) fun v4 M3 =>
  if v4 < v2 then
    if a2 < v2 then
      if v4 < a2 then
        sy_ri 0 M3
      else
        jfX12_atHome_42 M3
    else
      jfX12_atHome_42 M3
  else
    sy_bi (jfX12_isIn a2 v2 v4 M3) fun v6 M5 =>
    sy_bb (sy_bo v6) <| sy_ri v6 M5
def jfX12_homeIn_31 (k4 : Int32 → Int32 → Int32 → sy_M → sy_O) (a1 : Int32) (a3 : Int32) (s0 : Int32) (s1 : Int32) (M : sy_M) : sy_O :=
  let v1 := (s1 ||| s0)
  let v2 := a3 + 1
  k4 a1 v1 v2 M
def jgX12_homeIn_4 (k4 : Int32 → Int32 → Int32 → sy_M → sy_O) (a1 : Int32) (a2 : Int32) (a3 : Int32) (M : sy_M) : sy_O :=
  if a3 < (M 122 3) then
    sy_bi (jfX12_atHome a3 a1 M) fun v2 M1 =>
    if v2 = 0 then
      jfX12_homeIn_31 k4 a1 a3 0 a2 M1
    else
      jfX12_homeIn_31 k4 a1 a3 (1 <<< (a3 &&& 31)) a2 M1
  else
    sy_ri a2 M
def jfX12_homeIn_4 : Nat → Int32 → Int32 → Int32 → sy_M → sy_O
  | 0, _, _, _, _ => none
  | n + 1, a1, a2, a3, M => jgX12_homeIn_4 (jfX12_homeIn_4 n) a1 a2 a3 M
def jfX12_homeIn (a1 : Int32) (M : sy_M) : sy_O :=
  jfX12_homeIn_4 sy_F a1 0 0 M
def jfX12_isOf (a0 : Int32) (a1 : Int32) (M : sy_M) : sy_O :=
  if ((a0 >>> (a1 &&& 31)) &&& 1) = 1 then
    sy_ri 1 M
  else
    sy_ri 0 M
def jfX12_burnsOf_33 (k4 : Int32 → Int32 → Int32 → sy_M → sy_O) (a1 : Int32) (a3 : Int32) (s0 : Int32) (s1 : Int32) (M : sy_M) : sy_O :=
  let v1 := (s1 + s0)
  let v2 := a3 + 1
  k4 a1 v1 v2 M
def jgX12_burnsOf_4 (k4 : Int32 → Int32 → Int32 → sy_M → sy_O) (a1 : Int32) (a2 : Int32) (a3 : Int32) (M : sy_M) : sy_O :=
  if a3 < (M 122 3) then
    sy_bi (jfX12_isOf a1 a3 M) fun v2 M1 =>
    if v2 = 0 then
      jfX12_burnsOf_33 k4 a1 a3 0 a2 M1
    else
      sy_bi (jfX12_of a3 0 M1) fun v4 M3 =>
      jfX12_burnsOf_33 k4 a1 a3 v4 a2 M3
  else
    sy_ri a2 M
def jfX12_burnsOf_4 : Nat → Int32 → Int32 → Int32 → sy_M → sy_O
  | 0, _, _, _, _ => none
  | n + 1, a1, a2, a3, M => jgX12_burnsOf_4 (jfX12_burnsOf_4 n) a1 a2 a3 M
def jfX12_burnsOf (a1 : Int32) (M : sy_M) : sy_O :=
  jfX12_burnsOf_4 sy_F a1 0 0 M
def jfX12_lesser (a0 : Int32) (a1 : Int32) (M : sy_M) : sy_O :=
  if a0 < a1 then
    sy_ri a0 M
  else
    sy_ri a1 M
def jfX12_logs_94 (M : sy_M) : sy_O :=
  sy_bi (jfX12_lesser 60 ((M 122 12) + 1) M) fun v2 M1 =>
  let M3 := sy_upd M1 122 12 v2
  sy_rv M3
def jgX12_logs_4 (k4 : Int32 → Int32 → Int32 → sy_M → sy_O) (a1 : Int32) (a2 : Int32) (a3 : Int32) (M : sy_M) : sy_O :=
  if a3 < 5 then
    let M1 := sy_upd M 122 126 (M 122 5)
    let M2 := sy_upd M1 122 127 (M1 122 4)
    let M3 := sy_upd M2 122 128 a1
    let M4 := sy_upd M3 122 129 a2
    let M5 := sy_upd M4 122 130 (M4 122 6)
    jfX12_logs_94 M5
  else
    sy_bx (xe_in ((126 + a3) - 5) 826) <|
    sy_bx (xe_in (126 + a3) 826) <|
    let M6 := sy_upd M 122 (Int32.toNatClampNeg (126 + a3)) (M 122 (Int32.toNatClampNeg ((126 + a3) - 5)))
    let v7 := a3 + (-1)
    k4 a1 a2 v7 M6
def jfX12_logs_4 : Nat → Int32 → Int32 → Int32 → sy_M → sy_O
  | 0, _, _, _, _ => none
  | n + 1, a1, a2, a3, M => jgX12_logs_4 (jfX12_logs_4 n) a1 a2 a3 M
def jfX12_logs (a1 : Int32) (a2 : Int32) (M : sy_M) : sy_O :=
  jfX12_logs_4 sy_F a1 a2 299 M
def jfX12_isDark_168 (k40 : Int32 → Int32 → sy_M → sy_O) (a1 : Int32) (a2 : Int32) (M : sy_M) : sy_O :=
  let v1 := a2 + 1
  k40 a1 v1 M
def jfX12_isDark_152 (k40 : Int32 → Int32 → sy_M → sy_O) (a1 : Int32) (a2 : Int32) (a3 : Int32) (M : sy_M) : sy_O :=
  sy_bi (jfX12_of a2 3 M) fun v2 M1 =>
  if v2 < a3 then
    jfX12_isDark_168 k40 a1 a2 M1
  else
    sy_bv (jfX12_logs 2 a2 M1) fun M3 =>
    jfX12_isDark_168 k40 a1 a2 M3
def jfX12_isDark_82 (k40 : Int32 → Int32 → sy_M → sy_O) (a1 : Int32) (a2 : Int32) (a3 : Int32) (s0 : Int32) (s1 : Int32) (s2 : Int32) (M : sy_M) : sy_O :=
  sy_bv (jfX12_lays s2 s1 s0 M) fun M1 =>
  sy_bi (jfX12_isOf a1 a2 M1) fun v3 M2 =>
  if v3 = 0 then
    jfX12_isDark_168 k40 a1 a2 M2
  else
    sy_bi (jfX12_of a2 6 M2) fun v5 M4 =>
    sy_bi (jfX12_of a2 3 M4) fun v7 M6 =>
    if v7 < v5 then
      sy_bi (jfX12_of a2 7 M6) fun v9 M8 =>
      sy_bi (jfX12_lesser 999 (v9 + 1) M8) fun v11 M10 =>
      sy_bv (jfX12_lays a2 7 v11 M10) fun M12 =>
      sy_bi (jfX12_of a2 6 M12) fun v14 M13 =>
      sy_bi (jfX12_of a2 3 M13) fun v16 M15 =>
      if v14 = (v16 + 1) then
        jfX12_isDark_152 k40 a1 a2 a3 M15
      else
        jfX12_isDark_168 k40 a1 a2 M15
    else
      jfX12_isDark_168 k40 a1 a2 M6
def jgX12_isDark_40 (k40 : Int32 → Int32 → sy_M → sy_O) (a1 : Int32) (a2 : Int32) (M : sy_M) : sy_O :=
  if a2 < (M 122 3) then
    sy_bi (jfX12_of a2 6 M) fun v2 M1 =>
    sy_bi (jfX12_isOf a1 a2 M1) fun v4 M3 =>
    if v4 = 0 then
      jfX12_isDark_82 k40 a1 a2 v2 0 6 a2 M3
    else
      sy_bi (jfX12_lesser 99 (v2 + 1) M3) fun v6 M5 =>
      jfX12_isDark_82 k40 a1 a2 v2 v6 6 a2 M5
  else
    sy_rv M
def jfX12_isDark_40 : Nat → Int32 → Int32 → sy_M → sy_O
  | 0, _, _, _ => none
  | n + 1, a1, a2, M => jgX12_isDark_40 (jfX12_isDark_40 n) a1 a2 M
def jfX12_isDark_38 (a1 : Int32) (M : sy_M) : sy_O :=
  jfX12_isDark_40 sy_F a1 0 M
def jfX12_isDark (a1 : Int32) (M : sy_M) : sy_O :=
  sy_bi (jfX12_lesser 99 ((M 122 8) + 1) M) fun v2 M1 =>
  let M3 := sy_upd M1 122 8 v2
  if (M3 122 8) = 1 then
    sy_bv (jfX12_logs 0 (-1) M3) fun M4 =>
    jfX12_isDark_38 a1 M4
  else
    jfX12_isDark_38 a1 M3
def jfX12_whoFeeds_94 (k7 : Int32 → Int32 → Int32 → Int32 → sy_M → sy_O) (a1 : Int32) (a2 : Int32) (a3 : Int32) (a4 : Int32) (M : sy_M) : sy_O :=
  let v1 := a4 + 1
  k7 a1 a2 a3 v1 M
def jfX12_whoFeeds_86 (k7 : Int32 → Int32 → Int32 → Int32 → sy_M → sy_O) (a1 : Int32) (a4 : Int32) (M : sy_M) : sy_O :=
  let v1 := (M 121 17)
  jfX12_whoFeeds_94 k7 a1 a4 v1 a4 M
def jfX12_whoFeeds_83 (k7 : Int32 → Int32 → Int32 → Int32 → sy_M → sy_O) (a1 : Int32) (a2 : Int32) (a3 : Int32) (a4 : Int32) (M : sy_M) : sy_O :=
  jfX12_whoFeeds_94 k7 a1 a2 a3 a4 M
def jgX12_whoFeeds_7 (k7 : Int32 → Int32 → Int32 → Int32 → sy_M → sy_O) (a1 : Int32) (a2 : Int32) (a3 : Int32) (a4 : Int32) (M : sy_M) : sy_O :=
  if a4 < (M 122 3) then
    sy_bi (jfX12_isOf a1 a4 M) fun v2 M1 =>
    if v2 = 0 then
      jfX12_whoFeeds_94 k7 a1 a2 a3 a4 M1
    else
      sy_bi (jfX12_of a4 5 M1) fun v4 M3 =>
      if v4 = 0 then
        jfX12_whoFeeds_94 k7 a1 a2 a3 a4 M3
      else
        sy_bi (jfX12_of a4 4 M3) fun v6 M5 =>
        if v6 < (M5 122 8) then
          sy_bv (jfX12_asks a4 M5) fun M7 =>
          if (M7 121 18) = 0 then
            if a2 = (-1) then
              jfX12_whoFeeds_86 k7 a1 a4 M7
            else
              if a3 < (M7 121 17) then
                jfX12_whoFeeds_86 k7 a1 a4 M7
              else
                jfX12_whoFeeds_83 k7 a1 a2 a3 a4 M7
          else
            jfX12_whoFeeds_94 k7 a1 a2 a3 a4 M7
        else
          jfX12_whoFeeds_94 k7 a1 a2 a3 a4 M5
  else
    sy_ri a2 M
def jfX12_whoFeeds_7 : Nat → Int32 → Int32 → Int32 → Int32 → sy_M → sy_O
  | 0, _, _, _, _, _ => none
  | n + 1, a1, a2, a3, a4, M => jgX12_whoFeeds_7 (jfX12_whoFeeds_7 n) a1 a2 a3 a4 M
def jfX12_whoFeeds (a1 : Int32) (M : sy_M) : sy_O :=
  jfX12_whoFeeds_7 sy_F a1 (-1) 0 0 M
def jfX12_feeds_107 (a1 : Int32) (M : sy_M) : sy_O :=
  let M1 := sy_upd M 121 20 ((M 121 20) + 1)
  sy_bv (jfX12_logs 1 a1 M1) fun M2 =>
  sy_rv M2
def jfX12_feeds_86 (a1 : Int32) (M : sy_M) : sy_O :=
  let M1 := sy_upd M 122 11 a1
  if (M1 121 21) = (-1) then
    let M2 := sy_upd M1 121 21 a1
    jfX12_feeds_107 a1 M2
  else
    jfX12_feeds_107 a1 M1
def jfX12_feeds (a1 : Int32) (M : sy_M) : sy_O :=
  sy_bi (jfX12_of a1 5 M) fun v2 M1 =>
  sy_bv (jfX12_lays a1 5 (v2 - 1) M1) fun M3 =>
  sy_bi (jfX12_of a1 8 M3) fun v5 M4 =>
  sy_bi (jfX12_lesser 999 (v5 + 1) M4) fun v7 M6 =>
  sy_bv (jfX12_lays a1 8 v7 M6) fun M8 =>
  sy_bi (jfX12_lesser 9999 ((M8 122 10) + 1) M8) fun v10 M9 =>
  let M11 := sy_upd M9 122 10 v10
  sy_bi (jfX12_lesser 9999 ((M11 122 6) + (M11 122 7)) M11) fun v13 M12 =>
  let M14 := sy_upd M12 122 6 v13
  jfX12_feeds_86 a1 M14
def jgX12_isLit_21 (k21 : Int32 → sy_M → sy_O) (a2 : Int32) (M : sy_M) : sy_O :=
  if a2 < (M 122 3) then
    sy_bv (jfX12_lays a2 6 0 M) fun M1 =>
    let v2 := a2 + 1
    k21 v2 M1
  else
    sy_rv M
def jfX12_isLit_21 : Nat → Int32 → sy_M → sy_O
  | 0, _, _ => none
  | n + 1, a2, M => jgX12_isLit_21 (jfX12_isLit_21 n) a2 M
def jfX12_isLit (a1 : Int32) (M : sy_M) : sy_O :=
  let M1 := sy_upd M 122 6 ((M 122 6) - a1)
  let M2 := sy_upd M1 122 8 0
  jfX12_isLit_21 sy_F 0 M2
def jfX12_draw (a1 : Int32) (M : sy_M) : sy_O :=
  let M1 := sy_upd M 122 13 ((1103515245 * (M 122 13)) + 12345)
  if a1 = 0 then none else
  sy_ri ((((Int32.toUInt32 (M1 122 13) >>> (Int32.toUInt32 16 &&& Int32.toUInt32 31)).toInt32) &&& 32767) - (((Int32.toUInt32 (M1 122 13) >>> (Int32.toUInt32 16 &&& Int32.toUInt32 31)).toInt32) &&& 32767) / a1 * a1) M1
def jfX12_passes_107 (a4 : Int32) (M : sy_M) : sy_O :=
  let M1 := sy_upd M 122 4 ((M 122 4) + 1)
  if (M1 122 4) = 48 then
    let M2 := sy_upd M1 122 4 0
    sy_bi (jfX12_lesser 9999 ((M2 122 5) + 1) M2) fun v4 M3 =>
    let M5 := sy_upd M3 122 5 v4
    sy_bb (sy_bo a4) <| sy_ri a4 M5
  else
    sy_bb (sy_bo a4) <| sy_ri a4 M1
def jfX12_passes_93 (a4 : Int32) (s0 : Int32) (M : sy_M) : sy_O :=
  if s0 = (-1) then
    jfX12_passes_107 a4 M
  else
    sy_bv (jfX12_feeds s0 M) fun M1 =>
    jfX12_passes_107 a4 M1
def jfX12_passes_57 (a2 : Int32) (a3 : Int32) (s0 : Int32) (M : sy_M) : sy_O :=
  if s0 = 0 then
    sy_bv (jfX12_isLit a3 M) fun M4 =>
    jfX12_passes_107 s0 M4
  else
    sy_bv (jfX12_isDark a2 M) fun M1 =>
    if (M1 121 19) = 0 then
      sy_bi (jfX12_whoFeeds a2 M1) fun v3 M2 =>
      jfX12_passes_93 s0 v3 M2
    else
      jfX12_passes_93 s0 (-1) M1
def jfX12_passes_41 (a2 : Int32) (a3 : Int32) (M : sy_M) : sy_O :=
  if (M 122 6) < a3 then
    jfX12_passes_57 a2 a3 1 M
  else
    jfX12_passes_57 a2 a3 0 M
def jfX12_passes (a1 : Int32) (M : sy_M) : sy_O :=
  sy_bi (jfX12_homeIn (M 122 4) M) fun v2 M1 =>
  sy_bi (jfX12_burnsOf v2 M1) fun v4 M3 =>
  if a1 = 0 then
    jfX12_passes_41 v2 v4 M3
  else
    sy_bi (jfX12_draw 100 M3) fun v6 M5 =>
    if v6 < (M5 122 9) then
      let v7 := (v4 * 2)
      jfX12_passes_41 v2 v7 M5
    else
      jfX12_passes_41 v2 v4 M5
def jfX12_goes_35 (k15 : Int32 → Int32 → Int32 → Int32 → sy_M → sy_O) (a1 : Int32) (a2 : Int32) (a4 : Int32) (s0 : Int32) (s1 : Int32) (M : sy_M) : sy_O :=
  let v1 := (s1 + s0)
  let v2 := a4 + 1
  k15 a1 a2 v1 v2 M
def jgX12_goes_15 (k15 : Int32 → Int32 → Int32 → Int32 → sy_M → sy_O) (a1 : Int32) (a2 : Int32) (a3 : Int32) (a4 : Int32) (M : sy_M) : sy_O :=
  if a4 < a1 then
    sy_bi (jfX12_passes a2 M) fun v2 M1 =>
    if v2 = 0 then
      jfX12_goes_35 k15 a1 a2 a4 0 a3 M1
    else
      jfX12_goes_35 k15 a1 a2 a4 1 a3 M1
  else
    sy_ri a3 M
def jfX12_goes_15 : Nat → Int32 → Int32 → Int32 → Int32 → sy_M → sy_O
  | 0, _, _, _, _, _ => none
  | n + 1, a1, a2, a3, a4, M => jgX12_goes_15 (jfX12_goes_15 n) a1 a2 a3 a4 M
def jfX12_goes (a1 : Int32) (a2 : Int32) (M : sy_M) : sy_O :=
  let M1 := sy_upd M 121 20 0
  let M2 := sy_upd M1 121 21 (-1)
  jfX12_goes_15 sy_F a1 a2 0 0 M2
def jgX12_grieves_56 (k56 : Int32 → sy_M → sy_O) (a2 : Int32) (M : sy_M) : sy_O :=
  if a2 < (M 122 3) then
    sy_bx (xe_in a2 7) <|
    sy_bi (jfX12_of a2 7 M) fun v3 M2 =>
    sy_bi (jfX12_of a2 8 M2) fun v5 M4 =>
    sy_bx (xe_in a2 7) <|
    let M6 := sy_upd M4 129 (Int32.toNatClampNeg a2) ((M 129 (Int32.toNatClampNeg a2)) + (v3 + (3 * v5)))
    let v7 := a2 + 1
    k56 v7 M6
  else
    sy_bv (jfX12_comesBack M) fun M1 =>
    sy_rv M1
def jfX12_grieves_56 : Nat → Int32 → sy_M → sy_O
  | 0, _, _ => none
  | n + 1, a2, M => jgX12_grieves_56 (jfX12_grieves_56 n) a2 M
def jgX12_grieves_2 (k2 : Int32 → sy_M → sy_O) (a1 : Int32) (M : sy_M) : sy_O :=
  if a1 < (M 122 3) then
    sy_bi (jfX12_of a1 7 M) fun v5 M4 =>
    sy_bi (jfX12_of a1 8 M4) fun v7 M6 =>
    sy_bx (xe_in a1 7) <|
    let M8 := sy_upd M6 129 (Int32.toNatClampNeg a1) ((-v5) - (3 * v7))
    let v9 := a1 + 1
    k2 v9 M8
  else
    sy_bv (jfX12_putsAside M) fun M1 =>
    sy_bi (jfX12_goes 48 0 M1) fun v3 M2 =>
    jfX12_grieves_56 sy_F 0 M2
def jfX12_grieves_2 : Nat → Int32 → sy_M → sy_O
  | 0, _, _ => none
  | n + 1, a1, M => jgX12_grieves_2 (jfX12_grieves_2 n) a1 M
def jfX12_grieves (M : sy_M) : sy_O :=
  jfX12_grieves_2 sy_F 0 M
def jfX12_griefOf (a1 : Int32) (a2 : Int32) (M : sy_M) : sy_O :=
  sy_bi (jfX12_of a1 4 M) fun v2 M1 =>
  sy_bv (jfX12_lays a1 4 a2 M1) fun M3 =>
  sy_bv (jfX12_grieves M3) fun M4 =>
  sy_bv (jfX12_lays a1 4 v2 M4) fun M5 =>
  sy_bx (xe_in a1 7) <|
  sy_ri (M5 129 (Int32.toNatClampNeg a1)) M5
def jfX12_bestOf_40 (k9 : Int32 → Int32 → Int32 → Int32 → sy_M → sy_O) (a1 : Int32) (a2 : Int32) (a3 : Int32) (a4 : Int32) (M : sy_M) : sy_O :=
  let v1 := a4 + 1
  k9 a1 a2 a3 v1 M
def jgX12_bestOf_9 (k9 : Int32 → Int32 → Int32 → Int32 → sy_M → sy_O) (a1 : Int32) (a2 : Int32) (a3 : Int32) (a4 : Int32) (M : sy_M) : sy_O :=
  if 20 < a4 then
    sy_ri a2 M
  else
    sy_bi (jfX12_griefOf a1 a4 M) fun v2 M1 =>
    if v2 < a3 then
      jfX12_bestOf_40 k9 a1 a4 v2 a4 M1
    else
      jfX12_bestOf_40 k9 a1 a2 a3 a4 M1
def jfX12_bestOf_9 : Nat → Int32 → Int32 → Int32 → Int32 → sy_M → sy_O
  | 0, _, _, _, _, _ => none
  | n + 1, a1, a2, a3, a4, M => jgX12_bestOf_9 (jfX12_bestOf_9 n) a1 a2 a3 a4 M
def jfX12_bestOf (a1 : Int32) (M : sy_M) : sy_O :=
  jfX12_bestOf_9 sy_F a1 0 2000000000 0 M
def jfX12_hoursOf_25 (k4 : Int32 → Int32 → Int32 → sy_M → sy_O) (a1 : Int32) (a3 : Int32) (s0 : Int32) (s1 : Int32) (M : sy_M) : sy_O :=
  let v1 := (s1 + s0)
  let v2 := a3 + 1
  k4 a1 v1 v2 M
def jgX12_hoursOf_4 (k4 : Int32 → Int32 → Int32 → sy_M → sy_O) (a1 : Int32) (a2 : Int32) (a3 : Int32) (M : sy_M) : sy_O :=
  if a3 < 48 then
    sy_bi (jfX12_atHome a1 a3 M) fun v2 M1 =>
    if v2 = 0 then
      jfX12_hoursOf_25 k4 a1 a3 0 a2 M1
    else
      jfX12_hoursOf_25 k4 a1 a3 1 a2 M1
  else
    sy_ri a2 M
def jfX12_hoursOf_4 : Nat → Int32 → Int32 → Int32 → sy_M → sy_O
  | 0, _, _, _, _ => none
  | n + 1, a1, a2, a3, M => jgX12_hoursOf_4 (jfX12_hoursOf_4 n) a1 a2 a3 M
def jfX12_hoursOf (a1 : Int32) (M : sy_M) : sy_O :=
  jfX12_hoursOf_4 sy_F a1 0 0 M
def jfX12_metered (a1 : Int32) (M : sy_M) : sy_O :=
  sy_bi (jfX12_of a1 0 M) fun v2 M1 =>
  sy_bi (jfX12_hoursOf a1 M1) fun v4 M3 =>
  sy_ri (v2 * v4) M3
def jfX12_all (M : sy_M) : sy_O :=
  sy_ri ((1 <<< ((M 122 3) &&& 31)) - 1) M
def jfX12_fedOf_34 (k4 : Int32 → Int32 → Int32 → sy_M → sy_O) (a1 : Int32) (a3 : Int32) (s0 : Int32) (s1 : Int32) (M : sy_M) : sy_O :=
  let v1 := (s1 + s0)
  let v2 := a3 + 1
  k4 a1 v1 v2 M
def jgX12_fedOf_4 (k4 : Int32 → Int32 → Int32 → sy_M → sy_O) (a1 : Int32) (a2 : Int32) (a3 : Int32) (M : sy_M) : sy_O :=
  if a3 < (M 122 3) then
    sy_bi (jfX12_isOf a1 a3 M) fun v2 M1 =>
    if v2 = 0 then
      jfX12_fedOf_34 k4 a1 a3 0 a2 M1
    else
      sy_bi (jfX12_of a3 8 M1) fun v4 M3 =>
      jfX12_fedOf_34 k4 a1 a3 v4 a2 M3
  else
    sy_ri a2 M
def jfX12_fedOf_4 : Nat → Int32 → Int32 → Int32 → sy_M → sy_O
  | 0, _, _, _, _ => none
  | n + 1, a1, a2, a3, M => jgX12_fedOf_4 (jfX12_fedOf_4 n) a1 a2 a3 M
def jfX12_fedOf (a1 : Int32) (M : sy_M) : sy_O :=
  jfX12_fedOf_4 sy_F a1 0 0 M
def jfX12_lodger_28 (a1 : Int32) (a2 : Int32) (s0 : Int32) (M : sy_M) : sy_O :=
  let M1 := sy_upd M 121 0 s0
  if 0 < (M1 121 0) then
    sy_ri 0 M1
  else
    if a2 < 9 then
      sy_bi (jfX12_of a1 a2 M1) fun v18 M17 =>
      sy_ri v18 M17
    else
      sy_bv (jfX12_asks a1 M1) fun M2 =>
      if a2 = 9 then
        sy_ri (M2 121 17) M2
      else
        if a2 = 10 then
          if (M2 121 18) = 0 then
            sy_ri 0 M2
          else
            sy_ri 1 M2
        else
          if a2 = 11 then
            sy_bi (jfX12_all M2) fun v8 M7 =>
            sy_bi (jfX12_fedOf v8 M7) fun v10 M9 =>
            if v10 = 0 then
              sy_ri 0 M9
            else
              sy_bi (jfX12_of a1 8 M9) fun v12 M11 =>
              sy_bi (jfX12_all M11) fun v14 M13 =>
              sy_bi (jfX12_fedOf v14 M13) fun v16 M15 =>
              if v16 = 0 then none else
              sy_ri ((100 * v12) / v16) M15
          else
            if a2 = 12 then
              sy_bi (jfX12_metered a1 M2) fun v6 M5 =>
              sy_ri v6 M5
            else
              sy_bi (jfX12_bestOf a1 M2) fun v4 M3 =>
              sy_ri v4 M3
def jfX12_lodger (a1 : Int32) (a2 : Int32) (M : sy_M) : sy_O :=
  sy_bi (jfX12_isLodger a1 M) fun v2 M1 =>
  if v2 = 0 then
    jfX12_lodger_28 a1 a2 1 M1
  else
    sy_bi (jfX12_isIn a2 0 13 M1) fun v4 M3 =>
    if v4 = 0 then
      jfX12_lodger_28 a1 a2 2 M3
    else
      jfX12_lodger_28 a1 a2 0 M3
def jfX11_checkTwo (a1 : Int32) (a2 : Int32) (M : sy_M) : sy_O :=
  sy_bv (jfX11_checkLodger a1 M) fun M1 =>
  sy_bv (jfX11_checkLodger a2 M1) fun M2 =>
  if a1 = a2 then
    sy_bx (xe_in (M2 133 0) 100000) <|
    sy_rt 20 (sy_upd M2 133 0 (M2 133 0 + 1))
  else
    sy_rv M2
def jfX2_owed (r0 : Nat) (a1 : Int32) (a2 : Int32) (M : sy_M) : sy_O :=
  sy_bi (jfX2_isDebt a1 a2 M) fun v2 M1 =>
  if v2 = 0 then
    sy_ri 0 M1
  else
    sy_bs (sy_is 2 r0) <|
    sy_bx (xe_in ((a1 * 7) + a2) (sy_len M1 (r0 + 2))) <|
    sy_ri (M1 (r0 + 2) (Int32.toNatClampNeg ((a1 * 7) + a2))) M1
def jfX11_owes (a1 : Int32) (a2 : Int32) (M : sy_M) : sy_O :=
  sy_bv (jfX11_checkTwo a1 a2 M) fun M1 =>
  sy_bi (jfX2_owed 9 a1 a2 M1) fun v3 M2 =>
  sy_ri v3 M2
def jfL_owes (a1 : Int32) (a2 : Int32) (M : sy_M) : sy_O :=
  sy_hi (jfX11_owes a1 a2 M) (fun v2 M1 =>
    let M5 := sy_wl M1 132 0 (Int32.toInt64 v2)
    sy_ri 0 M5)
  (fun c3 M4 => if c3 = 22 then sy_ri 1 M4 else if c3 = 20 then sy_ri 2 M4 else none)
def jfX12_areTwo_17 (M : sy_M) : sy_O :=
  let M1 := sy_upd M 121 0 1
  sy_rv M1
def jfX12_areTwo (a1 : Int32) (a2 : Int32) (M : sy_M) : sy_O :=
  sy_bi (jfX12_isLodger a1 M) fun v2 M1 =>
  if v2 = 0 then
    jfX12_areTwo_17 M1
  else
    sy_bi (jfX12_isLodger a2 M1) fun v4 M3 =>
    if v4 = 0 then
      jfX12_areTwo_17 M3
    else
      if a1 = a2 then
        let M6 := sy_upd M3 121 0 2
        sy_rv M6
      else
        let M5 := sy_upd M3 121 0 0
        sy_rv M5
def jfX12_owed (a1 : Int32) (a2 : Int32) (M : sy_M) : sy_O :=
  sy_bx (xe_in ((77 + (7 * a1)) + a2) 826) <|
  sy_ri (M 122 (Int32.toNatClampNeg ((77 + (7 * a1)) + a2))) M
def jfX12_owes (a1 : Int32) (a2 : Int32) (M : sy_M) : sy_O :=
  sy_bv (jfX12_areTwo a1 a2 M) fun M1 =>
  if 0 < (M1 121 0) then
    sy_ri 0 M1
  else
    sy_bi (jfX12_owed a1 a2 M1) fun v3 M2 =>
    sy_ri v3 M2
def jfX11_checkTick (a0 : Int32) (M : sy_M) : sy_O :=
  if a0 < 0 then
    sy_bx (xe_in (M 133 0) 100000) <|
    sy_rt 22 (sy_upd M 133 0 (M 133 0 + 1))
  else
    if a0 < 48 then
      sy_rv M
    else
      sy_bx (xe_in (M 133 0) 100000) <|
      sy_rt 22 (sy_upd M 133 0 (M 133 0 + 1))
def jfX11_isHome (a1 : Int32) (a2 : Int32) (M : sy_M) : sy_O :=
  sy_bv (jfX11_checkLodger a1 M) fun M1 =>
  sy_bv (jfX11_checkTick a2 M1) fun M2 =>
  sy_bi (jfX2_isIn 9 a1 a2 M2) fun v4 M3 =>
  sy_bb (sy_bo v4) <| sy_ri v4 M3
def jfL_isHome_16 (s0 : Int64) (s1 : Int32) (M : sy_M) : sy_O :=
  sy_bx (xe_in s1 1) <|
  let M1 := sy_wl M 132 (Int32.toNatClampNeg s1) s0
  sy_ri 0 M1
def jfL_isHome (a1 : Int32) (a2 : Int32) (M : sy_M) : sy_O :=
  sy_hi (jfX11_isHome a1 a2 M) (fun v2 M1 =>
    if v2 = 0 then
      jfL_isHome_16 (Int64.ofNat 0) 0 M1
    else
      jfL_isHome_16 (Int64.ofNat 1) 0 M1)
  (fun c3 M4 => if c3 = 22 then sy_ri 1 M4 else none)
def jfX12_isTick (a0 : Int32) (M : sy_M) : sy_O :=
  sy_bi (jfX12_isIn a0 0 47 M) fun v2 M1 =>
  sy_bb (sy_bo v2) <| sy_ri v2 M1
def jfX12_isHome_21 (a1 : Int32) (a2 : Int32) (s0 : Int32) (M : sy_M) : sy_O :=
  let M1 := sy_upd M 121 0 s0
  if (M1 121 0) = 0 then
    sy_bi (jfX12_atHome a1 a2 M1) fun v3 M2 =>
    if v3 = 0 then
      sy_ri 0 M2
    else
      sy_ri 1 M2
  else
    sy_ri 0 M1
def jfX12_isHome_16 (a1 : Int32) (a2 : Int32) (M : sy_M) : sy_O :=
  jfX12_isHome_21 a1 a2 1 M
def jfX12_isHome (a1 : Int32) (a2 : Int32) (M : sy_M) : sy_O :=
  sy_bi (jfX12_isLodger a1 M) fun v2 M1 =>
  if v2 = 0 then
    jfX12_isHome_16 a1 a2 M1
  else
    sy_bi (jfX12_isTick a2 M1) fun v4 M3 =>
    if v4 = 0 then
      jfX12_isHome_16 a1 a2 M3
    else
      jfX12_isHome_21 a1 a2 0 M3
def jfX11_needs (a1 : Int32) (M : sy_M) : sy_O :=
  sy_bv (jfX11_checkTick a1 M) fun M1 =>
  sy_bv (jfX8_learn 9 M1) fun M2 =>
  sy_bi (jfX8_needsAt a1 M2) fun v4 M3 =>
  sy_ri v4 M3
def jfL_needs (a1 : Int32) (M : sy_M) : sy_O :=
  sy_hi (jfX11_needs a1 M) (fun v2 M1 =>
    let M5 := sy_wl M1 132 0 (Int32.toInt64 v2)
    sy_ri 0 M5)
  (fun c3 M4 => if c3 = 22 then sy_ri 1 M4 else none)
def jfX12_needsIn (a1 : Int32) (M : sy_M) : sy_O :=
  sy_bi (jfX12_homeIn a1 M) fun v2 M1 =>
  sy_bi (jfX12_burnsOf v2 M1) fun v4 M3 =>
  sy_ri v4 M3
def jfX12_needs_13 (a1 : Int32) (s0 : Int32) (M : sy_M) : sy_O :=
  let M1 := sy_upd M 121 0 s0
  if 0 < (M1 121 0) then
    sy_ri 0 M1
  else
    sy_bi (jfX12_needsIn a1 M1) fun v3 M2 =>
    sy_ri v3 M2
def jfX12_needs (a1 : Int32) (M : sy_M) : sy_O :=
  sy_bi (jfX12_isTick a1 M) fun v2 M1 =>
  if v2 = 0 then
    jfX12_needs_13 a1 1 M1
  else
    jfX12_needs_13 a1 0 M1
def jfX11_checkRange (a0 : Int32) (a1 : Int32) (a2 : Int32) (M : sy_M) : sy_O :=
  if a0 < a1 then
    sy_bx (xe_in (M 133 0) 100000) <|
    sy_rt 20 (sy_upd M 133 0 (M 133 0 + 1))
  else
    if a2 < a0 then
      sy_bx (xe_in (M 133 0) 100000) <|
      sy_rt 20 (sy_upd M 133 0 (M 133 0 + 1))
    else
      sy_rv M
def jfX0_slot (a1 : Int32) (M : sy_M) : sy_O :=
  if a1 < 0 then
    sy_rn M
  else
    if a1 < 12 then
      sy_bx (xe_in a1 12) <|
      sy_rr (59 + 5 * (Int32.toNatClampNeg a1)) M
    else
      sy_rn M
def jfX0_remember_41 (s0 : Int32) (M : sy_M) : sy_O :=
  let M1 := sy_upd M 57 2 s0
  sy_bi (jfJ9_min_7cf53 12 ((M1 57 1) + 1) M1) fun v3 M2 =>
  let M4 := sy_upd M2 57 1 v3
  sy_rv M4
def jfX0_remember (r1 : Nat) (M : sy_M) : sy_O :=
  sy_br (jfX0_slot (M 57 2) M) (fun r2 M1 =>
  sy_bs (sy_is 2 r2) <|
    sy_bv (jfX2_takeOver r2 r1 M1) fun M4 =>
    if ((M4 57 2) + 1) < 12 then
      jfX0_remember_41 ((M4 57 2) + 1) M4
    else
      jfX0_remember_41 0 M4)
  (fun M3 =>
  sy_rv M3)
def jfX11_ticks_62 (k33 : Int32 → Int32 → Int32 → sy_M → sy_O) (a1 : Int32) (a2 : Int32) (a3 : Int32) (M : sy_M) : sy_O :=
  let v1 := a3 + 1
  k33 a1 a2 v1 M
def jgX11_ticks_33 (k33 : Int32 → Int32 → Int32 → sy_M → sy_O) (a1 : Int32) (a2 : Int32) (a3 : Int32) (M : sy_M) : sy_O :=
  if a3 < a1 then
    sy_bi (jfX8_pass 9 29 1 M) fun v2 M1 =>
    if v2 = (-2) then
      jfX11_ticks_62 k33 a1 a2 a3 M1
    else
      let v3 := a2 + 1
      jfX11_ticks_62 k33 a1 v3 a3 M1
  else
    sy_ri a2 M
def jfX11_ticks_33 : Nat → Int32 → Int32 → Int32 → sy_M → sy_O
  | 0, _, _, _, _ => none
  | n + 1, a1, a2, a3, M => jgX11_ticks_33 (jfX11_ticks_33 n) a1 a2 a3 M
def jfX11_ticks (a1 : Int32) (M : sy_M) : sy_O :=
  sy_bv (jfX11_checkRange a1 1 96 M) fun M1 =>
  sy_bv (jfX0_remember 9 M1) fun M2 =>
  sy_bv (jfX8_learn 9 M2) fun M3 =>
  jfX11_ticks_33 sy_F a1 0 0 M3
def jfL_ticks (a1 : Int32) (M : sy_M) : sy_O :=
  sy_hi (jfX11_ticks a1 M) (fun v2 M1 =>
    let M5 := sy_wl M1 132 0 (Int32.toInt64 v2)
    sy_ri 0 M5)
  (fun c3 M4 => if c3 = 20 then sy_ri 1 M4 else none)
def jgX12_remembers_52 (k52 : Int32 → sy_M → sy_O) (a1 : Int32) (M : sy_M) : sy_O :=
  if a1 < 426 then
    sy_bx (xe_in a1 826) <|
    sy_bx (xe_in ((426 * (M 121 6)) + a1) 5112) <|
    let M2 := sy_upd M 125 (Int32.toNatClampNeg ((426 * (M 121 6)) + a1)) (M 122 (Int32.toNatClampNeg a1))
    let v3 := a1 + 1
    k52 v3 M2
  else
    let M1 := sy_upd M 121 6 ((M 121 6) + 1)
    sy_rv M1
def jfX12_remembers_52 : Nat → Int32 → sy_M → sy_O
  | 0, _, _ => none
  | n + 1, a1, M => jgX12_remembers_52 (jfX12_remembers_52 n) a1 M
def jfX12_remembers_50 (M : sy_M) : sy_O :=
  jfX12_remembers_52 sy_F 0 M
def jgX12_remembers_11 (k11 : Int32 → sy_M → sy_O) (a1 : Int32) (M : sy_M) : sy_O :=
  if a1 < 4686 then
    sy_bx (xe_in (a1 + 426) 5112) <|
    sy_bx (xe_in a1 5112) <|
    let M2 := sy_upd M 125 (Int32.toNatClampNeg a1) (M 125 (Int32.toNatClampNeg (a1 + 426)))
    let v3 := a1 + 1
    k11 v3 M2
  else
    let M1 := sy_upd M 121 6 ((M 121 6) - 1)
    jfX12_remembers_50 M1
def jfX12_remembers_11 : Nat → Int32 → sy_M → sy_O
  | 0, _, _ => none
  | n + 1, a1, M => jgX12_remembers_11 (jfX12_remembers_11 n) a1 M
def jfX12_remembers (M : sy_M) : sy_O :=
  if (M 121 6) = 12 then
    jfX12_remembers_11 sy_F 0 M
  else
    jfX12_remembers_50 M
def jfX12_ticks_16 (a1 : Int32) (s0 : Int32) (M : sy_M) : sy_O :=
  let M1 := sy_upd M 121 0 s0
  if 0 < (M1 121 0) then
    sy_ri 0 M1
  else
    sy_bv (jfX12_remembers M1) fun M2 =>
    sy_bi (jfX12_goes a1 1 M2) fun v4 M3 =>
    sy_ri v4 M3
def jfX12_ticks (a1 : Int32) (M : sy_M) : sy_O :=
  sy_bi (jfX12_isIn a1 1 96 M) fun v2 M1 =>
  if v2 = 0 then
    jfX12_ticks_16 a1 1 M1
  else
    jfX12_ticks_16 a1 0 M1
def jfX11_put (a1 : Int32) (M : sy_M) : sy_O :=
  sy_bv (jfX11_checkLodger a1 M) fun M1 =>
  sy_bi (jfX2_get 9 a1 5 M1) fun v3 M2 =>
  if v3 < 1 then
    sy_bx (xe_in (M2 133 0) 100000) <|
    sy_rt 24 (sy_upd M2 133 0 (M2 133 0 + 1))
  else
    sy_bv (jfX0_remember 9 M2) fun M4 =>
    sy_bv (jfX2_takeCoin 9 a1 M4) fun M5 =>
    sy_ri (M5 9 7) M5
def jfL_put (a1 : Int32) (M : sy_M) : sy_O :=
  sy_hi (jfX11_put a1 M) (fun v2 M1 =>
    let M5 := sy_wl M1 132 0 (Int32.toInt64 v2)
    sy_ri 0 M5)
  (fun c3 M4 => if c3 = 22 then sy_ri 1 M4 else if c3 = 24 then sy_ri 2 M4 else none)
def jfX12_put_41 (a1 : Int32) (s0 : Int32) (M : sy_M) : sy_O :=
  let M1 := sy_upd M 121 0 s0
  if 0 < (M1 121 0) then
    sy_ri 0 M1
  else
    sy_bv (jfX12_remembers M1) fun M2 =>
    sy_bv (jfX12_feeds a1 M2) fun M3 =>
    sy_ri (M3 122 6) M3
def jfX12_put_14 (a1 : Int32) (s0 : Int32) (M : sy_M) : sy_O :=
  let M1 := sy_upd M 121 0 s0
  if 0 < (M1 121 0) then
    sy_ri 0 M1
  else
    sy_bi (jfX12_of a1 5 M1) fun v3 M2 =>
    if v3 = 0 then
      jfX12_put_41 a1 2 M2
    else
      jfX12_put_41 a1 0 M2
def jfX12_put (a1 : Int32) (M : sy_M) : sy_O :=
  sy_bi (jfX12_isLodger a1 M) fun v2 M1 =>
  if v2 = 0 then
    jfX12_put_14 a1 1 M1
  else
    jfX12_put_14 a1 0 M1
def jfX2_moveCoins (r0 : Nat) (a1 : Int32) (a2 : Int32) (a3 : Int32) (M : sy_M) : sy_O :=
  sy_bs (sy_is 2 r0) <|
  sy_bi (jfX2_get r0 a1 5 M) fun v2 M1 =>
  sy_bs (sy_is 2 r0) <|
  sy_bv (jfX2_set r0 a1 5 (v2 - a3) M1) fun M3 =>
  sy_bs (sy_is 2 r0) <|
  sy_bi (jfX2_get r0 a2 5 M3) fun v5 M4 =>
  sy_bs (sy_is 2 r0) <|
  sy_bv (jfX2_set r0 a2 5 (v5 + a3) M4) fun M6 =>
  sy_rv M6
def jfX11_lend_77 (a1 : Int32) (a2 : Int32) (M : sy_M) : sy_O :=
  sy_bi (jfX2_owed 9 a2 a1 M) fun v2 M1 =>
  sy_bv (jfX2_setOwed 9 a2 a1 (v2 + 1) M1) fun M3 =>
  sy_bi (jfX2_get 9 a1 5 M3) fun v5 M4 =>
  sy_ri v5 M4
def jfX11_lend (a1 : Int32) (a2 : Int32) (M : sy_M) : sy_O :=
  sy_bv (jfX11_checkTwo a1 a2 M) fun M1 =>
  sy_bi (jfX2_get 9 a1 5 M1) fun v3 M2 =>
  if v3 < 1 then
    sy_bx (xe_in (M2 133 0) 100000) <|
    sy_rt 24 (sy_upd M2 133 0 (M2 133 0 + 1))
  else
    sy_bi (jfX2_get 9 a2 5 M2) fun v5 M4 =>
    if v5 < 999 then
      sy_bi (jfX2_owed 9 a2 a1 M4) fun v7 M6 =>
      if v7 < 99 then
        sy_bv (jfX0_remember 9 M6) fun M8 =>
        sy_bv (jfX2_moveCoins 9 a1 a2 1 M8) fun M9 =>
        jfX11_lend_77 a1 a2 M9
      else
        sy_bx (xe_in (M6 133 0) 100000) <|
        sy_rt 24 (sy_upd M6 133 0 (M6 133 0 + 1))
    else
      sy_bx (xe_in (M4 133 0) 100000) <|
      sy_rt 24 (sy_upd M4 133 0 (M4 133 0 + 1))
def jfL_lend (a1 : Int32) (a2 : Int32) (M : sy_M) : sy_O :=
  sy_hi (jfX11_lend a1 a2 M) (fun v2 M1 =>
    let M5 := sy_wl M1 132 0 (Int32.toInt64 v2)
    sy_ri 0 M5)
  (fun c3 M4 => if c3 = 22 then sy_ri 1 M4 else if c3 = 20 then sy_ri 2 M4 else if c3 = 24 then sy_ri 3 M4 else none)
def jfX12_sets (a1 : Int32) (a2 : Int32) (M : sy_M) : sy_O :=
  sy_bv (jfX12_remembers M) fun M1 =>
  sy_bx (xe_in a1 826) <|
  let v2 := (M1 122 (Int32.toNatClampNeg a1))
  sy_bx (xe_in a1 826) <|
  let M3 := sy_upd M1 122 (Int32.toNatClampNeg a1) a2
  sy_ri v2 M3
def jfX12_lend_115 (a1 : Int32) (M : sy_M) : sy_O :=
  sy_bi (jfX12_of a1 5 M) fun v2 M1 =>
  sy_ri v2 M1
def jfX12_lend_53 (a1 : Int32) (a2 : Int32) (s0 : Int32) (M : sy_M) : sy_O :=
  let M1 := sy_upd M 121 0 s0
  if 0 < (M1 121 0) then
    sy_ri 0 M1
  else
    sy_bi (jfX12_owed a2 a1 M1) fun v3 M2 =>
    sy_bi (jfX12_sets ((77 + (7 * a2)) + a1) (v3 + 1) M2) fun v5 M4 =>
    sy_bi (jfX12_of a1 5 M4) fun v7 M6 =>
    sy_bv (jfX12_lays a1 5 (v7 - 1) M6) fun M8 =>
    sy_bi (jfX12_of a2 5 M8) fun v10 M9 =>
    sy_bv (jfX12_lays a2 5 (v10 + 1) M9) fun M11 =>
    jfX12_lend_115 a1 M11
def jfX12_lend_48 (a1 : Int32) (a2 : Int32) (M : sy_M) : sy_O :=
  jfX12_lend_53 a1 a2 3 M
def jfX12_lend (a1 : Int32) (a2 : Int32) (M : sy_M) : sy_O :=
  sy_bv (jfX12_areTwo a1 a2 M) fun M1 =>
  if 0 < (M1 121 0) then
    sy_ri 0 M1
  else
    sy_bi (jfX12_of a1 5 M1) fun v3 M2 =>
    if v3 = 0 then
      jfX12_lend_48 a1 a2 M2
    else
      sy_bi (jfX12_of a2 5 M2) fun v5 M4 =>
      if v5 = 999 then
        jfX12_lend_48 a1 a2 M4
      else
        sy_bi (jfX12_owed a2 a1 M4) fun v7 M6 =>
        if v7 = 99 then
          jfX12_lend_48 a1 a2 M6
        else
          jfX12_lend_53 a1 a2 0 M6
def jfX11_repay_80 (a1 : Int32) (a2 : Int32) (a3 : Int32) (M : sy_M) : sy_O :=
  sy_bi (jfX2_owed 9 a1 a2 M) fun v2 M1 =>
  sy_bv (jfX2_setOwed 9 a1 a2 (v2 - a3) M1) fun M3 =>
  sy_ri a3 M3
def jfX11_repay (a1 : Int32) (a2 : Int32) (M : sy_M) : sy_O :=
  sy_bv (jfX11_checkTwo a1 a2 M) fun M1 =>
  sy_bi (jfX2_owed 9 a1 a2 M1) fun v3 M2 =>
  sy_bi (jfX2_get 9 a1 5 M2) fun v5 M4 =>
  sy_bi (jfJ9_min_7cf53 v3 v5 M4) fun v7 M6 =>
  sy_bi (jfX2_get 9 a2 5 M6) fun v9 M8 =>
  sy_bi (jfJ9_min_7cf53 v7 (999 - v9) M8) fun v11 M10 =>
  if v11 < 1 then
    sy_bx (xe_in (M10 133 0) 100000) <|
    sy_rt 24 (sy_upd M10 133 0 (M10 133 0 + 1))
  else
    sy_bv (jfX0_remember 9 M10) fun M12 =>
    sy_bv (jfX2_moveCoins 9 a1 a2 v11 M12) fun M13 =>
    jfX11_repay_80 a1 a2 v11 M13
def jfL_repay (a1 : Int32) (a2 : Int32) (M : sy_M) : sy_O :=
  sy_hi (jfX11_repay a1 a2 M) (fun v2 M1 =>
    let M5 := sy_wl M1 132 0 (Int32.toInt64 v2)
    sy_ri 0 M5)
  (fun c3 M4 => if c3 = 22 then sy_ri 1 M4 else if c3 = 20 then sy_ri 2 M4 else if c3 = 24 then sy_ri 3 M4 else none)
def jfX12_repay_54 (a1 : Int32) (a2 : Int32) (a3 : Int32) (s0 : Int32) (M : sy_M) : sy_O :=
  let M1 := sy_upd M 121 0 s0
  if 0 < (M1 121 0) then
    sy_ri 0 M1
  else
    sy_bi (jfX12_owed a1 a2 M1) fun v3 M2 =>
    sy_bi (jfX12_sets ((77 + (7 * a1)) + a2) (v3 - a3) M2) fun v5 M4 =>
    sy_bi (jfX12_of a1 5 M4) fun v7 M6 =>
    sy_bv (jfX12_lays a1 5 (v7 - a3) M6) fun M8 =>
    sy_bi (jfX12_of a2 5 M8) fun v10 M9 =>
    sy_bv (jfX12_lays a2 5 (v10 + a3) M9) fun M11 =>
    sy_ri a3 M11
def jfX12_repay (a1 : Int32) (a2 : Int32) (M : sy_M) : sy_O :=
  sy_bv (jfX12_areTwo a1 a2 M) fun M1 =>
  if 0 < (M1 121 0) then
    sy_ri 0 M1
  else
    sy_bi (jfX12_owed a1 a2 M1) fun v3 M2 =>
    sy_bi (jfX12_of a1 5 M2) fun v5 M4 =>
    sy_bi (jfX12_of a2 5 M4) fun v7 M6 =>
    sy_bi (jfX12_lesser v5 (999 - v7) M6) fun v9 M8 =>
    sy_bi (jfX12_lesser v3 v9 M8) fun v11 M10 =>
    if v11 = 0 then
      jfX12_repay_54 a1 a2 v11 3 M10
    else
      jfX12_repay_54 a1 a2 v11 0 M10
def jfX11_waits (a1 : Int32) (a2 : Int32) (M : sy_M) : sy_O :=
  sy_bv (jfX11_checkLodger a1 M) fun M1 =>
  sy_bv (jfX11_checkRange a2 0 20 M1) fun M2 =>
  sy_bv (jfX0_remember 9 M2) fun M3 =>
  sy_bi (jfX2_get 9 a1 4 M3) fun v5 M4 =>
  sy_bv (jfX2_set 9 a1 4 a2 M4) fun M6 =>
  sy_ri v5 M6
def jfL_waits (a1 : Int32) (a2 : Int32) (M : sy_M) : sy_O :=
  sy_hi (jfX11_waits a1 a2 M) (fun v2 M1 =>
    let M5 := sy_wl M1 132 0 (Int32.toInt64 v2)
    sy_ri 0 M5)
  (fun c3 M4 => if c3 = 22 then sy_ri 1 M4 else if c3 = 20 then sy_ri 2 M4 else none)
def jfX12_waits_28 (a1 : Int32) (a2 : Int32) (s0 : Int32) (M : sy_M) : sy_O :=
  let M1 := sy_upd M 121 0 s0
  if 0 < (M1 121 0) then
    sy_ri 0 M1
  else
    sy_bi (jfX12_sets ((14 + (9 * a1)) + 4) a2 M1) fun v3 M2 =>
    sy_ri v3 M2
def jfX12_waits (a1 : Int32) (a2 : Int32) (M : sy_M) : sy_O :=
  sy_bi (jfX12_isLodger a1 M) fun v2 M1 =>
  if v2 = 0 then
    jfX12_waits_28 a1 a2 1 M1
  else
    sy_bi (jfX12_isIn a2 0 20 M1) fun v4 M3 =>
    if v4 = 0 then
      jfX12_waits_28 a1 a2 2 M3
    else
      jfX12_waits_28 a1 a2 0 M3
def jfX11_price (a1 : Int32) (M : sy_M) : sy_O :=
  sy_bv (jfX11_checkRange a1 1 99 M) fun M1 =>
  sy_bv (jfX0_remember 9 M1) fun M2 =>
  let v3 := (M2 9 8)
  let M4 := sy_upd M2 9 8 a1
  sy_ri v3 M4
def jfL_price (a1 : Int32) (M : sy_M) : sy_O :=
  sy_hi (jfX11_price a1 M) (fun v2 M1 =>
    let M5 := sy_wl M1 132 0 (Int32.toInt64 v2)
    sy_ri 0 M5)
  (fun c3 M4 => if c3 = 20 then sy_ri 1 M4 else none)
def jfX12_price_16 (a1 : Int32) (s0 : Int32) (M : sy_M) : sy_O :=
  let M1 := sy_upd M 121 0 s0
  if 0 < (M1 121 0) then
    sy_ri 0 M1
  else
    sy_bi (jfX12_sets 7 a1 M1) fun v3 M2 =>
    sy_ri v3 M2
def jfX12_price (a1 : Int32) (M : sy_M) : sy_O :=
  sy_bi (jfX12_isIn a1 1 99 M) fun v2 M1 =>
  if v2 = 0 then
    jfX12_price_16 a1 1 M1
  else
    jfX12_price_16 a1 0 M1
def jfX2_swapRooms (r0 : Nat) (a1 : Int32) (a2 : Int32) (M : sy_M) : sy_O :=
  sy_bs (sy_is 2 r0) <|
  sy_bi (jfX2_get r0 a1 0 M) fun v2 M1 =>
  sy_bs (sy_is 2 r0) <|
  sy_bi (jfX2_get r0 a1 3 M1) fun v4 M3 =>
  sy_bs (sy_is 2 r0) <|
  sy_bi (jfX2_get r0 a2 0 M3) fun v6 M5 =>
  sy_bs (sy_is 2 r0) <|
  sy_bv (jfX2_set r0 a1 0 v6 M5) fun M7 =>
  sy_bs (sy_is 2 r0) <|
  sy_bi (jfX2_get r0 a2 3 M7) fun v9 M8 =>
  sy_bs (sy_is 2 r0) <|
  sy_bv (jfX2_set r0 a1 3 v9 M8) fun M10 =>
  sy_bs (sy_is 2 r0) <|
  sy_bv (jfX2_set r0 a2 0 v2 M10) fun M11 =>
  sy_bs (sy_is 2 r0) <|
  sy_bv (jfX2_set r0 a2 3 v4 M11) fun M12 =>
  sy_rv M12
def jfX11_change (a1 : Int32) (a2 : Int32) (M : sy_M) : sy_O :=
  sy_bv (jfX11_checkTwo a1 a2 M) fun M1 =>
  sy_bv (jfX0_remember 9 M1) fun M2 =>
  sy_bv (jfX2_swapRooms 9 a1 a2 M2) fun M3 =>
  sy_bi (jfX2_get 9 a1 0 M3) fun v5 M4 =>
  sy_ri v5 M4
def jfL_change (a1 : Int32) (a2 : Int32) (M : sy_M) : sy_O :=
  sy_hi (jfX11_change a1 a2 M) (fun v2 M1 =>
    let M5 := sy_wl M1 132 0 (Int32.toInt64 v2)
    sy_ri 0 M5)
  (fun c3 M4 => if c3 = 22 then sy_ri 1 M4 else if c3 = 20 then sy_ri 2 M4 else none)
def jfX12_rooms (a1 : Int32) (a2 : Int32) (M : sy_M) : sy_O :=
  sy_bi (jfX12_of a1 0 M) fun v2 M1 =>
  sy_bi (jfX12_of a1 3 M1) fun v4 M3 =>
  sy_bi (jfX12_of a2 0 M3) fun v6 M5 =>
  sy_bv (jfX12_lays a1 0 v6 M5) fun M7 =>
  sy_bi (jfX12_of a2 3 M7) fun v9 M8 =>
  sy_bv (jfX12_lays a1 3 v9 M8) fun M10 =>
  sy_bv (jfX12_lays a2 0 v2 M10) fun M11 =>
  sy_bv (jfX12_lays a2 3 v4 M11) fun M12 =>
  sy_rv M12
def jfX12_change (a1 : Int32) (a2 : Int32) (M : sy_M) : sy_O :=
  sy_bv (jfX12_areTwo a1 a2 M) fun M1 =>
  if 0 < (M1 121 0) then
    sy_ri 0 M1
  else
    sy_bv (jfX12_remembers M1) fun M2 =>
    sy_bv (jfX12_rooms a1 a2 M2) fun M3 =>
    sy_bi (jfX12_of a1 0 M3) fun v5 M4 =>
    sy_ri v5 M4
def jfX11_home (a1 : Int32) (a2 : Int32) (a3 : Int32) (M : sy_M) : sy_O :=
  sy_bv (jfX11_checkLodger a1 M) fun M1 =>
  sy_bv (jfX11_checkTick a2 M1) fun M2 =>
  sy_bv (jfX11_checkTick a3 M2) fun M3 =>
  sy_bv (jfX0_remember 9 M3) fun M4 =>
  sy_bv (jfX2_set 9 a1 1 a2 M4) fun M5 =>
  sy_bv (jfX2_set 9 a1 2 a3 M5) fun M6 =>
  sy_bi (jfX2_hours 9 a1 M6) fun v8 M7 =>
  sy_ri v8 M7
def jfL_home (a1 : Int32) (a2 : Int32) (a3 : Int32) (M : sy_M) : sy_O :=
  sy_hi (jfX11_home a1 a2 a3 M) (fun v2 M1 =>
    let M5 := sy_wl M1 132 0 (Int32.toInt64 v2)
    sy_ri 0 M5)
  (fun c3 M4 => if c3 = 22 then sy_ri 1 M4 else none)
def jfX12_home_28 (a1 : Int32) (a2 : Int32) (a3 : Int32) (s0 : Int32) (M : sy_M) : sy_O :=
  let M1 := sy_upd M 121 0 s0
  if 0 < (M1 121 0) then
    sy_ri 0 M1
  else
    sy_bi (jfX12_sets ((14 + (9 * a1)) + 1) a2 M1) fun v3 M2 =>
    sy_bv (jfX12_lays a1 2 a3 M2) fun M4 =>
    sy_bi (jfX12_hoursOf a1 M4) fun v6 M5 =>
    sy_ri v6 M5
def jfX12_home_23 (a1 : Int32) (a2 : Int32) (a3 : Int32) (M : sy_M) : sy_O :=
  jfX12_home_28 a1 a2 a3 1 M
def jfX12_home (a1 : Int32) (a2 : Int32) (a3 : Int32) (M : sy_M) : sy_O :=
  sy_bi (jfX12_isLodger a1 M) fun v2 M1 =>
  if v2 = 0 then
    jfX12_home_23 a1 a2 a3 M1
  else
    sy_bi (jfX12_isTick a2 M1) fun v4 M3 =>
    if v4 = 0 then
      jfX12_home_23 a1 a2 a3 M3
    else
      sy_bi (jfX12_isTick a3 M3) fun v6 M5 =>
      if v6 = 0 then
        jfX12_home_23 a1 a2 a3 M5
      else
        jfX12_home_28 a1 a2 a3 0 M5
def jfX11_empty (M : sy_M) : sy_O :=
  sy_bv (jfX0_remember 9 M) fun M1 =>
  let v2 := (M1 9 11)
  let M3 := sy_upd M1 9 11 0
  sy_ri v2 M3
def jfX12_empty (M : sy_M) : sy_O :=
  let M1 := sy_upd M 121 0 0
  sy_bi (jfX12_sets 10 0 M1) fun v3 M2 =>
  sy_ri v3 M2
def jfX11_inside (M : sy_M) : sy_O :=
  sy_bv (jfX8_learn 9 M) fun M1 =>
  sy_bi (jfX8_presentAt (M1 9 5) M1) fun v3 M2 =>
  sy_ri v3 M2
def jfX12_inside (M : sy_M) : sy_O :=
  let M1 := sy_upd M 121 0 0
  sy_bi (jfX12_homeIn (M1 122 4) M1) fun v3 M2 =>
  sy_ri v3 M2
def jfX11_start (M : sy_M) : sy_O :=
  sy_bv (jfX8_learn 9 M) fun M1 =>
  sy_bv (jfX2_takeOver 19 9 M1) fun M2 =>
  sy_rv M2
def jgX11_firstDark_6 (k6 : Int32 → sy_M → sy_O) (a1 : Int32) (M : sy_M) : sy_O :=
  if 96 < a1 then
    sy_ri (-1) M
  else
    sy_bi (jfX8_pass 19 29 0 M) fun v2 M1 =>
    if v2 = (-2) then
      let v3 := a1 + 1
      k6 v3 M1
    else
      sy_ri a1 M1
def jfX11_firstDark_6 : Nat → Int32 → sy_M → sy_O
  | 0, _, _ => none
  | n + 1, a1, M => jgX11_firstDark_6 (jfX11_firstDark_6 n) a1 M
def jfX11_firstDark (M : sy_M) : sy_O :=
  sy_bv (jfX11_start M) fun M1 =>
  jfX11_firstDark_6 sy_F 1 M1
def jfX11_lasts (M : sy_M) : sy_O :=
  sy_bi (jfX11_firstDark M) fun v2 M1 =>
  sy_ri v2 M1
def jfX12_firstDark_35 (a1 : Int32) (M : sy_M) : sy_O :=
  sy_bv (jfX12_comesBack M) fun M1 =>
  let M2 := sy_upd M1 121 19 0
  sy_ri a1 M2
def jfX12_firstDark_29 (k8 : Int32 → Int32 → sy_M → sy_O) (a1 : Int32) (a2 : Int32) (M : sy_M) : sy_O :=
  let v1 := a2 + 1
  k8 a1 v1 M
def jgX12_firstDark_8 (k8 : Int32 → Int32 → sy_M → sy_O) (a1 : Int32) (a2 : Int32) (M : sy_M) : sy_O :=
  if 96 < a2 then
    jfX12_firstDark_35 a1 M
  else
    if a1 = (-1) then
      sy_bi (jfX12_passes 0 M) fun v2 M1 =>
      if v2 = 0 then
        jfX12_firstDark_29 k8 a1 a2 M1
      else
        jfX12_firstDark_29 k8 a2 a2 M1
    else
      jfX12_firstDark_35 a1 M
def jfX12_firstDark_8 : Nat → Int32 → Int32 → sy_M → sy_O
  | 0, _, _, _ => none
  | n + 1, a1, a2, M => jgX12_firstDark_8 (jfX12_firstDark_8 n) a1 a2 M
def jfX12_firstDark (M : sy_M) : sy_O :=
  sy_bv (jfX12_putsAside M) fun M1 =>
  jfX12_firstDark_8 sy_F (-1) 1 M1
def jfX12_lasts (M : sy_M) : sy_O :=
  let M1 := sy_upd M 121 0 0
  let M2 := sy_upd M1 121 19 1
  sy_bi (jfX12_firstDark M2) fun v4 M3 =>
  sy_ri v4 M3
def jfX11_out (M : sy_M) : sy_O :=
  sy_bi (jfX11_firstDark M) fun v2 M1 =>
  sy_ri v2 M1
def jfX12_out (M : sy_M) : sy_O :=
  let M1 := sy_upd M 121 0 0
  sy_bi (jfX12_firstDark M1) fun v3 M2 =>
  sy_ri v3 M2
def jgX11_feeder_6 (k6 : Int32 → sy_M → sy_O) (a1 : Int32) (M : sy_M) : sy_O :=
  if 96 < a1 then
    sy_ri (-1) M
  else
    sy_bi (jfX8_pass 19 29 0 M) fun v2 M1 =>
    if v2 < 0 then
      let v3 := a1 + 1
      k6 v3 M1
    else
      sy_ri v2 M1
def jfX11_feeder_6 : Nat → Int32 → sy_M → sy_O
  | 0, _, _ => none
  | n + 1, a1, M => jgX11_feeder_6 (jfX11_feeder_6 n) a1 M
def jfX11_feeder (M : sy_M) : sy_O :=
  sy_bv (jfX11_start M) fun M1 =>
  jfX11_feeder_6 sy_F 1 M1
def jfX12_feeder (M : sy_M) : sy_O :=
  let M1 := sy_upd M 121 0 0
  sy_bv (jfX12_putsAside M1) fun M2 =>
  sy_bi (jfX12_goes 96 0 M2) fun v4 M3 =>
  sy_bv (jfX12_comesBack M3) fun M5 =>
  sy_ri (M5 121 21) M5
def jgX11_firstColder_2 (k2 : Int32 → sy_M → sy_O) (a1 : Int32) (M : sy_M) : sy_O :=
  if a1 < (M 9 3) then
    sy_bi (jfX2_get 19 a1 7 M) fun v2 M1 =>
    sy_bi (jfX2_get 9 a1 7 M1) fun v4 M3 =>
    if v4 < v2 then
      sy_ri a1 M3
    else
      let v5 := a1 + 1
      k2 v5 M3
  else
    sy_ri (-1) M
def jfX11_firstColder_2 : Nat → Int32 → sy_M → sy_O
  | 0, _, _ => none
  | n + 1, a1, M => jgX11_firstColder_2 (jfX11_firstColder_2 n) a1 M
def jfX11_firstColder (M : sy_M) : sy_O :=
  jfX11_firstColder_2 sy_F 0 M
def jgX11_shiver_6 (k6 : Int32 → sy_M → sy_O) (a1 : Int32) (M : sy_M) : sy_O :=
  if 96 < a1 then
    sy_ri (-1) M
  else
    sy_bi (jfX8_pass 19 29 0 M) fun v2 M1 =>
    sy_bi (jfX11_firstColder M1) fun v4 M3 =>
    if v4 = (-1) then
      let v5 := a1 + 1
      k6 v5 M3
    else
      sy_ri v4 M3
def jfX11_shiver_6 : Nat → Int32 → sy_M → sy_O
  | 0, _, _ => none
  | n + 1, a1, M => jgX11_shiver_6 (jfX11_shiver_6 n) a1 M
def jfX11_shiver (M : sy_M) : sy_O :=
  sy_bv (jfX11_start M) fun M1 =>
  jfX11_shiver_6 sy_F 1 M1
def jgX12_keepsColds_2 (k2 : Int32 → sy_M → sy_O) (a1 : Int32) (M : sy_M) : sy_O :=
  if a1 < (M 122 3) then
    sy_bi (jfX12_of a1 7 M) fun v2 M1 =>
    sy_bx (xe_in a1 7) <|
    let M3 := sy_upd M1 128 (Int32.toNatClampNeg a1) v2
    let v4 := a1 + 1
    k2 v4 M3
  else
    sy_rv M
def jfX12_keepsColds_2 : Nat → Int32 → sy_M → sy_O
  | 0, _, _ => none
  | n + 1, a1, M => jgX12_keepsColds_2 (jfX12_keepsColds_2 n) a1 M
def jfX12_keepsColds (M : sy_M) : sy_O :=
  jfX12_keepsColds_2 sy_F 0 M
def jgX12_colder_2 (k2 : Int32 → sy_M → sy_O) (a1 : Int32) (M : sy_M) : sy_O :=
  if a1 < (M 122 3) then
    sy_bi (jfX12_of a1 7 M) fun v2 M1 =>
    sy_bx (xe_in a1 7) <|
    if (M1 128 (Int32.toNatClampNeg a1)) < v2 then
      sy_ri a1 M1
    else
      let v3 := a1 + 1
      k2 v3 M1
  else
    sy_ri (-1) M
def jfX12_colder_2 : Nat → Int32 → sy_M → sy_O
  | 0, _, _ => none
  | n + 1, a1, M => jgX12_colder_2 (jfX12_colder_2 n) a1 M
def jfX12_colder (M : sy_M) : sy_O :=
  jfX12_colder_2 sy_F 0 M
def jfX12_shiver_45 (a1 : Int32) (M : sy_M) : sy_O :=
  sy_bv (jfX12_comesBack M) fun M1 =>
  sy_ri a1 M1
def jgX12_shiver_17 (k17 : Int32 → Int32 → sy_M → sy_O) (a1 : Int32) (a2 : Int32) (M : sy_M) : sy_O :=
  if a2 < 96 then
    if a1 = (-1) then
      sy_bi (jfX12_passes 0 M) fun v2 M1 =>
      sy_bi (jfX12_colder M1) fun v4 M3 =>
      let v5 := a2 + 1
      k17 v4 v5 M3
    else
      jfX12_shiver_45 a1 M
  else
    jfX12_shiver_45 a1 M
def jfX12_shiver_17 : Nat → Int32 → Int32 → sy_M → sy_O
  | 0, _, _, _ => none
  | n + 1, a1, a2, M => jgX12_shiver_17 (jfX12_shiver_17 n) a1 a2 M
def jfX12_shiver (M : sy_M) : sy_O :=
  let M1 := sy_upd M 121 0 0
  sy_bv (jfX12_keepsColds M1) fun M2 =>
  sy_bv (jfX12_putsAside M2) fun M3 =>
  jfX12_shiver_17 sy_F (-1) 0 M3
def jfX11_after_71 (s0 : Int32) (s1 : Int32) (M : sy_M) : sy_O :=
  sy_bi (jfX2_get 19 s1 s0 M) fun v2 M1 =>
  sy_ri v2 M1
def jfX11_after (a1 : Int32) (a2 : Int32) (a3 : Int32) (M : sy_M) : sy_O :=
  sy_bv (jfX11_checkLodger a1 M) fun M1 =>
  sy_bv (jfX11_checkRange a2 0 96 M1) fun M2 =>
  if a3 < 0 then
    sy_bx (xe_in (M2 133 0) 100000) <|
    sy_rt 23 (sy_upd M2 133 0 (M2 133 0 + 1))
  else
    if 2 < a3 then
      sy_bx (xe_in (M2 133 0) 100000) <|
      sy_rt 23 (sy_upd M2 133 0 (M2 133 0 + 1))
    else
      sy_bv (jfX11_start M2) fun M3 =>
      sy_bi (jfX11_run a2 0 M3) fun v5 M4 =>
      if a3 = 0 then
        sy_bi (jfX2_get 19 a1 5 M4) fun v7 M6 =>
        sy_ri v7 M6
      else
        if a3 = 1 then
          jfX11_after_71 7 a1 M4
        else
          jfX11_after_71 8 a1 M4
def jfL_after (a1 : Int32) (a2 : Int32) (a3 : Int32) (M : sy_M) : sy_O :=
  sy_hi (jfX11_after a1 a2 a3 M) (fun v2 M1 =>
    let M5 := sy_wl M1 132 0 (Int32.toInt64 v2)
    sy_ri 0 M5)
  (fun c3 M4 => if c3 = 22 then sy_ri 1 M4 else if c3 = 20 then sy_ri 2 M4 else if c3 = 23 then sy_ri 3 M4 else none)
def jfX12_after_87 (s0 : Int32) (s1 : Int32) (M : sy_M) : sy_O :=
  sy_bi (jfX12_of s1 s0 M) fun v2 M1 =>
  sy_bv (jfX12_comesBack M1) fun M3 =>
  sy_ri v2 M3
def jfX12_after_41 (a1 : Int32) (a2 : Int32) (a3 : Int32) (s0 : Int32) (M : sy_M) : sy_O :=
  let M1 := sy_upd M 121 0 s0
  if 0 < (M1 121 0) then
    sy_ri 0 M1
  else
    sy_bv (jfX12_putsAside M1) fun M2 =>
    sy_bi (jfX12_goes a2 0 M2) fun v4 M3 =>
    if a3 = 0 then
      jfX12_after_87 5 a1 M3
    else
      if a3 = 1 then
        jfX12_after_87 7 a1 M3
      else
        jfX12_after_87 8 a1 M3
def jfX12_after (a1 : Int32) (a2 : Int32) (a3 : Int32) (M : sy_M) : sy_O :=
  sy_bi (jfX12_isLodger a1 M) fun v2 M1 =>
  if v2 = 0 then
    jfX12_after_41 a1 a2 a3 1 M1
  else
    sy_bi (jfX12_isIn a2 0 96 M1) fun v4 M3 =>
    if v4 = 0 then
      jfX12_after_41 a1 a2 a3 2 M3
    else
      sy_bi (jfX12_isIn a3 0 2 M3) fun v6 M5 =>
      if v6 = 0 then
        jfX12_after_41 a1 a2 a3 3 M5
      else
        jfX12_after_41 a1 a2 a3 0 M5
def jgX11_coins_29 (k29 : Int32 → Int32 → Int32 → sy_M → sy_O) (a1 : Int32) (a2 : Int32) (a3 : Int32) (M : sy_M) : sy_O :=
  if a3 < a1 then
    sy_bi (jfX8_needsAt (((M 9 5) + a3) - ((M 9 5) + a3) / 48 * 48) M) fun v2 M1 =>
    let v3 := (a2 + v2)
    let v4 := a3 + 1
    k29 a1 v3 v4 M1
  else
    if 0 < a2 then
      if (M 9 8) < 1 then
        sy_ri 0 M
      else
        if (M 9 8) = 0 then none else
        sy_ri (((a2 + (M 9 8)) - 1) / (M 9 8)) M
    else
      sy_ri 0 M
def jfX11_coins_29 : Nat → Int32 → Int32 → Int32 → sy_M → sy_O
  | 0, _, _, _, _ => none
  | n + 1, a1, a2, a3, M => jgX11_coins_29 (jfX11_coins_29 n) a1 a2 a3 M
def jfX11_coins (a1 : Int32) (M : sy_M) : sy_O :=
  sy_bv (jfX11_checkRange a1 0 48 M) fun M1 =>
  sy_bv (jfX8_learn 9 M1) fun M2 =>
  let v3 := (-(M2 9 7))
  jfX11_coins_29 sy_F a1 v3 0 M2
def jfL_coins (a1 : Int32) (M : sy_M) : sy_O :=
  sy_hi (jfX11_coins a1 M) (fun v2 M1 =>
    let M5 := sy_wl M1 132 0 (Int32.toInt64 v2)
    sy_ri 0 M5)
  (fun c3 M4 => if c3 = 20 then sy_ri 1 M4 else none)
def jfX12_greater (a0 : Int32) (a1 : Int32) (M : sy_M) : sy_O :=
  if a1 < a0 then
    sy_ri a0 M
  else
    sy_ri a1 M
def jgX12_coins_32 (k32 : Int32 → Int32 → Int32 → sy_M → sy_O) (a1 : Int32) (a2 : Int32) (a3 : Int32) (M : sy_M) : sy_O :=
  if a3 < a1 then
    sy_bi (jfX12_needsIn (((M 122 4) + a3) - ((M 122 4) + a3) / 48 * 48) M) fun v4 M3 =>
    let v5 := (a2 + v4)
    let v6 := a3 + 1
    k32 a1 v5 v6 M3
  else
    sy_bi (jfX12_greater 0 (a2 - (M 122 6)) M) fun v2 M1 =>
    if (M1 122 7) = 0 then none else
    sy_ri (((v2 + (M1 122 7)) - 1) / (M1 122 7)) M1
def jfX12_coins_32 : Nat → Int32 → Int32 → Int32 → sy_M → sy_O
  | 0, _, _, _, _ => none
  | n + 1, a1, a2, a3, M => jgX12_coins_32 (jfX12_coins_32 n) a1 a2 a3 M
def jfX12_coins_16 (a1 : Int32) (s0 : Int32) (M : sy_M) : sy_O :=
  let M1 := sy_upd M 121 0 s0
  if 0 < (M1 121 0) then
    sy_ri 0 M1
  else
    jfX12_coins_32 sy_F a1 0 0 M1
def jfX12_coins (a1 : Int32) (M : sy_M) : sy_O :=
  sy_bi (jfX12_isIn a1 0 48 M) fun v2 M1 =>
  if v2 = 0 then
    jfX12_coins_16 a1 1 M1
  else
    jfX12_coins_16 a1 0 M1
def jgX11_ease_20 (k20 : Int32 → Int32 → sy_M → sy_O) (a1 : Int32) (a2 : Int32) (M : sy_M) : sy_O :=
  if 99 < a2 then
    sy_ri (-1) M
  else
    sy_bv (jfX2_takeOver 19 9 M) fun M1 =>
    sy_bv (jfX2_addGas 19 (a2 * (M1 9 8)) M1) fun M2 =>
    sy_bi (jfX11_run a1 0 M2) fun v4 M3 =>
    sy_bi (jfX11_firstColder M3) fun v6 M5 =>
    if v6 = (-1) then
      sy_ri a2 M5
    else
      let v7 := a2 + 1
      k20 a1 v7 M5
def jfX11_ease_20 : Nat → Int32 → Int32 → sy_M → sy_O
  | 0, _, _, _ => none
  | n + 1, a1, a2, M => jgX11_ease_20 (jfX11_ease_20 n) a1 a2 M
def jfX11_ease (a1 : Int32) (M : sy_M) : sy_O :=
  sy_bv (jfX11_checkRange a1 0 48 M) fun M1 =>
  sy_bv (jfX8_learn 9 M1) fun M2 =>
  jfX11_ease_20 sy_F a1 0 M2
def jfL_ease (a1 : Int32) (M : sy_M) : sy_O :=
  sy_hi (jfX11_ease a1 M) (fun v2 M1 =>
    let M5 := sy_wl M1 132 0 (Int32.toInt64 v2)
    sy_ri 0 M5)
  (fun c3 M4 => if c3 = 20 then sy_ri 1 M4 else none)
def jfX12_ease_99 (k40 : Int32 → Int32 → Int32 → sy_M → sy_O) (a1 : Int32) (a2 : Int32) (a3 : Int32) (M : sy_M) : sy_O :=
  sy_bv (jfX12_comesBack M) fun M1 =>
  let v2 := a3 + 1
  k40 a1 a2 v2 M1
def jgX12_ease_40 (k40 : Int32 → Int32 → Int32 → sy_M → sy_O) (a1 : Int32) (a2 : Int32) (a3 : Int32) (M : sy_M) : sy_O :=
  if 99 < a3 then
    sy_ri a2 M
  else
    if a2 = (-1) then
      sy_bi (jfX12_lesser 9999 ((M 122 6) + (a3 * (M 122 7))) M) fun v2 M1 =>
      let M3 := sy_upd M1 122 6 v2
      sy_bi (jfX12_goes a1 0 M3) fun v5 M4 =>
      sy_bi (jfX12_colder M4) fun v7 M6 =>
      if v7 = (-1) then
        jfX12_ease_99 k40 a1 a3 a3 M6
      else
        jfX12_ease_99 k40 a1 a2 a3 M6
    else
      sy_ri a2 M
def jfX12_ease_40 : Nat → Int32 → Int32 → Int32 → sy_M → sy_O
  | 0, _, _, _, _ => none
  | n + 1, a1, a2, a3, M => jgX12_ease_40 (jfX12_ease_40 n) a1 a2 a3 M
def jfX12_ease_16 (a1 : Int32) (s0 : Int32) (M : sy_M) : sy_O :=
  let M1 := sy_upd M 121 0 s0
  if 0 < (M1 121 0) then
    sy_ri 0 M1
  else
    sy_bv (jfX12_keepsColds M1) fun M2 =>
    sy_bv (jfX12_putsAside M2) fun M3 =>
    jfX12_ease_40 sy_F a1 (-1) 0 M3
def jfX12_ease (a1 : Int32) (M : sy_M) : sy_O :=
  sy_bi (jfX12_isIn a1 0 48 M) fun v2 M1 =>
  if v2 = 0 then
    jfX12_ease_16 a1 1 M1
  else
    jfX12_ease_16 a1 0 M1
def jfX11_grief (a1 : Int32) (a2 : Int32) (M : sy_M) : sy_O :=
  sy_bv (jfX11_checkLodger a1 M) fun M1 =>
  sy_bv (jfX11_checkRange a2 0 20 M1) fun M2 =>
  sy_bv (jfX8_learn 9 M2) fun M3 =>
  sy_bi (jfX11_griefBy a1 a2 M3) fun v5 M4 =>
  sy_ri v5 M4
def jfL_grief (a1 : Int32) (a2 : Int32) (M : sy_M) : sy_O :=
  sy_hi (jfX11_grief a1 a2 M) (fun v2 M1 =>
    let M5 := sy_wl M1 132 0 (Int32.toInt64 v2)
    sy_ri 0 M5)
  (fun c3 M4 => if c3 = 22 then sy_ri 1 M4 else if c3 = 20 then sy_ri 2 M4 else none)
def jfX12_grief_28 (a1 : Int32) (a2 : Int32) (s0 : Int32) (M : sy_M) : sy_O :=
  let M1 := sy_upd M 121 0 s0
  if 0 < (M1 121 0) then
    sy_ri 0 M1
  else
    sy_bi (jfX12_griefOf a1 a2 M1) fun v3 M2 =>
    sy_ri v3 M2
def jfX12_grief (a1 : Int32) (a2 : Int32) (M : sy_M) : sy_O :=
  sy_bi (jfX12_isLodger a1 M) fun v2 M1 =>
  if v2 = 0 then
    jfX12_grief_28 a1 a2 1 M1
  else
    sy_bi (jfX12_isIn a2 0 20 M1) fun v4 M3 =>
    if v4 = 0 then
      jfX12_grief_28 a1 a2 2 M3
    else
      jfX12_grief_28 a1 a2 0 M3
def jgX11_wouldWait_17 (k17 : Int32 → Int32 → Int32 → sy_M → sy_O) (a1 : Int32) (a2 : Int32) (a3 : Int32) (M : sy_M) : sy_O :=
  if 20 < a3 then
    sy_ri 0 M
  else
    sy_bi (jfX11_griefBy a1 a3 M) fun v2 M1 =>
    if v2 < a2 then
      sy_ri 1 M1
    else
      let v3 := a3 + 1
      k17 a1 a2 v3 M1
def jfX11_wouldWait_17 : Nat → Int32 → Int32 → Int32 → sy_M → sy_O
  | 0, _, _, _, _ => none
  | n + 1, a1, a2, a3, M => jgX11_wouldWait_17 (jfX11_wouldWait_17 n) a1 a2 a3 M
def jfX11_wouldWait (a1 : Int32) (M : sy_M) : sy_O :=
  sy_bi (jfX2_get 9 a1 4 M) fun v2 M1 =>
  sy_bi (jfX11_griefBy a1 v2 M1) fun v4 M3 =>
  jfX11_wouldWait_17 sy_F a1 v4 0 M3
def jfX11_restless_40 (k15 : Int32 → Int32 → sy_M → sy_O) (a1 : Int32) (a2 : Int32) (M : sy_M) : sy_O :=
  let v1 := a2 + 1
  k15 a1 v1 M
def jgX11_restless_15 (k15 : Int32 → Int32 → sy_M → sy_O) (a1 : Int32) (a2 : Int32) (M : sy_M) : sy_O :=
  if a2 < (M 9 3) then
    sy_bi (jfX11_wouldWait a2 M) fun v2 M1 =>
    if v2 = 0 then
      jfX11_restless_40 k15 a1 a2 M1
    else
      let v3 := (a1 ||| (1 <<< (a2 &&& 31)))
      jfX11_restless_40 k15 v3 a2 M1
  else
    sy_ri a1 M
def jfX11_restless_15 : Nat → Int32 → Int32 → sy_M → sy_O
  | 0, _, _, _ => none
  | n + 1, a1, a2, M => jgX11_restless_15 (jfX11_restless_15 n) a1 a2 M
def jfX11_restless (M : sy_M) : sy_O :=
  sy_bv (jfX8_learn 9 M) fun M1 =>
  jfX11_restless_15 sy_F 0 0 M1
def jfX12_restless_51 (k9 : Int32 → Int32 → sy_M → sy_O) (a2 : Int32) (s0 : Int32) (s1 : Int32) (M : sy_M) : sy_O :=
  let v1 := (s1 ||| s0)
  let v2 := a2 + 1
  k9 v1 v2 M
def jgX12_restless_9 (k9 : Int32 → Int32 → sy_M → sy_O) (a1 : Int32) (a2 : Int32) (M : sy_M) : sy_O :=
  if a2 < (M 122 3) then
    sy_bi (jfX12_of a2 4 M) fun v2 M1 =>
    sy_bi (jfX12_griefOf a2 v2 M1) fun v4 M3 =>
    sy_bi (jfX12_bestOf a2 M3) fun v6 M5 =>
    sy_bi (jfX12_griefOf a2 v6 M5) fun v8 M7 =>
    if v8 < v4 then
      jfX12_restless_51 k9 a2 (1 <<< (a2 &&& 31)) a1 M7
    else
      jfX12_restless_51 k9 a2 0 a1 M7
  else
    sy_ri a1 M
def jfX12_restless_9 : Nat → Int32 → Int32 → sy_M → sy_O
  | 0, _, _, _ => none
  | n + 1, a1, a2, M => jgX12_restless_9 (jfX12_restless_9 n) a1 a2 M
def jfX12_restless (M : sy_M) : sy_O :=
  let M1 := sy_upd M 121 0 0
  jfX12_restless_9 sy_F 0 0 M1
def jfX11_saint_139 (k68 : Int32 → Int32 → Int32 → Int32 → sy_M → sy_O) (a1 : Int32) (a2 : Int32) (a3 : Int32) (a4 : Int32) (M : sy_M) : sy_O :=
  let v1 := a4 + 1
  k68 a1 a2 a3 v1 M
def jfX11_saint_132 (k68 : Int32 → Int32 → Int32 → Int32 → sy_M → sy_O) (a1 : Int32) (a2 : Int32) (a3 : Int32) (a4 : Int32) (M : sy_M) : sy_O :=
  let v1 := (a3 ||| (1 <<< (a4 &&& 31)))
  jfX11_saint_139 k68 a1 a2 v1 a4 M
def jgX11_saint_68 (k68 : Int32 → Int32 → Int32 → Int32 → sy_M → sy_O) (a1 : Int32) (a2 : Int32) (a3 : Int32) (a4 : Int32) (M : sy_M) : sy_O :=
  if a4 < (M 9 3) then
    if a4 < 7 then
      sy_bi (jfX11_griefAhead a4 M) fun v2 M1 =>
      if a4 = a1 then
        jfX11_saint_139 k68 a1 a2 a3 a4 M1
      else
        if a2 = 0 then
          sy_bx (xe_in a4 7) <|
          if v2 < (M1 120 (Int32.toNatClampNeg a4)) then
            jfX11_saint_132 k68 a1 a2 a3 a4 M1
          else
            jfX11_saint_139 k68 a1 a2 a3 a4 M1
        else
          sy_bx (xe_in a4 7) <|
          if (M1 120 (Int32.toNatClampNeg a4)) < v2 then
            jfX11_saint_132 k68 a1 a2 a3 a4 M1
          else
            jfX11_saint_139 k68 a1 a2 a3 a4 M1
    else
      sy_ri a3 M
  else
    sy_ri a3 M
def jfX11_saint_68 : Nat → Int32 → Int32 → Int32 → Int32 → sy_M → sy_O
  | 0, _, _, _, _, _ => none
  | n + 1, a1, a2, a3, a4, M => jgX11_saint_68 (jfX11_saint_68 n) a1 a2 a3 a4 M
def jgX11_saint_33 (k33 : Int32 → Int32 → Int32 → sy_M → sy_O) (a1 : Int32) (a2 : Int32) (a3 : Int32) (M : sy_M) : sy_O :=
  if a3 < 7 then
    sy_bi (jfX11_griefAhead a3 M) fun v4 M3 =>
    sy_bx (xe_in a3 7) <|
    let M5 := sy_upd M3 120 (Int32.toNatClampNeg a3) v4
    let v6 := a3 + 1
    k33 a1 a2 v6 M5
  else
    sy_bi (jfX11_griefBy a1 0 M) fun v2 M1 =>
    jfX11_saint_68 sy_F a1 a2 0 0 M1
def jfX11_saint_33 : Nat → Int32 → Int32 → Int32 → sy_M → sy_O
  | 0, _, _, _, _ => none
  | n + 1, a1, a2, a3, M => jgX11_saint_33 (jfX11_saint_33 n) a1 a2 a3 M
def jfX11_saint (a1 : Int32) (a2 : Int32) (M : sy_M) : sy_O :=
  sy_bv (jfX11_checkLodger a1 M) fun M1 =>
  sy_bv (jfX8_learn 9 M1) fun M2 =>
  sy_bi (jfX2_get 9 a1 4 M2) fun v4 M3 =>
  sy_bi (jfX11_griefBy a1 v4 M3) fun v6 M5 =>
  jfX11_saint_33 sy_F a1 a2 0 M5
def jfL_saint (a1 : Int32) (a2 : Int32) (M : sy_M) : sy_O :=
  sy_hi (jfX11_saint a1 a2 M) (fun v2 M1 =>
    let M5 := sy_wl M1 132 0 (Int32.toInt64 v2)
    sy_ri 0 M5)
  (fun c3 M4 => if c3 = 22 then sy_ri 1 M4 else none)
def jfX12_saint_141 (k73 : Int32 → Int32 → Int32 → Int32 → sy_M → sy_O) (a1 : Int32) (a2 : Int32) (a5 : Int32) (s0 : Int32) (s1 : Int32) (M : sy_M) : sy_O :=
  let v1 := (s1 ||| s0)
  let v2 := a5 + 1
  k73 a1 a2 v1 v2 M
def jfX12_saint_140 (k73 : Int32 → Int32 → Int32 → Int32 → sy_M → sy_O) (a1 : Int32) (a2 : Int32) (a5 : Int32) (s0 : Int32) (M : sy_M) : sy_O :=
  jfX12_saint_141 k73 a1 a2 a5 0 s0 M
def jfX12_saint_133 (k73 : Int32 → Int32 → Int32 → Int32 → sy_M → sy_O) (a1 : Int32) (a2 : Int32) (a5 : Int32) (s0 : Int32) (M : sy_M) : sy_O :=
  jfX12_saint_141 k73 a1 a2 a5 (1 <<< (a5 &&& 31)) s0 M
def jgX12_saint_73 (k73 : Int32 → Int32 → Int32 → Int32 → sy_M → sy_O) (a1 : Int32) (a2 : Int32) (a4 : Int32) (a5 : Int32) (M : sy_M) : sy_O :=
  if a5 < (M 122 3) then
    if a5 = a1 then
      jfX12_saint_140 k73 a1 a2 a5 a4 M
    else
      if a2 = 0 then
        sy_bx (xe_in a5 7) <|
        sy_bx (xe_in a5 7) <|
        if (M 129 (Int32.toNatClampNeg a5)) < (M 128 (Int32.toNatClampNeg a5)) then
          jfX12_saint_133 k73 a1 a2 a5 a4 M
        else
          jfX12_saint_140 k73 a1 a2 a5 a4 M
      else
        sy_bx (xe_in a5 7) <|
        sy_bx (xe_in a5 7) <|
        if (M 128 (Int32.toNatClampNeg a5)) < (M 129 (Int32.toNatClampNeg a5)) then
          jfX12_saint_133 k73 a1 a2 a5 a4 M
        else
          jfX12_saint_140 k73 a1 a2 a5 a4 M
  else
    sy_ri a4 M
def jfX12_saint_73 : Nat → Int32 → Int32 → Int32 → Int32 → sy_M → sy_O
  | 0, _, _, _, _, _ => none
  | n + 1, a1, a2, a4, a5, M => jgX12_saint_73 (jfX12_saint_73 n) a1 a2 a4 a5 M
def jgX12_saint_32 (k32 : Int32 → Int32 → Int32 → sy_M → sy_O) (a1 : Int32) (a2 : Int32) (a3 : Int32) (M : sy_M) : sy_O :=
  if a3 < (M 122 3) then
    sy_bx (xe_in a3 7) <|
    sy_bx (xe_in a3 7) <|
    let M3 := sy_upd M 128 (Int32.toNatClampNeg a3) (M 129 (Int32.toNatClampNeg a3))
    let v4 := a3 + 1
    k32 a1 a2 v4 M3
  else
    sy_bi (jfX12_griefOf a1 0 M) fun v2 M1 =>
    jfX12_saint_73 sy_F a1 a2 0 0 M1
def jfX12_saint_32 : Nat → Int32 → Int32 → Int32 → sy_M → sy_O
  | 0, _, _, _, _ => none
  | n + 1, a1, a2, a3, M => jgX12_saint_32 (jfX12_saint_32 n) a1 a2 a3 M
def jfX12_saint_14 (a1 : Int32) (a2 : Int32) (s0 : Int32) (M : sy_M) : sy_O :=
  let M1 := sy_upd M 121 0 s0
  if 0 < (M1 121 0) then
    sy_ri 0 M1
  else
    sy_bv (jfX12_grieves M1) fun M2 =>
    jfX12_saint_32 sy_F a1 a2 0 M2
def jfX12_saint (a1 : Int32) (a2 : Int32) (M : sy_M) : sy_O :=
  sy_bi (jfX12_isLodger a1 M) fun v2 M1 =>
  if v2 = 0 then
    jfX12_saint_14 a1 a2 1 M1
  else
    jfX12_saint_14 a1 a2 0 M1
def jgX11_fair_54 (k54 : Int32 → Int32 → Int32 → Int32 → Int32 → sy_M → sy_O) (a1 : Int32) (a2 : Int32) (a3 : Int32) (a4 : Int32) (a5 : Int32) (M : sy_M) : sy_O :=
  if a5 < (M 9 3) then
    sy_bi (jfX2_metered 9 a5 M) fun v6 M5 =>
    sy_bi (jfX11_share a2 v6 a3 M5) fun v8 M7 =>
    let v9 := (a4 - v8)
    let v10 := a5 + 1
    k54 a1 a2 a3 v9 v10 M7
  else
    sy_bi (jfX2_metered 9 a1 M) fun v2 M1 =>
    sy_bi (jfX11_share a2 v2 a3 M1) fun v4 M3 =>
    if a1 < a4 then
      sy_ri (v4 + 1) M3
    else
      sy_ri (v4 + 0) M3
def jfX11_fair_54 : Nat → Int32 → Int32 → Int32 → Int32 → Int32 → sy_M → sy_O
  | 0, _, _, _, _, _, _ => none
  | n + 1, a1, a2, a3, a4, a5, M => jgX11_fair_54 (jfX11_fair_54 n) a1 a2 a3 a4 a5 M
def jgX11_fair_18 (k18 : Int32 → Int32 → Int32 → Int32 → sy_M → sy_O) (a1 : Int32) (a2 : Int32) (a3 : Int32) (a4 : Int32) (M : sy_M) : sy_O :=
  if a4 < (M 9 3) then
    sy_bi (jfX2_metered 9 a4 M) fun v2 M1 =>
    let v3 := (a3 + v2)
    let v4 := a4 + 1
    k18 a1 a2 v3 v4 M1
  else
    jfX11_fair_54 sy_F a1 a2 a3 a2 0 M
def jfX11_fair_18 : Nat → Int32 → Int32 → Int32 → Int32 → sy_M → sy_O
  | 0, _, _, _, _, _ => none
  | n + 1, a1, a2, a3, a4, M => jgX11_fair_18 (jfX11_fair_18 n) a1 a2 a3 a4 M
def jfX11_fair (a1 : Int32) (a2 : Int32) (M : sy_M) : sy_O :=
  sy_bv (jfX11_checkLodger a1 M) fun M1 =>
  sy_bv (jfX11_checkRange a2 0 999 M1) fun M2 =>
  jfX11_fair_18 sy_F a1 a2 0 0 M2
def jfL_fair (a1 : Int32) (a2 : Int32) (M : sy_M) : sy_O :=
  sy_hi (jfX11_fair a1 a2 M) (fun v2 M1 =>
    let M5 := sy_wl M1 132 0 (Int32.toInt64 v2)
    sy_ri 0 M5)
  (fun c3 M4 => if c3 = 22 then sy_ri 1 M4 else if c3 = 20 then sy_ri 2 M4 else none)
def jgX12_fair_78 (k78 : Int32 → Int32 → Int32 → Int32 → Int32 → sy_M → sy_O) (a1 : Int32) (a2 : Int32) (a3 : Int32) (a4 : Int32) (a5 : Int32) (M : sy_M) : sy_O :=
  if a5 < (M 122 3) then
    sy_bi (jfX12_metered a5 M) fun v4 M3 =>
    if a3 = 0 then none else
    let v5 := (a4 - ((a2 * v4) / a3))
    let v6 := a5 + 1
    k78 a1 a2 a3 v5 v6 M3
  else
    sy_bi (jfX12_metered a1 M) fun v2 M1 =>
    if a3 = 0 then none else
    if a1 < a4 then
      sy_ri (((a2 * v2) / a3) + 1) M1
    else
      sy_ri (((a2 * v2) / a3) + 0) M1
def jfX12_fair_78 : Nat → Int32 → Int32 → Int32 → Int32 → Int32 → sy_M → sy_O
  | 0, _, _, _, _, _, _ => none
  | n + 1, a1, a2, a3, a4, a5, M => jgX12_fair_78 (jfX12_fair_78 n) a1 a2 a3 a4 a5 M
def jgX12_fair_46 (k46 : Int32 → Int32 → Int32 → Int32 → sy_M → sy_O) (a1 : Int32) (a2 : Int32) (a3 : Int32) (a4 : Int32) (M : sy_M) : sy_O :=
  if a4 < (M 122 3) then
    sy_bi (jfX12_metered a4 M) fun v2 M1 =>
    let v3 := (a3 + v2)
    let v4 := a4 + 1
    k46 a1 a2 v3 v4 M1
  else
    jfX12_fair_78 sy_F a1 a2 a3 a2 0 M
def jfX12_fair_46 : Nat → Int32 → Int32 → Int32 → Int32 → sy_M → sy_O
  | 0, _, _, _, _, _ => none
  | n + 1, a1, a2, a3, a4, M => jgX12_fair_46 (jfX12_fair_46 n) a1 a2 a3 a4 M
def jfX12_fair_29 (a1 : Int32) (a2 : Int32) (s0 : Int32) (M : sy_M) : sy_O :=
  let M1 := sy_upd M 121 0 s0
  if 0 < (M1 121 0) then
    sy_ri 0 M1
  else
    jfX12_fair_46 sy_F a1 a2 0 0 M1
def jfX12_fair (a1 : Int32) (a2 : Int32) (M : sy_M) : sy_O :=
  sy_bi (jfX12_isLodger a1 M) fun v2 M1 =>
  if v2 = 0 then
    jfX12_fair_29 a1 a2 1 M1
  else
    sy_bi (jfX12_isIn a2 0 999 M1) fun v4 M3 =>
    if v4 = 0 then
      jfX12_fair_29 a1 a2 2 M3
    else
      jfX12_fair_29 a1 a2 0 M3
def jfJ9_max_7cf53 (a0 : Int32) (a1 : Int32) (M : sy_M) : sy_O :=
  if a0 < a1 then
    sy_ri a1 M
  else
    sy_ri a0 M
def jgX11_mostNeeds_4 (k4 : Int32 → Int32 → Int32 → sy_M → sy_O) (a1 : Int32) (a2 : Int32) (a3 : Int32) (M : sy_M) : sy_O :=
  if a3 < 48 then
    sy_bi (jfX8_presentAt a3 M) fun v2 M1 =>
    sy_bi (jfX2_burnt 9 (a1 &&& v2) M1) fun v4 M3 =>
    sy_bi (jfJ9_max_7cf53 a2 v4 M3) fun v6 M5 =>
    let v7 := a3 + 1
    k4 a1 v6 v7 M5
  else
    sy_ri a2 M
def jfX11_mostNeeds_4 : Nat → Int32 → Int32 → Int32 → sy_M → sy_O
  | 0, _, _, _, _ => none
  | n + 1, a1, a2, a3, M => jgX11_mostNeeds_4 (jfX11_mostNeeds_4 n) a1 a2 a3 M
def jfX11_mostNeeds (a1 : Int32) (M : sy_M) : sy_O :=
  jfX11_mostNeeds_4 sy_F a1 0 0 M
def jfX11_tops (a1 : Int32) (M : sy_M) : sy_O :=
  sy_bv (jfX8_learn 9 M) fun M1 =>
  sy_bi (jfX11_mostNeeds a1 M1) fun v3 M2 =>
  sy_ri v3 M2
def jgX12_topsOf_4 (k4 : Int32 → Int32 → Int32 → sy_M → sy_O) (a1 : Int32) (a2 : Int32) (a3 : Int32) (M : sy_M) : sy_O :=
  if a3 < 48 then
    sy_bi (jfX12_homeIn a3 M) fun v2 M1 =>
    sy_bi (jfX12_burnsOf (v2 &&& a1) M1) fun v4 M3 =>
    sy_bi (jfX12_greater a2 v4 M3) fun v6 M5 =>
    let v7 := a3 + 1
    k4 a1 v6 v7 M5
  else
    sy_ri a2 M
def jfX12_topsOf_4 : Nat → Int32 → Int32 → Int32 → sy_M → sy_O
  | 0, _, _, _, _ => none
  | n + 1, a1, a2, a3, M => jgX12_topsOf_4 (jfX12_topsOf_4 n) a1 a2 a3 M
def jfX12_topsOf (a1 : Int32) (M : sy_M) : sy_O :=
  jfX12_topsOf_4 sy_F a1 0 0 M
def jfX12_tops (a1 : Int32) (M : sy_M) : sy_O :=
  let M1 := sy_upd M 121 0 0
  sy_bi (jfX12_topsOf a1 M1) fun v3 M2 =>
  sy_ri v3 M2
def jfX11_everybody (M : sy_M) : sy_O :=
  sy_ri ((1 <<< ((M 9 3) &&& 31)) - 1) M
def jfX11_stand (a1 : Int32) (M : sy_M) : sy_O :=
  sy_bv (jfX11_checkLodger a1 M) fun M1 =>
  sy_bv (jfX8_learn 9 M1) fun M2 =>
  sy_bi (jfX11_everybody M2) fun v4 M3 =>
  sy_bi (jfX11_mostNeeds v4 M3) fun v6 M5 =>
  sy_bi (jfX11_everybody M5) fun v8 M7 =>
  sy_bi (jfX11_mostNeeds (v8 &&& ((1 <<< (a1 &&& 31)) ^^^ (-1))) M7) fun v10 M9 =>
  sy_bi (jfX11_hundredths (v6 - v10) v6 M9) fun v12 M11 =>
  sy_ri v12 M11
def jfL_stand (a1 : Int32) (M : sy_M) : sy_O :=
  sy_hi (jfX11_stand a1 M) (fun v2 M1 =>
    let M5 := sy_wl M1 132 0 (Int32.toInt64 v2)
    sy_ri 0 M5)
  (fun c3 M4 => if c3 = 22 then sy_ri 1 M4 else none)
def jfX12_stand_14 (a1 : Int32) (s0 : Int32) (M : sy_M) : sy_O :=
  let M1 := sy_upd M 121 0 s0
  if 0 < (M1 121 0) then
    sy_ri 0 M1
  else
    sy_bi (jfX12_all M1) fun v3 M2 =>
    sy_bi (jfX12_topsOf v3 M2) fun v5 M4 =>
    sy_bi (jfX12_all M4) fun v7 M6 =>
    sy_bi (jfX12_topsOf (v7 &&& ((1 <<< (a1 &&& 31)) ^^^ (-1))) M6) fun v9 M8 =>
    sy_bi (jfX12_all M8) fun v11 M10 =>
    sy_bi (jfX12_topsOf v11 M10) fun v13 M12 =>
    if v13 = 0 then none else
    sy_ri ((100 * (v5 - v9)) / v13) M12
def jfX12_stand (a1 : Int32) (M : sy_M) : sy_O :=
  sy_bi (jfX12_isLodger a1 M) fun v2 M1 =>
  if v2 = 0 then
    jfX12_stand_14 a1 1 M1
  else
    jfX12_stand_14 a1 0 M1
def jfX11_earned (a1 : Int32) (M : sy_M) : sy_O :=
  sy_bv (jfX2_takeOver 19 9 M) fun M1 =>
  let M2 := sy_upd M1 19 8 a1
  sy_bi (jfX11_run 48 0 M2) fun v4 M3 =>
  sy_ri v4 M3
def jfX11_dear_72 (k18 : Int32 → Int32 → Int32 → Int32 → sy_M → sy_O) (a1 : Int32) (a2 : Int32) (a3 : Int32) (a4 : Int32) (M : sy_M) : sy_O :=
  let v1 := a4 + 1
  k18 a1 a2 a3 v1 M
def jfX11_dear_66 (k18 : Int32 → Int32 → Int32 → Int32 → sy_M → sy_O) (a1 : Int32) (a4 : Int32) (a6 : Int32) (M : sy_M) : sy_O :=
  jfX11_dear_72 k18 a1 a4 a6 a4 M
def jfX11_dear_52 (k18 : Int32 → Int32 → Int32 → Int32 → sy_M → sy_O) (a1 : Int32) (a2 : Int32) (a3 : Int32) (a4 : Int32) (s0 : Int32) (M : sy_M) : sy_O :=
  if a4 = 1 then
    jfX11_dear_66 k18 a1 a4 s0 M
  else
    if a3 < s0 then
      jfX11_dear_66 k18 a1 a4 s0 M
    else
      jfX11_dear_72 k18 a1 a2 a3 a4 M
def jgX11_dear_18 (k18 : Int32 → Int32 → Int32 → Int32 → sy_M → sy_O) (a1 : Int32) (a2 : Int32) (a3 : Int32) (a4 : Int32) (M : sy_M) : sy_O :=
  if 99 < a4 then
    sy_ri a2 M
  else
    sy_bi (jfX11_earned a4 M) fun v2 M1 =>
    if a1 = 0 then
      jfX11_dear_52 k18 a1 a2 a3 a4 v2 M1
    else
      sy_bi (jfX2_sum 19 7 M1) fun v4 M3 =>
      jfX11_dear_52 k18 a1 a2 a3 a4 (-v4) M3
def jfX11_dear_18 : Nat → Int32 → Int32 → Int32 → Int32 → sy_M → sy_O
  | 0, _, _, _, _, _ => none
  | n + 1, a1, a2, a3, a4, M => jgX11_dear_18 (jfX11_dear_18 n) a1 a2 a3 a4 M
def jfX11_dear (a1 : Int32) (M : sy_M) : sy_O :=
  sy_bv (jfX8_learn 9 M) fun M1 =>
  jfX11_dear_18 sy_F a1 1 0 1 M1
def jgX12_coldOfAll_4 (k4 : Int32 → Int32 → sy_M → sy_O) (a1 : Int32) (a2 : Int32) (M : sy_M) : sy_O :=
  if a2 < (M 122 3) then
    sy_bi (jfX12_of a2 7 M) fun v2 M1 =>
    let v3 := (a1 + v2)
    let v4 := a2 + 1
    k4 v3 v4 M1
  else
    sy_ri a1 M
def jfX12_coldOfAll_4 : Nat → Int32 → Int32 → sy_M → sy_O
  | 0, _, _, _ => none
  | n + 1, a1, a2, M => jgX12_coldOfAll_4 (jfX12_coldOfAll_4 n) a1 a2 M
def jfX12_coldOfAll (M : sy_M) : sy_O :=
  jfX12_coldOfAll_4 sy_F 0 0 M
def jfX12_byPrice_35 (s0 : Int32) (M : sy_M) : sy_O :=
  sy_bv (jfX12_comesBack M) fun M1 =>
  sy_ri s0 M1
def jfX12_byPrice (a1 : Int32) (a2 : Int32) (M : sy_M) : sy_O :=
  sy_bv (jfX12_putsAside M) fun M1 =>
  let M2 := sy_upd M1 122 7 a1
  sy_bi (jfX12_goes 48 0 M2) fun v4 M3 =>
  if a2 = 0 then
    jfX12_byPrice_35 (M3 121 20) M3
  else
    sy_bi (jfX12_coldOfAll M3) fun v6 M5 =>
    jfX12_byPrice_35 v6 M5
def jfX12_dear_60 (k12 : Int32 → Int32 → Int32 → Int32 → sy_M → sy_O) (a1 : Int32) (a2 : Int32) (a3 : Int32) (a4 : Int32) (M : sy_M) : sy_O :=
  let v1 := a4 + 1
  k12 a1 a2 a3 v1 M
def jfX12_dear_54 (k12 : Int32 → Int32 → Int32 → Int32 → sy_M → sy_O) (a1 : Int32) (a4 : Int32) (a5 : Int32) (M : sy_M) : sy_O :=
  jfX12_dear_60 k12 a1 a4 a5 a4 M
def jgX12_dear_12 (k12 : Int32 → Int32 → Int32 → Int32 → sy_M → sy_O) (a1 : Int32) (a2 : Int32) (a3 : Int32) (a4 : Int32) (M : sy_M) : sy_O :=
  if 99 < a4 then
    sy_ri a2 M
  else
    sy_bi (jfX12_byPrice a4 a1 M) fun v2 M1 =>
    if 0 < a2 then
      if a1 = 0 then
        if a3 < v2 then
          jfX12_dear_54 k12 a1 a4 v2 M1
        else
          jfX12_dear_60 k12 a1 a2 a3 a4 M1
      else
        if v2 < a3 then
          jfX12_dear_54 k12 a1 a4 v2 M1
        else
          jfX12_dear_60 k12 a1 a2 a3 a4 M1
    else
      jfX12_dear_54 k12 a1 a4 v2 M1
def jfX12_dear_12 : Nat → Int32 → Int32 → Int32 → Int32 → sy_M → sy_O
  | 0, _, _, _, _, _ => none
  | n + 1, a1, a2, a3, a4, M => jgX12_dear_12 (jfX12_dear_12 n) a1 a2 a3 a4 M
def jfX12_dear (a1 : Int32) (M : sy_M) : sy_O :=
  let M1 := sy_upd M 121 0 0
  jfX12_dear_12 sy_F a1 0 0 1 M1
def jfX11_earns (a1 : Int32) (M : sy_M) : sy_O :=
  sy_bv (jfX11_checkRange a1 1 99 M) fun M1 =>
  sy_bv (jfX8_learn 9 M1) fun M2 =>
  sy_bi (jfX11_earned a1 M2) fun v4 M3 =>
  sy_ri v4 M3
def jfL_earns (a1 : Int32) (M : sy_M) : sy_O :=
  sy_hi (jfX11_earns a1 M) (fun v2 M1 =>
    let M5 := sy_wl M1 132 0 (Int32.toInt64 v2)
    sy_ri 0 M5)
  (fun c3 M4 => if c3 = 20 then sy_ri 1 M4 else none)
def jfX12_earns_16 (a1 : Int32) (s0 : Int32) (M : sy_M) : sy_O :=
  let M1 := sy_upd M 121 0 s0
  if 0 < (M1 121 0) then
    sy_ri 0 M1
  else
    sy_bi (jfX12_byPrice a1 0 M1) fun v3 M2 =>
    sy_ri v3 M2
def jfX12_earns (a1 : Int32) (M : sy_M) : sy_O :=
  sy_bi (jfX12_isIn a1 1 99 M) fun v2 M1 =>
  if v2 = 0 then
    jfX12_earns_16 a1 1 M1
  else
    jfX12_earns_16 a1 0 M1
def jfX1_readRows_104 (k32 : Int32 → Int32 → Int32 → sy_M → sy_O) (a2 : Int32) (a3 : Int32) (a4 : Int32) (M : sy_M) : sy_O :=
  let M1 := sy_upd M 6 2 (a4 + 1)
  let v2 := a4 + 1
  k32 a2 a3 v2 M1
def jgX1_readRows_32 (k32 : Int32 → Int32 → Int32 → sy_M → sy_O) (a2 : Int32) (a3 : Int32) (a4 : Int32) (M : sy_M) : sy_O :=
  if a4 < 20 then
    if (2 * a4) < a3 then
      sy_bi (jfX10_byteAt (2 * a4) M) fun v2 M1 =>
      sy_bx (xe_in a4 20) <|
      let M3 := sy_upd M1 7 (Int32.toNatClampNeg a4) v2
      sy_bi (jfX10_byteAt ((2 * a4) + 1) M3) fun v5 M4 =>
      sy_bx (xe_in a4 20) <|
      let M6 := sy_upd M4 8 (Int32.toNatClampNeg a4) v5
      sy_bx (xe_in a4 20) <|
      if (M6 7 (Int32.toNatClampNeg a4)) < 48 then
        sy_bx (xe_in a4 20) <|
        if a2 < (M6 8 (Int32.toNatClampNeg a4)) then
          sy_ri 0 M6
        else
          jfX1_readRows_104 k32 a2 a3 a4 M6
      else
        sy_ri 0 M6
    else
      sy_ri 1 M
  else
    sy_ri 1 M
def jfX1_readRows_32 : Nat → Int32 → Int32 → Int32 → sy_M → sy_O
  | 0, _, _, _, _ => none
  | n + 1, a2, a3, a4, M => jgX1_readRows_32 (jfX1_readRows_32 n) a2 a3 a4 M
def jfX1_readRows (a2 : Int32) (M : sy_M) : sy_O :=
  let v1 := (M 1 4)
  let M2 := sy_upd M 1 4 0
  let M3 := sy_upd M2 6 2 0
  if (v1 - v1 / 2 * 2) = 0 then
    if 40 < v1 then
      sy_ri 0 M3
    else
      jfX1_readRows_32 sy_F a2 v1 0 M3
  else
    sy_ri 0 M3
def jfX11_readClues (a1 : Int32) (M : sy_M) : sy_O :=
  sy_bi (jfX1_readRows a1 M) fun v2 M1 =>
  if v2 = 0 then
    sy_bx (xe_in (M1 133 0) 100000) <|
    sy_rt 20 (sy_upd M1 133 0 (M1 133 0 + 1))
  else
    sy_rv M1
def jfX1_isPossible_46 (k2 : Int32 → Int32 → sy_M → sy_O) (a1 : Int32) (a2 : Int32) (s0 : Int32) (s1 : Int32) (M : sy_M) : sy_O :=
  if s1 = s0 then
    let v1 := a2 + 1
    k2 a1 v1 M
  else
    sy_ri 0 M
def jfX1_isPossible_31 (k2 : Int32 → Int32 → sy_M → sy_O) (a1 : Int32) (a2 : Int32) (s0 : Int32) (M : sy_M) : sy_O :=
  sy_bx (xe_in a2 20) <|
  if (M 8 (Int32.toNatClampNeg a2)) = 1 then
    jfX1_isPossible_46 k2 a1 a2 1 s0 M
  else
    jfX1_isPossible_46 k2 a1 a2 0 s0 M
def jgX1_isPossible_2 (k2 : Int32 → Int32 → sy_M → sy_O) (a1 : Int32) (a2 : Int32) (M : sy_M) : sy_O :=
  if a2 < (M 6 2) then
    if a2 < 20 then
      sy_bx (xe_in a2 20) <|
      if (M 7 (Int32.toNatClampNeg a2)) < a1 then
        jfX1_isPossible_31 k2 a1 a2 0 M
      else
        jfX1_isPossible_31 k2 a1 a2 1 M
    else
      sy_ri 1 M
  else
    sy_ri 1 M
def jfX1_isPossible_2 : Nat → Int32 → Int32 → sy_M → sy_O
  | 0, _, _, _ => none
  | n + 1, a1, a2, M => jgX1_isPossible_2 (jfX1_isPossible_2 n) a1 a2 M
def jfX1_isPossible (a1 : Int32) (M : sy_M) : sy_O :=
  jfX1_isPossible_2 sy_F a1 0 M
def jfJ6_bitCount_0f7a4 (a0 : Int32) (M : sy_M) : sy_O :=
  let v1 := (a0 - (((Int32.toUInt32 a0 >>> (Int32.toUInt32 1 &&& Int32.toUInt32 31)).toInt32) &&& 1431655765))
  let v2 := ((v1 &&& 858993459) + (((Int32.toUInt32 v1 >>> (Int32.toUInt32 2 &&& Int32.toUInt32 31)).toInt32) &&& 858993459))
  let v3 := ((v2 + ((Int32.toUInt32 v2 >>> (Int32.toUInt32 4 &&& Int32.toUInt32 31)).toInt32)) &&& 252645135)
  let v4 := (v3 + ((Int32.toUInt32 v3 >>> (Int32.toUInt32 8 &&& Int32.toUInt32 31)).toInt32))
  let v5 := (v4 + ((Int32.toUInt32 v4 >>> (Int32.toUInt32 16 &&& Int32.toUInt32 31)).toInt32))
  sy_ri (v5 &&& 63) M
def jfX11_culprit_69 (k23 : Int32 → Int32 → Int32 → Int32 → sy_M → sy_O) (a1 : Int32) (a2 : Int32) (a3 : Int32) (a4 : Int32) (M : sy_M) : sy_O :=
  let v1 := a4 + 1
  k23 a1 a2 a3 v1 M
def jgX11_culprit_23 (k23 : Int32 → Int32 → Int32 → Int32 → sy_M → sy_O) (a1 : Int32) (a2 : Int32) (a3 : Int32) (a4 : Int32) (M : sy_M) : sy_O :=
  if a4 < 48 then
    sy_bi (jfX1_isPossible a4 M) fun v2 M1 =>
    if v2 = 0 then
      jfX11_culprit_69 k23 a1 a2 a3 a4 M1
    else
      sy_bi (jfX8_presentAt a4 M1) fun v4 M3 =>
      sy_bi (jfJ6_bitCount_0f7a4 v4 M3) fun v6 M5 =>
      let v7 := (a2 + v6)
      sy_bi (jfX8_presentAt a4 M5) fun v9 M8 =>
      let v10 := (a3 ||| v9)
      jfX11_culprit_69 k23 a1 v7 v10 a4 M8
  else
    if a1 = 0 then
      sy_ri a2 M
    else
      sy_ri a3 M
def jfX11_culprit_23 : Nat → Int32 → Int32 → Int32 → Int32 → sy_M → sy_O
  | 0, _, _, _, _, _ => none
  | n + 1, a1, a2, a3, a4, M => jgX11_culprit_23 (jfX11_culprit_23 n) a1 a2 a3 a4 M
def jfX11_culprit (a1 : Int32) (M : sy_M) : sy_O :=
  sy_bv (jfX11_readClues 1 M) fun M1 =>
  sy_bv (jfX8_learn 9 M1) fun M2 =>
  jfX11_culprit_23 sy_F a1 0 0 0 M2
def jfL_culprit (a1 : Int32) (M : sy_M) : sy_O :=
  sy_hi (jfX11_culprit a1 M) (fun v2 M1 =>
    let M5 := sy_wl M1 132 0 (Int32.toInt64 v2)
    sy_ri 0 M5)
  (fun c3 M4 => if c3 = 20 then sy_ri 1 M4 else none)
def jfX12_areRows_59 (k21 : Int32 → Int32 → Int32 → Int32 → sy_M → sy_O) (a1 : Int32) (a2 : Int32) (a4 : Int32) (s0 : Int32) (M : sy_M) : sy_O :=
  let v1 := a4 + 1
  k21 a1 a2 s0 v1 M
def jfX12_areRows_51 (k21 : Int32 → Int32 → Int32 → Int32 → sy_M → sy_O) (a1 : Int32) (a2 : Int32) (a4 : Int32) (s0 : Int32) (s1 : Int32) (M : sy_M) : sy_O :=
  if s0 < s1 then
    jfX12_areRows_59 k21 a1 a2 a4 0 M
  else
    jfX12_areRows_59 k21 a1 a2 a4 1 M
def jgX12_areRows_21 (k21 : Int32 → Int32 → Int32 → Int32 → sy_M → sy_O) (a1 : Int32) (a2 : Int32) (a3 : Int32) (a4 : Int32) (M : sy_M) : sy_O :=
  if a4 < a1 then
    if a3 = 0 then
      sy_bb (sy_bo a3) <| sy_ri a3 M
    else
      sy_bx (xe_in a4 400) <|
      if (a4 - a4 / 2 * 2) = 0 then
        jfX12_areRows_51 k21 a1 a2 a4 47 (M 126 (Int32.toNatClampNeg a4)) M
      else
        jfX12_areRows_51 k21 a1 a2 a4 a2 (M 126 (Int32.toNatClampNeg a4)) M
  else
    sy_bb (sy_bo a3) <| sy_ri a3 M
def jfX12_areRows_21 : Nat → Int32 → Int32 → Int32 → Int32 → sy_M → sy_O
  | 0, _, _, _, _, _ => none
  | n + 1, a1, a2, a3, a4, M => jgX12_areRows_21 (jfX12_areRows_21 n) a1 a2 a3 a4 M
def jfX12_areRows_17 (a1 : Int32) (a2 : Int32) (s0 : Int32) (M : sy_M) : sy_O :=
  jfX12_areRows_21 sy_F a1 a2 s0 0 M
def jfX12_areRows_16 (a1 : Int32) (a2 : Int32) (M : sy_M) : sy_O :=
  jfX12_areRows_17 a1 a2 0 M
def jfX12_areRows (a1 : Int32) (a2 : Int32) (M : sy_M) : sy_O :=
  if (a1 - a1 / 2 * 2) = 0 then
    if 40 < a1 then
      jfX12_areRows_16 a1 a2 M
    else
      jfX12_areRows_17 a1 a2 1 M
  else
    jfX12_areRows_16 a1 a2 M
def jfX12_heard_146 (k25 : Int32 → Int32 → Int32 → sy_M → sy_O) (a1 : Int32) (a3 : Int32) (s0 : Int32) (s1 : Int32) (M : sy_M) : sy_O :=
  let v1 := (s1 + s0)
  let v2 := a3 + 1
  k25 a1 v1 v2 M
def jfX12_heard_131 (k25 : Int32 → Int32 → Int32 → sy_M → sy_O) (a1 : Int32) (a2 : Int32) (a3 : Int32) (M : sy_M) : sy_O :=
  sy_bx (xe_in a3 336) <|
  if (M 131 (Int32.toNatClampNeg a3)) = 0 then
    jfX12_heard_146 k25 a1 a3 0 a2 M
  else
    jfX12_heard_146 k25 a1 a3 1 a2 M
def jfX12_heard_124 (k25 : Int32 → Int32 → Int32 → sy_M → sy_O) (k59 : Int32 → Int32 → Int32 → Int32 → sy_M → sy_O) (a1 : Int32) (a2 : Int32) (a3 : Int32) (a4 : Int32) (s0 : Int32) (s1 : Int32) (M : sy_M) : sy_O :=
  sy_bx (xe_in s1 336) <|
  sy_bb (sy_bo s0) <|
  let M1 := sy_upd M 131 (Int32.toNatClampNeg s1) s0
  let v2 := a4 + 2
  k59 a1 a2 a3 v2 M1
def jfX12_heard_116 (k25 : Int32 → Int32 → Int32 → sy_M → sy_O) (k59 : Int32 → Int32 → Int32 → Int32 → sy_M → sy_O) (a1 : Int32) (a2 : Int32) (a3 : Int32) (a4 : Int32) (s0 : Int32) (s1 : Int32) (s2 : Int32) (M : sy_M) : sy_O :=
  if s1 = s0 then
    jfX12_heard_124 k25 k59 a1 a2 a3 a4 1 s2 M
  else
    jfX12_heard_124 k25 k59 a1 a2 a3 a4 0 s2 M
def jfX12_heard_98 (k25 : Int32 → Int32 → Int32 → sy_M → sy_O) (k59 : Int32 → Int32 → Int32 → Int32 → sy_M → sy_O) (a1 : Int32) (a2 : Int32) (a3 : Int32) (a4 : Int32) (s0 : Int32) (s1 : Int32) (M : sy_M) : sy_O :=
  sy_bx (xe_in (a4 + 1) 400) <|
  if (M 126 (Int32.toNatClampNeg (a4 + 1))) = 1 then
    jfX12_heard_116 k25 k59 a1 a2 a3 a4 1 s0 s1 M
  else
    jfX12_heard_116 k25 k59 a1 a2 a3 a4 0 s0 s1 M
def jgX12_heard_59 (k25 : Int32 → Int32 → Int32 → sy_M → sy_O) (k59 : Int32 → Int32 → Int32 → Int32 → sy_M → sy_O) (a1 : Int32) (a2 : Int32) (a3 : Int32) (a4 : Int32) (M : sy_M) : sy_O :=
  if a4 < a1 then
    sy_bx (xe_in a3 336) <|
    if (M 131 (Int32.toNatClampNeg a3)) = 0 then
      jfX12_heard_131 k25 a1 a2 a3 M
    else
      sy_bx (xe_in a4 400) <|
      if (M 126 (Int32.toNatClampNeg a4)) < (a3 - a3 / 48 * 48) then
        jfX12_heard_98 k25 k59 a1 a2 a3 a4 0 a3 M
      else
        jfX12_heard_98 k25 k59 a1 a2 a3 a4 1 a3 M
  else
    jfX12_heard_131 k25 a1 a2 a3 M
def jfX12_heard_59 (k25 : Int32 → Int32 → Int32 → sy_M → sy_O) : Nat → Int32 → Int32 → Int32 → Int32 → sy_M → sy_O
  | 0, _, _, _, _, _ => none
  | n + 1, a1, a2, a3, a4, M => jgX12_heard_59 k25 (jfX12_heard_59 k25 n) a1 a2 a3 a4 M
def jgX12_heard_25 (k25 : Int32 → Int32 → Int32 → sy_M → sy_O) (a1 : Int32) (a2 : Int32) (a3 : Int32) (M : sy_M) : sy_O :=
  if a3 < (48 * (M 122 3)) then
    sy_bi (jfX12_atHome (a3 / 48) (a3 - a3 / 48 * 48) M) fun v2 M1 =>
    sy_bx (xe_in a3 336) <|
    sy_bb (sy_bo v2) <|
    let M3 := sy_upd M1 131 (Int32.toNatClampNeg a3) v2
    jfX12_heard_59 k25 sy_F a1 a2 a3 0 M3
  else
    sy_ri a2 M
def jfX12_heard_25 : Nat → Int32 → Int32 → Int32 → sy_M → sy_O
  | 0, _, _, _, _ => none
  | n + 1, a1, a2, a3, M => jgX12_heard_25 (jfX12_heard_25 n) a1 a2 a3 M
def jfX12_heard (M : sy_M) : sy_O :=
  let v1 := (M 121 8)
  let M2 := sy_upd M 121 8 0
  sy_bi (jfX12_areRows v1 1 M2) fun v4 M3 =>
  if v4 = 0 then
    sy_ri (-1) M3
  else
    jfX12_heard_25 sy_F v1 0 0 M3
def jfX12_culprit_30 (a2 : Int32) (M : sy_M) : sy_O :=
  if 0 < (M 121 0) then
    sy_ri 0 M
  else
    sy_ri a2 M
def jfX12_culprit_84 (k48 : Int32 → Int32 → sy_M → sy_O) (a4 : Int32) (s0 : Int32) (s1 : Int32) (M : sy_M) : sy_O :=
  let v1 := (s1 ||| s0)
  let v2 := a4 + 1
  k48 v1 v2 M
def jgX12_culprit_48 (k48 : Int32 → Int32 → sy_M → sy_O) (a3 : Int32) (a4 : Int32) (M : sy_M) : sy_O :=
  if a4 < (48 * (M 122 3)) then
    sy_bx (xe_in a4 336) <|
    if (M 131 (Int32.toNatClampNeg a4)) = 0 then
      jfX12_culprit_84 k48 a4 0 a3 M
    else
      jfX12_culprit_84 k48 a4 (1 <<< ((a4 / 48) &&& 31)) a3 M
  else
    sy_ri a3 M
def jfX12_culprit_48 : Nat → Int32 → Int32 → sy_M → sy_O
  | 0, _, _, _ => none
  | n + 1, a3, a4, M => jgX12_culprit_48 (jfX12_culprit_48 n) a3 a4 M
def jfX12_culprit_16 (a1 : Int32) (a2 : Int32) (s0 : Int32) (M : sy_M) : sy_O :=
  let M1 := sy_upd M 121 0 s0
  if 0 < (M1 121 0) then
    jfX12_culprit_30 a2 M1
  else
    if a1 = 0 then
      jfX12_culprit_30 a2 M1
    else
      jfX12_culprit_48 sy_F 0 0 M1
def jfX12_culprit (a1 : Int32) (M : sy_M) : sy_O :=
  sy_bi (jfX12_heard M) fun v2 M1 =>
  if v2 = (-1) then
    jfX12_culprit_16 a1 v2 1 M1
  else
    jfX12_culprit_16 a1 v2 0 M1
def jfX11_fitting_34 (k4 : Int32 → Int32 → Int32 → sy_M → sy_O) (a1 : Int32) (a2 : Int32) (a3 : Int32) (M : sy_M) : sy_O :=
  let v1 := a3 + 1
  k4 a1 a2 v1 M
def jgX11_fitting_4 (k4 : Int32 → Int32 → Int32 → sy_M → sy_O) (a1 : Int32) (a2 : Int32) (a3 : Int32) (M : sy_M) : sy_O :=
  if a1 < a3 then
    sy_ri a2 M
  else
    sy_bi (jfX1_isPossible a3 M) fun v2 M1 =>
    if v2 = 0 then
      jfX11_fitting_34 k4 a1 a2 a3 M1
    else
      sy_bi (jfX8_presentAt a3 M1) fun v4 M3 =>
      sy_bi (jfJ6_bitCount_0f7a4 v4 M3) fun v6 M5 =>
      let v7 := (a2 + v6)
      jfX11_fitting_34 k4 a1 v7 a3 M5
def jfX11_fitting_4 : Nat → Int32 → Int32 → Int32 → sy_M → sy_O
  | 0, _, _, _, _ => none
  | n + 1, a1, a2, a3, M => jgX11_fitting_4 (jfX11_fitting_4 n) a1 a2 a3 M
def jfX11_fitting (a1 : Int32) (M : sy_M) : sy_O :=
  jfX11_fitting_4 sy_F a1 0 0 M
def jfX11_ask_77 (k39 : Int32 → Int32 → Int32 → Int32 → sy_M → sy_O) (a1 : Int32) (a2 : Int32) (a3 : Int32) (a4 : Int32) (M : sy_M) : sy_O :=
  let v1 := a4 + 1
  k39 a1 a2 a3 v1 M
def jgX11_ask_39 (k39 : Int32 → Int32 → Int32 → Int32 → sy_M → sy_O) (a1 : Int32) (a2 : Int32) (a3 : Int32) (a4 : Int32) (M : sy_M) : sy_O :=
  if a4 < 48 then
    sy_bi (jfX11_fitting a4 M) fun v2 M1 =>
    sy_bi (jfJ9_max_7cf53 v2 (a1 - v2) M1) fun v4 M3 =>
    if v4 < a3 then
      jfX11_ask_77 k39 a1 a4 v4 a4 M3
    else
      jfX11_ask_77 k39 a1 a2 a3 a4 M3
  else
    sy_ri a2 M
def jfX11_ask_39 : Nat → Int32 → Int32 → Int32 → Int32 → sy_M → sy_O
  | 0, _, _, _, _, _ => none
  | n + 1, a1, a2, a3, a4, M => jgX11_ask_39 (jfX11_ask_39 n) a1 a2 a3 a4 M
def jfX11_ask (M : sy_M) : sy_O :=
  sy_bv (jfX11_readClues 1 M) fun M1 =>
  sy_bv (jfX8_learn 9 M1) fun M2 =>
  sy_bi (jfX11_fitting 47 M2) fun v4 M3 =>
  if v4 < 2 then
    sy_ri (-1) M3
  else
    let v5 := (v4 + 1)
    jfX11_ask_39 sy_F v4 0 v5 0 M3
def jfL_ask (M : sy_M) : sy_O :=
  sy_hi (jfX11_ask M) (fun v2 M1 =>
    let M5 := sy_wl M1 132 0 (Int32.toInt64 v2)
    sy_ri 0 M5)
  (fun c3 M4 => if c3 = 20 then sy_ri 1 M4 else none)
def jfX12_ask_134 (k37 : Int32 → Int32 → Int32 → Int32 → sy_M → sy_O) (a1 : Int32) (a2 : Int32) (a3 : Int32) (a4 : Int32) (M : sy_M) : sy_O :=
  let v1 := a4 + 1
  k37 a1 a2 a3 v1 M
def jfX12_ask_96 (k37 : Int32 → Int32 → Int32 → Int32 → sy_M → sy_O) (k55 : Int32 → Int32 → Int32 → Int32 → Int32 → Int32 → sy_M → sy_O) (a1 : Int32) (a2 : Int32) (a3 : Int32) (a4 : Int32) (a6 : Int32) (s0 : Int32) (s1 : Int32) (M : sy_M) : sy_O :=
  let v1 := (s1 + s0)
  let v2 := a6 + 1
  k55 a1 a2 a3 a4 v1 v2 M
def jfX12_ask_95 (k37 : Int32 → Int32 → Int32 → Int32 → sy_M → sy_O) (k55 : Int32 → Int32 → Int32 → Int32 → Int32 → Int32 → sy_M → sy_O) (a1 : Int32) (a2 : Int32) (a3 : Int32) (a4 : Int32) (a6 : Int32) (s0 : Int32) (M : sy_M) : sy_O :=
  jfX12_ask_96 k37 k55 a1 a2 a3 a4 a6 0 s0 M
def jgX12_ask_55 (k37 : Int32 → Int32 → Int32 → Int32 → sy_M → sy_O) (k55 : Int32 → Int32 → Int32 → Int32 → Int32 → Int32 → sy_M → sy_O) (a1 : Int32) (a2 : Int32) (a3 : Int32) (a4 : Int32) (a5 : Int32) (a6 : Int32) (M : sy_M) : sy_O :=
  if a6 < (48 * (M 122 3)) then
    sy_bx (xe_in a6 336) <|
    if (M 131 (Int32.toNatClampNeg a6)) = 0 then
      jfX12_ask_95 k37 k55 a1 a2 a3 a4 a6 a5 M
    else
      if a4 < (a6 - a6 / 48 * 48) then
        jfX12_ask_95 k37 k55 a1 a2 a3 a4 a6 a5 M
      else
        jfX12_ask_96 k37 k55 a1 a2 a3 a4 a6 1 a5 M
  else
    sy_bi (jfX12_greater a5 (a1 - a5) M) fun v2 M1 =>
    if v2 < a3 then
      sy_bi (jfX12_greater a5 (a1 - a5) M1) fun v4 M3 =>
      jfX12_ask_134 k37 a1 a4 v4 a4 M3
    else
      jfX12_ask_134 k37 a1 a2 a3 a4 M1
def jfX12_ask_55 (k37 : Int32 → Int32 → Int32 → Int32 → sy_M → sy_O) : Nat → Int32 → Int32 → Int32 → Int32 → Int32 → Int32 → sy_M → sy_O
  | 0, _, _, _, _, _, _, _ => none
  | n + 1, a1, a2, a3, a4, a5, a6, M => jgX12_ask_55 k37 (jfX12_ask_55 k37 n) a1 a2 a3 a4 a5 a6 M
def jgX12_ask_37 (k37 : Int32 → Int32 → Int32 → Int32 → sy_M → sy_O) (a1 : Int32) (a2 : Int32) (a3 : Int32) (a4 : Int32) (M : sy_M) : sy_O :=
  if a4 < 48 then
    if 1 < a1 then
      jfX12_ask_55 k37 sy_F a1 a2 a3 a4 0 0 M
    else
      sy_ri a2 M
  else
    sy_ri a2 M
def jfX12_ask_37 : Nat → Int32 → Int32 → Int32 → Int32 → sy_M → sy_O
  | 0, _, _, _, _, _ => none
  | n + 1, a1, a2, a3, a4, M => jgX12_ask_37 (jfX12_ask_37 n) a1 a2 a3 a4 M
def jfX12_ask_16 (a1 : Int32) (s0 : Int32) (M : sy_M) : sy_O :=
  let M1 := sy_upd M 121 0 s0
  if 0 < (M1 121 0) then
    sy_ri 0 M1
  else
    jfX12_ask_37 sy_F a1 (-1) 2000000000 0 M1
def jfX12_ask (M : sy_M) : sy_O :=
  sy_bi (jfX12_heard M) fun v2 M1 =>
  if v2 = (-1) then
    jfX12_ask_16 v2 1 M1
  else
    jfX12_ask_16 v2 0 M1
def jgX11_isDrawn_2 (k2 : Int32 → Int32 → sy_M → sy_O) (a1 : Int32) (a2 : Int32) (M : sy_M) : sy_O :=
  if a2 < (M 6 2) then
    if a2 < 20 then
      sy_bx (xe_in a2 20) <|
      sy_bi (jfX8_presentAt (M 7 (Int32.toNatClampNeg a2)) M) fun v2 M1 =>
      sy_bi (jfX2_burnt 9 (a1 &&& v2) M1) fun v4 M3 =>
      sy_bx (xe_in a2 20) <|
      if v4 = (M3 8 (Int32.toNatClampNeg a2)) then
        let v5 := a2 + 1
        k2 a1 v5 M3
      else
        sy_ri 0 M3
    else
      sy_ri 1 M
  else
    sy_ri 1 M
def jfX11_isDrawn_2 : Nat → Int32 → Int32 → sy_M → sy_O
  | 0, _, _, _ => none
  | n + 1, a1, a2, M => jgX11_isDrawn_2 (jfX11_isDrawn_2 n) a1 a2 M
def jfX11_isDrawn (a1 : Int32) (M : sy_M) : sy_O :=
  jfX11_isDrawn_2 sy_F a1 0 M
def jfX11_fewer_16 (a1 : Int32) (M : sy_M) : sy_O :=
  sy_ri a1 M
def jfX11_fewer (a0 : Int32) (a1 : Int32) (M : sy_M) : sy_O :=
  if a0 = (-1) then
    jfX11_fewer_16 a1 M
  else
    sy_bi (jfJ6_bitCount_0f7a4 a1 M) fun v2 M1 =>
    sy_bi (jfJ6_bitCount_0f7a4 a0 M1) fun v4 M3 =>
    if v2 < v4 then
      jfX11_fewer_16 a1 M3
    else
      sy_ri a0 M3
def jfX11_drawn_82 (k47 : Int32 → Int32 → Int32 → Int32 → Int32 → sy_M → sy_O) (a1 : Int32) (a2 : Int32) (a3 : Int32) (a4 : Int32) (a5 : Int32) (M : sy_M) : sy_O :=
  let v1 := a5 + 1
  k47 a1 a2 a3 a4 v1 M
def jgX11_drawn_47 (k47 : Int32 → Int32 → Int32 → Int32 → Int32 → sy_M → sy_O) (a1 : Int32) (a2 : Int32) (a3 : Int32) (a4 : Int32) (a5 : Int32) (M : sy_M) : sy_O :=
  sy_bi (jfX11_everybody M) fun v2 M1 =>
  if v2 < a5 then
    if a1 = 0 then
      sy_ri a2 M1
    else
      if a1 = 2 then
        sy_ri a4 M1
      else
        if 0 < a2 then
          sy_ri a3 M1
        else
          sy_ri 0 M1
  else
    sy_bi (jfX11_isDrawn a5 M1) fun v4 M3 =>
    if v4 = 0 then
      jfX11_drawn_82 k47 a1 a2 a3 a4 a5 M3
    else
      let v5 := a2 + 1
      let v6 := (a3 &&& a5)
      sy_bi (jfX11_fewer a4 a5 M3) fun v8 M7 =>
      jfX11_drawn_82 k47 a1 v5 v6 v8 a5 M7
def jfX11_drawn_47 : Nat → Int32 → Int32 → Int32 → Int32 → Int32 → sy_M → sy_O
  | 0, _, _, _, _, _, _ => none
  | n + 1, a1, a2, a3, a4, a5, M => jgX11_drawn_47 (jfX11_drawn_47 n) a1 a2 a3 a4 a5 M
def jfX11_drawn (a1 : Int32) (M : sy_M) : sy_O :=
  sy_bv (jfX11_readClues 63 M) fun M1 =>
  if a1 < 0 then
    sy_bx (xe_in (M1 133 0) 100000) <|
    sy_rt 23 (sy_upd M1 133 0 (M1 133 0 + 1))
  else
    if 2 < a1 then
      sy_bx (xe_in (M1 133 0) 100000) <|
      sy_rt 23 (sy_upd M1 133 0 (M1 133 0 + 1))
    else
      sy_bv (jfX8_learn 9 M1) fun M2 =>
      sy_bi (jfX11_everybody M2) fun v4 M3 =>
      jfX11_drawn_47 sy_F a1 0 v4 (-1) 0 M3
def jfL_drawn (a1 : Int32) (M : sy_M) : sy_O :=
  sy_hi (jfX11_drawn a1 M) (fun v2 M1 =>
    let M5 := sy_wl M1 132 0 (Int32.toInt64 v2)
    sy_ri 0 M5)
  (fun c3 M4 => if c3 = 20 then sy_ri 1 M4 else if c3 = 23 then sy_ri 2 M4 else none)
def jgX12_bits_4 (k4 : Int32 → Int32 → Int32 → sy_M → sy_O) (a0 : Int32) (a1 : Int32) (a2 : Int32) (M : sy_M) : sy_O :=
  if a2 < 31 then
    let v1 := (a1 + ((a0 >>> (a2 &&& 31)) &&& 1))
    let v2 := a2 + 1
    k4 a0 v1 v2 M
  else
    sy_ri a1 M
def jfX12_bits_4 : Nat → Int32 → Int32 → Int32 → sy_M → sy_O
  | 0, _, _, _, _ => none
  | n + 1, a0, a1, a2, M => jgX12_bits_4 (jfX12_bits_4 n) a0 a1 a2 M
def jfX12_bits (a0 : Int32) (M : sy_M) : sy_O :=
  jfX12_bits_4 sy_F a0 0 0 M
def jfX12_drawn_173 (k63 : Int32 → Int32 → Int32 → Int32 → Int32 → Int32 → sy_M → sy_O) (a1 : Int32) (a2 : Int32) (a3 : Int32) (a4 : Int32) (a5 : Int32) (a6 : Int32) (M : sy_M) : sy_O :=
  let v1 := a6 + 1
  k63 a1 a2 a3 a4 a5 v1 M
def jfX12_drawn_169 (k63 : Int32 → Int32 → Int32 → Int32 → Int32 → Int32 → sy_M → sy_O) (a1 : Int32) (a2 : Int32) (a3 : Int32) (a4 : Int32) (a6 : Int32) (M : sy_M) : sy_O :=
  jfX12_drawn_173 k63 a1 a2 a3 a4 a6 a6 M
def jfX12_drawn_132 (k63 : Int32 → Int32 → Int32 → Int32 → Int32 → Int32 → sy_M → sy_O) (a1 : Int32) (a2 : Int32) (a3 : Int32) (a4 : Int32) (a5 : Int32) (a6 : Int32) (a7 : Int32) (M : sy_M) : sy_O :=
  if a7 = 0 then
    jfX12_drawn_173 k63 a1 a2 a3 a4 a5 a6 M
  else
    let v1 := a3 + 1
    let v2 := (a4 &&& a6)
    if a5 = (-1) then
      jfX12_drawn_169 k63 a1 a2 v1 v2 a6 M
    else
      sy_bi (jfX12_bits a6 M) fun v4 M3 =>
      sy_bi (jfX12_bits a5 M3) fun v6 M5 =>
      if v4 < v6 then
        jfX12_drawn_169 k63 a1 a2 v1 v2 a6 M5
      else
        jfX12_drawn_173 k63 a1 a2 v1 v2 a5 a6 M5
def jfX12_drawn_124 (k63 : Int32 → Int32 → Int32 → Int32 → Int32 → Int32 → sy_M → sy_O) (k78 : Int32 → Int32 → Int32 → Int32 → Int32 → Int32 → Int32 → Int32 → sy_M → sy_O) (a1 : Int32) (a2 : Int32) (a3 : Int32) (a4 : Int32) (a5 : Int32) (a6 : Int32) (a8 : Int32) (s0 : Int32) (M : sy_M) : sy_O :=
  let v1 := a8 + 2
  k78 a1 a2 a3 a4 a5 a6 s0 v1 M
def jgX12_drawn_78 (k63 : Int32 → Int32 → Int32 → Int32 → Int32 → Int32 → sy_M → sy_O) (k78 : Int32 → Int32 → Int32 → Int32 → Int32 → Int32 → Int32 → Int32 → sy_M → sy_O) (a1 : Int32) (a2 : Int32) (a3 : Int32) (a4 : Int32) (a5 : Int32) (a6 : Int32) (a7 : Int32) (a8 : Int32) (M : sy_M) : sy_O :=
  if a8 < a2 then
    if a7 = 0 then
      jfX12_drawn_132 k63 a1 a2 a3 a4 a5 a6 a7 M
    else
      sy_bx (xe_in a8 400) <|
      sy_bi (jfX12_homeIn (M 126 (Int32.toNatClampNeg a8)) M) fun v2 M1 =>
      sy_bi (jfX12_burnsOf (a6 &&& v2) M1) fun v4 M3 =>
      sy_bx (xe_in (a8 + 1) 400) <|
      if v4 = (M3 126 (Int32.toNatClampNeg (a8 + 1))) then
        jfX12_drawn_124 k63 k78 a1 a2 a3 a4 a5 a6 a8 1 M3
      else
        jfX12_drawn_124 k63 k78 a1 a2 a3 a4 a5 a6 a8 0 M3
  else
    jfX12_drawn_132 k63 a1 a2 a3 a4 a5 a6 a7 M
def jfX12_drawn_78 (k63 : Int32 → Int32 → Int32 → Int32 → Int32 → Int32 → sy_M → sy_O) : Nat → Int32 → Int32 → Int32 → Int32 → Int32 → Int32 → Int32 → Int32 → sy_M → sy_O
  | 0, _, _, _, _, _, _, _, _, _ => none
  | n + 1, a1, a2, a3, a4, a5, a6, a7, a8, M => jgX12_drawn_78 k63 (jfX12_drawn_78 k63 n) a1 a2 a3 a4 a5 a6 a7 a8 M
def jgX12_drawn_63 (k63 : Int32 → Int32 → Int32 → Int32 → Int32 → Int32 → sy_M → sy_O) (a1 : Int32) (a2 : Int32) (a3 : Int32) (a4 : Int32) (a5 : Int32) (a6 : Int32) (M : sy_M) : sy_O :=
  sy_bi (jfX12_all M) fun v2 M1 =>
  if v2 < a6 then
    if a1 = 0 then
      sy_ri a3 M1
    else
      if a1 = 2 then
        sy_ri a5 M1
      else
        if a3 = 0 then
          sy_ri 0 M1
        else
          sy_ri a4 M1
  else
    jfX12_drawn_78 k63 sy_F a1 a2 a3 a4 a5 a6 1 0 M1
def jfX12_drawn_63 : Nat → Int32 → Int32 → Int32 → Int32 → Int32 → Int32 → sy_M → sy_O
  | 0, _, _, _, _, _, _, _ => none
  | n + 1, a1, a2, a3, a4, a5, a6, M => jgX12_drawn_63 (jfX12_drawn_63 n) a1 a2 a3 a4 a5 a6 M
def jfX12_drawn_39 (a1 : Int32) (a2 : Int32) (s0 : Int32) (M : sy_M) : sy_O :=
  let M1 := sy_upd M 121 0 s0
  if 0 < (M1 121 0) then
    sy_ri 0 M1
  else
    jfX12_drawn_63 sy_F a1 a2 0 127 (-1) 0 M1
def jfX12_drawn (a1 : Int32) (M : sy_M) : sy_O :=
  let v1 := (M 121 8)
  let M2 := sy_upd M 121 8 0
  sy_bi (jfX12_areRows v1 63 M2) fun v4 M3 =>
  if v4 = 0 then
    jfX12_drawn_39 a1 v1 1 M3
  else
    sy_bi (jfX12_isIn a1 0 2 M3) fun v6 M5 =>
    if v6 = 0 then
      jfX12_drawn_39 a1 v1 2 M5
    else
      jfX12_drawn_39 a1 v1 0 M5
def jfX11_warmer_70 (a1 : Int32) (a2 : Int32) (a3 : Int32) (a4 : Int32) (M : sy_M) : sy_O :=
  sy_bi (jfX11_run 48 0 M) fun v2 M1 =>
  sy_bi (jfX11_griefAhead a1 M1) fun v4 M3 =>
  if v4 < a3 then
    sy_bi (jfX11_griefAhead a2 M3) fun v6 M5 =>
    if v6 < a4 then
      sy_ri 1 M5
    else
      sy_ri 0 M5
  else
    sy_ri 0 M3
def jfX11_warmer (a1 : Int32) (a2 : Int32) (M : sy_M) : sy_O :=
  sy_bv (jfX11_checkTwo a1 a2 M) fun M1 =>
  sy_bv (jfX8_learn 9 M1) fun M2 =>
  sy_bi (jfX2_get 9 a1 4 M2) fun v4 M3 =>
  sy_bi (jfX11_griefBy a1 v4 M3) fun v6 M5 =>
  sy_bi (jfX11_griefAhead a2 M5) fun v8 M7 =>
  sy_bv (jfX2_takeOver 19 9 M7) fun M9 =>
  sy_bv (jfX2_swapRooms 19 a1 a2 M9) fun M10 =>
  sy_bv (jfX8_learn 19 M10) fun M11 =>
  jfX11_warmer_70 a1 a2 v6 v8 M11
def jfL_warmer_16 (s0 : Int64) (s1 : Int32) (M : sy_M) : sy_O :=
  sy_bx (xe_in s1 1) <|
  let M1 := sy_wl M 132 (Int32.toNatClampNeg s1) s0
  sy_ri 0 M1
def jfL_warmer (a1 : Int32) (a2 : Int32) (M : sy_M) : sy_O :=
  sy_hi (jfX11_warmer a1 a2 M) (fun v2 M1 =>
    if v2 = 0 then
      jfL_warmer_16 (Int64.ofNat 0) 0 M1
    else
      jfL_warmer_16 (Int64.ofNat 1) 0 M1)
  (fun c3 M4 => if c3 = 22 then sy_ri 1 M4 else if c3 = 20 then sy_ri 2 M4 else none)
def jfX12_warmer_71 (M : sy_M) : sy_O :=
  sy_ri 1 M
def jfX12_warmer (a1 : Int32) (a2 : Int32) (M : sy_M) : sy_O :=
  sy_bv (jfX12_areTwo a1 a2 M) fun M1 =>
  if 0 < (M1 121 0) then
    sy_ri 0 M1
  else
    sy_bv (jfX12_grieves M1) fun M2 =>
    sy_bx (xe_in a1 7) <|
    let v3 := (M2 129 (Int32.toNatClampNeg a1))
    sy_bx (xe_in a2 7) <|
    let v4 := (M2 129 (Int32.toNatClampNeg a2))
    sy_bv (jfX12_rooms a1 a2 M2) fun M5 =>
    sy_bv (jfX12_grieves M5) fun M6 =>
    sy_bv (jfX12_rooms a1 a2 M6) fun M7 =>
    sy_bx (xe_in a1 7) <|
    if (M7 129 (Int32.toNatClampNeg a1)) < v3 then
      sy_bx (xe_in a2 7) <|
      if (M7 129 (Int32.toNatClampNeg a2)) < v4 then
        jfX12_warmer_71 M7
      else
        sy_ri 0 M7
    else
      sy_ri 0 M7
def jfX9_keep (a1 : Int32) (M : sy_M) : sy_O :=
  if (M 53 4) < a1 then
    let M1 := sy_upd M 53 4 a1
    let M2 := sy_cpy M1 55 0 56 0 7
    sy_rv M2
  else
    sy_rv M
end
