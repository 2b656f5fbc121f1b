/-! dev tree alone: the functions -/
noncomputable section
def jfX10_append_50 (k3 : Int32 → Int32 → sy_M → sy_O) (a1 : Int32) (a2 : Int32) (M : sy_M) : sy_O :=
  let v1 := a2 + (-8)
  k3 a1 v1 M
def jgX10_append_3 (k3 : Int32 → Int32 → sy_M → sy_O) (a1 : Int32) (a2 : Int32) (M : sy_M) : sy_O :=
  if a2 < 0 then
    sy_rv M
  else
    if (M 1 4) < 0 then
      jfX10_append_50 k3 a1 a2 M
    else
      if (M 1 4) < 400 then
        sy_bx (xe_in (M 1 4) 400) <|
        let M1 := sy_upd M 2 (Int32.toNatClampNeg (M 1 4)) (((Int32.toUInt32 a1 >>> (Int32.toUInt32 a2 &&& Int32.toUInt32 31)).toInt32) &&& 255)
        let M2 := sy_upd M1 1 4 ((M1 1 4) + 1)
        jfX10_append_50 k3 a1 a2 M2
      else
        jfX10_append_50 k3 a1 a2 M
def jfX10_append_3 : Nat → Int32 → Int32 → sy_M → sy_O
  | 0, _, _, _ => none
  | n + 1, a1, a2, M => jgX10_append_3 (jfX10_append_3 n) a1 a2 M
def jfX10_append (a1 : Int32) (M : sy_M) : sy_O :=
  jfX10_append_3 sy_F a1 24 M
def jfX11_feed (a1 : Int32) (a2 : Int32) (a3 : Int32) (a4 : Int32) (a5 : Int32) (M : sy_M) : sy_O :=
  if 400 < ((M 1 4) + 20) then
    sy_ri (-1) M
  else
    sy_bv (jfX10_append a1 M) fun M1 =>
    sy_bv (jfX10_append a2 M1) fun M2 =>
    sy_bv (jfX10_append a3 M2) fun M3 =>
    sy_bv (jfX10_append a4 M3) fun M4 =>
    sy_bv (jfX10_append a5 M4) fun M5 =>
    sy_ri (M5 1 4) M5
def jfX12_feed_76 (k23 : Int32 → Int32 → Int32 → Int32 → Int32 → Int32 → sy_M → sy_O) (a1 : Int32) (a2 : Int32) (a3 : Int32) (a4 : Int32) (a5 : Int32) (a6 : Int32) (s0 : Int32) (M : sy_M) : sy_O :=
  sy_bx (xe_in (M 121 8) 400) <|
  let M1 := sy_upd M 126 (Int32.toNatClampNeg (M 121 8)) (((Int32.toUInt32 s0 >>> (Int32.toUInt32 (24 - (8 * (a6 - a6 / 4 * 4))) &&& Int32.toUInt32 31)).toInt32) &&& 255)
  let M2 := sy_upd M1 121 8 ((M1 121 8) + 1)
  let v3 := a6 + 1
  k23 a1 a2 a3 a4 a5 v3 M2
def jgX12_feed_23 (k23 : Int32 → Int32 → Int32 → Int32 → Int32 → Int32 → sy_M → sy_O) (a1 : Int32) (a2 : Int32) (a3 : Int32) (a4 : Int32) (a5 : Int32) (a6 : Int32) (M : sy_M) : sy_O :=
  if a6 < 20 then
    if a6 < 4 then
      jfX12_feed_76 k23 a1 a2 a3 a4 a5 a6 a1 M
    else
      if a6 < 8 then
        jfX12_feed_76 k23 a1 a2 a3 a4 a5 a6 a2 M
      else
        if a6 < 12 then
          jfX12_feed_76 k23 a1 a2 a3 a4 a5 a6 a3 M
        else
          if a6 < 16 then
            jfX12_feed_76 k23 a1 a2 a3 a4 a5 a6 a4 M
          else
            jfX12_feed_76 k23 a1 a2 a3 a4 a5 a6 a5 M
  else
    sy_ri (M 121 8) M
def jfX12_feed_23 : Nat → Int32 → Int32 → Int32 → Int32 → Int32 → Int32 → sy_M → sy_O
  | 0, _, _, _, _, _, _, _ => none
  | n + 1, a1, a2, a3, a4, a5, a6, M => jgX12_feed_23 (jfX12_feed_23 n) a1 a2 a3 a4 a5 a6 M
def jfX12_feed (a1 : Int32) (a2 : Int32) (a3 : Int32) (a4 : Int32) (a5 : Int32) (M : sy_M) : sy_O :=
  let M1 := sy_upd M 121 0 0
  if 400 < ((M1 121 8) + 20) then
    sy_ri (-1) M1
  else
    jfX12_feed_23 sy_F a1 a2 a3 a4 a5 0 M1
def jfX11_end (a1 : Int32) (M : sy_M) : sy_O :=
  if a1 < 0 then
    sy_ri 0 M
  else
    if (M 1 4) < a1 then
      sy_ri 0 M
    else
      let M1 := sy_upd M 1 4 a1
      sy_ri 1 M1
def jfX12_isIn (a0 : Int32) (a1 : Int32) (a2 : Int32) (M : sy_M) : sy_O :=
  if a0 < a1 then
    sy_ri 0 M
  else
    if a2 < a0 then
      sy_ri 0 M
    else
      sy_ri 1 M
def jfX12_end (a1 : Int32) (M : sy_M) : sy_O :=
  let M1 := sy_upd M 121 0 0
  sy_bi (jfX12_isIn a1 0 (M1 121 8) M1) fun v3 M2 =>
  if v3 = 0 then
    sy_ri 0 M2
  else
    let M4 := sy_upd M2 121 8 a1
    sy_ri 1 M4
def jfX7_takeOver (r0 : Nat) (r1 : Nat) (M : sy_M) : sy_O :=
  sy_bs (sy_is 6 r0) <|
  if (M r0 0) = 0 then
    sy_rv M
  else
    sy_bs (sy_is 6 r0) <|
    sy_bs (sy_is 6 r1) <|
    if (M r0 0) = (M r1 0) then
      sy_bs (sy_is 6 r1) <|
      sy_bs (sy_is 6 r0) <|
      sy_bs (sy_is 6 r0) <|
      sy_bb (sy_ia (r0 + 1) || Nat.beq (r0 + 1) 1000000) <|
      sy_bb (sy_cok (r1 + 1) (r0 + 1) 0 0 (Nat.toInt32 (sy_len M (r0 + 1)))) <|
      let M1 := sy_cpy M (r1 + 1) 0 (r0 + 1) 0 (Int32.toNatClampNeg (Nat.toInt32 (sy_len M (r0 + 1))))
      sy_bs (sy_is 6 r1) <|
      sy_bs (sy_is 6 r0) <|
      let M2 := sy_upd M1 r0 2 (M1 r1 2)
      sy_bs (sy_is 6 r1) <|
      sy_bs (sy_is 6 r0) <|
      let M3 := sy_upd M2 r0 3 (M2 r1 3)
      sy_rv M3
    else
      sy_rv M
def jfX2_takeOver_73 (r0 : Nat) (r1 : Nat) (M : sy_M) : sy_O :=
  sy_bs (sy_is 2 r1) <|
  sy_bs (sy_is 2 r0) <|
  let M1 := sy_upd M r0 7 (M r1 7)
  sy_bs (sy_is 2 r1) <|
  sy_bs (sy_is 2 r0) <|
  let M2 := sy_upd M1 r0 8 (M1 r1 8)
  sy_bs (sy_is 2 r1) <|
  sy_bs (sy_is 2 r0) <|
  let M3 := sy_upd M2 r0 9 (M2 r1 9)
  sy_bs (sy_is 2 r1) <|
  sy_bs (sy_is 2 r0) <|
  let M4 := sy_upd M3 r0 10 (M3 r1 10)
  sy_bs (sy_is 2 r1) <|
  sy_bs (sy_is 2 r0) <|
  let M5 := sy_upd M4 r0 11 (M4 r1 11)
  sy_bs (sy_is 2 r1) <|
  sy_bs (sy_is 2 r0) <|
  let M6 := sy_upd M5 r0 12 (M5 r1 12)
  sy_bs (sy_is 2 r1) <|
  sy_bs (sy_is 2 r0) <|
  let M7 := sy_upd M6 r0 13 (M6 r1 13)
  sy_rv M7
def jfX2_takeOver (r0 : Nat) (r1 : Nat) (M : sy_M) : sy_O :=
  sy_bs (sy_is 2 r1) <|
  sy_bs (sy_is 2 r0) <|
  sy_bb (sy_cok (r1 + 1) (r0 + 1) 0 0 63) <|
  let M1 := sy_cpy M (r1 + 1) 0 (r0 + 1) 0 63
  sy_bs (sy_is 2 r1) <|
  sy_bs (sy_is 2 r0) <|
  sy_bb (sy_cok (r1 + 2) (r0 + 2) 0 0 49) <|
  let M2 := sy_cpy M1 (r1 + 2) 0 (r0 + 2) 0 49
  sy_bs (sy_is 2 r0) <|
  sy_bs (sy_is 2 r1) <|
  sy_bs (sy_is 6 (r0 + 3)) <|
  sy_bv (jfX7_takeOver (r0 + 3) (r1 + 3) M2) fun M3 =>
  sy_bs (sy_is 2 r1) <|
  sy_bs (sy_is 2 r0) <|
  let M4 := sy_upd M3 r0 3 (M3 r1 3)
  sy_bs (sy_is 2 r1) <|
  sy_bs (sy_is 2 r0) <|
  let M5 := sy_upd M4 r0 4 (M4 r1 4)
  sy_bs (sy_is 2 r1) <|
  sy_bs (sy_is 2 r0) <|
  let M6 := sy_upd M5 r0 5 (M5 r1 5)
  sy_bs (sy_is 2 r1) <|
  sy_bs (sy_is 2 r0) <|
  let M7 := sy_upd M6 r0 6 (M6 r1 6)
  jfX2_takeOver_73 r0 r1 M7
def jfX10_byteAt (a1 : Int32) (M : sy_M) : sy_O :=
  if a1 < 0 then
    sy_ri 0 M
  else
    if a1 < 400 then
      sy_bx (xe_in a1 400) <|
      sy_ri (M 2 (Int32.toNatClampNeg a1)) M
    else
      sy_ri 0 M
def jgX10_numberAt_5 (k5 : Int32 → Int32 → Int32 → Int32 → sy_M → sy_O) (a1 : Int32) (a2 : Int32) (a3 : Int32) (a4 : Int32) (M : sy_M) : sy_O :=
  if a4 < a2 then
    if a4 < (a1 + 3) then
      sy_bi (jfX10_byteAt a4 M) fun v2 M1 =>
      let v3 := (((10 * a3) + v2) - 48)
      let v4 := a4 + 1
      k5 a1 a2 v3 v4 M1
    else
      sy_ri a3 M
  else
    sy_ri a3 M
def jfX10_numberAt_5 : Nat → Int32 → Int32 → Int32 → Int32 → sy_M → sy_O
  | 0, _, _, _, _, _ => none
  | n + 1, a1, a2, a3, a4, M => jgX10_numberAt_5 (jfX10_numberAt_5 n) a1 a2 a3 a4 M
def jfX10_numberAt (a1 : Int32) (a2 : Int32) (M : sy_M) : sy_O :=
  jfX10_numberAt_5 sy_F a1 a2 0 a1 M
def jfX10_kindOf_16 (a0 : Int32) (M : sy_M) : sy_O :=
  if a0 < 48 then
    sy_ri (-1) M
  else
    if 57 < a0 then
      sy_ri (-1) M
    else
      sy_ri 257 M
def jfX10_kindOf (a0 : Int32) (M : sy_M) : sy_O :=
  if a0 < 97 then
    jfX10_kindOf_16 a0 M
  else
    if 122 < a0 then
      jfX10_kindOf_16 a0 M
    else
      sy_ri 259 M
def jfX10_wordAt_104 (k10 : Int32 → Int32 → Int32 → Int32 → Int32 → sy_M → sy_O) (a1 : Int32) (a2 : Int32) (a3 : Int32) (a4 : Int32) (a5 : Int32) (M : sy_M) : sy_O :=
  let v1 := a5 + 1
  k10 a1 a2 a3 a4 v1 M
def jfX10_wordAt_102 (k10 : Int32 → Int32 → Int32 → Int32 → Int32 → sy_M → sy_O) (a1 : Int32) (a2 : Int32) (a3 : Int32) (a5 : Int32) (s0 : Int32) (M : sy_M) : sy_O :=
  jfX10_wordAt_104 k10 a1 a2 a3 s0 a5 M
def jfX10_wordAt_87 (k10 : Int32 → Int32 → Int32 → Int32 → Int32 → sy_M → sy_O) (a1 : Int32) (a2 : Int32) (a3 : Int32) (a4 : Int32) (a5 : Int32) (s0 : Int32) (M : sy_M) : sy_O :=
  if s0 = 0 then
    jfX10_wordAt_102 k10 a1 a2 a3 a5 (-1) M
  else
    jfX10_wordAt_102 k10 a1 a2 a3 a5 (a4 + 1) M
def jfX10_wordAt_86 (k10 : Int32 → Int32 → Int32 → Int32 → Int32 → sy_M → sy_O) (a1 : Int32) (a2 : Int32) (a3 : Int32) (a4 : Int32) (a5 : Int32) (M : sy_M) : sy_O :=
  jfX10_wordAt_87 k10 a1 a2 a3 a4 a5 0 M
def jgX10_wordAt_10 (k10 : Int32 → Int32 → Int32 → Int32 → Int32 → sy_M → sy_O) (a1 : Int32) (a2 : Int32) (a3 : Int32) (a4 : Int32) (a5 : Int32) (M : sy_M) : sy_O :=
  if a5 < (Nat.toInt32 128) then
    sy_bx (xe_in a5 128) <|
    if (sy_sc 1500000 (Int32.toNatClampNeg a5)) = 32 then
      if a4 = (a2 - a1) then
        sy_ri a3 M
      else
        let v3 := a3 + 1
        jfX10_wordAt_104 k10 a1 a2 v3 0 a5 M
    else
      if a4 < 0 then
        jfX10_wordAt_86 k10 a1 a2 a3 a4 a5 M
      else
        if (a1 + a4) < a2 then
          sy_bi (jfX10_byteAt (a1 + a4) M) fun v2 M1 =>
          sy_bx (xe_in a5 128) <|
          if v2 = (sy_sc 1500000 (Int32.toNatClampNeg a5)) then
            jfX10_wordAt_87 k10 a1 a2 a3 a4 a5 1 M1
          else
            jfX10_wordAt_86 k10 a1 a2 a3 a4 a5 M1
        else
          jfX10_wordAt_86 k10 a1 a2 a3 a4 a5 M
  else
    sy_ri 258 M
def jfX10_wordAt_10 : Nat → Int32 → Int32 → Int32 → Int32 → Int32 → sy_M → sy_O
  | 0, _, _, _, _, _, _ => none
  | n + 1, a1, a2, a3, a4, a5, M => jgX10_wordAt_10 (jfX10_wordAt_10 n) a1 a2 a3 a4 a5 M
def jfX10_wordAt (a1 : Int32) (a2 : Int32) (M : sy_M) : sy_O :=
  jfX10_wordAt_10 sy_F a1 a2 260 0 0 M
def jfX10_thingAt (a1 : Int32) (a2 : Int32) (M : sy_M) : sy_O :=
  if a1 < a2 then
    sy_bi (jfX10_byteAt a1 M) fun v2 M1 =>
    sy_bi (jfX10_kindOf v2 M1) fun v4 M3 =>
    if v4 = 257 then
      if 3 < (a2 - a1) then
        sy_ri 258 M3
      else
        sy_ri 257 M3
    else
      if v4 = (-1) then
        sy_bi (jfX10_byteAt a1 M3) fun v8 M7 =>
        sy_ri v8 M7
      else
        sy_bi (jfX10_wordAt a1 a2 M3) fun v6 M5 =>
        sy_ri v6 M5
  else
    sy_ri 256 M
def jfX10_addThing (a1 : Int32) (a2 : Int32) (M : sy_M) : sy_O :=
  if (M 1 5) < 0 then
    sy_rv M
  else
    if 400 < (M 1 5) then
      sy_rv M
    else
      sy_bx (xe_in (M 1 5) 401) <|
      let M1 := sy_upd M 4 (Int32.toNatClampNeg (M 1 5)) a1
      sy_bi (jfX10_numberAt a1 a2 M1) fun v3 M2 =>
      sy_bx (xe_in (M1 1 5) 401) <|
      let M4 := sy_upd M2 5 (Int32.toNatClampNeg (M1 1 5)) v3
      sy_bi (jfX10_thingAt a1 a2 M4) fun v6 M5 =>
      sy_bx (xe_in (M4 1 5) 401) <|
      let M7 := sy_upd M5 3 (Int32.toNatClampNeg (M4 1 5)) v6
      let M8 := sy_upd M7 1 5 ((M7 1 5) + 1)
      sy_rv M8
def jgX10_behindThing_14 (k14 : Int32 → Int32 → Int32 → sy_M → sy_O) (a2 : Int32) (a3 : Int32) (a4 : Int32) (M : sy_M) : sy_O :=
  if a3 = (-1) then
    sy_ri a4 M
  else
    if a4 < a2 then
      sy_bi (jfX10_byteAt a4 M) fun v2 M1 =>
      sy_bi (jfX10_kindOf v2 M1) fun v4 M3 =>
      if v4 = a3 then
        let v5 := a4 + 1
        k14 a2 a3 v5 M3
      else
        sy_ri a4 M3
    else
      sy_ri a4 M
def jfX10_behindThing_14 : Nat → Int32 → Int32 → Int32 → sy_M → sy_O
  | 0, _, _, _, _ => none
  | n + 1, a2, a3, a4, M => jgX10_behindThing_14 (jfX10_behindThing_14 n) a2 a3 a4 M
def jfX10_behindThing (a1 : Int32) (a2 : Int32) (M : sy_M) : sy_O :=
  sy_bi (jfX10_byteAt a1 M) fun v2 M1 =>
  sy_bi (jfX10_kindOf v2 M1) fun v4 M3 =>
  let v5 := (a1 + 1)
  jfX10_behindThing_14 sy_F a2 v4 v5 M3
def jfX10_open_75 (a1 : Int32) (M : sy_M) : sy_O :=
  sy_bv (jfX10_addThing a1 a1 M) fun M1 =>
  sy_rv M1
def jfX10_open_66 (k29 : Int32 → Int32 → Int32 → sy_M → sy_O) (a1 : Int32) (a3 : Int32) (a4 : Int32) (M : sy_M) : sy_O :=
  let v1 := a3 + 1
  k29 a1 a4 v1 M
def jgX10_open_29 (k29 : Int32 → Int32 → Int32 → sy_M → sy_O) (a1 : Int32) (a2 : Int32) (a3 : Int32) (M : sy_M) : sy_O :=
  if a3 < 400 then
    if a2 < a1 then
      sy_bi (jfX10_behindThing a2 a1 M) fun v2 M1 =>
      sy_bi (jfX10_byteAt a2 M1) fun v4 M3 =>
      if v4 = 32 then
        jfX10_open_66 k29 a1 a3 v2 M3
      else
        sy_bv (jfX10_addThing a2 v2 M3) fun M5 =>
        jfX10_open_66 k29 a1 a3 v2 M5
    else
      jfX10_open_75 a1 M
  else
    jfX10_open_75 a1 M
def jfX10_open_29 : Nat → Int32 → Int32 → Int32 → sy_M → sy_O
  | 0, _, _, _, _ => none
  | n + 1, a1, a2, a3, M => jgX10_open_29 (jfX10_open_29 n) a1 a2 a3 M
def jfX10_open (M : sy_M) : sy_O :=
  let v1 := (M 1 4)
  let M2 := sy_upd M 1 4 0
  let M3 := sy_upd M2 1 5 0
  let M4 := sy_upd M3 1 6 0
  let M5 := sy_upd M4 1 7 (-1)
  jfX10_open_29 sy_F v1 0 0 M5
def jfX10_thing (M : sy_M) : sy_O :=
  if (M 1 6) < 0 then
    sy_ri 256 M
  else
    if 400 < (M 1 6) then
      sy_ri 256 M
    else
      if (M 1 6) < (M 1 5) then
        sy_bx (xe_in (M 1 6) 401) <|
        sy_ri (M 3 (Int32.toNatClampNeg (M 1 6))) M
      else
        sy_ri 256 M
def jfX10_fails (M : sy_M) : sy_O :=
  if (M 1 6) < 0 then
    let M1 := sy_upd M 1 7 0
    sy_ri 0 M1
  else
    if 400 < (M 1 6) then
      let M2 := sy_upd M 1 7 0
      sy_ri 0 M2
    else
      sy_bx (xe_in (M 1 6) 401) <|
      let M3 := sy_upd M 1 7 (M 4 (Int32.toNatClampNeg (M 1 6)))
      sy_ri 0 M3
def jfX10_takes (a1 : Int32) (M : sy_M) : sy_O :=
  if (M 1 6) < 0 then
    sy_ri 0 M
  else
    if 400 < (M 1 6) then
      sy_ri 0 M
    else
      if (M 1 6) < (M 1 5) then
        sy_bx (xe_in (M 1 6) 401) <|
        if (M 3 (Int32.toNatClampNeg (M 1 6))) = a1 then
          let M1 := sy_upd M 1 6 ((M 1 6) + 1)
          sy_ri 1 M1
        else
          sy_ri 0 M
      else
        sy_ri 0 M
def jfX10_takesNumber_58 (M : sy_M) : sy_O :=
  sy_bx (xe_in (M 1 6) 401) <|
  let M1 := sy_upd M 1 7 (M 4 (Int32.toNatClampNeg (M 1 6)))
  sy_ri (-1) M1
def jfX10_takesNumber_47 (a1 : Int32) (a2 : Int32) (s0 : Int32) (M : sy_M) : sy_O :=
  if s0 < a1 then
    jfX10_takesNumber_58 M
  else
    if a2 < s0 then
      jfX10_takesNumber_58 M
    else
      let M1 := sy_upd M 1 6 ((M 1 6) + 1)
      sy_ri s0 M1
def jfX10_takesNumber (a1 : Int32) (a2 : Int32) (M : sy_M) : sy_O :=
  if (M 1 6) < 0 then
    sy_ri (-1) M
  else
    if 400 < (M 1 6) then
      sy_ri (-1) M
    else
      sy_bx (xe_in (M 1 6) 401) <|
      if (M 3 (Int32.toNatClampNeg (M 1 6))) = 257 then
        sy_bx (xe_in (M 1 6) 401) <|
        jfX10_takesNumber_47 a1 a2 (M 5 (Int32.toNatClampNeg (M 1 6))) M
      else
        jfX10_takesNumber_47 a1 a2 (-1) M
def jfX2_isDebt (a0 : Int32) (a1 : Int32) (M : sy_M) : sy_O :=
  if a0 < 0 then
    sy_ri 0 M
  else
    if a0 < 7 then
      if a1 < 0 then
        sy_ri 0 M
      else
        if a1 < 7 then
          sy_ri 1 M
        else
          sy_ri 0 M
    else
      sy_ri 0 M
def jfX2_setOwed (r0 : Nat) (a1 : Int32) (a2 : Int32) (a3 : Int32) (M : sy_M) : sy_O :=
  sy_bi (jfX2_isDebt a1 a2 M) fun v2 M1 =>
  if v2 = 0 then
    sy_rv M1
  else
    sy_bs (sy_is 2 r0) <|
    sy_bx (xe_in ((a1 * 7) + a2) (sy_li (r0 + 2))) <|
    let M3 := sy_upd M1 (r0 + 2) (Int32.toNatClampNeg ((a1 * 7) + a2)) a3
    sy_rv M3
def jfX3_readDebt_91 (a1 : Int32) (a3 : Int32) (a4 : Int32) (M : sy_M) : sy_O :=
  sy_bv (jfX2_setOwed 14 a1 a3 a4 M) fun M1 =>
  if a4 = (-1) then
    sy_ri 0 M1
  else
    sy_ri 1 M1
def jfX3_readDebt_71 (M : sy_M) : sy_O :=
  sy_bi (jfX10_fails M) fun v2 M1 =>
  sy_bb (sy_bo v2) <| sy_ri v2 M1
def jfX3_readDebt (M : sy_M) : sy_O :=
  sy_bi (jfX10_takesNumber 0 ((M 14 3) - 1) M) fun v2 M1 =>
  if v2 = (-1) then
    sy_ri 0 M1
  else
    let v3 := (M1 1 6)
    sy_bi (jfX10_takesNumber 0 ((M1 14 3) - 1) M1) fun v5 M4 =>
    if v5 = (-1) then
      sy_ri 0 M4
    else
      if v5 = v2 then
        let M8 := sy_upd M4 1 6 v3
        jfX3_readDebt_71 M8
      else
        sy_bi (jfX10_takesNumber 0 99 M4) fun v7 M6 =>
        jfX3_readDebt_91 v2 v5 v7 M6
def jfX2_set (r0 : Nat) (a1 : Int32) (a2 : Int32) (a3 : Int32) (M : sy_M) : sy_O :=
  if a1 < 0 then
    sy_rv M
  else
    if a1 < 7 then
      if a2 < 0 then
        sy_rv M
      else
        if a2 < 9 then
          sy_bs (sy_is 2 r0) <|
          sy_bx (xe_in ((a1 * 9) + a2) (sy_li (r0 + 1))) <|
          let M1 := sy_upd M (r0 + 1) (Int32.toNatClampNeg ((a1 * 9) + a2)) a3
          sy_rv M1
        else
          sy_rv M
    else
      sy_rv M
def jfX3_readFact (a1 : Int32) (a2 : Int32) (a3 : Int32) (a4 : Int32) (M : sy_M) : sy_O :=
  sy_bi (jfX10_takes a1 M) fun v2 M1 =>
  if v2 = 0 then
    sy_bi (jfX10_fails M1) fun v7 M6 =>
    sy_bb (sy_bo v7) <| sy_ri v7 M6
  else
    sy_bi (jfX10_takesNumber a3 a4 M1) fun v4 M3 =>
    sy_bv (jfX2_set 14 ((M3 14 3) - 1) a2 v4 M3) fun M5 =>
    if v4 = (-1) then
      sy_ri 0 M5
    else
      sy_ri 1 M5
def jfX3_readLodger_175 (M : sy_M) : sy_O :=
  sy_ri 1 M
def jfX3_readLodger_148 (M : sy_M) : sy_O :=
  sy_bi (jfX10_thing M) fun v2 M1 =>
  if v2 = 266 then
    sy_bi (jfX3_readFact 266 4 0 20 M1) fun v4 M3 =>
    if v4 = 0 then
      sy_ri 0 M3
    else
      jfX3_readLodger_175 M3
  else
    jfX3_readLodger_175 M1
def jfX3_readLodger_79 (M : sy_M) : sy_O :=
  sy_bi (jfX3_readFact 262 1 0 47 M) fun v2 M1 =>
  if v2 = 0 then
    sy_ri 0 M1
  else
    sy_bi (jfX3_readFact 263 2 0 47 M1) fun v4 M3 =>
    if v4 = 0 then
      sy_ri 0 M3
    else
      sy_bi (jfX3_readFact 264 5 0 99 M3) fun v6 M5 =>
      if v6 = 0 then
        sy_ri 0 M5
      else
        sy_bi (jfX10_thing M5) fun v8 M7 =>
        if v8 = 265 then
          sy_bi (jfX3_readFact 265 3 0 20 M7) fun v10 M9 =>
          if v10 = 0 then
            sy_ri 0 M9
          else
            jfX3_readLodger_148 M9
        else
          jfX3_readLodger_148 M7
def jfX3_readLodger (M : sy_M) : sy_O :=
  let v1 := (M 14 3)
  if v1 < 7 then
    let M2 := sy_upd M 14 3 (v1 + 1)
    sy_bv (jfX2_set 14 v1 3 3 M2) fun M3 =>
    sy_bv (jfX2_set 14 v1 4 2 M3) fun M4 =>
    sy_bi (jfX10_takes 260 M4) fun v6 M5 =>
    if v6 = 0 then
      sy_ri 0 M5
    else
      sy_bi (jfX3_readFact 261 0 1 9 M5) fun v8 M7 =>
      if v8 = 0 then
        sy_ri 0 M7
      else
        jfX3_readLodger_79 M7
  else
    sy_bi (jfX10_fails M) fun v10 M9 =>
    sy_bb (sy_bo v10) <| sy_ri v10 M9
def jfX3_readLine_211 (M : sy_M) : sy_O :=
  if (M 1 7) = (-1) then
    sy_ri 1 M
  else
    sy_ri 0 M
def jfX3_readLine_200 (M : sy_M) : sy_O :=
  jfX3_readLine_211 M
def jfX3_readLine_166 (M : sy_M) : sy_O :=
  jfX3_readLine_211 M
def jfX3_readLine (M : sy_M) : sy_O :=
  sy_bi (jfX10_thing M) fun v2 M1 =>
  if v2 = 260 then
    sy_bi (jfX3_readLodger M1) fun v35 M34 =>
    sy_bb (sy_bo v35) <| sy_ri v35 M34
  else
    sy_bi (jfX10_takes 267 M1) fun v4 M3 =>
    if v4 = 0 then
      sy_bi (jfX10_takes 268 M3) fun v6 M5 =>
      if v6 = 0 then
        sy_bi (jfX10_takes 269 M5) fun v8 M7 =>
        if v8 = 0 then
          sy_bi (jfX10_takes 270 M7) fun v10 M9 =>
          if v10 = 0 then
            sy_bi (jfX10_takes 271 M9) fun v12 M11 =>
            if v12 = 0 then
              sy_bi (jfX10_takes 272 M11) fun v14 M13 =>
              if v14 = 0 then
                sy_bi (jfX10_fails M13) fun v16 M15 =>
                jfX3_readLine_211 M15
              else
                sy_bi (jfX10_takesNumber 0 999 M13) fun v18 M17 =>
                let M19 := sy_upd M17 14 6 v18
                jfX3_readLine_200 M19
            else
              sy_bi (jfX10_takesNumber 0 47 M11) fun v21 M20 =>
              let M22 := sy_upd M20 14 5 v21
              jfX3_readLine_166 M22
          else
            sy_bi (jfX10_takesNumber 0 100 M9) fun v24 M23 =>
            let M25 := sy_upd M23 14 10 v24
            jfX3_readLine_211 M25
        else
          sy_bi (jfX10_takesNumber 1 99 M7) fun v27 M26 =>
          let M28 := sy_upd M26 14 8 v27
          jfX3_readLine_211 M28
      else
        sy_bi (jfX10_takesNumber 0 999 M5) fun v30 M29 =>
        let M31 := sy_upd M29 14 7 v30
        jfX3_readLine_211 M31
    else
      sy_bi (jfX3_readDebt M3) fun v33 M32 =>
      sy_bb (sy_bo v33) <| sy_ri v33 M32
def jgX6_readLines_17 (k17 : Int32 → Int32 → sy_M → sy_O) (a1 : Int32) (a2 : Int32) (M : sy_M) : sy_O :=
  if a2 < a1 then
    sy_bi (jfX3_readLine M) fun v4 M3 =>
    if v4 = 0 then
      sy_ri 0 M3
    else
      sy_bi (jfX10_thing M3) fun v6 M5 =>
      if v6 = 256 then
        sy_ri 1 M5
      else
        sy_bi (jfX10_takes 59 M5) fun v8 M7 =>
        if v8 = 0 then
          sy_bi (jfX10_fails M7) fun v11 M10 =>
          sy_bb (sy_bo v11) <| sy_ri v11 M10
        else
          let v9 := a2 + 1
          k17 a1 v9 M7
  else
    sy_bi (jfX10_fails M) fun v2 M1 =>
    sy_bb (sy_bo v2) <| sy_ri v2 M1
def jfX6_readLines_17 : Nat → Int32 → Int32 → sy_M → sy_O
  | 0, _, _, _ => none
  | n + 1, a1, a2, M => jgX6_readLines_17 (jfX6_readLines_17 n) a1 a2 M
def jfX6_readLines (a1 : Int32) (M : sy_M) : sy_O :=
  sy_bi (jfX10_thing M) fun v2 M1 =>
  if v2 = 256 then
    sy_ri 1 M1
  else
    jfX6_readLines_17 sy_F a1 0 M1
def jfX0_forget (M : sy_M) : sy_O :=
  let M1 := sy_upd M 57 1 0
  sy_rv M1
def jfX11_house_95 (M : sy_M) : sy_O :=
  sy_bv (jfX0_forget M) fun M1 =>
  sy_ri (M1 9 4) M1
def jfX11_house (M : sy_M) : sy_O :=
  sy_bv (jfX2_takeOver 14 9 M) fun M1 =>
  sy_bv (jfX10_open M1) fun M2 =>
  sy_bi (jfX6_readLines 14 M2) fun v4 M3 =>
  let M5 := sy_upd M3 0 17 (M3 1 7)
  if v4 = 0 then
    sy_bx (xe_in (M5 133 0) 100000) <|
    sy_rt 20 (sy_upd M5 133 0 (M5 133 0 + 1))
  else
    if (M5 9 4) < 12 then
      sy_bv (jfX2_takeOver 9 14 M5) fun M6 =>
      let M7 := sy_upd M6 9 4 ((M6 9 4) + 1)
      jfX11_house_95 M7
    else
      sy_bx (xe_in (M5 133 0) 100000) <|
      sy_rt 21 (sy_upd M5 133 0 (M5 133 0 + 1))
def jfL_house (M : sy_M) : sy_O :=
  sy_hi (jfX11_house M) (fun v2 M1 =>
    let M5 := sy_wl M1 132 0 (Int32.toInt64 v2)
    sy_ri 0 M5)
  (fun c3 M4 => if c3 = 20 then sy_ri 1 M4 else if c3 = 21 then sy_ri 2 M4 else none)
def jgX12_putsAside_2 (k2 : Int32 → sy_M → sy_O) (a1 : Int32) (M : sy_M) : sy_O :=
  if a1 < 426 then
    sy_bx (xe_in a1 826) <|
    sy_bx (xe_in a1 426) <|
    let M1 := sy_upd M 124 (Int32.toNatClampNeg a1) (M 122 (Int32.toNatClampNeg a1))
    let v2 := a1 + 1
    k2 v2 M1
  else
    sy_rv M
def jfX12_putsAside_2 : Nat → Int32 → sy_M → sy_O
  | 0, _, _ => none
  | n + 1, a1, M => jgX12_putsAside_2 (jfX12_putsAside_2 n) a1 M
def jfX12_putsAside (M : sy_M) : sy_O :=
  jfX12_putsAside_2 sy_F 0 M
def jfX12_begins (M : sy_M) : sy_O :=
  let M1 := sy_upd M 121 12 (-1)
  let M2 := sy_upd M1 121 9 (-1)
  let M3 := sy_upd M2 121 10 (M2 121 8)
  let M4 := sy_upd M3 121 8 0
  let M5 := sy_upd M4 121 11 0
  let M6 := sy_upd M5 121 13 0
  sy_rv M6
def jfX12_letter (a1 : Int32) (M : sy_M) : sy_O :=
  if (M 121 9) = (-1) then
    sy_bx (xe_in a1 400) <|
    sy_ri (M 126 (Int32.toNatClampNeg a1)) M
  else
    sy_bx (xe_in ((M 121 9) + a1) 826) <|
    sy_ri (M 122 (Int32.toNatClampNeg ((M 121 9) + a1))) M
def jgX12_skip_0 (k0 : sy_M → sy_O) (M : sy_M) : sy_O :=
  if (M 121 11) < (M 121 10) then
    sy_bi (jfX12_letter (M 121 11) M) fun v2 M1 =>
    if v2 = 32 then
      let M3 := sy_upd M1 121 11 ((M1 121 11) + 1)
      k0 M3
    else
      sy_rv M1
  else
    sy_rv M
def jfX12_skip_0 : Nat → sy_M → sy_O
  | 0, _ => none
  | n + 1, M => jgX12_skip_0 (jfX12_skip_0 n)  M
def jfX12_skip (M : sy_M) : sy_O := jfX12_skip_0 sy_F M
def jfX12_here (M : sy_M) : sy_O :=
  sy_bv (jfX12_skip M) fun M1 =>
  sy_ri (M1 121 11) M1
def jgX12_has_55 (k55 : Nat → Int32 → Int32 → sy_M → sy_O) (r1 : Nat) (a2 : Int32) (a3 : Int32) (M : sy_M) : sy_O :=
  sy_bb (sy_st r1) <|
  if a3 < (Nat.toInt32 (sy_sl r1)) then
    sy_bi (jfX12_letter ((M 121 11) + a3) M) fun v3 M2 =>
    sy_bx (sy_st r1 && xe_in a3 (sy_sl r1)) <|
    if v3 = (sy_sc r1 (Int32.toNatClampNeg a3)) then
      let v4 := a3 + 1
      k55 r1 a2 v4 M2
    else
      sy_ri 0 M2
  else
    let M1 := sy_upd M 121 11 a2
    sy_ri 1 M1
def jfX12_has_55 : Nat → Nat → Int32 → Int32 → sy_M → sy_O
  | 0, _, _, _, _ => none
  | n + 1, r1, a2, a3, M => jgX12_has_55 (jfX12_has_55 n) r1 a2 a3 M
def jfX12_has_38 (r1 : Nat) (a2 : Int32) (M : sy_M) : sy_O :=
  sy_bb (sy_st r1) <|
  if (a2 - (M 121 11)) = (Nat.toInt32 (sy_sl r1)) then
    jfX12_has_55 sy_F r1 a2 0 M
  else
    sy_ri 0 M
def jgX12_has_9 (k9 : Nat → Int32 → sy_M → sy_O) (r1 : Nat) (a2 : Int32) (M : sy_M) : sy_O :=
  if a2 < (M 121 10) then
    sy_bi (jfX12_letter a2 M) fun v2 M1 =>
    sy_bi (jfX12_isIn v2 97 122 M1) fun v4 M3 =>
    if v4 = 0 then
      jfX12_has_38 r1 a2 M3
    else
      let v5 := a2 + 1
      k9 r1 v5 M3
  else
    jfX12_has_38 r1 a2 M
def jfX12_has_9 : Nat → Nat → Int32 → sy_M → sy_O
  | 0, _, _, _ => none
  | n + 1, r1, a2, M => jgX12_has_9 (jfX12_has_9 n) r1 a2 M
def jfX12_has (r1 : Nat) (M : sy_M) : sy_O :=
  sy_bv (jfX12_skip M) fun M1 =>
  let v2 := (M1 121 11)
  jfX12_has_9 sy_F r1 v2 M1
def jfX12_wrong (a1 : Int32) (M : sy_M) : sy_O :=
  if (M 121 12) = (-1) then
    let M1 := sy_upd M 121 12 a1
    sy_rv M1
  else
    sy_rv M
def jfX12_figures_119 (a3 : Int32) (a4 : Int32) (M : sy_M) : sy_O :=
  sy_bv (jfX12_wrong a3 M) fun M1 =>
  sy_ri a4 M1
def jfX12_figures_89 (a1 : Int32) (a2 : Int32) (a3 : Int32) (a4 : Int32) (M : sy_M) : sy_O :=
  if (M 121 11) = a3 then
    jfX12_figures_119 a3 a4 M
  else
    if 3 < ((M 121 11) - a3) then
      jfX12_figures_119 a3 a4 M
    else
      if a4 < a1 then
        jfX12_figures_119 a3 a4 M
      else
        if a2 < a4 then
          jfX12_figures_119 a3 a4 M
        else
          sy_ri a4 M
def jfX12_figures_86 (k18 : Int32 → Int32 → Int32 → Int32 → sy_M → sy_O) (a1 : Int32) (a2 : Int32) (a3 : Int32) (a4 : Int32) (M : sy_M) : sy_O :=
  k18 a1 a2 a3 a4 M
def jgX12_figures_18 (k18 : Int32 → Int32 → Int32 → Int32 → sy_M → sy_O) (a1 : Int32) (a2 : Int32) (a3 : Int32) (a4 : Int32) (M : sy_M) : sy_O :=
  if (M 121 11) < (M 121 10) then
    sy_bi (jfX12_letter (M 121 11) M) fun v2 M1 =>
    sy_bi (jfX12_isIn v2 48 57 M1) fun v4 M3 =>
    if v4 = 0 then
      jfX12_figures_89 a1 a2 a3 a4 M3
    else
      if 3 < ((M3 121 11) - a3) then
        jfX12_figures_89 a1 a2 a3 a4 M3
      else
        sy_bi (jfX12_letter (M3 121 11) M3) fun v6 M5 =>
        let v7 := (((10 * a4) + v6) - 48)
        let M8 := sy_upd M5 121 11 ((M5 121 11) + 1)
        jfX12_figures_86 k18 a1 a2 a3 v7 M8
  else
    jfX12_figures_89 a1 a2 a3 a4 M
def jfX12_figures_18 : Nat → Int32 → Int32 → Int32 → Int32 → sy_M → sy_O
  | 0, _, _, _, _, _ => none
  | n + 1, a1, a2, a3, a4, M => jgX12_figures_18 (jfX12_figures_18 n) a1 a2 a3 a4 M
def jfX12_figures (a1 : Int32) (a2 : Int32) (M : sy_M) : sy_O :=
  if (M 121 12) = (-1) then
    sy_bi (jfX12_here M) fun v2 M1 =>
    jfX12_figures_18 sy_F a1 a2 v2 0 M1
  else
    sy_ri 0 M
def jfX12_tells (a1 : Int32) (a2 : Int32) (a3 : Int32) (M : sy_M) : sy_O :=
  sy_bi (jfX12_figures a2 a3 M) fun v2 M1 =>
  if (M1 121 12) = (-1) then
    sy_bx (xe_in a1 826) <|
    let M3 := sy_upd M1 122 (Int32.toNatClampNeg a1) v2
    sy_rv M3
  else
    sy_rv M1
def jfX12_owesLine_51 (a1 : Int32) (a3 : Int32) (M : sy_M) : sy_O :=
  sy_bi (jfX12_figures 0 99 M) fun v2 M1 =>
  if (M1 121 12) = (-1) then
    sy_bx (xe_in ((77 + (7 * a1)) + a3) 826) <|
    let M3 := sy_upd M1 122 (Int32.toNatClampNeg ((77 + (7 * a1)) + a3)) v2
    sy_rv M3
  else
    sy_rv M1
def jfX12_owesLine (M : sy_M) : sy_O :=
  sy_bi (jfX12_figures 0 ((M 122 3) - 1) M) fun v2 M1 =>
  sy_bi (jfX12_here M1) fun v4 M3 =>
  sy_bi (jfX12_figures 0 ((M3 122 3) - 1) M3) fun v6 M5 =>
  if (M5 121 12) = (-1) then
    if v6 = v2 then
      sy_bv (jfX12_wrong v4 M5) fun M7 =>
      jfX12_owesLine_51 v2 v6 M7
    else
      jfX12_owesLine_51 v2 v6 M5
  else
    jfX12_owesLine_51 v2 v6 M5
def jfX12_behind_24 (a2 : Int32) (a3 : Int32) (M : sy_M) : sy_O :=
  sy_bi (jfX12_figures a2 a3 M) fun v2 M1 =>
  sy_ri v2 M1
def jfX12_behind (r1 : Nat) (a2 : Int32) (a3 : Int32) (M : sy_M) : sy_O :=
  if (M 121 12) = (-1) then
    sy_bi (jfX12_has r1 M) fun v2 M1 =>
    if v2 = 0 then
      sy_bv (jfX12_wrong (M1 121 11) M1) fun M3 =>
      jfX12_behind_24 a2 a3 M3
    else
      jfX12_behind_24 a2 a3 M1
  else
    jfX12_behind_24 a2 a3 M
def jfX12_maybe (r1 : Nat) (a2 : Int32) (a3 : Int32) (a4 : Int32) (M : sy_M) : sy_O :=
  if (M 121 12) = (-1) then
    sy_bi (jfX12_has r1 M) fun v2 M1 =>
    if v2 = 0 then
      sy_ri a4 M1
    else
      sy_bi (jfX12_figures a2 a3 M1) fun v4 M3 =>
      sy_ri v4 M3
  else
    sy_ri a4 M
def jfX12_lays (a1 : Int32) (a2 : Int32) (a3 : Int32) (M : sy_M) : sy_O :=
  sy_bx (xe_in ((14 + (9 * a1)) + a2) 826) <|
  let M1 := sy_upd M 122 (Int32.toNatClampNeg ((14 + (9 * a1)) + a2)) a3
  sy_rv M1
def jgX12_lodgerLine_181 (k181 : Int32 → Int32 → sy_M → sy_O) (a8 : Int32) (a9 : Int32) (M : sy_M) : sy_O :=
  if a9 < 7 then
    sy_bx (xe_in ((77 + (7 * a8)) + a9) 826) <|
    let M2 := sy_upd M 122 (Int32.toNatClampNeg ((77 + (7 * a8)) + a9)) 0
    sy_bx (xe_in ((77 + (7 * a9)) + a8) 826) <|
    let M3 := sy_upd M2 122 (Int32.toNatClampNeg ((77 + (7 * a9)) + a8)) 0
    let v4 := a9 + 1
    k181 a8 v4 M3
  else
    let M1 := sy_upd M 122 3 ((M 122 3) + 1)
    sy_rv M1
def jfX12_lodgerLine_181 : Nat → Int32 → Int32 → sy_M → sy_O
  | 0, _, _, _ => none
  | n + 1, a8, a9, M => jgX12_lodgerLine_181 (jfX12_lodgerLine_181 n) a8 a9 M
def jfX12_lodgerLine_151 (a8 : Int32) (M : sy_M) : sy_O :=
  sy_bv (jfX12_lays a8 6 0 M) fun M1 =>
  sy_bv (jfX12_lays a8 7 0 M1) fun M2 =>
  sy_bv (jfX12_lays a8 8 0 M2) fun M3 =>
  jfX12_lodgerLine_181 sy_F a8 0 M3
def jfX12_lodgerLine_82 (a2 : Int32) (a3 : Int32) (a4 : Int32) (a5 : Int32) (a6 : Int32) (a7 : Int32) (M : sy_M) : sy_O :=
  if (M 121 12) = (-1) then
    let v1 := (M 122 3)
    sy_bv (jfX12_lays v1 0 a2 M) fun M2 =>
    sy_bv (jfX12_lays v1 1 a3 M2) fun M3 =>
    sy_bv (jfX12_lays v1 2 a4 M3) fun M4 =>
    sy_bv (jfX12_lays v1 3 a6 M4) fun M5 =>
    sy_bv (jfX12_lays v1 4 a7 M5) fun M6 =>
    sy_bv (jfX12_lays v1 5 a5 M6) fun M7 =>
    jfX12_lodgerLine_151 v1 M7
  else
    sy_rv M
def jfX12_lodgerLine_16 (M : sy_M) : sy_O :=
  sy_bi (jfX12_behind 1500009 1 9 M) fun v2 M1 =>
  sy_bi (jfX12_behind 1500017 0 47 M1) fun v4 M3 =>
  sy_bi (jfX12_behind 1500018 0 47 M3) fun v6 M5 =>
  sy_bi (jfX12_behind 1500010 0 99 M5) fun v8 M7 =>
  sy_bi (jfX12_maybe 1500019 0 20 3 M7) fun v10 M9 =>
  sy_bi (jfX12_maybe 1500020 0 20 2 M9) fun v12 M11 =>
  jfX12_lodgerLine_82 v2 v4 v6 v8 v10 v12 M11
def jfX12_lodgerLine (a1 : Int32) (M : sy_M) : sy_O :=
  if (M 122 3) = 7 then
    sy_bv (jfX12_wrong a1 M) fun M1 =>
    jfX12_lodgerLine_16 M1
  else
    jfX12_lodgerLine_16 M
def jfX12_houseLine_140 (M : sy_M) : sy_O :=
  sy_rv M
def jfX12_houseLine (M : sy_M) : sy_O :=
  sy_bi (jfX12_here M) fun v2 M1 =>
  sy_bi (jfX12_has 1500008 M1) fun v4 M3 =>
  if v4 = 0 then
    sy_bi (jfX12_has 1500021 M3) fun v6 M5 =>
    if v6 = 0 then
      sy_bi (jfX12_has 1500022 M5) fun v8 M7 =>
      if v8 = 0 then
        sy_bi (jfX12_has 1500023 M7) fun v10 M9 =>
        if v10 = 0 then
          sy_bi (jfX12_has 1500024 M9) fun v12 M11 =>
          if v12 = 0 then
            sy_bi (jfX12_has 1500014 M11) fun v14 M13 =>
            if v14 = 0 then
              sy_bi (jfX12_has 1500025 M13) fun v16 M15 =>
              if v16 = 0 then
                sy_bv (jfX12_wrong (M15 121 11) M15) fun M17 =>
                sy_rv M17
              else
                sy_bv (jfX12_tells 5 0 999 M15) fun M18 =>
                jfX12_houseLine_140 M18
            else
              sy_bv (jfX12_tells 4 0 47 M13) fun M19 =>
              sy_rv M19
          else
            sy_bv (jfX12_tells 9 0 100 M11) fun M20 =>
            sy_rv M20
        else
          sy_bv (jfX12_tells 7 1 99 M9) fun M21 =>
          sy_rv M21
      else
        sy_bv (jfX12_tells 6 0 999 M7) fun M22 =>
        sy_rv M22
    else
      sy_bv (jfX12_owesLine M5) fun M23 =>
      sy_rv M23
  else
    sy_bv (jfX12_lodgerLine v2 M3) fun M24 =>
    sy_rv M24
def jfX12_isSign (a1 : Int32) (M : sy_M) : sy_O :=
  sy_bv (jfX12_skip M) fun M1 =>
  if (M1 121 11) < (M1 121 10) then
    sy_bi (jfX12_letter (M1 121 11) M1) fun v3 M2 =>
    if v3 = a1 then
      sy_ri 1 M2
    else
      sy_ri 0 M2
  else
    sy_ri 0 M1
def jfX12_every_40 (rc : sy_M → sy_O) (k5 : Int32 → sy_M → sy_O) (s0 : Int32) (M : sy_M) : sy_O :=
  k5 s0 M
def jfX12_every_39 (rc : sy_M → sy_O) (k5 : Int32 → sy_M → sy_O) (M : sy_M) : sy_O :=
  jfX12_every_40 rc k5 0 M
def jgX12_every_5 (rc : sy_M → sy_O) (k5 : Int32 → sy_M → sy_O) (a1 : Int32) (M : sy_M) : sy_O :=
  if (M 121 12) = (-1) then
    sy_bi (jfX12_has 1500015 M) fun v2 M1 =>
    if v2 = 0 then
      sy_bb (sy_bo a1) <| sy_ri a1 M1
    else
      sy_bi (rc M1) fun v4 M3 =>
      if a1 = 0 then
        jfX12_every_39 rc k5 M3
      else
        if v4 = 0 then
          jfX12_every_39 rc k5 M3
        else
          jfX12_every_40 rc k5 1 M3
  else
    sy_bb (sy_bo a1) <| sy_ri a1 M
def jfX12_every_5 (rc : sy_M → sy_O) : Nat → Int32 → sy_M → sy_O
  | 0, _, _ => none
  | n + 1, a1, M => jgX12_every_5 rc (jfX12_every_5 rc n) a1 M
def jfX12_every (rc : sy_M → sy_O) (M : sy_M) : sy_O :=
  sy_bi (rc M) fun v2 M1 =>
  jfX12_every_5 rc sy_F v2 M1
def jfX12_some_40 (rc : sy_M → sy_O) (k5 : Int32 → sy_M → sy_O) (s0 : Int32) (M : sy_M) : sy_O :=
  k5 s0 M
def jfX12_some_35 (rc : sy_M → sy_O) (k5 : Int32 → sy_M → sy_O) (M : sy_M) : sy_O :=
  jfX12_some_40 rc k5 1 M
def jgX12_some_5 (rc : sy_M → sy_O) (k5 : Int32 → sy_M → sy_O) (a1 : Int32) (M : sy_M) : sy_O :=
  if (M 121 12) = (-1) then
    sy_bi (jfX12_has 1500016 M) fun v2 M1 =>
    if v2 = 0 then
      sy_bb (sy_bo a1) <| sy_ri a1 M1
    else
      sy_bi (jfX12_every rc M1) fun v4 M3 =>
      if a1 = 0 then
        if v4 = 0 then
          jfX12_some_40 rc k5 0 M3
        else
          jfX12_some_35 rc k5 M3
      else
        jfX12_some_35 rc k5 M3
  else
    sy_bb (sy_bo a1) <| sy_ri a1 M
def jfX12_some_5 (rc : sy_M → sy_O) : Nat → Int32 → sy_M → sy_O
  | 0, _, _ => none
  | n + 1, a1, M => jgX12_some_5 rc (jfX12_some_5 rc n) a1 M
def jfX12_some (rc : sy_M → sy_O) (M : sy_M) : sy_O :=
  sy_bi (jfX12_every rc M) fun v2 M1 =>
  jfX12_some_5 rc sy_F v2 M1
def jfX12_part_145 (s0 : Int32) (M : sy_M) : sy_O :=
  if s0 = (-1) then
    sy_bv (jfX12_wrong (M 121 11) M) fun M1 =>
    sy_ri 0 M1
  else
    sy_bx (xe_in s0 7) <|
    sy_ri (M 127 (Int32.toNatClampNeg s0)) M
def jfX12_part_52 (M : sy_M) : sy_O :=
  sy_bi (jfX12_has 1500008 M) fun v2 M1 =>
  if v2 = 0 then
    sy_bi (jfX12_has 1500009 M1) fun v4 M3 =>
    if v4 = 0 then
      sy_bi (jfX12_has 1500010 M3) fun v6 M5 =>
      if v6 = 0 then
        sy_bi (jfX12_has 1500011 M5) fun v8 M7 =>
        if v8 = 0 then
          sy_bi (jfX12_has 1500012 M7) fun v10 M9 =>
          if v10 = 0 then
            sy_bi (jfX12_has 1500013 M9) fun v12 M11 =>
            if v12 = 0 then
              sy_bi (jfX12_has 1500014 M11) fun v14 M13 =>
              if v14 = 0 then
                jfX12_part_145 (-1) M13
              else
                jfX12_part_145 6 M13
            else
              jfX12_part_145 5 M11
          else
            jfX12_part_145 4 M9
        else
          jfX12_part_145 3 M7
      else
        jfX12_part_145 2 M5
    else
      jfX12_part_145 1 M3
  else
    jfX12_part_145 0 M1
def jfX12_part (M : sy_M) : sy_O :=
  if (M 121 12) = (-1) then
    sy_bv (jfX12_skip M) fun M1 =>
    if (M1 121 11) < (M1 121 10) then
      sy_bi (jfX12_letter (M1 121 11) M1) fun v3 M2 =>
      sy_bi (jfX12_isIn v3 48 57 M2) fun v5 M4 =>
      if v5 = 0 then
        jfX12_part_52 M4
      else
        sy_bi (jfX12_figures 0 999 M4) fun v7 M6 =>
        sy_ri v7 M6
    else
      jfX12_part_52 M1
  else
    sy_ri 0 M
def jgX12_sum_5 (k5 : Int32 → sy_M → sy_O) (a1 : Int32) (M : sy_M) : sy_O :=
  if (M 121 12) = (-1) then
    sy_bi (jfX12_isSign 43 M) fun v2 M1 =>
    if v2 = 0 then
      sy_ri a1 M1
    else
      let M3 := sy_upd M1 121 11 ((M1 121 11) + 1)
      sy_bi (jfX12_part M3) fun v5 M4 =>
      let v6 := (a1 + v5)
      k5 v6 M4
  else
    sy_ri a1 M
def jfX12_sum_5 : Nat → Int32 → sy_M → sy_O
  | 0, _, _ => none
  | n + 1, a1, M => jgX12_sum_5 (jfX12_sum_5 n) a1 M
def jfX12_sum (M : sy_M) : sy_O :=
  sy_bi (jfX12_part M) fun v2 M1 =>
  jfX12_sum_5 sy_F v2 M1
def jfX12_plain_73 (a1 : Int32) (a2 : Int32) (M : sy_M) : sy_O :=
  let M1 := sy_upd M 121 11 ((M 121 11) + 1)
  sy_bi (jfX12_sum M1) fun v3 M2 =>
  if a2 = 0 then
    if v3 < a1 then
      sy_ri 1 M2
    else
      sy_ri 0 M2
  else
    if a1 < v3 then
      sy_ri 1 M2
    else
      sy_ri 0 M2
def jfX12_plain (M : sy_M) : sy_O :=
  sy_bi (jfX12_has 1500006 M) fun v2 M1 =>
  if v2 = 0 then
    sy_bi (jfX12_has 1500007 M1) fun v4 M3 =>
    if v4 = 0 then
      sy_bi (jfX12_sum M3) fun v6 M5 =>
      if (M5 121 12) = (-1) then
        sy_bi (jfX12_isSign 60 M5) fun v8 M7 =>
        if v8 = 0 then
          sy_bi (jfX12_isSign 62 M7) fun v10 M9 =>
          if v10 = 0 then
            sy_bv (jfX12_wrong (M9 121 11) M9) fun M11 =>
            sy_ri 0 M11
          else
            jfX12_plain_73 v6 v8 M9
        else
          jfX12_plain_73 v6 v8 M7
      else
        sy_ri 0 M5
    else
      sy_bb (sy_bo (M3 121 16)) <| sy_ri (M3 121 16) M3
  else
    sy_bb (sy_bo (M1 121 15)) <| sy_ri (M1 121 15) M1
def jfX12_atom_138 (rc : sy_M → sy_O) (a3 : Int32) (M : sy_M) : sy_O :=
  let M1 := sy_upd M 121 13 ((M 121 13) - 1)
  sy_bb (sy_bo a3) <| sy_ri a3 M1
def jfX12_atom_128 (rc : sy_M → sy_O) (a3 : Int32) (M : sy_M) : sy_O :=
  let M1 := sy_upd M 121 11 ((M 121 11) + 1)
  jfX12_atom_138 rc a3 M1
def jfX12_atom_84 (rc : sy_M → sy_O) (s0 : Int32) (M : sy_M) : sy_O :=
  jfX12_atom_138 rc s0 M
def jfX12_atom_40 (rc : sy_M → sy_O) (a1 : Int32) (a2 : Int32) (M : sy_M) : sy_O :=
  if (M 121 13) = 6 then
    sy_bv (jfX12_wrong a1 M) fun M10 =>
    sy_ri 0 M10
  else
    let M1 := sy_upd M 121 13 ((M 121 13) + 1)
    if a2 = 0 then
      let M2 := sy_upd M1 121 11 ((M1 121 11) + 1)
      sy_bi (jfX12_some rc M2) fun v4 M3 =>
      if (M3 121 12) = (-1) then
        sy_bi (jfX12_isSign 41 M3) fun v6 M5 =>
        if v6 = 0 then
          sy_bv (jfX12_wrong (M5 121 11) M5) fun M7 =>
          jfX12_atom_128 rc v4 M7
        else
          jfX12_atom_128 rc v4 M5
      else
        jfX12_atom_128 rc v4 M3
    else
      sy_bi (rc M1) fun v9 M8 =>
      if v9 = 0 then
        jfX12_atom_84 rc 1 M8
      else
        jfX12_atom_84 rc 0 M8
def jgX12_atom (rc : sy_M → sy_O) (M : sy_M) : sy_O :=
  if (M 121 12) = (-1) then
    sy_bi (jfX12_here M) fun v2 M1 =>
    sy_bi (jfX12_has 1500005 M1) fun v4 M3 =>
    if v4 = 0 then
      sy_bi (jfX12_isSign 40 M3) fun v6 M5 =>
      if v6 = 0 then
        sy_bi (jfX12_plain M5) fun v8 M7 =>
        sy_bb (sy_bo v8) <| sy_ri v8 M7
      else
        jfX12_atom_40 rc v2 v4 M5
    else
      jfX12_atom_40 rc v2 v4 M3
  else
    sy_ri 0 M
def jfX12_atom : Nat → sy_M → sy_O
  | 0, _ => none
  | n + 1, M => jgX12_atom (jfX12_atom n) M
def jfX12_lawLine_134 (a1 : Int32) (a2 : Int32) (s0 : Int32) (M : sy_M) : sy_O :=
  sy_bb (sy_bo s0) <|
  let M1 := sy_upd M 121 18 s0
  if a1 = 0 then
    let M4 := sy_upd M1 121 17 ((M1 121 17) + a2)
    sy_rv M4
  else
    if a1 = 1 then
      let M3 := sy_upd M1 121 17 ((M1 121 17) + (-a2))
      sy_rv M3
    else
      let M2 := sy_upd M1 121 17 ((M1 121 17) + 0)
      sy_rv M2
def jfX12_lawLine_129 (a1 : Int32) (a2 : Int32) (M : sy_M) : sy_O :=
  jfX12_lawLine_134 a1 a2 1 M
def jfX12_lawLine_102 (a1 : Int32) (a2 : Int32) (s0 : Int32) (M : sy_M) : sy_O :=
  if (M 121 12) = (-1) then
    if s0 = 0 then
      sy_rv M
    else
      if (M 121 18) = 0 then
        if a1 = 2 then
          jfX12_lawLine_129 a1 a2 M
        else
          jfX12_lawLine_134 a1 a2 0 M
      else
        jfX12_lawLine_129 a1 a2 M
  else
    sy_rv M
def jfX12_lawLine_97 (a1 : Int32) (a2 : Int32) (M : sy_M) : sy_O :=
  jfX12_lawLine_102 a1 a2 1 M
def jfX12_lawLine_71 (a1 : Int32) (s0 : Int32) (M : sy_M) : sy_O :=
  if (M 121 12) = (-1) then
    sy_bi (jfX12_has 1500004 M) fun v2 M1 =>
    if v2 = 0 then
      jfX12_lawLine_97 a1 s0 M1
    else
      sy_bi (jfX12_some (jfX12_atom sy_D) M1) fun v4 M3 =>
      if v4 = 0 then
        jfX12_lawLine_102 a1 s0 0 M3
      else
        jfX12_lawLine_97 a1 s0 M3
  else
    sy_rv M
def jfX12_lawLine_40 (s0 : Int32) (M : sy_M) : sy_O :=
  if s0 = (-1) then
    sy_bv (jfX12_wrong (M 121 11) M) fun M3 =>
    sy_rv M3
  else
    if s0 = 2 then
      jfX12_lawLine_71 s0 0 M
    else
      sy_bi (jfX12_figures 0 60 M) fun v2 M1 =>
      jfX12_lawLine_71 s0 v2 M1
def jfX12_lawLine (M : sy_M) : sy_O :=
  sy_bi (jfX12_has 1500001 M) fun v2 M1 =>
  if v2 = 0 then
    sy_bi (jfX12_has 1500002 M1) fun v4 M3 =>
    if v4 = 0 then
      sy_bi (jfX12_has 1500003 M3) fun v6 M5 =>
      if v6 = 0 then
        jfX12_lawLine_40 (-1) M5
      else
        jfX12_lawLine_40 2 M5
    else
      jfX12_lawLine_40 1 M3
  else
    jfX12_lawLine_40 0 M1
def jfX12_read_106 (k23 : Int32 → Int32 → Int32 → sy_M → sy_O) (a1 : Int32) (a3 : Int32) (M : sy_M) : sy_O :=
  k23 a1 0 a3 M
def jfX12_read_80 (k23 : Int32 → Int32 → Int32 → sy_M → sy_O) (a1 : Int32) (a2 : Int32) (a3 : Int32) (M : sy_M) : sy_O :=
  let v1 := a3 + 1
  sy_bv (jfX12_skip M) fun M2 =>
  if (M2 121 12) = (-1) then
    if (M2 121 11) = (M2 121 10) then
      jfX12_read_106 k23 a1 v1 M2
    else
      sy_bi (jfX12_isSign 59 M2) fun v4 M3 =>
      if v4 = 0 then
        sy_bv (jfX12_wrong (M3 121 11) M3) fun M5 =>
        k23 a1 a2 v1 M5
      else
        let M6 := sy_upd M3 121 11 ((M3 121 11) + 1)
        k23 a1 a2 v1 M6
  else
    jfX12_read_106 k23 a1 v1 M2
def jfX12_read_51 (k23 : Int32 → Int32 → Int32 → sy_M → sy_O) (a1 : Int32) (a2 : Int32) (a3 : Int32) (s0 : Int32) (s1 : Int32) (M : sy_M) : sy_O :=
  if s1 = s0 then
    sy_bv (jfX12_wrong (M 121 11) M) fun M3 =>
    jfX12_read_80 k23 a1 a2 a3 M3
  else
    if a1 = 0 then
      sy_bv (jfX12_houseLine M) fun M1 =>
      jfX12_read_80 k23 a1 a2 a3 M1
    else
      sy_bv (jfX12_lawLine M) fun M2 =>
      jfX12_read_80 k23 a1 a2 a3 M2
def jgX12_read_23 (k23 : Int32 → Int32 → Int32 → sy_M → sy_O) (a1 : Int32) (a2 : Int32) (a3 : Int32) (M : sy_M) : sy_O :=
  if a2 = 0 then
    sy_ri a3 M
  else
    if (M 121 12) = (-1) then
      sy_bv (jfX12_skip M) fun M1 =>
      if a1 = 0 then
        jfX12_read_51 k23 a1 a2 a3 14 a3 M1
      else
        jfX12_read_51 k23 a1 a2 a3 12 a3 M1
    else
      sy_ri a3 M
def jfX12_read_23 : Nat → Int32 → Int32 → Int32 → sy_M → sy_O
  | 0, _, _, _, _ => none
  | n + 1, a1, a2, a3, M => jgX12_read_23 (jfX12_read_23 n) a1 a2 a3 M
def jfX12_read_20 (a1 : Int32) (s0 : Int32) (M : sy_M) : sy_O :=
  jfX12_read_23 sy_F a1 s0 0 M
def jfX12_read (a1 : Int32) (M : sy_M) : sy_O :=
  sy_bv (jfX12_skip M) fun M1 =>
  if (M1 121 11) < (M1 121 10) then
    jfX12_read_20 a1 1 M1
  else
    jfX12_read_20 a1 0 M1
def jgX12_comesBack_2 (k2 : Int32 → sy_M → sy_O) (a1 : Int32) (M : sy_M) : sy_O :=
  if a1 < 426 then
    sy_bx (xe_in a1 426) <|
    sy_bx (xe_in a1 826) <|
    let M1 := sy_upd M 122 (Int32.toNatClampNeg a1) (M 124 (Int32.toNatClampNeg a1))
    let v2 := a1 + 1
    k2 v2 M1
  else
    sy_rv M
def jfX12_comesBack_2 : Nat → Int32 → sy_M → sy_O
  | 0, _, _ => none
  | n + 1, a1, M => jgX12_comesBack_2 (jfX12_comesBack_2 n) a1 M
def jfX12_comesBack (M : sy_M) : sy_O :=
  jfX12_comesBack_2 sy_F 0 M
def jfX12_house_43 (s0 : Int32) (M : sy_M) : sy_O :=
  let M1 := sy_upd M 121 0 s0
  if 0 < (M1 121 0) then
    sy_bv (jfX12_comesBack M1) fun M4 =>
    sy_ri 0 M4
  else
    let M2 := sy_upd M1 122 0 ((M1 122 0) + 1)
    let M3 := sy_upd M2 121 6 0
    sy_ri (M3 122 0) M3
def jfX12_house (M : sy_M) : sy_O :=
  sy_bv (jfX12_putsAside M) fun M1 =>
  sy_bv (jfX12_begins M1) fun M2 =>
  sy_bi (jfX12_read 0 M2) fun v4 M3 =>
  if (M3 121 12) = (-1) then
    if (M3 122 0) = 12 then
      jfX12_house_43 2 M3
    else
      jfX12_house_43 0 M3
  else
    jfX12_house_43 1 M3
def jfX12_thrown (M : sy_M) : sy_O :=
  sy_ri (M 121 0) M
def jfX4_clear (r0 : Nat) (M : sy_M) : sy_O :=
  sy_bs (sy_is 4 r0) <|
  let M1 := sy_upd M r0 5 0
  sy_bs (sy_is 4 r0) <|
  let M2 := sy_upd M1 r0 6 0
  sy_rv M2
def jfX5_kindOf (a0 : Int32) (M : sy_M) : sy_O :=
  if a0 = 273 then
    sy_ri 0 M
  else
    if a0 = 274 then
      sy_ri 1 M
    else
      sy_ri 2 M
def jfX4_addLine (r0 : Nat) (a1 : Int32) (a2 : Int32) (a3 : Int32) (M : sy_M) : sy_O :=
  sy_bs (sy_is 4 r0) <|
  if (M r0 6) < 0 then
    sy_rv M
  else
    sy_bs (sy_is 4 r0) <|
    if (M r0 6) < 12 then
      sy_bs (sy_is 4 r0) <|
      sy_bs (sy_is 4 r0) <|
      sy_bx (xe_in (M r0 6) (sy_li (r0 + 1))) <|
      let M1 := sy_upd M (r0 + 1) (Int32.toNatClampNeg (M r0 6)) a1
      sy_bs (sy_is 4 r0) <|
      sy_bs (sy_is 4 r0) <|
      sy_bx (xe_in (M1 r0 6) (sy_li (r0 + 2))) <|
      let M2 := sy_upd M1 (r0 + 2) (Int32.toNatClampNeg (M1 r0 6)) a2
      sy_bs (sy_is 4 r0) <|
      sy_bs (sy_is 4 r0) <|
      sy_bx (xe_in (M2 r0 6) (sy_li (r0 + 3))) <|
      let M3 := sy_upd M2 (r0 + 3) (Int32.toNatClampNeg (M2 r0 6)) a3
      sy_bs (sy_is 4 r0) <|
      sy_bs (sy_is 4 r0) <|
      sy_bs (sy_is 4 r0) <|
      sy_bx (xe_in (M3 r0 6) (sy_li (r0 + 4))) <|
      let M4 := sy_upd M3 (r0 + 4) (Int32.toNatClampNeg (M3 r0 6)) (M3 r0 5)
      sy_bs (sy_is 4 r0) <|
      sy_bs (sy_is 4 r0) <|
      let M5 := sy_upd M4 r0 6 ((M4 r0 6) + 1)
      sy_rv M5
    else
      sy_rv M
def jgX4_land_4 (k4 : Nat → Int32 → Int32 → sy_M → sy_O) (r0 : Nat) (a2 : Int32) (a3 : Int32) (M : sy_M) : sy_O :=
  if a3 < 512 then
    if a2 < 0 then
      sy_rv M
    else
      if a2 < 512 then
        sy_bs (sy_is 4 r0) <|
        sy_bx (xe_in a2 (sy_len M (r0 + 5))) <|
        let v1 := (((M (r0 + 5) (Int32.toNatClampNeg a2)) >>> (4 &&& 31)) - 1)
        sy_bs (sy_is 4 r0) <|
        sy_bs (sy_is 4 r0) <|
        sy_bx (xe_in a2 (sy_len M (r0 + 5))) <|
        sy_bs (sy_is 4 r0) <|
        sy_bx (xe_in a2 (sy_li (r0 + 5))) <|
        let M2 := sy_upd M (r0 + 5) (Int32.toNatClampNeg a2) (((M (r0 + 5) (Int32.toNatClampNeg a2)) &&& 15) + (16 * (M r0 5)))
        let v3 := a3 + 1
        k4 r0 v1 v3 M2
      else
        sy_rv M
  else
    sy_rv M
def jfX4_land_4 : Nat → Nat → Int32 → Int32 → sy_M → sy_O
  | 0, _, _, _, _ => none
  | n + 1, r0, a2, a3, M => jgX4_land_4 (jfX4_land_4 n) r0 a2 a3 M
def jfX4_land (r0 : Nat) (a1 : Int32) (M : sy_M) : sy_O :=
  jfX4_land_4 sy_F r0 a1 0 M
def jfX4_add (r0 : Nat) (a1 : Int32) (a2 : Int32) (M : sy_M) : sy_O :=
  sy_bs (sy_is 4 r0) <|
  if (M r0 5) < 0 then
    sy_rv M
  else
    sy_bs (sy_is 4 r0) <|
    if (M r0 5) < 512 then
      sy_bs (sy_is 4 r0) <|
      sy_bs (sy_is 4 r0) <|
      sy_bx (xe_in (M r0 5) (sy_li (r0 + 5))) <|
      let M1 := sy_upd M (r0 + 5) (Int32.toNatClampNeg (M r0 5)) (a1 + (16 * a2))
      sy_bs (sy_is 4 r0) <|
      sy_bs (sy_is 4 r0) <|
      let M2 := sy_upd M1 r0 5 ((M1 r0 5) + 1)
      sy_rv M2
    else
      sy_rv M
def jfX4_addJump (r0 : Nat) (a1 : Int32) (a2 : Int32) (M : sy_M) : sy_O :=
  sy_bs (sy_is 4 r0) <|
  sy_bv (jfX4_add r0 a1 (a2 + 1) M) fun M1 =>
  sy_bs (sy_is 4 r0) <|
  sy_ri ((M1 r0 5) - 1) M1
def jfX5_readAll_59 (rc : Int32 → sy_M → sy_O) (a2 : Int32) (a3 : Int32) (M : sy_M) : sy_O :=
  sy_bv (jfX4_land 35 a2 M) fun M1 =>
  sy_bb (sy_bo a3) <| sy_ri a3 M1
def jgX5_readAll_11 (rc : Int32 → sy_M → sy_O) (k11 : Int32 → Int32 → Int32 → Int32 → sy_M → sy_O) (a1 : Int32) (a2 : Int32) (a3 : Int32) (a4 : Int32) (M : sy_M) : sy_O :=
  if a4 < 400 then
    if a3 = 0 then
      jfX5_readAll_59 rc a2 a3 M
    else
      sy_bi (jfX10_takes 278 M) fun v2 M1 =>
      if v2 = 0 then
        jfX5_readAll_59 rc a2 a3 M1
      else
        sy_bi (jfX4_addJump 35 8 a2 M1) fun v4 M3 =>
        sy_bi (rc a1 M3) fun v6 M5 =>
        let v7 := a4 + 1
        k11 a1 v4 v6 v7 M5
  else
    jfX5_readAll_59 rc a2 a3 M
def jfX5_readAll_11 (rc : Int32 → sy_M → sy_O) : Nat → Int32 → Int32 → Int32 → Int32 → sy_M → sy_O
  | 0, _, _, _, _, _ => none
  | n + 1, a1, a2, a3, a4, M => jgX5_readAll_11 rc (jfX5_readAll_11 rc n) a1 a2 a3 a4 M
def jfX5_readAll (rc : Int32 → sy_M → sy_O) (a1 : Int32) (M : sy_M) : sy_O :=
  sy_bi (rc a1 M) fun v2 M1 =>
  jfX5_readAll_11 rc sy_F a1 (-1) v2 0 M1
def jfX5_readAny_59 (rc : Int32 → sy_M → sy_O) (a2 : Int32) (a3 : Int32) (M : sy_M) : sy_O :=
  sy_bv (jfX4_land 35 a2 M) fun M1 =>
  sy_bb (sy_bo a3) <| sy_ri a3 M1
def jgX5_readAny_11 (rc : Int32 → sy_M → sy_O) (k11 : Int32 → Int32 → Int32 → Int32 → sy_M → sy_O) (a1 : Int32) (a2 : Int32) (a3 : Int32) (a4 : Int32) (M : sy_M) : sy_O :=
  if a4 < 400 then
    if a3 = 0 then
      jfX5_readAny_59 rc a2 a3 M
    else
      sy_bi (jfX10_takes 277 M) fun v2 M1 =>
      if v2 = 0 then
        jfX5_readAny_59 rc a2 a3 M1
      else
        sy_bi (jfX4_addJump 35 7 a2 M1) fun v4 M3 =>
        sy_bi (jfX5_readAll rc a1 M3) fun v6 M5 =>
        let v7 := a4 + 1
        k11 a1 v4 v6 v7 M5
  else
    jfX5_readAny_59 rc a2 a3 M
def jfX5_readAny_11 (rc : Int32 → sy_M → sy_O) : Nat → Int32 → Int32 → Int32 → Int32 → sy_M → sy_O
  | 0, _, _, _, _, _ => none
  | n + 1, a1, a2, a3, a4, M => jgX5_readAny_11 rc (jfX5_readAny_11 rc n) a1 a2 a3 a4 M
def jfX5_readAny (rc : Int32 → sy_M → sy_O) (a1 : Int32) (M : sy_M) : sy_O :=
  sy_bi (jfX5_readAll rc a1 M) fun v2 M1 =>
  jfX5_readAny_11 rc sy_F a1 (-1) v2 0 M1
def jfX5_partOf (a0 : Int32) (M : sy_M) : sy_O :=
  if a0 = 260 then
    sy_ri 0 M
  else if a0 = 261 then
    sy_ri 1 M
  else if a0 = 262 then
    sy_ri (-1) M
  else if a0 = 263 then
    sy_ri (-1) M
  else if a0 = 264 then
    sy_ri 2 M
  else if a0 = 265 then
    sy_ri (-1) M
  else if a0 = 266 then
    sy_ri (-1) M
  else if a0 = 267 then
    sy_ri (-1) M
  else if a0 = 268 then
    sy_ri (-1) M
  else if a0 = 269 then
    sy_ri (-1) M
  else if a0 = 270 then
    sy_ri (-1) M
  else if a0 = 271 then
    sy_ri 6 M
  else if a0 = 272 then
    sy_ri (-1) M
  else if a0 = 273 then
    sy_ri (-1) M
  else if a0 = 274 then
    sy_ri (-1) M
  else if a0 = 275 then
    sy_ri (-1) M
  else if a0 = 276 then
    sy_ri (-1) M
  else if a0 = 277 then
    sy_ri (-1) M
  else if a0 = 278 then
    sy_ri (-1) M
  else if a0 = 279 then
    sy_ri (-1) M
  else if a0 = 280 then
    sy_ri (-1) M
  else if a0 = 281 then
    sy_ri (-1) M
  else if a0 = 282 then
    sy_ri 3 M
  else if a0 = 283 then
    sy_ri 4 M
  else if a0 = 284 then
    sy_ri 5 M
  else sy_ri (-1) M
def jfX5_readSum_113 (M : sy_M) : sy_O :=
  if (M 1 7) = (-1) then
    sy_ri 1 M
  else
    sy_ri 0 M
def jfX5_readSum_106 (k4 : Int32 → Int32 → sy_M → sy_O) (a2 : Int32) (s0 : Int32) (M : sy_M) : sy_O :=
  let v1 := a2 + 1
  k4 s0 v1 M
def jfX5_readSum_105 (k4 : Int32 → Int32 → sy_M → sy_O) (a2 : Int32) (M : sy_M) : sy_O :=
  jfX5_readSum_106 k4 a2 0 M
def jfX5_readSum_78 (k4 : Int32 → Int32 → sy_M → sy_O) (a2 : Int32) (M : sy_M) : sy_O :=
  if (M 1 7) = (-1) then
    sy_bi (jfX10_takes 43 M) fun v2 M1 =>
    if v2 = 0 then
      jfX5_readSum_105 k4 a2 M1
    else
      jfX5_readSum_106 k4 a2 1 M1
  else
    jfX5_readSum_105 k4 a2 M
def jfX5_readSum_59 (k4 : Int32 → Int32 → sy_M → sy_O) (a2 : Int32) (M : sy_M) : sy_O :=
  sy_bi (jfX10_takesNumber 0 999 M) fun v2 M1 =>
  sy_bv (jfX4_add 35 0 v2 M1) fun M3 =>
  jfX5_readSum_78 k4 a2 M3
def jgX5_readSum_4 (k4 : Int32 → Int32 → sy_M → sy_O) (a1 : Int32) (a2 : Int32) (M : sy_M) : sy_O :=
  if a2 < 400 then
    if a1 = 0 then
      jfX5_readSum_113 M
    else
      sy_bi (jfX10_thing M) fun v2 M1 =>
      sy_bi (jfX5_partOf v2 M1) fun v4 M3 =>
      if v4 = (-1) then
        jfX5_readSum_59 k4 a2 M3
      else
        sy_bi (jfX10_takes v2 M3) fun v6 M5 =>
        if v6 = 0 then
          jfX5_readSum_59 k4 a2 M5
        else
          sy_bv (jfX4_add 35 1 v4 M5) fun M7 =>
          jfX5_readSum_78 k4 a2 M7
  else
    jfX5_readSum_113 M
def jfX5_readSum_4 : Nat → Int32 → Int32 → sy_M → sy_O
  | 0, _, _, _ => none
  | n + 1, a1, a2, M => jgX5_readSum_4 (jfX5_readSum_4 n) a1 a2 M
def jfX5_readSum (M : sy_M) : sy_O :=
  jfX5_readSum_4 sy_F 1 0 M
def jfX5_readOrder_53 (M : sy_M) : sy_O :=
  sy_ri 1 M
def jfX5_readOrder_23 (a1 : Int32) (s0 : Int32) (M : sy_M) : sy_O :=
  sy_bv (jfX4_add 35 s0 0 M) fun M1 =>
  if a1 = 0 then
    sy_bi (jfX10_takes 62 M1) fun v3 M2 =>
    if v3 = 0 then
      sy_bi (jfX10_fails M2) fun v5 M4 =>
      if v5 = 0 then
        sy_ri 0 M4
      else
        jfX5_readOrder_53 M4
    else
      jfX5_readOrder_53 M2
  else
    jfX5_readOrder_53 M1
def jfX5_readOrder (M : sy_M) : sy_O :=
  sy_bi (jfX10_takes 60 M) fun v2 M1 =>
  if v2 = 0 then
    jfX5_readOrder_23 v2 3 M1
  else
    jfX5_readOrder_23 v2 2 M1
def jfX5_readAtom_194 (rc : Int32 → sy_M → sy_O) (s0 : Int32) (M : sy_M) : sy_O :=
  sy_bv (jfX4_add 35 4 0 M) fun M1 =>
  sy_bb (sy_bo s0) <| sy_ri s0 M1
def jfX5_readAtom_193 (rc : Int32 → sy_M → sy_O) (M : sy_M) : sy_O :=
  jfX5_readAtom_194 rc 0 M
def jfX5_readAtom_112 (rc : Int32 → sy_M → sy_O) (M : sy_M) : sy_O :=
  sy_ri 1 M
def jfX5_readAtom_35 (rc : Int32 → sy_M → sy_O) (a1 : Int32) (M : sy_M) : sy_O :=
  sy_bi (jfX10_takes 279 M) fun v2 M1 =>
  if v2 = 0 then
    sy_bi (jfX10_takes 40 M1) fun v4 M3 =>
    if v4 = 0 then
      sy_bi (jfX10_takes 280 M3) fun v6 M5 =>
      if v6 = 0 then
        sy_bi (jfX10_takes 281 M5) fun v8 M7 =>
        if v8 = 0 then
          sy_bi (jfX5_readSum M7) fun v10 M9 =>
          if v10 = 0 then
            jfX5_readAtom_193 rc M9
          else
            sy_bi (jfX5_readOrder M9) fun v12 M11 =>
            if v12 = 0 then
              jfX5_readAtom_193 rc M11
            else
              sy_bi (jfX5_readSum M11) fun v14 M13 =>
              if v14 = 0 then
                jfX5_readAtom_193 rc M13
              else
                jfX5_readAtom_194 rc 1 M13
        else
          sy_bv (jfX4_add 35 5 8 M7) fun M15 =>
          sy_ri 1 M15
      else
        sy_bv (jfX4_add 35 5 7 M5) fun M16 =>
        sy_ri 1 M16
    else
      sy_bi (jfX5_readAny rc (a1 + 1) M3) fun v18 M17 =>
      if v18 = 0 then
        sy_ri 0 M17
      else
        sy_bi (jfX10_takes 41 M17) fun v20 M19 =>
        if v20 = 0 then
          sy_bi (jfX10_fails M19) fun v22 M21 =>
          if v22 = 0 then
            sy_ri 0 M21
          else
            jfX5_readAtom_112 rc M21
        else
          jfX5_readAtom_112 rc M19
  else
    sy_bi (rc (a1 + 1) M1) fun v24 M23 =>
    sy_bv (jfX4_add 35 6 0 M23) fun M25 =>
    sy_bb (sy_bo v24) <| sy_ri v24 M25
def jfX5_readAtom_21 (rc : Int32 → sy_M → sy_O) (a1 : Int32) (M : sy_M) : sy_O :=
  if a1 < 6 then
    jfX5_readAtom_35 rc a1 M
  else
    sy_bi (jfX10_fails M) fun v2 M1 =>
    sy_bb (sy_bo v2) <| sy_ri v2 M1
def jgX5_readAtom (rc : Int32 → sy_M → sy_O) (a1 : Int32) (M : sy_M) : sy_O :=
  sy_bi (jfX10_thing M) fun v2 M1 =>
  if v2 = 279 then
    jfX5_readAtom_21 rc a1 M1
  else
    if v2 = 40 then
      jfX5_readAtom_21 rc a1 M1
    else
      jfX5_readAtom_35 rc a1 M1
def jfX5_readAtom : Nat → Int32 → sy_M → sy_O
  | 0, _, _ => none
  | n + 1, a1, M => jgX5_readAtom (jfX5_readAtom n) a1 M
def jfX5_readLine_116 (a1 : Int32) (a2 : Int32) (a3 : Int32) (M : sy_M) : sy_O :=
  sy_bv (jfX4_addLine 35 a1 a2 a3 M) fun M1 =>
  sy_ri 1 M1
def jfX5_readLine_77 (a1 : Int32) (s0 : Int32) (M : sy_M) : sy_O :=
  if s0 = (-1) then
    sy_ri 0 M
  else
    let v1 := (M 35 5)
    sy_bi (jfX10_takes 276 M) fun v3 M2 =>
    if v3 = 0 then
      jfX5_readLine_116 a1 s0 v1 M2
    else
      sy_bi (jfX5_readAny (jfX5_readAtom sy_D) 0 M2) fun v5 M4 =>
      if v5 = 0 then
        sy_ri 0 M4
      else
        jfX5_readLine_116 a1 s0 v1 M4
def jfX5_readLine_58 (a1 : Int32) (M : sy_M) : sy_O :=
  if a1 = 2 then
    jfX5_readLine_77 a1 0 M
  else
    sy_bi (jfX10_takesNumber 0 60 M) fun v2 M1 =>
    jfX5_readLine_77 a1 v2 M1
def jfX5_readLine (M : sy_M) : sy_O :=
  sy_bi (jfX10_thing M) fun v2 M1 =>
  sy_bi (jfX5_kindOf v2 M1) fun v4 M3 =>
  sy_bi (jfX10_takes 273 M3) fun v6 M5 =>
  if v6 = 0 then
    sy_bi (jfX10_takes 274 M5) fun v8 M7 =>
    if v8 = 0 then
      sy_bi (jfX10_takes 275 M7) fun v10 M9 =>
      if v10 = 0 then
        sy_bi (jfX10_fails M9) fun v12 M11 =>
        sy_bb (sy_bo v12) <| sy_ri v12 M11
      else
        jfX5_readLine_58 v4 M9
    else
      jfX5_readLine_58 v4 M7
  else
    jfX5_readLine_58 v4 M5
def jgX6_readLines_2_17 (k17 : Int32 → Int32 → sy_M → sy_O) (a1 : Int32) (a2 : Int32) (M : sy_M) : sy_O :=
  if a2 < a1 then
    sy_bi (jfX5_readLine M) fun v4 M3 =>
    if v4 = 0 then
      sy_ri 0 M3
    else
      sy_bi (jfX10_thing M3) fun v6 M5 =>
      if v6 = 256 then
        sy_ri 1 M5
      else
        sy_bi (jfX10_takes 59 M5) fun v8 M7 =>
        if v8 = 0 then
          sy_bi (jfX10_fails M7) fun v11 M10 =>
          sy_bb (sy_bo v11) <| sy_ri v11 M10
        else
          let v9 := a2 + 1
          k17 a1 v9 M7
  else
    sy_bi (jfX10_fails M) fun v2 M1 =>
    sy_bb (sy_bo v2) <| sy_ri v2 M1
def jfX6_readLines_2_17 : Nat → Int32 → Int32 → sy_M → sy_O
  | 0, _, _, _ => none
  | n + 1, a1, a2, M => jgX6_readLines_2_17 (jfX6_readLines_2_17 n) a1 a2 M
def jfX6_readLines_2 (a1 : Int32) (M : sy_M) : sy_O :=
  sy_bi (jfX10_thing M) fun v2 M1 =>
  if v2 = 256 then
    sy_ri 1 M1
  else
    jfX6_readLines_2_17 sy_F a1 0 M1
def jfX4_takeOver_76 (r0 : Nat) (r1 : Nat) (M : sy_M) : sy_O :=
  sy_bs (sy_is 4 r1) <|
  sy_bs (sy_is 4 r0) <|
  let M1 := sy_upd M r0 5 (M r1 5)
  sy_bs (sy_is 4 r1) <|
  sy_bs (sy_is 4 r0) <|
  let M2 := sy_upd M1 r0 6 (M1 r1 6)
  sy_rv M2
def jfX4_takeOver (r0 : Nat) (r1 : Nat) (M : sy_M) : sy_O :=
  sy_bs (sy_is 4 r1) <|
  sy_bs (sy_is 4 r0) <|
  sy_bb (sy_cok (r1 + 1) (r0 + 1) 0 0 12) <|
  let M1 := sy_cpy M (r1 + 1) 0 (r0 + 1) 0 12
  sy_bs (sy_is 4 r1) <|
  sy_bs (sy_is 4 r0) <|
  sy_bb (sy_cok (r1 + 2) (r0 + 2) 0 0 12) <|
  let M2 := sy_cpy M1 (r1 + 2) 0 (r0 + 2) 0 12
  sy_bs (sy_is 4 r1) <|
  sy_bs (sy_is 4 r0) <|
  sy_bb (sy_cok (r1 + 3) (r0 + 3) 0 0 12) <|
  let M3 := sy_cpy M2 (r1 + 3) 0 (r0 + 3) 0 12
  sy_bs (sy_is 4 r1) <|
  sy_bs (sy_is 4 r0) <|
  sy_bb (sy_cok (r1 + 4) (r0 + 4) 0 0 12) <|
  let M4 := sy_cpy M3 (r1 + 4) 0 (r0 + 4) 0 12
  sy_bs (sy_is 4 r1) <|
  sy_bs (sy_is 4 r0) <|
  sy_bb (sy_cok (r1 + 5) (r0 + 5) 0 0 512) <|
  let M5 := sy_cpy M4 (r1 + 5) 0 (r0 + 5) 0 512
  jfX4_takeOver_76 r0 r1 M5
def jfX11_law (M : sy_M) : sy_O :=
  sy_bv (jfX4_clear 35 M) fun M1 =>
  sy_bv (jfX10_open M1) fun M2 =>
  sy_bi (jfX6_readLines_2 12 M2) fun v4 M3 =>
  let M5 := sy_upd M3 0 17 (M3 1 7)
  if v4 = 0 then
    sy_bx (xe_in (M5 133 0) 100000) <|
    sy_rt 20 (sy_upd M5 133 0 (M5 133 0 + 1))
  else
    sy_bv (jfX4_takeOver 29 35 M5) fun M6 =>
    sy_bv (jfX0_forget M6) fun M7 =>
    sy_ri (M7 29 6) M7
def jfL_law (M : sy_M) : sy_O :=
  sy_hi (jfX11_law M) (fun v2 M1 =>
    let M5 := sy_wl M1 132 0 (Int32.toInt64 v2)
    sy_ri 0 M5)
  (fun c3 M4 => if c3 = 20 then sy_ri 1 M4 else none)
def jgX12_law_55 (k55 : Int32 → Int32 → sy_M → sy_O) (a1 : Int32) (a2 : Int32) (M : sy_M) : sy_O :=
  if a2 < (M 121 10) then
    sy_bx (xe_in a2 400) <|
    sy_bx (xe_in (426 + a2) 826) <|
    let M2 := sy_upd M 122 (Int32.toNatClampNeg (426 + a2)) (M 126 (Int32.toNatClampNeg a2))
    let v3 := a2 + 1
    k55 a1 v3 M2
  else
    let M1 := sy_upd M 121 6 0
    sy_ri a1 M1
def jfX12_law_55 : Nat → Int32 → Int32 → sy_M → sy_O
  | 0, _, _, _ => none
  | n + 1, a1, a2, M => jgX12_law_55 (jfX12_law_55 n) a1 a2 M
def jfX12_law_24 (a1 : Int32) (s0 : Int32) (M : sy_M) : sy_O :=
  let M1 := sy_upd M 121 0 s0
  if 0 < (M1 121 0) then
    sy_ri 0 M1
  else
    let M2 := sy_upd M1 122 1 a1
    let M3 := sy_upd M2 122 2 (M2 121 10)
    jfX12_law_55 sy_F a1 0 M3
def jfX12_law (M : sy_M) : sy_O :=
  sy_bv (jfX12_begins M) fun M1 =>
  sy_bi (jfX12_read 1 M1) fun v3 M2 =>
  if (M2 121 12) = (-1) then
    jfX12_law_24 v3 0 M2
  else
    jfX12_law_24 v3 1 M2
def jfX11_fault (M : sy_M) : sy_O :=
  sy_ri (M 0 17) M
def jfX12_fault (M : sy_M) : sy_O :=
  let M1 := sy_upd M 121 0 0
  sy_ri (M1 121 12) M1
def jfX11_checkLodger (a1 : Int32) (M : sy_M) : sy_O :=
  if a1 < 0 then
    sy_bx (xe_in (M 133 0) 100000) <|
    sy_rt 22 (sy_upd M 133 0 (M 133 0 + 1))
  else
    if a1 < (M 9 3) then
      sy_rv M
    else
      sy_bx (xe_in (M 133 0) 100000) <|
      sy_rt 22 (sy_upd M 133 0 (M 133 0 + 1))
def jfX2_get_25 (r0 : Nat) (a1 : Int32) (a2 : Int32) (s0 : Int32) (M : sy_M) : sy_O :=
  if s0 = 0 then
    sy_ri 0 M
  else
    sy_bs (sy_is 2 r0) <|
    sy_bx (xe_in ((a1 * 9) + a2) (sy_len M (r0 + 1))) <|
    sy_ri (M (r0 + 1) (Int32.toNatClampNeg ((a1 * 9) + a2))) M
def jfX2_get_24 (r0 : Nat) (a1 : Int32) (a2 : Int32) (M : sy_M) : sy_O :=
  jfX2_get_25 r0 a1 a2 0 M
def jfX2_get (r0 : Nat) (a1 : Int32) (a2 : Int32) (M : sy_M) : sy_O :=
  if a1 < 0 then
    jfX2_get_24 r0 a1 a2 M
  else
    if a1 < 7 then
      if a2 < 0 then
        jfX2_get_24 r0 a1 a2 M
      else
        if a2 < 9 then
          jfX2_get_25 r0 a1 a2 1 M
        else
          jfX2_get_24 r0 a1 a2 M
    else
      jfX2_get_24 r0 a1 a2 M
def jfX8_tell_97 (r1 : Nat) (a2 : Int32) (s0 : Int32) (s1 : Int32) (M : sy_M) : sy_O :=
  sy_bx (xe_in s1 9) <|
  let M1 := sy_upd M 52 (Int32.toNatClampNeg s1) s0
  sy_bs (sy_is 2 r1) <|
  sy_bi (jfX2_get r1 a2 6 M1) fun v3 M2 =>
  sy_bs (sy_is 2 r1) <|
  sy_bi (jfX2_get r1 a2 3 M2) fun v5 M4 =>
  if v5 < v3 then
    let M7 := sy_upd M4 52 8 1
    sy_rv M7
  else
    let M6 := sy_upd M4 52 8 0
    sy_rv M6
def jfX8_tell_57 (r1 : Nat) (a2 : Int32) (M : sy_M) : sy_O :=
  sy_bs (sy_is 2 r1) <|
  let M1 := sy_upd M 52 5 (M r1 9)
  sy_bs (sy_is 2 r1) <|
  let M2 := sy_upd M1 52 6 (M1 r1 5)
  sy_bs (sy_is 2 r1) <|
  if (M2 r1 12) = a2 then
    jfX8_tell_97 r1 a2 1 7 M2
  else
    jfX8_tell_97 r1 a2 0 7 M2
def jfX8_tell (r1 : Nat) (a2 : Int32) (M : sy_M) : sy_O :=
  let M1 := sy_upd M 52 0 a2
  sy_bs (sy_is 2 r1) <|
  sy_bi (jfX2_get r1 a2 0 M1) fun v3 M2 =>
  let M4 := sy_upd M2 52 1 v3
  sy_bs (sy_is 2 r1) <|
  sy_bi (jfX2_get r1 a2 5 M4) fun v6 M5 =>
  let M7 := sy_upd M5 52 2 v6
  sy_bs (sy_is 2 r1) <|
  sy_bi (jfX2_get r1 a2 8 M7) fun v9 M8 =>
  let M10 := sy_upd M8 52 3 v9
  sy_bs (sy_is 2 r1) <|
  sy_bi (jfX2_get r1 a2 6 M10) fun v12 M11 =>
  let M13 := sy_upd M11 52 4 v12
  jfX8_tell_57 r1 a2 M13
def jfX4_holds_323 (k31 : Nat → Int32 → Int32 → Int32 → Int32 → Int32 → Int32 → sy_M → sy_O) (r0 : Nat) (a1 : Int32) (a3 : Int32) (a4 : Int32) (a5 : Int32) (a6 : Int32) (a7 : Int32) (M : sy_M) : sy_O :=
  let v1 := a7 + 1
  k31 r0 a1 a3 a4 a5 a6 v1 M
def jfX4_holds_156 (k31 : Nat → Int32 → Int32 → Int32 → Int32 → Int32 → Int32 → sy_M → sy_O) (r0 : Nat) (a1 : Int32) (a3 : Int32) (a4 : Int32) (a5 : Int32) (a6 : Int32) (a7 : Int32) (a8 : Int32) (M : sy_M) : sy_O :=
  let v1 := (a6 + a8)
  jfX4_holds_323 k31 r0 a1 a3 a4 a5 v1 a7 M
def jfX4_holds_166 (k31 : Nat → Int32 → Int32 → Int32 → Int32 → Int32 → Int32 → sy_M → sy_O) (r0 : Nat) (a1 : Int32) (a3 : Int32) (a4 : Int32) (a5 : Int32) (a6 : Int32) (a7 : Int32) (a9 : Int32) (M : sy_M) : sy_O :=
  let v1 := (a6 + a9)
  jfX4_holds_323 k31 r0 a1 a3 a4 a5 v1 a7 M
def jfX4_holds_199 (k31 : Nat → Int32 → Int32 → Int32 → Int32 → Int32 → Int32 → sy_M → sy_O) (r0 : Nat) (a1 : Int32) (a3 : Int32) (a5 : Int32) (a7 : Int32) (s0 : Int32) (M : sy_M) : sy_O :=
  jfX4_holds_323 k31 r0 a1 a3 s0 a5 0 a7 M
def jfX4_holds_176 (k31 : Nat → Int32 → Int32 → Int32 → Int32 → Int32 → Int32 → sy_M → sy_O) (r0 : Nat) (a1 : Int32) (a3 : Int32) (a6 : Int32) (a7 : Int32) (M : sy_M) : sy_O :=
  sy_bs (sy_is 4 r0) <|
  sy_bx (xe_in a7 (sy_len M (r0 + 5))) <|
  if ((M (r0 + 5) (Int32.toNatClampNeg a7)) &&& 15) = 2 then
    jfX4_holds_199 k31 r0 a1 a3 a6 a7 1 M
  else
    jfX4_holds_199 k31 r0 a1 a3 a6 a7 0 M
def jfX4_holds_239 (k31 : Nat → Int32 → Int32 → Int32 → Int32 → Int32 → Int32 → sy_M → sy_O) (r0 : Nat) (a1 : Int32) (a4 : Int32) (a5 : Int32) (a7 : Int32) (s0 : Int32) (M : sy_M) : sy_O :=
  jfX4_holds_323 k31 r0 a1 s0 a4 a5 0 a7 M
def jfX4_holds_207 (k31 : Nat → Int32 → Int32 → Int32 → Int32 → Int32 → Int32 → sy_M → sy_O) (r0 : Nat) (a1 : Int32) (a4 : Int32) (a5 : Int32) (a6 : Int32) (a7 : Int32) (M : sy_M) : sy_O :=
  if a4 = 0 then
    if a6 < a5 then
      jfX4_holds_239 k31 r0 a1 a4 a5 a7 1 M
    else
      jfX4_holds_239 k31 r0 a1 a4 a5 a7 0 M
  else
    if a5 < a6 then
      jfX4_holds_239 k31 r0 a1 a4 a5 a7 1 M
    else
      jfX4_holds_239 k31 r0 a1 a4 a5 a7 0 M
def jfX4_holds_256 (k31 : Nat → Int32 → Int32 → Int32 → Int32 → Int32 → Int32 → sy_M → sy_O) (r0 : Nat) (a1 : Int32) (a4 : Int32) (a5 : Int32) (a6 : Int32) (a7 : Int32) (s0 : Int32) (M : sy_M) : sy_O :=
  jfX4_holds_323 k31 r0 a1 s0 a4 a5 a6 a7 M
def jfX4_holds_246 (k31 : Nat → Int32 → Int32 → Int32 → Int32 → Int32 → Int32 → sy_M → sy_O) (r0 : Nat) (a1 : Int32) (a4 : Int32) (a5 : Int32) (a6 : Int32) (a7 : Int32) (a9 : Int32) (M : sy_M) : sy_O :=
  if a9 = 0 then
    jfX4_holds_256 k31 r0 a1 a4 a5 a6 a7 0 M
  else
    jfX4_holds_256 k31 r0 a1 a4 a5 a6 a7 1 M
def jfX4_holds_269 (k31 : Nat → Int32 → Int32 → Int32 → Int32 → Int32 → Int32 → sy_M → sy_O) (r0 : Nat) (a1 : Int32) (a4 : Int32) (a5 : Int32) (a6 : Int32) (a7 : Int32) (s0 : Int32) (M : sy_M) : sy_O :=
  jfX4_holds_323 k31 r0 a1 s0 a4 a5 a6 a7 M
def jfX4_holds_260 (k31 : Nat → Int32 → Int32 → Int32 → Int32 → Int32 → Int32 → sy_M → sy_O) (r0 : Nat) (a1 : Int32) (a3 : Int32) (a4 : Int32) (a5 : Int32) (a6 : Int32) (a7 : Int32) (M : sy_M) : sy_O :=
  if a3 = 0 then
    jfX4_holds_269 k31 r0 a1 a4 a5 a6 a7 1 M
  else
    jfX4_holds_269 k31 r0 a1 a4 a5 a6 a7 0 M
def jfX4_holds_293 (k31 : Nat → Int32 → Int32 → Int32 → Int32 → Int32 → Int32 → sy_M → sy_O) (r0 : Nat) (a1 : Int32) (a3 : Int32) (a4 : Int32) (a5 : Int32) (a6 : Int32) (s0 : Int32) (M : sy_M) : sy_O :=
  jfX4_holds_323 k31 r0 a1 a3 a4 a5 a6 s0 M
def jfX4_holds_291 (k31 : Nat → Int32 → Int32 → Int32 → Int32 → Int32 → Int32 → sy_M → sy_O) (r0 : Nat) (a1 : Int32) (a3 : Int32) (a4 : Int32) (a5 : Int32) (a6 : Int32) (a7 : Int32) (M : sy_M) : sy_O :=
  jfX4_holds_293 k31 r0 a1 a3 a4 a5 a6 a7 M
def jfX4_holds_273 (k31 : Nat → Int32 → Int32 → Int32 → Int32 → Int32 → Int32 → sy_M → sy_O) (r0 : Nat) (a1 : Int32) (a3 : Int32) (a4 : Int32) (a5 : Int32) (a6 : Int32) (a7 : Int32) (a8 : Int32) (M : sy_M) : sy_O :=
  if a3 = 0 then
    jfX4_holds_291 k31 r0 a1 a3 a4 a5 a6 a7 M
  else
    if a7 < a8 then
      jfX4_holds_293 k31 r0 a1 a3 a4 a5 a6 (a8 - 1) M
    else
      jfX4_holds_291 k31 r0 a1 a3 a4 a5 a6 a7 M
def jfX4_holds_318 (k31 : Nat → Int32 → Int32 → Int32 → Int32 → Int32 → Int32 → sy_M → sy_O) (r0 : Nat) (a1 : Int32) (a3 : Int32) (a4 : Int32) (a5 : Int32) (a6 : Int32) (s0 : Int32) (M : sy_M) : sy_O :=
  jfX4_holds_323 k31 r0 a1 a3 a4 a5 a6 s0 M
def jfX4_holds_316 (k31 : Nat → Int32 → Int32 → Int32 → Int32 → Int32 → Int32 → sy_M → sy_O) (r0 : Nat) (a1 : Int32) (a3 : Int32) (a4 : Int32) (a5 : Int32) (a6 : Int32) (a7 : Int32) (M : sy_M) : sy_O :=
  jfX4_holds_318 k31 r0 a1 a3 a4 a5 a6 a7 M
def jfX4_holds_298 (k31 : Nat → Int32 → Int32 → Int32 → Int32 → Int32 → Int32 → sy_M → sy_O) (r0 : Nat) (a1 : Int32) (a3 : Int32) (a4 : Int32) (a5 : Int32) (a6 : Int32) (a7 : Int32) (a8 : Int32) (M : sy_M) : sy_O :=
  if a3 = 0 then
    if a7 < a8 then
      jfX4_holds_318 k31 r0 a1 a3 a4 a5 a6 (a8 - 1) M
    else
      jfX4_holds_316 k31 r0 a1 a3 a4 a5 a6 a7 M
  else
    jfX4_holds_316 k31 r0 a1 a3 a4 a5 a6 a7 M
def jfX4_holds_93 (k31 : Nat → Int32 → Int32 → Int32 → Int32 → Int32 → Int32 → sy_M → sy_O) (r0 : Nat) (a1 : Int32) (a3 : Int32) (a4 : Int32) (a5 : Int32) (a6 : Int32) (a7 : Int32) (a8 : Int32) (s0 : Int32) (M : sy_M) : sy_O :=
  sy_bs (sy_is 4 r0) <|
  sy_bx (xe_in a7 (sy_len M (r0 + 5))) <|
  if ((M (r0 + 5) (Int32.toNatClampNeg a7)) &&& 15) = 0 then
    jfX4_holds_156 k31 r0 a1 a3 a4 a5 a6 a7 a8 M
  else if ((M (r0 + 5) (Int32.toNatClampNeg a7)) &&& 15) = 1 then
    jfX4_holds_166 k31 r0 a1 a3 a4 a5 a6 a7 s0 M
  else if ((M (r0 + 5) (Int32.toNatClampNeg a7)) &&& 15) = 2 then
    jfX4_holds_176 k31 r0 a1 a3 a6 a7 M
  else if ((M (r0 + 5) (Int32.toNatClampNeg a7)) &&& 15) = 3 then
    jfX4_holds_176 k31 r0 a1 a3 a6 a7 M
  else if ((M (r0 + 5) (Int32.toNatClampNeg a7)) &&& 15) = 4 then
    jfX4_holds_207 k31 r0 a1 a4 a5 a6 a7 M
  else if ((M (r0 + 5) (Int32.toNatClampNeg a7)) &&& 15) = 5 then
    jfX4_holds_246 k31 r0 a1 a4 a5 a6 a7 s0 M
  else if ((M (r0 + 5) (Int32.toNatClampNeg a7)) &&& 15) = 6 then
    jfX4_holds_260 k31 r0 a1 a3 a4 a5 a6 a7 M
  else if ((M (r0 + 5) (Int32.toNatClampNeg a7)) &&& 15) = 7 then
    jfX4_holds_273 k31 r0 a1 a3 a4 a5 a6 a7 a8 M
  else if ((M (r0 + 5) (Int32.toNatClampNeg a7)) &&& 15) = 8 then
    jfX4_holds_298 k31 r0 a1 a3 a4 a5 a6 a7 a8 M
  else jfX4_holds_323 k31 r0 a1 a3 a4 a5 a6 a7 M
def jfX4_holds_92 (k31 : Nat → Int32 → Int32 → Int32 → Int32 → Int32 → Int32 → sy_M → sy_O) (r0 : Nat) (a1 : Int32) (a3 : Int32) (a4 : Int32) (a5 : Int32) (a6 : Int32) (a7 : Int32) (a8 : Int32) (M : sy_M) : sy_O :=
  jfX4_holds_93 k31 r0 a1 a3 a4 a5 a6 a7 a8 0 M
def jgX4_holds_31 (k31 : Nat → Int32 → Int32 → Int32 → Int32 → Int32 → Int32 → sy_M → sy_O) (r0 : Nat) (a1 : Int32) (a3 : Int32) (a4 : Int32) (a5 : Int32) (a6 : Int32) (a7 : Int32) (M : sy_M) : sy_O :=
  if a7 < 0 then
    sy_bb (sy_bo a3) <| sy_ri a3 M
  else
    sy_bs (sy_is 4 r0) <|
    sy_bx (xe_in a1 (sy_len M (r0 + 4))) <|
    if a7 < (M (r0 + 4) (Int32.toNatClampNeg a1)) then
      if a7 < 512 then
        sy_bs (sy_is 4 r0) <|
        sy_bx (xe_in a7 (sy_len M (r0 + 5))) <|
        let v1 := ((M (r0 + 5) (Int32.toNatClampNeg a7)) >>> (4 &&& 31))
        if v1 < 0 then
          jfX4_holds_92 k31 r0 a1 a3 a4 a5 a6 a7 v1 M
        else
          if v1 < 9 then
            if v1 < (Nat.toInt32 9) then
              sy_bx (xe_in v1 9) <|
              jfX4_holds_93 k31 r0 a1 a3 a4 a5 a6 a7 v1 (M 52 (Int32.toNatClampNeg v1)) M
            else
              jfX4_holds_92 k31 r0 a1 a3 a4 a5 a6 a7 v1 M
          else
            jfX4_holds_92 k31 r0 a1 a3 a4 a5 a6 a7 v1 M
      else
        sy_bb (sy_bo a3) <| sy_ri a3 M
    else
      sy_bb (sy_bo a3) <| sy_ri a3 M
def jfX4_holds_31 : Nat → Nat → Int32 → Int32 → Int32 → Int32 → Int32 → Int32 → sy_M → sy_O
  | 0, _, _, _, _, _, _, _, _ => none
  | n + 1, r0, a1, a3, a4, a5, a6, a7, M => jgX4_holds_31 (jfX4_holds_31 n) r0 a1 a3 a4 a5 a6 a7 M
def jfX4_holds (r0 : Nat) (a1 : Int32) (M : sy_M) : sy_O :=
  if a1 < 0 then
    sy_ri 0 M
  else
    if a1 < 12 then
      sy_bs (sy_is 4 r0) <|
      sy_bx (xe_in a1 (sy_len M (r0 + 3))) <|
      let v1 := (M (r0 + 3) (Int32.toNatClampNeg a1))
      jfX4_holds_31 sy_F r0 a1 1 1 0 0 v1 M
    else
      sy_ri 0 M
def jfX4_turnOf_65 (k4 : Nat → Int32 → Int32 → sy_M → sy_O) (r0 : Nat) (a2 : Int32) (a3 : Int32) (M : sy_M) : sy_O :=
  let v1 := a3 + 1
  k4 r0 a2 v1 M
def jfX4_turnOf_63 (k4 : Nat → Int32 → Int32 → sy_M → sy_O) (r0 : Nat) (a3 : Int32) (s0 : Int32) (s1 : Int32) (M : sy_M) : sy_O :=
  let v1 := (s1 + s0)
  jfX4_turnOf_65 k4 r0 v1 a3 M
def jgX4_turnOf_4 (k4 : Nat → Int32 → Int32 → sy_M → sy_O) (r0 : Nat) (a2 : Int32) (a3 : Int32) (M : sy_M) : sy_O :=
  sy_bs (sy_is 4 r0) <|
  if a3 < (M r0 6) then
    if a3 < 12 then
      sy_bs (sy_is 4 r0) <|
      sy_bx (xe_in a3 (sy_len M (r0 + 1))) <|
      if (M (r0 + 1) (Int32.toNatClampNeg a3)) = 2 then
        jfX4_turnOf_65 k4 r0 a2 a3 M
      else
        sy_bs (sy_is 4 r0) <|
        sy_bi (jfX4_holds r0 a3 M) fun v2 M1 =>
        if v2 = 0 then
          jfX4_turnOf_65 k4 r0 a2 a3 M1
        else
          sy_bs (sy_is 4 r0) <|
          sy_bx (xe_in a3 (sy_len M1 (r0 + 1))) <|
          if (M1 (r0 + 1) (Int32.toNatClampNeg a3)) = 0 then
            sy_bs (sy_is 4 r0) <|
            sy_bx (xe_in a3 (sy_len M1 (r0 + 2))) <|
            jfX4_turnOf_63 k4 r0 a3 (M1 (r0 + 2) (Int32.toNatClampNeg a3)) a2 M1
          else
            sy_bs (sy_is 4 r0) <|
            sy_bx (xe_in a3 (sy_len M1 (r0 + 2))) <|
            jfX4_turnOf_63 k4 r0 a3 (-(M1 (r0 + 2) (Int32.toNatClampNeg a3))) a2 M1
    else
      sy_ri a2 M
  else
    sy_ri a2 M
def jfX4_turnOf_4 : Nat → Nat → Int32 → Int32 → sy_M → sy_O
  | 0, _, _, _, _ => none
  | n + 1, r0, a2, a3, M => jgX4_turnOf_4 (jfX4_turnOf_4 n) r0 a2 a3 M
def jfX4_turnOf (r0 : Nat) (M : sy_M) : sy_O :=
  jfX4_turnOf_4 sy_F r0 0 0 M
def jfX4_isRefused_37 (k2 : Nat → Int32 → sy_M → sy_O) (r0 : Nat) (a2 : Int32) (M : sy_M) : sy_O :=
  let v1 := a2 + 1
  k2 r0 v1 M
def jgX4_isRefused_2 (k2 : Nat → Int32 → sy_M → sy_O) (r0 : Nat) (a2 : Int32) (M : sy_M) : sy_O :=
  sy_bs (sy_is 4 r0) <|
  if a2 < (M r0 6) then
    if a2 < 12 then
      sy_bs (sy_is 4 r0) <|
      sy_bx (xe_in a2 (sy_len M (r0 + 1))) <|
      if (M (r0 + 1) (Int32.toNatClampNeg a2)) = 2 then
        sy_bs (sy_is 4 r0) <|
        sy_bi (jfX4_holds r0 a2 M) fun v2 M1 =>
        if v2 = 0 then
          jfX4_isRefused_37 k2 r0 a2 M1
        else
          sy_ri 1 M1
      else
        jfX4_isRefused_37 k2 r0 a2 M
    else
      sy_ri 0 M
  else
    sy_ri 0 M
def jfX4_isRefused_2 : Nat → Nat → Int32 → sy_M → sy_O
  | 0, _, _, _ => none
  | n + 1, r0, a2, M => jgX4_isRefused_2 (jfX4_isRefused_2 n) r0 a2 M
def jfX4_isRefused (r0 : Nat) (M : sy_M) : sy_O :=
  jfX4_isRefused_2 sy_F r0 0 M
def jgX2_sum_4 (k4 : Nat → Int32 → Int32 → Int32 → sy_M → sy_O) (r0 : Nat) (a1 : Int32) (a2 : Int32) (a3 : Int32) (M : sy_M) : sy_O :=
  sy_bs (sy_is 2 r0) <|
  if a3 < (M r0 3) then
    sy_bs (sy_is 2 r0) <|
    sy_bi (jfX2_get r0 a3 a1 M) fun v2 M1 =>
    let v3 := (a2 + v2)
    let v4 := a3 + 1
    k4 r0 a1 v3 v4 M1
  else
    sy_ri a2 M
def jfX2_sum_4 : Nat → Nat → Int32 → Int32 → Int32 → sy_M → sy_O
  | 0, _, _, _, _, _ => none
  | n + 1, r0, a1, a2, a3, M => jgX2_sum_4 (jfX2_sum_4 n) r0 a1 a2 a3 M
def jfX2_sum (r0 : Nat) (a1 : Int32) (M : sy_M) : sy_O :=
  jfX2_sum_4 sy_F r0 a1 0 0 M
def jfX11_share (a0 : Int32) (a1 : Int32) (a2 : Int32) (M : sy_M) : sy_O :=
  if 0 < a2 then
    if a2 = 0 then none else
    sy_ri ((a0 * a1) / a2) M
  else
    sy_ri 0 M
def jfX11_hundredths (a0 : Int32) (a1 : Int32) (M : sy_M) : sy_O :=
  sy_bi (jfX11_share 100 a0 a1 M) fun v2 M1 =>
  sy_ri v2 M1
def jfJ9_floorMod_7cf53 (a0 : Int32) (a1 : Int32) (M : sy_M) : sy_O :=
  if a1 = 0 then none else
  let v1 := (a0 - a0 / a1 * a1)
  if (a0 ^^^ a1) < 0 then
    if v1 = 0 then
      sy_ri v1 M
    else
      sy_ri (v1 + a1) M
  else
    sy_ri v1 M
def jfX2_hours (r0 : Nat) (a1 : Int32) (M : sy_M) : sy_O :=
  sy_bs (sy_is 2 r0) <|
  sy_bi (jfX2_get r0 a1 2 M) fun v2 M1 =>
  sy_bs (sy_is 2 r0) <|
  sy_bi (jfX2_get r0 a1 1 M1) fun v4 M3 =>
  sy_bi (jfJ9_floorMod_7cf53 (v2 - v4) 48 M3) fun v6 M5 =>
  sy_ri (v6 + 1) M5
def jfX2_metered (r0 : Nat) (a1 : Int32) (M : sy_M) : sy_O :=
  sy_bs (sy_is 2 r0) <|
  sy_bi (jfX2_get r0 a1 0 M) fun v2 M1 =>
  sy_bs (sy_is 2 r0) <|
  sy_bi (jfX2_hours r0 a1 M1) fun v4 M3 =>
  sy_ri (v2 * v4) M3
def jfX2_burnt_31 (k4 : Nat → Int32 → Int32 → Int32 → sy_M → sy_O) (r0 : Nat) (a1 : Int32) (a3 : Int32) (s0 : Int32) (s1 : Int32) (M : sy_M) : sy_O :=
  let v1 := (s1 + s0)
  let v2 := a3 + 1
  k4 r0 a1 v1 v2 M
def jgX2_burnt_4 (k4 : Nat → Int32 → Int32 → Int32 → sy_M → sy_O) (r0 : Nat) (a1 : Int32) (a2 : Int32) (a3 : Int32) (M : sy_M) : sy_O :=
  sy_bs (sy_is 2 r0) <|
  if a3 < (M r0 3) then
    if ((a1 >>> (a3 &&& 31)) &&& 1) = 0 then
      jfX2_burnt_31 k4 r0 a1 a3 0 a2 M
    else
      sy_bs (sy_is 2 r0) <|
      sy_bi (jfX2_get r0 a3 0 M) fun v2 M1 =>
      jfX2_burnt_31 k4 r0 a1 a3 v2 a2 M1
  else
    sy_ri a2 M
def jfX2_burnt_4 : Nat → Nat → Int32 → Int32 → Int32 → sy_M → sy_O
  | 0, _, _, _, _, _ => none
  | n + 1, r0, a1, a2, a3, M => jgX2_burnt_4 (jfX2_burnt_4 n) r0 a1 a2 a3 M
def jfX2_burnt (r0 : Nat) (a1 : Int32) (M : sy_M) : sy_O :=
  jfX2_burnt_4 sy_F r0 a1 0 0 M
def jfX2_isIn_51 (M : sy_M) : sy_O :=
  sy_ri 1 M
def jfX2_isIn_36 (M : sy_M) : sy_O :=
  sy_ri 0 M
def jfX2_isIn (r0 : Nat) (a1 : Int32) (a2 : Int32) (M : sy_M) : sy_O :=
  sy_bs (sy_is 2 r0) <|
  sy_bi (jfX2_get r0 a1 1 M) fun v2 M1 =>
  sy_bs (sy_is 2 r0) <|
  sy_bi (jfX2_get r0 a1 2 M1) fun v4 M3 =>
  if v4 < v2 then
    if a2 < v2 then
      if v4 < a2 then
        sy_ri 0 M3
      else
        jfX2_isIn_51 M3
    else
      jfX2_isIn_51 M3
  else
    if a2 < v2 then
      jfX2_isIn_36 M3
    else
      if v4 < a2 then
        jfX2_isIn_36 M3
      else
        sy_ri 1 M3
def jfX8_learn_48 (k2 : Nat → Int32 → sy_M → sy_O) (k17 : Nat → Int32 → Int32 → sy_M → sy_O) (r1 : Nat) (a2 : Int32) (a3 : Int32) (s0 : Int32) (s1 : Int32) (s2 : Int32) (M : sy_M) : sy_O :=
  sy_bx (xe_in s2 48) <|
  let M1 := sy_upd M 50 (Int32.toNatClampNeg s2) (s1 ||| s0)
  let v2 := a3 + 1
  k17 r1 a2 v2 M1
def jgX8_learn_17 (k2 : Nat → Int32 → sy_M → sy_O) (k17 : Nat → Int32 → Int32 → sy_M → sy_O) (r1 : Nat) (a2 : Int32) (a3 : Int32) (M : sy_M) : sy_O :=
  sy_bs (sy_is 2 r1) <|
  if a3 < (M r1 3) then
    sy_bx (xe_in a2 48) <|
    sy_bs (sy_is 2 r1) <|
    sy_bi (jfX2_isIn r1 a3 a2 M) fun v6 M5 =>
    if v6 = 0 then
      jfX8_learn_48 k2 k17 r1 a2 a3 0 (M 50 (Int32.toNatClampNeg a2)) a2 M5
    else
      jfX8_learn_48 k2 k17 r1 a2 a3 (1 <<< (a3 &&& 31)) (M 50 (Int32.toNatClampNeg a2)) a2 M5
  else
    sy_bx (xe_in a2 48) <|
    sy_bs (sy_is 2 r1) <|
    sy_bi (jfX2_burnt r1 (M 50 (Int32.toNatClampNeg a2)) M) fun v2 M1 =>
    sy_bx (xe_in a2 48) <|
    let M3 := sy_upd M1 51 (Int32.toNatClampNeg a2) v2
    let v4 := a2 + 1
    k2 r1 v4 M3
def jfX8_learn_17 (k2 : Nat → Int32 → sy_M → sy_O) : Nat → Nat → Int32 → Int32 → sy_M → sy_O
  | 0, _, _, _, _ => none
  | n + 1, r1, a2, a3, M => jgX8_learn_17 k2 (jfX8_learn_17 k2 n) r1 a2 a3 M
def jgX8_learn_2 (k2 : Nat → Int32 → sy_M → sy_O) (r1 : Nat) (a2 : Int32) (M : sy_M) : sy_O :=
  if a2 < 48 then
    sy_bx (xe_in a2 48) <|
    let M1 := sy_upd M 50 (Int32.toNatClampNeg a2) 0
    jfX8_learn_17 k2 sy_F r1 a2 0 M1
  else
    sy_rv M
def jfX8_learn_2 : Nat → Nat → Int32 → sy_M → sy_O
  | 0, _, _, _ => none
  | n + 1, r1, a2, M => jgX8_learn_2 (jfX8_learn_2 n) r1 a2 M
def jfX8_learn (r1 : Nat) (M : sy_M) : sy_O :=
  jfX8_learn_2 sy_F r1 0 M
def jfX8_needsAt (a1 : Int32) (M : sy_M) : sy_O :=
  if a1 < 0 then
    sy_ri 0 M
  else
    if a1 < 48 then
      sy_bx (xe_in a1 48) <|
      sy_ri (M 51 (Int32.toNatClampNeg a1)) M
    else
      sy_ri 0 M
def jfX8_presentAt (a1 : Int32) (M : sy_M) : sy_O :=
  if a1 < 0 then
    sy_ri 0 M
  else
    if a1 < 48 then
      sy_bx (xe_in a1 48) <|
      sy_ri (M 50 (Int32.toNatClampNeg a1)) M
    else
      sy_ri 0 M
def jfJ9_min_7cf53 (a0 : Int32) (a1 : Int32) (M : sy_M) : sy_O :=
  if a1 < a0 then
    sy_ri a1 M
  else
    sy_ri a0 M
def jfX7_add_107 (r0 : Nat) (s0 : Int32) (t1 : Nat) (M : sy_M) : sy_O :=
  sy_bs (sy_is 6 t1) <|
  let M1 := sy_upd M t1 3 s0
  sy_bs (sy_is 6 r0) <|
  sy_bs (sy_is 6 r0) <|
  sy_bi (jfJ9_min_7cf53 (M1 r0 0) ((M1 r0 2) + 1) M1) fun v3 M2 =>
  sy_bs (sy_is 6 r0) <|
  let M4 := sy_upd M2 r0 2 v3
  sy_rv M4
def jfX7_add_70 (r0 : Nat) (r1 : Nat) (a4 : Int32) (M : sy_M) : sy_O :=
  sy_bs (sy_is 6 r0) <|
  sy_bs (sy_is 2 r1) <|
  sy_bx (xe_in (a4 + 4) (sy_li (r0 + 1))) <|
  let M1 := sy_upd M (r0 + 1) (Int32.toNatClampNeg (a4 + 4)) (M r1 7)
  sy_bs (sy_is 6 r0) <|
  sy_bs (sy_is 6 r0) <|
  if ((M1 r0 3) + 1) < (M1 r0 0) then
    sy_bs (sy_is 6 r0) <|
    jfX7_add_107 r0 ((M1 r0 3) + 1) r0 M1
  else
    jfX7_add_107 r0 0 r0 M1
def jfX7_add (r0 : Nat) (r1 : Nat) (a2 : Int32) (a3 : Int32) (M : sy_M) : sy_O :=
  sy_bs (sy_is 6 r0) <|
  let v1 := ((M r0 3) * 5)
  if v1 < 0 then
    sy_rv M
  else
    sy_bs (sy_is 6 r0) <|
    sy_bb (sy_ia (r0 + 1) || Nat.beq (r0 + 1) 1000000) <|
    if (Nat.toInt32 (sy_len M (r0 + 1))) < (v1 + 5) then
      sy_rv M
    else
      sy_bs (sy_is 6 r0) <|
      sy_bs (sy_is 2 r1) <|
      sy_bx (xe_in v1 (sy_li (r0 + 1))) <|
      let M2 := sy_upd M (r0 + 1) (Int32.toNatClampNeg v1) (M r1 6)
      sy_bs (sy_is 6 r0) <|
      sy_bs (sy_is 2 r1) <|
      sy_bx (xe_in (v1 + 1) (sy_li (r0 + 1))) <|
      let M3 := sy_upd M2 (r0 + 1) (Int32.toNatClampNeg (v1 + 1)) (M2 r1 5)
      sy_bs (sy_is 6 r0) <|
      sy_bx (xe_in (v1 + 2) (sy_li (r0 + 1))) <|
      let M4 := sy_upd M3 (r0 + 1) (Int32.toNatClampNeg (v1 + 2)) a2
      sy_bs (sy_is 6 r0) <|
      sy_bx (xe_in (v1 + 3) (sy_li (r0 + 1))) <|
      let M5 := sy_upd M4 (r0 + 1) (Int32.toNatClampNeg (v1 + 3)) a3
      jfX7_add_70 r0 r1 v1 M5
def jfX2_darken (r0 : Nat) (M : sy_M) : sy_O :=
  sy_bs (sy_is 2 r0) <|
  sy_bi (jfJ9_min_7cf53 99 ((M r0 9) + 1) M) fun v2 M1 =>
  sy_bs (sy_is 2 r0) <|
  let M3 := sy_upd M1 r0 9 v2
  sy_bs (sy_is 2 r0) <|
  if (M3 r0 9) = 1 then
    sy_bs (sy_is 2 r0) <|
    sy_bs (sy_is 6 (r0 + 3)) <|
    sy_bv (jfX7_add (r0 + 3) r0 0 (-1) M3) fun M4 =>
    sy_rv M4
  else
    sy_rv M3
def jfX2_chill_121 (k2 : Nat → Int32 → Int32 → sy_M → sy_O) (r0 : Nat) (a1 : Int32) (a2 : Int32) (M : sy_M) : sy_O :=
  let v1 := a2 + 1
  k2 r0 a1 v1 M
def jfX2_chill_98 (k2 : Nat → Int32 → Int32 → sy_M → sy_O) (r0 : Nat) (a1 : Int32) (a2 : Int32) (a3 : Int32) (a4 : Int32) (a5 : Int32) (M : sy_M) : sy_O :=
  if a3 = 0 then
    jfX2_chill_121 k2 r0 a1 a2 M
  else
    if a4 = (a5 + 1) then
      sy_bs (sy_is 2 r0) <|
      sy_bs (sy_is 6 (r0 + 3)) <|
      sy_bv (jfX7_add (r0 + 3) r0 2 a2 M) fun M1 =>
      jfX2_chill_121 k2 r0 a1 a2 M1
    else
      jfX2_chill_121 k2 r0 a1 a2 M
def jfX2_chill_46 (k2 : Nat → Int32 → Int32 → sy_M → sy_O) (r0 : Nat) (a1 : Int32) (a2 : Int32) (a3 : Int32) (s0 : Int32) (M : sy_M) : sy_O :=
  sy_bs (sy_is 2 r0) <|
  sy_bi (jfX2_get r0 a2 3 M) fun v2 M1 =>
  sy_bs (sy_is 2 r0) <|
  sy_bv (jfX2_set r0 a2 6 s0 M1) fun M3 =>
  if a3 = 0 then
    jfX2_chill_98 k2 r0 a1 a2 a3 s0 v2 M3
  else
    if v2 < s0 then
      sy_bs (sy_is 2 r0) <|
      sy_bi (jfX2_get r0 a2 7 M3) fun v5 M4 =>
      sy_bi (jfJ9_min_7cf53 999 (v5 + 1) M4) fun v7 M6 =>
      sy_bs (sy_is 2 r0) <|
      sy_bv (jfX2_set r0 a2 7 v7 M6) fun M8 =>
      jfX2_chill_98 k2 r0 a1 a2 a3 s0 v2 M8
    else
      jfX2_chill_98 k2 r0 a1 a2 a3 s0 v2 M3
def jfX2_chill_23 (k2 : Nat → Int32 → Int32 → sy_M → sy_O) (r0 : Nat) (a1 : Int32) (a2 : Int32) (s0 : Int32) (M : sy_M) : sy_O :=
  if s0 = 0 then
    jfX2_chill_46 k2 r0 a1 a2 s0 0 M
  else
    sy_bs (sy_is 2 r0) <|
    sy_bi (jfX2_get r0 a2 6 M) fun v2 M1 =>
    sy_bi (jfJ9_min_7cf53 99 (v2 + 1) M1) fun v4 M3 =>
    jfX2_chill_46 k2 r0 a1 a2 s0 v4 M3
def jgX2_chill_2 (k2 : Nat → Int32 → Int32 → sy_M → sy_O) (r0 : Nat) (a1 : Int32) (a2 : Int32) (M : sy_M) : sy_O :=
  sy_bs (sy_is 2 r0) <|
  if a2 < (M r0 3) then
    if ((a1 >>> (a2 &&& 31)) &&& 1) = 0 then
      jfX2_chill_23 k2 r0 a1 a2 0 M
    else
      jfX2_chill_23 k2 r0 a1 a2 1 M
  else
    sy_rv M
def jfX2_chill_2 : Nat → Nat → Int32 → Int32 → sy_M → sy_O
  | 0, _, _, _, _ => none
  | n + 1, r0, a1, a2, M => jgX2_chill_2 (jfX2_chill_2 n) r0 a1 a2 M
def jfX2_chill (r0 : Nat) (a1 : Int32) (M : sy_M) : sy_O :=
  jfX2_chill_2 sy_F r0 a1 0 M
def jfX8_whoGoes_118 (k9 : Nat → Nat → Int32 → Int32 → Int32 → Int32 → sy_M → sy_O) (r1 : Nat) (r2 : Nat) (a3 : Int32) (a4 : Int32) (a5 : Int32) (a6 : Int32) (M : sy_M) : sy_O :=
  let v1 := a6 + 1
  k9 r1 r2 a3 a4 a5 v1 M
def jfX8_whoGoes_110 (k9 : Nat → Nat → Int32 → Int32 → Int32 → Int32 → sy_M → sy_O) (r1 : Nat) (r2 : Nat) (a3 : Int32) (a6 : Int32) (a8 : Int32) (M : sy_M) : sy_O :=
  jfX8_whoGoes_118 k9 r1 r2 a3 a6 a8 a6 M
def jfX8_whoGoes_56 (k9 : Nat → Nat → Int32 → Int32 → Int32 → Int32 → sy_M → sy_O) (r1 : Nat) (r2 : Nat) (a3 : Int32) (a4 : Int32) (a5 : Int32) (a6 : Int32) (s0 : Int32) (M : sy_M) : sy_O :=
  if s0 = 0 then
    jfX8_whoGoes_118 k9 r1 r2 a3 a4 a5 a6 M
  else
    sy_bv (jfX8_tell r1 a6 M) fun M1 =>
    sy_bs (sy_is 4 r2) <|
    sy_bi (jfX4_isRefused r2 M1) fun v3 M2 =>
    if v3 = 0 then
      sy_bs (sy_is 4 r2) <|
      sy_bi (jfX4_turnOf r2 M2) fun v5 M4 =>
      if a4 = (-1) then
        jfX8_whoGoes_110 k9 r1 r2 a3 a6 v5 M4
      else
        if a5 < v5 then
          jfX8_whoGoes_110 k9 r1 r2 a3 a6 v5 M4
        else
          jfX8_whoGoes_118 k9 r1 r2 a3 a4 a5 a6 M4
    else
      jfX8_whoGoes_118 k9 r1 r2 a3 a4 a5 a6 M2
def jfX8_whoGoes_55 (k9 : Nat → Nat → Int32 → Int32 → Int32 → Int32 → sy_M → sy_O) (r1 : Nat) (r2 : Nat) (a3 : Int32) (a4 : Int32) (a5 : Int32) (a6 : Int32) (M : sy_M) : sy_O :=
  jfX8_whoGoes_56 k9 r1 r2 a3 a4 a5 a6 0 M
def jgX8_whoGoes_9 (k9 : Nat → Nat → Int32 → Int32 → Int32 → Int32 → sy_M → sy_O) (r1 : Nat) (r2 : Nat) (a3 : Int32) (a4 : Int32) (a5 : Int32) (a6 : Int32) (M : sy_M) : sy_O :=
  sy_bs (sy_is 2 r1) <|
  if a6 < (M r1 3) then
    if ((a3 >>> (a6 &&& 31)) &&& 1) = 0 then
      jfX8_whoGoes_55 k9 r1 r2 a3 a4 a5 a6 M
    else
      sy_bs (sy_is 2 r1) <|
      sy_bi (jfX2_get r1 a6 5 M) fun v2 M1 =>
      if 0 < v2 then
        sy_bs (sy_is 2 r1) <|
        sy_bi (jfX2_get r1 a6 4 M1) fun v4 M3 =>
        sy_bs (sy_is 2 r1) <|
        if v4 < (M3 r1 9) then
          jfX8_whoGoes_56 k9 r1 r2 a3 a4 a5 a6 1 M3
        else
          jfX8_whoGoes_55 k9 r1 r2 a3 a4 a5 a6 M3
      else
        jfX8_whoGoes_55 k9 r1 r2 a3 a4 a5 a6 M1
  else
    sy_ri a4 M
def jfX8_whoGoes_9 : Nat → Nat → Nat → Int32 → Int32 → Int32 → Int32 → sy_M → sy_O
  | 0, _, _, _, _, _, _, _ => none
  | n + 1, r1, r2, a3, a4, a5, a6, M => jgX8_whoGoes_9 (jfX8_whoGoes_9 n) r1 r2 a3 a4 a5 a6 M
def jfX8_whoGoes (r1 : Nat) (r2 : Nat) (a3 : Int32) (M : sy_M) : sy_O :=
  jfX8_whoGoes_9 sy_F r1 r2 a3 (-1) 0 0 M
def jfX2_turnClock (r0 : Nat) (M : sy_M) : sy_O :=
  sy_bs (sy_is 2 r0) <|
  sy_bs (sy_is 2 r0) <|
  let M1 := sy_upd M r0 5 ((M r0 5) + 1)
  sy_bs (sy_is 2 r0) <|
  if (M1 r0 5) < 48 then
    sy_rv M1
  else
    sy_bs (sy_is 2 r0) <|
    let M2 := sy_upd M1 r0 5 0
    sy_bs (sy_is 2 r0) <|
    sy_bi (jfJ9_min_7cf53 9999 ((M2 r0 6) + 1) M2) fun v4 M3 =>
    sy_bs (sy_is 2 r0) <|
    let M5 := sy_upd M3 r0 6 v4
    sy_rv M5
def jfX2_addGas (r0 : Nat) (a1 : Int32) (M : sy_M) : sy_O :=
  sy_bs (sy_is 2 r0) <|
  sy_bi (jfJ9_min_7cf53 9999 ((M r0 7) + a1) M) fun v2 M1 =>
  sy_bs (sy_is 2 r0) <|
  let M3 := sy_upd M1 r0 7 v2
  sy_rv M3
def jfX2_takeCoin_65 (r0 : Nat) (a1 : Int32) (M : sy_M) : sy_O :=
  sy_bs (sy_is 2 r0) <|
  sy_bs (sy_is 6 (r0 + 3)) <|
  sy_bv (jfX7_add (r0 + 3) r0 1 a1 M) fun M1 =>
  sy_rv M1
def jfX2_takeCoin (r0 : Nat) (a1 : Int32) (M : sy_M) : sy_O :=
  sy_bs (sy_is 2 r0) <|
  sy_bi (jfX2_get r0 a1 5 M) fun v2 M1 =>
  sy_bs (sy_is 2 r0) <|
  sy_bv (jfX2_set r0 a1 5 (v2 - 1) M1) fun M3 =>
  sy_bs (sy_is 2 r0) <|
  sy_bi (jfX2_get r0 a1 8 M3) fun v5 M4 =>
  sy_bi (jfJ9_min_7cf53 999 (v5 + 1) M4) fun v7 M6 =>
  sy_bs (sy_is 2 r0) <|
  sy_bv (jfX2_set r0 a1 8 v7 M6) fun M8 =>
  sy_bs (sy_is 2 r0) <|
  sy_bi (jfJ9_min_7cf53 9999 ((M8 r0 11) + 1) M8) fun v10 M9 =>
  sy_bs (sy_is 2 r0) <|
  let M11 := sy_upd M9 r0 11 v10
  sy_bs (sy_is 2 r0) <|
  sy_bs (sy_is 2 r0) <|
  sy_bv (jfX2_addGas r0 (M11 r0 8) M11) fun M12 =>
  sy_bs (sy_is 2 r0) <|
  let M13 := sy_upd M12 r0 12 a1
  jfX2_takeCoin_65 r0 a1 M13
def jgX2_light_12 (k12 : Nat → Int32 → sy_M → sy_O) (r0 : Nat) (a2 : Int32) (M : sy_M) : sy_O :=
  sy_bs (sy_is 2 r0) <|
  if a2 < (M r0 3) then
    sy_bs (sy_is 2 r0) <|
    if 0 < (M r0 9) then
      sy_bs (sy_is 2 r0) <|
      sy_bv (jfX2_set r0 a2 6 0 M) fun M3 =>
      let v4 := a2 + 1
      k12 r0 v4 M3
    else
      sy_bs (sy_is 2 r0) <|
      let M2 := sy_upd M r0 9 0
      sy_rv M2
  else
    sy_bs (sy_is 2 r0) <|
    let M1 := sy_upd M r0 9 0
    sy_rv M1
def jfX2_light_12 : Nat → Nat → Int32 → sy_M → sy_O
  | 0, _, _, _ => none
  | n + 1, r0, a2, M => jgX2_light_12 (jfX2_light_12 n) r0 a2 M
def jfX2_light (r0 : Nat) (a1 : Int32) (M : sy_M) : sy_O :=
  sy_bs (sy_is 2 r0) <|
  sy_bs (sy_is 2 r0) <|
  let M1 := sy_upd M r0 7 ((M r0 7) - a1)
  jfX2_light_12 sy_F r0 0 M1
def jfX2_draw (r0 : Nat) (M : sy_M) : sy_O :=
  sy_bs (sy_is 2 r0) <|
  sy_bs (sy_is 2 r0) <|
  let M1 := sy_upd M r0 13 ((1103515245 * (M r0 13)) + 12345)
  sy_bs (sy_is 2 r0) <|
  sy_ri (((Int32.toUInt32 (M1 r0 13) >>> (Int32.toUInt32 16 &&& Int32.toUInt32 31)).toInt32) &&& 32767) M1
def jfX8_pass_98 (r1 : Nat) (a5 : Int32) (M : sy_M) : sy_O :=
  sy_bs (sy_is 2 r1) <|
  sy_bv (jfX2_turnClock r1 M) fun M1 =>
  sy_ri a5 M1
def jfX8_pass_34 (r1 : Nat) (r2 : Nat) (a4 : Int32) (M : sy_M) : sy_O :=
  sy_bs (sy_is 2 r1) <|
  if (M r1 7) < a4 then
    sy_bs (sy_is 2 r1) <|
    sy_bi (jfX8_presentAt (M r1 5) M) fun v2 M1 =>
    sy_bs (sy_is 2 r1) <|
    sy_bv (jfX2_darken r1 M1) fun M3 =>
    sy_bs (sy_is 2 r1) <|
    sy_bv (jfX2_chill r1 v2 M3) fun M4 =>
    sy_bi (jfX8_whoGoes r1 r2 v2 M4) fun v6 M5 =>
    if v6 = (-1) then
      jfX8_pass_98 r1 v6 M5
    else
      sy_bs (sy_is 2 r1) <|
      sy_bv (jfX2_takeCoin r1 v6 M5) fun M7 =>
      jfX8_pass_98 r1 v6 M7
  else
    sy_bs (sy_is 2 r1) <|
    sy_bv (jfX2_light r1 a4 M) fun M8 =>
    jfX8_pass_98 r1 (-2) M8
def jfX8_pass (r1 : Nat) (r2 : Nat) (a3 : Int32) (M : sy_M) : sy_O :=
  sy_bs (sy_is 2 r1) <|
  sy_bi (jfX8_needsAt (M r1 5) M) fun v2 M1 =>
  if a3 = 0 then
    jfX8_pass_34 r1 r2 v2 M1
  else
    sy_bs (sy_is 2 r1) <|
    sy_bi (jfX2_draw r1 M1) fun v4 M3 =>
    sy_bs (sy_is 2 r1) <|
    if (v4 - v4 / 100 * 100) < (M3 r1 10) then
      let v5 := (v2 * 2)
      jfX8_pass_34 r1 r2 v5 M3
    else
      jfX8_pass_34 r1 r2 v2 M3
def jfX11_run_33 (k5 : Int32 → Int32 → Int32 → Int32 → sy_M → sy_O) (a1 : Int32) (a2 : Int32) (a3 : Int32) (a4 : Int32) (M : sy_M) : sy_O :=
  let v1 := a4 + 1
  k5 a1 a2 a3 v1 M
def jgX11_run_5 (k5 : Int32 → Int32 → Int32 → Int32 → sy_M → sy_O) (a1 : Int32) (a2 : Int32) (a3 : Int32) (a4 : Int32) (M : sy_M) : sy_O :=
  if a4 < a1 then
    sy_bi (jfX8_pass 19 29 a2 M) fun v2 M1 =>
    if v2 < 0 then
      jfX11_run_33 k5 a1 a2 a3 a4 M1
    else
      let v3 := a3 + 1
      jfX11_run_33 k5 a1 a2 v3 a4 M1
  else
    sy_ri a3 M
def jfX11_run_5 : Nat → Int32 → Int32 → Int32 → Int32 → sy_M → sy_O
  | 0, _, _, _, _, _ => none
  | n + 1, a1, a2, a3, a4, M => jgX11_run_5 (jfX11_run_5 n) a1 a2 a3 a4 M
def jfX11_run (a1 : Int32) (a2 : Int32) (M : sy_M) : sy_O :=
  jfX11_run_5 sy_F a1 a2 0 0 M
def jfX11_griefAhead (a1 : Int32) (M : sy_M) : sy_O :=
  sy_bi (jfX2_get 19 a1 7 M) fun v2 M1 =>
  sy_bi (jfX2_get 9 a1 7 M1) fun v4 M3 =>
  let v5 := (v2 - v4)
  sy_bi (jfX2_get 19 a1 8 M3) fun v7 M6 =>
  sy_bi (jfX2_get 9 a1 8 M6) fun v9 M8 =>
  let v10 := (v7 - v9)
  sy_ri (v5 + (3 * v10)) M8
def jfX11_griefBy (a1 : Int32) (a2 : Int32) (M : sy_M) : sy_O :=
  sy_bv (jfX2_takeOver 19 9 M) fun M1 =>
  sy_bv (jfX2_set 19 a1 4 a2 M1) fun M2 =>
  sy_bi (jfX11_run 48 0 M2) fun v4 M3 =>
  sy_bi (jfX11_griefAhead a1 M3) fun v6 M5 =>
  sy_ri v6 M5
def jfX11_bestWait_40 (k12 : Int32 → Int32 → Int32 → Int32 → sy_M → sy_O) (a1 : Int32) (a2 : Int32) (a3 : Int32) (a4 : Int32) (M : sy_M) : sy_O :=
  let v1 := a4 + 1
  k12 a1 a2 a3 v1 M
end
