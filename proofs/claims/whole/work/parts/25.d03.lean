/-! dev tree alone: the functions -/
noncomputable section
def jfX9_choose_18 (rc : Int32 → Int32 → sy_M → sy_O) (a2 : Int32) (M : sy_M) : sy_O :=
  sy_bv (jfX9_keep a2 M) fun M1 =>
  sy_rv M1
def jfX9_choose_119 (rc : Int32 → Int32 → sy_M → sy_O) (k47 : Int32 → Int32 → Int32 → sy_M → sy_O) (a1 : Int32) (a2 : Int32) (a3 : Int32) (M : sy_M) : sy_O :=
  let v1 := a3 + 1
  k47 a1 a2 v1 M
def jfX9_choose_105 (rc : Int32 → Int32 → sy_M → sy_O) (k47 : Int32 → Int32 → Int32 → sy_M → sy_O) (a1 : Int32) (a2 : Int32) (a3 : Int32) (M : sy_M) : sy_O :=
  sy_bx (xe_in a1 7) <|
  let M1 := sy_upd M 55 (Int32.toNatClampNeg a1) (-1)
  sy_bx (xe_in a3 7) <|
  let M2 := sy_upd M1 55 (Int32.toNatClampNeg a3) (-1)
  jfX9_choose_119 rc k47 a1 a2 a3 M2
def jgX9_choose_47 (rc : Int32 → Int32 → sy_M → sy_O) (k47 : Int32 → Int32 → Int32 → sy_M → sy_O) (a1 : Int32) (a2 : Int32) (a3 : Int32) (M : sy_M) : sy_O :=
  if a3 < (M 53 3) then
    if a3 < 7 then
      sy_bx (xe_in a3 7) <|
      if (M 55 (Int32.toNatClampNeg a3)) = (-1) then
        sy_bx (xe_in a1 7) <|
        let M1 := sy_upd M 55 (Int32.toNatClampNeg a1) a3
        sy_bx (xe_in a3 7) <|
        let M2 := sy_upd M1 55 (Int32.toNatClampNeg a3) a1
        sy_bx (xe_in ((a1 * 7) + a3) 49) <|
        sy_bv (rc (a1 + 1) (a2 + (M2 54 (Int32.toNatClampNeg ((a1 * 7) + a3)))) M2) fun M3 =>
        jfX9_choose_105 rc k47 a1 a2 a3 M3
      else
        jfX9_choose_119 rc k47 a1 a2 a3 M
    else
      sy_rv M
  else
    sy_rv M
def jfX9_choose_47 (rc : Int32 → Int32 → sy_M → sy_O) : Nat → Int32 → Int32 → Int32 → sy_M → sy_O
  | 0, _, _, _, _ => none
  | n + 1, a1, a2, a3, M => jgX9_choose_47 rc (jfX9_choose_47 rc n) a1 a2 a3 M
def jgX9_choose (rc : Int32 → Int32 → sy_M → sy_O) (a1 : Int32) (a2 : Int32) (M : sy_M) : sy_O :=
  if a1 < 0 then
    jfX9_choose_18 rc a2 M
  else
    if a1 < (M 53 3) then
      if a1 < 7 then
        sy_bv (rc (a1 + 1) a2 M) fun M1 =>
        sy_bx (xe_in a1 7) <|
        if (M1 55 (Int32.toNatClampNeg a1)) = (-1) then
          let v2 := (a1 + 1)
          jfX9_choose_47 rc sy_F a1 a2 v2 M1
        else
          sy_rv M1
      else
        jfX9_choose_18 rc a2 M
    else
      jfX9_choose_18 rc a2 M
def jfX9_choose : Nat → Int32 → Int32 → sy_M → sy_O
  | 0, _, _, _ => none
  | n + 1, a1, a2, M => jgX9_choose (jfX9_choose n) a1 a2 M
def jfX9_sharedTicks_24 (k4 : Int32 → Int32 → Int32 → sy_M → sy_O) (a1 : Int32) (a2 : Int32) (a3 : Int32) (M : sy_M) : sy_O :=
  let v1 := a3 + 1
  k4 a1 a2 v1 M
def jgX9_sharedTicks_4 (k4 : Int32 → Int32 → Int32 → sy_M → sy_O) (a1 : Int32) (a2 : Int32) (a3 : Int32) (M : sy_M) : sy_O :=
  if a3 < 48 then
    sy_bi (jfX8_presentAt a3 M) fun v2 M1 =>
    if (v2 &&& a1) = a1 then
      let v3 := a2 + 1
      jfX9_sharedTicks_24 k4 a1 v3 a3 M1
    else
      jfX9_sharedTicks_24 k4 a1 a2 a3 M1
  else
    sy_ri a2 M
def jfX9_sharedTicks_4 : Nat → Int32 → Int32 → Int32 → sy_M → sy_O
  | 0, _, _, _, _ => none
  | n + 1, a1, a2, a3, M => jgX9_sharedTicks_4 (jfX9_sharedTicks_4 n) a1 a2 a3 M
def jfX9_sharedTicks (a1 : Int32) (M : sy_M) : sy_O :=
  jfX9_sharedTicks_4 sy_F a1 0 0 M
def jgX9_solve_44 (k21 : Int32 → sy_M → sy_O) (k44 : Int32 → Int32 → sy_M → sy_O) (a3 : Int32) (a4 : Int32) (M : sy_M) : sy_O :=
  if a4 < 7 then
    sy_bi (jfX9_sharedTicks ((1 <<< (a3 &&& 31)) ||| (1 <<< (a4 &&& 31))) M) fun v3 M2 =>
    sy_bx (xe_in ((a3 * 7) + a4) 49) <|
    let M4 := sy_upd M2 54 (Int32.toNatClampNeg ((a3 * 7) + a4)) v3
    let v5 := a4 + 1
    k44 a3 v5 M4
  else
    let v1 := a3 + 1
    k21 v1 M
def jfX9_solve_44 (k21 : Int32 → sy_M → sy_O) : Nat → Int32 → Int32 → sy_M → sy_O
  | 0, _, _, _ => none
  | n + 1, a3, a4, M => jgX9_solve_44 k21 (jfX9_solve_44 k21 n) a3 a4 M
def jgX9_solve_21 (k21 : Int32 → sy_M → sy_O) (a3 : Int32) (M : sy_M) : sy_O :=
  if a3 < 7 then
    sy_bx (xe_in a3 7) <|
    let M2 := sy_upd M 55 (Int32.toNatClampNeg a3) (-1)
    sy_bx (xe_in a3 7) <|
    let M3 := sy_upd M2 56 (Int32.toNatClampNeg a3) (-1)
    jfX9_solve_44 k21 sy_F a3 0 M3
  else
    sy_bv (jfX9_choose sy_D 0 0 M) fun M1 =>
    sy_rv M1
def jfX9_solve_21 : Nat → Int32 → sy_M → sy_O
  | 0, _, _ => none
  | n + 1, a3, M => jgX9_solve_21 (jfX9_solve_21 n) a3 M
def jfX9_solve (a2 : Int32) (M : sy_M) : sy_O :=
  sy_bi (jfJ9_min_7cf53 7 a2 M) fun v2 M1 =>
  sy_bi (jfJ9_max_7cf53 0 v2 M1) fun v4 M3 =>
  let M5 := sy_upd M3 53 3 v4
  let M6 := sy_upd M5 53 4 (-1)
  jfX9_solve_21 sy_F 0 M6
def jfX9_partnerOf (a1 : Int32) (M : sy_M) : sy_O :=
  if a1 < 0 then
    sy_ri (-1) M
  else
    if a1 < 7 then
      sy_bx (xe_in a1 7) <|
      sy_ri (M 56 (Int32.toNatClampNeg a1)) M
    else
      sy_ri (-1) M
def jfX11_pairs_10 (a1 : Int32) (M : sy_M) : sy_O :=
  sy_bv (jfX8_learn 9 M) fun M1 =>
  sy_bv (jfX9_solve (M1 9 3) M1) fun M2 =>
  if a1 = (-1) then
    sy_ri (M2 53 4) M2
  else
    sy_bi (jfX9_partnerOf a1 M2) fun v4 M3 =>
    sy_ri v4 M3
def jfX11_pairs (a1 : Int32) (M : sy_M) : sy_O :=
  if a1 = (-1) then
    jfX11_pairs_10 a1 M
  else
    sy_bv (jfX11_checkLodger a1 M) fun M1 =>
    jfX11_pairs_10 a1 M1
def jfL_pairs (a1 : Int32) (M : sy_M) : sy_O :=
  sy_hi (jfX11_pairs a1 M) (fun v2 M1 =>
    let M5 := sy_wl M1 132 0 (Int32.toInt64 v2)
    sy_ri 0 M5)
  (fun c3 M4 => if c3 = 22 then sy_ri 1 M4 else none)
def jgX12_lowest_2 (k2 : Int32 → Int32 → sy_M → sy_O) (a0 : Int32) (a1 : Int32) (M : sy_M) : sy_O :=
  sy_bi (jfX12_isOf a0 a1 M) fun v2 M1 =>
  if v2 = 0 then
    let v3 := a1 + 1
    k2 a0 v3 M1
  else
    sy_ri a1 M1
def jfX12_lowest_2 : Nat → Int32 → Int32 → sy_M → sy_O
  | 0, _, _, _ => none
  | n + 1, a0, a1, M => jgX12_lowest_2 (jfX12_lowest_2 n) a0 a1 M
def jfX12_lowest (a0 : Int32) (M : sy_M) : sy_O :=
  jfX12_lowest_2 sy_F a0 0 M
def jfX12_together_38 (k5 : Int32 → Int32 → Int32 → Int32 → sy_M → sy_O) (a1 : Int32) (a2 : Int32) (a4 : Int32) (s0 : Int32) (s1 : Int32) (M : sy_M) : sy_O :=
  let v1 := (s1 + s0)
  let v2 := a4 + 1
  k5 a1 a2 v1 v2 M
def jfX12_together_37 (k5 : Int32 → Int32 → Int32 → Int32 → sy_M → sy_O) (a1 : Int32) (a2 : Int32) (a4 : Int32) (s0 : Int32) (M : sy_M) : sy_O :=
  jfX12_together_38 k5 a1 a2 a4 0 s0 M
def jgX12_together_5 (k5 : Int32 → Int32 → Int32 → Int32 → sy_M → sy_O) (a1 : Int32) (a2 : Int32) (a3 : Int32) (a4 : Int32) (M : sy_M) : sy_O :=
  if a4 < 48 then
    sy_bi (jfX12_atHome a1 a4 M) fun v2 M1 =>
    if v2 = 0 then
      jfX12_together_37 k5 a1 a2 a4 a3 M1
    else
      sy_bi (jfX12_atHome a2 a4 M1) fun v4 M3 =>
      if v4 = 0 then
        jfX12_together_37 k5 a1 a2 a4 a3 M3
      else
        jfX12_together_38 k5 a1 a2 a4 1 a3 M3
  else
    sy_ri a3 M
def jfX12_together_5 : Nat → Int32 → Int32 → Int32 → Int32 → sy_M → sy_O
  | 0, _, _, _, _, _ => none
  | n + 1, a1, a2, a3, a4, M => jgX12_together_5 (jfX12_together_5 n) a1 a2 a3 a4 M
def jfX12_together (a1 : Int32) (a2 : Int32) (M : sy_M) : sy_O :=
  jfX12_together_5 sy_F a1 a2 0 0 M
def jfX12_allBest_103 (k9 : Int32 → sy_M → sy_O) (k47 : Int32 → Int32 → Int32 → Int32 → sy_M → sy_O) (a1 : Int32) (a2 : Int32) (a3 : Int32) (a4 : Int32) (M : sy_M) : sy_O :=
  let v1 := a4 + 1
  k47 a1 a2 a3 v1 M
def jgX12_allBest_47 (k9 : Int32 → sy_M → sy_O) (k47 : Int32 → Int32 → Int32 → Int32 → sy_M → sy_O) (a1 : Int32) (a2 : Int32) (a3 : Int32) (a4 : Int32) (M : sy_M) : sy_O :=
  if a4 < (M 122 3) then
    sy_bi (jfX12_isOf a3 a4 M) fun v3 M2 =>
    if v3 = 0 then
      jfX12_allBest_103 k9 k47 a1 a2 a3 a4 M2
    else
      sy_bx (xe_in a1 128) <|
      sy_bi (jfX12_together a2 a4 M2) fun v5 M4 =>
      sy_bx (xe_in (a3 &&& ((1 <<< (a4 &&& 31)) ^^^ (-1))) 128) <|
      sy_bi (jfX12_greater (M2 130 (Int32.toNatClampNeg a1)) (v5 + (M4 130 (Int32.toNatClampNeg (a3 &&& ((1 <<< (a4 &&& 31)) ^^^ (-1)))))) M4) fun v7 M6 =>
      sy_bx (xe_in a1 128) <|
      let M8 := sy_upd M6 130 (Int32.toNatClampNeg a1) v7
      jfX12_allBest_103 k9 k47 a1 a2 a3 a4 M8
  else
    let v1 := a1 + 1
    k9 v1 M
def jfX12_allBest_47 (k9 : Int32 → sy_M → sy_O) : Nat → Int32 → Int32 → Int32 → Int32 → sy_M → sy_O
  | 0, _, _, _, _, _ => none
  | n + 1, a1, a2, a3, a4, M => jgX12_allBest_47 k9 (jfX12_allBest_47 k9 n) a1 a2 a3 a4 M
def jgX12_allBest_9 (k9 : Int32 → sy_M → sy_O) (a1 : Int32) (M : sy_M) : sy_O :=
  sy_bi (jfX12_all M) fun v2 M1 =>
  if v2 < a1 then
    sy_rv M1
  else
    sy_bi (jfX12_lowest a1 M1) fun v4 M3 =>
    let v5 := (a1 &&& ((1 <<< (v4 &&& 31)) ^^^ (-1)))
    sy_bx (xe_in v5 128) <|
    sy_bx (xe_in a1 128) <|
    let M6 := sy_upd M3 130 (Int32.toNatClampNeg a1) (M3 130 (Int32.toNatClampNeg v5))
    let v7 := (v4 + 1)
    jfX12_allBest_47 k9 sy_F a1 v4 v5 v7 M6
def jfX12_allBest_9 : Nat → Int32 → sy_M → sy_O
  | 0, _, _ => none
  | n + 1, a1, M => jgX12_allBest_9 (jfX12_allBest_9 n) a1 M
def jfX12_allBest (M : sy_M) : sy_O :=
  let M1 := sy_upd M 130 0 0
  jfX12_allBest_9 sy_F 1 M1
def jfX12_pairs_195 (k55 : Int32 → Int32 → sy_M → sy_O) (a1 : Int32) (s0 : Int32) (M : sy_M) : sy_O :=
  k55 a1 s0 M
def jfX12_pairs_159 (k55 : Int32 → Int32 → sy_M → sy_O) (a1 : Int32) (a3 : Int32) (a4 : Int32) (a5 : Int32) (M : sy_M) : sy_O :=
  if a3 = a1 then
    sy_ri a5 M
  else
    if a5 = a1 then
      sy_ri a3 M
    else
      if a5 = (-1) then
        jfX12_pairs_195 k55 a1 a4 M
      else
        jfX12_pairs_195 k55 a1 (a4 &&& ((1 <<< (a5 &&& 31)) ^^^ (-1))) M
def jfX12_pairs_153 (k55 : Int32 → Int32 → sy_M → sy_O) (k86 : Int32 → Int32 → Int32 → Int32 → Int32 → Int32 → sy_M → sy_O) (a1 : Int32) (a2 : Int32) (a3 : Int32) (a4 : Int32) (a5 : Int32) (a6 : Int32) (M : sy_M) : sy_O :=
  let v1 := a6 + (-1)
  k86 a1 a2 a3 a4 a5 v1 M
def jfX12_pairs_149 (k55 : Int32 → Int32 → sy_M → sy_O) (k86 : Int32 → Int32 → Int32 → Int32 → Int32 → Int32 → sy_M → sy_O) (a1 : Int32) (a2 : Int32) (a3 : Int32) (a4 : Int32) (a6 : Int32) (M : sy_M) : sy_O :=
  jfX12_pairs_153 k55 k86 a1 a2 a3 a4 a6 a6 M
def jgX12_pairs_86 (k55 : Int32 → Int32 → sy_M → sy_O) (k86 : Int32 → Int32 → Int32 → Int32 → Int32 → Int32 → sy_M → sy_O) (a1 : Int32) (a2 : Int32) (a3 : Int32) (a4 : Int32) (a5 : Int32) (a6 : Int32) (M : sy_M) : sy_O :=
  if a3 < a6 then
    sy_bx (xe_in a4 128) <|
    sy_bx (xe_in a2 128) <|
    if (M 130 (Int32.toNatClampNeg a4)) = (M 130 (Int32.toNatClampNeg a2)) then
      jfX12_pairs_159 k55 a1 a3 a4 a5 M
    else
      sy_bi (jfX12_isOf a4 a6 M) fun v2 M1 =>
      if v2 = 0 then
        jfX12_pairs_153 k55 k86 a1 a2 a3 a4 a5 a6 M1
      else
        sy_bi (jfX12_together a3 a6 M1) fun v4 M3 =>
        sy_bx (xe_in (a4 &&& ((1 <<< (a6 &&& 31)) ^^^ (-1))) 128) <|
        sy_bx (xe_in a2 128) <|
        if (v4 + (M3 130 (Int32.toNatClampNeg (a4 &&& ((1 <<< (a6 &&& 31)) ^^^ (-1)))))) = (M3 130 (Int32.toNatClampNeg a2)) then
          jfX12_pairs_149 k55 k86 a1 a2 a3 a4 a6 M3
        else
          jfX12_pairs_153 k55 k86 a1 a2 a3 a4 a5 a6 M3
  else
    jfX12_pairs_159 k55 a1 a3 a4 a5 M
def jfX12_pairs_86 (k55 : Int32 → Int32 → sy_M → sy_O) : Nat → Int32 → Int32 → Int32 → Int32 → Int32 → Int32 → sy_M → sy_O
  | 0, _, _, _, _, _, _, _ => none
  | n + 1, a1, a2, a3, a4, a5, a6, M => jgX12_pairs_86 k55 (jfX12_pairs_86 k55 n) a1 a2 a3 a4 a5 a6 M
def jgX12_pairs_55 (k55 : Int32 → Int32 → sy_M → sy_O) (a1 : Int32) (a2 : Int32) (M : sy_M) : sy_O :=
  if a2 = 0 then
    sy_ri (-1) M
  else
    sy_bi (jfX12_lowest a2 M) fun v2 M1 =>
    let v3 := (a2 &&& ((1 <<< (v2 &&& 31)) ^^^ (-1)))
    let v4 := ((M1 122 3) - 1)
    jfX12_pairs_86 k55 sy_F a1 a2 v2 v3 (-1) v4 M1
def jfX12_pairs_55 : Nat → Int32 → Int32 → sy_M → sy_O
  | 0, _, _, _ => none
  | n + 1, a1, a2, M => jgX12_pairs_55 (jfX12_pairs_55 n) a1 a2 M
def jfX12_pairs_19 (a1 : Int32) (s0 : Int32) (M : sy_M) : sy_O :=
  let M1 := sy_upd M 121 0 s0
  if 0 < (M1 121 0) then
    sy_ri 0 M1
  else
    sy_bv (jfX12_allBest M1) fun M2 =>
    if a1 = (-1) then
      sy_bi (jfX12_all M2) fun v6 M5 =>
      sy_bx (xe_in v6 128) <|
      sy_ri (M5 130 (Int32.toNatClampNeg v6)) M5
    else
      sy_bi (jfX12_all M2) fun v4 M3 =>
      jfX12_pairs_55 sy_F a1 v4 M3
def jfX12_pairs_18 (a1 : Int32) (M : sy_M) : sy_O :=
  jfX12_pairs_19 a1 0 M
def jfX12_pairs (a1 : Int32) (M : sy_M) : sy_O :=
  if a1 = (-1) then
    jfX12_pairs_18 a1 M
  else
    sy_bi (jfX12_isLodger a1 M) fun v2 M1 =>
    if v2 = 0 then
      jfX12_pairs_19 a1 1 M1
    else
      jfX12_pairs_18 a1 M1
def jfX11_isKeeping_29 (k2 : Int32 → Int32 → sy_M → sy_O) (a1 : Int32) (a2 : Int32) (M : sy_M) : sy_O :=
  let v1 := a2 + 1
  k2 a1 v1 M
def jgX11_isKeeping_2 (k2 : Int32 → Int32 → sy_M → sy_O) (a1 : Int32) (a2 : Int32) (M : sy_M) : sy_O :=
  if a2 < 48 then
    sy_bi (jfX8_presentAt a2 M) fun v2 M1 =>
    if v2 = 0 then
      jfX11_isKeeping_29 k2 a1 a2 M1
    else
      if (v2 &&& a1) = 0 then
        sy_ri 0 M1
      else
        jfX11_isKeeping_29 k2 a1 a2 M1
  else
    sy_ri 1 M
def jfX11_isKeeping_2 : Nat → Int32 → Int32 → sy_M → sy_O
  | 0, _, _, _ => none
  | n + 1, a1, a2, M => jgX11_isKeeping_2 (jfX11_isKeeping_2 n) a1 a2 M
def jfX11_isKeeping (a1 : Int32) (M : sy_M) : sy_O :=
  jfX11_isKeeping_2 sy_F a1 0 M
def jfX11_keepers_37 (k15 : Int32 → Int32 → sy_M → sy_O) (a1 : Int32) (a2 : Int32) (M : sy_M) : sy_O :=
  let v1 := a2 + 1
  k15 a1 v1 M
def jgX11_keepers_15 (k15 : Int32 → Int32 → sy_M → sy_O) (a1 : Int32) (a2 : Int32) (M : sy_M) : sy_O :=
  sy_bi (jfX11_everybody M) fun v2 M1 =>
  if v2 < a2 then
    sy_ri a1 M1
  else
    sy_bi (jfX11_isKeeping a2 M1) fun v4 M3 =>
    if v4 = 0 then
      jfX11_keepers_37 k15 a1 a2 M3
    else
      sy_bi (jfX11_fewer a1 a2 M3) fun v6 M5 =>
      jfX11_keepers_37 k15 v6 a2 M5
def jfX11_keepers_15 : Nat → Int32 → Int32 → sy_M → sy_O
  | 0, _, _, _ => none
  | n + 1, a1, a2, M => jgX11_keepers_15 (jfX11_keepers_15 n) a1 a2 M
def jfX11_keepers (M : sy_M) : sy_O :=
  sy_bv (jfX8_learn 9 M) fun M1 =>
  jfX11_keepers_15 sy_F (-1) 0 M1
def jfX12_keepers_91 (k9 : Int32 → Int32 → sy_M → sy_O) (a1 : Int32) (a2 : Int32) (M : sy_M) : sy_O :=
  let v1 := a2 + 1
  k9 a1 v1 M
def jfX12_keepers_85 (k9 : Int32 → Int32 → sy_M → sy_O) (a1 : Int32) (a2 : Int32) (a3 : Int32) (M : sy_M) : sy_O :=
  if a3 = 0 then
    jfX12_keepers_91 k9 a1 a2 M
  else
    jfX12_keepers_91 k9 a2 a2 M
def jfX12_keepers_78 (k9 : Int32 → Int32 → sy_M → sy_O) (k42 : Int32 → Int32 → Int32 → Int32 → sy_M → sy_O) (a1 : Int32) (a2 : Int32) (a4 : Int32) (s0 : Int32) (M : sy_M) : sy_O :=
  let v1 := a4 + 1
  k42 a1 a2 s0 v1 M
def jfX12_keepers_73 (k9 : Int32 → Int32 → sy_M → sy_O) (k42 : Int32 → Int32 → Int32 → Int32 → sy_M → sy_O) (a1 : Int32) (a2 : Int32) (a4 : Int32) (M : sy_M) : sy_O :=
  jfX12_keepers_78 k9 k42 a1 a2 a4 1 M
def jgX12_keepers_42 (k9 : Int32 → Int32 → sy_M → sy_O) (k42 : Int32 → Int32 → Int32 → Int32 → sy_M → sy_O) (a1 : Int32) (a2 : Int32) (a3 : Int32) (a4 : Int32) (M : sy_M) : sy_O :=
  if a4 < 48 then
    if a3 = 0 then
      jfX12_keepers_85 k9 a1 a2 a3 M
    else
      sy_bi (jfX12_homeIn a4 M) fun v2 M1 =>
      if v2 = 0 then
        jfX12_keepers_73 k9 k42 a1 a2 a4 M1
      else
        sy_bi (jfX12_homeIn a4 M1) fun v4 M3 =>
        if (v4 &&& a2) = 0 then
          jfX12_keepers_78 k9 k42 a1 a2 a4 0 M3
        else
          jfX12_keepers_73 k9 k42 a1 a2 a4 M3
  else
    jfX12_keepers_85 k9 a1 a2 a3 M
def jfX12_keepers_42 (k9 : Int32 → Int32 → sy_M → sy_O) : Nat → Int32 → Int32 → Int32 → Int32 → sy_M → sy_O
  | 0, _, _, _, _, _ => none
  | n + 1, a1, a2, a3, a4, M => jgX12_keepers_42 k9 (jfX12_keepers_42 k9 n) a1 a2 a3 a4 M
def jfX12_keepers_38 (k9 : Int32 → Int32 → sy_M → sy_O) (a1 : Int32) (a2 : Int32) (s0 : Int32) (M : sy_M) : sy_O :=
  jfX12_keepers_42 k9 sy_F a1 a2 s0 0 M
def jfX12_keepers_33 (k9 : Int32 → Int32 → sy_M → sy_O) (a1 : Int32) (a2 : Int32) (M : sy_M) : sy_O :=
  jfX12_keepers_38 k9 a1 a2 1 M
def jgX12_keepers_9 (k9 : Int32 → Int32 → sy_M → sy_O) (a1 : Int32) (a2 : Int32) (M : sy_M) : sy_O :=
  sy_bi (jfX12_all M) fun v2 M1 =>
  if v2 < a2 then
    sy_ri a1 M1
  else
    if a1 = (-1) then
      jfX12_keepers_33 k9 a1 a2 M1
    else
      sy_bi (jfX12_bits a2 M1) fun v4 M3 =>
      sy_bi (jfX12_bits a1 M3) fun v6 M5 =>
      if v4 < v6 then
        jfX12_keepers_33 k9 a1 a2 M5
      else
        jfX12_keepers_38 k9 a1 a2 0 M5
def jfX12_keepers_9 : Nat → Int32 → Int32 → sy_M → sy_O
  | 0, _, _, _ => none
  | n + 1, a1, a2, M => jgX12_keepers_9 (jfX12_keepers_9 n) a1 a2 M
def jfX12_keepers (M : sy_M) : sy_O :=
  let M1 := sy_upd M 121 0 0
  jfX12_keepers_9 sy_F (-1) 0 M1
def jfX11_carries_44 (k4 : Int32 → Int32 → Int32 → sy_M → sy_O) (a1 : Int32) (a3 : Int32) (s0 : Int32) (s1 : Int32) (M : sy_M) : sy_O :=
  let v1 := (s1 + s0)
  let v2 := a3 + 1
  k4 a1 v1 v2 M
def jgX11_carries_4 (k4 : Int32 → Int32 → Int32 → sy_M → sy_O) (a1 : Int32) (a2 : Int32) (a3 : Int32) (M : sy_M) : sy_O :=
  if a3 < (M 9 3) then
    sy_bi (jfX2_get 9 a3 8 M) fun v2 M1 =>
    if ((a1 >>> (a3 &&& 31)) &&& 1) = 0 then
      jfX11_carries_44 k4 a1 a3 (-v2) a2 M1
    else
      jfX11_carries_44 k4 a1 a3 v2 a2 M1
  else
    if 0 < a2 then
      sy_ri 1 M
    else
      sy_ri 0 M
def jfX11_carries_4 : Nat → Int32 → Int32 → Int32 → sy_M → sy_O
  | 0, _, _, _, _ => none
  | n + 1, a1, a2, a3, M => jgX11_carries_4 (jfX11_carries_4 n) a1 a2 a3 M
def jfX11_carries (a1 : Int32) (M : sy_M) : sy_O :=
  jfX11_carries_4 sy_F a1 0 0 M
def jfX11_kettle (a1 : Int32) (M : sy_M) : sy_O :=
  sy_bi (jfX11_carries a1 M) fun v2 M1 =>
  sy_bb (sy_bo v2) <| sy_ri v2 M1
def jfX12_carries (a1 : Int32) (M : sy_M) : sy_O :=
  sy_bi (jfX12_all M) fun v2 M1 =>
  sy_bi (jfX12_fedOf (a1 &&& v2) M1) fun v4 M3 =>
  sy_bi (jfX12_all M3) fun v6 M5 =>
  sy_bi (jfX12_fedOf v6 M5) fun v8 M7 =>
  if v8 < (2 * v4) then
    sy_ri 1 M7
  else
    sy_ri 0 M7
def jfX12_kettle (a1 : Int32) (M : sy_M) : sy_O :=
  let M1 := sy_upd M 121 0 0
  sy_bi (jfX12_carries a1 M1) fun v3 M2 =>
  sy_bb (sy_bo v3) <| sy_ri v3 M2
def jfX11_swung_50 (k9 : Int32 → Int32 → Int32 → sy_M → sy_O) (a2 : Int32) (a3 : Int32) (a4 : Int32) (M : sy_M) : sy_O :=
  let v1 := a4 + 1
  k9 a2 a3 v1 M
def jgX11_swung_9 (k9 : Int32 → Int32 → Int32 → sy_M → sy_O) (a2 : Int32) (a3 : Int32) (a4 : Int32) (M : sy_M) : sy_O :=
  sy_bi (jfX11_everybody M) fun v2 M1 =>
  if v2 < a4 then
    sy_ri a3 M1
  else
    if (a4 &&& a2) = 0 then
      jfX11_swung_50 k9 a2 a3 a4 M1
    else
      sy_bi (jfX11_carries a4 M1) fun v4 M3 =>
      if v4 = 0 then
        jfX11_swung_50 k9 a2 a3 a4 M3
      else
        sy_bi (jfX11_carries (a4 &&& (a2 ^^^ (-1))) M3) fun v6 M5 =>
        if v6 = 0 then
          let v7 := a3 + 1
          jfX11_swung_50 k9 a2 v7 a4 M5
        else
          jfX11_swung_50 k9 a2 a3 a4 M5
def jfX11_swung_9 : Nat → Int32 → Int32 → Int32 → sy_M → sy_O
  | 0, _, _, _, _ => none
  | n + 1, a2, a3, a4, M => jgX11_swung_9 (jfX11_swung_9 n) a2 a3 a4 M
def jfX11_swung (a1 : Int32) (M : sy_M) : sy_O :=
  let v1 := (1 <<< (a1 &&& 31))
  jfX11_swung_9 sy_F v1 0 0 M
def jfX11_swings (a1 : Int32) (M : sy_M) : sy_O :=
  sy_bv (jfX11_checkLodger a1 M) fun M1 =>
  sy_bi (jfX11_swung a1 M1) fun v3 M2 =>
  sy_ri v3 M2
def jfL_swings (a1 : Int32) (M : sy_M) : sy_O :=
  sy_hi (jfX11_swings a1 M) (fun v2 M1 =>
    let M5 := sy_wl M1 132 0 (Int32.toInt64 v2)
    sy_ri 0 M5)
  (fun c3 M4 => if c3 = 22 then sy_ri 1 M4 else none)
def jfX12_swingsBy (a1 : Int32) (a2 : Int32) (M : sy_M) : sy_O :=
  sy_bi (jfX12_isOf a1 a2 M) fun v2 M1 =>
  if v2 = 0 then
    sy_ri 0 M1
  else
    sy_bi (jfX12_carries a1 M1) fun v4 M3 =>
    if v4 = 0 then
      sy_ri 0 M3
    else
      sy_bi (jfX12_carries (a1 &&& ((1 <<< (a2 &&& 31)) ^^^ (-1))) M3) fun v6 M5 =>
      if v6 = 0 then
        sy_ri 1 M5
      else
        sy_ri 0 M5
def jfX12_swingsOf_27 (k4 : Int32 → Int32 → Int32 → sy_M → sy_O) (a1 : Int32) (a3 : Int32) (s0 : Int32) (s1 : Int32) (M : sy_M) : sy_O :=
  let v1 := (s1 + s0)
  let v2 := a3 + 1
  k4 a1 v1 v2 M
def jgX12_swingsOf_4 (k4 : Int32 → Int32 → Int32 → sy_M → sy_O) (a1 : Int32) (a2 : Int32) (a3 : Int32) (M : sy_M) : sy_O :=
  sy_bi (jfX12_all M) fun v2 M1 =>
  if v2 < a3 then
    sy_ri a2 M1
  else
    sy_bi (jfX12_swingsBy a3 a1 M1) fun v4 M3 =>
    if v4 = 0 then
      jfX12_swingsOf_27 k4 a1 a3 0 a2 M3
    else
      jfX12_swingsOf_27 k4 a1 a3 1 a2 M3
def jfX12_swingsOf_4 : Nat → Int32 → Int32 → Int32 → sy_M → sy_O
  | 0, _, _, _, _ => none
  | n + 1, a1, a2, a3, M => jgX12_swingsOf_4 (jfX12_swingsOf_4 n) a1 a2 a3 M
def jfX12_swingsOf (a1 : Int32) (M : sy_M) : sy_O :=
  jfX12_swingsOf_4 sy_F a1 0 0 M
def jfX12_swings_14 (a1 : Int32) (s0 : Int32) (M : sy_M) : sy_O :=
  let M1 := sy_upd M 121 0 s0
  if 0 < (M1 121 0) then
    sy_ri 0 M1
  else
    sy_bi (jfX12_swingsOf a1 M1) fun v3 M2 =>
    sy_ri v3 M2
def jfX12_swings (a1 : Int32) (M : sy_M) : sy_O :=
  sy_bi (jfX12_isLodger a1 M) fun v2 M1 =>
  if v2 = 0 then
    jfX12_swings_14 a1 1 M1
  else
    jfX12_swings_14 a1 0 M1
def jfX11_needsEach_37 (k2 : Int32 → Int32 → sy_M → sy_O) (a1 : Int32) (a2 : Int32) (M : sy_M) : sy_O :=
  let v1 := a2 + 1
  k2 a1 v1 M
def jgX11_needsEach_2 (k2 : Int32 → Int32 → sy_M → sy_O) (a1 : Int32) (a2 : Int32) (M : sy_M) : sy_O :=
  if a2 < (M 9 3) then
    if ((a1 >>> (a2 &&& 31)) &&& 1) = 0 then
      jfX11_needsEach_37 k2 a1 a2 M
    else
      sy_bi (jfX11_carries (a1 &&& ((1 <<< (a2 &&& 31)) ^^^ (-1))) M) fun v2 M1 =>
      if v2 = 0 then
        jfX11_needsEach_37 k2 a1 a2 M1
      else
        sy_ri 0 M1
  else
    sy_ri 1 M
def jfX11_needsEach_2 : Nat → Int32 → Int32 → sy_M → sy_O
  | 0, _, _, _ => none
  | n + 1, a1, a2, M => jgX11_needsEach_2 (jfX11_needsEach_2 n) a1 a2 M
def jfX11_needsEach (a1 : Int32) (M : sy_M) : sy_O :=
  jfX11_needsEach_2 sy_F a1 0 M
def jfX11_minimal_31 (k4 : Int32 → Int32 → sy_M → sy_O) (a1 : Int32) (a2 : Int32) (M : sy_M) : sy_O :=
  let v1 := a2 + 1
  k4 a1 v1 M
def jgX11_minimal_4 (k4 : Int32 → Int32 → sy_M → sy_O) (a1 : Int32) (a2 : Int32) (M : sy_M) : sy_O :=
  sy_bi (jfX11_everybody M) fun v2 M1 =>
  if v2 < a2 then
    sy_ri a1 M1
  else
    sy_bi (jfX11_carries a2 M1) fun v4 M3 =>
    if v4 = 0 then
      jfX11_minimal_31 k4 a1 a2 M3
    else
      sy_bi (jfX11_needsEach a2 M3) fun v6 M5 =>
      if v6 = 0 then
        jfX11_minimal_31 k4 a1 a2 M5
      else
        let v7 := a1 + 1
        jfX11_minimal_31 k4 v7 a2 M5
def jfX11_minimal_4 : Nat → Int32 → Int32 → sy_M → sy_O
  | 0, _, _, _ => none
  | n + 1, a1, a2, M => jgX11_minimal_4 (jfX11_minimal_4 n) a1 a2 M
def jfX11_minimal (M : sy_M) : sy_O :=
  jfX11_minimal_4 sy_F 0 0 M
def jfX12_isLeast_44 (k8 : Int32 → Int32 → Int32 → sy_M → sy_O) (a1 : Int32) (a3 : Int32) (s0 : Int32) (M : sy_M) : sy_O :=
  let v1 := a3 + 1
  k8 a1 s0 v1 M
def jfX12_isLeast_39 (k8 : Int32 → Int32 → Int32 → sy_M → sy_O) (a1 : Int32) (a3 : Int32) (M : sy_M) : sy_O :=
  jfX12_isLeast_44 k8 a1 a3 1 M
def jgX12_isLeast_8 (k8 : Int32 → Int32 → Int32 → sy_M → sy_O) (a1 : Int32) (a2 : Int32) (a3 : Int32) (M : sy_M) : sy_O :=
  if a3 < (M 122 3) then
    if a2 = 0 then
      sy_bb (sy_bo a2) <| sy_ri a2 M
    else
      sy_bi (jfX12_isOf a1 a3 M) fun v2 M1 =>
      if v2 = 0 then
        jfX12_isLeast_39 k8 a1 a3 M1
      else
        sy_bi (jfX12_swingsBy a1 a3 M1) fun v4 M3 =>
        if v4 = 0 then
          jfX12_isLeast_44 k8 a1 a3 0 M3
        else
          jfX12_isLeast_39 k8 a1 a3 M3
  else
    sy_bb (sy_bo a2) <| sy_ri a2 M
def jfX12_isLeast_8 : Nat → Int32 → Int32 → Int32 → sy_M → sy_O
  | 0, _, _, _, _ => none
  | n + 1, a1, a2, a3, M => jgX12_isLeast_8 (jfX12_isLeast_8 n) a1 a2 a3 M
def jfX12_isLeast (a1 : Int32) (M : sy_M) : sy_O :=
  sy_bi (jfX12_carries a1 M) fun v2 M1 =>
  jfX12_isLeast_8 sy_F a1 v2 0 M1
def jfX12_minimal_31 (k9 : Int32 → Int32 → sy_M → sy_O) (a2 : Int32) (s0 : Int32) (s1 : Int32) (M : sy_M) : sy_O :=
  let v1 := (s1 + s0)
  let v2 := a2 + 1
  k9 v1 v2 M
def jgX12_minimal_9 (k9 : Int32 → Int32 → sy_M → sy_O) (a1 : Int32) (a2 : Int32) (M : sy_M) : sy_O :=
  sy_bi (jfX12_all M) fun v2 M1 =>
  if v2 < a2 then
    sy_ri a1 M1
  else
    sy_bi (jfX12_isLeast a2 M1) fun v4 M3 =>
    if v4 = 0 then
      jfX12_minimal_31 k9 a2 0 a1 M3
    else
      jfX12_minimal_31 k9 a2 1 a1 M3
def jfX12_minimal_9 : Nat → Int32 → Int32 → sy_M → sy_O
  | 0, _, _, _ => none
  | n + 1, a1, a2, M => jgX12_minimal_9 (jfX12_minimal_9 n) a1 a2 M
def jfX12_minimal (M : sy_M) : sy_O :=
  let M1 := sy_upd M 121 0 0
  jfX12_minimal_9 sy_F 0 0 M1
def jfX11_dummies_29 (k4 : Int32 → Int32 → sy_M → sy_O) (a1 : Int32) (a2 : Int32) (M : sy_M) : sy_O :=
  let v1 := a2 + 1
  k4 a1 v1 M
def jgX11_dummies_4 (k4 : Int32 → Int32 → sy_M → sy_O) (a1 : Int32) (a2 : Int32) (M : sy_M) : sy_O :=
  if a2 < (M 9 3) then
    sy_bi (jfX11_swung a2 M) fun v2 M1 =>
    if v2 = 0 then
      let v3 := (a1 ||| (1 <<< (a2 &&& 31)))
      jfX11_dummies_29 k4 v3 a2 M1
    else
      jfX11_dummies_29 k4 a1 a2 M1
  else
    sy_ri a1 M
def jfX11_dummies_4 : Nat → Int32 → Int32 → sy_M → sy_O
  | 0, _, _, _ => none
  | n + 1, a1, a2, M => jgX11_dummies_4 (jfX11_dummies_4 n) a1 a2 M
def jfX11_dummies (M : sy_M) : sy_O :=
  jfX11_dummies_4 sy_F 0 0 M
def jfX12_dummies_35 (k9 : Int32 → Int32 → sy_M → sy_O) (a2 : Int32) (s0 : Int32) (s1 : Int32) (M : sy_M) : sy_O :=
  let v1 := (s1 ||| s0)
  let v2 := a2 + 1
  k9 v1 v2 M
def jgX12_dummies_9 (k9 : Int32 → Int32 → sy_M → sy_O) (a1 : Int32) (a2 : Int32) (M : sy_M) : sy_O :=
  if a2 < (M 122 3) then
    sy_bi (jfX12_swingsOf a2 M) fun v2 M1 =>
    if v2 = 0 then
      jfX12_dummies_35 k9 a2 (1 <<< (a2 &&& 31)) a1 M1
    else
      jfX12_dummies_35 k9 a2 0 a1 M1
  else
    sy_ri a1 M
def jfX12_dummies_9 : Nat → Int32 → Int32 → sy_M → sy_O
  | 0, _, _, _ => none
  | n + 1, a1, a2, M => jgX12_dummies_9 (jfX12_dummies_9 n) a1 a2 M
def jfX12_dummies (M : sy_M) : sy_O :=
  let M1 := sy_upd M 121 0 0
  jfX12_dummies_9 sy_F 0 0 M1
def jfX11_net (a1 : Int32) (a2 : Int32) (M : sy_M) : sy_O :=
  sy_bv (jfX11_checkTwo a1 a2 M) fun M1 =>
  sy_bi (jfX2_owed 9 a1 a2 M1) fun v3 M2 =>
  sy_bi (jfX2_owed 9 a2 a1 M2) fun v5 M4 =>
  sy_bi (jfJ9_max_7cf53 0 (v3 - v5) M4) fun v7 M6 =>
  sy_ri v7 M6
def jfL_net (a1 : Int32) (a2 : Int32) (M : sy_M) : sy_O :=
  sy_hi (jfX11_net a1 a2 M) (fun v2 M1 =>
    let M5 := sy_wl M1 132 0 (Int32.toInt64 v2)
    sy_ri 0 M5)
  (fun c3 M4 => if c3 = 22 then sy_ri 1 M4 else if c3 = 20 then sy_ri 2 M4 else none)
def jfX12_net (a1 : Int32) (a2 : Int32) (M : sy_M) : sy_O :=
  sy_bv (jfX12_areTwo a1 a2 M) fun M1 =>
  if 0 < (M1 121 0) then
    sy_ri 0 M1
  else
    sy_bi (jfX12_owed a1 a2 M1) fun v3 M2 =>
    sy_bi (jfX12_owed a2 a1 M2) fun v5 M4 =>
    sy_bi (jfX12_greater 0 (v3 - v5) M4) fun v7 M6 =>
    sy_ri v7 M6
def jgX2_owesMore_4 (k4 : Nat → Int32 → Int32 → Int32 → sy_M → sy_O) (r0 : Nat) (a1 : Int32) (a2 : Int32) (a3 : Int32) (M : sy_M) : sy_O :=
  sy_bs (sy_is 2 r0) <|
  if a3 < (M r0 3) then
    sy_bs (sy_is 2 r0) <|
    sy_bi (jfX2_owed r0 a1 a3 M) fun v2 M1 =>
    sy_bs (sy_is 2 r0) <|
    sy_bi (jfX2_owed r0 a3 a1 M1) fun v4 M3 =>
    let v5 := (a2 + (v2 - v4))
    let v6 := a3 + 1
    k4 r0 a1 v5 v6 M3
  else
    sy_ri a2 M
def jfX2_owesMore_4 : Nat → Nat → Int32 → Int32 → Int32 → sy_M → sy_O
  | 0, _, _, _, _, _ => none
  | n + 1, r0, a1, a2, a3, M => jgX2_owesMore_4 (jfX2_owesMore_4 n) r0 a1 a2 a3 M
def jfX2_owesMore (r0 : Nat) (a1 : Int32) (M : sy_M) : sy_O :=
  jfX2_owesMore_4 sy_F r0 a1 0 0 M
def jgX11_debt_4 (k4 : Int32 → Int32 → sy_M → sy_O) (a1 : Int32) (a2 : Int32) (M : sy_M) : sy_O :=
  if a2 < (M 9 3) then
    sy_bi (jfX2_owesMore 9 a2 M) fun v2 M1 =>
    sy_bi (jfJ9_max_7cf53 0 v2 M1) fun v4 M3 =>
    let v5 := (a1 + v4)
    let v6 := a2 + 1
    k4 v5 v6 M3
  else
    sy_ri a1 M
def jfX11_debt_4 : Nat → Int32 → Int32 → sy_M → sy_O
  | 0, _, _, _ => none
  | n + 1, a1, a2, M => jgX11_debt_4 (jfX11_debt_4 n) a1 a2 M
def jfX11_debt (M : sy_M) : sy_O :=
  jfX11_debt_4 sy_F 0 0 M
def jgX12_owesOf_4 (k4 : Int32 → Int32 → Int32 → sy_M → sy_O) (a1 : Int32) (a2 : Int32) (a3 : Int32) (M : sy_M) : sy_O :=
  if a3 < (M 122 3) then
    sy_bi (jfX12_owed a1 a3 M) fun v2 M1 =>
    sy_bi (jfX12_owed a3 a1 M1) fun v4 M3 =>
    let v5 := (a2 + (v2 - v4))
    let v6 := a3 + 1
    k4 a1 v5 v6 M3
  else
    sy_ri a2 M
def jfX12_owesOf_4 : Nat → Int32 → Int32 → Int32 → sy_M → sy_O
  | 0, _, _, _, _ => none
  | n + 1, a1, a2, a3, M => jgX12_owesOf_4 (jfX12_owesOf_4 n) a1 a2 a3 M
def jfX12_owesOf (a1 : Int32) (M : sy_M) : sy_O :=
  jfX12_owesOf_4 sy_F a1 0 0 M
def jgX12_debt_9 (k9 : Int32 → Int32 → sy_M → sy_O) (a1 : Int32) (a2 : Int32) (M : sy_M) : sy_O :=
  if a2 < (M 122 3) then
    sy_bi (jfX12_owesOf a2 M) fun v2 M1 =>
    sy_bi (jfX12_greater 0 v2 M1) fun v4 M3 =>
    let v5 := (a1 + v4)
    let v6 := a2 + 1
    k9 v5 v6 M3
  else
    sy_ri a1 M
def jfX12_debt_9 : Nat → Int32 → Int32 → sy_M → sy_O
  | 0, _, _, _ => none
  | n + 1, a1, a2, M => jgX12_debt_9 (jfX12_debt_9 n) a1 a2 M
def jfX12_debt (M : sy_M) : sy_O :=
  let M1 := sy_upd M 121 0 0
  jfX12_debt_9 sy_F 0 0 M1
def jfX2_creditors_29 (k4 : Nat → Int32 → Int32 → Int32 → sy_M → sy_O) (r0 : Nat) (a1 : Int32) (a3 : Int32) (s0 : Int32) (s1 : Int32) (M : sy_M) : sy_O :=
  let v1 := (s1 ||| s0)
  let v2 := a3 + 1
  k4 r0 a1 v1 v2 M
def jgX2_creditors_4 (k4 : Nat → Int32 → Int32 → Int32 → sy_M → sy_O) (r0 : Nat) (a1 : Int32) (a2 : Int32) (a3 : Int32) (M : sy_M) : sy_O :=
  sy_bs (sy_is 2 r0) <|
  if a3 < (M r0 3) then
    sy_bs (sy_is 2 r0) <|
    sy_bi (jfX2_owed r0 a1 a3 M) fun v2 M1 =>
    if 0 < v2 then
      jfX2_creditors_29 k4 r0 a1 a3 (1 <<< (a3 &&& 31)) a2 M1
    else
      jfX2_creditors_29 k4 r0 a1 a3 0 a2 M1
  else
    sy_ri a2 M
def jfX2_creditors_4 : Nat → Nat → Int32 → Int32 → Int32 → sy_M → sy_O
  | 0, _, _, _, _, _ => none
  | n + 1, r0, a1, a2, a3, M => jgX2_creditors_4 (jfX2_creditors_4 n) r0 a1 a2 a3 M
def jfX2_creditors (r0 : Nat) (a1 : Int32) (M : sy_M) : sy_O :=
  jfX2_creditors_4 sy_F r0 a1 0 0 M
def jfX11_ring_63 (k16 : Int32 → Int32 → Int32 → sy_M → sy_O) (k30 : Int32 → Int32 → Int32 → Int32 → sy_M → sy_O) (a1 : Int32) (a2 : Int32) (a3 : Int32) (a4 : Int32) (M : sy_M) : sy_O :=
  let v1 := a4 + 1
  k30 a1 a2 a3 v1 M
def jgX11_ring_30 (k16 : Int32 → Int32 → Int32 → sy_M → sy_O) (k30 : Int32 → Int32 → Int32 → Int32 → sy_M → sy_O) (a1 : Int32) (a2 : Int32) (a3 : Int32) (a4 : Int32) (M : sy_M) : sy_O :=
  if a4 < (M 9 3) then
    if ((a2 >>> (a4 &&& 31)) &&& 1) = 0 then
      jfX11_ring_63 k16 k30 a1 a2 a3 a4 M
    else
      sy_bi (jfX2_creditors 9 a4 M) fun v3 M2 =>
      let v4 := (a2 ||| v3)
      jfX11_ring_63 k16 k30 a1 v4 a3 a4 M2
  else
    let v1 := a3 + 1
    k16 a1 a2 v1 M
def jfX11_ring_30 (k16 : Int32 → Int32 → Int32 → sy_M → sy_O) : Nat → Int32 → Int32 → Int32 → Int32 → sy_M → sy_O
  | 0, _, _, _, _, _ => none
  | n + 1, a1, a2, a3, a4, M => jgX11_ring_30 k16 (jfX11_ring_30 k16 n) a1 a2 a3 a4 M
def jgX11_ring_16 (k16 : Int32 → Int32 → Int32 → sy_M → sy_O) (a1 : Int32) (a2 : Int32) (a3 : Int32) (M : sy_M) : sy_O :=
  if a3 < (M 9 3) then
    jfX11_ring_30 k16 sy_F a1 a2 a3 0 M
  else
    if ((a2 >>> (a1 &&& 31)) &&& 1) = 0 then
      sy_ri 0 M
    else
      sy_ri 1 M
def jfX11_ring_16 : Nat → Int32 → Int32 → Int32 → sy_M → sy_O
  | 0, _, _, _, _ => none
  | n + 1, a1, a2, a3, M => jgX11_ring_16 (jfX11_ring_16 n) a1 a2 a3 M
def jfX11_ring (a1 : Int32) (M : sy_M) : sy_O :=
  sy_bv (jfX11_checkLodger a1 M) fun M1 =>
  sy_bi (jfX2_creditors 9 a1 M1) fun v3 M2 =>
  jfX11_ring_16 sy_F a1 v3 0 M2
def jfL_ring_15 (s0 : Int64) (s1 : Int32) (M : sy_M) : sy_O :=
  sy_bx (xe_in s1 1) <|
  let M1 := sy_wl M 132 (Int32.toNatClampNeg s1) s0
  sy_ri 0 M1
def jfL_ring (a1 : Int32) (M : sy_M) : sy_O :=
  sy_hi (jfX11_ring a1 M) (fun v2 M1 =>
    if v2 = 0 then
      jfL_ring_15 (Int64.ofNat 0) 0 M1
    else
      jfL_ring_15 (Int64.ofNat 1) 0 M1)
  (fun c3 M4 => if c3 = 22 then sy_ri 1 M4 else none)
def jfX12_ring_97 (k35 : Int32 → Int32 → Int32 → Int32 → sy_M → sy_O) (k45 : Int32 → Int32 → Int32 → Int32 → Int32 → sy_M → sy_O) (k59 : Int32 → Int32 → Int32 → Int32 → Int32 → Int32 → sy_M → sy_O) (a1 : Int32) (a2 : Int32) (a3 : Int32) (a4 : Int32) (a5 : Int32) (a6 : Int32) (M : sy_M) : sy_O :=
  let v1 := a6 + 1
  k59 a1 a2 a3 a4 a5 v1 M
def jgX12_ring_59 (k35 : Int32 → Int32 → Int32 → Int32 → sy_M → sy_O) (k45 : Int32 → Int32 → Int32 → Int32 → Int32 → sy_M → sy_O) (k59 : Int32 → Int32 → Int32 → Int32 → Int32 → Int32 → sy_M → sy_O) (a1 : Int32) (a2 : Int32) (a3 : Int32) (a4 : Int32) (a5 : Int32) (a6 : Int32) (M : sy_M) : sy_O :=
  if a6 < (M 122 3) then
    sy_bi (jfX12_isOf a3 a5 M) fun v3 M2 =>
    if v3 = 0 then
      jfX12_ring_97 k35 k45 k59 a1 a2 a3 a4 a5 a6 M2
    else
      sy_bi (jfX12_owed a5 a6 M2) fun v5 M4 =>
      if 0 < v5 then
        let v6 := (a2 ||| (1 <<< (a6 &&& 31)))
        jfX12_ring_97 k35 k45 k59 a1 v6 a3 a4 a5 a6 M4
      else
        jfX12_ring_97 k35 k45 k59 a1 a2 a3 a4 a5 a6 M4
  else
    let v1 := a5 + 1
    k45 a1 a2 a3 a4 v1 M
def jfX12_ring_59 (k35 : Int32 → Int32 → Int32 → Int32 → sy_M → sy_O) (k45 : Int32 → Int32 → Int32 → Int32 → Int32 → sy_M → sy_O) : Nat → Int32 → Int32 → Int32 → Int32 → Int32 → Int32 → sy_M → sy_O
  | 0, _, _, _, _, _, _, _ => none
  | n + 1, a1, a2, a3, a4, a5, a6, M => jgX12_ring_59 k35 k45 (jfX12_ring_59 k35 k45 n) a1 a2 a3 a4 a5 a6 M
def jgX12_ring_45 (k35 : Int32 → Int32 → Int32 → Int32 → sy_M → sy_O) (k45 : Int32 → Int32 → Int32 → Int32 → Int32 → sy_M → sy_O) (a1 : Int32) (a2 : Int32) (a3 : Int32) (a4 : Int32) (a5 : Int32) (M : sy_M) : sy_O :=
  if a5 < (M 122 3) then
    jfX12_ring_59 k35 k45 sy_F a1 a2 a3 a4 a5 0 M
  else
    let v1 := (a3 ||| a2)
    let v2 := a4 + 1
    k35 a1 a2 v1 v2 M
def jfX12_ring_45 (k35 : Int32 → Int32 → Int32 → Int32 → sy_M → sy_O) : Nat → Int32 → Int32 → Int32 → Int32 → Int32 → sy_M → sy_O
  | 0, _, _, _, _, _, _ => none
  | n + 1, a1, a2, a3, a4, a5, M => jgX12_ring_45 k35 (jfX12_ring_45 k35 n) a1 a2 a3 a4 a5 M
def jgX12_ring_35 (k35 : Int32 → Int32 → Int32 → Int32 → sy_M → sy_O) (a1 : Int32) (a2 : Int32) (a3 : Int32) (a4 : Int32) (M : sy_M) : sy_O :=
  if a4 < 7 then
    jfX12_ring_45 k35 sy_F a1 a2 a3 a4 0 M
  else
    sy_bi (jfX12_isOf a2 a1 M) fun v2 M1 =>
    sy_bb (sy_bo v2) <| sy_ri v2 M1
def jfX12_ring_35 : Nat → Int32 → Int32 → Int32 → Int32 → sy_M → sy_O
  | 0, _, _, _, _, _ => none
  | n + 1, a1, a2, a3, a4, M => jgX12_ring_35 (jfX12_ring_35 n) a1 a2 a3 a4 M
def jfX12_ring_14 (a1 : Int32) (s0 : Int32) (M : sy_M) : sy_O :=
  let M1 := sy_upd M 121 0 s0
  if 0 < (M1 121 0) then
    sy_ri 0 M1
  else
    let v2 := (1 <<< (a1 &&& 31))
    jfX12_ring_35 sy_F a1 0 v2 0 M1
def jfX12_ring (a1 : Int32) (M : sy_M) : sy_O :=
  sy_bi (jfX12_isLodger a1 M) fun v2 M1 =>
  if v2 = 0 then
    jfX12_ring_14 a1 1 M1
  else
    jfX12_ring_14 a1 0 M1
def jfX11_poorest_53 (k6 : Int32 → Int32 → Int32 → sy_M → sy_O) (a1 : Int32) (a2 : Int32) (a3 : Int32) (M : sy_M) : sy_O :=
  let v1 := a3 + 1
  k6 a1 a2 v1 M
def jfX11_poorest_48 (k6 : Int32 → Int32 → Int32 → sy_M → sy_O) (a3 : Int32) (a4 : Int32) (M : sy_M) : sy_O :=
  jfX11_poorest_53 k6 a3 a4 a3 M
def jgX11_poorest_6 (k6 : Int32 → Int32 → Int32 → sy_M → sy_O) (a1 : Int32) (a2 : Int32) (a3 : Int32) (M : sy_M) : sy_O :=
  if a3 < (M 9 3) then
    sy_bi (jfX2_get 9 a3 5 M) fun v2 M1 =>
    sy_bi (jfX2_owesMore 9 a3 M1) fun v4 M3 =>
    let v5 := (v2 - v4)
    if a1 = (-1) then
      jfX11_poorest_48 k6 a3 v5 M3
    else
      if v5 < a2 then
        jfX11_poorest_48 k6 a3 v5 M3
      else
        jfX11_poorest_53 k6 a1 a2 a3 M3
  else
    sy_ri a1 M
def jfX11_poorest_6 : Nat → Int32 → Int32 → Int32 → sy_M → sy_O
  | 0, _, _, _, _ => none
  | n + 1, a1, a2, a3, M => jgX11_poorest_6 (jfX11_poorest_6 n) a1 a2 a3 M
def jfX11_poorest (M : sy_M) : sy_O :=
  jfX11_poorest_6 sy_F (-1) 0 0 M
def jfX12_poorest_51 (k13 : Int32 → Int32 → Int32 → sy_M → sy_O) (a1 : Int32) (a2 : Int32) (a3 : Int32) (M : sy_M) : sy_O :=
  let v1 := a3 + 1
  k13 a1 a2 v1 M
def jgX12_poorest_13 (k13 : Int32 → Int32 → Int32 → sy_M → sy_O) (a1 : Int32) (a2 : Int32) (a3 : Int32) (M : sy_M) : sy_O :=
  if a3 < (M 122 3) then
    sy_bi (jfX12_of a3 5 M) fun v2 M1 =>
    sy_bi (jfX12_owesOf a3 M1) fun v4 M3 =>
    let v5 := (v2 - v4)
    if v5 < a2 then
      jfX12_poorest_51 k13 a3 v5 a3 M3
    else
      jfX12_poorest_51 k13 a1 a2 a3 M3
  else
    sy_ri a1 M
def jfX12_poorest_13 : Nat → Int32 → Int32 → Int32 → sy_M → sy_O
  | 0, _, _, _, _ => none
  | n + 1, a1, a2, a3, M => jgX12_poorest_13 (jfX12_poorest_13 n) a1 a2 a3 M
def jfX12_poorest (M : sy_M) : sy_O :=
  let M1 := sy_upd M 121 0 0
  jfX12_poorest_13 sy_F (-1) 2000000000 0 M1
def jfX11_gain (a1 : Int32) (a2 : Int32) (a3 : Int32) (a4 : Int32) (M : sy_M) : sy_O :=
  if a2 = 0 then
    if a3 = 0 then
      sy_ri (a4 - 2) M
    else
      sy_ri (a4 - 4) M
  else
    if a3 = 0 then
      sy_ri a4 M
    else
      sy_bi (jfX2_get 9 a1 6 M) fun v2 M1 =>
      sy_ri (-(v2 + 1)) M1
def jfX11_isContent (a1 : Int32) (a2 : Int32) (a3 : Int32) (a4 : Int32) (M : sy_M) : sy_O :=
  sy_bi (jfX11_gain a1 a2 a3 a4 M) fun v2 M1 =>
  sy_bi (jfX11_gain a1 (1 - a2) a3 a4 M1) fun v4 M3 =>
  if v2 < v4 then
    sy_ri 0 M3
  else
    sy_ri 1 M3
def jfX11_rests_103 (k50 : Int32 → Int32 → Int32 → Int32 → Int32 → sy_M → sy_O) (a1 : Int32) (a2 : Int32) (a3 : Int32) (a4 : Int32) (a5 : Int32) (M : sy_M) : sy_O :=
  let v1 := a5 + 1
  k50 a1 a2 a3 a4 v1 M
def jgX11_rests_50 (k50 : Int32 → Int32 → Int32 → Int32 → Int32 → sy_M → sy_O) (a1 : Int32) (a2 : Int32) (a3 : Int32) (a4 : Int32) (a5 : Int32) (M : sy_M) : sy_O :=
  if a5 < 4 then
    let v1 := (a5 >>> (1 &&& 31))
    let v2 := (a5 &&& 1)
    sy_bi (jfX11_isContent a1 v1 v2 a3 M) fun v4 M3 =>
    if v4 = 0 then
      jfX11_rests_103 k50 a1 a2 a3 a4 a5 M3
    else
      sy_bi (jfX11_isContent a2 v2 v1 a3 M3) fun v6 M5 =>
      if v6 = 0 then
        jfX11_rests_103 k50 a1 a2 a3 a4 a5 M5
      else
        let v7 := (a4 ||| (1 <<< (a5 &&& 31)))
        jfX11_rests_103 k50 a1 a2 a3 v7 a5 M5
  else
    sy_ri a4 M
def jfX11_rests_50 : Nat → Int32 → Int32 → Int32 → Int32 → Int32 → sy_M → sy_O
  | 0, _, _, _, _, _, _ => none
  | n + 1, a1, a2, a3, a4, a5, M => jgX11_rests_50 (jfX11_rests_50 n) a1 a2 a3 a4 a5 M
def jfX11_rests (a1 : Int32) (a2 : Int32) (M : sy_M) : sy_O :=
  sy_bv (jfX11_checkTwo a1 a2 M) fun M1 =>
  sy_bv (jfX8_learn 9 M1) fun M2 =>
  sy_bi (jfX8_needsAt (M2 9 5) M2) fun v4 M3 =>
  sy_bi (jfJ9_max_7cf53 1 v4 M3) fun v6 M5 =>
  if v6 = 0 then none else
  let v7 := ((M2 9 8) / v6)
  jfX11_rests_50 sy_F a1 a2 v7 0 0 M5
def jfL_rests (a1 : Int32) (a2 : Int32) (M : sy_M) : sy_O :=
  sy_hi (jfX11_rests a1 a2 M) (fun v2 M1 =>
    let M5 := sy_wl M1 132 0 (Int32.toInt64 v2)
    sy_ri 0 M5)
  (fun c3 M4 => if c3 = 22 then sy_ri 1 M4 else if c3 = 20 then sy_ri 2 M4 else none)
def jfX12_hasBy (a1 : Int32) (a2 : Int32) (a3 : Int32) (M : sy_M) : sy_O :=
  sy_bi (jfX12_needsIn (M 122 4) M) fun v2 M1 =>
  sy_bi (jfX12_greater 1 v2 M1) fun v4 M3 =>
  if v4 = 0 then none else
  let v5 := ((M 122 7) / v4)
  if a2 = 0 then
    if a3 = 0 then
      sy_ri (v5 - 2) M3
    else
      sy_ri (v5 - 4) M3
  else
    if a3 = 0 then
      sy_ri v5 M3
    else
      sy_bi (jfX12_of a1 6 M3) fun v7 M6 =>
      sy_ri ((-v7) - 1) M6
def jfX12_rests_91 (k20 : Int32 → Int32 → Int32 → Int32 → sy_M → sy_O) (a1 : Int32) (a2 : Int32) (a3 : Int32) (a4 : Int32) (M : sy_M) : sy_O :=
  let v1 := a4 + 1
  k20 a1 a2 a3 v1 M
def jfX12_rests_84 (k20 : Int32 → Int32 → Int32 → Int32 → sy_M → sy_O) (a1 : Int32) (a2 : Int32) (a3 : Int32) (a4 : Int32) (M : sy_M) : sy_O :=
  let v1 := (a3 ||| (1 <<< (a4 &&& 31)))
  jfX12_rests_91 k20 a1 a2 v1 a4 M
def jgX12_rests_20 (k20 : Int32 → Int32 → Int32 → Int32 → sy_M → sy_O) (a1 : Int32) (a2 : Int32) (a3 : Int32) (a4 : Int32) (M : sy_M) : sy_O :=
  if a4 < 4 then
    let v1 := (a4 / 2)
    let v2 := (a4 - a4 / 2 * 2)
    sy_bi (jfX12_hasBy a1 (1 - v1) v2 M) fun v4 M3 =>
    sy_bi (jfX12_hasBy a1 v1 v2 M3) fun v6 M5 =>
    if v6 < v4 then
      jfX12_rests_91 k20 a1 a2 a3 a4 M5
    else
      sy_bi (jfX12_hasBy a2 (1 - v2) v1 M5) fun v8 M7 =>
      sy_bi (jfX12_hasBy a2 v2 v1 M7) fun v10 M9 =>
      if v10 < v8 then
        jfX12_rests_91 k20 a1 a2 a3 a4 M9
      else
        jfX12_rests_84 k20 a1 a2 a3 a4 M9
  else
    sy_ri a3 M
def jfX12_rests_20 : Nat → Int32 → Int32 → Int32 → Int32 → sy_M → sy_O
  | 0, _, _, _, _, _ => none
  | n + 1, a1, a2, a3, a4, M => jgX12_rests_20 (jfX12_rests_20 n) a1 a2 a3 a4 M
def jfX12_rests (a1 : Int32) (a2 : Int32) (M : sy_M) : sy_O :=
  sy_bv (jfX12_areTwo a1 a2 M) fun M1 =>
  if 0 < (M1 121 0) then
    sy_ri 0 M1
  else
    jfX12_rests_20 sy_F a1 a2 0 0 M1
def jgX11_odds_149 (k149 : Int64 → Int64 → Int32 → sy_M → sy_O) (a3 : Int64) (a5 : Int64) (a7 : Int32) (M : sy_M) : sy_O :=
  if 6 < a7 then
    if 0 < (lg_cmp a3 (Int64.ofNat 0)) then
      if a3 = 0 then none else
      sy_ri (Int64.toInt32 ((a5 * (Int64.ofInt 10000)) / a3)) M
    else
      sy_ri 0 M
  else
    sy_bx (xe_in a7 7) <|
    let v1 := (a5 + (sy_rl M 119 (Int32.toNatClampNeg a7)))
    let v2 := a7 + 1
    k149 a3 v1 v2 M
def jfX11_odds_149 : Nat → Int64 → Int64 → Int32 → sy_M → sy_O
  | 0, _, _, _, _ => none
  | n + 1, a3, a5, a7, M => jgX11_odds_149 (jfX11_odds_149 n) a3 a5 a7 M
def jfX11_odds_100 (k52 : Int32 → Int32 → Int64 → Int32 → sy_M → sy_O) (k68 : Int32 → Int32 → Int64 → Int32 → Int32 → sy_M → sy_O) (a1 : Int32) (a2 : Int32) (a3 : Int64) (a5 : Int32) (a6 : Int32) (s0 : Int64) (M : sy_M) : sy_O :=
  sy_bx (xe_in a6 7) <|
  sy_bx (xe_in a6 7) <|
  let M1 := sy_wl M 119 (Int32.toNatClampNeg a6) (((sy_rl M 119 (Int32.toNatClampNeg a6)) * (Int32.toInt64 (100 - (M 9 10)))) + s0)
  let v2 := a6 + (-1)
  k68 a1 a2 a3 a5 v2 M1
def jgX11_odds_68 (k52 : Int32 → Int32 → Int64 → Int32 → sy_M → sy_O) (k68 : Int32 → Int32 → Int64 → Int32 → Int32 → sy_M → sy_O) (a1 : Int32) (a2 : Int32) (a3 : Int64) (a5 : Int32) (a6 : Int32) (M : sy_M) : sy_O :=
  if a6 < 0 then
    let v1 := a5 + 1
    k52 a1 a2 a3 v1 M
  else
    if 0 < a6 then
      sy_bx (xe_in (a6 - 1) 7) <|
      jfX11_odds_100 k52 k68 a1 a2 a3 a5 a6 ((sy_rl M 119 (Int32.toNatClampNeg (a6 - 1))) * (Int32.toInt64 (M 9 10))) M
    else
      jfX11_odds_100 k52 k68 a1 a2 a3 a5 a6 (Int64.ofNat 0) M
def jfX11_odds_68 (k52 : Int32 → Int32 → Int64 → Int32 → sy_M → sy_O) : Nat → Int32 → Int32 → Int64 → Int32 → Int32 → sy_M → sy_O
  | 0, _, _, _, _, _, _ => none
  | n + 1, a1, a2, a3, a5, a6, M => jgX11_odds_68 k52 (jfX11_odds_68 k52 n) a1 a2 a3 a5 a6 M
def jgX11_odds_52 (k52 : Int32 → Int32 → Int64 → Int32 → sy_M → sy_O) (a1 : Int32) (a2 : Int32) (a3 : Int64) (a5 : Int32) (M : sy_M) : sy_O :=
  if a5 < a1 then
    let v2 := (a3 * (Int64.ofInt 100))
    jfX11_odds_68 k52 sy_F a1 a2 v2 a5 6 M
  else
    let v1 := (Int64.ofNat 0)
    jfX11_odds_149 sy_F a3 v1 a2 M
def jfX11_odds_52 : Nat → Int32 → Int32 → Int64 → Int32 → sy_M → sy_O
  | 0, _, _, _, _, _ => none
  | n + 1, a1, a2, a3, a5, M => jgX11_odds_52 (jfX11_odds_52 n) a1 a2 a3 a5 M
def jfX11_odds_42 (k19 : Int32 → Int32 → Int64 → Int32 → sy_M → sy_O) (a1 : Int32) (a2 : Int32) (a3 : Int64) (a5 : Int32) (s0 : Int64) (s1 : Int32) (M : sy_M) : sy_O :=
  sy_bx (xe_in s1 7) <|
  let M1 := sy_wl M 119 (Int32.toNatClampNeg s1) s0
  let v2 := a5 + 1
  k19 a1 a2 a3 v2 M1
def jgX11_odds_19 (k19 : Int32 → Int32 → Int64 → Int32 → sy_M → sy_O) (a1 : Int32) (a2 : Int32) (a3 : Int64) (a5 : Int32) (M : sy_M) : sy_O :=
  if 6 < a5 then
    jfX11_odds_52 sy_F a1 a2 a3 0 M
  else
    if a5 = 0 then
      jfX11_odds_42 k19 a1 a2 a3 a5 (Int64.ofNat 1) a5 M
    else
      jfX11_odds_42 k19 a1 a2 a3 a5 (Int64.ofNat 0) a5 M
def jfX11_odds_19 : Nat → Int32 → Int32 → Int64 → Int32 → sy_M → sy_O
  | 0, _, _, _, _, _ => none
  | n + 1, a1, a2, a3, a5, M => jgX11_odds_19 (jfX11_odds_19 n) a1 a2 a3 a5 M
def jfX11_odds (a1 : Int32) (a2 : Int32) (M : sy_M) : sy_O :=
  sy_bv (jfX11_checkRange a1 0 6 M) fun M1 =>
  sy_bv (jfX11_checkRange a2 0 6 M1) fun M2 =>
  let v3 := (Int64.ofNat 1)
  jfX11_odds_19 sy_F a1 a2 v3 0 M2
def jfL_odds (a1 : Int32) (a2 : Int32) (M : sy_M) : sy_O :=
  sy_hi (jfX11_odds a1 a2 M) (fun v2 M1 =>
    let M5 := sy_wl M1 132 0 (Int32.toInt64 v2)
    sy_ri 0 M5)
  (fun c3 M4 => if c3 = 20 then sy_ri 1 M4 else none)
def jfX12_odds_136 (k69 : Int32 → Int32 → Int64 → Int64 → Int32 → sy_M → sy_O) (k96 : Int32 → Int32 → Int64 → Int64 → Int32 → Int64 → Int32 → sy_M → sy_O) (a1 : Int32) (a2 : Int32) (a3 : Int64) (a5 : Int64) (a7 : Int32) (a10 : Int32) (s0 : Int64) (s1 : Int64) (M : sy_M) : sy_O :=
  let v1 := (s1 * s0)
  let v2 := a10 + 1
  k96 a1 a2 a3 a5 a7 v1 v2 M
def jgX12_odds_96 (k69 : Int32 → Int32 → Int64 → Int64 → Int32 → sy_M → sy_O) (k96 : Int32 → Int32 → Int64 → Int64 → Int32 → Int64 → Int32 → sy_M → sy_O) (a1 : Int32) (a2 : Int32) (a3 : Int64) (a5 : Int64) (a7 : Int32) (a8 : Int64) (a10 : Int32) (M : sy_M) : sy_O :=
  if a10 < a1 then
    sy_bi (jfX12_isOf a7 a10 M) fun v4 M3 =>
    if v4 = 0 then
      jfX12_odds_136 k69 k96 a1 a2 a3 a5 a7 a10 (Int32.toInt64 (100 - (M3 122 9))) a8 M3
    else
      jfX12_odds_136 k69 k96 a1 a2 a3 a5 a7 a10 (Int32.toInt64 (M3 122 9)) a8 M3
  else
    let v1 := (a3 + a8)
    let v2 := a7 + 1
    k69 a1 a2 v1 a5 v2 M
def jfX12_odds_96 (k69 : Int32 → Int32 → Int64 → Int64 → Int32 → sy_M → sy_O) : Nat → Int32 → Int32 → Int64 → Int64 → Int32 → Int64 → Int32 → sy_M → sy_O
  | 0, _, _, _, _, _, _, _, _ => none
  | n + 1, a1, a2, a3, a5, a7, a8, a10, M => jgX12_odds_96 k69 (jfX12_odds_96 k69 n) a1 a2 a3 a5 a7 a8 a10 M
def jfX12_odds_91 (k69 : Int32 → Int32 → Int64 → Int64 → Int32 → sy_M → sy_O) (a1 : Int32) (a2 : Int32) (a3 : Int64) (a5 : Int64) (a7 : Int32) (s0 : Int64) (M : sy_M) : sy_O :=
  jfX12_odds_96 k69 sy_F a1 a2 a3 a5 a7 s0 0 M
def jgX12_odds_69 (k69 : Int32 → Int32 → Int64 → Int64 → Int32 → sy_M → sy_O) (a1 : Int32) (a2 : Int32) (a3 : Int64) (a5 : Int64) (a7 : Int32) (M : sy_M) : sy_O :=
  if a7 < (1 <<< (a1 &&& 31)) then
    sy_bi (jfX12_bits a7 M) fun v2 M1 =>
    if v2 < a2 then
      jfX12_odds_91 k69 a1 a2 a3 a5 a7 (Int64.ofNat 0) M1
    else
      jfX12_odds_91 k69 a1 a2 a3 a5 a7 (Int64.ofNat 1) M1
  else
    if a5 = 0 then none else
    sy_ri (Int64.toInt32 (((Int64.ofInt 10000) * a3) / a5)) M
def jfX12_odds_69 : Nat → Int32 → Int32 → Int64 → Int64 → Int32 → sy_M → sy_O
  | 0, _, _, _, _, _, _ => none
  | n + 1, a1, a2, a3, a5, a7, M => jgX12_odds_69 (jfX12_odds_69 n) a1 a2 a3 a5 a7 M
def jgX12_odds_46 (k46 : Int32 → Int32 → Int64 → Int64 → Int32 → sy_M → sy_O) (a1 : Int32) (a2 : Int32) (a3 : Int64) (a5 : Int64) (a7 : Int32) (M : sy_M) : sy_O :=
  if a7 < a1 then
    let v1 := (a5 * (Int64.ofInt 100))
    let v2 := a7 + 1
    k46 a1 a2 a3 v1 v2 M
  else
    jfX12_odds_69 sy_F a1 a2 a3 a5 0 M
def jfX12_odds_46 : Nat → Int32 → Int32 → Int64 → Int64 → Int32 → sy_M → sy_O
  | 0, _, _, _, _, _, _ => none
  | n + 1, a1, a2, a3, a5, a7, M => jgX12_odds_46 (jfX12_odds_46 n) a1 a2 a3 a5 a7 M
def jfX12_odds_26 (a1 : Int32) (a2 : Int32) (s0 : Int32) (M : sy_M) : sy_O :=
  let M1 := sy_upd M 121 0 s0
  if 0 < (M1 121 0) then
    sy_ri 0 M1
  else
    let v2 := (Int64.ofNat 0)
    let v3 := (Int64.ofNat 1)
    jfX12_odds_46 sy_F a1 a2 v2 v3 0 M1
def jfX12_odds_21 (a1 : Int32) (a2 : Int32) (M : sy_M) : sy_O :=
  jfX12_odds_26 a1 a2 1 M
def jfX12_odds (a1 : Int32) (a2 : Int32) (M : sy_M) : sy_O :=
  sy_bi (jfX12_isIn a1 0 6 M) fun v2 M1 =>
  if v2 = 0 then
    jfX12_odds_21 a1 a2 M1
  else
    sy_bi (jfX12_isIn a2 0 6 M1) fun v4 M3 =>
    if v4 = 0 then
      jfX12_odds_21 a1 a2 M3
    else
      jfX12_odds_26 a1 a2 0 M3
def jfX11_busy_42 (k15 : Int32 → Int32 → sy_M → sy_O) (a1 : Int32) (a2 : Int32) (M : sy_M) : sy_O :=
  let v1 := a2 + 1
  k15 a1 v1 M
def jgX11_busy_15 (k15 : Int32 → Int32 → sy_M → sy_O) (a1 : Int32) (a2 : Int32) (M : sy_M) : sy_O :=
  if a2 < 48 then
    sy_bi (jfX8_needsAt a2 M) fun v2 M1 =>
    sy_bi (jfX8_needsAt a1 M1) fun v4 M3 =>
    if v4 < v2 then
      jfX11_busy_42 k15 a2 a2 M3
    else
      jfX11_busy_42 k15 a1 a2 M3
  else
    sy_ri a1 M
def jfX11_busy_15 : Nat → Int32 → Int32 → sy_M → sy_O
  | 0, _, _, _ => none
  | n + 1, a1, a2, M => jgX11_busy_15 (jfX11_busy_15 n) a1 a2 M
def jfX11_busy (M : sy_M) : sy_O :=
  sy_bv (jfX8_learn 9 M) fun M1 =>
  jfX11_busy_15 sy_F 0 1 M1
def jfX12_busy_30 (k9 : Int32 → Int32 → sy_M → sy_O) (a1 : Int32) (a2 : Int32) (M : sy_M) : sy_O :=
  let v1 := a2 + 1
  k9 a1 v1 M
def jgX12_busy_9 (k9 : Int32 → Int32 → sy_M → sy_O) (a1 : Int32) (a2 : Int32) (M : sy_M) : sy_O :=
  if a2 < 48 then
    sy_bi (jfX12_needsIn a2 M) fun v2 M1 =>
    sy_bi (jfX12_needsIn a1 M1) fun v4 M3 =>
    if v4 < v2 then
      jfX12_busy_30 k9 a2 a2 M3
    else
      jfX12_busy_30 k9 a1 a2 M3
  else
    sy_ri a1 M
def jfX12_busy_9 : Nat → Int32 → Int32 → sy_M → sy_O
  | 0, _, _, _ => none
  | n + 1, a1, a2, M => jgX12_busy_9 (jfX12_busy_9 n) a1 a2 M
def jfX12_busy (M : sy_M) : sy_O :=
  let M1 := sy_upd M 121 0 0
  jfX12_busy_9 sy_F 0 1 M1
def jfX11_alone_35 (k15 : Int32 → Int32 → sy_M → sy_O) (a1 : Int32) (a2 : Int32) (M : sy_M) : sy_O :=
  let v1 := a2 + 1
  k15 a1 v1 M
def jgX11_alone_15 (k15 : Int32 → Int32 → sy_M → sy_O) (a1 : Int32) (a2 : Int32) (M : sy_M) : sy_O :=
  if a2 < 48 then
    sy_bi (jfX8_presentAt a2 M) fun v2 M1 =>
    if v2 = 0 then
      let v3 := a1 + 1
      jfX11_alone_35 k15 v3 a2 M1
    else
      jfX11_alone_35 k15 a1 a2 M1
  else
    sy_ri a1 M
def jfX11_alone_15 : Nat → Int32 → Int32 → sy_M → sy_O
  | 0, _, _, _ => none
  | n + 1, a1, a2, M => jgX11_alone_15 (jfX11_alone_15 n) a1 a2 M
def jfX11_alone (M : sy_M) : sy_O :=
  sy_bv (jfX8_learn 9 M) fun M1 =>
  jfX11_alone_15 sy_F 0 0 M1
def jfX12_alone_29 (k9 : Int32 → Int32 → sy_M → sy_O) (a2 : Int32) (s0 : Int32) (s1 : Int32) (M : sy_M) : sy_O :=
  let v1 := (s1 + s0)
  let v2 := a2 + 1
  k9 v1 v2 M
def jgX12_alone_9 (k9 : Int32 → Int32 → sy_M → sy_O) (a1 : Int32) (a2 : Int32) (M : sy_M) : sy_O :=
  if a2 < 48 then
    sy_bi (jfX12_homeIn a2 M) fun v2 M1 =>
    if v2 = 0 then
      jfX12_alone_29 k9 a2 1 a1 M1
    else
      jfX12_alone_29 k9 a2 0 a1 M1
  else
    sy_ri a1 M
def jfX12_alone_9 : Nat → Int32 → Int32 → sy_M → sy_O
  | 0, _, _, _ => none
  | n + 1, a1, a2, M => jgX12_alone_9 (jfX12_alone_9 n) a1 a2 M
def jfX12_alone (M : sy_M) : sy_O :=
  let M1 := sy_upd M 121 0 0
  jfX12_alone_9 sy_F 0 0 M1
def jfX11_miser_77 (k4 : Int32 → Int32 → sy_M → sy_O) (a1 : Int32) (a2 : Int32) (M : sy_M) : sy_O :=
  let v1 := a2 + 1
  k4 a1 v1 M
def jfX11_miser_75 (k4 : Int32 → Int32 → sy_M → sy_O) (a2 : Int32) (M : sy_M) : sy_O :=
  jfX11_miser_77 k4 a2 a2 M
def jgX11_miser_4 (k4 : Int32 → Int32 → sy_M → sy_O) (a1 : Int32) (a2 : Int32) (M : sy_M) : sy_O :=
  if a2 < (M 9 3) then
    sy_bi (jfX2_isIn 9 a2 (M 9 5) M) fun v2 M1 =>
    if v2 = 0 then
      jfX11_miser_77 k4 a1 a2 M1
    else
      sy_bi (jfX2_get 9 a2 5 M1) fun v4 M3 =>
      if v4 < 1 then
        jfX11_miser_77 k4 a1 a2 M3
      else
        if a1 = (-1) then
          jfX11_miser_75 k4 a2 M3
        else
          sy_bi (jfX2_get 9 a2 4 M3) fun v6 M5 =>
          sy_bi (jfX2_get 9 a1 4 M5) fun v8 M7 =>
          if v8 < v6 then
            jfX11_miser_75 k4 a2 M7
          else
            jfX11_miser_77 k4 a1 a2 M7
  else
    sy_ri a1 M
def jfX11_miser_4 : Nat → Int32 → Int32 → sy_M → sy_O
  | 0, _, _, _ => none
  | n + 1, a1, a2, M => jgX11_miser_4 (jfX11_miser_4 n) a1 a2 M
def jfX11_miser (M : sy_M) : sy_O :=
  jfX11_miser_4 sy_F (-1) 0 M
def jfX12_miser_69 (k20 : Int32 → Int32 → Int32 → sy_M → sy_O) (a1 : Int32) (a2 : Int32) (a3 : Int32) (M : sy_M) : sy_O :=
  let v1 := a3 + 1
  k20 a1 a2 v1 M
def jfX12_miser_67 (k20 : Int32 → Int32 → Int32 → sy_M → sy_O) (a1 : Int32) (a3 : Int32) (M : sy_M) : sy_O :=
  jfX12_miser_69 k20 a1 a3 a3 M
def jgX12_miser_20 (k20 : Int32 → Int32 → Int32 → sy_M → sy_O) (a1 : Int32) (a2 : Int32) (a3 : Int32) (M : sy_M) : sy_O :=
  if a3 < (M 122 3) then
    sy_bi (jfX12_isOf a1 a3 M) fun v2 M1 =>
    if v2 = 0 then
      jfX12_miser_69 k20 a1 a2 a3 M1
    else
      sy_bi (jfX12_of a3 5 M1) fun v4 M3 =>
      if 0 < v4 then
        if a2 = (-1) then
          jfX12_miser_67 k20 a1 a3 M3
        else
          sy_bi (jfX12_of a3 4 M3) fun v6 M5 =>
          sy_bi (jfX12_of a2 4 M5) fun v8 M7 =>
          if v8 < v6 then
            jfX12_miser_67 k20 a1 a3 M7
          else
            jfX12_miser_69 k20 a1 a2 a3 M7
      else
        jfX12_miser_69 k20 a1 a2 a3 M3
  else
    sy_ri a2 M
def jfX12_miser_20 : Nat → Int32 → Int32 → Int32 → sy_M → sy_O
  | 0, _, _, _, _ => none
  | n + 1, a1, a2, a3, M => jgX12_miser_20 (jfX12_miser_20 n) a1 a2 a3 M
def jfX12_miser (M : sy_M) : sy_O :=
  let M1 := sy_upd M 121 0 0
  sy_bi (jfX12_homeIn (M1 122 4) M1) fun v3 M2 =>
  jfX12_miser_20 sy_F v3 (-1) 0 M2
def jfX2_isLike (r0 : Nat) (a1 : Int32) (a2 : Int32) (M : sy_M) : sy_O :=
  sy_bs (sy_is 2 r0) <|
  sy_bi (jfX2_get r0 a1 0 M) fun v2 M1 =>
  sy_bs (sy_is 2 r0) <|
  sy_bi (jfX2_get r0 a2 0 M1) fun v4 M3 =>
  if v2 = v4 then
    sy_bs (sy_is 2 r0) <|
    sy_bi (jfX2_get r0 a1 3 M3) fun v6 M5 =>
    sy_bs (sy_is 2 r0) <|
    sy_bi (jfX2_get r0 a2 3 M5) fun v8 M7 =>
    if v6 = v8 then
      sy_bs (sy_is 2 r0) <|
      sy_bi (jfX2_get r0 a1 4 M7) fun v10 M9 =>
      sy_bs (sy_is 2 r0) <|
      sy_bi (jfX2_get r0 a2 4 M9) fun v12 M11 =>
      if v10 = v12 then
        sy_ri 1 M11
      else
        sy_ri 0 M11
    else
      sy_ri 0 M7
  else
    sy_ri 0 M3
def jfX11_alike_45 (k4 : Int32 → Int32 → sy_M → sy_O) (k19 : Int32 → Int32 → Int32 → sy_M → sy_O) (a1 : Int32) (a2 : Int32) (a3 : Int32) (M : sy_M) : sy_O :=
  let v1 := a3 + 1
  k19 a1 a2 v1 M
def jgX11_alike_19 (k4 : Int32 → Int32 → sy_M → sy_O) (k19 : Int32 → Int32 → Int32 → sy_M → sy_O) (a1 : Int32) (a2 : Int32) (a3 : Int32) (M : sy_M) : sy_O :=
  if a3 < (M 9 3) then
    sy_bi (jfX2_isLike 9 a2 a3 M) fun v3 M2 =>
    if v3 = 0 then
      jfX11_alike_45 k4 k19 a1 a2 a3 M2
    else
      let v4 := a1 + 1
      jfX11_alike_45 k4 k19 v4 a2 a3 M2
  else
    let v1 := a2 + 1
    k4 a1 v1 M
def jfX11_alike_19 (k4 : Int32 → Int32 → sy_M → sy_O) : Nat → Int32 → Int32 → Int32 → sy_M → sy_O
  | 0, _, _, _, _ => none
  | n + 1, a1, a2, a3, M => jgX11_alike_19 k4 (jfX11_alike_19 k4 n) a1 a2 a3 M
def jgX11_alike_4 (k4 : Int32 → Int32 → sy_M → sy_O) (a1 : Int32) (a2 : Int32) (M : sy_M) : sy_O :=
  if a2 < (M 9 3) then
    let v1 := (a2 + 1)
    jfX11_alike_19 k4 sy_F a1 a2 v1 M
  else
    sy_ri a1 M
def jfX11_alike_4 : Nat → Int32 → Int32 → sy_M → sy_O
  | 0, _, _, _ => none
  | n + 1, a1, a2, M => jgX11_alike_4 (jfX11_alike_4 n) a1 a2 M
def jfX11_alike (M : sy_M) : sy_O :=
  jfX11_alike_4 sy_F 0 0 M
def jfX12_alike_84 (k9 : Int32 → Int32 → sy_M → sy_O) (k23 : Int32 → Int32 → Int32 → sy_M → sy_O) (a2 : Int32) (a3 : Int32) (s0 : Int32) (s1 : Int32) (M : sy_M) : sy_O :=
  let v1 := (s1 + s0)
  let v2 := a3 + 1
  k23 v1 a2 v2 M
def jfX12_alike_83 (k9 : Int32 → Int32 → sy_M → sy_O) (k23 : Int32 → Int32 → Int32 → sy_M → sy_O) (a2 : Int32) (a3 : Int32) (s0 : Int32) (M : sy_M) : sy_O :=
  jfX12_alike_84 k9 k23 a2 a3 0 s0 M
def jgX12_alike_23 (k9 : Int32 → Int32 → sy_M → sy_O) (k23 : Int32 → Int32 → Int32 → sy_M → sy_O) (a1 : Int32) (a2 : Int32) (a3 : Int32) (M : sy_M) : sy_O :=
  if a3 < (M 122 3) then
    sy_bi (jfX12_of a2 0 M) fun v3 M2 =>
    sy_bi (jfX12_of a3 0 M2) fun v5 M4 =>
    if v3 = v5 then
      sy_bi (jfX12_of a2 3 M4) fun v7 M6 =>
      sy_bi (jfX12_of a3 3 M6) fun v9 M8 =>
      if v7 = v9 then
        sy_bi (jfX12_of a2 4 M8) fun v11 M10 =>
        sy_bi (jfX12_of a3 4 M10) fun v13 M12 =>
        if v11 = v13 then
          jfX12_alike_84 k9 k23 a2 a3 1 a1 M12
        else
          jfX12_alike_83 k9 k23 a2 a3 a1 M12
      else
        jfX12_alike_83 k9 k23 a2 a3 a1 M8
    else
      jfX12_alike_83 k9 k23 a2 a3 a1 M4
  else
    let v1 := a2 + 1
    k9 a1 v1 M
def jfX12_alike_23 (k9 : Int32 → Int32 → sy_M → sy_O) : Nat → Int32 → Int32 → Int32 → sy_M → sy_O
  | 0, _, _, _, _ => none
  | n + 1, a1, a2, a3, M => jgX12_alike_23 k9 (jfX12_alike_23 k9 n) a1 a2 a3 M
def jgX12_alike_9 (k9 : Int32 → Int32 → sy_M → sy_O) (a1 : Int32) (a2 : Int32) (M : sy_M) : sy_O :=
  if a2 < (M 122 3) then
    let v1 := (a2 + 1)
    jfX12_alike_23 k9 sy_F a1 a2 v1 M
  else
    sy_ri a1 M
def jfX12_alike_9 : Nat → Int32 → Int32 → sy_M → sy_O
  | 0, _, _, _ => none
  | n + 1, a1, a2, M => jgX12_alike_9 (jfX12_alike_9 n) a1 a2 M
def jfX12_alike (M : sy_M) : sy_O :=
  let M1 := sy_upd M 121 0 0
  jfX12_alike_9 sy_F 0 0 M1
def jfX11_trial (a1 : Int32) (a2 : Int32) (M : sy_M) : sy_O :=
  sy_bv (jfX11_checkRange a1 0 96 M) fun M1 =>
  sy_bv (jfX11_start M1) fun M2 =>
  sy_bi (jfX11_run a1 1 M2) fun v4 M3 =>
  if a2 = 0 then
    sy_ri v4 M3
  else
    sy_bi (jfX2_sum 19 7 M3) fun v6 M5 =>
    sy_ri v6 M5
def jfL_trial (a1 : Int32) (a2 : Int32) (M : sy_M) : sy_O :=
  sy_hi (jfX11_trial a1 a2 M) (fun v2 M1 =>
    let M5 := sy_wl M1 132 0 (Int32.toInt64 v2)
    sy_ri 0 M5)
  (fun c3 M4 => if c3 = 20 then sy_ri 1 M4 else none)
def jfX12_trial_54 (s0 : Int32) (M : sy_M) : sy_O :=
  sy_bv (jfX12_comesBack M) fun M1 =>
  sy_ri s0 M1
def jfX12_trial_16 (a1 : Int32) (a2 : Int32) (s0 : Int32) (M : sy_M) : sy_O :=
  let M1 := sy_upd M 121 0 s0
  if 0 < (M1 121 0) then
    sy_ri 0 M1
  else
    sy_bv (jfX12_putsAside M1) fun M2 =>
    sy_bi (jfX12_goes a1 1 M2) fun v4 M3 =>
    if a2 = 0 then
      jfX12_trial_54 (M3 121 20) M3
    else
      sy_bi (jfX12_coldOfAll M3) fun v6 M5 =>
      jfX12_trial_54 v6 M5
def jfX12_trial (a1 : Int32) (a2 : Int32) (M : sy_M) : sy_O :=
  sy_bi (jfX12_isIn a1 0 96 M) fun v2 M1 =>
  if v2 = 0 then
    jfX12_trial_16 a1 a2 1 M1
  else
    jfX12_trial_16 a1 a2 0 M1
def jfX11_span_86 (k23 : Int32 → Int32 → Int32 → Int32 → sy_M → sy_O) (a1 : Int32) (a2 : Int32) (a3 : Int32) (a4 : Int32) (M : sy_M) : sy_O :=
  let v1 := a4 + 1
  k23 a1 a2 a3 v1 M
def jfX11_span_83 (k23 : Int32 → Int32 → Int32 → Int32 → sy_M → sy_O) (a1 : Int32) (a2 : Int32) (a4 : Int32) (a5 : Int32) (M : sy_M) : sy_O :=
  jfX11_span_86 k23 a1 a2 a5 a4 M
def jgX11_span_23 (k23 : Int32 → Int32 → Int32 → Int32 → sy_M → sy_O) (a1 : Int32) (a2 : Int32) (a3 : Int32) (a4 : Int32) (M : sy_M) : sy_O :=
  if 6 < a4 then
    sy_ri a3 M
  else
    sy_bv (jfX2_takeOver 19 9 M) fun M1 =>
    let M2 := sy_upd M1 19 13 a4
    sy_bi (jfX11_run a1 1 M2) fun v4 M3 =>
    if a4 = 1 then
      jfX11_span_83 k23 a1 a2 a4 v4 M3
    else
      if a2 = 0 then
        if v4 < a3 then
          jfX11_span_83 k23 a1 a2 a4 v4 M3
        else
          jfX11_span_86 k23 a1 a2 a3 a4 M3
      else
        if a3 < v4 then
          jfX11_span_83 k23 a1 a2 a4 v4 M3
        else
          jfX11_span_86 k23 a1 a2 a3 a4 M3
def jfX11_span_23 : Nat → Int32 → Int32 → Int32 → Int32 → sy_M → sy_O
  | 0, _, _, _, _, _ => none
  | n + 1, a1, a2, a3, a4, M => jgX11_span_23 (jfX11_span_23 n) a1 a2 a3 a4 M
def jfX11_span (a1 : Int32) (a2 : Int32) (M : sy_M) : sy_O :=
  sy_bv (jfX11_checkRange a1 0 96 M) fun M1 =>
  sy_bv (jfX8_learn 9 M1) fun M2 =>
  jfX11_span_23 sy_F a1 a2 0 1 M2
def jfL_span (a1 : Int32) (a2 : Int32) (M : sy_M) : sy_O :=
  sy_hi (jfX11_span a1 a2 M) (fun v2 M1 =>
    let M5 := sy_wl M1 132 0 (Int32.toInt64 v2)
    sy_ri 0 M5)
  (fun c3 M4 => if c3 = 20 then sy_ri 1 M4 else none)
def jfX12_span_100 (k37 : Int32 → Int32 → Int32 → Int32 → sy_M → sy_O) (a1 : Int32) (a2 : Int32) (a4 : Int32) (s0 : Int32) (M : sy_M) : sy_O :=
  let v1 := a4 + 1
  k37 a1 a2 s0 v1 M
def jgX12_span_37 (k37 : Int32 → Int32 → Int32 → Int32 → sy_M → sy_O) (a1 : Int32) (a2 : Int32) (a3 : Int32) (a4 : Int32) (M : sy_M) : sy_O :=
  if 6 < a4 then
    sy_ri a3 M
  else
    let M1 := sy_upd M 122 13 a4
    sy_bi (jfX12_goes a1 1 M1) fun v3 M2 =>
    sy_bv (jfX12_comesBack M2) fun M4 =>
    if a3 = (-1) then
      jfX12_span_100 k37 a1 a2 a4 (M4 121 20) M4
    else
      if a2 = 0 then
        sy_bi (jfX12_lesser a3 (M4 121 20) M4) fun v6 M5 =>
        jfX12_span_100 k37 a1 a2 a4 v6 M5
      else
        sy_bi (jfX12_greater a3 (M4 121 20) M4) fun v8 M7 =>
        jfX12_span_100 k37 a1 a2 a4 v8 M7
def jfX12_span_37 : Nat → Int32 → Int32 → Int32 → Int32 → sy_M → sy_O
  | 0, _, _, _, _, _ => none
  | n + 1, a1, a2, a3, a4, M => jgX12_span_37 (jfX12_span_37 n) a1 a2 a3 a4 M
def jfX12_span_16 (a1 : Int32) (a2 : Int32) (s0 : Int32) (M : sy_M) : sy_O :=
  let M1 := sy_upd M 121 0 s0
  if 0 < (M1 121 0) then
    sy_ri 0 M1
  else
    sy_bv (jfX12_putsAside M1) fun M2 =>
    jfX12_span_37 sy_F a1 a2 (-1) 1 M2
def jfX12_span (a1 : Int32) (a2 : Int32) (M : sy_M) : sy_O :=
  sy_bi (jfX12_isIn a1 0 96 M) fun v2 M1 =>
  if v2 = 0 then
    jfX12_span_16 a1 a2 1 M1
  else
    jfX12_span_16 a1 a2 0 M1
def jfX7_cell_47 (r0 : Nat) (a2 : Int32) (s0 : Int32) (M : sy_M) : sy_O :=
  let v1 := ((s0 * 5) + a2)
  if v1 < 0 then
    sy_ri (-2) M
  else
    sy_bs (sy_is 6 r0) <|
    sy_bb (sy_ia (r0 + 1) || Nat.beq (r0 + 1) 1000000) <|
    if v1 < (Nat.toInt32 (sy_len M (r0 + 1))) then
      sy_bs (sy_is 6 r0) <|
      sy_bx (xe_in v1 (sy_len M (r0 + 1))) <|
      sy_ri (M (r0 + 1) (Int32.toNatClampNeg v1)) M
    else
      sy_ri (-2) M
def jfX7_cell (r0 : Nat) (a1 : Int32) (a2 : Int32) (M : sy_M) : sy_O :=
  if a1 < 0 then
    sy_ri (-2) M
  else
    sy_bs (sy_is 6 r0) <|
    if a1 < (M r0 2) then
      if a2 < 0 then
        sy_ri (-2) M
      else
        if a2 < 5 then
          sy_bs (sy_is 6 r0) <|
          let v1 := (((M r0 3) - 1) - a1)
          if v1 < 0 then
            sy_bs (sy_is 6 r0) <|
            jfX7_cell_47 r0 a2 (v1 + (M r0 0)) M
          else
            jfX7_cell_47 r0 a2 v1 M
        else
          sy_ri (-2) M
    else
      sy_ri (-2) M
def jfX11_led_70 (k13 : Int32 → Int32 → Int32 → Int32 → Int32 → sy_M → sy_O) (a1 : Int32) (a2 : Int32) (a3 : Int32) (a4 : Int32) (a5 : Int32) (M : sy_M) : sy_O :=
  let v1 := a5 + 1
  k13 a1 a2 a3 a4 v1 M
def jfX11_led_67 (k13 : Int32 → Int32 → Int32 → Int32 → Int32 → sy_M → sy_O) (a1 : Int32) (a2 : Int32) (a3 : Int32) (a4 : Int32) (a5 : Int32) (M : sy_M) : sy_O :=
  let v1 := a3 + 1
  jfX11_led_70 k13 a1 a2 v1 a4 a5 M
def jgX11_led_13 (k13 : Int32 → Int32 → Int32 → Int32 → Int32 → sy_M → sy_O) (a1 : Int32) (a2 : Int32) (a3 : Int32) (a4 : Int32) (a5 : Int32) (M : sy_M) : sy_O :=
  if a5 < (M 12 2) then
    sy_bi (jfX7_cell 12 a5 3 M) fun v2 M1 =>
    if v2 = a1 then
      if a3 = 0 then
        sy_bi (jfX7_cell 12 a5 1 M1) fun v4 M3 =>
        jfX11_led_67 k13 a1 a2 a3 v4 a5 M3
      else
        jfX11_led_67 k13 a1 a2 a3 a4 a5 M1
    else
      jfX11_led_70 k13 a1 a2 a3 a4 a5 M1
  else
    if a2 = 0 then
      sy_ri a3 M
    else
      sy_ri a4 M
def jfX11_led_13 : Nat → Int32 → Int32 → Int32 → Int32 → Int32 → sy_M → sy_O
  | 0, _, _, _, _, _, _ => none
  | n + 1, a1, a2, a3, a4, a5, M => jgX11_led_13 (jfX11_led_13 n) a1 a2 a3 a4 a5 M
def jfX11_led (a1 : Int32) (a2 : Int32) (M : sy_M) : sy_O :=
  sy_bv (jfX11_checkLodger a1 M) fun M1 =>
  jfX11_led_13 sy_F a1 a2 0 (-1) 0 M1
def jfL_led (a1 : Int32) (a2 : Int32) (M : sy_M) : sy_O :=
  sy_hi (jfX11_led a1 a2 M) (fun v2 M1 =>
    let M5 := sy_wl M1 132 0 (Int32.toInt64 v2)
    sy_ri 0 M5)
  (fun c3 M4 => if c3 = 22 then sy_ri 1 M4 else none)
def jfX12_logged (a1 : Int32) (a2 : Int32) (M : sy_M) : sy_O :=
  sy_bx (xe_in ((126 + (5 * a1)) + a2) 826) <|
  sy_ri (M 122 (Int32.toNatClampNeg ((126 + (5 * a1)) + a2))) M
def jfX12_led_73 (k42 : Int32 → Int32 → Int32 → Int32 → Int32 → sy_M → sy_O) (a1 : Int32) (a2 : Int32) (a3 : Int32) (a4 : Int32) (a5 : Int32) (M : sy_M) : sy_O :=
  let v1 := a5 + (-1)
  k42 a1 a2 a3 a4 v1 M
def jgX12_led_42 (k42 : Int32 → Int32 → Int32 → Int32 → Int32 → sy_M → sy_O) (a1 : Int32) (a2 : Int32) (a3 : Int32) (a4 : Int32) (a5 : Int32) (M : sy_M) : sy_O :=
  if a5 < 0 then
    if a2 = 0 then
      sy_ri a3 M
    else
      sy_ri a4 M
  else
    sy_bi (jfX12_logged a5 3 M) fun v2 M1 =>
    if v2 = a1 then
      let v3 := a3 + 1
      sy_bi (jfX12_logged a5 1 M1) fun v5 M4 =>
      jfX12_led_73 k42 a1 a2 v3 v5 a5 M4
    else
      jfX12_led_73 k42 a1 a2 a3 a4 a5 M1
def jfX12_led_42 : Nat → Int32 → Int32 → Int32 → Int32 → Int32 → sy_M → sy_O
  | 0, _, _, _, _, _, _ => none
  | n + 1, a1, a2, a3, a4, a5, M => jgX12_led_42 (jfX12_led_42 n) a1 a2 a3 a4 a5 M
def jfX12_led_14 (a1 : Int32) (a2 : Int32) (s0 : Int32) (M : sy_M) : sy_O :=
  let M1 := sy_upd M 121 0 s0
  if 0 < (M1 121 0) then
    sy_ri 0 M1
  else
    let v2 := ((M1 122 12) - 1)
    jfX12_led_42 sy_F a1 a2 0 (-1) v2 M1
def jfX12_led (a1 : Int32) (a2 : Int32) (M : sy_M) : sy_O :=
  sy_bi (jfX12_isLodger a1 M) fun v2 M1 =>
  if v2 = 0 then
    jfX12_led_14 a1 a2 1 M1
  else
    jfX12_led_14 a1 a2 0 M1
def jfX11_log (a1 : Int32) (a2 : Int32) (M : sy_M) : sy_O :=
  if a2 < 0 then
    sy_bx (xe_in (M 133 0) 100000) <|
    sy_rt 23 (sy_upd M 133 0 (M 133 0 + 1))
  else
    if a2 < 5 then
      sy_bi (jfX7_cell 12 a1 a2 M) fun v2 M1 =>
      sy_ri v2 M1
    else
      sy_bx (xe_in (M 133 0) 100000) <|
      sy_rt 23 (sy_upd M 133 0 (M 133 0 + 1))
def jfL_log (a1 : Int32) (a2 : Int32) (M : sy_M) : sy_O :=
  sy_hi (jfX11_log a1 a2 M) (fun v2 M1 =>
    let M5 := sy_wl M1 132 0 (Int32.toInt64 v2)
    sy_ri 0 M5)
  (fun c3 M4 => if c3 = 23 then sy_ri 1 M4 else none)
def jfX12_log_15 (a1 : Int32) (a2 : Int32) (s0 : Int32) (M : sy_M) : sy_O :=
  let M1 := sy_upd M 121 0 s0
  if 0 < (M1 121 0) then
    sy_ri 0 M1
  else
    sy_bi (jfX12_isIn a1 0 ((M1 122 12) - 1) M1) fun v3 M2 =>
    if v3 = 0 then
      sy_ri (-2) M2
    else
      sy_bi (jfX12_logged a1 a2 M2) fun v5 M4 =>
      sy_ri v5 M4
def jfX12_log (a1 : Int32) (a2 : Int32) (M : sy_M) : sy_O :=
  sy_bi (jfX12_isIn a2 0 4 M) fun v2 M1 =>
  if v2 = 0 then
    jfX12_log_15 a1 a2 1 M1
  else
    jfX12_log_15 a1 a2 0 M1
def jfX11_seed (a1 : Int32) (M : sy_M) : sy_O :=
  let v1 := (M 9 13)
  let M2 := sy_upd M 9 13 a1
  sy_ri v1 M2
def jfX12_seed (a1 : Int32) (M : sy_M) : sy_O :=
  let M1 := sy_upd M 121 0 0
  let v2 := (M1 122 13)
  let M3 := sy_upd M1 122 13 a1
  sy_ri v2 M3
def jfX0_takeBack_18 (r1 : Nat) (s0 : Int32) (M : sy_M) : sy_O :=
  sy_br (jfX0_slot s0 M) (fun r2 M1 =>
  if (M1 57 1) < 1 then
      sy_ri 0 M1
    else
      sy_bs (sy_is 2 r1) <|
      sy_bv (jfX2_takeOver r1 r2 M1) fun M4 =>
      let M5 := sy_upd M4 57 2 s0
      let M6 := sy_upd M5 57 1 ((M5 57 1) - 1)
      sy_ri 1 M6)
  (fun M3 =>
  if (M3 57 1) < 1 then
      sy_ri 0 M3
    else
      sy_ri 0 M3)
def jfX0_takeBack (r1 : Nat) (M : sy_M) : sy_O :=
  if 0 < (M 57 2) then
    jfX0_takeBack_18 r1 ((M 57 2) - 1) M
  else
    jfX0_takeBack_18 r1 11 M
def jfX11_undo (M : sy_M) : sy_O :=
  sy_bi (jfX0_takeBack 9 M) fun v2 M1 =>
  sy_bb (sy_bo v2) <| sy_ri v2 M1
def jgX12_undo_26 (k26 : Int32 → sy_M → sy_O) (a1 : Int32) (M : sy_M) : sy_O :=
  if a1 < 426 then
    sy_bx (xe_in ((426 * (M 121 6)) + a1) 5112) <|
    sy_bx (xe_in a1 826) <|
    let M1 := sy_upd M 122 (Int32.toNatClampNeg a1) (M 125 (Int32.toNatClampNeg ((426 * (M 121 6)) + a1)))
    let v2 := a1 + 1
    k26 v2 M1
  else
    sy_ri 1 M
def jfX12_undo_26 : Nat → Int32 → sy_M → sy_O
  | 0, _, _ => none
  | n + 1, a1, M => jgX12_undo_26 (jfX12_undo_26 n) a1 M
def jfX12_undo (M : sy_M) : sy_O :=
  let M1 := sy_upd M 121 0 0
  if (M1 121 6) = 0 then
    sy_ri 0 M1
  else
    let M2 := sy_upd M1 121 6 ((M1 121 6) - 1)
    jfX12_undo_26 sy_F 0 M2
def jfX11_image (M : sy_M) : sy_O :=
  sy_bv (jfX2_takeOver 24 9 M) fun M1 =>
  sy_bv (jfX4_takeOver 41 29 M1) fun M2 =>
  let M3 := sy_upd M2 0 16 1
  sy_rv M3
def jgX12_image_7 (k7 : Int32 → sy_M → sy_O) (a1 : Int32) (M : sy_M) : sy_O :=
  if a1 < 826 then
    sy_bx (xe_in a1 826) <|
    sy_bx (xe_in a1 826) <|
    let M2 := sy_upd M 123 (Int32.toNatClampNeg a1) (M 122 (Int32.toNatClampNeg a1))
    let v3 := a1 + 1
    k7 v3 M2
  else
    let M1 := sy_upd M 121 3 1
    sy_rv M1
def jfX12_image_7 : Nat → Int32 → sy_M → sy_O
  | 0, _, _ => none
  | n + 1, a1, M => jgX12_image_7 (jfX12_image_7 n) a1 M
def jfX12_image (M : sy_M) : sy_O :=
  let M1 := sy_upd M 121 0 0
  jfX12_image_7 sy_F 0 M1
def jfX11_back (M : sy_M) : sy_O :=
  if (M 0 16) = 0 then
    sy_ri 0 M
  else
    sy_bv (jfX2_takeOver 9 24 M) fun M1 =>
    sy_bv (jfX4_takeOver 29 41 M1) fun M2 =>
    sy_bv (jfX0_forget M2) fun M3 =>
    sy_ri 1 M3
def jgX12_back_16 (k16 : Int32 → sy_M → sy_O) (a1 : Int32) (M : sy_M) : sy_O :=
  if a1 < 826 then
    sy_bx (xe_in a1 826) <|
    sy_bx (xe_in a1 826) <|
    let M2 := sy_upd M 122 (Int32.toNatClampNeg a1) (M 123 (Int32.toNatClampNeg a1))
    let v3 := a1 + 1
    k16 v3 M2
  else
    let M1 := sy_upd M 121 6 0
    sy_ri 1 M1
def jfX12_back_16 : Nat → Int32 → sy_M → sy_O
  | 0, _, _ => none
  | n + 1, a1, M => jgX12_back_16 (jfX12_back_16 n) a1 M
def jfX12_back (M : sy_M) : sy_O :=
  let M1 := sy_upd M 121 0 0
  if (M1 121 3) = 0 then
    sy_ri 0 M1
  else
    jfX12_back_16 sy_F 0 M1
def jfX11_count_164 (M : sy_M) : sy_O :=
  sy_bi (jfX2_sum 9 7 M) fun v2 M1 =>
  sy_ri v2 M1
def jfX11_count_174 (M : sy_M) : sy_O :=
  sy_bi (jfX2_sum 9 5 M) fun v2 M1 =>
  sy_ri v2 M1
def jfX11_count (a1 : Int32) (M : sy_M) : sy_O :=
  if a1 = 0 then
    sy_ri (M 9 3) M
  else if a1 = 1 then
    sy_ri (M 9 4) M
  else if a1 = 2 then
    sy_ri (M 29 6) M
  else if a1 = 3 then
    sy_ri (M 9 5) M
  else if a1 = 4 then
    sy_ri (M 9 6) M
  else if a1 = 5 then
    sy_ri (M 9 7) M
  else if a1 = 6 then
    sy_ri (M 9 8) M
  else if a1 = 7 then
    sy_ri (M 9 9) M
  else if a1 = 8 then
    sy_ri (M 9 10) M
  else if a1 = 9 then
    sy_ri (M 9 11) M
  else if a1 = 10 then
    sy_ri (M 9 12) M
  else if a1 = 11 then
    jfX11_count_164 M
  else if a1 = 12 then
    jfX11_count_174 M
  else if a1 = 13 then
    sy_ri (M 12 2) M
  else if a1 = 14 then
    sy_ri (M 57 1) M
  else sy_ri (-1) M
def jgX12_count_101 (k101 : Int32 → Int32 → Int32 → sy_M → sy_O) (a1 : Int32) (a2 : Int32) (a3 : Int32) (M : sy_M) : sy_O :=
  if a3 < (M 122 3) then
    sy_bi (jfX12_of a3 5 M) fun v2 M1 =>
    let v3 := (a2 + v2)
    let v4 := a3 + 1
    k101 a1 v3 v4 M1
  else
    if a1 = 12 then
      sy_ri a2 M
    else
      sy_ri (-1) M
def jfX12_count_101 : Nat → Int32 → Int32 → Int32 → sy_M → sy_O
  | 0, _, _, _, _ => none
  | n + 1, a1, a2, a3, M => jgX12_count_101 (jfX12_count_101 n) a1 a2 a3 M
def jfX12_count (a1 : Int32) (M : sy_M) : sy_O :=
  let M1 := sy_upd M 121 0 0
  if a1 = 0 then
    sy_ri (M1 122 3) M1
  else
    if a1 = 1 then
      sy_ri (M1 122 0) M1
    else
      if a1 = 2 then
        sy_ri (M1 122 1) M1
      else
        sy_bi (jfX12_isIn a1 3 10 M1) fun v3 M2 =>
        if v3 = 0 then
          if a1 = 11 then
            sy_bi (jfX12_coldOfAll M2) fun v5 M4 =>
            sy_ri v5 M4
          else
            if a1 = 13 then
              sy_ri (M2 122 12) M2
            else
              if a1 = 14 then
                sy_ri (M2 121 6) M2
              else
                jfX12_count_101 sy_F a1 0 0 M2
        else
          sy_bx (xe_in ((4 + a1) - 3) 826) <|
          sy_ri (M2 122 (Int32.toNatClampNeg ((4 + a1) - 3))) M2
def jfL_law__3150 (k23 : Int32 → sy_M → sy_O) (a4 : Int32) (M : sy_M) : sy_O :=
  let v1 := a4 + 6
  k23 v1 M
def jfL_law__308 (k23 : Int32 → sy_M → sy_O) (a4 : Int32) (M : sy_M) : sy_O :=
  sy_bx (xe_in (a4 + 1) (M 134 0).toNatClampNeg) <|
  sy_bx (xe_in (a4 + 2) (M 134 0).toNatClampNeg) <|
  sy_bx (xe_in (a4 + 3) (M 134 0).toNatClampNeg) <|
  sy_bx (xe_in (a4 + 4) (M 134 0).toNatClampNeg) <|
  sy_bx (xe_in (a4 + 5) (M 134 0).toNatClampNeg) <|
  sy_bi (jfX11_feed (M 1000000 (Int32.toNatClampNeg (a4 + 1))) (M 1000000 (Int32.toNatClampNeg (a4 + 2))) (M 1000000 (Int32.toNatClampNeg (a4 + 3))) (M 1000000 (Int32.toNatClampNeg (a4 + 4))) (M 1000000 (Int32.toNatClampNeg (a4 + 5))) M) fun v2 M1 =>
  sy_bx (xe_in (a4 + 1) (M1 134 0).toNatClampNeg) <|
  sy_bx (xe_in (a4 + 2) (M1 134 0).toNatClampNeg) <|
  sy_bx (xe_in (a4 + 3) (M1 134 0).toNatClampNeg) <|
  sy_bx (xe_in (a4 + 4) (M1 134 0).toNatClampNeg) <|
  sy_bx (xe_in (a4 + 5) (M1 134 0).toNatClampNeg) <|
  sy_bi (jfX12_feed (M1 1000000 (Int32.toNatClampNeg (a4 + 1))) (M1 1000000 (Int32.toNatClampNeg (a4 + 2))) (M1 1000000 (Int32.toNatClampNeg (a4 + 3))) (M1 1000000 (Int32.toNatClampNeg (a4 + 4))) (M1 1000000 (Int32.toNatClampNeg (a4 + 5))) M1) fun v4 M3 =>
  if v2 = v4 then
    jfL_law__3150 k23 a4 M3
  else
    sy_ri 0 M3
def jfL_law__381 (k23 : Int32 → sy_M → sy_O) (a4 : Int32) (M : sy_M) : sy_O :=
  sy_bx (xe_in (a4 + 1) (M 134 0).toNatClampNeg) <|
  sy_bi (jfX11_end (M 1000000 (Int32.toNatClampNeg (a4 + 1))) M) fun v2 M1 =>
  sy_bx (xe_in (a4 + 1) (M1 134 0).toNatClampNeg) <|
  sy_bi (jfX12_end (M1 1000000 (Int32.toNatClampNeg (a4 + 1))) M1) fun v4 M3 =>
  if v2 = v4 then
    jfL_law__3150 k23 a4 M3
  else
    sy_ri 0 M3
def jfL_law__447 (k23 : Int32 → sy_M → sy_O) (a4 : Int32) (M : sy_M) : sy_O :=
  jfL_law__3150 k23 a4 M
def jfL_law__406 (k23 : Int32 → sy_M → sy_O) (a4 : Int32) (M : sy_M) : sy_O :=
  sy_bi (jfL_house M) fun v2 M1 =>
  sy_bi (jfX12_house M1) fun v4 M3 =>
  sy_bi (jfX12_thrown M3) fun v6 M5 =>
  if v6 = v2 then
    if v2 = 0 then
      if (lg_cmp (sy_rl M5 132 0) (Int32.toInt64 v4)) = 0 then
        jfL_law__447 k23 a4 M5
      else
        sy_ri 0 M5
    else
      jfL_law__447 k23 a4 M5
  else
    sy_ri 0 M5
def jfL_law__491 (k23 : Int32 → sy_M → sy_O) (a4 : Int32) (M : sy_M) : sy_O :=
  jfL_law__3150 k23 a4 M
def jfL_law__450 (k23 : Int32 → sy_M → sy_O) (a4 : Int32) (M : sy_M) : sy_O :=
  sy_bi (jfL_law M) fun v2 M1 =>
  sy_bi (jfX12_law M1) fun v4 M3 =>
  sy_bi (jfX12_thrown M3) fun v6 M5 =>
  if v6 = v2 then
    if v2 = 0 then
      if (lg_cmp (sy_rl M5 132 0) (Int32.toInt64 v4)) = 0 then
        jfL_law__491 k23 a4 M5
      else
        sy_ri 0 M5
    else
      jfL_law__491 k23 a4 M5
  else
    sy_ri 0 M5
def jfL_law__494 (k23 : Int32 → sy_M → sy_O) (a4 : Int32) (M : sy_M) : sy_O :=
  sy_bi (jfX11_fault M) fun v2 M1 =>
  sy_bi (jfX12_fault M1) fun v4 M3 =>
  if v2 = v4 then
    jfL_law__3150 k23 a4 M3
  else
    sy_ri 0 M3
def jfL_law__572 (k23 : Int32 → sy_M → sy_O) (a4 : Int32) (M : sy_M) : sy_O :=
  jfL_law__3150 k23 a4 M
def jfL_law__507 (k23 : Int32 → sy_M → sy_O) (a4 : Int32) (M : sy_M) : sy_O :=
  sy_bx (xe_in (a4 + 1) (M 134 0).toNatClampNeg) <|
  sy_bx (xe_in (a4 + 2) (M 134 0).toNatClampNeg) <|
  sy_bi (jfL_lodger (M 1000000 (Int32.toNatClampNeg (a4 + 1))) (M 1000000 (Int32.toNatClampNeg (a4 + 2))) M) fun v2 M1 =>
  sy_bx (xe_in (a4 + 1) (M1 134 0).toNatClampNeg) <|
  sy_bx (xe_in (a4 + 2) (M1 134 0).toNatClampNeg) <|
  sy_bi (jfX12_lodger (M1 1000000 (Int32.toNatClampNeg (a4 + 1))) (M1 1000000 (Int32.toNatClampNeg (a4 + 2))) M1) fun v4 M3 =>
  sy_bi (jfX12_thrown M3) fun v6 M5 =>
  if v6 = v2 then
    if v2 = 0 then
      if (lg_cmp (sy_rl M5 132 0) (Int32.toInt64 v4)) = 0 then
        jfL_law__572 k23 a4 M5
      else
        sy_ri 0 M5
    else
      jfL_law__572 k23 a4 M5
  else
    sy_ri 0 M5
def jfL_law__640 (k23 : Int32 → sy_M → sy_O) (a4 : Int32) (M : sy_M) : sy_O :=
  jfL_law__3150 k23 a4 M
def jfL_law__575 (k23 : Int32 → sy_M → sy_O) (a4 : Int32) (M : sy_M) : sy_O :=
  sy_bx (xe_in (a4 + 1) (M 134 0).toNatClampNeg) <|
  sy_bx (xe_in (a4 + 2) (M 134 0).toNatClampNeg) <|
  sy_bi (jfL_owes (M 1000000 (Int32.toNatClampNeg (a4 + 1))) (M 1000000 (Int32.toNatClampNeg (a4 + 2))) M) fun v2 M1 =>
  sy_bx (xe_in (a4 + 1) (M1 134 0).toNatClampNeg) <|
  sy_bx (xe_in (a4 + 2) (M1 134 0).toNatClampNeg) <|
  sy_bi (jfX12_owes (M1 1000000 (Int32.toNatClampNeg (a4 + 1))) (M1 1000000 (Int32.toNatClampNeg (a4 + 2))) M1) fun v4 M3 =>
  sy_bi (jfX12_thrown M3) fun v6 M5 =>
  if v6 = v2 then
    if v2 = 0 then
      if (lg_cmp (sy_rl M5 132 0) (Int32.toInt64 v4)) = 0 then
        jfL_law__640 k23 a4 M5
      else
        sy_ri 0 M5
    else
      jfL_law__640 k23 a4 M5
  else
    sy_ri 0 M5
def jfL_law__715 (k23 : Int32 → sy_M → sy_O) (a4 : Int32) (M : sy_M) : sy_O :=
  jfL_law__3150 k23 a4 M
def jfL_law__709 (k23 : Int32 → sy_M → sy_O) (a4 : Int32) (s0 : Int64) (s1 : Int64) (M : sy_M) : sy_O :=
  if (lg_cmp s1 s0) = 0 then
    jfL_law__715 k23 a4 M
  else
    sy_ri 0 M
def jfL_law__643 (k23 : Int32 → sy_M → sy_O) (a4 : Int32) (M : sy_M) : sy_O :=
  sy_bx (xe_in (a4 + 1) (M 134 0).toNatClampNeg) <|
  sy_bx (xe_in (a4 + 2) (M 134 0).toNatClampNeg) <|
  sy_bi (jfL_isHome (M 1000000 (Int32.toNatClampNeg (a4 + 1))) (M 1000000 (Int32.toNatClampNeg (a4 + 2))) M) fun v2 M1 =>
  sy_bx (xe_in (a4 + 1) (M1 134 0).toNatClampNeg) <|
  sy_bx (xe_in (a4 + 2) (M1 134 0).toNatClampNeg) <|
  sy_bi (jfX12_isHome (M1 1000000 (Int32.toNatClampNeg (a4 + 1))) (M1 1000000 (Int32.toNatClampNeg (a4 + 2))) M1) fun v4 M3 =>
  sy_bi (jfX12_thrown M3) fun v6 M5 =>
  if v6 = v2 then
    if v2 = 0 then
      if v4 = 0 then
        jfL_law__709 k23 a4 (Int64.ofNat 0) (sy_rl M5 132 0) M5
      else
        jfL_law__709 k23 a4 (Int64.ofNat 1) (sy_rl M5 132 0) M5
    else
      jfL_law__715 k23 a4 M5
  else
    sy_ri 0 M5
def jfL_law__771 (k23 : Int32 → sy_M → sy_O) (a4 : Int32) (M : sy_M) : sy_O :=
  jfL_law__3150 k23 a4 M
def jfL_law__718 (k23 : Int32 → sy_M → sy_O) (a4 : Int32) (M : sy_M) : sy_O :=
  sy_bx (xe_in (a4 + 1) (M 134 0).toNatClampNeg) <|
  sy_bi (jfL_needs (M 1000000 (Int32.toNatClampNeg (a4 + 1))) M) fun v2 M1 =>
  sy_bx (xe_in (a4 + 1) (M1 134 0).toNatClampNeg) <|
  sy_bi (jfX12_needs (M1 1000000 (Int32.toNatClampNeg (a4 + 1))) M1) fun v4 M3 =>
  sy_bi (jfX12_thrown M3) fun v6 M5 =>
  if v6 = v2 then
    if v2 = 0 then
      if (lg_cmp (sy_rl M5 132 0) (Int32.toInt64 v4)) = 0 then
        jfL_law__771 k23 a4 M5
      else
        sy_ri 0 M5
    else
      jfL_law__771 k23 a4 M5
  else
    sy_ri 0 M5
def jfL_law__827 (k23 : Int32 → sy_M → sy_O) (a4 : Int32) (M : sy_M) : sy_O :=
  jfL_law__3150 k23 a4 M
def jfL_law__774 (k23 : Int32 → sy_M → sy_O) (a4 : Int32) (M : sy_M) : sy_O :=
  sy_bx (xe_in (a4 + 1) (M 134 0).toNatClampNeg) <|
  sy_bi (jfL_ticks (M 1000000 (Int32.toNatClampNeg (a4 + 1))) M) fun v2 M1 =>
  sy_bx (xe_in (a4 + 1) (M1 134 0).toNatClampNeg) <|
  sy_bi (jfX12_ticks (M1 1000000 (Int32.toNatClampNeg (a4 + 1))) M1) fun v4 M3 =>
  sy_bi (jfX12_thrown M3) fun v6 M5 =>
  if v6 = v2 then
    if v2 = 0 then
      if (lg_cmp (sy_rl M5 132 0) (Int32.toInt64 v4)) = 0 then
        jfL_law__827 k23 a4 M5
      else
        sy_ri 0 M5
    else
      jfL_law__827 k23 a4 M5
  else
    sy_ri 0 M5
def jfL_law__883 (k23 : Int32 → sy_M → sy_O) (a4 : Int32) (M : sy_M) : sy_O :=
  jfL_law__3150 k23 a4 M
def jfL_law__830 (k23 : Int32 → sy_M → sy_O) (a4 : Int32) (M : sy_M) : sy_O :=
  sy_bx (xe_in (a4 + 1) (M 134 0).toNatClampNeg) <|
  sy_bi (jfL_put (M 1000000 (Int32.toNatClampNeg (a4 + 1))) M) fun v2 M1 =>
  sy_bx (xe_in (a4 + 1) (M1 134 0).toNatClampNeg) <|
  sy_bi (jfX12_put (M1 1000000 (Int32.toNatClampNeg (a4 + 1))) M1) fun v4 M3 =>
  sy_bi (jfX12_thrown M3) fun v6 M5 =>
  if v6 = v2 then
    if v2 = 0 then
      if (lg_cmp (sy_rl M5 132 0) (Int32.toInt64 v4)) = 0 then
        jfL_law__883 k23 a4 M5
      else
        sy_ri 0 M5
    else
      jfL_law__883 k23 a4 M5
  else
    sy_ri 0 M5
def jfL_law__951 (k23 : Int32 → sy_M → sy_O) (a4 : Int32) (M : sy_M) : sy_O :=
  jfL_law__3150 k23 a4 M
def jfL_law__886 (k23 : Int32 → sy_M → sy_O) (a4 : Int32) (M : sy_M) : sy_O :=
  sy_bx (xe_in (a4 + 1) (M 134 0).toNatClampNeg) <|
  sy_bx (xe_in (a4 + 2) (M 134 0).toNatClampNeg) <|
  sy_bi (jfL_lend (M 1000000 (Int32.toNatClampNeg (a4 + 1))) (M 1000000 (Int32.toNatClampNeg (a4 + 2))) M) fun v2 M1 =>
  sy_bx (xe_in (a4 + 1) (M1 134 0).toNatClampNeg) <|
  sy_bx (xe_in (a4 + 2) (M1 134 0).toNatClampNeg) <|
  sy_bi (jfX12_lend (M1 1000000 (Int32.toNatClampNeg (a4 + 1))) (M1 1000000 (Int32.toNatClampNeg (a4 + 2))) M1) fun v4 M3 =>
  sy_bi (jfX12_thrown M3) fun v6 M5 =>
  if v6 = v2 then
    if v2 = 0 then
      if (lg_cmp (sy_rl M5 132 0) (Int32.toInt64 v4)) = 0 then
        jfL_law__951 k23 a4 M5
      else
        sy_ri 0 M5
    else
      jfL_law__951 k23 a4 M5
  else
    sy_ri 0 M5
def jfL_law__1019 (k23 : Int32 → sy_M → sy_O) (a4 : Int32) (M : sy_M) : sy_O :=
  jfL_law__3150 k23 a4 M
def jfL_law__954 (k23 : Int32 → sy_M → sy_O) (a4 : Int32) (M : sy_M) : sy_O :=
  sy_bx (xe_in (a4 + 1) (M 134 0).toNatClampNeg) <|
  sy_bx (xe_in (a4 + 2) (M 134 0).toNatClampNeg) <|
  sy_bi (jfL_repay (M 1000000 (Int32.toNatClampNeg (a4 + 1))) (M 1000000 (Int32.toNatClampNeg (a4 + 2))) M) fun v2 M1 =>
  sy_bx (xe_in (a4 + 1) (M1 134 0).toNatClampNeg) <|
  sy_bx (xe_in (a4 + 2) (M1 134 0).toNatClampNeg) <|
  sy_bi (jfX12_repay (M1 1000000 (Int32.toNatClampNeg (a4 + 1))) (M1 1000000 (Int32.toNatClampNeg (a4 + 2))) M1) fun v4 M3 =>
  sy_bi (jfX12_thrown M3) fun v6 M5 =>
  if v6 = v2 then
    if v2 = 0 then
      if (lg_cmp (sy_rl M5 132 0) (Int32.toInt64 v4)) = 0 then
        jfL_law__1019 k23 a4 M5
      else
        sy_ri 0 M5
    else
      jfL_law__1019 k23 a4 M5
  else
    sy_ri 0 M5
def jfL_law__1087 (k23 : Int32 → sy_M → sy_O) (a4 : Int32) (M : sy_M) : sy_O :=
  jfL_law__3150 k23 a4 M
def jfL_law__1022 (k23 : Int32 → sy_M → sy_O) (a4 : Int32) (M : sy_M) : sy_O :=
  sy_bx (xe_in (a4 + 1) (M 134 0).toNatClampNeg) <|
  sy_bx (xe_in (a4 + 2) (M 134 0).toNatClampNeg) <|
  sy_bi (jfL_waits (M 1000000 (Int32.toNatClampNeg (a4 + 1))) (M 1000000 (Int32.toNatClampNeg (a4 + 2))) M) fun v2 M1 =>
  sy_bx (xe_in (a4 + 1) (M1 134 0).toNatClampNeg) <|
  sy_bx (xe_in (a4 + 2) (M1 134 0).toNatClampNeg) <|
  sy_bi (jfX12_waits (M1 1000000 (Int32.toNatClampNeg (a4 + 1))) (M1 1000000 (Int32.toNatClampNeg (a4 + 2))) M1) fun v4 M3 =>
  sy_bi (jfX12_thrown M3) fun v6 M5 =>
  if v6 = v2 then
    if v2 = 0 then
      if (lg_cmp (sy_rl M5 132 0) (Int32.toInt64 v4)) = 0 then
        jfL_law__1087 k23 a4 M5
      else
        sy_ri 0 M5
    else
      jfL_law__1087 k23 a4 M5
  else
    sy_ri 0 M5
def jfL_law__1143 (k23 : Int32 → sy_M → sy_O) (a4 : Int32) (M : sy_M) : sy_O :=
  jfL_law__3150 k23 a4 M
def jfL_law__1090 (k23 : Int32 → sy_M → sy_O) (a4 : Int32) (M : sy_M) : sy_O :=
  sy_bx (xe_in (a4 + 1) (M 134 0).toNatClampNeg) <|
  sy_bi (jfL_price (M 1000000 (Int32.toNatClampNeg (a4 + 1))) M) fun v2 M1 =>
  sy_bx (xe_in (a4 + 1) (M1 134 0).toNatClampNeg) <|
  sy_bi (jfX12_price (M1 1000000 (Int32.toNatClampNeg (a4 + 1))) M1) fun v4 M3 =>
  sy_bi (jfX12_thrown M3) fun v6 M5 =>
  if v6 = v2 then
    if v2 = 0 then
      if (lg_cmp (sy_rl M5 132 0) (Int32.toInt64 v4)) = 0 then
        jfL_law__1143 k23 a4 M5
      else
        sy_ri 0 M5
    else
      jfL_law__1143 k23 a4 M5
  else
    sy_ri 0 M5
def jfL_law__1211 (k23 : Int32 → sy_M → sy_O) (a4 : Int32) (M : sy_M) : sy_O :=
  jfL_law__3150 k23 a4 M
def jfL_law__1146 (k23 : Int32 → sy_M → sy_O) (a4 : Int32) (M : sy_M) : sy_O :=
  sy_bx (xe_in (a4 + 1) (M 134 0).toNatClampNeg) <|
  sy_bx (xe_in (a4 + 2) (M 134 0).toNatClampNeg) <|
  sy_bi (jfL_change (M 1000000 (Int32.toNatClampNeg (a4 + 1))) (M 1000000 (Int32.toNatClampNeg (a4 + 2))) M) fun v2 M1 =>
  sy_bx (xe_in (a4 + 1) (M1 134 0).toNatClampNeg) <|
  sy_bx (xe_in (a4 + 2) (M1 134 0).toNatClampNeg) <|
  sy_bi (jfX12_change (M1 1000000 (Int32.toNatClampNeg (a4 + 1))) (M1 1000000 (Int32.toNatClampNeg (a4 + 2))) M1) fun v4 M3 =>
  sy_bi (jfX12_thrown M3) fun v6 M5 =>
  if v6 = v2 then
    if v2 = 0 then
      if (lg_cmp (sy_rl M5 132 0) (Int32.toInt64 v4)) = 0 then
        jfL_law__1211 k23 a4 M5
      else
        sy_ri 0 M5
    else
      jfL_law__1211 k23 a4 M5
  else
    sy_ri 0 M5
def jfL_law__1291 (k23 : Int32 → sy_M → sy_O) (a4 : Int32) (M : sy_M) : sy_O :=
  jfL_law__3150 k23 a4 M
def jfL_law__1263 (k23 : Int32 → sy_M → sy_O) (a4 : Int32) (a5 : Int32) (a6 : Int32) (M : sy_M) : sy_O :=
  sy_bi (jfX12_thrown M) fun v2 M1 =>
  if v2 = a5 then
    if a5 = 0 then
      if (lg_cmp (sy_rl M1 132 0) (Int32.toInt64 a6)) = 0 then
        jfL_law__1291 k23 a4 M1
      else
        sy_ri 0 M1
    else
      jfL_law__1291 k23 a4 M1
  else
    sy_ri 0 M1
def jfL_law__1214 (k23 : Int32 → sy_M → sy_O) (a4 : Int32) (M : sy_M) : sy_O :=
  sy_bx (xe_in (a4 + 1) (M 134 0).toNatClampNeg) <|
  sy_bx (xe_in (a4 + 2) (M 134 0).toNatClampNeg) <|
  sy_bx (xe_in (a4 + 3) (M 134 0).toNatClampNeg) <|
  sy_bi (jfL_home (M 1000000 (Int32.toNatClampNeg (a4 + 1))) (M 1000000 (Int32.toNatClampNeg (a4 + 2))) (M 1000000 (Int32.toNatClampNeg (a4 + 3))) M) fun v2 M1 =>
  sy_bx (xe_in (a4 + 1) (M1 134 0).toNatClampNeg) <|
  sy_bx (xe_in (a4 + 2) (M1 134 0).toNatClampNeg) <|
  sy_bx (xe_in (a4 + 3) (M1 134 0).toNatClampNeg) <|
  sy_bi (jfX12_home (M1 1000000 (Int32.toNatClampNeg (a4 + 1))) (M1 1000000 (Int32.toNatClampNeg (a4 + 2))) (M1 1000000 (Int32.toNatClampNeg (a4 + 3))) M1) fun v4 M3 =>
  jfL_law__1263 k23 a4 v2 v4 M3
def jfL_law__1294 (k23 : Int32 → sy_M → sy_O) (a4 : Int32) (M : sy_M) : sy_O :=
  sy_bi (jfX11_empty M) fun v2 M1 =>
  sy_bi (jfX12_empty M1) fun v4 M3 =>
  if v2 = v4 then
    jfL_law__3150 k23 a4 M3
  else
    sy_ri 0 M3
def jfL_law__1307 (k23 : Int32 → sy_M → sy_O) (a4 : Int32) (M : sy_M) : sy_O :=
  sy_bi (jfX11_inside M) fun v2 M1 =>
  sy_bi (jfX12_inside M1) fun v4 M3 =>
  if v2 = v4 then
    jfL_law__3150 k23 a4 M3
  else
    sy_ri 0 M3
def jfL_law__1320 (k23 : Int32 → sy_M → sy_O) (a4 : Int32) (M : sy_M) : sy_O :=
  sy_bi (jfX11_lasts M) fun v2 M1 =>
  sy_bi (jfX12_lasts M1) fun v4 M3 =>
  if v2 = v4 then
    jfL_law__3150 k23 a4 M3
  else
    sy_ri 0 M3
def jfL_law__1333 (k23 : Int32 → sy_M → sy_O) (a4 : Int32) (M : sy_M) : sy_O :=
  sy_bi (jfX11_out M) fun v2 M1 =>
  sy_bi (jfX12_out M1) fun v4 M3 =>
  if v2 = v4 then
    jfL_law__3150 k23 a4 M3
  else
    sy_ri 0 M3
def jfL_law__1346 (k23 : Int32 → sy_M → sy_O) (a4 : Int32) (M : sy_M) : sy_O :=
  sy_bi (jfX11_feeder M) fun v2 M1 =>
  sy_bi (jfX12_feeder M1) fun v4 M3 =>
  if v2 = v4 then
    jfL_law__3150 k23 a4 M3
  else
    sy_ri 0 M3
def jfL_law__1359 (k23 : Int32 → sy_M → sy_O) (a4 : Int32) (M : sy_M) : sy_O :=
  sy_bi (jfX11_shiver M) fun v2 M1 =>
  sy_bi (jfX12_shiver M1) fun v4 M3 =>
  if v2 = v4 then
    jfL_law__3150 k23 a4 M3
  else
    sy_ri 0 M3
def jfL_law__1449 (k23 : Int32 → sy_M → sy_O) (a4 : Int32) (M : sy_M) : sy_O :=
  jfL_law__3150 k23 a4 M
def jfL_law__1421 (k23 : Int32 → sy_M → sy_O) (a4 : Int32) (a5 : Int32) (a6 : Int32) (M : sy_M) : sy_O :=
  sy_bi (jfX12_thrown M) fun v2 M1 =>
  if v2 = a5 then
    if a5 = 0 then
      if (lg_cmp (sy_rl M1 132 0) (Int32.toInt64 a6)) = 0 then
        jfL_law__1449 k23 a4 M1
      else
        sy_ri 0 M1
    else
      jfL_law__1449 k23 a4 M1
  else
    sy_ri 0 M1
def jfL_law__1372 (k23 : Int32 → sy_M → sy_O) (a4 : Int32) (M : sy_M) : sy_O :=
  sy_bx (xe_in (a4 + 1) (M 134 0).toNatClampNeg) <|
  sy_bx (xe_in (a4 + 2) (M 134 0).toNatClampNeg) <|
  sy_bx (xe_in (a4 + 3) (M 134 0).toNatClampNeg) <|
  sy_bi (jfL_after (M 1000000 (Int32.toNatClampNeg (a4 + 1))) (M 1000000 (Int32.toNatClampNeg (a4 + 2))) (M 1000000 (Int32.toNatClampNeg (a4 + 3))) M) fun v2 M1 =>
  sy_bx (xe_in (a4 + 1) (M1 134 0).toNatClampNeg) <|
  sy_bx (xe_in (a4 + 2) (M1 134 0).toNatClampNeg) <|
  sy_bx (xe_in (a4 + 3) (M1 134 0).toNatClampNeg) <|
  sy_bi (jfX12_after (M1 1000000 (Int32.toNatClampNeg (a4 + 1))) (M1 1000000 (Int32.toNatClampNeg (a4 + 2))) (M1 1000000 (Int32.toNatClampNeg (a4 + 3))) M1) fun v4 M3 =>
  jfL_law__1421 k23 a4 v2 v4 M3
def jfL_law__1505 (k23 : Int32 → sy_M → sy_O) (a4 : Int32) (M : sy_M) : sy_O :=
  jfL_law__3150 k23 a4 M
def jfL_law__1452 (k23 : Int32 → sy_M → sy_O) (a4 : Int32) (M : sy_M) : sy_O :=
  sy_bx (xe_in (a4 + 1) (M 134 0).toNatClampNeg) <|
  sy_bi (jfL_coins (M 1000000 (Int32.toNatClampNeg (a4 + 1))) M) fun v2 M1 =>
  sy_bx (xe_in (a4 + 1) (M1 134 0).toNatClampNeg) <|
  sy_bi (jfX12_coins (M1 1000000 (Int32.toNatClampNeg (a4 + 1))) M1) fun v4 M3 =>
  sy_bi (jfX12_thrown M3) fun v6 M5 =>
  if v6 = v2 then
    if v2 = 0 then
      if (lg_cmp (sy_rl M5 132 0) (Int32.toInt64 v4)) = 0 then
        jfL_law__1505 k23 a4 M5
      else
        sy_ri 0 M5
    else
      jfL_law__1505 k23 a4 M5
  else
    sy_ri 0 M5
def jfL_law__1561 (k23 : Int32 → sy_M → sy_O) (a4 : Int32) (M : sy_M) : sy_O :=
  jfL_law__3150 k23 a4 M
def jfL_law__1508 (k23 : Int32 → sy_M → sy_O) (a4 : Int32) (M : sy_M) : sy_O :=
  sy_bx (xe_in (a4 + 1) (M 134 0).toNatClampNeg) <|
  sy_bi (jfL_ease (M 1000000 (Int32.toNatClampNeg (a4 + 1))) M) fun v2 M1 =>
  sy_bx (xe_in (a4 + 1) (M1 134 0).toNatClampNeg) <|
  sy_bi (jfX12_ease (M1 1000000 (Int32.toNatClampNeg (a4 + 1))) M1) fun v4 M3 =>
  sy_bi (jfX12_thrown M3) fun v6 M5 =>
  if v6 = v2 then
    if v2 = 0 then
      if (lg_cmp (sy_rl M5 132 0) (Int32.toInt64 v4)) = 0 then
        jfL_law__1561 k23 a4 M5
      else
        sy_ri 0 M5
    else
      jfL_law__1561 k23 a4 M5
  else
    sy_ri 0 M5
def jfL_law__1629 (k23 : Int32 → sy_M → sy_O) (a4 : Int32) (M : sy_M) : sy_O :=
  jfL_law__3150 k23 a4 M
def jfL_law__1564 (k23 : Int32 → sy_M → sy_O) (a4 : Int32) (M : sy_M) : sy_O :=
  sy_bx (xe_in (a4 + 1) (M 134 0).toNatClampNeg) <|
  sy_bx (xe_in (a4 + 2) (M 134 0).toNatClampNeg) <|
  sy_bi (jfL_grief (M 1000000 (Int32.toNatClampNeg (a4 + 1))) (M 1000000 (Int32.toNatClampNeg (a4 + 2))) M) fun v2 M1 =>
  sy_bx (xe_in (a4 + 1) (M1 134 0).toNatClampNeg) <|
  sy_bx (xe_in (a4 + 2) (M1 134 0).toNatClampNeg) <|
  sy_bi (jfX12_grief (M1 1000000 (Int32.toNatClampNeg (a4 + 1))) (M1 1000000 (Int32.toNatClampNeg (a4 + 2))) M1) fun v4 M3 =>
  sy_bi (jfX12_thrown M3) fun v6 M5 =>
  if v6 = v2 then
    if v2 = 0 then
      if (lg_cmp (sy_rl M5 132 0) (Int32.toInt64 v4)) = 0 then
        jfL_law__1629 k23 a4 M5
      else
        sy_ri 0 M5
    else
      jfL_law__1629 k23 a4 M5
  else
    sy_ri 0 M5
def jfL_law__1632 (k23 : Int32 → sy_M → sy_O) (a4 : Int32) (M : sy_M) : sy_O :=
  sy_bi (jfX11_restless M) fun v2 M1 =>
  sy_bi (jfX12_restless M1) fun v4 M3 =>
  if v2 = v4 then
    jfL_law__3150 k23 a4 M3
  else
    sy_ri 0 M3
def jfL_law__1726 (k23 : Int32 → sy_M → sy_O) (a4 : Int32) (M : sy_M) : sy_O :=
  jfL_law__3150 k23 a4 M
def jfL_law__1693 (k23 : Int32 → sy_M → sy_O) (a4 : Int32) (a5 : Int32) (s0 : Int32) (s1 : Int32) (M : sy_M) : sy_O :=
  sy_bi (jfX12_saint s1 s0 M) fun v2 M1 =>
  sy_bi (jfX12_thrown M1) fun v4 M3 =>
  if v4 = a5 then
    if a5 = 0 then
      if (lg_cmp (sy_rl M3 132 0) (Int32.toInt64 v2)) = 0 then
        jfL_law__1726 k23 a4 M3
      else
        sy_ri 0 M3
    else
      jfL_law__1726 k23 a4 M3
  else
    sy_ri 0 M3
def jfL_law__1666 (k23 : Int32 → sy_M → sy_O) (a4 : Int32) (s0 : Int32) (s1 : Int32) (M : sy_M) : sy_O :=
  sy_bi (jfL_saint s1 s0 M) fun v2 M1 =>
  sy_bx (xe_in (a4 + 1) (M1 134 0).toNatClampNeg) <|
  sy_bx (xe_in (a4 + 2) (M1 134 0).toNatClampNeg) <|
  if (M1 1000000 (Int32.toNatClampNeg (a4 + 2))) = 0 then
    jfL_law__1693 k23 a4 v2 0 (M1 1000000 (Int32.toNatClampNeg (a4 + 1))) M1
  else
    jfL_law__1693 k23 a4 v2 1 (M1 1000000 (Int32.toNatClampNeg (a4 + 1))) M1
def jfL_law__1645 (k23 : Int32 → sy_M → sy_O) (a4 : Int32) (M : sy_M) : sy_O :=
  sy_bx (xe_in (a4 + 1) (M 134 0).toNatClampNeg) <|
  sy_bx (xe_in (a4 + 2) (M 134 0).toNatClampNeg) <|
  if (M 1000000 (Int32.toNatClampNeg (a4 + 2))) = 0 then
    jfL_law__1666 k23 a4 0 (M 1000000 (Int32.toNatClampNeg (a4 + 1))) M
  else
    jfL_law__1666 k23 a4 1 (M 1000000 (Int32.toNatClampNeg (a4 + 1))) M
def jfL_law__1794 (k23 : Int32 → sy_M → sy_O) (a4 : Int32) (M : sy_M) : sy_O :=
  jfL_law__3150 k23 a4 M
def jfL_law__1729 (k23 : Int32 → sy_M → sy_O) (a4 : Int32) (M : sy_M) : sy_O :=
  sy_bx (xe_in (a4 + 1) (M 134 0).toNatClampNeg) <|
  sy_bx (xe_in (a4 + 2) (M 134 0).toNatClampNeg) <|
  sy_bi (jfL_fair (M 1000000 (Int32.toNatClampNeg (a4 + 1))) (M 1000000 (Int32.toNatClampNeg (a4 + 2))) M) fun v2 M1 =>
  sy_bx (xe_in (a4 + 1) (M1 134 0).toNatClampNeg) <|
  sy_bx (xe_in (a4 + 2) (M1 134 0).toNatClampNeg) <|
  sy_bi (jfX12_fair (M1 1000000 (Int32.toNatClampNeg (a4 + 1))) (M1 1000000 (Int32.toNatClampNeg (a4 + 2))) M1) fun v4 M3 =>
  sy_bi (jfX12_thrown M3) fun v6 M5 =>
  if v6 = v2 then
    if v2 = 0 then
      if (lg_cmp (sy_rl M5 132 0) (Int32.toInt64 v4)) = 0 then
        jfL_law__1794 k23 a4 M5
      else
        sy_ri 0 M5
    else
      jfL_law__1794 k23 a4 M5
  else
    sy_ri 0 M5
def jfL_law__1797 (k23 : Int32 → sy_M → sy_O) (a4 : Int32) (M : sy_M) : sy_O :=
  sy_bx (xe_in (a4 + 1) (M 134 0).toNatClampNeg) <|
  sy_bi (jfX11_tops (M 1000000 (Int32.toNatClampNeg (a4 + 1))) M) fun v2 M1 =>
  sy_bx (xe_in (a4 + 1) (M1 134 0).toNatClampNeg) <|
  sy_bi (jfX12_tops (M1 1000000 (Int32.toNatClampNeg (a4 + 1))) M1) fun v4 M3 =>
  if v2 = v4 then
    jfL_law__3150 k23 a4 M3
  else
    sy_ri 0 M3
def jfL_law__1875 (k23 : Int32 → sy_M → sy_O) (a4 : Int32) (M : sy_M) : sy_O :=
  jfL_law__3150 k23 a4 M
def jfL_law__1822 (k23 : Int32 → sy_M → sy_O) (a4 : Int32) (M : sy_M) : sy_O :=
  sy_bx (xe_in (a4 + 1) (M 134 0).toNatClampNeg) <|
  sy_bi (jfL_stand (M 1000000 (Int32.toNatClampNeg (a4 + 1))) M) fun v2 M1 =>
  sy_bx (xe_in (a4 + 1) (M1 134 0).toNatClampNeg) <|
  sy_bi (jfX12_stand (M1 1000000 (Int32.toNatClampNeg (a4 + 1))) M1) fun v4 M3 =>
  sy_bi (jfX12_thrown M3) fun v6 M5 =>
  if v6 = v2 then
    if v2 = 0 then
      if (lg_cmp (sy_rl M5 132 0) (Int32.toInt64 v4)) = 0 then
        jfL_law__1875 k23 a4 M5
      else
        sy_ri 0 M5
    else
      jfL_law__1875 k23 a4 M5
  else
    sy_ri 0 M5
def jfL_law__1911 (k23 : Int32 → sy_M → sy_O) (a4 : Int32) (s0 : Int32) (s2 : Int32) (M : sy_M) : sy_O :=
  sy_bi (jfX12_dear s0 M) fun v2 M1 =>
  if s2 = v2 then
    jfL_law__3150 k23 a4 M1
  else
    sy_ri 0 M1
def jfL_law__1893 (k23 : Int32 → sy_M → sy_O) (a4 : Int32) (s0 : Int32) (M : sy_M) : sy_O :=
  sy_bi (jfX11_dear s0 M) fun v2 M1 =>
  sy_bx (xe_in (a4 + 1) (M1 134 0).toNatClampNeg) <|
  if (M1 1000000 (Int32.toNatClampNeg (a4 + 1))) = 0 then
    jfL_law__1911 k23 a4 0 v2 M1
  else
    jfL_law__1911 k23 a4 1 v2 M1
def jfL_law__1878 (k23 : Int32 → sy_M → sy_O) (a4 : Int32) (M : sy_M) : sy_O :=
  sy_bx (xe_in (a4 + 1) (M 134 0).toNatClampNeg) <|
  if (M 1000000 (Int32.toNatClampNeg (a4 + 1))) = 0 then
    jfL_law__1893 k23 a4 0 M
  else
    jfL_law__1893 k23 a4 1 M
def jfL_law__1972 (k23 : Int32 → sy_M → sy_O) (a4 : Int32) (M : sy_M) : sy_O :=
  jfL_law__3150 k23 a4 M
def jfL_law__1919 (k23 : Int32 → sy_M → sy_O) (a4 : Int32) (M : sy_M) : sy_O :=
  sy_bx (xe_in (a4 + 1) (M 134 0).toNatClampNeg) <|
  sy_bi (jfL_earns (M 1000000 (Int32.toNatClampNeg (a4 + 1))) M) fun v2 M1 =>
  sy_bx (xe_in (a4 + 1) (M1 134 0).toNatClampNeg) <|
  sy_bi (jfX12_earns (M1 1000000 (Int32.toNatClampNeg (a4 + 1))) M1) fun v4 M3 =>
  sy_bi (jfX12_thrown M3) fun v6 M5 =>
  if v6 = v2 then
    if v2 = 0 then
      if (lg_cmp (sy_rl M5 132 0) (Int32.toInt64 v4)) = 0 then
        jfL_law__1972 k23 a4 M5
      else
        sy_ri 0 M5
    else
      jfL_law__1972 k23 a4 M5
  else
    sy_ri 0 M5
def jfL_law__2044 (k23 : Int32 → sy_M → sy_O) (a4 : Int32) (M : sy_M) : sy_O :=
  jfL_law__3150 k23 a4 M
def jfL_law__2011 (k23 : Int32 → sy_M → sy_O) (a4 : Int32) (a5 : Int32) (s0 : Int32) (M : sy_M) : sy_O :=
  sy_bi (jfX12_culprit s0 M) fun v2 M1 =>
  sy_bi (jfX12_thrown M1) fun v4 M3 =>
  if v4 = a5 then
    if a5 = 0 then
      if (lg_cmp (sy_rl M3 132 0) (Int32.toInt64 v2)) = 0 then
        jfL_law__2044 k23 a4 M3
      else
        sy_ri 0 M3
    else
      jfL_law__2044 k23 a4 M3
  else
    sy_ri 0 M3
def jfL_law__1990 (k23 : Int32 → sy_M → sy_O) (a4 : Int32) (s0 : Int32) (M : sy_M) : sy_O :=
  sy_bi (jfL_culprit s0 M) fun v2 M1 =>
  sy_bx (xe_in (a4 + 1) (M1 134 0).toNatClampNeg) <|
  if (M1 1000000 (Int32.toNatClampNeg (a4 + 1))) = 0 then
    jfL_law__2011 k23 a4 v2 0 M1
  else
    jfL_law__2011 k23 a4 v2 1 M1
def jfL_law__1975 (k23 : Int32 → sy_M → sy_O) (a4 : Int32) (M : sy_M) : sy_O :=
  sy_bx (xe_in (a4 + 1) (M 134 0).toNatClampNeg) <|
  if (M 1000000 (Int32.toNatClampNeg (a4 + 1))) = 0 then
    jfL_law__1990 k23 a4 0 M
  else
    jfL_law__1990 k23 a4 1 M
def jfL_law__2088 (k23 : Int32 → sy_M → sy_O) (a4 : Int32) (M : sy_M) : sy_O :=
  jfL_law__3150 k23 a4 M
def jfL_law__2047 (k23 : Int32 → sy_M → sy_O) (a4 : Int32) (M : sy_M) : sy_O :=
  sy_bi (jfL_ask M) fun v2 M1 =>
  sy_bi (jfX12_ask M1) fun v4 M3 =>
  sy_bi (jfX12_thrown M3) fun v6 M5 =>
  if v6 = v2 then
    if v2 = 0 then
      if (lg_cmp (sy_rl M5 132 0) (Int32.toInt64 v4)) = 0 then
        jfL_law__2088 k23 a4 M5
      else
        sy_ri 0 M5
    else
      jfL_law__2088 k23 a4 M5
  else
    sy_ri 0 M5
def jfL_law__2144 (k23 : Int32 → sy_M → sy_O) (a4 : Int32) (M : sy_M) : sy_O :=
  jfL_law__3150 k23 a4 M
def jfL_law__2091 (k23 : Int32 → sy_M → sy_O) (a4 : Int32) (M : sy_M) : sy_O :=
  sy_bx (xe_in (a4 + 1) (M 134 0).toNatClampNeg) <|
  sy_bi (jfL_drawn (M 1000000 (Int32.toNatClampNeg (a4 + 1))) M) fun v2 M1 =>
  sy_bx (xe_in (a4 + 1) (M1 134 0).toNatClampNeg) <|
  sy_bi (jfX12_drawn (M1 1000000 (Int32.toNatClampNeg (a4 + 1))) M1) fun v4 M3 =>
  sy_bi (jfX12_thrown M3) fun v6 M5 =>
  if v6 = v2 then
    if v2 = 0 then
      if (lg_cmp (sy_rl M5 132 0) (Int32.toInt64 v4)) = 0 then
        jfL_law__2144 k23 a4 M5
      else
        sy_ri 0 M5
    else
      jfL_law__2144 k23 a4 M5
  else
    sy_ri 0 M5
def jfL_law__2219 (k23 : Int32 → sy_M → sy_O) (a4 : Int32) (M : sy_M) : sy_O :=
  jfL_law__3150 k23 a4 M
def jfL_law__2213 (k23 : Int32 → sy_M → sy_O) (a4 : Int32) (s0 : Int64) (s1 : Int64) (M : sy_M) : sy_O :=
  if (lg_cmp s1 s0) = 0 then
    jfL_law__2219 k23 a4 M
  else
    sy_ri 0 M
def jfL_law__2147 (k23 : Int32 → sy_M → sy_O) (a4 : Int32) (M : sy_M) : sy_O :=
  sy_bx (xe_in (a4 + 1) (M 134 0).toNatClampNeg) <|
  sy_bx (xe_in (a4 + 2) (M 134 0).toNatClampNeg) <|
  sy_bi (jfL_warmer (M 1000000 (Int32.toNatClampNeg (a4 + 1))) (M 1000000 (Int32.toNatClampNeg (a4 + 2))) M) fun v2 M1 =>
  sy_bx (xe_in (a4 + 1) (M1 134 0).toNatClampNeg) <|
  sy_bx (xe_in (a4 + 2) (M1 134 0).toNatClampNeg) <|
  sy_bi (jfX12_warmer (M1 1000000 (Int32.toNatClampNeg (a4 + 1))) (M1 1000000 (Int32.toNatClampNeg (a4 + 2))) M1) fun v4 M3 =>
  sy_bi (jfX12_thrown M3) fun v6 M5 =>
  if v6 = v2 then
    if v2 = 0 then
      if v4 = 0 then
        jfL_law__2213 k23 a4 (Int64.ofNat 0) (sy_rl M5 132 0) M5
      else
        jfL_law__2213 k23 a4 (Int64.ofNat 1) (sy_rl M5 132 0) M5
    else
      jfL_law__2219 k23 a4 M5
  else
    sy_ri 0 M5
def jfL_law__2275 (k23 : Int32 → sy_M → sy_O) (a4 : Int32) (M : sy_M) : sy_O :=
  jfL_law__3150 k23 a4 M
def jfL_law__2222 (k23 : Int32 → sy_M → sy_O) (a4 : Int32) (M : sy_M) : sy_O :=
  sy_bx (xe_in (a4 + 1) (M 134 0).toNatClampNeg) <|
  sy_bi (jfL_pairs (M 1000000 (Int32.toNatClampNeg (a4 + 1))) M) fun v2 M1 =>
  sy_bx (xe_in (a4 + 1) (M1 134 0).toNatClampNeg) <|
  sy_bi (jfX12_pairs (M1 1000000 (Int32.toNatClampNeg (a4 + 1))) M1) fun v4 M3 =>
  sy_bi (jfX12_thrown M3) fun v6 M5 =>
  if v6 = v2 then
    if v2 = 0 then
      if (lg_cmp (sy_rl M5 132 0) (Int32.toInt64 v4)) = 0 then
        jfL_law__2275 k23 a4 M5
      else
        sy_ri 0 M5
    else
      jfL_law__2275 k23 a4 M5
  else
    sy_ri 0 M5
def jfL_law__2278 (k23 : Int32 → sy_M → sy_O) (a4 : Int32) (M : sy_M) : sy_O :=
  sy_bi (jfX11_keepers M) fun v2 M1 =>
  sy_bi (jfX12_keepers M1) fun v4 M3 =>
  if v2 = v4 then
    jfL_law__3150 k23 a4 M3
  else
    sy_ri 0 M3
def jfL_law__2291 (k23 : Int32 → sy_M → sy_O) (a4 : Int32) (M : sy_M) : sy_O :=
  sy_bx (xe_in (a4 + 1) (M 134 0).toNatClampNeg) <|
  sy_bi (jfX11_kettle (M 1000000 (Int32.toNatClampNeg (a4 + 1))) M) fun v2 M1 =>
  sy_bx (xe_in (a4 + 1) (M1 134 0).toNatClampNeg) <|
  sy_bi (jfX12_kettle (M1 1000000 (Int32.toNatClampNeg (a4 + 1))) M1) fun v4 M3 =>
  if v2 = v4 then
    jfL_law__3150 k23 a4 M3
  else
    sy_ri 0 M3
def jfL_law__2369 (k23 : Int32 → sy_M → sy_O) (a4 : Int32) (M : sy_M) : sy_O :=
  jfL_law__3150 k23 a4 M
def jfL_law__2316 (k23 : Int32 → sy_M → sy_O) (a4 : Int32) (M : sy_M) : sy_O :=
  sy_bx (xe_in (a4 + 1) (M 134 0).toNatClampNeg) <|
  sy_bi (jfL_swings (M 1000000 (Int32.toNatClampNeg (a4 + 1))) M) fun v2 M1 =>
  sy_bx (xe_in (a4 + 1) (M1 134 0).toNatClampNeg) <|
  sy_bi (jfX12_swings (M1 1000000 (Int32.toNatClampNeg (a4 + 1))) M1) fun v4 M3 =>
  sy_bi (jfX12_thrown M3) fun v6 M5 =>
  if v6 = v2 then
    if v2 = 0 then
      if (lg_cmp (sy_rl M5 132 0) (Int32.toInt64 v4)) = 0 then
        jfL_law__2369 k23 a4 M5
      else
        sy_ri 0 M5
    else
      jfL_law__2369 k23 a4 M5
  else
    sy_ri 0 M5
def jfL_law__2372 (k23 : Int32 → sy_M → sy_O) (a4 : Int32) (M : sy_M) : sy_O :=
  sy_bi (jfX11_minimal M) fun v2 M1 =>
  sy_bi (jfX12_minimal M1) fun v4 M3 =>
  if v2 = v4 then
    jfL_law__3150 k23 a4 M3
  else
    sy_ri 0 M3
def jfL_law__2385 (k23 : Int32 → sy_M → sy_O) (a4 : Int32) (M : sy_M) : sy_O :=
  sy_bi (jfX11_dummies M) fun v2 M1 =>
  sy_bi (jfX12_dummies M1) fun v4 M3 =>
  if v2 = v4 then
    jfL_law__3150 k23 a4 M3
  else
    sy_ri 0 M3
def jfL_law__2463 (k23 : Int32 → sy_M → sy_O) (a4 : Int32) (M : sy_M) : sy_O :=
  jfL_law__3150 k23 a4 M
def jfL_law__2398 (k23 : Int32 → sy_M → sy_O) (a4 : Int32) (M : sy_M) : sy_O :=
  sy_bx (xe_in (a4 + 1) (M 134 0).toNatClampNeg) <|
  sy_bx (xe_in (a4 + 2) (M 134 0).toNatClampNeg) <|
  sy_bi (jfL_net (M 1000000 (Int32.toNatClampNeg (a4 + 1))) (M 1000000 (Int32.toNatClampNeg (a4 + 2))) M) fun v2 M1 =>
  sy_bx (xe_in (a4 + 1) (M1 134 0).toNatClampNeg) <|
  sy_bx (xe_in (a4 + 2) (M1 134 0).toNatClampNeg) <|
  sy_bi (jfX12_net (M1 1000000 (Int32.toNatClampNeg (a4 + 1))) (M1 1000000 (Int32.toNatClampNeg (a4 + 2))) M1) fun v4 M3 =>
  sy_bi (jfX12_thrown M3) fun v6 M5 =>
  if v6 = v2 then
    if v2 = 0 then
      if (lg_cmp (sy_rl M5 132 0) (Int32.toInt64 v4)) = 0 then
        jfL_law__2463 k23 a4 M5
      else
        sy_ri 0 M5
    else
      jfL_law__2463 k23 a4 M5
  else
    sy_ri 0 M5
def jfL_law__2466 (k23 : Int32 → sy_M → sy_O) (a4 : Int32) (M : sy_M) : sy_O :=
  sy_bi (jfX11_debt M) fun v2 M1 =>
  sy_bi (jfX12_debt M1) fun v4 M3 =>
  if v2 = v4 then
    jfL_law__3150 k23 a4 M3
  else
    sy_ri 0 M3
def jfL_law__2539 (k23 : Int32 → sy_M → sy_O) (a4 : Int32) (M : sy_M) : sy_O :=
  jfL_law__3150 k23 a4 M
def jfL_law__2533 (k23 : Int32 → sy_M → sy_O) (a4 : Int32) (s0 : Int64) (s1 : Int64) (M : sy_M) : sy_O :=
  if (lg_cmp s1 s0) = 0 then
    jfL_law__2539 k23 a4 M
  else
    sy_ri 0 M
def jfL_law__2479 (k23 : Int32 → sy_M → sy_O) (a4 : Int32) (M : sy_M) : sy_O :=
  sy_bx (xe_in (a4 + 1) (M 134 0).toNatClampNeg) <|
  sy_bi (jfL_ring (M 1000000 (Int32.toNatClampNeg (a4 + 1))) M) fun v2 M1 =>
  sy_bx (xe_in (a4 + 1) (M1 134 0).toNatClampNeg) <|
  sy_bi (jfX12_ring (M1 1000000 (Int32.toNatClampNeg (a4 + 1))) M1) fun v4 M3 =>
  sy_bi (jfX12_thrown M3) fun v6 M5 =>
  if v6 = v2 then
    if v2 = 0 then
      if v4 = 0 then
        jfL_law__2533 k23 a4 (Int64.ofNat 0) (sy_rl M5 132 0) M5
      else
        jfL_law__2533 k23 a4 (Int64.ofNat 1) (sy_rl M5 132 0) M5
    else
      jfL_law__2539 k23 a4 M5
  else
    sy_ri 0 M5
end
