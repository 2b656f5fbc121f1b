/-! ===== functions of the methods (4); written by wip/whole/run_f.py ===== -/
noncomputable section
/-! X6_readLines_2 StairMeter$Lines readLines (I)Z [('R', 48), 'I'] -/
def juX6_readLines_2_17 (k : Int32 → Int32 → sy_M → sy_O) (ls st : List Value) (M : sy_M) : sy_O := sy_xc 48 ls fun l => sy_xi l fun a1 l => sy_xi l fun a2 l => sy_xn l (sy_xn st (k a1 a2 M))
theorem jwX6_readLines_2_17 {d : Nat} {k : Int32 → Int32 → sy_M → sy_O} (hk : ∀ (a1 : Int32) (a2 : Int32) (M : sy_M) (r : xe_R × sy_M), k a1 a2 M = some r → sy_E (d) qX6_readLines 17 [.ref 48, .int a1, .int a2] [] M r) : ∀ ls st M r, juX6_readLines_2_17 k ls st M = some r → sy_E d qX6_readLines 17 ls st M r := by
  intro ls st M r h
  obtain ⟨l, e, h1⟩ := sy_xc_ok h; subst e
  obtain ⟨a1, l, e, h2⟩ := sy_xi_ok h1; subst e
  obtain ⟨a2, l, e, h3⟩ := sy_xi_ok h2; subst e
  obtain ⟨e, h4⟩ := sy_xn_ok h3; subst e
  obtain ⟨e, h5⟩ := sy_xn_ok h4; subst e
  exact hk a1 a2 M r h5
def jgX6_readLines_2_17 (k17 : Int32 → Int32 → sy_M → sy_O) (a1 : Int32) (a2 : Int32) (M : sy_M) : sy_O :=
  if a2 < a1 then
    sy_bi (jfX5_readLine M) fun v4 M3 =>
    if v4 = 0 then
      sy_ri 0 M3
    else
      sy_bi (jfX10_thing M3) fun v6 M5 =>
      if v6 = 256 then
        sy_ri 1 M5
      else
        sy_bi (jfX10_takes 59 M5) fun v8 M7 =>
        if v8 = 0 then
          sy_bi (jfX10_fails M7) fun v11 M10 =>
          sy_bb (sy_bo v11) <| sy_ri v11 M10
        else
          let v9 := a2 + 1
          k17 a1 v9 M7
  else
    sy_bi (jfX10_fails M) fun v2 M1 =>
    sy_bb (sy_bo v2) <| sy_ri v2 M1
def jfX6_readLines_2_17 : Nat → Int32 → Int32 → sy_M → sy_O
  | 0, _, _, _ => none
  | n + 1, a1, a2, M => jgX6_readLines_2_17 (jfX6_readLines_2_17 n) a1 a2 M
set_option maxRecDepth 100000 in
theorem jrX6_readLines_2_17 (k17 : Int32 → Int32 → sy_M → sy_O) (a1 : Int32) (a2 : Int32) (M : sy_M) : sy_run skX6 qX6_readLines [(17, .iload_n 2, 1, []), (18, .iload_n 1, 1, []), (19, .if_icmp .ge 53, 3, []), (22, .aload_n 0, 1, []), (23, .invokevirtual 19, 3, []), (26, .ifCond .ne 5, 3, []), (29, .iconst 0, 1, []), (30, .ireturn, 1, []), (31, .aload_n 0, 1, []), (32, .getfield 7, 3, []), (35, .invokevirtual 13, 3, []), (38, .sipush 256, 3, []), (41, .if_icmp .ne 5, 3, []), (44, .iconst 1, 1, []), (45, .ireturn, 1, []), (46, .aload_n 0, 1, []), (47, .getfield 7, 3, []), (50, .bipush 59, 2, []), (52, .invokevirtual 23, 3, []), (55, .ifCond .ne 11, 3, []), (58, .aload_n 0, 1, []), (59, .getfield 7, 3, []), (62, .invokevirtual 27, 3, []), (65, .ireturn, 1, []), (66, .iinc 2 1, 3, []), (69, .goto (-52), 3, []), (72, .aload_n 0, 1, [true, false, false]), (73, .getfield 7, 3, []), (76, .invokevirtual 27, 3, []), (79, .ireturn, 1, [])] [(88, 0, jcX10_fails), (48, 0, jcX5_readLine), (85, 0, jcX10_thing), (86, 0, jcX10_takes)] [(17, juX6_readLines_2_17 k17)] 31 [] 17 [.ref 48, .int a1, .int a2] [] M = jgX6_readLines_2_17 k17 a1 a2 M := rfl
theorem jtX6_readLines_2_17 : ∀ n : Nat, ∀ (a1 : Int32) (a2 : Int32) (M : sy_M) (r : xe_R × sy_M), jfX6_readLines_2_17 n a1 a2 M = some r → sy_E (42) qX6_readLines 17 [.ref 48, .int a1, .int a2] [] M r := by
  intro n
  induction n with
  | zero => intro a1 a2 M r h; exact absurd (show (none : sy_O) = some r from h) (by simp)
  | succ n ih => intro a1 a2 M r h; exact sy_run_by (d := 41) ((jrX6_readLines_2_17 _ _ _ M).trans h) hkX6 (by decide +kernel) (sy_cs_cons (jeX10_fails.deep (by decide)) (sy_cs_cons (jeX5_readLine.deep (by decide)) (sy_cs_cons (jeX10_thing.deep (by decide)) (sy_cs_cons (jeX10_takes.deep (by decide)) sy_cs_nil)))) (sy_us_cons (jwX6_readLines_2_17 ih) sy_us_nil)
def jfX6_readLines_2 (a1 : Int32) (M : sy_M) : sy_O :=
  sy_bi (jfX10_thing M) fun v2 M1 =>
  if v2 = 256 then
    sy_ri 1 M1
  else
    jfX6_readLines_2_17 sy_F a1 0 M1
set_option maxRecDepth 100000 in
theorem jrX6_readLines_2 (a1 : Int32) (M : sy_M) : sy_run skX6 qX6_readLines [(0, .aload_n 0, 1, []), (1, .getfield 7, 3, []), (4, .invokevirtual 13, 3, []), (7, .sipush 256, 3, []), (10, .if_icmp .ne 5, 3, []), (13, .iconst 1, 1, []), (14, .ireturn, 1, []), (15, .iconst 0, 1, [true, true, false]), (16, .istore_n 2, 1, [])] [(85, 0, jcX10_thing)] [(17, juX6_readLines_2_17 (jfX6_readLines_2_17 sy_F))] 10 [] 0 [.ref 48, .int a1, xe_no] [] M = jfX6_readLines_2 a1 M := rfl
theorem jtX6_readLines_2 : ∀ (a1 : Int32) (M : sy_M) (r : xe_R × sy_M), jfX6_readLines_2 a1 M = some r → sy_E (42) qX6_readLines 0 [.ref 48, .int a1, xe_no] [] M r := by
  intro a1 M r h
  exact sy_run_by (d := 41) ((jrX6_readLines_2 _ M).trans h) hkX6 (by decide +kernel) (sy_cs_cons (jeX10_thing.deep (by decide)) sy_cs_nil) (sy_us_cons (jwX6_readLines_2_17 (jtX6_readLines_2_17 sy_F)) sy_us_nil)
def jcX6_readLines_2 (as : List Value) (M : sy_M) (K : sy_O → sy_O) : sy_O := sy_xc 48 as fun l => sy_xi l fun a1 l => sy_xn l (K (jfX6_readLines_2 a1 M))
theorem jeX6_readLines_2 : sy_snd (42) 57 (jcX6_readLines_2) := by
  intro as M K r h
  obtain ⟨l, e, h1⟩ := sy_xc_ok h; subst e
  obtain ⟨a1, l, e, h2⟩ := sy_xi_ok h1; subst e
  obtain ⟨e, h3⟩ := sy_xn_ok h2; subst e
  exact ⟨_, h3, fun r1 h0 => ⟨qX6_readLines, rfl, rfl, jtX6_readLines_2 _ M r1 h0⟩⟩
/-! X4_takeOver StairMeter$Law takeOver (LStairMeter$Law;)V ['A', 'A'] -/
def juX4_takeOver_76 (k : Nat → Nat → sy_M → sy_O) (ls st : List Value) (M : sy_M) : sy_O := sy_xa ls fun r0 l => sy_xa l fun r1 l => sy_xn l (sy_xn st (k r0 r1 M))
theorem jwX4_takeOver_76 {d : Nat} {k : Nat → Nat → sy_M → sy_O} (hk : ∀ (r0 : Nat) (r1 : Nat) (M : sy_M) (r : xe_R × sy_M), k r0 r1 M = some r → sy_E (d) qX4_takeOver 76 [.ref r0, .ref r1] [] M r) : ∀ ls st M r, juX4_takeOver_76 k ls st M = some r → sy_E d qX4_takeOver 76 ls st M r := by
  intro ls st M r h
  obtain ⟨r0, l, e, h1⟩ := sy_xa_ok h; subst e
  obtain ⟨r1, l, e, h2⟩ := sy_xa_ok h1; subst e
  obtain ⟨e, h3⟩ := sy_xn_ok h2; subst e
  obtain ⟨e, h4⟩ := sy_xn_ok h3; subst e
  exact hk r0 r1 M r h4
def jfX4_takeOver_76 (r0 : Nat) (r1 : Nat) (M : sy_M) : sy_O :=
  sy_bs (sy_is 4 r1) <|
  sy_bs (sy_is 4 r0) <|
  let M1 := sy_upd M r0 5 (M r1 5)
  sy_bs (sy_is 4 r1) <|
  sy_bs (sy_is 4 r0) <|
  let M2 := sy_upd M1 r0 6 (M1 r1 6)
  sy_rv M2
set_option maxRecDepth 100000 in
theorem jrX4_takeOver_76 (r0 : Nat) (r1 : Nat) (M : sy_M) : sy_run skX4 qX4_takeOver [(76, .aload_n 0, 1, []), (77, .aload_n 1, 1, []), (78, .getfield 27, 3, []), (81, .putfield 27, 3, []), (84, .aload_n 0, 1, []), (85, .aload_n 1, 1, []), (86, .getfield 31, 3, []), (89, .putfield 31, 3, []), (92, .return_, 1, [])] [] [] 10 [] 76 [.ref r0, .ref r1] [] M = jfX4_takeOver_76 r0 r1 M := rfl
theorem jtX4_takeOver_76 : ∀ (r0 : Nat) (r1 : Nat) (M : sy_M) (r : xe_R × sy_M), jfX4_takeOver_76 r0 r1 M = some r → sy_E (1) qX4_takeOver 76 [.ref r0, .ref r1] [] M r := by
  intro r0 r1 M r h
  exact sy_run_by (d := 0) ((jrX4_takeOver_76 _ _ M).trans h) hkX4 (by decide +kernel) sy_cs_nil sy_us_nil
def jfX4_takeOver (r0 : Nat) (r1 : Nat) (M : sy_M) : sy_O :=
  sy_bs (sy_is 4 r1) <|
  sy_bs (sy_is 4 r0) <|
  sy_bb (sy_cok (r1 + 1) (r0 + 1) 0 0 12) <|
  let M1 := sy_cpy M (r1 + 1) 0 (r0 + 1) 0 12
  sy_bs (sy_is 4 r1) <|
  sy_bs (sy_is 4 r0) <|
  sy_bb (sy_cok (r1 + 2) (r0 + 2) 0 0 12) <|
  let M2 := sy_cpy M1 (r1 + 2) 0 (r0 + 2) 0 12
  sy_bs (sy_is 4 r1) <|
  sy_bs (sy_is 4 r0) <|
  sy_bb (sy_cok (r1 + 3) (r0 + 3) 0 0 12) <|
  let M3 := sy_cpy M2 (r1 + 3) 0 (r0 + 3) 0 12
  sy_bs (sy_is 4 r1) <|
  sy_bs (sy_is 4 r0) <|
  sy_bb (sy_cok (r1 + 4) (r0 + 4) 0 0 12) <|
  let M4 := sy_cpy M3 (r1 + 4) 0 (r0 + 4) 0 12
  sy_bs (sy_is 4 r1) <|
  sy_bs (sy_is 4 r0) <|
  sy_bb (sy_cok (r1 + 5) (r0 + 5) 0 0 512) <|
  let M5 := sy_cpy M4 (r1 + 5) 0 (r0 + 5) 0 512
  jfX4_takeOver_76 r0 r1 M5
set_option maxRecDepth 100000 in
theorem jrX4_takeOver (r0 : Nat) (r1 : Nat) (M : sy_M) : sy_run skX4 qX4_takeOver [(0, .aload_n 1, 1, []), (1, .getfield 9, 3, []), (4, .iconst 0, 1, []), (5, .aload_n 0, 1, []), (6, .getfield 9, 3, []), (9, .iconst 0, 1, []), (10, .bipush 12, 2, []), (12, .invokestatic 34, 3, []), (15, .aload_n 1, 1, []), (16, .getfield 15, 3, []), (19, .iconst 0, 1, []), (20, .aload_n 0, 1, []), (21, .getfield 15, 3, []), (24, .iconst 0, 1, []), (25, .bipush 12, 2, []), (27, .invokestatic 34, 3, []), (30, .aload_n 1, 1, []), (31, .getfield 18, 3, []), (34, .iconst 0, 1, []), (35, .aload_n 0, 1, []), (36, .getfield 18, 3, []), (39, .iconst 0, 1, []), (40, .bipush 12, 2, []), (42, .invokestatic 34, 3, []), (45, .aload_n 1, 1, []), (46, .getfield 21, 3, []), (49, .iconst 0, 1, []), (50, .aload_n 0, 1, []), (51, .getfield 21, 3, []), (54, .iconst 0, 1, []), (55, .bipush 12, 2, []), (57, .invokestatic 34, 3, []), (60, .aload_n 1, 1, []), (61, .getfield 24, 3, []), (64, .iconst 0, 1, []), (65, .aload_n 0, 1, []), (66, .getfield 24, 3, []), (69, .iconst 0, 1, []), (70, .sipush 512, 3, []), (73, .invokestatic 34, 3, [])] [] [(76, juX4_takeOver_76 (jfX4_takeOver_76))] 41 [] 0 [.ref r0, .ref r1] [] M = jfX4_takeOver r0 r1 M := rfl
theorem jtX4_takeOver : ∀ (r0 : Nat) (r1 : Nat) (M : sy_M) (r : xe_R × sy_M), jfX4_takeOver r0 r1 M = some r → sy_E (1) qX4_takeOver 0 [.ref r0, .ref r1] [] M r := by
  intro r0 r1 M r h
  exact sy_run_by (d := 0) ((jrX4_takeOver _ _ M).trans h) hkX4 (by decide +kernel) sy_cs_nil (sy_us_cons (jwX4_takeOver_76 (jtX4_takeOver_76)) sy_us_nil)
def jcX4_takeOver (as : List Value) (M : sy_M) (K : sy_O → sy_O) : sy_O := sy_xa as fun r0 l => sy_xa l fun r1 l => sy_xn l (K (jfX4_takeOver r0 r1 M))
theorem jeX4_takeOver : sy_snd (1) 39 (jcX4_takeOver) := by
  intro as M K r h
  obtain ⟨r0, l, e, h1⟩ := sy_xa_ok h; subst e
  obtain ⟨r1, l, e, h2⟩ := sy_xa_ok h1; subst e
  obtain ⟨e, h3⟩ := sy_xn_ok h2; subst e
  exact ⟨_, h3, fun r1 h0 => ⟨qX4_takeOver, rfl, rfl, jtX4_takeOver _ _ M r1 h0⟩⟩
/-! X11_law StairMeter law ()I [('R', 0)] -/
def jfX11_law (M : sy_M) : sy_O :=
  sy_bv (jfX4_clear 35 M) fun M1 =>
  sy_bv (jfX10_open M1) fun M2 =>
  sy_bi (jfX6_readLines_2 12 M2) fun v4 M3 =>
  let M5 := sy_upd M3 0 17 (M3 1 7)
  if v4 = 0 then
    sy_bx (xe_in (M5 133 0) 100000) <|
    sy_rt 20 (sy_upd M5 133 0 (M5 133 0 + 1))
  else
    sy_bv (jfX4_takeOver 29 35 M5) fun M6 =>
    sy_bv (jfX0_forget M6) fun M7 =>
    sy_ri (M7 29 6) M7
set_option maxRecDepth 100000 in
theorem jrX11_law (M : sy_M) : sy_run skX11 qX11_law [(0, .aload_n 0, 1, []), (1, .getfield 48, 3, []), (4, .invokevirtual 139, 3, []), (7, .aload_n 0, 1, []), (8, .getfield 10, 3, []), (11, .invokevirtual 119, 3, []), (14, .aload_n 0, 1, []), (15, .getfield 68, 3, []), (18, .bipush 12, 2, []), (20, .invokevirtual 142, 3, []), (23, .istore_n 1, 1, []), (24, .aload_n 0, 1, []), (25, .aload_n 0, 1, []), (26, .getfield 10, 3, []), (29, .getfield 126, 3, []), (32, .putfield 105, 3, []), (35, .iload_n 1, 1, []), (36, .ifCond .ne 11, 3, []), (39, .new 127, 3, []), (47, .aload_n 0, 1, [true, false]), (48, .getfield 44, 3, []), (51, .aload_n 0, 1, []), (52, .getfield 48, 3, []), (55, .invokevirtual 143, 3, []), (58, .aload_n 0, 1, []), (59, .getfield 89, 3, []), (62, .invokevirtual 136, 3, []), (65, .aload_n 0, 1, []), (66, .getfield 44, 3, []), (69, .getfield 146, 3, []), (72, .ireturn, 1, [])] [(38, 1, jcX4_clear), (78, 1, jcX10_open), (57, 0, jcX6_readLines_2), (39, 1, jcX4_takeOver), (4, 1, jcX0_forget)] [] 32 [] 0 [.ref 0, xe_no] [] M = jfX11_law M := rfl
theorem jtX11_law : ∀ (M : sy_M) (r : xe_R × sy_M), jfX11_law M = some r → sy_E (43) qX11_law 0 [.ref 0, xe_no] [] M r := by
  intro  M r h
  exact sy_run_by (d := 42) ((jrX11_law M).trans h) hkX11 (by decide +kernel) (sy_cs_cons (jeX4_clear.deep (by decide)) (sy_cs_cons (jeX10_open.deep (by decide)) (sy_cs_cons (jeX6_readLines_2.deep (by decide)) (sy_cs_cons (jeX4_takeOver.deep (by decide)) (sy_cs_cons (jeX0_forget.deep (by decide)) sy_cs_nil))))) sy_us_nil
def jcX11_law (as : List Value) (M : sy_M) (K : sy_O → sy_O) : sy_O := sy_xc 0 as fun l => sy_xn l (K (jfX11_law M))
theorem jeX11_law : sy_snd (43) 93 (jcX11_law) := by
  intro as M K r h
  obtain ⟨l, e, h1⟩ := sy_xc_ok h; subst e
  obtain ⟨e, h2⟩ := sy_xn_ok h1; subst e
  exact ⟨_, h2, fun r1 h0 => ⟨qX11_law, rfl, rfl, jtX11_law  M r1 h0⟩⟩
/-! L_law StairMeterLaw law (LStairMeter;[J)I [('R', 0), ('R', 132)] -/
def jfL_law (M : sy_M) : sy_O :=
  sy_hi (jfX11_law M) (fun v2 M1 =>
    let M5 := sy_wl M1 132 0 (Int32.toInt64 v2)
    sy_ri 0 M5)
  (fun c3 M4 => if c3 = 20 then sy_ri 1 M4 else none)
set_option maxRecDepth 100000 in
theorem jrL_law (M : sy_M) : sy_run skL qL_law [(0, .aload_n 1, 1, []), (1, .iconst 0, 1, []), (2, .aload_n 0, 1, []), (3, .invokevirtual 17, 3, []), (6, .i2l, 1, []), (7, .lastore, 1, []), (8, .goto 6, 3, []), (11, .astore_n 2, 1, [false, false, false]), (12, .iconst 1, 1, []), (13, .ireturn, 1, []), (14, .iconst 0, 1, [false, false, false]), (15, .ireturn, 1, [])] [(93, 3, jcX11_law)] [] 13 [] 0 [.ref 0, .ref 132, xe_no] [] M = jfL_law M := rfl
theorem jtL_law : ∀ (M : sy_M) (r : xe_R × sy_M), jfL_law M = some r → sy_E (44) qL_law 0 [.ref 0, .ref 132, xe_no] [] M r := by
  intro  M r h
  exact sy_run_by (d := 43) ((jrL_law M).trans h) hkL (by decide +kernel) (sy_cs_cons (jeX11_law.deep (by decide)) sy_cs_nil) sy_us_nil
def jcL_law (as : List Value) (M : sy_M) (K : sy_O → sy_O) : sy_O := sy_xc 0 as fun l => sy_xc 132 l fun l => sy_xn l (K (jfL_law M))
theorem jeL_law : sy_snd (44) 322 (jcL_law) := by
  intro as M K r h
  obtain ⟨l, e, h1⟩ := sy_xc_ok h; subst e
  obtain ⟨l, e, h2⟩ := sy_xc_ok h1; subst e
  obtain ⟨e, h3⟩ := sy_xn_ok h2; subst e
  exact ⟨_, h3, fun r1 h0 => ⟨qL_law, rfl, rfl, jtL_law  M r1 h0⟩⟩
/-! X12_law StairMeterModel law ()I [('R', 121)] -/
def juX12_law_55 (k : Int32 → Int32 → sy_M → sy_O) (ls st : List Value) (M : sy_M) : sy_O := sy_xc 121 ls fun l => sy_xi l fun a1 l => sy_xi l fun a2 l => sy_xn l (sy_xn st (k a1 a2 M))
theorem jwX12_law_55 {d : Nat} {k : Int32 → Int32 → sy_M → sy_O} (hk : ∀ (a1 : Int32) (a2 : Int32) (M : sy_M) (r : xe_R × sy_M), k a1 a2 M = some r → sy_E (d) qX12_law 55 [.ref 121, .int a1, .int a2] [] M r) : ∀ ls st M r, juX12_law_55 k ls st M = some r → sy_E d qX12_law 55 ls st M r := by
  intro ls st M r h
  obtain ⟨l, e, h1⟩ := sy_xc_ok h; subst e
  obtain ⟨a1, l, e, h2⟩ := sy_xi_ok h1; subst e
  obtain ⟨a2, l, e, h3⟩ := sy_xi_ok h2; subst e
  obtain ⟨e, h4⟩ := sy_xn_ok h3; subst e
  obtain ⟨e, h5⟩ := sy_xn_ok h4; subst e
  exact hk a1 a2 M r h5
def juX12_law_24 (k : Int32 → Int32 → sy_M → sy_O) (ls st : List Value) (M : sy_M) : sy_O := sy_xc 121 ls fun l => sy_xi l fun a1 l => sy_xv l fun _ l => sy_xn l (sy_xi st fun s0 l => sy_xc 121 l fun l => sy_xn l (k a1 s0 M))
theorem jwX12_law_24 {d : Nat} {k : Int32 → Int32 → sy_M → sy_O} (hk : ∀ (w2 : Value) (a1 : Int32) (s0 : Int32) (M : sy_M) (r : xe_R × sy_M), k a1 s0 M = some r → sy_E (d) qX12_law 24 [.ref 121, .int a1, w2] [.int s0, .ref 121] M r) : ∀ ls st M r, juX12_law_24 k ls st M = some r → sy_E d qX12_law 24 ls st M r := by
  intro ls st M r h
  obtain ⟨l, e, h1⟩ := sy_xc_ok h; subst e
  obtain ⟨a1, l, e, h2⟩ := sy_xi_ok h1; subst e
  obtain ⟨w2, l, e, h3⟩ := sy_xv_ok h2; subst e
  obtain ⟨e, h4⟩ := sy_xn_ok h3; subst e
  obtain ⟨s0, l, e, h5⟩ := sy_xi_ok h4; subst e
  obtain ⟨l, e, h6⟩ := sy_xc_ok h5; subst e
  obtain ⟨e, h7⟩ := sy_xn_ok h6; subst e
  exact hk _ a1 s0 M r h7
def jgX12_law_55 (k55 : Int32 → Int32 → sy_M → sy_O) (a1 : Int32) (a2 : Int32) (M : sy_M) : sy_O :=
  if a2 < (M 121 10) then
    sy_bx (xe_in a2 400) <|
    sy_bx (xe_in (426 + a2) 826) <|
    let M2 := sy_upd M 122 (Int32.toNatClampNeg (426 + a2)) (M 126 (Int32.toNatClampNeg a2))
    let v3 := a2 + 1
    k55 a1 v3 M2
  else
    let M1 := sy_upd M 121 6 0
    sy_ri a1 M1
def jfX12_law_55 : Nat → Int32 → Int32 → sy_M → sy_O
  | 0, _, _, _ => none
  | n + 1, a1, a2, M => jgX12_law_55 (jfX12_law_55 n) a1 a2 M
set_option maxRecDepth 100000 in
theorem jrX12_law_55 (k55 : Int32 → Int32 → sy_M → sy_O) (a1 : Int32) (a2 : Int32) (M : sy_M) : sy_run skX12 qX12_law [(55, .iload_n 2, 1, []), (56, .aload_n 0, 1, []), (57, .getfield 79, 3, []), (60, .if_icmp .ge 25, 3, []), (63, .aload_n 0, 1, []), (64, .getfield 7, 3, []), (67, .sipush 426, 3, []), (70, .iload_n 2, 1, []), (71, .iadd, 1, []), (72, .aload_n 0, 1, []), (73, .getfield 22, 3, []), (76, .iload_n 2, 1, []), (77, .iaload, 1, []), (78, .iastore, 1, []), (79, .iinc 2 1, 3, []), (82, .goto (-27), 3, []), (85, .aload_n 0, 1, [true, true, false]), (86, .iconst 0, 1, []), (87, .putfield 185, 3, []), (90, .iload_n 1, 1, []), (91, .ireturn, 1, [])] [] [(55, juX12_law_55 k55)] 22 [] 55 [.ref 121, .int a1, .int a2] [] M = jgX12_law_55 k55 a1 a2 M := rfl
theorem jtX12_law_55 : ∀ n : Nat, ∀ (a1 : Int32) (a2 : Int32) (M : sy_M) (r : xe_R × sy_M), jfX12_law_55 n a1 a2 M = some r → sy_E (48) qX12_law 55 [.ref 121, .int a1, .int a2] [] M r := by
  intro n
  induction n with
  | zero => intro a1 a2 M r h; exact absurd (show (none : sy_O) = some r from h) (by simp)
  | succ n ih => intro a1 a2 M r h; exact sy_run_by (d := 47) ((jrX12_law_55 _ _ _ M).trans h) hkX12 (by decide +kernel) sy_cs_nil (sy_us_cons (jwX12_law_55 ih) sy_us_nil)
def jfX12_law_24 (a1 : Int32) (s0 : Int32) (M : sy_M) : sy_O :=
  let M1 := sy_upd M 121 0 s0
  if 0 < (M1 121 0) then
    sy_ri 0 M1
  else
    let M2 := sy_upd M1 122 1 a1
    let M3 := sy_upd M2 122 2 (M2 121 10)
    jfX12_law_55 sy_F a1 0 M3
set_option maxRecDepth 100000 in
theorem jrX12_law_24 (w2 : Value) (a1 : Int32) (s0 : Int32) (M : sy_M) : sy_run skX12 qX12_law [(24, .putfield 45, 3, [true, true, false]), (27, .aload_n 0, 1, []), (28, .getfield 45, 3, []), (31, .ifCond .le 5, 3, []), (34, .iconst 0, 1, []), (35, .ireturn, 1, []), (36, .aload_n 0, 1, [true, true, false]), (37, .getfield 7, 3, []), (40, .iconst 1, 1, []), (41, .iload_n 1, 1, []), (42, .iastore, 1, []), (43, .aload_n 0, 1, []), (44, .getfield 7, 3, []), (47, .iconst 2, 1, []), (48, .aload_n 0, 1, []), (49, .getfield 79, 3, []), (52, .iastore, 1, []), (53, .iconst 0, 1, []), (54, .istore_n 2, 1, [])] [] [(55, juX12_law_55 (jfX12_law_55 sy_F))] 20 [] 24 [.ref 121, .int a1, w2] [.int s0, .ref 121] M = jfX12_law_24 a1 s0 M := rfl
theorem jtX12_law_24 : ∀ (w2 : Value) (a1 : Int32) (s0 : Int32) (M : sy_M) (r : xe_R × sy_M), jfX12_law_24 a1 s0 M = some r → sy_E (48) qX12_law 24 [.ref 121, .int a1, w2] [.int s0, .ref 121] M r := by
  intro w2 a1 s0 M r h
  exact sy_run_by (d := 47) ((jrX12_law_24 _ _ _ M).trans h) hkX12 (by decide +kernel) sy_cs_nil (sy_us_cons (jwX12_law_55 (jtX12_law_55 sy_F)) sy_us_nil)
def jfX12_law (M : sy_M) : sy_O :=
  sy_bv (jfX12_begins M) fun M1 =>
  sy_bi (jfX12_read 1 M1) fun v3 M2 =>
  if (M2 121 12) = (-1) then
    jfX12_law_24 v3 0 M2
  else
    jfX12_law_24 v3 1 M2
set_option maxRecDepth 100000 in
theorem jrX12_law (M : sy_M) : sy_run skX12 qX12_law [(0, .aload_n 0, 1, []), (1, .invokevirtual 175, 3, []), (4, .aload_n 0, 1, []), (5, .iconst 1, 1, []), (6, .invokevirtual 178, 3, []), (9, .istore_n 1, 1, []), (10, .aload_n 0, 1, []), (11, .aload_n 0, 1, []), (12, .getfield 25, 3, []), (15, .iconst (-1), 1, []), (16, .if_icmp .eq 7, 3, []), (19, .iconst 1, 1, []), (20, .goto 4, 3, []), (23, .iconst 0, 1, [true, true, false])] [(213, 1, jcX12_begins), (214, 0, jcX12_read)] [(24, juX12_law_24 (jfX12_law_24))] 15 [] 0 [.ref 121, xe_no, xe_no] [] M = jfX12_law M := rfl
theorem jtX12_law : ∀ (M : sy_M) (r : xe_R × sy_M), jfX12_law M = some r → sy_E (48) qX12_law 0 [.ref 121, xe_no, xe_no] [] M r := by
  intro  M r h
  exact sy_run_by (d := 47) ((jrX12_law M).trans h) hkX12 (by decide +kernel) (sy_cs_cons (jeX12_begins.deep (by decide)) (sy_cs_cons (jeX12_read.deep (by decide)) sy_cs_nil)) (sy_us_cons (jwX12_law_24 (jtX12_law_24)) sy_us_nil)
def jcX12_law (as : List Value) (M : sy_M) (K : sy_O → sy_O) : sy_O := sy_xc 121 as fun l => sy_xn l (K (jfX12_law M))
theorem jeX12_law : sy_snd (48) 225 (jcX12_law) := by
  intro as M K r h
  obtain ⟨l, e, h1⟩ := sy_xc_ok h; subst e
  obtain ⟨e, h2⟩ := sy_xn_ok h1; subst e
  exact ⟨_, h2, fun r1 h0 => ⟨qX12_law, rfl, rfl, jtX12_law  M r1 h0⟩⟩
/-! X11_fault StairMeter fault ()I [('R', 0)] -/
def jfX11_fault (M : sy_M) : sy_O :=
  sy_ri (M 0 17) M
set_option maxRecDepth 100000 in
theorem jrX11_fault (M : sy_M) : sy_run skX11 qX11_fault [(0, .aload_n 0, 1, []), (1, .getfield 105, 3, []), (4, .ireturn, 1, [])] [] [] 4 [] 0 [.ref 0] [] M = jfX11_fault M := rfl
theorem jtX11_fault : ∀ (M : sy_M) (r : xe_R × sy_M), jfX11_fault M = some r → sy_E (1) qX11_fault 0 [.ref 0] [] M r := by
  intro  M r h
  exact sy_run_by (d := 0) ((jrX11_fault M).trans h) hkX11 (by decide +kernel) sy_cs_nil sy_us_nil
def jcX11_fault (as : List Value) (M : sy_M) (K : sy_O → sy_O) : sy_O := sy_xc 0 as fun l => sy_xn l (K (jfX11_fault M))
theorem jeX11_fault : sy_snd (1) 94 (jcX11_fault) := by
  intro as M K r h
  obtain ⟨l, e, h1⟩ := sy_xc_ok h; subst e
  obtain ⟨e, h2⟩ := sy_xn_ok h1; subst e
  exact ⟨_, h2, fun r1 h0 => ⟨qX11_fault, rfl, rfl, jtX11_fault  M r1 h0⟩⟩
/-! X12_fault StairMeterModel fault ()I [('R', 121)] -/
def jfX12_fault (M : sy_M) : sy_O :=
  let M1 := sy_upd M 121 0 0
  sy_ri (M1 121 12) M1
set_option maxRecDepth 100000 in
theorem jrX12_fault (M : sy_M) : sy_run skX12 qX12_fault [(0, .aload_n 0, 1, []), (1, .iconst 0, 1, []), (2, .putfield 45, 3, []), (5, .aload_n 0, 1, []), (6, .getfield 25, 3, []), (9, .ireturn, 1, [])] [] [] 7 [] 0 [.ref 121] [] M = jfX12_fault M := rfl
theorem jtX12_fault : ∀ (M : sy_M) (r : xe_R × sy_M), jfX12_fault M = some r → sy_E (1) qX12_fault 0 [.ref 121] [] M r := by
  intro  M r h
  exact sy_run_by (d := 0) ((jrX12_fault M).trans h) hkX12 (by decide +kernel) sy_cs_nil sy_us_nil
def jcX12_fault (as : List Value) (M : sy_M) (K : sy_O → sy_O) : sy_O := sy_xc 121 as fun l => sy_xn l (K (jfX12_fault M))
theorem jeX12_fault : sy_snd (1) 226 (jcX12_fault) := by
  intro as M K r h
  obtain ⟨l, e, h1⟩ := sy_xc_ok h; subst e
  obtain ⟨e, h2⟩ := sy_xn_ok h1; subst e
  exact ⟨_, h2, fun r1 h0 => ⟨qX12_fault, rfl, rfl, jtX12_fault  M r1 h0⟩⟩
/-! X11_checkLodger StairMeter checkLodger (I)V [('R', 0), 'I'] -/
def jfX11_checkLodger (a1 : Int32) (M : sy_M) : sy_O :=
  if a1 < 0 then
    sy_bx (xe_in (M 133 0) 100000) <|
    sy_rt 22 (sy_upd M 133 0 (M 133 0 + 1))
  else
    if a1 < (M 9 3) then
      sy_rv M
    else
      sy_bx (xe_in (M 133 0) 100000) <|
      sy_rt 22 (sy_upd M 133 0 (M 133 0 + 1))
set_option maxRecDepth 100000 in
theorem jrX11_checkLodger (a1 : Int32) (M : sy_M) : sy_run skX11 qX11_checkLodger [(0, .iload_n 1, 1, []), (1, .ifCond .lt 14, 3, []), (4, .iload_n 1, 1, []), (5, .aload_n 0, 1, []), (6, .getfield 28, 3, []), (9, .getfield 207, 3, []), (12, .if_icmp .lt 11, 3, []), (15, .new 413, 3, [false, false]), (23, .return_, 1, [false, false])] [] [] 10 [] 0 [.ref 0, .int a1] [] M = jfX11_checkLodger a1 M := rfl
theorem jtX11_checkLodger : ∀ (a1 : Int32) (M : sy_M) (r : xe_R × sy_M), jfX11_checkLodger a1 M = some r → sy_E (1) qX11_checkLodger 0 [.ref 0, .int a1] [] M r := by
  intro a1 M r h
  exact sy_run_by (d := 0) ((jrX11_checkLodger _ M).trans h) hkX11 (by decide +kernel) sy_cs_nil sy_us_nil
def jcX11_checkLodger (as : List Value) (M : sy_M) (K : sy_O → sy_O) : sy_O := sy_xc 0 as fun l => sy_xi l fun a1 l => sy_xn l (K (jfX11_checkLodger a1 M))
theorem jeX11_checkLodger : sy_snd (1) 176 (jcX11_checkLodger) := by
  intro as M K r h
  obtain ⟨l, e, h1⟩ := sy_xc_ok h; subst e
  obtain ⟨a1, l, e, h2⟩ := sy_xi_ok h1; subst e
  obtain ⟨e, h3⟩ := sy_xn_ok h2; subst e
  exact ⟨_, h3, fun r1 h0 => ⟨qX11_checkLodger, rfl, rfl, jtX11_checkLodger _ M r1 h0⟩⟩
/-! X2_get StairMeter$House get (II)I ['A', 'I', 'I'] -/
def juX2_get_25 (k : Nat → Int32 → Int32 → Int32 → sy_M → sy_O) (ls st : List Value) (M : sy_M) : sy_O := sy_xa ls fun r0 l => sy_xi l fun a1 l => sy_xi l fun a2 l => sy_xv l fun _ l => sy_xn l (sy_xi st fun s0 l => sy_xn l (k r0 a1 a2 s0 M))
theorem jwX2_get_25 {d : Nat} {k : Nat → Int32 → Int32 → Int32 → sy_M → sy_O} (hk : ∀ (w3 : Value) (r0 : Nat) (a1 : Int32) (a2 : Int32) (s0 : Int32) (M : sy_M) (r : xe_R × sy_M), k r0 a1 a2 s0 M = some r → sy_E (d) qX2_get 25 [.ref r0, .int a1, .int a2, w3] [.int s0] M r) : ∀ ls st M r, juX2_get_25 k ls st M = some r → sy_E d qX2_get 25 ls st M r := by
  intro ls st M r h
  obtain ⟨r0, l, e, h1⟩ := sy_xa_ok h; subst e
  obtain ⟨a1, l, e, h2⟩ := sy_xi_ok h1; subst e
  obtain ⟨a2, l, e, h3⟩ := sy_xi_ok h2; subst e
  obtain ⟨w3, l, e, h4⟩ := sy_xv_ok h3; subst e
  obtain ⟨e, h5⟩ := sy_xn_ok h4; subst e
  obtain ⟨s0, l, e, h6⟩ := sy_xi_ok h5; subst e
  obtain ⟨e, h7⟩ := sy_xn_ok h6; subst e
  exact hk _ r0 a1 a2 s0 M r h7
def juX2_get_24 (k : Nat → Int32 → Int32 → sy_M → sy_O) (ls st : List Value) (M : sy_M) : sy_O := sy_xa ls fun r0 l => sy_xi l fun a1 l => sy_xi l fun a2 l => sy_xv l fun _ l => sy_xn l (sy_xn st (k r0 a1 a2 M))
theorem jwX2_get_24 {d : Nat} {k : Nat → Int32 → Int32 → sy_M → sy_O} (hk : ∀ (w3 : Value) (r0 : Nat) (a1 : Int32) (a2 : Int32) (M : sy_M) (r : xe_R × sy_M), k r0 a1 a2 M = some r → sy_E (d) qX2_get 24 [.ref r0, .int a1, .int a2, w3] [] M r) : ∀ ls st M r, juX2_get_24 k ls st M = some r → sy_E d qX2_get 24 ls st M r := by
  intro ls st M r h
  obtain ⟨r0, l, e, h1⟩ := sy_xa_ok h; subst e
  obtain ⟨a1, l, e, h2⟩ := sy_xi_ok h1; subst e
  obtain ⟨a2, l, e, h3⟩ := sy_xi_ok h2; subst e
  obtain ⟨w3, l, e, h4⟩ := sy_xv_ok h3; subst e
  obtain ⟨e, h5⟩ := sy_xn_ok h4; subst e
  obtain ⟨e, h6⟩ := sy_xn_ok h5; subst e
  exact hk _ r0 a1 a2 M r h6
def jfX2_get_25 (r0 : Nat) (a1 : Int32) (a2 : Int32) (s0 : Int32) (M : sy_M) : sy_O :=
  if s0 = 0 then
    sy_ri 0 M
  else
    sy_bs (sy_is 2 r0) <|
    sy_bx (xe_in ((a1 * 9) + a2) (sy_len M (r0 + 1))) <|
    sy_ri (M (r0 + 1) (Int32.toNatClampNeg ((a1 * 9) + a2))) M
set_option maxRecDepth 100000 in
theorem jrX2_get_25 (w3 : Value) (r0 : Nat) (a1 : Int32) (a2 : Int32) (s0 : Int32) (M : sy_M) : sy_run skX2 qX2_get [(25, .istore_n 3, 1, [true, true, true, false]), (26, .iload_n 3, 1, []), (27, .ifCond .eq 17, 3, []), (30, .aload_n 0, 1, []), (31, .getfield 9, 3, []), (34, .iload_n 1, 1, []), (35, .bipush 9, 2, []), (37, .imul, 1, []), (38, .iload_n 2, 1, []), (39, .iadd, 1, []), (40, .iaload, 1, []), (41, .goto 4, 3, []), (44, .iconst 0, 1, [false, false, false, false]), (45, .ireturn, 1, [false, false, false, false])] [] [] 15 [] 25 [.ref r0, .int a1, .int a2, w3] [.int s0] M = jfX2_get_25 r0 a1 a2 s0 M := rfl
theorem jtX2_get_25 : ∀ (w3 : Value) (r0 : Nat) (a1 : Int32) (a2 : Int32) (s0 : Int32) (M : sy_M) (r : xe_R × sy_M), jfX2_get_25 r0 a1 a2 s0 M = some r → sy_E (1) qX2_get 25 [.ref r0, .int a1, .int a2, w3] [.int s0] M r := by
  intro w3 r0 a1 a2 s0 M r h
  exact sy_run_by (d := 0) ((jrX2_get_25 _ _ _ _ _ M).trans h) hkX2 (by decide +kernel) sy_cs_nil sy_us_nil
def jfX2_get_24 (r0 : Nat) (a1 : Int32) (a2 : Int32) (M : sy_M) : sy_O :=
  jfX2_get_25 r0 a1 a2 0 M
set_option maxRecDepth 100000 in
theorem jrX2_get_24 (w3 : Value) (r0 : Nat) (a1 : Int32) (a2 : Int32) (M : sy_M) : sy_run skX2 qX2_get [(24, .iconst 0, 1, [true, true, true, false])] [] [(25, juX2_get_25 (jfX2_get_25))] 2 [] 24 [.ref r0, .int a1, .int a2, w3] [] M = jfX2_get_24 r0 a1 a2 M := rfl
theorem jtX2_get_24 : ∀ (w3 : Value) (r0 : Nat) (a1 : Int32) (a2 : Int32) (M : sy_M) (r : xe_R × sy_M), jfX2_get_24 r0 a1 a2 M = some r → sy_E (1) qX2_get 24 [.ref r0, .int a1, .int a2, w3] [] M r := by
  intro w3 r0 a1 a2 M r h
  exact sy_run_by (d := 0) ((jrX2_get_24 _ _ _ _ M).trans h) hkX2 (by decide +kernel) sy_cs_nil (sy_us_cons (jwX2_get_25 (jtX2_get_25)) sy_us_nil)
def jfX2_get (r0 : Nat) (a1 : Int32) (a2 : Int32) (M : sy_M) : sy_O :=
  if a1 < 0 then
    jfX2_get_24 r0 a1 a2 M
  else
    if a1 < 7 then
      if a2 < 0 then
        jfX2_get_24 r0 a1 a2 M
      else
        if a2 < 9 then
          jfX2_get_25 r0 a1 a2 1 M
        else
          jfX2_get_24 r0 a1 a2 M
    else
      jfX2_get_24 r0 a1 a2 M
set_option maxRecDepth 100000 in
theorem jrX2_get (r0 : Nat) (a1 : Int32) (a2 : Int32) (M : sy_M) : sy_run skX2 qX2_get [(0, .iload_n 1, 1, []), (1, .ifCond .lt 23, 3, []), (4, .iload_n 1, 1, []), (5, .bipush 7, 2, []), (7, .if_icmp .ge 17, 3, []), (10, .iload_n 2, 1, []), (11, .ifCond .lt 13, 3, []), (14, .iload_n 2, 1, []), (15, .bipush 9, 2, []), (17, .if_icmp .ge 7, 3, []), (20, .iconst 1, 1, []), (21, .goto 4, 3, [])] [] [(24, juX2_get_24 (jfX2_get_24)), (25, juX2_get_25 (jfX2_get_25))] 13 [] 0 [.ref r0, .int a1, .int a2, xe_no] [] M = jfX2_get r0 a1 a2 M := rfl
theorem jtX2_get : ∀ (r0 : Nat) (a1 : Int32) (a2 : Int32) (M : sy_M) (r : xe_R × sy_M), jfX2_get r0 a1 a2 M = some r → sy_E (1) qX2_get 0 [.ref r0, .int a1, .int a2, xe_no] [] M r := by
  intro r0 a1 a2 M r h
  exact sy_run_by (d := 0) ((jrX2_get _ _ _ M).trans h) hkX2 (by decide +kernel) sy_cs_nil (sy_us_cons (jwX2_get_24 (jtX2_get_24)) (sy_us_cons (jwX2_get_25 (jtX2_get_25)) sy_us_nil))
def jcX2_get (as : List Value) (M : sy_M) (K : sy_O → sy_O) : sy_O := sy_xa as fun r0 l => sy_xi l fun a1 l => sy_xi l fun a2 l => sy_xn l (K (jfX2_get r0 a1 a2 M))
theorem jeX2_get : sy_snd (1) 10 (jcX2_get) := by
  intro as M K r h
  obtain ⟨r0, l, e, h1⟩ := sy_xa_ok h; subst e
  obtain ⟨a1, l, e, h2⟩ := sy_xi_ok h1; subst e
  obtain ⟨a2, l, e, h3⟩ := sy_xi_ok h2; subst e
  obtain ⟨e, h4⟩ := sy_xn_ok h3; subst e
  exact ⟨_, h4, fun r1 h0 => ⟨qX2_get, rfl, rfl, jtX2_get _ _ _ M r1 h0⟩⟩
/-! X8_tell StairMeter$Night tell (LStairMeter$House;I)V [('R', 49), 'A', 'I'] -/
def juX8_tell_97 (k : Nat → Int32 → Int32 → Int32 → sy_M → sy_O) (ls st : List Value) (M : sy_M) : sy_O := sy_xc 49 ls fun l => sy_xa l fun r1 l => sy_xi l fun a2 l => sy_xn l (sy_xi st fun s0 l => sy_xi l fun s1 l => sy_xc 52 l fun l => sy_xn l (k r1 a2 s0 s1 M))
theorem jwX8_tell_97 {d : Nat} {k : Nat → Int32 → Int32 → Int32 → sy_M → sy_O} (hk : ∀ (r1 : Nat) (a2 : Int32) (s0 : Int32) (s1 : Int32) (M : sy_M) (r : xe_R × sy_M), k r1 a2 s0 s1 M = some r → sy_E (d) qX8_tell 97 [.ref 49, .ref r1, .int a2] [.int s0, .int s1, .ref 52] M r) : ∀ ls st M r, juX8_tell_97 k ls st M = some r → sy_E d qX8_tell 97 ls st M r := by
  intro ls st M r h
  obtain ⟨l, e, h1⟩ := sy_xc_ok h; subst e
  obtain ⟨r1, l, e, h2⟩ := sy_xa_ok h1; subst e
  obtain ⟨a2, l, e, h3⟩ := sy_xi_ok h2; subst e
  obtain ⟨e, h4⟩ := sy_xn_ok h3; subst e
  obtain ⟨s0, l, e, h5⟩ := sy_xi_ok h4; subst e
  obtain ⟨s1, l, e, h6⟩ := sy_xi_ok h5; subst e
  obtain ⟨l, e, h7⟩ := sy_xc_ok h6; subst e
  obtain ⟨e, h8⟩ := sy_xn_ok h7; subst e
  exact hk r1 a2 s0 s1 M r h8
def juX8_tell_57 (k : Nat → Int32 → sy_M → sy_O) (ls st : List Value) (M : sy_M) : sy_O := sy_xc 49 ls fun l => sy_xa l fun r1 l => sy_xi l fun a2 l => sy_xn l (sy_xn st (k r1 a2 M))
theorem jwX8_tell_57 {d : Nat} {k : Nat → Int32 → sy_M → sy_O} (hk : ∀ (r1 : Nat) (a2 : Int32) (M : sy_M) (r : xe_R × sy_M), k r1 a2 M = some r → sy_E (d) qX8_tell 57 [.ref 49, .ref r1, .int a2] [] M r) : ∀ ls st M r, juX8_tell_57 k ls st M = some r → sy_E d qX8_tell 57 ls st M r := by
  intro ls st M r h
  obtain ⟨l, e, h1⟩ := sy_xc_ok h; subst e
  obtain ⟨r1, l, e, h2⟩ := sy_xa_ok h1; subst e
  obtain ⟨a2, l, e, h3⟩ := sy_xi_ok h2; subst e
  obtain ⟨e, h4⟩ := sy_xn_ok h3; subst e
  obtain ⟨e, h5⟩ := sy_xn_ok h4; subst e
  exact hk r1 a2 M r h5
def jfX8_tell_97 (r1 : Nat) (a2 : Int32) (s0 : Int32) (s1 : Int32) (M : sy_M) : sy_O :=
  sy_bx (xe_in s1 9) <|
  let M1 := sy_upd M 52 (Int32.toNatClampNeg s1) s0
  sy_bs (sy_is 2 r1) <|
  sy_bi (jfX2_get r1 a2 6 M1) fun v3 M2 =>
  sy_bs (sy_is 2 r1) <|
  sy_bi (jfX2_get r1 a2 3 M2) fun v5 M4 =>
  if v5 < v3 then
    let M7 := sy_upd M4 52 8 1
    sy_rv M7
  else
    let M6 := sy_upd M4 52 8 0
    sy_rv M6
set_option maxRecDepth 100000 in
theorem jrX8_tell_97 (r1 : Nat) (a2 : Int32) (s0 : Int32) (s1 : Int32) (M : sy_M) : sy_run skX8 qX8_tell [(97, .iastore, 1, []), (98, .aload_n 0, 1, []), (99, .getfield 20, 3, []), (102, .bipush 8, 2, []), (104, .aload_n 1, 1, []), (105, .iload_n 2, 1, []), (106, .bipush 6, 2, []), (108, .invokevirtual 76, 3, []), (111, .aload_n 1, 1, []), (112, .iload_n 2, 1, []), (113, .iconst 3, 1, []), (114, .invokevirtual 76, 3, []), (117, .if_icmp .le 7, 3, []), (120, .iconst 1, 1, []), (121, .goto 4, 3, []), (124, .iconst 0, 1, [false, false, false]), (125, .iastore, 1, [false, false, false]), (126, .return_, 1, [])] [(10, 0, jcX2_get)] [] 19 [] 97 [.ref 49, .ref r1, .int a2] [.int s0, .int s1, .ref 52] M = jfX8_tell_97 r1 a2 s0 s1 M := rfl
theorem jtX8_tell_97 : ∀ (r1 : Nat) (a2 : Int32) (s0 : Int32) (s1 : Int32) (M : sy_M) (r : xe_R × sy_M), jfX8_tell_97 r1 a2 s0 s1 M = some r → sy_E (2) qX8_tell 97 [.ref 49, .ref r1, .int a2] [.int s0, .int s1, .ref 52] M r := by
  intro r1 a2 s0 s1 M r h
  exact sy_run_by (d := 1) ((jrX8_tell_97 _ _ _ _ M).trans h) hkX8 (by decide +kernel) (sy_cs_cons (jeX2_get.deep (by decide)) sy_cs_nil) sy_us_nil
def jfX8_tell_57 (r1 : Nat) (a2 : Int32) (M : sy_M) : sy_O :=
  sy_bs (sy_is 2 r1) <|
  let M1 := sy_upd M 52 5 (M r1 9)
  sy_bs (sy_is 2 r1) <|
  let M2 := sy_upd M1 52 6 (M1 r1 5)
  sy_bs (sy_is 2 r1) <|
  if (M2 r1 12) = a2 then
    jfX8_tell_97 r1 a2 1 7 M2
  else
    jfX8_tell_97 r1 a2 0 7 M2
set_option maxRecDepth 100000 in
theorem jrX8_tell_57 (r1 : Nat) (a2 : Int32) (M : sy_M) : sy_run skX8 qX8_tell [(57, .aload_n 0, 1, []), (58, .getfield 20, 3, []), (61, .iconst 5, 1, []), (62, .aload_n 1, 1, []), (63, .getfield 80, 3, []), (66, .iastore, 1, []), (67, .aload_n 0, 1, []), (68, .getfield 20, 3, []), (71, .bipush 6, 2, []), (73, .aload_n 1, 1, []), (74, .getfield 37, 3, []), (77, .iastore, 1, []), (78, .aload_n 0, 1, []), (79, .getfield 20, 3, []), (82, .bipush 7, 2, []), (84, .aload_n 1, 1, []), (85, .getfield 95, 3, []), (88, .iload_n 2, 1, []), (89, .if_icmp .ne 7, 3, []), (92, .iconst 1, 1, []), (93, .goto 4, 3, []), (96, .iconst 0, 1, [])] [] [(97, juX8_tell_97 (jfX8_tell_97))] 23 [] 57 [.ref 49, .ref r1, .int a2] [] M = jfX8_tell_57 r1 a2 M := rfl
theorem jtX8_tell_57 : ∀ (r1 : Nat) (a2 : Int32) (M : sy_M) (r : xe_R × sy_M), jfX8_tell_57 r1 a2 M = some r → sy_E (2) qX8_tell 57 [.ref 49, .ref r1, .int a2] [] M r := by
  intro r1 a2 M r h
  exact sy_run_by (d := 1) ((jrX8_tell_57 _ _ M).trans h) hkX8 (by decide +kernel) sy_cs_nil (sy_us_cons (jwX8_tell_97 (jtX8_tell_97)) sy_us_nil)
def jfX8_tell (r1 : Nat) (a2 : Int32) (M : sy_M) : sy_O :=
  let M1 := sy_upd M 52 0 a2
  sy_bs (sy_is 2 r1) <|
  sy_bi (jfX2_get r1 a2 0 M1) fun v3 M2 =>
  let M4 := sy_upd M2 52 1 v3
  sy_bs (sy_is 2 r1) <|
  sy_bi (jfX2_get r1 a2 5 M4) fun v6 M5 =>
  let M7 := sy_upd M5 52 2 v6
  sy_bs (sy_is 2 r1) <|
  sy_bi (jfX2_get r1 a2 8 M7) fun v9 M8 =>
  let M10 := sy_upd M8 52 3 v9
  sy_bs (sy_is 2 r1) <|
  sy_bi (jfX2_get r1 a2 6 M10) fun v12 M11 =>
  let M13 := sy_upd M11 52 4 v12
  jfX8_tell_57 r1 a2 M13
set_option maxRecDepth 100000 in
theorem jrX8_tell (r1 : Nat) (a2 : Int32) (M : sy_M) : sy_run skX8 qX8_tell [(0, .aload_n 0, 1, []), (1, .getfield 20, 3, []), (4, .iconst 0, 1, []), (5, .iload_n 2, 1, []), (6, .iastore, 1, []), (7, .aload_n 0, 1, []), (8, .getfield 20, 3, []), (11, .iconst 1, 1, []), (12, .aload_n 1, 1, []), (13, .iload_n 2, 1, []), (14, .iconst 0, 1, []), (15, .invokevirtual 76, 3, []), (18, .iastore, 1, []), (19, .aload_n 0, 1, []), (20, .getfield 20, 3, []), (23, .iconst 2, 1, []), (24, .aload_n 1, 1, []), (25, .iload_n 2, 1, []), (26, .iconst 5, 1, []), (27, .invokevirtual 76, 3, []), (30, .iastore, 1, []), (31, .aload_n 0, 1, []), (32, .getfield 20, 3, []), (35, .iconst 3, 1, []), (36, .aload_n 1, 1, []), (37, .iload_n 2, 1, []), (38, .bipush 8, 2, []), (40, .invokevirtual 76, 3, []), (43, .iastore, 1, []), (44, .aload_n 0, 1, []), (45, .getfield 20, 3, []), (48, .iconst 4, 1, []), (49, .aload_n 1, 1, []), (50, .iload_n 2, 1, []), (51, .bipush 6, 2, []), (53, .invokevirtual 76, 3, []), (56, .iastore, 1, [])] [(10, 0, jcX2_get)] [(57, juX8_tell_57 (jfX8_tell_57))] 38 [] 0 [.ref 49, .ref r1, .int a2] [] M = jfX8_tell r1 a2 M := rfl
theorem jtX8_tell : ∀ (r1 : Nat) (a2 : Int32) (M : sy_M) (r : xe_R × sy_M), jfX8_tell r1 a2 M = some r → sy_E (2) qX8_tell 0 [.ref 49, .ref r1, .int a2] [] M r := by
  intro r1 a2 M r h
  exact sy_run_by (d := 1) ((jrX8_tell _ _ M).trans h) hkX8 (by decide +kernel) (sy_cs_cons (jeX2_get.deep (by decide)) sy_cs_nil) (sy_us_cons (jwX8_tell_57 (jtX8_tell_57)) sy_us_nil)
def jcX8_tell (as : List Value) (M : sy_M) (K : sy_O → sy_O) : sy_O := sy_xc 49 as fun l => sy_xa l fun r1 l => sy_xi l fun a2 l => sy_xn l (K (jfX8_tell r1 a2 M))
theorem jeX8_tell : sy_snd (2) 68 (jcX8_tell) := by
  intro as M K r h
  obtain ⟨l, e, h1⟩ := sy_xc_ok h; subst e
  obtain ⟨r1, l, e, h2⟩ := sy_xa_ok h1; subst e
  obtain ⟨a2, l, e, h3⟩ := sy_xi_ok h2; subst e
  obtain ⟨e, h4⟩ := sy_xn_ok h3; subst e
  exact ⟨_, h4, fun r1 h0 => ⟨qX8_tell, rfl, rfl, jtX8_tell _ _ M r1 h0⟩⟩
/-! X4_holds StairMeter$Law holds (I[I)Z ['A', 'I', ('R', 52)] -/
def juX4_holds_323 (k : Nat → Int32 → Int32 → Int32 → Int32 → Int32 → Int32 → sy_M → sy_O) (ls st : List Value) (M : sy_M) : sy_O := sy_xa ls fun r0 l => sy_xi l fun a1 l => sy_xc 52 l fun l => sy_xi l fun a3 l => sy_xi l fun a4 l => sy_xi l fun a5 l => sy_xi l fun a6 l => sy_xi l fun a7 l => sy_xv l fun _ l => sy_xv l fun _ l => sy_xn l (sy_xn st (k r0 a1 a3 a4 a5 a6 a7 M))
theorem jwX4_holds_323 {d : Nat} {k : Nat → Int32 → Int32 → Int32 → Int32 → Int32 → Int32 → sy_M → sy_O} (hk : ∀ (w8 : Value) (w9 : Value) (r0 : Nat) (a1 : Int32) (a3 : Int32) (a4 : Int32) (a5 : Int32) (a6 : Int32) (a7 : Int32) (M : sy_M) (r : xe_R × sy_M), k r0 a1 a3 a4 a5 a6 a7 M = some r → sy_E (d) qX4_holds 323 [.ref r0, .int a1, .ref 52, .int a3, .int a4, .int a5, .int a6, .int a7, w8, w9] [] M r) : ∀ ls st M r, juX4_holds_323 k ls st M = some r → sy_E d qX4_holds 323 ls st M r := by
  intro ls st M r h
  obtain ⟨r0, l, e, h1⟩ := sy_xa_ok h; subst e
  obtain ⟨a1, l, e, h2⟩ := sy_xi_ok h1; subst e
  obtain ⟨l, e, h3⟩ := sy_xc_ok h2; subst e
  obtain ⟨a3, l, e, h4⟩ := sy_xi_ok h3; subst e
  obtain ⟨a4, l, e, h5⟩ := sy_xi_ok h4; subst e
  obtain ⟨a5, l, e, h6⟩ := sy_xi_ok h5; subst e
  obtain ⟨a6, l, e, h7⟩ := sy_xi_ok h6; subst e
  obtain ⟨a7, l, e, h8⟩ := sy_xi_ok h7; subst e
  obtain ⟨w8, l, e, h9⟩ := sy_xv_ok h8; subst e
  obtain ⟨w9, l, e, h10⟩ := sy_xv_ok h9; subst e
  obtain ⟨e, h11⟩ := sy_xn_ok h10; subst e
  obtain ⟨e, h12⟩ := sy_xn_ok h11; subst e
  exact hk _ _ r0 a1 a3 a4 a5 a6 a7 M r h12
def juX4_holds_156 (k : Nat → Int32 → Int32 → Int32 → Int32 → Int32 → Int32 → Int32 → sy_M → sy_O) (ls st : List Value) (M : sy_M) : sy_O := sy_xa ls fun r0 l => sy_xi l fun a1 l => sy_xc 52 l fun l => sy_xi l fun a3 l => sy_xi l fun a4 l => sy_xi l fun a5 l => sy_xi l fun a6 l => sy_xi l fun a7 l => sy_xi l fun a8 l => sy_xv l fun _ l => sy_xn l (sy_xn st (k r0 a1 a3 a4 a5 a6 a7 a8 M))
theorem jwX4_holds_156 {d : Nat} {k : Nat → Int32 → Int32 → Int32 → Int32 → Int32 → Int32 → Int32 → sy_M → sy_O} (hk : ∀ (w9 : Value) (r0 : Nat) (a1 : Int32) (a3 : Int32) (a4 : Int32) (a5 : Int32) (a6 : Int32) (a7 : Int32) (a8 : Int32) (M : sy_M) (r : xe_R × sy_M), k r0 a1 a3 a4 a5 a6 a7 a8 M = some r → sy_E (d) qX4_holds 156 [.ref r0, .int a1, .ref 52, .int a3, .int a4, .int a5, .int a6, .int a7, .int a8, w9] [] M r) : ∀ ls st M r, juX4_holds_156 k ls st M = some r → sy_E d qX4_holds 156 ls st M r := by
  intro ls st M r h
  obtain ⟨r0, l, e, h1⟩ := sy_xa_ok h; subst e
  obtain ⟨a1, l, e, h2⟩ := sy_xi_ok h1; subst e
  obtain ⟨l, e, h3⟩ := sy_xc_ok h2; subst e
  obtain ⟨a3, l, e, h4⟩ := sy_xi_ok h3; subst e
  obtain ⟨a4, l, e, h5⟩ := sy_xi_ok h4; subst e
  obtain ⟨a5, l, e, h6⟩ := sy_xi_ok h5; subst e
  obtain ⟨a6, l, e, h7⟩ := sy_xi_ok h6; subst e
  obtain ⟨a7, l, e, h8⟩ := sy_xi_ok h7; subst e
  obtain ⟨a8, l, e, h9⟩ := sy_xi_ok h8; subst e
  obtain ⟨w9, l, e, h10⟩ := sy_xv_ok h9; subst e
  obtain ⟨e, h11⟩ := sy_xn_ok h10; subst e
  obtain ⟨e, h12⟩ := sy_xn_ok h11; subst e
  exact hk _ r0 a1 a3 a4 a5 a6 a7 a8 M r h12
def juX4_holds_166 (k : Nat → Int32 → Int32 → Int32 → Int32 → Int32 → Int32 → Int32 → sy_M → sy_O) (ls st : List Value) (M : sy_M) : sy_O := sy_xa ls fun r0 l => sy_xi l fun a1 l => sy_xc 52 l fun l => sy_xi l fun a3 l => sy_xi l fun a4 l => sy_xi l fun a5 l => sy_xi l fun a6 l => sy_xi l fun a7 l => sy_xv l fun _ l => sy_xi l fun a9 l => sy_xn l (sy_xn st (k r0 a1 a3 a4 a5 a6 a7 a9 M))
theorem jwX4_holds_166 {d : Nat} {k : Nat → Int32 → Int32 → Int32 → Int32 → Int32 → Int32 → Int32 → sy_M → sy_O} (hk : ∀ (w8 : Value) (r0 : Nat) (a1 : Int32) (a3 : Int32) (a4 : Int32) (a5 : Int32) (a6 : Int32) (a7 : Int32) (a9 : Int32) (M : sy_M) (r : xe_R × sy_M), k r0 a1 a3 a4 a5 a6 a7 a9 M = some r → sy_E (d) qX4_holds 166 [.ref r0, .int a1, .ref 52, .int a3, .int a4, .int a5, .int a6, .int a7, w8, .int a9] [] M r) : ∀ ls st M r, juX4_holds_166 k ls st M = some r → sy_E d qX4_holds 166 ls st M r := by
  intro ls st M r h
  obtain ⟨r0, l, e, h1⟩ := sy_xa_ok h; subst e
  obtain ⟨a1, l, e, h2⟩ := sy_xi_ok h1; subst e
  obtain ⟨l, e, h3⟩ := sy_xc_ok h2; subst e
  obtain ⟨a3, l, e, h4⟩ := sy_xi_ok h3; subst e
  obtain ⟨a4, l, e, h5⟩ := sy_xi_ok h4; subst e
  obtain ⟨a5, l, e, h6⟩ := sy_xi_ok h5; subst e
  obtain ⟨a6, l, e, h7⟩ := sy_xi_ok h6; subst e
  obtain ⟨a7, l, e, h8⟩ := sy_xi_ok h7; subst e
  obtain ⟨w8, l, e, h9⟩ := sy_xv_ok h8; subst e
  obtain ⟨a9, l, e, h10⟩ := sy_xi_ok h9; subst e
  obtain ⟨e, h11⟩ := sy_xn_ok h10; subst e
  obtain ⟨e, h12⟩ := sy_xn_ok h11; subst e
  exact hk _ r0 a1 a3 a4 a5 a6 a7 a9 M r h12
def juX4_holds_199 (k : Nat → Int32 → Int32 → Int32 → Int32 → Int32 → sy_M → sy_O) (ls st : List Value) (M : sy_M) : sy_O := sy_xa ls fun r0 l => sy_xi l fun a1 l => sy_xc 52 l fun l => sy_xi l fun a3 l => sy_xv l fun _ l => sy_xi l fun a5 l => sy_xv l fun _ l => sy_xi l fun a7 l => sy_xv l fun _ l => sy_xv l fun _ l => sy_xn l (sy_xi st fun s0 l => sy_xn l (k r0 a1 a3 a5 a7 s0 M))
theorem jwX4_holds_199 {d : Nat} {k : Nat → Int32 → Int32 → Int32 → Int32 → Int32 → sy_M → sy_O} (hk : ∀ (w4 : Value) (w6 : Value) (w8 : Value) (w9 : Value) (r0 : Nat) (a1 : Int32) (a3 : Int32) (a5 : Int32) (a7 : Int32) (s0 : Int32) (M : sy_M) (r : xe_R × sy_M), k r0 a1 a3 a5 a7 s0 M = some r → sy_E (d) qX4_holds 199 [.ref r0, .int a1, .ref 52, .int a3, w4, .int a5, w6, .int a7, w8, w9] [.int s0] M r) : ∀ ls st M r, juX4_holds_199 k ls st M = some r → sy_E d qX4_holds 199 ls st M r := by
  intro ls st M r h
  obtain ⟨r0, l, e, h1⟩ := sy_xa_ok h; subst e
  obtain ⟨a1, l, e, h2⟩ := sy_xi_ok h1; subst e
  obtain ⟨l, e, h3⟩ := sy_xc_ok h2; subst e
  obtain ⟨a3, l, e, h4⟩ := sy_xi_ok h3; subst e
  obtain ⟨w4, l, e, h5⟩ := sy_xv_ok h4; subst e
  obtain ⟨a5, l, e, h6⟩ := sy_xi_ok h5; subst e
  obtain ⟨w6, l, e, h7⟩ := sy_xv_ok h6; subst e
  obtain ⟨a7, l, e, h8⟩ := sy_xi_ok h7; subst e
  obtain ⟨w8, l, e, h9⟩ := sy_xv_ok h8; subst e
  obtain ⟨w9, l, e, h10⟩ := sy_xv_ok h9; subst e
  obtain ⟨e, h11⟩ := sy_xn_ok h10; subst e
  obtain ⟨s0, l, e, h12⟩ := sy_xi_ok h11; subst e
  obtain ⟨e, h13⟩ := sy_xn_ok h12; subst e
  exact hk _ _ _ _ r0 a1 a3 a5 a7 s0 M r h13
def juX4_holds_176 (k : Nat → Int32 → Int32 → Int32 → Int32 → sy_M → sy_O) (ls st : List Value) (M : sy_M) : sy_O := sy_xa ls fun r0 l => sy_xi l fun a1 l => sy_xc 52 l fun l => sy_xi l fun a3 l => sy_xv l fun _ l => sy_xv l fun _ l => sy_xi l fun a6 l => sy_xi l fun a7 l => sy_xv l fun _ l => sy_xv l fun _ l => sy_xn l (sy_xn st (k r0 a1 a3 a6 a7 M))
theorem jwX4_holds_176 {d : Nat} {k : Nat → Int32 → Int32 → Int32 → Int32 → sy_M → sy_O} (hk : ∀ (w4 : Value) (w5 : Value) (w8 : Value) (w9 : Value) (r0 : Nat) (a1 : Int32) (a3 : Int32) (a6 : Int32) (a7 : Int32) (M : sy_M) (r : xe_R × sy_M), k r0 a1 a3 a6 a7 M = some r → sy_E (d) qX4_holds 176 [.ref r0, .int a1, .ref 52, .int a3, w4, w5, .int a6, .int a7, w8, w9] [] M r) : ∀ ls st M r, juX4_holds_176 k ls st M = some r → sy_E d qX4_holds 176 ls st M r := by
  intro ls st M r h
  obtain ⟨r0, l, e, h1⟩ := sy_xa_ok h; subst e
  obtain ⟨a1, l, e, h2⟩ := sy_xi_ok h1; subst e
  obtain ⟨l, e, h3⟩ := sy_xc_ok h2; subst e
  obtain ⟨a3, l, e, h4⟩ := sy_xi_ok h3; subst e
  obtain ⟨w4, l, e, h5⟩ := sy_xv_ok h4; subst e
  obtain ⟨w5, l, e, h6⟩ := sy_xv_ok h5; subst e
  obtain ⟨a6, l, e, h7⟩ := sy_xi_ok h6; subst e
  obtain ⟨a7, l, e, h8⟩ := sy_xi_ok h7; subst e
  obtain ⟨w8, l, e, h9⟩ := sy_xv_ok h8; subst e
  obtain ⟨w9, l, e, h10⟩ := sy_xv_ok h9; subst e
  obtain ⟨e, h11⟩ := sy_xn_ok h10; subst e
  obtain ⟨e, h12⟩ := sy_xn_ok h11; subst e
  exact hk _ _ _ _ r0 a1 a3 a6 a7 M r h12
def juX4_holds_239 (k : Nat → Int32 → Int32 → Int32 → Int32 → Int32 → sy_M → sy_O) (ls st : List Value) (M : sy_M) : sy_O := sy_xa ls fun r0 l => sy_xi l fun a1 l => sy_xc 52 l fun l => sy_xv l fun _ l => sy_xi l fun a4 l => sy_xi l fun a5 l => sy_xv l fun _ l => sy_xi l fun a7 l => sy_xv l fun _ l => sy_xv l fun _ l => sy_xn l (sy_xi st fun s0 l => sy_xn l (k r0 a1 a4 a5 a7 s0 M))
theorem jwX4_holds_239 {d : Nat} {k : Nat → Int32 → Int32 → Int32 → Int32 → Int32 → sy_M → sy_O} (hk : ∀ (w3 : Value) (w6 : Value) (w8 : Value) (w9 : Value) (r0 : Nat) (a1 : Int32) (a4 : Int32) (a5 : Int32) (a7 : Int32) (s0 : Int32) (M : sy_M) (r : xe_R × sy_M), k r0 a1 a4 a5 a7 s0 M = some r → sy_E (d) qX4_holds 239 [.ref r0, .int a1, .ref 52, w3, .int a4, .int a5, w6, .int a7, w8, w9] [.int s0] M r) : ∀ ls st M r, juX4_holds_239 k ls st M = some r → sy_E d qX4_holds 239 ls st M r := by
  intro ls st M r h
  obtain ⟨r0, l, e, h1⟩ := sy_xa_ok h; subst e
  obtain ⟨a1, l, e, h2⟩ := sy_xi_ok h1; subst e
  obtain ⟨l, e, h3⟩ := sy_xc_ok h2; subst e
  obtain ⟨w3, l, e, h4⟩ := sy_xv_ok h3; subst e
  obtain ⟨a4, l, e, h5⟩ := sy_xi_ok h4; subst e
  obtain ⟨a5, l, e, h6⟩ := sy_xi_ok h5; subst e
  obtain ⟨w6, l, e, h7⟩ := sy_xv_ok h6; subst e
  obtain ⟨a7, l, e, h8⟩ := sy_xi_ok h7; subst e
  obtain ⟨w8, l, e, h9⟩ := sy_xv_ok h8; subst e
  obtain ⟨w9, l, e, h10⟩ := sy_xv_ok h9; subst e
  obtain ⟨e, h11⟩ := sy_xn_ok h10; subst e
  obtain ⟨s0, l, e, h12⟩ := sy_xi_ok h11; subst e
  obtain ⟨e, h13⟩ := sy_xn_ok h12; subst e
  exact hk _ _ _ _ r0 a1 a4 a5 a7 s0 M r h13
def juX4_holds_207 (k : Nat → Int32 → Int32 → Int32 → Int32 → Int32 → sy_M → sy_O) (ls st : List Value) (M : sy_M) : sy_O := sy_xa ls fun r0 l => sy_xi l fun a1 l => sy_xc 52 l fun l => sy_xv l fun _ l => sy_xi l fun a4 l => sy_xi l fun a5 l => sy_xi l fun a6 l => sy_xi l fun a7 l => sy_xv l fun _ l => sy_xv l fun _ l => sy_xn l (sy_xn st (k r0 a1 a4 a5 a6 a7 M))
theorem jwX4_holds_207 {d : Nat} {k : Nat → Int32 → Int32 → Int32 → Int32 → Int32 → sy_M → sy_O} (hk : ∀ (w3 : Value) (w8 : Value) (w9 : Value) (r0 : Nat) (a1 : Int32) (a4 : Int32) (a5 : Int32) (a6 : Int32) (a7 : Int32) (M : sy_M) (r : xe_R × sy_M), k r0 a1 a4 a5 a6 a7 M = some r → sy_E (d) qX4_holds 207 [.ref r0, .int a1, .ref 52, w3, .int a4, .int a5, .int a6, .int a7, w8, w9] [] M r) : ∀ ls st M r, juX4_holds_207 k ls st M = some r → sy_E d qX4_holds 207 ls st M r := by
  intro ls st M r h
  obtain ⟨r0, l, e, h1⟩ := sy_xa_ok h; subst e
  obtain ⟨a1, l, e, h2⟩ := sy_xi_ok h1; subst e
  obtain ⟨l, e, h3⟩ := sy_xc_ok h2; subst e
  obtain ⟨w3, l, e, h4⟩ := sy_xv_ok h3; subst e
  obtain ⟨a4, l, e, h5⟩ := sy_xi_ok h4; subst e
  obtain ⟨a5, l, e, h6⟩ := sy_xi_ok h5; subst e
  obtain ⟨a6, l, e, h7⟩ := sy_xi_ok h6; subst e
  obtain ⟨a7, l, e, h8⟩ := sy_xi_ok h7; subst e
  obtain ⟨w8, l, e, h9⟩ := sy_xv_ok h8; subst e
  obtain ⟨w9, l, e, h10⟩ := sy_xv_ok h9; subst e
  obtain ⟨e, h11⟩ := sy_xn_ok h10; subst e
  obtain ⟨e, h12⟩ := sy_xn_ok h11; subst e
  exact hk _ _ _ r0 a1 a4 a5 a6 a7 M r h12
def juX4_holds_256 (k : Nat → Int32 → Int32 → Int32 → Int32 → Int32 → Int32 → sy_M → sy_O) (ls st : List Value) (M : sy_M) : sy_O := sy_xa ls fun r0 l => sy_xi l fun a1 l => sy_xc 52 l fun l => sy_xv l fun _ l => sy_xi l fun a4 l => sy_xi l fun a5 l => sy_xi l fun a6 l => sy_xi l fun a7 l => sy_xv l fun _ l => sy_xv l fun _ l => sy_xn l (sy_xi st fun s0 l => sy_xn l (k r0 a1 a4 a5 a6 a7 s0 M))
theorem jwX4_holds_256 {d : Nat} {k : Nat → Int32 → Int32 → Int32 → Int32 → Int32 → Int32 → sy_M → sy_O} (hk : ∀ (w3 : Value) (w8 : Value) (w9 : Value) (r0 : Nat) (a1 : Int32) (a4 : Int32) (a5 : Int32) (a6 : Int32) (a7 : Int32) (s0 : Int32) (M : sy_M) (r : xe_R × sy_M), k r0 a1 a4 a5 a6 a7 s0 M = some r → sy_E (d) qX4_holds 256 [.ref r0, .int a1, .ref 52, w3, .int a4, .int a5, .int a6, .int a7, w8, w9] [.int s0] M r) : ∀ ls st M r, juX4_holds_256 k ls st M = some r → sy_E d qX4_holds 256 ls st M r := by
  intro ls st M r h
  obtain ⟨r0, l, e, h1⟩ := sy_xa_ok h; subst e
  obtain ⟨a1, l, e, h2⟩ := sy_xi_ok h1; subst e
  obtain ⟨l, e, h3⟩ := sy_xc_ok h2; subst e
  obtain ⟨w3, l, e, h4⟩ := sy_xv_ok h3; subst e
  obtain ⟨a4, l, e, h5⟩ := sy_xi_ok h4; subst e
  obtain ⟨a5, l, e, h6⟩ := sy_xi_ok h5; subst e
  obtain ⟨a6, l, e, h7⟩ := sy_xi_ok h6; subst e
  obtain ⟨a7, l, e, h8⟩ := sy_xi_ok h7; subst e
  obtain ⟨w8, l, e, h9⟩ := sy_xv_ok h8; subst e
  obtain ⟨w9, l, e, h10⟩ := sy_xv_ok h9; subst e
  obtain ⟨e, h11⟩ := sy_xn_ok h10; subst e
  obtain ⟨s0, l, e, h12⟩ := sy_xi_ok h11; subst e
  obtain ⟨e, h13⟩ := sy_xn_ok h12; subst e
  exact hk _ _ _ r0 a1 a4 a5 a6 a7 s0 M r h13
def juX4_holds_246 (k : Nat → Int32 → Int32 → Int32 → Int32 → Int32 → Int32 → sy_M → sy_O) (ls st : List Value) (M : sy_M) : sy_O := sy_xa ls fun r0 l => sy_xi l fun a1 l => sy_xc 52 l fun l => sy_xv l fun _ l => sy_xi l fun a4 l => sy_xi l fun a5 l => sy_xi l fun a6 l => sy_xi l fun a7 l => sy_xv l fun _ l => sy_xi l fun a9 l => sy_xn l (sy_xn st (k r0 a1 a4 a5 a6 a7 a9 M))
theorem jwX4_holds_246 {d : Nat} {k : Nat → Int32 → Int32 → Int32 → Int32 → Int32 → Int32 → sy_M → sy_O} (hk : ∀ (w3 : Value) (w8 : Value) (r0 : Nat) (a1 : Int32) (a4 : Int32) (a5 : Int32) (a6 : Int32) (a7 : Int32) (a9 : Int32) (M : sy_M) (r : xe_R × sy_M), k r0 a1 a4 a5 a6 a7 a9 M = some r → sy_E (d) qX4_holds 246 [.ref r0, .int a1, .ref 52, w3, .int a4, .int a5, .int a6, .int a7, w8, .int a9] [] M r) : ∀ ls st M r, juX4_holds_246 k ls st M = some r → sy_E d qX4_holds 246 ls st M r := by
  intro ls st M r h
  obtain ⟨r0, l, e, h1⟩ := sy_xa_ok h; subst e
  obtain ⟨a1, l, e, h2⟩ := sy_xi_ok h1; subst e
  obtain ⟨l, e, h3⟩ := sy_xc_ok h2; subst e
  obtain ⟨w3, l, e, h4⟩ := sy_xv_ok h3; subst e
  obtain ⟨a4, l, e, h5⟩ := sy_xi_ok h4; subst e
  obtain ⟨a5, l, e, h6⟩ := sy_xi_ok h5; subst e
  obtain ⟨a6, l, e, h7⟩ := sy_xi_ok h6; subst e
  obtain ⟨a7, l, e, h8⟩ := sy_xi_ok h7; subst e
  obtain ⟨w8, l, e, h9⟩ := sy_xv_ok h8; subst e
  obtain ⟨a9, l, e, h10⟩ := sy_xi_ok h9; subst e
  obtain ⟨e, h11⟩ := sy_xn_ok h10; subst e
  obtain ⟨e, h12⟩ := sy_xn_ok h11; subst e
  exact hk _ _ r0 a1 a4 a5 a6 a7 a9 M r h12
def juX4_holds_269 (k : Nat → Int32 → Int32 → Int32 → Int32 → Int32 → Int32 → sy_M → sy_O) (ls st : List Value) (M : sy_M) : sy_O := sy_xa ls fun r0 l => sy_xi l fun a1 l => sy_xc 52 l fun l => sy_xv l fun _ l => sy_xi l fun a4 l => sy_xi l fun a5 l => sy_xi l fun a6 l => sy_xi l fun a7 l => sy_xv l fun _ l => sy_xv l fun _ l => sy_xn l (sy_xi st fun s0 l => sy_xn l (k r0 a1 a4 a5 a6 a7 s0 M))
theorem jwX4_holds_269 {d : Nat} {k : Nat → Int32 → Int32 → Int32 → Int32 → Int32 → Int32 → sy_M → sy_O} (hk : ∀ (w3 : Value) (w8 : Value) (w9 : Value) (r0 : Nat) (a1 : Int32) (a4 : Int32) (a5 : Int32) (a6 : Int32) (a7 : Int32) (s0 : Int32) (M : sy_M) (r : xe_R × sy_M), k r0 a1 a4 a5 a6 a7 s0 M = some r → sy_E (d) qX4_holds 269 [.ref r0, .int a1, .ref 52, w3, .int a4, .int a5, .int a6, .int a7, w8, w9] [.int s0] M r) : ∀ ls st M r, juX4_holds_269 k ls st M = some r → sy_E d qX4_holds 269 ls st M r := by
  intro ls st M r h
  obtain ⟨r0, l, e, h1⟩ := sy_xa_ok h; subst e
  obtain ⟨a1, l, e, h2⟩ := sy_xi_ok h1; subst e
  obtain ⟨l, e, h3⟩ := sy_xc_ok h2; subst e
  obtain ⟨w3, l, e, h4⟩ := sy_xv_ok h3; subst e
  obtain ⟨a4, l, e, h5⟩ := sy_xi_ok h4; subst e
  obtain ⟨a5, l, e, h6⟩ := sy_xi_ok h5; subst e
  obtain ⟨a6, l, e, h7⟩ := sy_xi_ok h6; subst e
  obtain ⟨a7, l, e, h8⟩ := sy_xi_ok h7; subst e
  obtain ⟨w8, l, e, h9⟩ := sy_xv_ok h8; subst e
  obtain ⟨w9, l, e, h10⟩ := sy_xv_ok h9; subst e
  obtain ⟨e, h11⟩ := sy_xn_ok h10; subst e
  obtain ⟨s0, l, e, h12⟩ := sy_xi_ok h11; subst e
  obtain ⟨e, h13⟩ := sy_xn_ok h12; subst e
  exact hk _ _ _ r0 a1 a4 a5 a6 a7 s0 M r h13
def juX4_holds_260 (k : Nat → Int32 → Int32 → Int32 → Int32 → Int32 → Int32 → sy_M → sy_O) (ls st : List Value) (M : sy_M) : sy_O := sy_xa ls fun r0 l => sy_xi l fun a1 l => sy_xc 52 l fun l => sy_xi l fun a3 l => sy_xi l fun a4 l => sy_xi l fun a5 l => sy_xi l fun a6 l => sy_xi l fun a7 l => sy_xv l fun _ l => sy_xv l fun _ l => sy_xn l (sy_xn st (k r0 a1 a3 a4 a5 a6 a7 M))
theorem jwX4_holds_260 {d : Nat} {k : Nat → Int32 → Int32 → Int32 → Int32 → Int32 → Int32 → sy_M → sy_O} (hk : ∀ (w8 : Value) (w9 : Value) (r0 : Nat) (a1 : Int32) (a3 : Int32) (a4 : Int32) (a5 : Int32) (a6 : Int32) (a7 : Int32) (M : sy_M) (r : xe_R × sy_M), k r0 a1 a3 a4 a5 a6 a7 M = some r → sy_E (d) qX4_holds 260 [.ref r0, .int a1, .ref 52, .int a3, .int a4, .int a5, .int a6, .int a7, w8, w9] [] M r) : ∀ ls st M r, juX4_holds_260 k ls st M = some r → sy_E d qX4_holds 260 ls st M r := by
  intro ls st M r h
  obtain ⟨r0, l, e, h1⟩ := sy_xa_ok h; subst e
  obtain ⟨a1, l, e, h2⟩ := sy_xi_ok h1; subst e
  obtain ⟨l, e, h3⟩ := sy_xc_ok h2; subst e
  obtain ⟨a3, l, e, h4⟩ := sy_xi_ok h3; subst e
  obtain ⟨a4, l, e, h5⟩ := sy_xi_ok h4; subst e
  obtain ⟨a5, l, e, h6⟩ := sy_xi_ok h5; subst e
  obtain ⟨a6, l, e, h7⟩ := sy_xi_ok h6; subst e
  obtain ⟨a7, l, e, h8⟩ := sy_xi_ok h7; subst e
  obtain ⟨w8, l, e, h9⟩ := sy_xv_ok h8; subst e
  obtain ⟨w9, l, e, h10⟩ := sy_xv_ok h9; subst e
  obtain ⟨e, h11⟩ := sy_xn_ok h10; subst e
  obtain ⟨e, h12⟩ := sy_xn_ok h11; subst e
  exact hk _ _ r0 a1 a3 a4 a5 a6 a7 M r h12
def juX4_holds_293 (k : Nat → Int32 → Int32 → Int32 → Int32 → Int32 → Int32 → sy_M → sy_O) (ls st : List Value) (M : sy_M) : sy_O := sy_xa ls fun r0 l => sy_xi l fun a1 l => sy_xc 52 l fun l => sy_xi l fun a3 l => sy_xi l fun a4 l => sy_xi l fun a5 l => sy_xi l fun a6 l => sy_xv l fun _ l => sy_xv l fun _ l => sy_xv l fun _ l => sy_xn l (sy_xi st fun s0 l => sy_xn l (k r0 a1 a3 a4 a5 a6 s0 M))
theorem jwX4_holds_293 {d : Nat} {k : Nat → Int32 → Int32 → Int32 → Int32 → Int32 → Int32 → sy_M → sy_O} (hk : ∀ (w7 : Value) (w8 : Value) (w9 : Value) (r0 : Nat) (a1 : Int32) (a3 : Int32) (a4 : Int32) (a5 : Int32) (a6 : Int32) (s0 : Int32) (M : sy_M) (r : xe_R × sy_M), k r0 a1 a3 a4 a5 a6 s0 M = some r → sy_E (d) qX4_holds 293 [.ref r0, .int a1, .ref 52, .int a3, .int a4, .int a5, .int a6, w7, w8, w9] [.int s0] M r) : ∀ ls st M r, juX4_holds_293 k ls st M = some r → sy_E d qX4_holds 293 ls st M r := by
  intro ls st M r h
  obtain ⟨r0, l, e, h1⟩ := sy_xa_ok h; subst e
  obtain ⟨a1, l, e, h2⟩ := sy_xi_ok h1; subst e
  obtain ⟨l, e, h3⟩ := sy_xc_ok h2; subst e
  obtain ⟨a3, l, e, h4⟩ := sy_xi_ok h3; subst e
  obtain ⟨a4, l, e, h5⟩ := sy_xi_ok h4; subst e
  obtain ⟨a5, l, e, h6⟩ := sy_xi_ok h5; subst e
  obtain ⟨a6, l, e, h7⟩ := sy_xi_ok h6; subst e
  obtain ⟨w7, l, e, h8⟩ := sy_xv_ok h7; subst e
  obtain ⟨w8, l, e, h9⟩ := sy_xv_ok h8; subst e
  obtain ⟨w9, l, e, h10⟩ := sy_xv_ok h9; subst e
  obtain ⟨e, h11⟩ := sy_xn_ok h10; subst e
  obtain ⟨s0, l, e, h12⟩ := sy_xi_ok h11; subst e
  obtain ⟨e, h13⟩ := sy_xn_ok h12; subst e
  exact hk _ _ _ r0 a1 a3 a4 a5 a6 s0 M r h13
def juX4_holds_291 (k : Nat → Int32 → Int32 → Int32 → Int32 → Int32 → Int32 → sy_M → sy_O) (ls st : List Value) (M : sy_M) : sy_O := sy_xa ls fun r0 l => sy_xi l fun a1 l => sy_xc 52 l fun l => sy_xi l fun a3 l => sy_xi l fun a4 l => sy_xi l fun a5 l => sy_xi l fun a6 l => sy_xi l fun a7 l => sy_xv l fun _ l => sy_xv l fun _ l => sy_xn l (sy_xn st (k r0 a1 a3 a4 a5 a6 a7 M))
theorem jwX4_holds_291 {d : Nat} {k : Nat → Int32 → Int32 → Int32 → Int32 → Int32 → Int32 → sy_M → sy_O} (hk : ∀ (w8 : Value) (w9 : Value) (r0 : Nat) (a1 : Int32) (a3 : Int32) (a4 : Int32) (a5 : Int32) (a6 : Int32) (a7 : Int32) (M : sy_M) (r : xe_R × sy_M), k r0 a1 a3 a4 a5 a6 a7 M = some r → sy_E (d) qX4_holds 291 [.ref r0, .int a1, .ref 52, .int a3, .int a4, .int a5, .int a6, .int a7, w8, w9] [] M r) : ∀ ls st M r, juX4_holds_291 k ls st M = some r → sy_E d qX4_holds 291 ls st M r := by
  intro ls st M r h
  obtain ⟨r0, l, e, h1⟩ := sy_xa_ok h; subst e
  obtain ⟨a1, l, e, h2⟩ := sy_xi_ok h1; subst e
  obtain ⟨l, e, h3⟩ := sy_xc_ok h2; subst e
  obtain ⟨a3, l, e, h4⟩ := sy_xi_ok h3; subst e
  obtain ⟨a4, l, e, h5⟩ := sy_xi_ok h4; subst e
  obtain ⟨a5, l, e, h6⟩ := sy_xi_ok h5; subst e
  obtain ⟨a6, l, e, h7⟩ := sy_xi_ok h6; subst e
  obtain ⟨a7, l, e, h8⟩ := sy_xi_ok h7; subst e
  obtain ⟨w8, l, e, h9⟩ := sy_xv_ok h8; subst e
  obtain ⟨w9, l, e, h10⟩ := sy_xv_ok h9; subst e
  obtain ⟨e, h11⟩ := sy_xn_ok h10; subst e
  obtain ⟨e, h12⟩ := sy_xn_ok h11; subst e
  exact hk _ _ r0 a1 a3 a4 a5 a6 a7 M r h12
def juX4_holds_273 (k : Nat → Int32 → Int32 → Int32 → Int32 → Int32 → Int32 → Int32 → sy_M → sy_O) (ls st : List Value) (M : sy_M) : sy_O := sy_xa ls fun r0 l => sy_xi l fun a1 l => sy_xc 52 l fun l => sy_xi l fun a3 l => sy_xi l fun a4 l => sy_xi l fun a5 l => sy_xi l fun a6 l => sy_xi l fun a7 l => sy_xi l fun a8 l => sy_xv l fun _ l => sy_xn l (sy_xn st (k r0 a1 a3 a4 a5 a6 a7 a8 M))
theorem jwX4_holds_273 {d : Nat} {k : Nat → Int32 → Int32 → Int32 → Int32 → Int32 → Int32 → Int32 → sy_M → sy_O} (hk : ∀ (w9 : Value) (r0 : Nat) (a1 : Int32) (a3 : Int32) (a4 : Int32) (a5 : Int32) (a6 : Int32) (a7 : Int32) (a8 : Int32) (M : sy_M) (r : xe_R × sy_M), k r0 a1 a3 a4 a5 a6 a7 a8 M = some r → sy_E (d) qX4_holds 273 [.ref r0, .int a1, .ref 52, .int a3, .int a4, .int a5, .int a6, .int a7, .int a8, w9] [] M r) : ∀ ls st M r, juX4_holds_273 k ls st M = some r → sy_E d qX4_holds 273 ls st M r := by
  intro ls st M r h
  obtain ⟨r0, l, e, h1⟩ := sy_xa_ok h; subst e
  obtain ⟨a1, l, e, h2⟩ := sy_xi_ok h1; subst e
  obtain ⟨l, e, h3⟩ := sy_xc_ok h2; subst e
  obtain ⟨a3, l, e, h4⟩ := sy_xi_ok h3; subst e
  obtain ⟨a4, l, e, h5⟩ := sy_xi_ok h4; subst e
  obtain ⟨a5, l, e, h6⟩ := sy_xi_ok h5; subst e
  obtain ⟨a6, l, e, h7⟩ := sy_xi_ok h6; subst e
  obtain ⟨a7, l, e, h8⟩ := sy_xi_ok h7; subst e
  obtain ⟨a8, l, e, h9⟩ := sy_xi_ok h8; subst e
  obtain ⟨w9, l, e, h10⟩ := sy_xv_ok h9; subst e
  obtain ⟨e, h11⟩ := sy_xn_ok h10; subst e
  obtain ⟨e, h12⟩ := sy_xn_ok h11; subst e
  exact hk _ r0 a1 a3 a4 a5 a6 a7 a8 M r h12
def juX4_holds_318 (k : Nat → Int32 → Int32 → Int32 → Int32 → Int32 → Int32 → sy_M → sy_O) (ls st : List Value) (M : sy_M) : sy_O := sy_xa ls fun r0 l => sy_xi l fun a1 l => sy_xc 52 l fun l => sy_xi l fun a3 l => sy_xi l fun a4 l => sy_xi l fun a5 l => sy_xi l fun a6 l => sy_xv l fun _ l => sy_xv l fun _ l => sy_xv l fun _ l => sy_xn l (sy_xi st fun s0 l => sy_xn l (k r0 a1 a3 a4 a5 a6 s0 M))
theorem jwX4_holds_318 {d : Nat} {k : Nat → Int32 → Int32 → Int32 → Int32 → Int32 → Int32 → sy_M → sy_O} (hk : ∀ (w7 : Value) (w8 : Value) (w9 : Value) (r0 : Nat) (a1 : Int32) (a3 : Int32) (a4 : Int32) (a5 : Int32) (a6 : Int32) (s0 : Int32) (M : sy_M) (r : xe_R × sy_M), k r0 a1 a3 a4 a5 a6 s0 M = some r → sy_E (d) qX4_holds 318 [.ref r0, .int a1, .ref 52, .int a3, .int a4, .int a5, .int a6, w7, w8, w9] [.int s0] M r) : ∀ ls st M r, juX4_holds_318 k ls st M = some r → sy_E d qX4_holds 318 ls st M r := by
  intro ls st M r h
  obtain ⟨r0, l, e, h1⟩ := sy_xa_ok h; subst e
  obtain ⟨a1, l, e, h2⟩ := sy_xi_ok h1; subst e
  obtain ⟨l, e, h3⟩ := sy_xc_ok h2; subst e
  obtain ⟨a3, l, e, h4⟩ := sy_xi_ok h3; subst e
  obtain ⟨a4, l, e, h5⟩ := sy_xi_ok h4; subst e
  obtain ⟨a5, l, e, h6⟩ := sy_xi_ok h5; subst e
  obtain ⟨a6, l, e, h7⟩ := sy_xi_ok h6; subst e
  obtain ⟨w7, l, e, h8⟩ := sy_xv_ok h7; subst e
  obtain ⟨w8, l, e, h9⟩ := sy_xv_ok h8; subst e
  obtain ⟨w9, l, e, h10⟩ := sy_xv_ok h9; subst e
  obtain ⟨e, h11⟩ := sy_xn_ok h10; subst e
  obtain ⟨s0, l, e, h12⟩ := sy_xi_ok h11; subst e
  obtain ⟨e, h13⟩ := sy_xn_ok h12; subst e
  exact hk _ _ _ r0 a1 a3 a4 a5 a6 s0 M r h13
def juX4_holds_316 (k : Nat → Int32 → Int32 → Int32 → Int32 → Int32 → Int32 → sy_M → sy_O) (ls st : List Value) (M : sy_M) : sy_O := sy_xa ls fun r0 l => sy_xi l fun a1 l => sy_xc 52 l fun l => sy_xi l fun a3 l => sy_xi l fun a4 l => sy_xi l fun a5 l => sy_xi l fun a6 l => sy_xi l fun a7 l => sy_xv l fun _ l => sy_xv l fun _ l => sy_xn l (sy_xn st (k r0 a1 a3 a4 a5 a6 a7 M))
theorem jwX4_holds_316 {d : Nat} {k : Nat → Int32 → Int32 → Int32 → Int32 → Int32 → Int32 → sy_M → sy_O} (hk : ∀ (w8 : Value) (w9 : Value) (r0 : Nat) (a1 : Int32) (a3 : Int32) (a4 : Int32) (a5 : Int32) (a6 : Int32) (a7 : Int32) (M : sy_M) (r : xe_R × sy_M), k r0 a1 a3 a4 a5 a6 a7 M = some r → sy_E (d) qX4_holds 316 [.ref r0, .int a1, .ref 52, .int a3, .int a4, .int a5, .int a6, .int a7, w8, w9] [] M r) : ∀ ls st M r, juX4_holds_316 k ls st M = some r → sy_E d qX4_holds 316 ls st M r := by
  intro ls st M r h
  obtain ⟨r0, l, e, h1⟩ := sy_xa_ok h; subst e
  obtain ⟨a1, l, e, h2⟩ := sy_xi_ok h1; subst e
  obtain ⟨l, e, h3⟩ := sy_xc_ok h2; subst e
  obtain ⟨a3, l, e, h4⟩ := sy_xi_ok h3; subst e
  obtain ⟨a4, l, e, h5⟩ := sy_xi_ok h4; subst e
  obtain ⟨a5, l, e, h6⟩ := sy_xi_ok h5; subst e
  obtain ⟨a6, l, e, h7⟩ := sy_xi_ok h6; subst e
  obtain ⟨a7, l, e, h8⟩ := sy_xi_ok h7; subst e
  obtain ⟨w8, l, e, h9⟩ := sy_xv_ok h8; subst e
  obtain ⟨w9, l, e, h10⟩ := sy_xv_ok h9; subst e
  obtain ⟨e, h11⟩ := sy_xn_ok h10; subst e
  obtain ⟨e, h12⟩ := sy_xn_ok h11; subst e
  exact hk _ _ r0 a1 a3 a4 a5 a6 a7 M r h12
def juX4_holds_298 (k : Nat → Int32 → Int32 → Int32 → Int32 → Int32 → Int32 → Int32 → sy_M → sy_O) (ls st : List Value) (M : sy_M) : sy_O := sy_xa ls fun r0 l => sy_xi l fun a1 l => sy_xc 52 l fun l => sy_xi l fun a3 l => sy_xi l fun a4 l => sy_xi l fun a5 l => sy_xi l fun a6 l => sy_xi l fun a7 l => sy_xi l fun a8 l => sy_xv l fun _ l => sy_xn l (sy_xn st (k r0 a1 a3 a4 a5 a6 a7 a8 M))
theorem jwX4_holds_298 {d : Nat} {k : Nat → Int32 → Int32 → Int32 → Int32 → Int32 → Int32 → Int32 → sy_M → sy_O} (hk : ∀ (w9 : Value) (r0 : Nat) (a1 : Int32) (a3 : Int32) (a4 : Int32) (a5 : Int32) (a6 : Int32) (a7 : Int32) (a8 : Int32) (M : sy_M) (r : xe_R × sy_M), k r0 a1 a3 a4 a5 a6 a7 a8 M = some r → sy_E (d) qX4_holds 298 [.ref r0, .int a1, .ref 52, .int a3, .int a4, .int a5, .int a6, .int a7, .int a8, w9] [] M r) : ∀ ls st M r, juX4_holds_298 k ls st M = some r → sy_E d qX4_holds 298 ls st M r := by
  intro ls st M r h
  obtain ⟨r0, l, e, h1⟩ := sy_xa_ok h; subst e
  obtain ⟨a1, l, e, h2⟩ := sy_xi_ok h1; subst e
  obtain ⟨l, e, h3⟩ := sy_xc_ok h2; subst e
  obtain ⟨a3, l, e, h4⟩ := sy_xi_ok h3; subst e
  obtain ⟨a4, l, e, h5⟩ := sy_xi_ok h4; subst e
  obtain ⟨a5, l, e, h6⟩ := sy_xi_ok h5; subst e
  obtain ⟨a6, l, e, h7⟩ := sy_xi_ok h6; subst e
  obtain ⟨a7, l, e, h8⟩ := sy_xi_ok h7; subst e
  obtain ⟨a8, l, e, h9⟩ := sy_xi_ok h8; subst e
  obtain ⟨w9, l, e, h10⟩ := sy_xv_ok h9; subst e
  obtain ⟨e, h11⟩ := sy_xn_ok h10; subst e
  obtain ⟨e, h12⟩ := sy_xn_ok h11; subst e
  exact hk _ r0 a1 a3 a4 a5 a6 a7 a8 M r h12
def juX4_holds_93 (k : Nat → Int32 → Int32 → Int32 → Int32 → Int32 → Int32 → Int32 → Int32 → sy_M → sy_O) (ls st : List Value) (M : sy_M) : sy_O := sy_xa ls fun r0 l => sy_xi l fun a1 l => sy_xc 52 l fun l => sy_xi l fun a3 l => sy_xi l fun a4 l => sy_xi l fun a5 l => sy_xi l fun a6 l => sy_xi l fun a7 l => sy_xi l fun a8 l => sy_xv l fun _ l => sy_xn l (sy_xi st fun s0 l => sy_xn l (k r0 a1 a3 a4 a5 a6 a7 a8 s0 M))
theorem jwX4_holds_93 {d : Nat} {k : Nat → Int32 → Int32 → Int32 → Int32 → Int32 → Int32 → Int32 → Int32 → sy_M → sy_O} (hk : ∀ (w9 : Value) (r0 : Nat) (a1 : Int32) (a3 : Int32) (a4 : Int32) (a5 : Int32) (a6 : Int32) (a7 : Int32) (a8 : Int32) (s0 : Int32) (M : sy_M) (r : xe_R × sy_M), k r0 a1 a3 a4 a5 a6 a7 a8 s0 M = some r → sy_E (d) qX4_holds 93 [.ref r0, .int a1, .ref 52, .int a3, .int a4, .int a5, .int a6, .int a7, .int a8, w9] [.int s0] M r) : ∀ ls st M r, juX4_holds_93 k ls st M = some r → sy_E d qX4_holds 93 ls st M r := by
  intro ls st M r h
  obtain ⟨r0, l, e, h1⟩ := sy_xa_ok h; subst e
  obtain ⟨a1, l, e, h2⟩ := sy_xi_ok h1; subst e
  obtain ⟨l, e, h3⟩ := sy_xc_ok h2; subst e
  obtain ⟨a3, l, e, h4⟩ := sy_xi_ok h3; subst e
  obtain ⟨a4, l, e, h5⟩ := sy_xi_ok h4; subst e
  obtain ⟨a5, l, e, h6⟩ := sy_xi_ok h5; subst e
  obtain ⟨a6, l, e, h7⟩ := sy_xi_ok h6; subst e
  obtain ⟨a7, l, e, h8⟩ := sy_xi_ok h7; subst e
  obtain ⟨a8, l, e, h9⟩ := sy_xi_ok h8; subst e
  obtain ⟨w9, l, e, h10⟩ := sy_xv_ok h9; subst e
  obtain ⟨e, h11⟩ := sy_xn_ok h10; subst e
  obtain ⟨s0, l, e, h12⟩ := sy_xi_ok h11; subst e
  obtain ⟨e, h13⟩ := sy_xn_ok h12; subst e
  exact hk _ r0 a1 a3 a4 a5 a6 a7 a8 s0 M r h13
def juX4_holds_92 (k : Nat → Int32 → Int32 → Int32 → Int32 → Int32 → Int32 → Int32 → sy_M → sy_O) (ls st : List Value) (M : sy_M) : sy_O := sy_xa ls fun r0 l => sy_xi l fun a1 l => sy_xc 52 l fun l => sy_xi l fun a3 l => sy_xi l fun a4 l => sy_xi l fun a5 l => sy_xi l fun a6 l => sy_xi l fun a7 l => sy_xi l fun a8 l => sy_xv l fun _ l => sy_xn l (sy_xn st (k r0 a1 a3 a4 a5 a6 a7 a8 M))
theorem jwX4_holds_92 {d : Nat} {k : Nat → Int32 → Int32 → Int32 → Int32 → Int32 → Int32 → Int32 → sy_M → sy_O} (hk : ∀ (w9 : Value) (r0 : Nat) (a1 : Int32) (a3 : Int32) (a4 : Int32) (a5 : Int32) (a6 : Int32) (a7 : Int32) (a8 : Int32) (M : sy_M) (r : xe_R × sy_M), k r0 a1 a3 a4 a5 a6 a7 a8 M = some r → sy_E (d) qX4_holds 92 [.ref r0, .int a1, .ref 52, .int a3, .int a4, .int a5, .int a6, .int a7, .int a8, w9] [] M r) : ∀ ls st M r, juX4_holds_92 k ls st M = some r → sy_E d qX4_holds 92 ls st M r := by
  intro ls st M r h
  obtain ⟨r0, l, e, h1⟩ := sy_xa_ok h; subst e
  obtain ⟨a1, l, e, h2⟩ := sy_xi_ok h1; subst e
  obtain ⟨l, e, h3⟩ := sy_xc_ok h2; subst e
  obtain ⟨a3, l, e, h4⟩ := sy_xi_ok h3; subst e
  obtain ⟨a4, l, e, h5⟩ := sy_xi_ok h4; subst e
  obtain ⟨a5, l, e, h6⟩ := sy_xi_ok h5; subst e
  obtain ⟨a6, l, e, h7⟩ := sy_xi_ok h6; subst e
  obtain ⟨a7, l, e, h8⟩ := sy_xi_ok h7; subst e
  obtain ⟨a8, l, e, h9⟩ := sy_xi_ok h8; subst e
  obtain ⟨w9, l, e, h10⟩ := sy_xv_ok h9; subst e
  obtain ⟨e, h11⟩ := sy_xn_ok h10; subst e
  obtain ⟨e, h12⟩ := sy_xn_ok h11; subst e
  exact hk _ r0 a1 a3 a4 a5 a6 a7 a8 M r h12
def juX4_holds_31 (k : Nat → Int32 → Int32 → Int32 → Int32 → Int32 → Int32 → sy_M → sy_O) (ls st : List Value) (M : sy_M) : sy_O := sy_xa ls fun r0 l => sy_xi l fun a1 l => sy_xc 52 l fun l => sy_xi l fun a3 l => sy_xi l fun a4 l => sy_xi l fun a5 l => sy_xi l fun a6 l => sy_xi l fun a7 l => sy_xv l fun _ l => sy_xv l fun _ l => sy_xn l (sy_xn st (k r0 a1 a3 a4 a5 a6 a7 M))
theorem jwX4_holds_31 {d : Nat} {k : Nat → Int32 → Int32 → Int32 → Int32 → Int32 → Int32 → sy_M → sy_O} (hk : ∀ (w8 : Value) (w9 : Value) (r0 : Nat) (a1 : Int32) (a3 : Int32) (a4 : Int32) (a5 : Int32) (a6 : Int32) (a7 : Int32) (M : sy_M) (r : xe_R × sy_M), k r0 a1 a3 a4 a5 a6 a7 M = some r → sy_E (d) qX4_holds 31 [.ref r0, .int a1, .ref 52, .int a3, .int a4, .int a5, .int a6, .int a7, w8, w9] [] M r) : ∀ ls st M r, juX4_holds_31 k ls st M = some r → sy_E d qX4_holds 31 ls st M r := by
  intro ls st M r h
  obtain ⟨r0, l, e, h1⟩ := sy_xa_ok h; subst e
  obtain ⟨a1, l, e, h2⟩ := sy_xi_ok h1; subst e
  obtain ⟨l, e, h3⟩ := sy_xc_ok h2; subst e
  obtain ⟨a3, l, e, h4⟩ := sy_xi_ok h3; subst e
  obtain ⟨a4, l, e, h5⟩ := sy_xi_ok h4; subst e
  obtain ⟨a5, l, e, h6⟩ := sy_xi_ok h5; subst e
  obtain ⟨a6, l, e, h7⟩ := sy_xi_ok h6; subst e
  obtain ⟨a7, l, e, h8⟩ := sy_xi_ok h7; subst e
  obtain ⟨w8, l, e, h9⟩ := sy_xv_ok h8; subst e
  obtain ⟨w9, l, e, h10⟩ := sy_xv_ok h9; subst e
  obtain ⟨e, h11⟩ := sy_xn_ok h10; subst e
  obtain ⟨e, h12⟩ := sy_xn_ok h11; subst e
  exact hk _ _ r0 a1 a3 a4 a5 a6 a7 M r h12
def jfX4_holds_323 (k31 : Nat → Int32 → Int32 → Int32 → Int32 → Int32 → Int32 → sy_M → sy_O) (r0 : Nat) (a1 : Int32) (a3 : Int32) (a4 : Int32) (a5 : Int32) (a6 : Int32) (a7 : Int32) (M : sy_M) : sy_O :=
  let v1 := a7 + 1
  k31 r0 a1 a3 a4 a5 a6 v1 M
set_option maxRecDepth 100000 in
theorem jrX4_holds_323 (k31 : Nat → Int32 → Int32 → Int32 → Int32 → Int32 → Int32 → sy_M → sy_O) (w8 : Value) (w9 : Value) (r0 : Nat) (a1 : Int32) (a3 : Int32) (a4 : Int32) (a5 : Int32) (a6 : Int32) (a7 : Int32) (M : sy_M) : sy_run skX4 qX4_holds [(323, .iinc 7 1, 3, [true, true, true, true, true, true, true, true, false, false]), (326, .goto (-295), 3, [])] [] [(31, juX4_holds_31 k31)] 3 [] 323 [.ref r0, .int a1, .ref 52, .int a3, .int a4, .int a5, .int a6, .int a7, w8, w9] [] M = jfX4_holds_323 k31 r0 a1 a3 a4 a5 a6 a7 M := rfl
theorem jtX4_holds_323 {k31 : Nat → Int32 → Int32 → Int32 → Int32 → Int32 → Int32 → sy_M → sy_O} (hk31 : ∀ (w8 : Value) (w9 : Value) (r0 : Nat) (a1 : Int32) (a3 : Int32) (a4 : Int32) (a5 : Int32) (a6 : Int32) (a7 : Int32) (M : sy_M) (r : xe_R × sy_M), k31 r0 a1 a3 a4 a5 a6 a7 M = some r → sy_E (1) qX4_holds 31 [.ref r0, .int a1, .ref 52, .int a3, .int a4, .int a5, .int a6, .int a7, w8, w9] [] M r) : ∀ (w8 : Value) (w9 : Value) (r0 : Nat) (a1 : Int32) (a3 : Int32) (a4 : Int32) (a5 : Int32) (a6 : Int32) (a7 : Int32) (M : sy_M) (r : xe_R × sy_M), jfX4_holds_323 k31 r0 a1 a3 a4 a5 a6 a7 M = some r → sy_E (1) qX4_holds 323 [.ref r0, .int a1, .ref 52, .int a3, .int a4, .int a5, .int a6, .int a7, w8, w9] [] M r := by
  intro w8 w9 r0 a1 a3 a4 a5 a6 a7 M r h
  exact sy_run_by (d := 0) ((jrX4_holds_323 _ _ _ _ _ _ _ _ _ _ M).trans h) hkX4 (by decide +kernel) sy_cs_nil (sy_us_cons (jwX4_holds_31 hk31) sy_us_nil)
def jfX4_holds_156 (k31 : Nat → Int32 → Int32 → Int32 → Int32 → Int32 → Int32 → sy_M → sy_O) (r0 : Nat) (a1 : Int32) (a3 : Int32) (a4 : Int32) (a5 : Int32) (a6 : Int32) (a7 : Int32) (a8 : Int32) (M : sy_M) : sy_O :=
  let v1 := (a6 + a8)
  jfX4_holds_323 k31 r0 a1 a3 a4 a5 v1 a7 M
set_option maxRecDepth 100000 in
theorem jrX4_holds_156 (k31 : Nat → Int32 → Int32 → Int32 → Int32 → Int32 → Int32 → sy_M → sy_O) (w9 : Value) (r0 : Nat) (a1 : Int32) (a3 : Int32) (a4 : Int32) (a5 : Int32) (a6 : Int32) (a7 : Int32) (a8 : Int32) (M : sy_M) : sy_run skX4 qX4_holds [(156, .iload 6, 2, [true, true, true, true, true, true, true, true, true, false]), (158, .iload 8, 2, []), (160, .iadd, 1, []), (161, .istore 6, 2, []), (163, .goto 160, 3, [])] [] [(323, juX4_holds_323 (jfX4_holds_323 k31))] 6 [] 156 [.ref r0, .int a1, .ref 52, .int a3, .int a4, .int a5, .int a6, .int a7, .int a8, w9] [] M = jfX4_holds_156 k31 r0 a1 a3 a4 a5 a6 a7 a8 M := rfl
theorem jtX4_holds_156 {k31 : Nat → Int32 → Int32 → Int32 → Int32 → Int32 → Int32 → sy_M → sy_O} (hk31 : ∀ (w8 : Value) (w9 : Value) (r0 : Nat) (a1 : Int32) (a3 : Int32) (a4 : Int32) (a5 : Int32) (a6 : Int32) (a7 : Int32) (M : sy_M) (r : xe_R × sy_M), k31 r0 a1 a3 a4 a5 a6 a7 M = some r → sy_E (1) qX4_holds 31 [.ref r0, .int a1, .ref 52, .int a3, .int a4, .int a5, .int a6, .int a7, w8, w9] [] M r) : ∀ (w9 : Value) (r0 : Nat) (a1 : Int32) (a3 : Int32) (a4 : Int32) (a5 : Int32) (a6 : Int32) (a7 : Int32) (a8 : Int32) (M : sy_M) (r : xe_R × sy_M), jfX4_holds_156 k31 r0 a1 a3 a4 a5 a6 a7 a8 M = some r → sy_E (1) qX4_holds 156 [.ref r0, .int a1, .ref 52, .int a3, .int a4, .int a5, .int a6, .int a7, .int a8, w9] [] M r := by
  intro w9 r0 a1 a3 a4 a5 a6 a7 a8 M r h
  exact sy_run_by (d := 0) ((jrX4_holds_156 _ _ _ _ _ _ _ _ _ _ M).trans h) hkX4 (by decide +kernel) sy_cs_nil (sy_us_cons (jwX4_holds_323 (jtX4_holds_323 hk31)) sy_us_nil)
def jfX4_holds_166 (k31 : Nat → Int32 → Int32 → Int32 → Int32 → Int32 → Int32 → sy_M → sy_O) (r0 : Nat) (a1 : Int32) (a3 : Int32) (a4 : Int32) (a5 : Int32) (a6 : Int32) (a7 : Int32) (a9 : Int32) (M : sy_M) : sy_O :=
  let v1 := (a6 + a9)
  jfX4_holds_323 k31 r0 a1 a3 a4 a5 v1 a7 M
set_option maxRecDepth 100000 in
theorem jrX4_holds_166 (k31 : Nat → Int32 → Int32 → Int32 → Int32 → Int32 → Int32 → sy_M → sy_O) (w8 : Value) (r0 : Nat) (a1 : Int32) (a3 : Int32) (a4 : Int32) (a5 : Int32) (a6 : Int32) (a7 : Int32) (a9 : Int32) (M : sy_M) : sy_run skX4 qX4_holds [(166, .iload 6, 2, [true, true, true, true, true, true, true, true, false, true]), (168, .iload 9, 2, []), (170, .iadd, 1, []), (171, .istore 6, 2, []), (173, .goto 150, 3, [])] [] [(323, juX4_holds_323 (jfX4_holds_323 k31))] 6 [] 166 [.ref r0, .int a1, .ref 52, .int a3, .int a4, .int a5, .int a6, .int a7, w8, .int a9] [] M = jfX4_holds_166 k31 r0 a1 a3 a4 a5 a6 a7 a9 M := rfl
theorem jtX4_holds_166 {k31 : Nat → Int32 → Int32 → Int32 → Int32 → Int32 → Int32 → sy_M → sy_O} (hk31 : ∀ (w8 : Value) (w9 : Value) (r0 : Nat) (a1 : Int32) (a3 : Int32) (a4 : Int32) (a5 : Int32) (a6 : Int32) (a7 : Int32) (M : sy_M) (r : xe_R × sy_M), k31 r0 a1 a3 a4 a5 a6 a7 M = some r → sy_E (1) qX4_holds 31 [.ref r0, .int a1, .ref 52, .int a3, .int a4, .int a5, .int a6, .int a7, w8, w9] [] M r) : ∀ (w8 : Value) (r0 : Nat) (a1 : Int32) (a3 : Int32) (a4 : Int32) (a5 : Int32) (a6 : Int32) (a7 : Int32) (a9 : Int32) (M : sy_M) (r : xe_R × sy_M), jfX4_holds_166 k31 r0 a1 a3 a4 a5 a6 a7 a9 M = some r → sy_E (1) qX4_holds 166 [.ref r0, .int a1, .ref 52, .int a3, .int a4, .int a5, .int a6, .int a7, w8, .int a9] [] M r := by
  intro w8 r0 a1 a3 a4 a5 a6 a7 a9 M r h
  exact sy_run_by (d := 0) ((jrX4_holds_166 _ _ _ _ _ _ _ _ _ _ M).trans h) hkX4 (by decide +kernel) sy_cs_nil (sy_us_cons (jwX4_holds_323 (jtX4_holds_323 hk31)) sy_us_nil)
def jfX4_holds_199 (k31 : Nat → Int32 → Int32 → Int32 → Int32 → Int32 → Int32 → sy_M → sy_O) (r0 : Nat) (a1 : Int32) (a3 : Int32) (a5 : Int32) (a7 : Int32) (s0 : Int32) (M : sy_M) : sy_O :=
  jfX4_holds_323 k31 r0 a1 a3 s0 a5 0 a7 M
set_option maxRecDepth 100000 in
theorem jrX4_holds_199 (k31 : Nat → Int32 → Int32 → Int32 → Int32 → Int32 → Int32 → sy_M → sy_O) (w4 : Value) (w6 : Value) (w8 : Value) (w9 : Value) (r0 : Nat) (a1 : Int32) (a3 : Int32) (a5 : Int32) (a7 : Int32) (s0 : Int32) (M : sy_M) : sy_run skX4 qX4_holds [(199, .istore 4, 2, [true, true, true, true, false, true, false, true, false, false]), (201, .iconst 0, 1, []), (202, .istore 6, 2, []), (204, .goto 119, 3, [])] [] [(323, juX4_holds_323 (jfX4_holds_323 k31))] 5 [] 199 [.ref r0, .int a1, .ref 52, .int a3, w4, .int a5, w6, .int a7, w8, w9] [.int s0] M = jfX4_holds_199 k31 r0 a1 a3 a5 a7 s0 M := rfl
theorem jtX4_holds_199 {k31 : Nat → Int32 → Int32 → Int32 → Int32 → Int32 → Int32 → sy_M → sy_O} (hk31 : ∀ (w8 : Value) (w9 : Value) (r0 : Nat) (a1 : Int32) (a3 : Int32) (a4 : Int32) (a5 : Int32) (a6 : Int32) (a7 : Int32) (M : sy_M) (r : xe_R × sy_M), k31 r0 a1 a3 a4 a5 a6 a7 M = some r → sy_E (1) qX4_holds 31 [.ref r0, .int a1, .ref 52, .int a3, .int a4, .int a5, .int a6, .int a7, w8, w9] [] M r) : ∀ (w4 : Value) (w6 : Value) (w8 : Value) (w9 : Value) (r0 : Nat) (a1 : Int32) (a3 : Int32) (a5 : Int32) (a7 : Int32) (s0 : Int32) (M : sy_M) (r : xe_R × sy_M), jfX4_holds_199 k31 r0 a1 a3 a5 a7 s0 M = some r → sy_E (1) qX4_holds 199 [.ref r0, .int a1, .ref 52, .int a3, w4, .int a5, w6, .int a7, w8, w9] [.int s0] M r := by
  intro w4 w6 w8 w9 r0 a1 a3 a5 a7 s0 M r h
  exact sy_run_by (d := 0) ((jrX4_holds_199 _ _ _ _ _ _ _ _ _ _ _ M).trans h) hkX4 (by decide +kernel) sy_cs_nil (sy_us_cons (jwX4_holds_323 (jtX4_holds_323 hk31)) sy_us_nil)
def jfX4_holds_176 (k31 : Nat → Int32 → Int32 → Int32 → Int32 → Int32 → Int32 → sy_M → sy_O) (r0 : Nat) (a1 : Int32) (a3 : Int32) (a6 : Int32) (a7 : Int32) (M : sy_M) : sy_O :=
  sy_bs (sy_is 4 r0) <|
  sy_bx (xe_in a7 (sy_len M (r0 + 5))) <|
  if ((M (r0 + 5) (Int32.toNatClampNeg a7)) &&& 15) = 2 then
    jfX4_holds_199 k31 r0 a1 a3 a6 a7 1 M
  else
    jfX4_holds_199 k31 r0 a1 a3 a6 a7 0 M
set_option maxRecDepth 100000 in
theorem jrX4_holds_176 (k31 : Nat → Int32 → Int32 → Int32 → Int32 → Int32 → Int32 → sy_M → sy_O) (w4 : Value) (w5 : Value) (w8 : Value) (w9 : Value) (r0 : Nat) (a1 : Int32) (a3 : Int32) (a6 : Int32) (a7 : Int32) (M : sy_M) : sy_run skX4 qX4_holds [(176, .iload 6, 2, [true, true, true, true, false, false, true, true, false, false]), (178, .istore 5, 2, []), (180, .aload_n 0, 1, []), (181, .getfield 24, 3, []), (184, .iload 7, 2, []), (186, .iaload, 1, []), (187, .bipush 15, 2, []), (189, .iand, 1, []), (190, .iconst 2, 1, []), (191, .if_icmp .ne 7, 3, []), (194, .iconst 1, 1, []), (195, .goto 4, 3, []), (198, .iconst 0, 1, [true, true, true, true, false, true, false, true, false, false])] [] [(199, juX4_holds_199 (jfX4_holds_199 k31))] 14 [] 176 [.ref r0, .int a1, .ref 52, .int a3, w4, w5, .int a6, .int a7, w8, w9] [] M = jfX4_holds_176 k31 r0 a1 a3 a6 a7 M := rfl
theorem jtX4_holds_176 {k31 : Nat → Int32 → Int32 → Int32 → Int32 → Int32 → Int32 → sy_M → sy_O} (hk31 : ∀ (w8 : Value) (w9 : Value) (r0 : Nat) (a1 : Int32) (a3 : Int32) (a4 : Int32) (a5 : Int32) (a6 : Int32) (a7 : Int32) (M : sy_M) (r : xe_R × sy_M), k31 r0 a1 a3 a4 a5 a6 a7 M = some r → sy_E (1) qX4_holds 31 [.ref r0, .int a1, .ref 52, .int a3, .int a4, .int a5, .int a6, .int a7, w8, w9] [] M r) : ∀ (w4 : Value) (w5 : Value) (w8 : Value) (w9 : Value) (r0 : Nat) (a1 : Int32) (a3 : Int32) (a6 : Int32) (a7 : Int32) (M : sy_M) (r : xe_R × sy_M), jfX4_holds_176 k31 r0 a1 a3 a6 a7 M = some r → sy_E (1) qX4_holds 176 [.ref r0, .int a1, .ref 52, .int a3, w4, w5, .int a6, .int a7, w8, w9] [] M r := by
  intro w4 w5 w8 w9 r0 a1 a3 a6 a7 M r h
  exact sy_run_by (d := 0) ((jrX4_holds_176 _ _ _ _ _ _ _ _ _ _ M).trans h) hkX4 (by decide +kernel) sy_cs_nil (sy_us_cons (jwX4_holds_199 (jtX4_holds_199 hk31)) sy_us_nil)
def jfX4_holds_239 (k31 : Nat → Int32 → Int32 → Int32 → Int32 → Int32 → Int32 → sy_M → sy_O) (r0 : Nat) (a1 : Int32) (a4 : Int32) (a5 : Int32) (a7 : Int32) (s0 : Int32) (M : sy_M) : sy_O :=
  jfX4_holds_323 k31 r0 a1 s0 a4 a5 0 a7 M
set_option maxRecDepth 100000 in
theorem jrX4_holds_239 (k31 : Nat → Int32 → Int32 → Int32 → Int32 → Int32 → Int32 → sy_M → sy_O) (w3 : Value) (w6 : Value) (w8 : Value) (w9 : Value) (r0 : Nat) (a1 : Int32) (a4 : Int32) (a5 : Int32) (a7 : Int32) (s0 : Int32) (M : sy_M) : sy_run skX4 qX4_holds [(239, .istore_n 3, 1, [true, true, true, false, true, true, false, true, false, false]), (240, .iconst 0, 1, []), (241, .istore 6, 2, []), (243, .goto 80, 3, [])] [] [(323, juX4_holds_323 (jfX4_holds_323 k31))] 5 [] 239 [.ref r0, .int a1, .ref 52, w3, .int a4, .int a5, w6, .int a7, w8, w9] [.int s0] M = jfX4_holds_239 k31 r0 a1 a4 a5 a7 s0 M := rfl
theorem jtX4_holds_239 {k31 : Nat → Int32 → Int32 → Int32 → Int32 → Int32 → Int32 → sy_M → sy_O} (hk31 : ∀ (w8 : Value) (w9 : Value) (r0 : Nat) (a1 : Int32) (a3 : Int32) (a4 : Int32) (a5 : Int32) (a6 : Int32) (a7 : Int32) (M : sy_M) (r : xe_R × sy_M), k31 r0 a1 a3 a4 a5 a6 a7 M = some r → sy_E (1) qX4_holds 31 [.ref r0, .int a1, .ref 52, .int a3, .int a4, .int a5, .int a6, .int a7, w8, w9] [] M r) : ∀ (w3 : Value) (w6 : Value) (w8 : Value) (w9 : Value) (r0 : Nat) (a1 : Int32) (a4 : Int32) (a5 : Int32) (a7 : Int32) (s0 : Int32) (M : sy_M) (r : xe_R × sy_M), jfX4_holds_239 k31 r0 a1 a4 a5 a7 s0 M = some r → sy_E (1) qX4_holds 239 [.ref r0, .int a1, .ref 52, w3, .int a4, .int a5, w6, .int a7, w8, w9] [.int s0] M r := by
  intro w3 w6 w8 w9 r0 a1 a4 a5 a7 s0 M r h
  exact sy_run_by (d := 0) ((jrX4_holds_239 _ _ _ _ _ _ _ _ _ _ _ M).trans h) hkX4 (by decide +kernel) sy_cs_nil (sy_us_cons (jwX4_holds_323 (jtX4_holds_323 hk31)) sy_us_nil)
def jfX4_holds_207 (k31 : Nat → Int32 → Int32 → Int32 → Int32 → Int32 → Int32 → sy_M → sy_O) (r0 : Nat) (a1 : Int32) (a4 : Int32) (a5 : Int32) (a6 : Int32) (a7 : Int32) (M : sy_M) : sy_O :=
  if a4 = 0 then
    if a6 < a5 then
      jfX4_holds_239 k31 r0 a1 a4 a5 a7 1 M
    else
      jfX4_holds_239 k31 r0 a1 a4 a5 a7 0 M
  else
    if a5 < a6 then
      jfX4_holds_239 k31 r0 a1 a4 a5 a7 1 M
    else
      jfX4_holds_239 k31 r0 a1 a4 a5 a7 0 M
set_option maxRecDepth 100000 in
theorem jrX4_holds_207 (k31 : Nat → Int32 → Int32 → Int32 → Int32 → Int32 → Int32 → sy_M → sy_O) (w3 : Value) (w8 : Value) (w9 : Value) (r0 : Nat) (a1 : Int32) (a4 : Int32) (a5 : Int32) (a6 : Int32) (a7 : Int32) (M : sy_M) : sy_run skX4 qX4_holds [(207, .iload 4, 2, [true, true, true, false, true, true, true, true, false, false]), (209, .ifCond .eq 18, 3, []), (212, .iload 5, 2, []), (214, .iload 6, 2, []), (216, .if_icmp .ge 7, 3, []), (219, .iconst 1, 1, []), (220, .goto 19, 3, []), (223, .iconst 0, 1, [true, true, true, false, true, true, false, true, false, false]), (224, .goto 15, 3, []), (227, .iload 5, 2, [true, true, true, false, true, true, true, true, false, false]), (229, .iload 6, 2, []), (231, .if_icmp .le 7, 3, []), (234, .iconst 1, 1, []), (235, .goto 4, 3, []), (238, .iconst 0, 1, [true, true, true, false, true, true, false, true, false, false])] [] [(239, juX4_holds_239 (jfX4_holds_239 k31))] 16 [] 207 [.ref r0, .int a1, .ref 52, w3, .int a4, .int a5, .int a6, .int a7, w8, w9] [] M = jfX4_holds_207 k31 r0 a1 a4 a5 a6 a7 M := rfl
theorem jtX4_holds_207 {k31 : Nat → Int32 → Int32 → Int32 → Int32 → Int32 → Int32 → sy_M → sy_O} (hk31 : ∀ (w8 : Value) (w9 : Value) (r0 : Nat) (a1 : Int32) (a3 : Int32) (a4 : Int32) (a5 : Int32) (a6 : Int32) (a7 : Int32) (M : sy_M) (r : xe_R × sy_M), k31 r0 a1 a3 a4 a5 a6 a7 M = some r → sy_E (1) qX4_holds 31 [.ref r0, .int a1, .ref 52, .int a3, .int a4, .int a5, .int a6, .int a7, w8, w9] [] M r) : ∀ (w3 : Value) (w8 : Value) (w9 : Value) (r0 : Nat) (a1 : Int32) (a4 : Int32) (a5 : Int32) (a6 : Int32) (a7 : Int32) (M : sy_M) (r : xe_R × sy_M), jfX4_holds_207 k31 r0 a1 a4 a5 a6 a7 M = some r → sy_E (1) qX4_holds 207 [.ref r0, .int a1, .ref 52, w3, .int a4, .int a5, .int a6, .int a7, w8, w9] [] M r := by
  intro w3 w8 w9 r0 a1 a4 a5 a6 a7 M r h
  exact sy_run_by (d := 0) ((jrX4_holds_207 _ _ _ _ _ _ _ _ _ _ M).trans h) hkX4 (by decide +kernel) sy_cs_nil (sy_us_cons (jwX4_holds_239 (jtX4_holds_239 hk31)) sy_us_nil)
def jfX4_holds_256 (k31 : Nat → Int32 → Int32 → Int32 → Int32 → Int32 → Int32 → sy_M → sy_O) (r0 : Nat) (a1 : Int32) (a4 : Int32) (a5 : Int32) (a6 : Int32) (a7 : Int32) (s0 : Int32) (M : sy_M) : sy_O :=
  jfX4_holds_323 k31 r0 a1 s0 a4 a5 a6 a7 M
set_option maxRecDepth 100000 in
theorem jrX4_holds_256 (k31 : Nat → Int32 → Int32 → Int32 → Int32 → Int32 → Int32 → sy_M → sy_O) (w3 : Value) (w8 : Value) (w9 : Value) (r0 : Nat) (a1 : Int32) (a4 : Int32) (a5 : Int32) (a6 : Int32) (a7 : Int32) (s0 : Int32) (M : sy_M) : sy_run skX4 qX4_holds [(256, .istore_n 3, 1, [true, true, true, false, true, true, true, true, false, false]), (257, .goto 66, 3, [])] [] [(323, juX4_holds_323 (jfX4_holds_323 k31))] 3 [] 256 [.ref r0, .int a1, .ref 52, w3, .int a4, .int a5, .int a6, .int a7, w8, w9] [.int s0] M = jfX4_holds_256 k31 r0 a1 a4 a5 a6 a7 s0 M := rfl
theorem jtX4_holds_256 {k31 : Nat → Int32 → Int32 → Int32 → Int32 → Int32 → Int32 → sy_M → sy_O} (hk31 : ∀ (w8 : Value) (w9 : Value) (r0 : Nat) (a1 : Int32) (a3 : Int32) (a4 : Int32) (a5 : Int32) (a6 : Int32) (a7 : Int32) (M : sy_M) (r : xe_R × sy_M), k31 r0 a1 a3 a4 a5 a6 a7 M = some r → sy_E (1) qX4_holds 31 [.ref r0, .int a1, .ref 52, .int a3, .int a4, .int a5, .int a6, .int a7, w8, w9] [] M r) : ∀ (w3 : Value) (w8 : Value) (w9 : Value) (r0 : Nat) (a1 : Int32) (a4 : Int32) (a5 : Int32) (a6 : Int32) (a7 : Int32) (s0 : Int32) (M : sy_M) (r : xe_R × sy_M), jfX4_holds_256 k31 r0 a1 a4 a5 a6 a7 s0 M = some r → sy_E (1) qX4_holds 256 [.ref r0, .int a1, .ref 52, w3, .int a4, .int a5, .int a6, .int a7, w8, w9] [.int s0] M r := by
  intro w3 w8 w9 r0 a1 a4 a5 a6 a7 s0 M r h
  exact sy_run_by (d := 0) ((jrX4_holds_256 _ _ _ _ _ _ _ _ _ _ _ M).trans h) hkX4 (by decide +kernel) sy_cs_nil (sy_us_cons (jwX4_holds_323 (jtX4_holds_323 hk31)) sy_us_nil)
def jfX4_holds_246 (k31 : Nat → Int32 → Int32 → Int32 → Int32 → Int32 → Int32 → sy_M → sy_O) (r0 : Nat) (a1 : Int32) (a4 : Int32) (a5 : Int32) (a6 : Int32) (a7 : Int32) (a9 : Int32) (M : sy_M) : sy_O :=
  if a9 = 0 then
    jfX4_holds_256 k31 r0 a1 a4 a5 a6 a7 0 M
  else
    jfX4_holds_256 k31 r0 a1 a4 a5 a6 a7 1 M
set_option maxRecDepth 100000 in
theorem jrX4_holds_246 (k31 : Nat → Int32 → Int32 → Int32 → Int32 → Int32 → Int32 → sy_M → sy_O) (w3 : Value) (w8 : Value) (r0 : Nat) (a1 : Int32) (a4 : Int32) (a5 : Int32) (a6 : Int32) (a7 : Int32) (a9 : Int32) (M : sy_M) : sy_run skX4 qX4_holds [(246, .iload 9, 2, [true, true, true, false, true, true, true, true, false, true]), (248, .ifCond .eq 7, 3, []), (251, .iconst 1, 1, []), (252, .goto 4, 3, []), (255, .iconst 0, 1, [true, true, true, false, true, true, true, true, false, false])] [] [(256, juX4_holds_256 (jfX4_holds_256 k31))] 6 [] 246 [.ref r0, .int a1, .ref 52, w3, .int a4, .int a5, .int a6, .int a7, w8, .int a9] [] M = jfX4_holds_246 k31 r0 a1 a4 a5 a6 a7 a9 M := rfl
theorem jtX4_holds_246 {k31 : Nat → Int32 → Int32 → Int32 → Int32 → Int32 → Int32 → sy_M → sy_O} (hk31 : ∀ (w8 : Value) (w9 : Value) (r0 : Nat) (a1 : Int32) (a3 : Int32) (a4 : Int32) (a5 : Int32) (a6 : Int32) (a7 : Int32) (M : sy_M) (r : xe_R × sy_M), k31 r0 a1 a3 a4 a5 a6 a7 M = some r → sy_E (1) qX4_holds 31 [.ref r0, .int a1, .ref 52, .int a3, .int a4, .int a5, .int a6, .int a7, w8, w9] [] M r) : ∀ (w3 : Value) (w8 : Value) (r0 : Nat) (a1 : Int32) (a4 : Int32) (a5 : Int32) (a6 : Int32) (a7 : Int32) (a9 : Int32) (M : sy_M) (r : xe_R × sy_M), jfX4_holds_246 k31 r0 a1 a4 a5 a6 a7 a9 M = some r → sy_E (1) qX4_holds 246 [.ref r0, .int a1, .ref 52, w3, .int a4, .int a5, .int a6, .int a7, w8, .int a9] [] M r := by
  intro w3 w8 r0 a1 a4 a5 a6 a7 a9 M r h
  exact sy_run_by (d := 0) ((jrX4_holds_246 _ _ _ _ _ _ _ _ _ _ M).trans h) hkX4 (by decide +kernel) sy_cs_nil (sy_us_cons (jwX4_holds_256 (jtX4_holds_256 hk31)) sy_us_nil)
def jfX4_holds_269 (k31 : Nat → Int32 → Int32 → Int32 → Int32 → Int32 → Int32 → sy_M → sy_O) (r0 : Nat) (a1 : Int32) (a4 : Int32) (a5 : Int32) (a6 : Int32) (a7 : Int32) (s0 : Int32) (M : sy_M) : sy_O :=
  jfX4_holds_323 k31 r0 a1 s0 a4 a5 a6 a7 M
set_option maxRecDepth 100000 in
theorem jrX4_holds_269 (k31 : Nat → Int32 → Int32 → Int32 → Int32 → Int32 → Int32 → sy_M → sy_O) (w3 : Value) (w8 : Value) (w9 : Value) (r0 : Nat) (a1 : Int32) (a4 : Int32) (a5 : Int32) (a6 : Int32) (a7 : Int32) (s0 : Int32) (M : sy_M) : sy_run skX4 qX4_holds [(269, .istore_n 3, 1, [true, true, true, false, true, true, true, true, false, false]), (270, .goto 53, 3, [])] [] [(323, juX4_holds_323 (jfX4_holds_323 k31))] 3 [] 269 [.ref r0, .int a1, .ref 52, w3, .int a4, .int a5, .int a6, .int a7, w8, w9] [.int s0] M = jfX4_holds_269 k31 r0 a1 a4 a5 a6 a7 s0 M := rfl
theorem jtX4_holds_269 {k31 : Nat → Int32 → Int32 → Int32 → Int32 → Int32 → Int32 → sy_M → sy_O} (hk31 : ∀ (w8 : Value) (w9 : Value) (r0 : Nat) (a1 : Int32) (a3 : Int32) (a4 : Int32) (a5 : Int32) (a6 : Int32) (a7 : Int32) (M : sy_M) (r : xe_R × sy_M), k31 r0 a1 a3 a4 a5 a6 a7 M = some r → sy_E (1) qX4_holds 31 [.ref r0, .int a1, .ref 52, .int a3, .int a4, .int a5, .int a6, .int a7, w8, w9] [] M r) : ∀ (w3 : Value) (w8 : Value) (w9 : Value) (r0 : Nat) (a1 : Int32) (a4 : Int32) (a5 : Int32) (a6 : Int32) (a7 : Int32) (s0 : Int32) (M : sy_M) (r : xe_R × sy_M), jfX4_holds_269 k31 r0 a1 a4 a5 a6 a7 s0 M = some r → sy_E (1) qX4_holds 269 [.ref r0, .int a1, .ref 52, w3, .int a4, .int a5, .int a6, .int a7, w8, w9] [.int s0] M r := by
  intro w3 w8 w9 r0 a1 a4 a5 a6 a7 s0 M r h
  exact sy_run_by (d := 0) ((jrX4_holds_269 _ _ _ _ _ _ _ _ _ _ _ M).trans h) hkX4 (by decide +kernel) sy_cs_nil (sy_us_cons (jwX4_holds_323 (jtX4_holds_323 hk31)) sy_us_nil)
def jfX4_holds_260 (k31 : Nat → Int32 → Int32 → Int32 → Int32 → Int32 → Int32 → sy_M → sy_O) (r0 : Nat) (a1 : Int32) (a3 : Int32) (a4 : Int32) (a5 : Int32) (a6 : Int32) (a7 : Int32) (M : sy_M) : sy_O :=
  if a3 = 0 then
    jfX4_holds_269 k31 r0 a1 a4 a5 a6 a7 1 M
  else
    jfX4_holds_269 k31 r0 a1 a4 a5 a6 a7 0 M
set_option maxRecDepth 100000 in
theorem jrX4_holds_260 (k31 : Nat → Int32 → Int32 → Int32 → Int32 → Int32 → Int32 → sy_M → sy_O) (w8 : Value) (w9 : Value) (r0 : Nat) (a1 : Int32) (a3 : Int32) (a4 : Int32) (a5 : Int32) (a6 : Int32) (a7 : Int32) (M : sy_M) : sy_run skX4 qX4_holds [(260, .iload_n 3, 1, [true, true, true, true, true, true, true, true, false, false]), (261, .ifCond .ne 7, 3, []), (264, .iconst 1, 1, []), (265, .goto 4, 3, []), (268, .iconst 0, 1, [true, true, true, false, true, true, true, true, false, false])] [] [(269, juX4_holds_269 (jfX4_holds_269 k31))] 6 [] 260 [.ref r0, .int a1, .ref 52, .int a3, .int a4, .int a5, .int a6, .int a7, w8, w9] [] M = jfX4_holds_260 k31 r0 a1 a3 a4 a5 a6 a7 M := rfl
theorem jtX4_holds_260 {k31 : Nat → Int32 → Int32 → Int32 → Int32 → Int32 → Int32 → sy_M → sy_O} (hk31 : ∀ (w8 : Value) (w9 : Value) (r0 : Nat) (a1 : Int32) (a3 : Int32) (a4 : Int32) (a5 : Int32) (a6 : Int32) (a7 : Int32) (M : sy_M) (r : xe_R × sy_M), k31 r0 a1 a3 a4 a5 a6 a7 M = some r → sy_E (1) qX4_holds 31 [.ref r0, .int a1, .ref 52, .int a3, .int a4, .int a5, .int a6, .int a7, w8, w9] [] M r) : ∀ (w8 : Value) (w9 : Value) (r0 : Nat) (a1 : Int32) (a3 : Int32) (a4 : Int32) (a5 : Int32) (a6 : Int32) (a7 : Int32) (M : sy_M) (r : xe_R × sy_M), jfX4_holds_260 k31 r0 a1 a3 a4 a5 a6 a7 M = some r → sy_E (1) qX4_holds 260 [.ref r0, .int a1, .ref 52, .int a3, .int a4, .int a5, .int a6, .int a7, w8, w9] [] M r := by
  intro w8 w9 r0 a1 a3 a4 a5 a6 a7 M r h
  exact sy_run_by (d := 0) ((jrX4_holds_260 _ _ _ _ _ _ _ _ _ _ M).trans h) hkX4 (by decide +kernel) sy_cs_nil (sy_us_cons (jwX4_holds_269 (jtX4_holds_269 hk31)) sy_us_nil)
def jfX4_holds_293 (k31 : Nat → Int32 → Int32 → Int32 → Int32 → Int32 → Int32 → sy_M → sy_O) (r0 : Nat) (a1 : Int32) (a3 : Int32) (a4 : Int32) (a5 : Int32) (a6 : Int32) (s0 : Int32) (M : sy_M) : sy_O :=
  jfX4_holds_323 k31 r0 a1 a3 a4 a5 a6 s0 M
set_option maxRecDepth 100000 in
theorem jrX4_holds_293 (k31 : Nat → Int32 → Int32 → Int32 → Int32 → Int32 → Int32 → sy_M → sy_O) (w7 : Value) (w8 : Value) (w9 : Value) (r0 : Nat) (a1 : Int32) (a3 : Int32) (a4 : Int32) (a5 : Int32) (a6 : Int32) (s0 : Int32) (M : sy_M) : sy_run skX4 qX4_holds [(293, .istore 7, 2, [true, true, true, true, true, true, true, false, false, false]), (295, .goto 28, 3, [])] [] [(323, juX4_holds_323 (jfX4_holds_323 k31))] 3 [] 293 [.ref r0, .int a1, .ref 52, .int a3, .int a4, .int a5, .int a6, w7, w8, w9] [.int s0] M = jfX4_holds_293 k31 r0 a1 a3 a4 a5 a6 s0 M := rfl
theorem jtX4_holds_293 {k31 : Nat → Int32 → Int32 → Int32 → Int32 → Int32 → Int32 → sy_M → sy_O} (hk31 : ∀ (w8 : Value) (w9 : Value) (r0 : Nat) (a1 : Int32) (a3 : Int32) (a4 : Int32) (a5 : Int32) (a6 : Int32) (a7 : Int32) (M : sy_M) (r : xe_R × sy_M), k31 r0 a1 a3 a4 a5 a6 a7 M = some r → sy_E (1) qX4_holds 31 [.ref r0, .int a1, .ref 52, .int a3, .int a4, .int a5, .int a6, .int a7, w8, w9] [] M r) : ∀ (w7 : Value) (w8 : Value) (w9 : Value) (r0 : Nat) (a1 : Int32) (a3 : Int32) (a4 : Int32) (a5 : Int32) (a6 : Int32) (s0 : Int32) (M : sy_M) (r : xe_R × sy_M), jfX4_holds_293 k31 r0 a1 a3 a4 a5 a6 s0 M = some r → sy_E (1) qX4_holds 293 [.ref r0, .int a1, .ref 52, .int a3, .int a4, .int a5, .int a6, w7, w8, w9] [.int s0] M r := by
  intro w7 w8 w9 r0 a1 a3 a4 a5 a6 s0 M r h
  exact sy_run_by (d := 0) ((jrX4_holds_293 _ _ _ _ _ _ _ _ _ _ _ M).trans h) hkX4 (by decide +kernel) sy_cs_nil (sy_us_cons (jwX4_holds_323 (jtX4_holds_323 hk31)) sy_us_nil)
def jfX4_holds_291 (k31 : Nat → Int32 → Int32 → Int32 → Int32 → Int32 → Int32 → sy_M → sy_O) (r0 : Nat) (a1 : Int32) (a3 : Int32) (a4 : Int32) (a5 : Int32) (a6 : Int32) (a7 : Int32) (M : sy_M) : sy_O :=
  jfX4_holds_293 k31 r0 a1 a3 a4 a5 a6 a7 M
set_option maxRecDepth 100000 in
theorem jrX4_holds_291 (k31 : Nat → Int32 → Int32 → Int32 → Int32 → Int32 → Int32 → sy_M → sy_O) (w8 : Value) (w9 : Value) (r0 : Nat) (a1 : Int32) (a3 : Int32) (a4 : Int32) (a5 : Int32) (a6 : Int32) (a7 : Int32) (M : sy_M) : sy_run skX4 qX4_holds [(291, .iload 7, 2, [true, true, true, true, true, true, true, true, false, false])] [] [(293, juX4_holds_293 (jfX4_holds_293 k31))] 2 [] 291 [.ref r0, .int a1, .ref 52, .int a3, .int a4, .int a5, .int a6, .int a7, w8, w9] [] M = jfX4_holds_291 k31 r0 a1 a3 a4 a5 a6 a7 M := rfl
theorem jtX4_holds_291 {k31 : Nat → Int32 → Int32 → Int32 → Int32 → Int32 → Int32 → sy_M → sy_O} (hk31 : ∀ (w8 : Value) (w9 : Value) (r0 : Nat) (a1 : Int32) (a3 : Int32) (a4 : Int32) (a5 : Int32) (a6 : Int32) (a7 : Int32) (M : sy_M) (r : xe_R × sy_M), k31 r0 a1 a3 a4 a5 a6 a7 M = some r → sy_E (1) qX4_holds 31 [.ref r0, .int a1, .ref 52, .int a3, .int a4, .int a5, .int a6, .int a7, w8, w9] [] M r) : ∀ (w8 : Value) (w9 : Value) (r0 : Nat) (a1 : Int32) (a3 : Int32) (a4 : Int32) (a5 : Int32) (a6 : Int32) (a7 : Int32) (M : sy_M) (r : xe_R × sy_M), jfX4_holds_291 k31 r0 a1 a3 a4 a5 a6 a7 M = some r → sy_E (1) qX4_holds 291 [.ref r0, .int a1, .ref 52, .int a3, .int a4, .int a5, .int a6, .int a7, w8, w9] [] M r := by
  intro w8 w9 r0 a1 a3 a4 a5 a6 a7 M r h
  exact sy_run_by (d := 0) ((jrX4_holds_291 _ _ _ _ _ _ _ _ _ _ M).trans h) hkX4 (by decide +kernel) sy_cs_nil (sy_us_cons (jwX4_holds_293 (jtX4_holds_293 hk31)) sy_us_nil)
def jfX4_holds_273 (k31 : Nat → Int32 → Int32 → Int32 → Int32 → Int32 → Int32 → sy_M → sy_O) (r0 : Nat) (a1 : Int32) (a3 : Int32) (a4 : Int32) (a5 : Int32) (a6 : Int32) (a7 : Int32) (a8 : Int32) (M : sy_M) : sy_O :=
  if a3 = 0 then
    jfX4_holds_291 k31 r0 a1 a3 a4 a5 a6 a7 M
  else
    if a7 < a8 then
      jfX4_holds_293 k31 r0 a1 a3 a4 a5 a6 (a8 - 1) M
    else
      jfX4_holds_291 k31 r0 a1 a3 a4 a5 a6 a7 M
set_option maxRecDepth 100000 in
theorem jrX4_holds_273 (k31 : Nat → Int32 → Int32 → Int32 → Int32 → Int32 → Int32 → sy_M → sy_O) (w9 : Value) (r0 : Nat) (a1 : Int32) (a3 : Int32) (a4 : Int32) (a5 : Int32) (a6 : Int32) (a7 : Int32) (a8 : Int32) (M : sy_M) : sy_run skX4 qX4_holds [(273, .iload_n 3, 1, [true, true, true, true, true, true, true, true, true, false]), (274, .ifCond .eq 17, 3, []), (277, .iload 8, 2, []), (279, .iload 7, 2, []), (281, .if_icmp .le 10, 3, []), (284, .iload 8, 2, []), (286, .iconst 1, 1, []), (287, .isub, 1, []), (288, .goto 5, 3, [])] [] [(291, juX4_holds_291 (jfX4_holds_291 k31)), (293, juX4_holds_293 (jfX4_holds_293 k31))] 10 [] 273 [.ref r0, .int a1, .ref 52, .int a3, .int a4, .int a5, .int a6, .int a7, .int a8, w9] [] M = jfX4_holds_273 k31 r0 a1 a3 a4 a5 a6 a7 a8 M := rfl
theorem jtX4_holds_273 {k31 : Nat → Int32 → Int32 → Int32 → Int32 → Int32 → Int32 → sy_M → sy_O} (hk31 : ∀ (w8 : Value) (w9 : Value) (r0 : Nat) (a1 : Int32) (a3 : Int32) (a4 : Int32) (a5 : Int32) (a6 : Int32) (a7 : Int32) (M : sy_M) (r : xe_R × sy_M), k31 r0 a1 a3 a4 a5 a6 a7 M = some r → sy_E (1) qX4_holds 31 [.ref r0, .int a1, .ref 52, .int a3, .int a4, .int a5, .int a6, .int a7, w8, w9] [] M r) : ∀ (w9 : Value) (r0 : Nat) (a1 : Int32) (a3 : Int32) (a4 : Int32) (a5 : Int32) (a6 : Int32) (a7 : Int32) (a8 : Int32) (M : sy_M) (r : xe_R × sy_M), jfX4_holds_273 k31 r0 a1 a3 a4 a5 a6 a7 a8 M = some r → sy_E (1) qX4_holds 273 [.ref r0, .int a1, .ref 52, .int a3, .int a4, .int a5, .int a6, .int a7, .int a8, w9] [] M r := by
  intro w9 r0 a1 a3 a4 a5 a6 a7 a8 M r h
  exact sy_run_by (d := 0) ((jrX4_holds_273 _ _ _ _ _ _ _ _ _ _ M).trans h) hkX4 (by decide +kernel) sy_cs_nil (sy_us_cons (jwX4_holds_291 (jtX4_holds_291 hk31)) (sy_us_cons (jwX4_holds_293 (jtX4_holds_293 hk31)) sy_us_nil))
def jfX4_holds_318 (k31 : Nat → Int32 → Int32 → Int32 → Int32 → Int32 → Int32 → sy_M → sy_O) (r0 : Nat) (a1 : Int32) (a3 : Int32) (a4 : Int32) (a5 : Int32) (a6 : Int32) (s0 : Int32) (M : sy_M) : sy_O :=
  jfX4_holds_323 k31 r0 a1 a3 a4 a5 a6 s0 M
set_option maxRecDepth 100000 in
theorem jrX4_holds_318 (k31 : Nat → Int32 → Int32 → Int32 → Int32 → Int32 → Int32 → sy_M → sy_O) (w7 : Value) (w8 : Value) (w9 : Value) (r0 : Nat) (a1 : Int32) (a3 : Int32) (a4 : Int32) (a5 : Int32) (a6 : Int32) (s0 : Int32) (M : sy_M) : sy_run skX4 qX4_holds [(318, .istore 7, 2, [true, true, true, true, true, true, true, false, false, false]), (320, .goto 3, 3, [])] [] [(323, juX4_holds_323 (jfX4_holds_323 k31))] 3 [] 318 [.ref r0, .int a1, .ref 52, .int a3, .int a4, .int a5, .int a6, w7, w8, w9] [.int s0] M = jfX4_holds_318 k31 r0 a1 a3 a4 a5 a6 s0 M := rfl
theorem jtX4_holds_318 {k31 : Nat → Int32 → Int32 → Int32 → Int32 → Int32 → Int32 → sy_M → sy_O} (hk31 : ∀ (w8 : Value) (w9 : Value) (r0 : Nat) (a1 : Int32) (a3 : Int32) (a4 : Int32) (a5 : Int32) (a6 : Int32) (a7 : Int32) (M : sy_M) (r : xe_R × sy_M), k31 r0 a1 a3 a4 a5 a6 a7 M = some r → sy_E (1) qX4_holds 31 [.ref r0, .int a1, .ref 52, .int a3, .int a4, .int a5, .int a6, .int a7, w8, w9] [] M r) : ∀ (w7 : Value) (w8 : Value) (w9 : Value) (r0 : Nat) (a1 : Int32) (a3 : Int32) (a4 : Int32) (a5 : Int32) (a6 : Int32) (s0 : Int32) (M : sy_M) (r : xe_R × sy_M), jfX4_holds_318 k31 r0 a1 a3 a4 a5 a6 s0 M = some r → sy_E (1) qX4_holds 318 [.ref r0, .int a1, .ref 52, .int a3, .int a4, .int a5, .int a6, w7, w8, w9] [.int s0] M r := by
  intro w7 w8 w9 r0 a1 a3 a4 a5 a6 s0 M r h
  exact sy_run_by (d := 0) ((jrX4_holds_318 _ _ _ _ _ _ _ _ _ _ _ M).trans h) hkX4 (by decide +kernel) sy_cs_nil (sy_us_cons (jwX4_holds_323 (jtX4_holds_323 hk31)) sy_us_nil)
def jfX4_holds_316 (k31 : Nat → Int32 → Int32 → Int32 → Int32 → Int32 → Int32 → sy_M → sy_O) (r0 : Nat) (a1 : Int32) (a3 : Int32) (a4 : Int32) (a5 : Int32) (a6 : Int32) (a7 : Int32) (M : sy_M) : sy_O :=
  jfX4_holds_318 k31 r0 a1 a3 a4 a5 a6 a7 M
set_option maxRecDepth 100000 in
theorem jrX4_holds_316 (k31 : Nat → Int32 → Int32 → Int32 → Int32 → Int32 → Int32 → sy_M → sy_O) (w8 : Value) (w9 : Value) (r0 : Nat) (a1 : Int32) (a3 : Int32) (a4 : Int32) (a5 : Int32) (a6 : Int32) (a7 : Int32) (M : sy_M) : sy_run skX4 qX4_holds [(316, .iload 7, 2, [true, true, true, true, true, true, true, true, false, false])] [] [(318, juX4_holds_318 (jfX4_holds_318 k31))] 2 [] 316 [.ref r0, .int a1, .ref 52, .int a3, .int a4, .int a5, .int a6, .int a7, w8, w9] [] M = jfX4_holds_316 k31 r0 a1 a3 a4 a5 a6 a7 M := rfl
theorem jtX4_holds_316 {k31 : Nat → Int32 → Int32 → Int32 → Int32 → Int32 → Int32 → sy_M → sy_O} (hk31 : ∀ (w8 : Value) (w9 : Value) (r0 : Nat) (a1 : Int32) (a3 : Int32) (a4 : Int32) (a5 : Int32) (a6 : Int32) (a7 : Int32) (M : sy_M) (r : xe_R × sy_M), k31 r0 a1 a3 a4 a5 a6 a7 M = some r → sy_E (1) qX4_holds 31 [.ref r0, .int a1, .ref 52, .int a3, .int a4, .int a5, .int a6, .int a7, w8, w9] [] M r) : ∀ (w8 : Value) (w9 : Value) (r0 : Nat) (a1 : Int32) (a3 : Int32) (a4 : Int32) (a5 : Int32) (a6 : Int32) (a7 : Int32) (M : sy_M) (r : xe_R × sy_M), jfX4_holds_316 k31 r0 a1 a3 a4 a5 a6 a7 M = some r → sy_E (1) qX4_holds 316 [.ref r0, .int a1, .ref 52, .int a3, .int a4, .int a5, .int a6, .int a7, w8, w9] [] M r := by
  intro w8 w9 r0 a1 a3 a4 a5 a6 a7 M r h
  exact sy_run_by (d := 0) ((jrX4_holds_316 _ _ _ _ _ _ _ _ _ _ M).trans h) hkX4 (by decide +kernel) sy_cs_nil (sy_us_cons (jwX4_holds_318 (jtX4_holds_318 hk31)) sy_us_nil)
def jfX4_holds_298 (k31 : Nat → Int32 → Int32 → Int32 → Int32 → Int32 → Int32 → sy_M → sy_O) (r0 : Nat) (a1 : Int32) (a3 : Int32) (a4 : Int32) (a5 : Int32) (a6 : Int32) (a7 : Int32) (a8 : Int32) (M : sy_M) : sy_O :=
  if a3 = 0 then
    if a7 < a8 then
      jfX4_holds_318 k31 r0 a1 a3 a4 a5 a6 (a8 - 1) M
    else
      jfX4_holds_316 k31 r0 a1 a3 a4 a5 a6 a7 M
  else
    jfX4_holds_316 k31 r0 a1 a3 a4 a5 a6 a7 M
set_option maxRecDepth 100000 in
theorem jrX4_holds_298 (k31 : Nat → Int32 → Int32 → Int32 → Int32 → Int32 → Int32 → sy_M → sy_O) (w9 : Value) (r0 : Nat) (a1 : Int32) (a3 : Int32) (a4 : Int32) (a5 : Int32) (a6 : Int32) (a7 : Int32) (a8 : Int32) (M : sy_M) : sy_run skX4 qX4_holds [(298, .iload_n 3, 1, [true, true, true, true, true, true, true, true, true, false]), (299, .ifCond .ne 17, 3, []), (302, .iload 8, 2, []), (304, .iload 7, 2, []), (306, .if_icmp .le 10, 3, []), (309, .iload 8, 2, []), (311, .iconst 1, 1, []), (312, .isub, 1, []), (313, .goto 5, 3, [])] [] [(316, juX4_holds_316 (jfX4_holds_316 k31)), (318, juX4_holds_318 (jfX4_holds_318 k31))] 10 [] 298 [.ref r0, .int a1, .ref 52, .int a3, .int a4, .int a5, .int a6, .int a7, .int a8, w9] [] M = jfX4_holds_298 k31 r0 a1 a3 a4 a5 a6 a7 a8 M := rfl
theorem jtX4_holds_298 {k31 : Nat → Int32 → Int32 → Int32 → Int32 → Int32 → Int32 → sy_M → sy_O} (hk31 : ∀ (w8 : Value) (w9 : Value) (r0 : Nat) (a1 : Int32) (a3 : Int32) (a4 : Int32) (a5 : Int32) (a6 : Int32) (a7 : Int32) (M : sy_M) (r : xe_R × sy_M), k31 r0 a1 a3 a4 a5 a6 a7 M = some r → sy_E (1) qX4_holds 31 [.ref r0, .int a1, .ref 52, .int a3, .int a4, .int a5, .int a6, .int a7, w8, w9] [] M r) : ∀ (w9 : Value) (r0 : Nat) (a1 : Int32) (a3 : Int32) (a4 : Int32) (a5 : Int32) (a6 : Int32) (a7 : Int32) (a8 : Int32) (M : sy_M) (r : xe_R × sy_M), jfX4_holds_298 k31 r0 a1 a3 a4 a5 a6 a7 a8 M = some r → sy_E (1) qX4_holds 298 [.ref r0, .int a1, .ref 52, .int a3, .int a4, .int a5, .int a6, .int a7, .int a8, w9] [] M r := by
  intro w9 r0 a1 a3 a4 a5 a6 a7 a8 M r h
  exact sy_run_by (d := 0) ((jrX4_holds_298 _ _ _ _ _ _ _ _ _ _ M).trans h) hkX4 (by decide +kernel) sy_cs_nil (sy_us_cons (jwX4_holds_316 (jtX4_holds_316 hk31)) (sy_us_cons (jwX4_holds_318 (jtX4_holds_318 hk31)) sy_us_nil))
def jfX4_holds_93 (k31 : Nat → Int32 → Int32 → Int32 → Int32 → Int32 → Int32 → sy_M → sy_O) (r0 : Nat) (a1 : Int32) (a3 : Int32) (a4 : Int32) (a5 : Int32) (a6 : Int32) (a7 : Int32) (a8 : Int32) (s0 : Int32) (M : sy_M) : sy_O :=
  sy_bs (sy_is 4 r0) <|
  sy_bx (xe_in a7 (sy_len M (r0 + 5))) <|
  if ((M (r0 + 5) (Int32.toNatClampNeg a7)) &&& 15) = 0 then
    jfX4_holds_156 k31 r0 a1 a3 a4 a5 a6 a7 a8 M
  else if ((M (r0 + 5) (Int32.toNatClampNeg a7)) &&& 15) = 1 then
    jfX4_holds_166 k31 r0 a1 a3 a4 a5 a6 a7 s0 M
  else if ((M (r0 + 5) (Int32.toNatClampNeg a7)) &&& 15) = 2 then
    jfX4_holds_176 k31 r0 a1 a3 a6 a7 M
  else if ((M (r0 + 5) (Int32.toNatClampNeg a7)) &&& 15) = 3 then
    jfX4_holds_176 k31 r0 a1 a3 a6 a7 M
  else if ((M (r0 + 5) (Int32.toNatClampNeg a7)) &&& 15) = 4 then
    jfX4_holds_207 k31 r0 a1 a4 a5 a6 a7 M
  else if ((M (r0 + 5) (Int32.toNatClampNeg a7)) &&& 15) = 5 then
    jfX4_holds_246 k31 r0 a1 a4 a5 a6 a7 s0 M
  else if ((M (r0 + 5) (Int32.toNatClampNeg a7)) &&& 15) = 6 then
    jfX4_holds_260 k31 r0 a1 a3 a4 a5 a6 a7 M
  else if ((M (r0 + 5) (Int32.toNatClampNeg a7)) &&& 15) = 7 then
    jfX4_holds_273 k31 r0 a1 a3 a4 a5 a6 a7 a8 M
  else if ((M (r0 + 5) (Int32.toNatClampNeg a7)) &&& 15) = 8 then
    jfX4_holds_298 k31 r0 a1 a3 a4 a5 a6 a7 a8 M
  else jfX4_holds_323 k31 r0 a1 a3 a4 a5 a6 a7 M
set_option maxRecDepth 100000 in
theorem jrX4_holds_93 (k31 : Nat → Int32 → Int32 → Int32 → Int32 → Int32 → Int32 → sy_M → sy_O) (w9 : Value) (r0 : Nat) (a1 : Int32) (a3 : Int32) (a4 : Int32) (a5 : Int32) (a6 : Int32) (a7 : Int32) (a8 : Int32) (s0 : Int32) (M : sy_M) : sy_run skX4 qX4_holds [(93, .istore 9, 2, [true, true, true, true, true, true, true, true, true, false]), (95, .aload_n 0, 1, []), (96, .getfield 24, 3, []), (99, .iload 7, 2, []), (101, .iaload, 1, []), (102, .bipush 15, 2, []), (104, .iand, 1, []), (105, .tableswitch 218 0 8 #[51, 61, 71, 71, 102, 141, 155, 168, 193], 51, [])] [] [(156, juX4_holds_156 (jfX4_holds_156 k31)), (166, juX4_holds_166 (jfX4_holds_166 k31)), (176, juX4_holds_176 (jfX4_holds_176 k31)), (207, juX4_holds_207 (jfX4_holds_207 k31)), (246, juX4_holds_246 (jfX4_holds_246 k31)), (260, juX4_holds_260 (jfX4_holds_260 k31)), (273, juX4_holds_273 (jfX4_holds_273 k31)), (298, juX4_holds_298 (jfX4_holds_298 k31)), (323, juX4_holds_323 (jfX4_holds_323 k31))] 9 [] 93 [.ref r0, .int a1, .ref 52, .int a3, .int a4, .int a5, .int a6, .int a7, .int a8, w9] [.int s0] M = jfX4_holds_93 k31 r0 a1 a3 a4 a5 a6 a7 a8 s0 M := rfl
theorem jtX4_holds_93 {k31 : Nat → Int32 → Int32 → Int32 → Int32 → Int32 → Int32 → sy_M → sy_O} (hk31 : ∀ (w8 : Value) (w9 : Value) (r0 : Nat) (a1 : Int32) (a3 : Int32) (a4 : Int32) (a5 : Int32) (a6 : Int32) (a7 : Int32) (M : sy_M) (r : xe_R × sy_M), k31 r0 a1 a3 a4 a5 a6 a7 M = some r → sy_E (1) qX4_holds 31 [.ref r0, .int a1, .ref 52, .int a3, .int a4, .int a5, .int a6, .int a7, w8, w9] [] M r) : ∀ (w9 : Value) (r0 : Nat) (a1 : Int32) (a3 : Int32) (a4 : Int32) (a5 : Int32) (a6 : Int32) (a7 : Int32) (a8 : Int32) (s0 : Int32) (M : sy_M) (r : xe_R × sy_M), jfX4_holds_93 k31 r0 a1 a3 a4 a5 a6 a7 a8 s0 M = some r → sy_E (1) qX4_holds 93 [.ref r0, .int a1, .ref 52, .int a3, .int a4, .int a5, .int a6, .int a7, .int a8, w9] [.int s0] M r := by
  intro w9 r0 a1 a3 a4 a5 a6 a7 a8 s0 M r h
  exact sy_run_by (d := 0) ((jrX4_holds_93 _ _ _ _ _ _ _ _ _ _ _ M).trans h) hkX4 (by decide +kernel) sy_cs_nil (sy_us_cons (jwX4_holds_156 (jtX4_holds_156 hk31)) (sy_us_cons (jwX4_holds_166 (jtX4_holds_166 hk31)) (sy_us_cons (jwX4_holds_176 (jtX4_holds_176 hk31)) (sy_us_cons (jwX4_holds_207 (jtX4_holds_207 hk31)) (sy_us_cons (jwX4_holds_246 (jtX4_holds_246 hk31)) (sy_us_cons (jwX4_holds_260 (jtX4_holds_260 hk31)) (sy_us_cons (jwX4_holds_273 (jtX4_holds_273 hk31)) (sy_us_cons (jwX4_holds_298 (jtX4_holds_298 hk31)) (sy_us_cons (jwX4_holds_323 (jtX4_holds_323 hk31)) sy_us_nil)))))))))
def jfX4_holds_92 (k31 : Nat → Int32 → Int32 → Int32 → Int32 → Int32 → Int32 → sy_M → sy_O) (r0 : Nat) (a1 : Int32) (a3 : Int32) (a4 : Int32) (a5 : Int32) (a6 : Int32) (a7 : Int32) (a8 : Int32) (M : sy_M) : sy_O :=
  jfX4_holds_93 k31 r0 a1 a3 a4 a5 a6 a7 a8 0 M
set_option maxRecDepth 100000 in
theorem jrX4_holds_92 (k31 : Nat → Int32 → Int32 → Int32 → Int32 → Int32 → Int32 → sy_M → sy_O) (w9 : Value) (r0 : Nat) (a1 : Int32) (a3 : Int32) (a4 : Int32) (a5 : Int32) (a6 : Int32) (a7 : Int32) (a8 : Int32) (M : sy_M) : sy_run skX4 qX4_holds [(92, .iconst 0, 1, [true, true, true, true, true, true, true, true, true, false])] [] [(93, juX4_holds_93 (jfX4_holds_93 k31))] 2 [] 92 [.ref r0, .int a1, .ref 52, .int a3, .int a4, .int a5, .int a6, .int a7, .int a8, w9] [] M = jfX4_holds_92 k31 r0 a1 a3 a4 a5 a6 a7 a8 M := rfl
theorem jtX4_holds_92 {k31 : Nat → Int32 → Int32 → Int32 → Int32 → Int32 → Int32 → sy_M → sy_O} (hk31 : ∀ (w8 : Value) (w9 : Value) (r0 : Nat) (a1 : Int32) (a3 : Int32) (a4 : Int32) (a5 : Int32) (a6 : Int32) (a7 : Int32) (M : sy_M) (r : xe_R × sy_M), k31 r0 a1 a3 a4 a5 a6 a7 M = some r → sy_E (1) qX4_holds 31 [.ref r0, .int a1, .ref 52, .int a3, .int a4, .int a5, .int a6, .int a7, w8, w9] [] M r) : ∀ (w9 : Value) (r0 : Nat) (a1 : Int32) (a3 : Int32) (a4 : Int32) (a5 : Int32) (a6 : Int32) (a7 : Int32) (a8 : Int32) (M : sy_M) (r : xe_R × sy_M), jfX4_holds_92 k31 r0 a1 a3 a4 a5 a6 a7 a8 M = some r → sy_E (1) qX4_holds 92 [.ref r0, .int a1, .ref 52, .int a3, .int a4, .int a5, .int a6, .int a7, .int a8, w9] [] M r := by
  intro w9 r0 a1 a3 a4 a5 a6 a7 a8 M r h
  exact sy_run_by (d := 0) ((jrX4_holds_92 _ _ _ _ _ _ _ _ _ _ M).trans h) hkX4 (by decide +kernel) sy_cs_nil (sy_us_cons (jwX4_holds_93 (jtX4_holds_93 hk31)) sy_us_nil)
def jgX4_holds_31 (k31 : Nat → Int32 → Int32 → Int32 → Int32 → Int32 → Int32 → sy_M → sy_O) (r0 : Nat) (a1 : Int32) (a3 : Int32) (a4 : Int32) (a5 : Int32) (a6 : Int32) (a7 : Int32) (M : sy_M) : sy_O :=
  if a7 < 0 then
    sy_bb (sy_bo a3) <| sy_ri a3 M
  else
    sy_bs (sy_is 4 r0) <|
    sy_bx (xe_in a1 (sy_len M (r0 + 4))) <|
    if a7 < (M (r0 + 4) (Int32.toNatClampNeg a1)) then
      if a7 < 512 then
        sy_bs (sy_is 4 r0) <|
        sy_bx (xe_in a7 (sy_len M (r0 + 5))) <|
        let v1 := ((M (r0 + 5) (Int32.toNatClampNeg a7)) >>> (4 &&& 31))
        if v1 < 0 then
          jfX4_holds_92 k31 r0 a1 a3 a4 a5 a6 a7 v1 M
        else
          if v1 < 9 then
            if v1 < (Nat.toInt32 9) then
              sy_bx (xe_in v1 9) <|
              jfX4_holds_93 k31 r0 a1 a3 a4 a5 a6 a7 v1 (M 52 (Int32.toNatClampNeg v1)) M
            else
              jfX4_holds_92 k31 r0 a1 a3 a4 a5 a6 a7 v1 M
          else
            jfX4_holds_92 k31 r0 a1 a3 a4 a5 a6 a7 v1 M
      else
        sy_bb (sy_bo a3) <| sy_ri a3 M
    else
      sy_bb (sy_bo a3) <| sy_ri a3 M
def jfX4_holds_31 : Nat → Nat → Int32 → Int32 → Int32 → Int32 → Int32 → Int32 → sy_M → sy_O
  | 0, _, _, _, _, _, _, _, _ => none
  | n + 1, r0, a1, a3, a4, a5, a6, a7, M => jgX4_holds_31 (jfX4_holds_31 n) r0 a1 a3 a4 a5 a6 a7 M
set_option maxRecDepth 100000 in
theorem jrX4_holds_31 (k31 : Nat → Int32 → Int32 → Int32 → Int32 → Int32 → Int32 → sy_M → sy_O) (w8 : Value) (w9 : Value) (r0 : Nat) (a1 : Int32) (a3 : Int32) (a4 : Int32) (a5 : Int32) (a6 : Int32) (a7 : Int32) (M : sy_M) : sy_run skX4 qX4_holds [(31, .iload 7, 2, [true, true, true, true, true, true, true, true, false, false]), (33, .ifCond .lt 296, 3, []), (36, .iload 7, 2, []), (38, .aload_n 0, 1, []), (39, .getfield 21, 3, []), (42, .iload_n 1, 1, []), (43, .iaload, 1, []), (44, .if_icmp .ge 285, 3, []), (47, .iload 7, 2, []), (49, .sipush 512, 3, []), (52, .if_icmp .ge 277, 3, []), (55, .aload_n 0, 1, []), (56, .getfield 24, 3, []), (59, .iload 7, 2, []), (61, .iaload, 1, []), (62, .iconst 4, 1, []), (63, .ishr, 1, []), (64, .istore 8, 2, []), (66, .iload 8, 2, []), (68, .ifCond .lt 24, 3, []), (71, .iload 8, 2, []), (73, .bipush 9, 2, []), (75, .if_icmp .ge 17, 3, []), (78, .iload 8, 2, []), (80, .aload_n 2, 1, []), (81, .arraylength, 1, []), (82, .if_icmp .ge 10, 3, []), (85, .aload_n 2, 1, []), (86, .iload 8, 2, []), (88, .iaload, 1, []), (89, .goto 4, 3, []), (329, .iload_n 3, 1, [false, false, false, true, false, false, false, false, false, false]), (330, .ireturn, 1, [])] [] [(92, juX4_holds_92 (jfX4_holds_92 k31)), (93, juX4_holds_93 (jfX4_holds_93 k31))] 34 [] 31 [.ref r0, .int a1, .ref 52, .int a3, .int a4, .int a5, .int a6, .int a7, w8, w9] [] M = jgX4_holds_31 k31 r0 a1 a3 a4 a5 a6 a7 M := rfl
theorem jtX4_holds_31 : ∀ n : Nat, ∀ (w8 : Value) (w9 : Value) (r0 : Nat) (a1 : Int32) (a3 : Int32) (a4 : Int32) (a5 : Int32) (a6 : Int32) (a7 : Int32) (M : sy_M) (r : xe_R × sy_M), jfX4_holds_31 n r0 a1 a3 a4 a5 a6 a7 M = some r → sy_E (1) qX4_holds 31 [.ref r0, .int a1, .ref 52, .int a3, .int a4, .int a5, .int a6, .int a7, w8, w9] [] M r := by
  intro n
  induction n with
  | zero => intro w8 w9 r0 a1 a3 a4 a5 a6 a7 M r h; exact absurd (show (none : sy_O) = some r from h) (by simp)
  | succ n ih => intro w8 w9 r0 a1 a3 a4 a5 a6 a7 M r h; exact sy_run_by (d := 0) ((jrX4_holds_31 _ _ _ _ _ _ _ _ _ _ M).trans h) hkX4 (by decide +kernel) sy_cs_nil (sy_us_cons (jwX4_holds_92 (jtX4_holds_92 ih)) (sy_us_cons (jwX4_holds_93 (jtX4_holds_93 ih)) sy_us_nil))
def jfX4_holds (r0 : Nat) (a1 : Int32) (M : sy_M) : sy_O :=
  if a1 < 0 then
    sy_ri 0 M
  else
    if a1 < 12 then
      sy_bs (sy_is 4 r0) <|
      sy_bx (xe_in a1 (sy_len M (r0 + 3))) <|
      let v1 := (M (r0 + 3) (Int32.toNatClampNeg a1))
      jfX4_holds_31 sy_F r0 a1 1 1 0 0 v1 M
    else
      sy_ri 0 M
set_option maxRecDepth 100000 in
theorem jrX4_holds (r0 : Nat) (a1 : Int32) (M : sy_M) : sy_run skX4 qX4_holds [(0, .iconst 1, 1, []), (1, .istore_n 3, 1, []), (2, .iconst 1, 1, []), (3, .istore 4, 2, []), (5, .iconst 0, 1, []), (6, .istore 5, 2, []), (8, .iconst 0, 1, []), (9, .istore 6, 2, []), (11, .iload_n 1, 1, []), (12, .ifCond .lt 9, 3, []), (15, .iload_n 1, 1, []), (16, .bipush 12, 2, []), (18, .if_icmp .lt 5, 3, []), (21, .iconst 0, 1, [false, false, false, false, false, false, false, false, false, false]), (22, .ireturn, 1, []), (23, .aload_n 0, 1, [true, true, true, true, true, true, true, false, false, false]), (24, .getfield 18, 3, []), (27, .iload_n 1, 1, []), (28, .iaload, 1, []), (29, .istore 7, 2, [])] [] [(31, juX4_holds_31 (jfX4_holds_31 sy_F))] 21 [] 0 [.ref r0, .int a1, .ref 52, xe_no, xe_no, xe_no, xe_no, xe_no, xe_no, xe_no] [] M = jfX4_holds r0 a1 M := rfl
theorem jtX4_holds : ∀ (r0 : Nat) (a1 : Int32) (M : sy_M) (r : xe_R × sy_M), jfX4_holds r0 a1 M = some r → sy_E (1) qX4_holds 0 [.ref r0, .int a1, .ref 52, xe_no, xe_no, xe_no, xe_no, xe_no, xe_no, xe_no] [] M r := by
  intro r0 a1 M r h
  exact sy_run_by (d := 0) ((jrX4_holds _ _ M).trans h) hkX4 (by decide +kernel) sy_cs_nil (sy_us_cons (jwX4_holds_31 (jtX4_holds_31 sy_F)) sy_us_nil)
def jcX4_holds (as : List Value) (M : sy_M) (K : sy_O → sy_O) : sy_O := sy_xa as fun r0 l => sy_xi l fun a1 l => sy_xc 52 l fun l => sy_xn l (K (jfX4_holds r0 a1 M))
theorem jeX4_holds : sy_snd (1) 46 (jcX4_holds) := by
  intro as M K r h
  obtain ⟨r0, l, e, h1⟩ := sy_xa_ok h; subst e
  obtain ⟨a1, l, e, h2⟩ := sy_xi_ok h1; subst e
  obtain ⟨l, e, h3⟩ := sy_xc_ok h2; subst e
  obtain ⟨e, h4⟩ := sy_xn_ok h3; subst e
  exact ⟨_, h4, fun r1 h0 => ⟨qX4_holds, rfl, rfl, jtX4_holds _ _ M r1 h0⟩⟩
/-! X4_turnOf StairMeter$Law turnOf ([I)I ['A', ('R', 52)] -/
def juX4_turnOf_65 (k : Nat → Int32 → Int32 → sy_M → sy_O) (ls st : List Value) (M : sy_M) : sy_O := sy_xa ls fun r0 l => sy_xc 52 l fun l => sy_xi l fun a2 l => sy_xi l fun a3 l => sy_xn l (sy_xn st (k r0 a2 a3 M))
theorem jwX4_turnOf_65 {d : Nat} {k : Nat → Int32 → Int32 → sy_M → sy_O} (hk : ∀ (r0 : Nat) (a2 : Int32) (a3 : Int32) (M : sy_M) (r : xe_R × sy_M), k r0 a2 a3 M = some r → sy_E (d) qX4_turnOf 65 [.ref r0, .ref 52, .int a2, .int a3] [] M r) : ∀ ls st M r, juX4_turnOf_65 k ls st M = some r → sy_E d qX4_turnOf 65 ls st M r := by
  intro ls st M r h
  obtain ⟨r0, l, e, h1⟩ := sy_xa_ok h; subst e
  obtain ⟨l, e, h2⟩ := sy_xc_ok h1; subst e
  obtain ⟨a2, l, e, h3⟩ := sy_xi_ok h2; subst e
  obtain ⟨a3, l, e, h4⟩ := sy_xi_ok h3; subst e
  obtain ⟨e, h5⟩ := sy_xn_ok h4; subst e
  obtain ⟨e, h6⟩ := sy_xn_ok h5; subst e
  exact hk r0 a2 a3 M r h6
def juX4_turnOf_63 (k : Nat → Int32 → Int32 → Int32 → sy_M → sy_O) (ls st : List Value) (M : sy_M) : sy_O := sy_xa ls fun r0 l => sy_xc 52 l fun l => sy_xv l fun _ l => sy_xi l fun a3 l => sy_xn l (sy_xi st fun s0 l => sy_xi l fun s1 l => sy_xn l (k r0 a3 s0 s1 M))
theorem jwX4_turnOf_63 {d : Nat} {k : Nat → Int32 → Int32 → Int32 → sy_M → sy_O} (hk : ∀ (w2 : Value) (r0 : Nat) (a3 : Int32) (s0 : Int32) (s1 : Int32) (M : sy_M) (r : xe_R × sy_M), k r0 a3 s0 s1 M = some r → sy_E (d) qX4_turnOf 63 [.ref r0, .ref 52, w2, .int a3] [.int s0, .int s1] M r) : ∀ ls st M r, juX4_turnOf_63 k ls st M = some r → sy_E d qX4_turnOf 63 ls st M r := by
  intro ls st M r h
  obtain ⟨r0, l, e, h1⟩ := sy_xa_ok h; subst e
  obtain ⟨l, e, h2⟩ := sy_xc_ok h1; subst e
  obtain ⟨w2, l, e, h3⟩ := sy_xv_ok h2; subst e
  obtain ⟨a3, l, e, h4⟩ := sy_xi_ok h3; subst e
  obtain ⟨e, h5⟩ := sy_xn_ok h4; subst e
  obtain ⟨s0, l, e, h6⟩ := sy_xi_ok h5; subst e
  obtain ⟨s1, l, e, h7⟩ := sy_xi_ok h6; subst e
  obtain ⟨e, h8⟩ := sy_xn_ok h7; subst e
  exact hk _ r0 a3 s0 s1 M r h8
def juX4_turnOf_4 (k : Nat → Int32 → Int32 → sy_M → sy_O) (ls st : List Value) (M : sy_M) : sy_O := sy_xa ls fun r0 l => sy_xc 52 l fun l => sy_xi l fun a2 l => sy_xi l fun a3 l => sy_xn l (sy_xn st (k r0 a2 a3 M))
theorem jwX4_turnOf_4 {d : Nat} {k : Nat → Int32 → Int32 → sy_M → sy_O} (hk : ∀ (r0 : Nat) (a2 : Int32) (a3 : Int32) (M : sy_M) (r : xe_R × sy_M), k r0 a2 a3 M = some r → sy_E (d) qX4_turnOf 4 [.ref r0, .ref 52, .int a2, .int a3] [] M r) : ∀ ls st M r, juX4_turnOf_4 k ls st M = some r → sy_E d qX4_turnOf 4 ls st M r := by
  intro ls st M r h
  obtain ⟨r0, l, e, h1⟩ := sy_xa_ok h; subst e
  obtain ⟨l, e, h2⟩ := sy_xc_ok h1; subst e
  obtain ⟨a2, l, e, h3⟩ := sy_xi_ok h2; subst e
  obtain ⟨a3, l, e, h4⟩ := sy_xi_ok h3; subst e
  obtain ⟨e, h5⟩ := sy_xn_ok h4; subst e
  obtain ⟨e, h6⟩ := sy_xn_ok h5; subst e
  exact hk r0 a2 a3 M r h6
def jfX4_turnOf_65 (k4 : Nat → Int32 → Int32 → sy_M → sy_O) (r0 : Nat) (a2 : Int32) (a3 : Int32) (M : sy_M) : sy_O :=
  let v1 := a3 + 1
  k4 r0 a2 v1 M
set_option maxRecDepth 100000 in
theorem jrX4_turnOf_65 (k4 : Nat → Int32 → Int32 → sy_M → sy_O) (r0 : Nat) (a2 : Int32) (a3 : Int32) (M : sy_M) : sy_run skX4 qX4_turnOf [(65, .iinc 3 1, 3, []), (68, .goto (-64), 3, [])] [] [(4, juX4_turnOf_4 k4)] 3 [] 65 [.ref r0, .ref 52, .int a2, .int a3] [] M = jfX4_turnOf_65 k4 r0 a2 a3 M := rfl
theorem jtX4_turnOf_65 {k4 : Nat → Int32 → Int32 → sy_M → sy_O} (hk4 : ∀ (r0 : Nat) (a2 : Int32) (a3 : Int32) (M : sy_M) (r : xe_R × sy_M), k4 r0 a2 a3 M = some r → sy_E (2) qX4_turnOf 4 [.ref r0, .ref 52, .int a2, .int a3] [] M r) : ∀ (r0 : Nat) (a2 : Int32) (a3 : Int32) (M : sy_M) (r : xe_R × sy_M), jfX4_turnOf_65 k4 r0 a2 a3 M = some r → sy_E (2) qX4_turnOf 65 [.ref r0, .ref 52, .int a2, .int a3] [] M r := by
  intro r0 a2 a3 M r h
  exact sy_run_by (d := 1) ((jrX4_turnOf_65 _ _ _ _ M).trans h) hkX4 (by decide +kernel) sy_cs_nil (sy_us_cons (jwX4_turnOf_4 hk4) sy_us_nil)
def jfX4_turnOf_63 (k4 : Nat → Int32 → Int32 → sy_M → sy_O) (r0 : Nat) (a3 : Int32) (s0 : Int32) (s1 : Int32) (M : sy_M) : sy_O :=
  let v1 := (s1 + s0)
  jfX4_turnOf_65 k4 r0 v1 a3 M
set_option maxRecDepth 100000 in
theorem jrX4_turnOf_63 (k4 : Nat → Int32 → Int32 → sy_M → sy_O) (w2 : Value) (r0 : Nat) (a3 : Int32) (s0 : Int32) (s1 : Int32) (M : sy_M) : sy_run skX4 qX4_turnOf [(63, .iadd, 1, [true, true, false, true]), (64, .istore_n 2, 1, [])] [] [(65, juX4_turnOf_65 (jfX4_turnOf_65 k4))] 3 [] 63 [.ref r0, .ref 52, w2, .int a3] [.int s0, .int s1] M = jfX4_turnOf_63 k4 r0 a3 s0 s1 M := rfl
theorem jtX4_turnOf_63 {k4 : Nat → Int32 → Int32 → sy_M → sy_O} (hk4 : ∀ (r0 : Nat) (a2 : Int32) (a3 : Int32) (M : sy_M) (r : xe_R × sy_M), k4 r0 a2 a3 M = some r → sy_E (2) qX4_turnOf 4 [.ref r0, .ref 52, .int a2, .int a3] [] M r) : ∀ (w2 : Value) (r0 : Nat) (a3 : Int32) (s0 : Int32) (s1 : Int32) (M : sy_M) (r : xe_R × sy_M), jfX4_turnOf_63 k4 r0 a3 s0 s1 M = some r → sy_E (2) qX4_turnOf 63 [.ref r0, .ref 52, w2, .int a3] [.int s0, .int s1] M r := by
  intro w2 r0 a3 s0 s1 M r h
  exact sy_run_by (d := 1) ((jrX4_turnOf_63 _ _ _ _ _ _ M).trans h) hkX4 (by decide +kernel) sy_cs_nil (sy_us_cons (jwX4_turnOf_65 (jtX4_turnOf_65 hk4)) sy_us_nil)
def jgX4_turnOf_4 (k4 : Nat → Int32 → Int32 → sy_M → sy_O) (r0 : Nat) (a2 : Int32) (a3 : Int32) (M : sy_M) : sy_O :=
  sy_bs (sy_is 4 r0) <|
  if a3 < (M r0 6) then
    if a3 < 12 then
      sy_bs (sy_is 4 r0) <|
      sy_bx (xe_in a3 (sy_len M (r0 + 1))) <|
      if (M (r0 + 1) (Int32.toNatClampNeg a3)) = 2 then
        jfX4_turnOf_65 k4 r0 a2 a3 M
      else
        sy_bs (sy_is 4 r0) <|
        sy_bi (jfX4_holds r0 a3 M) fun v2 M1 =>
        if v2 = 0 then
          jfX4_turnOf_65 k4 r0 a2 a3 M1
        else
          sy_bs (sy_is 4 r0) <|
          sy_bx (xe_in a3 (sy_len M1 (r0 + 1))) <|
          if (M1 (r0 + 1) (Int32.toNatClampNeg a3)) = 0 then
            sy_bs (sy_is 4 r0) <|
            sy_bx (xe_in a3 (sy_len M1 (r0 + 2))) <|
            jfX4_turnOf_63 k4 r0 a3 (M1 (r0 + 2) (Int32.toNatClampNeg a3)) a2 M1
          else
            sy_bs (sy_is 4 r0) <|
            sy_bx (xe_in a3 (sy_len M1 (r0 + 2))) <|
            jfX4_turnOf_63 k4 r0 a3 (-(M1 (r0 + 2) (Int32.toNatClampNeg a3))) a2 M1
    else
      sy_ri a2 M
  else
    sy_ri a2 M
def jfX4_turnOf_4 : Nat → Nat → Int32 → Int32 → sy_M → sy_O
  | 0, _, _, _, _ => none
  | n + 1, r0, a2, a3, M => jgX4_turnOf_4 (jfX4_turnOf_4 n) r0 a2 a3 M
set_option maxRecDepth 100000 in
theorem jrX4_turnOf_4 (k4 : Nat → Int32 → Int32 → sy_M → sy_O) (r0 : Nat) (a2 : Int32) (a3 : Int32) (M : sy_M) : sy_run skX4 qX4_turnOf [(4, .iload_n 3, 1, []), (5, .aload_n 0, 1, []), (6, .getfield 31, 3, []), (9, .if_icmp .ge 62, 3, []), (12, .iload_n 3, 1, []), (13, .bipush 12, 2, []), (15, .if_icmp .ge 56, 3, []), (18, .aload_n 0, 1, []), (19, .getfield 9, 3, []), (22, .iload_n 3, 1, []), (23, .iaload, 1, []), (24, .iconst 2, 1, []), (25, .if_icmp .eq 40, 3, []), (28, .aload_n 0, 1, []), (29, .iload_n 3, 1, []), (30, .aload_n 1, 1, []), (31, .invokevirtual 44, 3, []), (34, .ifCond .eq 31, 3, []), (37, .iload_n 2, 1, []), (38, .aload_n 0, 1, []), (39, .getfield 9, 3, []), (42, .iload_n 3, 1, []), (43, .iaload, 1, []), (44, .ifCond .ne 12, 3, []), (47, .aload_n 0, 1, []), (48, .getfield 15, 3, []), (51, .iload_n 3, 1, []), (52, .iaload, 1, []), (53, .goto 10, 3, []), (56, .aload_n 0, 1, [true, true, false, true]), (57, .getfield 15, 3, []), (60, .iload_n 3, 1, []), (61, .iaload, 1, []), (62, .ineg, 1, []), (71, .iload_n 2, 1, [false, false, true, false]), (72, .ireturn, 1, [])] [(46, 0, jcX4_holds)] [(65, juX4_turnOf_65 (jfX4_turnOf_65 k4)), (63, juX4_turnOf_63 (jfX4_turnOf_63 k4))] 37 [] 4 [.ref r0, .ref 52, .int a2, .int a3] [] M = jgX4_turnOf_4 k4 r0 a2 a3 M := rfl
theorem jtX4_turnOf_4 : ∀ n : Nat, ∀ (r0 : Nat) (a2 : Int32) (a3 : Int32) (M : sy_M) (r : xe_R × sy_M), jfX4_turnOf_4 n r0 a2 a3 M = some r → sy_E (2) qX4_turnOf 4 [.ref r0, .ref 52, .int a2, .int a3] [] M r := by
  intro n
  induction n with
  | zero => intro r0 a2 a3 M r h; exact absurd (show (none : sy_O) = some r from h) (by simp)
  | succ n ih => intro r0 a2 a3 M r h; exact sy_run_by (d := 1) ((jrX4_turnOf_4 _ _ _ _ M).trans h) hkX4 (by decide +kernel) (sy_cs_cons (jeX4_holds.deep (by decide)) sy_cs_nil) (sy_us_cons (jwX4_turnOf_65 (jtX4_turnOf_65 ih)) (sy_us_cons (jwX4_turnOf_63 (jtX4_turnOf_63 ih)) sy_us_nil))
def jfX4_turnOf (r0 : Nat) (M : sy_M) : sy_O :=
  jfX4_turnOf_4 sy_F r0 0 0 M
set_option maxRecDepth 100000 in
theorem jrX4_turnOf (r0 : Nat) (M : sy_M) : sy_run skX4 qX4_turnOf [(0, .iconst 0, 1, []), (1, .istore_n 2, 1, []), (2, .iconst 0, 1, []), (3, .istore_n 3, 1, [])] [] [(4, juX4_turnOf_4 (jfX4_turnOf_4 sy_F))] 5 [] 0 [.ref r0, .ref 52, xe_no, xe_no] [] M = jfX4_turnOf r0 M := rfl
theorem jtX4_turnOf : ∀ (r0 : Nat) (M : sy_M) (r : xe_R × sy_M), jfX4_turnOf r0 M = some r → sy_E (2) qX4_turnOf 0 [.ref r0, .ref 52, xe_no, xe_no] [] M r := by
  intro r0 M r h
  exact sy_run_by (d := 1) ((jrX4_turnOf _ M).trans h) hkX4 (by decide +kernel) sy_cs_nil (sy_us_cons (jwX4_turnOf_4 (jtX4_turnOf_4 sy_F)) sy_us_nil)
def jcX4_turnOf (as : List Value) (M : sy_M) (K : sy_O → sy_O) : sy_O := sy_xa as fun r0 l => sy_xc 52 l fun l => sy_xn l (K (jfX4_turnOf r0 M))
theorem jeX4_turnOf : sy_snd (2) 44 (jcX4_turnOf) := by
  intro as M K r h
  obtain ⟨r0, l, e, h1⟩ := sy_xa_ok h; subst e
  obtain ⟨l, e, h2⟩ := sy_xc_ok h1; subst e
  obtain ⟨e, h3⟩ := sy_xn_ok h2; subst e
  exact ⟨_, h3, fun r1 h0 => ⟨qX4_turnOf, rfl, rfl, jtX4_turnOf _ M r1 h0⟩⟩
/-! X4_isRefused StairMeter$Law isRefused ([I)Z ['A', ('R', 52)] -/
def juX4_isRefused_37 (k : Nat → Int32 → sy_M → sy_O) (ls st : List Value) (M : sy_M) : sy_O := sy_xa ls fun r0 l => sy_xc 52 l fun l => sy_xi l fun a2 l => sy_xn l (sy_xn st (k r0 a2 M))
theorem jwX4_isRefused_37 {d : Nat} {k : Nat → Int32 → sy_M → sy_O} (hk : ∀ (r0 : Nat) (a2 : Int32) (M : sy_M) (r : xe_R × sy_M), k r0 a2 M = some r → sy_E (d) qX4_isRefused 37 [.ref r0, .ref 52, .int a2] [] M r) : ∀ ls st M r, juX4_isRefused_37 k ls st M = some r → sy_E d qX4_isRefused 37 ls st M r := by
  intro ls st M r h
  obtain ⟨r0, l, e, h1⟩ := sy_xa_ok h; subst e
  obtain ⟨l, e, h2⟩ := sy_xc_ok h1; subst e
  obtain ⟨a2, l, e, h3⟩ := sy_xi_ok h2; subst e
  obtain ⟨e, h4⟩ := sy_xn_ok h3; subst e
  obtain ⟨e, h5⟩ := sy_xn_ok h4; subst e
  exact hk r0 a2 M r h5
def juX4_isRefused_2 (k : Nat → Int32 → sy_M → sy_O) (ls st : List Value) (M : sy_M) : sy_O := sy_xa ls fun r0 l => sy_xc 52 l fun l => sy_xi l fun a2 l => sy_xn l (sy_xn st (k r0 a2 M))
theorem jwX4_isRefused_2 {d : Nat} {k : Nat → Int32 → sy_M → sy_O} (hk : ∀ (r0 : Nat) (a2 : Int32) (M : sy_M) (r : xe_R × sy_M), k r0 a2 M = some r → sy_E (d) qX4_isRefused 2 [.ref r0, .ref 52, .int a2] [] M r) : ∀ ls st M r, juX4_isRefused_2 k ls st M = some r → sy_E d qX4_isRefused 2 ls st M r := by
  intro ls st M r h
  obtain ⟨r0, l, e, h1⟩ := sy_xa_ok h; subst e
  obtain ⟨l, e, h2⟩ := sy_xc_ok h1; subst e
  obtain ⟨a2, l, e, h3⟩ := sy_xi_ok h2; subst e
  obtain ⟨e, h4⟩ := sy_xn_ok h3; subst e
  obtain ⟨e, h5⟩ := sy_xn_ok h4; subst e
  exact hk r0 a2 M r h5
def jfX4_isRefused_37 (k2 : Nat → Int32 → sy_M → sy_O) (r0 : Nat) (a2 : Int32) (M : sy_M) : sy_O :=
  let v1 := a2 + 1
  k2 r0 v1 M
set_option maxRecDepth 100000 in
theorem jrX4_isRefused_37 (k2 : Nat → Int32 → sy_M → sy_O) (r0 : Nat) (a2 : Int32) (M : sy_M) : sy_run skX4 qX4_isRefused [(37, .iinc 2 1, 3, []), (40, .goto (-38), 3, [])] [] [(2, juX4_isRefused_2 k2)] 3 [] 37 [.ref r0, .ref 52, .int a2] [] M = jfX4_isRefused_37 k2 r0 a2 M := rfl
theorem jtX4_isRefused_37 {k2 : Nat → Int32 → sy_M → sy_O} (hk2 : ∀ (r0 : Nat) (a2 : Int32) (M : sy_M) (r : xe_R × sy_M), k2 r0 a2 M = some r → sy_E (2) qX4_isRefused 2 [.ref r0, .ref 52, .int a2] [] M r) : ∀ (r0 : Nat) (a2 : Int32) (M : sy_M) (r : xe_R × sy_M), jfX4_isRefused_37 k2 r0 a2 M = some r → sy_E (2) qX4_isRefused 37 [.ref r0, .ref 52, .int a2] [] M r := by
  intro r0 a2 M r h
  exact sy_run_by (d := 1) ((jrX4_isRefused_37 _ _ _ M).trans h) hkX4 (by decide +kernel) sy_cs_nil (sy_us_cons (jwX4_isRefused_2 hk2) sy_us_nil)
def jgX4_isRefused_2 (k2 : Nat → Int32 → sy_M → sy_O) (r0 : Nat) (a2 : Int32) (M : sy_M) : sy_O :=
  sy_bs (sy_is 4 r0) <|
  if a2 < (M r0 6) then
    if a2 < 12 then
      sy_bs (sy_is 4 r0) <|
      sy_bx (xe_in a2 (sy_len M (r0 + 1))) <|
      if (M (r0 + 1) (Int32.toNatClampNeg a2)) = 2 then
        sy_bs (sy_is 4 r0) <|
        sy_bi (jfX4_holds r0 a2 M) fun v2 M1 =>
        if v2 = 0 then
          jfX4_isRefused_37 k2 r0 a2 M1
        else
          sy_ri 1 M1
      else
        jfX4_isRefused_37 k2 r0 a2 M
    else
      sy_ri 0 M
  else
    sy_ri 0 M
def jfX4_isRefused_2 : Nat → Nat → Int32 → sy_M → sy_O
  | 0, _, _, _ => none
  | n + 1, r0, a2, M => jgX4_isRefused_2 (jfX4_isRefused_2 n) r0 a2 M
set_option maxRecDepth 100000 in
theorem jrX4_isRefused_2 (k2 : Nat → Int32 → sy_M → sy_O) (r0 : Nat) (a2 : Int32) (M : sy_M) : sy_run skX4 qX4_isRefused [(2, .iload_n 2, 1, []), (3, .aload_n 0, 1, []), (4, .getfield 31, 3, []), (7, .if_icmp .ge 36, 3, []), (10, .iload_n 2, 1, []), (11, .bipush 12, 2, []), (13, .if_icmp .ge 30, 3, []), (16, .aload_n 0, 1, []), (17, .getfield 9, 3, []), (20, .iload_n 2, 1, []), (21, .iaload, 1, []), (22, .iconst 2, 1, []), (23, .if_icmp .ne 14, 3, []), (26, .aload_n 0, 1, []), (27, .iload_n 2, 1, []), (28, .aload_n 1, 1, []), (29, .invokevirtual 44, 3, []), (32, .ifCond .eq 5, 3, []), (35, .iconst 1, 1, []), (36, .ireturn, 1, []), (43, .iconst 0, 1, [false, false, false]), (44, .ireturn, 1, [])] [(46, 0, jcX4_holds)] [(37, juX4_isRefused_37 (jfX4_isRefused_37 k2))] 23 [] 2 [.ref r0, .ref 52, .int a2] [] M = jgX4_isRefused_2 k2 r0 a2 M := rfl
theorem jtX4_isRefused_2 : ∀ n : Nat, ∀ (r0 : Nat) (a2 : Int32) (M : sy_M) (r : xe_R × sy_M), jfX4_isRefused_2 n r0 a2 M = some r → sy_E (2) qX4_isRefused 2 [.ref r0, .ref 52, .int a2] [] M r := by
  intro n
  induction n with
  | zero => intro r0 a2 M r h; exact absurd (show (none : sy_O) = some r from h) (by simp)
  | succ n ih => intro r0 a2 M r h; exact sy_run_by (d := 1) ((jrX4_isRefused_2 _ _ _ M).trans h) hkX4 (by decide +kernel) (sy_cs_cons (jeX4_holds.deep (by decide)) sy_cs_nil) (sy_us_cons (jwX4_isRefused_37 (jtX4_isRefused_37 ih)) sy_us_nil)
def jfX4_isRefused (r0 : Nat) (M : sy_M) : sy_O :=
  jfX4_isRefused_2 sy_F r0 0 M
set_option maxRecDepth 100000 in
theorem jrX4_isRefused (r0 : Nat) (M : sy_M) : sy_run skX4 qX4_isRefused [(0, .iconst 0, 1, []), (1, .istore_n 2, 1, [])] [] [(2, juX4_isRefused_2 (jfX4_isRefused_2 sy_F))] 3 [] 0 [.ref r0, .ref 52, xe_no] [] M = jfX4_isRefused r0 M := rfl
theorem jtX4_isRefused : ∀ (r0 : Nat) (M : sy_M) (r : xe_R × sy_M), jfX4_isRefused r0 M = some r → sy_E (2) qX4_isRefused 0 [.ref r0, .ref 52, xe_no] [] M r := by
  intro r0 M r h
  exact sy_run_by (d := 1) ((jrX4_isRefused _ M).trans h) hkX4 (by decide +kernel) sy_cs_nil (sy_us_cons (jwX4_isRefused_2 (jtX4_isRefused_2 sy_F)) sy_us_nil)
def jcX4_isRefused (as : List Value) (M : sy_M) (K : sy_O → sy_O) : sy_O := sy_xa as fun r0 l => sy_xc 52 l fun l => sy_xn l (K (jfX4_isRefused r0 M))
theorem jeX4_isRefused : sy_snd (2) 45 (jcX4_isRefused) := by
  intro as M K r h
  obtain ⟨r0, l, e, h1⟩ := sy_xa_ok h; subst e
  obtain ⟨l, e, h2⟩ := sy_xc_ok h1; subst e
  obtain ⟨e, h3⟩ := sy_xn_ok h2; subst e
  exact ⟨_, h3, fun r1 h0 => ⟨qX4_isRefused, rfl, rfl, jtX4_isRefused _ M r1 h0⟩⟩
/-! X2_sum StairMeter$House sum (I)I ['A', 'I'] -/
def juX2_sum_4 (k : Nat → Int32 → Int32 → Int32 → sy_M → sy_O) (ls st : List Value) (M : sy_M) : sy_O := sy_xa ls fun r0 l => sy_xi l fun a1 l => sy_xi l fun a2 l => sy_xi l fun a3 l => sy_xn l (sy_xn st (k r0 a1 a2 a3 M))
theorem jwX2_sum_4 {d : Nat} {k : Nat → Int32 → Int32 → Int32 → sy_M → sy_O} (hk : ∀ (r0 : Nat) (a1 : Int32) (a2 : Int32) (a3 : Int32) (M : sy_M) (r : xe_R × sy_M), k r0 a1 a2 a3 M = some r → sy_E (d) qX2_sum 4 [.ref r0, .int a1, .int a2, .int a3] [] M r) : ∀ ls st M r, juX2_sum_4 k ls st M = some r → sy_E d qX2_sum 4 ls st M r := by
  intro ls st M r h
  obtain ⟨r0, l, e, h1⟩ := sy_xa_ok h; subst e
  obtain ⟨a1, l, e, h2⟩ := sy_xi_ok h1; subst e
  obtain ⟨a2, l, e, h3⟩ := sy_xi_ok h2; subst e
  obtain ⟨a3, l, e, h4⟩ := sy_xi_ok h3; subst e
  obtain ⟨e, h5⟩ := sy_xn_ok h4; subst e
  obtain ⟨e, h6⟩ := sy_xn_ok h5; subst e
  exact hk r0 a1 a2 a3 M r h6
def jgX2_sum_4 (k4 : Nat → Int32 → Int32 → Int32 → sy_M → sy_O) (r0 : Nat) (a1 : Int32) (a2 : Int32) (a3 : Int32) (M : sy_M) : sy_O :=
  sy_bs (sy_is 2 r0) <|
  if a3 < (M r0 3) then
    sy_bs (sy_is 2 r0) <|
    sy_bi (jfX2_get r0 a3 a1 M) fun v2 M1 =>
    let v3 := (a2 + v2)
    let v4 := a3 + 1
    k4 r0 a1 v3 v4 M1
  else
    sy_ri a2 M
def jfX2_sum_4 : Nat → Nat → Int32 → Int32 → Int32 → sy_M → sy_O
  | 0, _, _, _, _, _ => none
  | n + 1, r0, a1, a2, a3, M => jgX2_sum_4 (jfX2_sum_4 n) r0 a1 a2 a3 M
set_option maxRecDepth 100000 in
theorem jrX2_sum_4 (k4 : Nat → Int32 → Int32 → Int32 → sy_M → sy_O) (r0 : Nat) (a1 : Int32) (a2 : Int32) (a3 : Int32) (M : sy_M) : sy_run skX2 qX2_sum [(4, .iload_n 3, 1, []), (5, .aload_n 0, 1, []), (6, .getfield 27, 3, []), (9, .if_icmp .ge 18, 3, []), (12, .iload_n 2, 1, []), (13, .aload_n 0, 1, []), (14, .iload_n 3, 1, []), (15, .iload_n 1, 1, []), (16, .invokevirtual 71, 3, []), (19, .iadd, 1, []), (20, .istore_n 2, 1, []), (21, .iinc 3 1, 3, []), (24, .goto (-20), 3, []), (27, .iload_n 2, 1, [false, false, true, false]), (28, .ireturn, 1, [])] [(10, 0, jcX2_get)] [(4, juX2_sum_4 k4)] 16 [] 4 [.ref r0, .int a1, .int a2, .int a3] [] M = jgX2_sum_4 k4 r0 a1 a2 a3 M := rfl
theorem jtX2_sum_4 : ∀ n : Nat, ∀ (r0 : Nat) (a1 : Int32) (a2 : Int32) (a3 : Int32) (M : sy_M) (r : xe_R × sy_M), jfX2_sum_4 n r0 a1 a2 a3 M = some r → sy_E (2) qX2_sum 4 [.ref r0, .int a1, .int a2, .int a3] [] M r := by
  intro n
  induction n with
  | zero => intro r0 a1 a2 a3 M r h; exact absurd (show (none : sy_O) = some r from h) (by simp)
  | succ n ih => intro r0 a1 a2 a3 M r h; exact sy_run_by (d := 1) ((jrX2_sum_4 _ _ _ _ _ M).trans h) hkX2 (by decide +kernel) (sy_cs_cons (jeX2_get.deep (by decide)) sy_cs_nil) (sy_us_cons (jwX2_sum_4 ih) sy_us_nil)
def jfX2_sum (r0 : Nat) (a1 : Int32) (M : sy_M) : sy_O :=
  jfX2_sum_4 sy_F r0 a1 0 0 M
set_option maxRecDepth 100000 in
theorem jrX2_sum (r0 : Nat) (a1 : Int32) (M : sy_M) : sy_run skX2 qX2_sum [(0, .iconst 0, 1, []), (1, .istore_n 2, 1, []), (2, .iconst 0, 1, []), (3, .istore_n 3, 1, [])] [] [(4, juX2_sum_4 (jfX2_sum_4 sy_F))] 5 [] 0 [.ref r0, .int a1, xe_no, xe_no] [] M = jfX2_sum r0 a1 M := rfl
theorem jtX2_sum : ∀ (r0 : Nat) (a1 : Int32) (M : sy_M) (r : xe_R × sy_M), jfX2_sum r0 a1 M = some r → sy_E (2) qX2_sum 0 [.ref r0, .int a1, xe_no, xe_no] [] M r := by
  intro r0 a1 M r h
  exact sy_run_by (d := 1) ((jrX2_sum _ _ M).trans h) hkX2 (by decide +kernel) sy_cs_nil (sy_us_cons (jwX2_sum_4 (jtX2_sum_4 sy_F)) sy_us_nil)
def jcX2_sum (as : List Value) (M : sy_M) (K : sy_O → sy_O) : sy_O := sy_xa as fun r0 l => sy_xi l fun a1 l => sy_xn l (K (jfX2_sum r0 a1 M))
theorem jeX2_sum : sy_snd (2) 12 (jcX2_sum) := by
  intro as M K r h
  obtain ⟨r0, l, e, h1⟩ := sy_xa_ok h; subst e
  obtain ⟨a1, l, e, h2⟩ := sy_xi_ok h1; subst e
  obtain ⟨e, h3⟩ := sy_xn_ok h2; subst e
  exact ⟨_, h3, fun r1 h0 => ⟨qX2_sum, rfl, rfl, jtX2_sum _ _ M r1 h0⟩⟩
/-! X11_share StairMeter share (III)I ['I', 'I', 'I'] -/
def jfX11_share (a0 : Int32) (a1 : Int32) (a2 : Int32) (M : sy_M) : sy_O :=
  if 0 < a2 then
    if a2 = 0 then none else
    sy_ri ((a0 * a1) / a2) M
  else
    sy_ri 0 M
set_option maxRecDepth 100000 in
theorem jrX11_share (a0 : Int32) (a1 : Int32) (a2 : Int32) (M : sy_M) : sy_run skX11 qX11_share [(0, .iload_n 2, 1, []), (1, .ifCond .le 11, 3, []), (4, .iload_n 0, 1, []), (5, .iload_n 1, 1, []), (6, .imul, 1, []), (7, .iload_n 2, 1, []), (8, .idiv, 1, []), (9, .goto 4, 3, []), (12, .iconst 0, 1, [false, false, false]), (13, .ireturn, 1, [false, false, false])] [] [] 11 [] 0 [.int a0, .int a1, .int a2] [] M = jfX11_share a0 a1 a2 M := rfl
theorem jtX11_share : ∀ (a0 : Int32) (a1 : Int32) (a2 : Int32) (M : sy_M) (r : xe_R × sy_M), jfX11_share a0 a1 a2 M = some r → sy_E (1) qX11_share 0 [.int a0, .int a1, .int a2] [] M r := by
  intro a0 a1 a2 M r h
  exact sy_run_by (d := 0) ((jrX11_share _ _ _ M).trans h) hkX11 (by decide +kernel) sy_cs_nil sy_us_nil
def jcX11_share (as : List Value) (M : sy_M) (K : sy_O → sy_O) : sy_O := sy_xi as fun a0 l => sy_xi l fun a1 l => sy_xi l fun a2 l => sy_xn l (K (jfX11_share a0 a1 a2 M))
theorem jeX11_share : sy_snd (1) 130 (jcX11_share) := by
  intro as M K r h
  obtain ⟨a0, l, e, h1⟩ := sy_xi_ok h; subst e
  obtain ⟨a1, l, e, h2⟩ := sy_xi_ok h1; subst e
  obtain ⟨a2, l, e, h3⟩ := sy_xi_ok h2; subst e
  obtain ⟨e, h4⟩ := sy_xn_ok h3; subst e
  exact ⟨_, h4, fun r1 h0 => ⟨qX11_share, rfl, rfl, jtX11_share _ _ _ M r1 h0⟩⟩
/-! X11_hundredths StairMeter hundredths (II)I ['I', 'I'] -/
def jfX11_hundredths (a0 : Int32) (a1 : Int32) (M : sy_M) : sy_O :=
  sy_bi (jfX11_share 100 a0 a1 M) fun v2 M1 =>
  sy_ri v2 M1
set_option maxRecDepth 100000 in
theorem jrX11_hundredths (a0 : Int32) (a1 : Int32) (M : sy_M) : sy_run skX11 qX11_hundredths [(0, .bipush 100, 2, []), (2, .iload_n 0, 1, []), (3, .iload_n 1, 1, []), (4, .invokestatic 311, 3, []), (7, .ireturn, 1, [])] [(130, 0, jcX11_share)] [] 6 [] 0 [.int a0, .int a1] [] M = jfX11_hundredths a0 a1 M := rfl
theorem jtX11_hundredths : ∀ (a0 : Int32) (a1 : Int32) (M : sy_M) (r : xe_R × sy_M), jfX11_hundredths a0 a1 M = some r → sy_E (2) qX11_hundredths 0 [.int a0, .int a1] [] M r := by
  intro a0 a1 M r h
  exact sy_run_by (d := 1) ((jrX11_hundredths _ _ M).trans h) hkX11 (by decide +kernel) (sy_cs_cons (jeX11_share.deep (by decide)) sy_cs_nil) sy_us_nil
def jcX11_hundredths (as : List Value) (M : sy_M) (K : sy_O → sy_O) : sy_O := sy_xi as fun a0 l => sy_xi l fun a1 l => sy_xn l (K (jfX11_hundredths a0 a1 M))
theorem jeX11_hundredths : sy_snd (2) 131 (jcX11_hundredths) := by
  intro as M K r h
  obtain ⟨a0, l, e, h1⟩ := sy_xi_ok h; subst e
  obtain ⟨a1, l, e, h2⟩ := sy_xi_ok h1; subst e
  obtain ⟨e, h3⟩ := sy_xn_ok h2; subst e
  exact ⟨_, h3, fun r1 h0 => ⟨qX11_hundredths, rfl, rfl, jtX11_hundredths _ _ M r1 h0⟩⟩
/-! J9_floorMod_7cf53 java/lang/Math floorMod (II)I ['I', 'I'] -/
def jfJ9_floorMod_7cf53 (a0 : Int32) (a1 : Int32) (M : sy_M) : sy_O :=
  if a1 = 0 then none else
  let v1 := (a0 - a0 / a1 * a1)
  if (a0 ^^^ a1) < 0 then
    if v1 = 0 then
      sy_ri v1 M
    else
      sy_ri (v1 + a1) M
  else
    sy_ri v1 M
set_option maxRecDepth 100000 in
theorem jrJ9_floorMod_7cf53 (a0 : Int32) (a1 : Int32) (M : sy_M) : sy_run (xe_lk (xe_link qJ9_floorMod_7cf53)) qJ9_floorMod_7cf53 [(0, .iload_n 0, 1, []), (1, .iload_n 1, 1, []), (2, .irem, 1, []), (3, .istore_n 2, 1, []), (4, .iload_n 0, 1, []), (5, .iload_n 1, 1, []), (6, .ixor, 1, []), (7, .ifCond .ge 11, 3, []), (10, .iload_n 2, 1, []), (11, .ifCond .eq 7, 3, []), (14, .iload_n 2, 1, []), (15, .iload_n 1, 1, []), (16, .iadd, 1, []), (17, .ireturn, 1, []), (18, .iload_n 2, 1, [false, false, true]), (19, .ireturn, 1, [])] [] [] 17 [] 0 [.int a0, .int a1, xe_no] [] M = jfJ9_floorMod_7cf53 a0 a1 M := rfl
theorem jtJ9_floorMod_7cf53 : ∀ (a0 : Int32) (a1 : Int32) (M : sy_M) (r : xe_R × sy_M), jfJ9_floorMod_7cf53 a0 a1 M = some r → sy_E (1) qJ9_floorMod_7cf53 0 [.int a0, .int a1, xe_no] [] M r := by
  intro a0 a1 M r h
  exact sy_run_by (d := 0) ((jrJ9_floorMod_7cf53 _ _ M).trans h) (fun _ => rfl) (by decide +kernel) sy_cs_nil sy_us_nil
def jcJ9_floorMod_7cf53 (as : List Value) (M : sy_M) (K : sy_O → sy_O) : sy_O := sy_xi as fun a0 l => sy_xi l fun a1 l => sy_xn l (K (jfJ9_floorMod_7cf53 a0 a1 M))
theorem jeJ9_floorMod_7cf53 : sy_snd (1) 358 (jcJ9_floorMod_7cf53) := by
  intro as M K r h
  obtain ⟨a0, l, e, h1⟩ := sy_xi_ok h; subst e
  obtain ⟨a1, l, e, h2⟩ := sy_xi_ok h1; subst e
  obtain ⟨e, h3⟩ := sy_xn_ok h2; subst e
  exact ⟨_, h3, fun r1 h0 => ⟨qJ9_floorMod_7cf53, rfl, rfl, jtJ9_floorMod_7cf53 _ _ M r1 h0⟩⟩
/-! X2_hours StairMeter$House hours (I)I ['A', 'I'] -/
def jfX2_hours (r0 : Nat) (a1 : Int32) (M : sy_M) : sy_O :=
  sy_bs (sy_is 2 r0) <|
  sy_bi (jfX2_get r0 a1 2 M) fun v2 M1 =>
  sy_bs (sy_is 2 r0) <|
  sy_bi (jfX2_get r0 a1 1 M1) fun v4 M3 =>
  sy_bi (jfJ9_floorMod_7cf53 (v2 - v4) 48 M3) fun v6 M5 =>
  sy_ri (v6 + 1) M5
set_option maxRecDepth 100000 in
theorem jrX2_hours (r0 : Nat) (a1 : Int32) (M : sy_M) : sy_run skX2 qX2_hours [(0, .aload_n 0, 1, []), (1, .iload_n 1, 1, []), (2, .iconst 2, 1, []), (3, .invokevirtual 71, 3, []), (6, .aload_n 0, 1, []), (7, .iload_n 1, 1, []), (8, .iconst 1, 1, []), (9, .invokevirtual 71, 3, []), (12, .isub, 1, []), (13, .bipush 48, 2, []), (15, .invokestatic 75, 3, []), (18, .iconst 1, 1, []), (19, .iadd, 1, []), (20, .ireturn, 1, [])] [(10, 0, jcX2_get), (358, 0, jcJ9_floorMod_7cf53)] [] 15 [] 0 [.ref r0, .int a1] [] M = jfX2_hours r0 a1 M := rfl
theorem jtX2_hours : ∀ (r0 : Nat) (a1 : Int32) (M : sy_M) (r : xe_R × sy_M), jfX2_hours r0 a1 M = some r → sy_E (2) qX2_hours 0 [.ref r0, .int a1] [] M r := by
  intro r0 a1 M r h
  exact sy_run_by (d := 1) ((jrX2_hours _ _ M).trans h) hkX2 (by decide +kernel) (sy_cs_cons (jeX2_get.deep (by decide)) (sy_cs_cons (jeJ9_floorMod_7cf53.deep (by decide)) sy_cs_nil)) sy_us_nil
def jcX2_hours (as : List Value) (M : sy_M) (K : sy_O → sy_O) : sy_O := sy_xa as fun r0 l => sy_xi l fun a1 l => sy_xn l (K (jfX2_hours r0 a1 M))
theorem jeX2_hours : sy_snd (2) 14 (jcX2_hours) := by
  intro as M K r h
  obtain ⟨r0, l, e, h1⟩ := sy_xa_ok h; subst e
  obtain ⟨a1, l, e, h2⟩ := sy_xi_ok h1; subst e
  obtain ⟨e, h3⟩ := sy_xn_ok h2; subst e
  exact ⟨_, h3, fun r1 h0 => ⟨qX2_hours, rfl, rfl, jtX2_hours _ _ M r1 h0⟩⟩
/-! X2_metered StairMeter$House metered (I)I ['A', 'I'] -/
def jfX2_metered (r0 : Nat) (a1 : Int32) (M : sy_M) : sy_O :=
  sy_bs (sy_is 2 r0) <|
  sy_bi (jfX2_get r0 a1 0 M) fun v2 M1 =>
  sy_bs (sy_is 2 r0) <|
  sy_bi (jfX2_hours r0 a1 M1) fun v4 M3 =>
  sy_ri (v2 * v4) M3
set_option maxRecDepth 100000 in
theorem jrX2_metered (r0 : Nat) (a1 : Int32) (M : sy_M) : sy_run skX2 qX2_metered [(0, .aload_n 0, 1, []), (1, .iload_n 1, 1, []), (2, .iconst 0, 1, []), (3, .invokevirtual 71, 3, []), (6, .aload_n 0, 1, []), (7, .iload_n 1, 1, []), (8, .invokevirtual 80, 3, []), (11, .imul, 1, []), (12, .ireturn, 1, [])] [(10, 0, jcX2_get), (14, 0, jcX2_hours)] [] 10 [] 0 [.ref r0, .int a1] [] M = jfX2_metered r0 a1 M := rfl
theorem jtX2_metered : ∀ (r0 : Nat) (a1 : Int32) (M : sy_M) (r : xe_R × sy_M), jfX2_metered r0 a1 M = some r → sy_E (3) qX2_metered 0 [.ref r0, .int a1] [] M r := by
  intro r0 a1 M r h
  exact sy_run_by (d := 2) ((jrX2_metered _ _ M).trans h) hkX2 (by decide +kernel) (sy_cs_cons (jeX2_get.deep (by decide)) (sy_cs_cons (jeX2_hours.deep (by decide)) sy_cs_nil)) sy_us_nil
def jcX2_metered (as : List Value) (M : sy_M) (K : sy_O → sy_O) : sy_O := sy_xa as fun r0 l => sy_xi l fun a1 l => sy_xn l (K (jfX2_metered r0 a1 M))
theorem jeX2_metered : sy_snd (3) 15 (jcX2_metered) := by
  intro as M K r h
  obtain ⟨r0, l, e, h1⟩ := sy_xa_ok h; subst e
  obtain ⟨a1, l, e, h2⟩ := sy_xi_ok h1; subst e
  obtain ⟨e, h3⟩ := sy_xn_ok h2; subst e
  exact ⟨_, h3, fun r1 h0 => ⟨qX2_metered, rfl, rfl, jtX2_metered _ _ M r1 h0⟩⟩
/-! X2_burnt StairMeter$House burnt (I)I ['A', 'I'] -/
def juX2_burnt_31 (k : Nat → Int32 → Int32 → Int32 → Int32 → sy_M → sy_O) (ls st : List Value) (M : sy_M) : sy_O := sy_xa ls fun r0 l => sy_xi l fun a1 l => sy_xv l fun _ l => sy_xi l fun a3 l => sy_xn l (sy_xi st fun s0 l => sy_xi l fun s1 l => sy_xn l (k r0 a1 a3 s0 s1 M))
theorem jwX2_burnt_31 {d : Nat} {k : Nat → Int32 → Int32 → Int32 → Int32 → sy_M → sy_O} (hk : ∀ (w2 : Value) (r0 : Nat) (a1 : Int32) (a3 : Int32) (s0 : Int32) (s1 : Int32) (M : sy_M) (r : xe_R × sy_M), k r0 a1 a3 s0 s1 M = some r → sy_E (d) qX2_burnt 31 [.ref r0, .int a1, w2, .int a3] [.int s0, .int s1] M r) : ∀ ls st M r, juX2_burnt_31 k ls st M = some r → sy_E d qX2_burnt 31 ls st M r := by
  intro ls st M r h
  obtain ⟨r0, l, e, h1⟩ := sy_xa_ok h; subst e
  obtain ⟨a1, l, e, h2⟩ := sy_xi_ok h1; subst e
  obtain ⟨w2, l, e, h3⟩ := sy_xv_ok h2; subst e
  obtain ⟨a3, l, e, h4⟩ := sy_xi_ok h3; subst e
  obtain ⟨e, h5⟩ := sy_xn_ok h4; subst e
  obtain ⟨s0, l, e, h6⟩ := sy_xi_ok h5; subst e
  obtain ⟨s1, l, e, h7⟩ := sy_xi_ok h6; subst e
  obtain ⟨e, h8⟩ := sy_xn_ok h7; subst e
  exact hk _ r0 a1 a3 s0 s1 M r h8
def juX2_burnt_4 (k : Nat → Int32 → Int32 → Int32 → sy_M → sy_O) (ls st : List Value) (M : sy_M) : sy_O := sy_xa ls fun r0 l => sy_xi l fun a1 l => sy_xi l fun a2 l => sy_xi l fun a3 l => sy_xn l (sy_xn st (k r0 a1 a2 a3 M))
theorem jwX2_burnt_4 {d : Nat} {k : Nat → Int32 → Int32 → Int32 → sy_M → sy_O} (hk : ∀ (r0 : Nat) (a1 : Int32) (a2 : Int32) (a3 : Int32) (M : sy_M) (r : xe_R × sy_M), k r0 a1 a2 a3 M = some r → sy_E (d) qX2_burnt 4 [.ref r0, .int a1, .int a2, .int a3] [] M r) : ∀ ls st M r, juX2_burnt_4 k ls st M = some r → sy_E d qX2_burnt 4 ls st M r := by
  intro ls st M r h
  obtain ⟨r0, l, e, h1⟩ := sy_xa_ok h; subst e
  obtain ⟨a1, l, e, h2⟩ := sy_xi_ok h1; subst e
  obtain ⟨a2, l, e, h3⟩ := sy_xi_ok h2; subst e
  obtain ⟨a3, l, e, h4⟩ := sy_xi_ok h3; subst e
  obtain ⟨e, h5⟩ := sy_xn_ok h4; subst e
  obtain ⟨e, h6⟩ := sy_xn_ok h5; subst e
  exact hk r0 a1 a2 a3 M r h6
def jfX2_burnt_31 (k4 : Nat → Int32 → Int32 → Int32 → sy_M → sy_O) (r0 : Nat) (a1 : Int32) (a3 : Int32) (s0 : Int32) (s1 : Int32) (M : sy_M) : sy_O :=
  let v1 := (s1 + s0)
  let v2 := a3 + 1
  k4 r0 a1 v1 v2 M
set_option maxRecDepth 100000 in
theorem jrX2_burnt_31 (k4 : Nat → Int32 → Int32 → Int32 → sy_M → sy_O) (w2 : Value) (r0 : Nat) (a1 : Int32) (a3 : Int32) (s0 : Int32) (s1 : Int32) (M : sy_M) : sy_run skX2 qX2_burnt [(31, .iadd, 1, [true, true, false, true]), (32, .istore_n 2, 1, []), (33, .iinc 3 1, 3, []), (36, .goto (-32), 3, [])] [] [(4, juX2_burnt_4 k4)] 5 [] 31 [.ref r0, .int a1, w2, .int a3] [.int s0, .int s1] M = jfX2_burnt_31 k4 r0 a1 a3 s0 s1 M := rfl
theorem jtX2_burnt_31 {k4 : Nat → Int32 → Int32 → Int32 → sy_M → sy_O} (hk4 : ∀ (r0 : Nat) (a1 : Int32) (a2 : Int32) (a3 : Int32) (M : sy_M) (r : xe_R × sy_M), k4 r0 a1 a2 a3 M = some r → sy_E (2) qX2_burnt 4 [.ref r0, .int a1, .int a2, .int a3] [] M r) : ∀ (w2 : Value) (r0 : Nat) (a1 : Int32) (a3 : Int32) (s0 : Int32) (s1 : Int32) (M : sy_M) (r : xe_R × sy_M), jfX2_burnt_31 k4 r0 a1 a3 s0 s1 M = some r → sy_E (2) qX2_burnt 31 [.ref r0, .int a1, w2, .int a3] [.int s0, .int s1] M r := by
  intro w2 r0 a1 a3 s0 s1 M r h
  exact sy_run_by (d := 1) ((jrX2_burnt_31 _ _ _ _ _ _ _ M).trans h) hkX2 (by decide +kernel) sy_cs_nil (sy_us_cons (jwX2_burnt_4 hk4) sy_us_nil)
def jgX2_burnt_4 (k4 : Nat → Int32 → Int32 → Int32 → sy_M → sy_O) (r0 : Nat) (a1 : Int32) (a2 : Int32) (a3 : Int32) (M : sy_M) : sy_O :=
  sy_bs (sy_is 2 r0) <|
  if a3 < (M r0 3) then
    if ((a1 >>> (a3 &&& 31)) &&& 1) = 0 then
      jfX2_burnt_31 k4 r0 a1 a3 0 a2 M
    else
      sy_bs (sy_is 2 r0) <|
      sy_bi (jfX2_get r0 a3 0 M) fun v2 M1 =>
      jfX2_burnt_31 k4 r0 a1 a3 v2 a2 M1
  else
    sy_ri a2 M
def jfX2_burnt_4 : Nat → Nat → Int32 → Int32 → Int32 → sy_M → sy_O
  | 0, _, _, _, _, _ => none
  | n + 1, r0, a1, a2, a3, M => jgX2_burnt_4 (jfX2_burnt_4 n) r0 a1 a2 a3 M
set_option maxRecDepth 100000 in
theorem jrX2_burnt_4 (k4 : Nat → Int32 → Int32 → Int32 → sy_M → sy_O) (r0 : Nat) (a1 : Int32) (a2 : Int32) (a3 : Int32) (M : sy_M) : sy_run skX2 qX2_burnt [(4, .iload_n 3, 1, []), (5, .aload_n 0, 1, []), (6, .getfield 27, 3, []), (9, .if_icmp .ge 30, 3, []), (12, .iload_n 2, 1, []), (13, .iload_n 1, 1, []), (14, .iload_n 3, 1, []), (15, .ishr, 1, []), (16, .iconst 1, 1, []), (17, .iand, 1, []), (18, .ifCond .eq 12, 3, []), (21, .aload_n 0, 1, []), (22, .iload_n 3, 1, []), (23, .iconst 0, 1, []), (24, .invokevirtual 71, 3, []), (27, .goto 4, 3, []), (30, .iconst 0, 1, [true, true, false, true]), (39, .iload_n 2, 1, [false, false, true, false]), (40, .ireturn, 1, [])] [(10, 0, jcX2_get)] [(31, juX2_burnt_31 (jfX2_burnt_31 k4))] 20 [] 4 [.ref r0, .int a1, .int a2, .int a3] [] M = jgX2_burnt_4 k4 r0 a1 a2 a3 M := rfl
theorem jtX2_burnt_4 : ∀ n : Nat, ∀ (r0 : Nat) (a1 : Int32) (a2 : Int32) (a3 : Int32) (M : sy_M) (r : xe_R × sy_M), jfX2_burnt_4 n r0 a1 a2 a3 M = some r → sy_E (2) qX2_burnt 4 [.ref r0, .int a1, .int a2, .int a3] [] M r := by
  intro n
  induction n with
  | zero => intro r0 a1 a2 a3 M r h; exact absurd (show (none : sy_O) = some r from h) (by simp)
  | succ n ih => intro r0 a1 a2 a3 M r h; exact sy_run_by (d := 1) ((jrX2_burnt_4 _ _ _ _ _ M).trans h) hkX2 (by decide +kernel) (sy_cs_cons (jeX2_get.deep (by decide)) sy_cs_nil) (sy_us_cons (jwX2_burnt_31 (jtX2_burnt_31 ih)) sy_us_nil)
def jfX2_burnt (r0 : Nat) (a1 : Int32) (M : sy_M) : sy_O :=
  jfX2_burnt_4 sy_F r0 a1 0 0 M
set_option maxRecDepth 100000 in
theorem jrX2_burnt (r0 : Nat) (a1 : Int32) (M : sy_M) : sy_run skX2 qX2_burnt [(0, .iconst 0, 1, []), (1, .istore_n 2, 1, []), (2, .iconst 0, 1, []), (3, .istore_n 3, 1, [])] [] [(4, juX2_burnt_4 (jfX2_burnt_4 sy_F))] 5 [] 0 [.ref r0, .int a1, xe_no, xe_no] [] M = jfX2_burnt r0 a1 M := rfl
theorem jtX2_burnt : ∀ (r0 : Nat) (a1 : Int32) (M : sy_M) (r : xe_R × sy_M), jfX2_burnt r0 a1 M = some r → sy_E (2) qX2_burnt 0 [.ref r0, .int a1, xe_no, xe_no] [] M r := by
  intro r0 a1 M r h
  exact sy_run_by (d := 1) ((jrX2_burnt _ _ M).trans h) hkX2 (by decide +kernel) sy_cs_nil (sy_us_cons (jwX2_burnt_4 (jtX2_burnt_4 sy_F)) sy_us_nil)
def jcX2_burnt (as : List Value) (M : sy_M) (K : sy_O → sy_O) : sy_O := sy_xa as fun r0 l => sy_xi l fun a1 l => sy_xn l (K (jfX2_burnt r0 a1 M))
theorem jeX2_burnt : sy_snd (2) 16 (jcX2_burnt) := by
  intro as M K r h
  obtain ⟨r0, l, e, h1⟩ := sy_xa_ok h; subst e
  obtain ⟨a1, l, e, h2⟩ := sy_xi_ok h1; subst e
  obtain ⟨e, h3⟩ := sy_xn_ok h2; subst e
  exact ⟨_, h3, fun r1 h0 => ⟨qX2_burnt, rfl, rfl, jtX2_burnt _ _ M r1 h0⟩⟩
/-! X2_isIn StairMeter$House isIn (II)Z ['A', 'I', 'I'] -/
def juX2_isIn_51 (k : sy_M → sy_O) (ls st : List Value) (M : sy_M) : sy_O := sy_xv ls fun _ l => sy_xv l fun _ l => sy_xv l fun _ l => sy_xv l fun _ l => sy_xv l fun _ l => sy_xn l (sy_xn st (k M))
theorem jwX2_isIn_51 {d : Nat} {k : sy_M → sy_O} (hk : ∀ (w0 : Value) (w1 : Value) (w2 : Value) (w3 : Value) (w4 : Value) (M : sy_M) (r : xe_R × sy_M), k M = some r → sy_E (d) qX2_isIn 51 [w0, w1, w2, w3, w4] [] M r) : ∀ ls st M r, juX2_isIn_51 k ls st M = some r → sy_E d qX2_isIn 51 ls st M r := by
  intro ls st M r h
  obtain ⟨w0, l, e, h1⟩ := sy_xv_ok h; subst e
  obtain ⟨w1, l, e, h2⟩ := sy_xv_ok h1; subst e
  obtain ⟨w2, l, e, h3⟩ := sy_xv_ok h2; subst e
  obtain ⟨w3, l, e, h4⟩ := sy_xv_ok h3; subst e
  obtain ⟨w4, l, e, h5⟩ := sy_xv_ok h4; subst e
  obtain ⟨e, h6⟩ := sy_xn_ok h5; subst e
  obtain ⟨e, h7⟩ := sy_xn_ok h6; subst e
  exact hk _ _ _ _ _ M r h7
def juX2_isIn_36 (k : sy_M → sy_O) (ls st : List Value) (M : sy_M) : sy_O := sy_xv ls fun _ l => sy_xv l fun _ l => sy_xv l fun _ l => sy_xv l fun _ l => sy_xv l fun _ l => sy_xn l (sy_xn st (k M))
theorem jwX2_isIn_36 {d : Nat} {k : sy_M → sy_O} (hk : ∀ (w0 : Value) (w1 : Value) (w2 : Value) (w3 : Value) (w4 : Value) (M : sy_M) (r : xe_R × sy_M), k M = some r → sy_E (d) qX2_isIn 36 [w0, w1, w2, w3, w4] [] M r) : ∀ ls st M r, juX2_isIn_36 k ls st M = some r → sy_E d qX2_isIn 36 ls st M r := by
  intro ls st M r h
  obtain ⟨w0, l, e, h1⟩ := sy_xv_ok h; subst e
  obtain ⟨w1, l, e, h2⟩ := sy_xv_ok h1; subst e
  obtain ⟨w2, l, e, h3⟩ := sy_xv_ok h2; subst e
  obtain ⟨w3, l, e, h4⟩ := sy_xv_ok h3; subst e
  obtain ⟨w4, l, e, h5⟩ := sy_xv_ok h4; subst e
  obtain ⟨e, h6⟩ := sy_xn_ok h5; subst e
  obtain ⟨e, h7⟩ := sy_xn_ok h6; subst e
  exact hk _ _ _ _ _ M r h7
def jfX2_isIn_51 (M : sy_M) : sy_O :=
  sy_ri 1 M
set_option maxRecDepth 100000 in
theorem jrX2_isIn_51 (w0 : Value) (w1 : Value) (w2 : Value) (w3 : Value) (w4 : Value) (M : sy_M) : sy_run skX2 qX2_isIn [(51, .iconst 1, 1, [false, false, false, false, false]), (52, .goto 4, 3, []), (56, .ireturn, 1, [false, false, false, false, false])] [] [] 4 [] 51 [w0, w1, w2, w3, w4] [] M = jfX2_isIn_51 M := rfl
theorem jtX2_isIn_51 : ∀ (w0 : Value) (w1 : Value) (w2 : Value) (w3 : Value) (w4 : Value) (M : sy_M) (r : xe_R × sy_M), jfX2_isIn_51 M = some r → sy_E (2) qX2_isIn 51 [w0, w1, w2, w3, w4] [] M r := by
  intro w0 w1 w2 w3 w4 M r h
  exact sy_run_by (d := 1) ((jrX2_isIn_51 _ _ _ _ _ M).trans h) hkX2 (by decide +kernel) sy_cs_nil sy_us_nil
def jfX2_isIn_36 (M : sy_M) : sy_O :=
  sy_ri 0 M
set_option maxRecDepth 100000 in
theorem jrX2_isIn_36 (w0 : Value) (w1 : Value) (w2 : Value) (w3 : Value) (w4 : Value) (M : sy_M) : sy_run skX2 qX2_isIn [(36, .iconst 0, 1, [false, false, false, false, false]), (37, .goto 19, 3, []), (56, .ireturn, 1, [false, false, false, false, false])] [] [] 4 [] 36 [w0, w1, w2, w3, w4] [] M = jfX2_isIn_36 M := rfl
theorem jtX2_isIn_36 : ∀ (w0 : Value) (w1 : Value) (w2 : Value) (w3 : Value) (w4 : Value) (M : sy_M) (r : xe_R × sy_M), jfX2_isIn_36 M = some r → sy_E (2) qX2_isIn 36 [w0, w1, w2, w3, w4] [] M r := by
  intro w0 w1 w2 w3 w4 M r h
  exact sy_run_by (d := 1) ((jrX2_isIn_36 _ _ _ _ _ M).trans h) hkX2 (by decide +kernel) sy_cs_nil sy_us_nil
def jfX2_isIn (r0 : Nat) (a1 : Int32) (a2 : Int32) (M : sy_M) : sy_O :=
  sy_bs (sy_is 2 r0) <|
  sy_bi (jfX2_get r0 a1 1 M) fun v2 M1 =>
  sy_bs (sy_is 2 r0) <|
  sy_bi (jfX2_get r0 a1 2 M1) fun v4 M3 =>
  if v4 < v2 then
    if a2 < v2 then
      if v4 < a2 then
        sy_ri 0 M3
      else
        jfX2_isIn_51 M3
    else
      jfX2_isIn_51 M3
  else
    if a2 < v2 then
      jfX2_isIn_36 M3
    else
      if v4 < a2 then
        jfX2_isIn_36 M3
      else
        sy_ri 1 M3
set_option maxRecDepth 100000 in
theorem jrX2_isIn (r0 : Nat) (a1 : Int32) (a2 : Int32) (M : sy_M) : sy_run skX2 qX2_isIn [(0, .aload_n 0, 1, []), (1, .iload_n 1, 1, []), (2, .iconst 1, 1, []), (3, .invokevirtual 71, 3, []), (6, .istore_n 3, 1, []), (7, .aload_n 0, 1, []), (8, .iload_n 1, 1, []), (9, .iconst 2, 1, []), (10, .invokevirtual 71, 3, []), (13, .istore 4, 2, []), (15, .iload_n 3, 1, []), (16, .iload 4, 2, []), (18, .if_icmp .gt 22, 3, []), (21, .iload_n 3, 1, []), (22, .iload_n 2, 1, []), (23, .if_icmp .gt 13, 3, []), (26, .iload_n 2, 1, []), (27, .iload 4, 2, []), (29, .if_icmp .gt 7, 3, []), (32, .iconst 1, 1, []), (33, .goto 23, 3, []), (40, .iload_n 3, 1, [false, false, true, true, true]), (41, .iload_n 2, 1, []), (42, .if_icmp .le 9, 3, []), (45, .iload_n 2, 1, []), (46, .iload 4, 2, []), (48, .if_icmp .gt 7, 3, []), (55, .iconst 0, 1, [false, false, false, false, false]), (56, .ireturn, 1, [false, false, false, false, false])] [(10, 0, jcX2_get)] [(51, juX2_isIn_51 (jfX2_isIn_51)), (36, juX2_isIn_36 (jfX2_isIn_36))] 30 [] 0 [.ref r0, .int a1, .int a2, xe_no, xe_no] [] M = jfX2_isIn r0 a1 a2 M := rfl
theorem jtX2_isIn : ∀ (r0 : Nat) (a1 : Int32) (a2 : Int32) (M : sy_M) (r : xe_R × sy_M), jfX2_isIn r0 a1 a2 M = some r → sy_E (2) qX2_isIn 0 [.ref r0, .int a1, .int a2, xe_no, xe_no] [] M r := by
  intro r0 a1 a2 M r h
  exact sy_run_by (d := 1) ((jrX2_isIn _ _ _ M).trans h) hkX2 (by decide +kernel) (sy_cs_cons (jeX2_get.deep (by decide)) sy_cs_nil) (sy_us_cons (jwX2_isIn_51 (jtX2_isIn_51)) (sy_us_cons (jwX2_isIn_36 (jtX2_isIn_36)) sy_us_nil))
def jcX2_isIn (as : List Value) (M : sy_M) (K : sy_O → sy_O) : sy_O := sy_xa as fun r0 l => sy_xi l fun a1 l => sy_xi l fun a2 l => sy_xn l (K (jfX2_isIn r0 a1 a2 M))
theorem jeX2_isIn : sy_snd (2) 13 (jcX2_isIn) := by
  intro as M K r h
  obtain ⟨r0, l, e, h1⟩ := sy_xa_ok h; subst e
  obtain ⟨a1, l, e, h2⟩ := sy_xi_ok h1; subst e
  obtain ⟨a2, l, e, h3⟩ := sy_xi_ok h2; subst e
  obtain ⟨e, h4⟩ := sy_xn_ok h3; subst e
  exact ⟨_, h4, fun r1 h0 => ⟨qX2_isIn, rfl, rfl, jtX2_isIn _ _ _ M r1 h0⟩⟩
/-! X8_learn StairMeter$Night learn (LStairMeter$House;)V [('R', 49), 'A'] -/
def juX8_learn_48 (k : Nat → Int32 → Int32 → Int32 → Int32 → Int32 → sy_M → sy_O) (ls st : List Value) (M : sy_M) : sy_O := sy_xc 49 ls fun l => sy_xa l fun r1 l => sy_xi l fun a2 l => sy_xi l fun a3 l => sy_xn l (sy_xi st fun s0 l => sy_xi l fun s1 l => sy_xi l fun s2 l => sy_xc 50 l fun l => sy_xn l (k r1 a2 a3 s0 s1 s2 M))
theorem jwX8_learn_48 {d : Nat} {k : Nat → Int32 → Int32 → Int32 → Int32 → Int32 → sy_M → sy_O} (hk : ∀ (r1 : Nat) (a2 : Int32) (a3 : Int32) (s0 : Int32) (s1 : Int32) (s2 : Int32) (M : sy_M) (r : xe_R × sy_M), k r1 a2 a3 s0 s1 s2 M = some r → sy_E (d) qX8_learn 48 [.ref 49, .ref r1, .int a2, .int a3] [.int s0, .int s1, .int s2, .ref 50] M r) : ∀ ls st M r, juX8_learn_48 k ls st M = some r → sy_E d qX8_learn 48 ls st M r := by
  intro ls st M r h
  obtain ⟨l, e, h1⟩ := sy_xc_ok h; subst e
  obtain ⟨r1, l, e, h2⟩ := sy_xa_ok h1; subst e
  obtain ⟨a2, l, e, h3⟩ := sy_xi_ok h2; subst e
  obtain ⟨a3, l, e, h4⟩ := sy_xi_ok h3; subst e
  obtain ⟨e, h5⟩ := sy_xn_ok h4; subst e
  obtain ⟨s0, l, e, h6⟩ := sy_xi_ok h5; subst e
  obtain ⟨s1, l, e, h7⟩ := sy_xi_ok h6; subst e
  obtain ⟨s2, l, e, h8⟩ := sy_xi_ok h7; subst e
  obtain ⟨l, e, h9⟩ := sy_xc_ok h8; subst e
  obtain ⟨e, h10⟩ := sy_xn_ok h9; subst e
  exact hk r1 a2 a3 s0 s1 s2 M r h10
def juX8_learn_17 (k : Nat → Int32 → Int32 → sy_M → sy_O) (ls st : List Value) (M : sy_M) : sy_O := sy_xc 49 ls fun l => sy_xa l fun r1 l => sy_xi l fun a2 l => sy_xi l fun a3 l => sy_xn l (sy_xn st (k r1 a2 a3 M))
theorem jwX8_learn_17 {d : Nat} {k : Nat → Int32 → Int32 → sy_M → sy_O} (hk : ∀ (r1 : Nat) (a2 : Int32) (a3 : Int32) (M : sy_M) (r : xe_R × sy_M), k r1 a2 a3 M = some r → sy_E (d) qX8_learn 17 [.ref 49, .ref r1, .int a2, .int a3] [] M r) : ∀ ls st M r, juX8_learn_17 k ls st M = some r → sy_E d qX8_learn 17 ls st M r := by
  intro ls st M r h
  obtain ⟨l, e, h1⟩ := sy_xc_ok h; subst e
  obtain ⟨r1, l, e, h2⟩ := sy_xa_ok h1; subst e
  obtain ⟨a2, l, e, h3⟩ := sy_xi_ok h2; subst e
  obtain ⟨a3, l, e, h4⟩ := sy_xi_ok h3; subst e
  obtain ⟨e, h5⟩ := sy_xn_ok h4; subst e
  obtain ⟨e, h6⟩ := sy_xn_ok h5; subst e
  exact hk r1 a2 a3 M r h6
def juX8_learn_2 (k : Nat → Int32 → sy_M → sy_O) (ls st : List Value) (M : sy_M) : sy_O := sy_xc 49 ls fun l => sy_xa l fun r1 l => sy_xi l fun a2 l => sy_xv l fun _ l => sy_xn l (sy_xn st (k r1 a2 M))
theorem jwX8_learn_2 {d : Nat} {k : Nat → Int32 → sy_M → sy_O} (hk : ∀ (w3 : Value) (r1 : Nat) (a2 : Int32) (M : sy_M) (r : xe_R × sy_M), k r1 a2 M = some r → sy_E (d) qX8_learn 2 [.ref 49, .ref r1, .int a2, w3] [] M r) : ∀ ls st M r, juX8_learn_2 k ls st M = some r → sy_E d qX8_learn 2 ls st M r := by
  intro ls st M r h
  obtain ⟨l, e, h1⟩ := sy_xc_ok h; subst e
  obtain ⟨r1, l, e, h2⟩ := sy_xa_ok h1; subst e
  obtain ⟨a2, l, e, h3⟩ := sy_xi_ok h2; subst e
  obtain ⟨w3, l, e, h4⟩ := sy_xv_ok h3; subst e
  obtain ⟨e, h5⟩ := sy_xn_ok h4; subst e
  obtain ⟨e, h6⟩ := sy_xn_ok h5; subst e
  exact hk _ r1 a2 M r h6
def jfX8_learn_48 (k2 : Nat → Int32 → sy_M → sy_O) (k17 : Nat → Int32 → Int32 → sy_M → sy_O) (r1 : Nat) (a2 : Int32) (a3 : Int32) (s0 : Int32) (s1 : Int32) (s2 : Int32) (M : sy_M) : sy_O :=
  sy_bx (xe_in s2 48) <|
  let M1 := sy_upd M 50 (Int32.toNatClampNeg s2) (s1 ||| s0)
  let v2 := a3 + 1
  k17 r1 a2 v2 M1
set_option maxRecDepth 100000 in
theorem jrX8_learn_48 (k2 : Nat → Int32 → sy_M → sy_O) (k17 : Nat → Int32 → Int32 → sy_M → sy_O) (r1 : Nat) (a2 : Int32) (a3 : Int32) (s0 : Int32) (s1 : Int32) (s2 : Int32) (M : sy_M) : sy_run skX8 qX8_learn [(48, .ior, 1, []), (49, .iastore, 1, []), (50, .iinc 3 1, 3, []), (53, .goto (-36), 3, [])] [] [(17, juX8_learn_17 k17)] 5 [] 48 [.ref 49, .ref r1, .int a2, .int a3] [.int s0, .int s1, .int s2, .ref 50] M = jfX8_learn_48 k2 k17 r1 a2 a3 s0 s1 s2 M := rfl
theorem jtX8_learn_48 {k2 : Nat → Int32 → sy_M → sy_O} (hk2 : ∀ (w3 : Value) (r1 : Nat) (a2 : Int32) (M : sy_M) (r : xe_R × sy_M), k2 r1 a2 M = some r → sy_E (3) qX8_learn 2 [.ref 49, .ref r1, .int a2, w3] [] M r) {k17 : Nat → Int32 → Int32 → sy_M → sy_O} (hk17 : ∀ (r1 : Nat) (a2 : Int32) (a3 : Int32) (M : sy_M) (r : xe_R × sy_M), k17 r1 a2 a3 M = some r → sy_E (3) qX8_learn 17 [.ref 49, .ref r1, .int a2, .int a3] [] M r) : ∀ (r1 : Nat) (a2 : Int32) (a3 : Int32) (s0 : Int32) (s1 : Int32) (s2 : Int32) (M : sy_M) (r : xe_R × sy_M), jfX8_learn_48 k2 k17 r1 a2 a3 s0 s1 s2 M = some r → sy_E (3) qX8_learn 48 [.ref 49, .ref r1, .int a2, .int a3] [.int s0, .int s1, .int s2, .ref 50] M r := by
  intro r1 a2 a3 s0 s1 s2 M r h
  exact sy_run_by (d := 2) ((jrX8_learn_48 _ _ _ _ _ _ _ _ M).trans h) hkX8 (by decide +kernel) sy_cs_nil (sy_us_cons (jwX8_learn_17 hk17) sy_us_nil)
def jgX8_learn_17 (k2 : Nat → Int32 → sy_M → sy_O) (k17 : Nat → Int32 → Int32 → sy_M → sy_O) (r1 : Nat) (a2 : Int32) (a3 : Int32) (M : sy_M) : sy_O :=
  sy_bs (sy_is 2 r1) <|
  if a3 < (M r1 3) then
    sy_bx (xe_in a2 48) <|
    sy_bs (sy_is 2 r1) <|
    sy_bi (jfX2_isIn r1 a3 a2 M) fun v6 M5 =>
    if v6 = 0 then
      jfX8_learn_48 k2 k17 r1 a2 a3 0 (M 50 (Int32.toNatClampNeg a2)) a2 M5
    else
      jfX8_learn_48 k2 k17 r1 a2 a3 (1 <<< (a3 &&& 31)) (M 50 (Int32.toNatClampNeg a2)) a2 M5
  else
    sy_bx (xe_in a2 48) <|
    sy_bs (sy_is 2 r1) <|
    sy_bi (jfX2_burnt r1 (M 50 (Int32.toNatClampNeg a2)) M) fun v2 M1 =>
    sy_bx (xe_in a2 48) <|
    let M3 := sy_upd M1 51 (Int32.toNatClampNeg a2) v2
    let v4 := a2 + 1
    k2 r1 v4 M3
def jfX8_learn_17 (k2 : Nat → Int32 → sy_M → sy_O) : Nat → Nat → Int32 → Int32 → sy_M → sy_O
  | 0, _, _, _, _ => none
  | n + 1, r1, a2, a3, M => jgX8_learn_17 k2 (jfX8_learn_17 k2 n) r1 a2 a3 M
set_option maxRecDepth 100000 in
theorem jrX8_learn_17 (k2 : Nat → Int32 → sy_M → sy_O) (k17 : Nat → Int32 → Int32 → sy_M → sy_O) (r1 : Nat) (a2 : Int32) (a3 : Int32) (M : sy_M) : sy_run skX8 qX8_learn [(17, .iload_n 3, 1, []), (18, .aload_n 1, 1, []), (19, .getfield 23, 3, []), (22, .if_icmp .ge 34, 3, []), (25, .aload_n 0, 1, []), (26, .getfield 9, 3, []), (29, .iload_n 2, 1, []), (30, .dup2, 1, []), (31, .iaload, 1, []), (32, .aload_n 1, 1, []), (33, .iload_n 3, 1, []), (34, .iload_n 2, 1, []), (35, .invokevirtual 29, 3, []), (38, .ifCond .eq 9, 3, []), (41, .iconst 1, 1, []), (42, .iload_n 3, 1, []), (43, .ishl, 1, []), (44, .goto 4, 3, []), (47, .iconst 0, 1, []), (56, .aload_n 0, 1, [true, true, true, false]), (57, .getfield 15, 3, []), (60, .iload_n 2, 1, []), (61, .aload_n 1, 1, []), (62, .aload_n 0, 1, []), (63, .getfield 9, 3, []), (66, .iload_n 2, 1, []), (67, .iaload, 1, []), (68, .invokevirtual 33, 3, []), (71, .iastore, 1, []), (72, .iinc 2 1, 3, []), (75, .goto (-73), 3, [])] [(16, 0, jcX2_burnt), (13, 0, jcX2_isIn)] [(2, juX8_learn_2 k2), (48, juX8_learn_48 (jfX8_learn_48 k2 k17))] 32 [] 17 [.ref 49, .ref r1, .int a2, .int a3] [] M = jgX8_learn_17 k2 k17 r1 a2 a3 M := rfl
theorem jtX8_learn_17 {k2 : Nat → Int32 → sy_M → sy_O} (hk2 : ∀ (w3 : Value) (r1 : Nat) (a2 : Int32) (M : sy_M) (r : xe_R × sy_M), k2 r1 a2 M = some r → sy_E (3) qX8_learn 2 [.ref 49, .ref r1, .int a2, w3] [] M r) : ∀ n : Nat, ∀ (r1 : Nat) (a2 : Int32) (a3 : Int32) (M : sy_M) (r : xe_R × sy_M), jfX8_learn_17 k2 n r1 a2 a3 M = some r → sy_E (3) qX8_learn 17 [.ref 49, .ref r1, .int a2, .int a3] [] M r := by
  intro n
  induction n with
  | zero => intro r1 a2 a3 M r h; exact absurd (show (none : sy_O) = some r from h) (by simp)
  | succ n ih => intro r1 a2 a3 M r h; exact sy_run_by (d := 2) ((jrX8_learn_17 _ _ _ _ _ M).trans h) hkX8 (by decide +kernel) (sy_cs_cons (jeX2_burnt.deep (by decide)) (sy_cs_cons (jeX2_isIn.deep (by decide)) sy_cs_nil)) (sy_us_cons (jwX8_learn_2 hk2) (sy_us_cons (jwX8_learn_48 (jtX8_learn_48 hk2 ih)) sy_us_nil))
def jgX8_learn_2 (k2 : Nat → Int32 → sy_M → sy_O) (r1 : Nat) (a2 : Int32) (M : sy_M) : sy_O :=
  if a2 < 48 then
    sy_bx (xe_in a2 48) <|
    let M1 := sy_upd M 50 (Int32.toNatClampNeg a2) 0
    jfX8_learn_17 k2 sy_F r1 a2 0 M1
  else
    sy_rv M
def jfX8_learn_2 : Nat → Nat → Int32 → sy_M → sy_O
  | 0, _, _, _ => none
  | n + 1, r1, a2, M => jgX8_learn_2 (jfX8_learn_2 n) r1 a2 M
set_option maxRecDepth 100000 in
theorem jrX8_learn_2 (k2 : Nat → Int32 → sy_M → sy_O) (w3 : Value) (r1 : Nat) (a2 : Int32) (M : sy_M) : sy_run skX8 qX8_learn [(2, .iload_n 2, 1, [true, true, true, false]), (3, .bipush 48, 2, []), (5, .if_icmp .ge 73, 3, []), (8, .aload_n 0, 1, []), (9, .getfield 9, 3, []), (12, .iload_n 2, 1, []), (13, .iconst 0, 1, []), (14, .iastore, 1, []), (15, .iconst 0, 1, []), (16, .istore_n 3, 1, []), (78, .return_, 1, [false, false, false, false])] [] [(17, juX8_learn_17 (jfX8_learn_17 k2 sy_F))] 12 [] 2 [.ref 49, .ref r1, .int a2, w3] [] M = jgX8_learn_2 k2 r1 a2 M := rfl
theorem jtX8_learn_2 : ∀ n : Nat, ∀ (w3 : Value) (r1 : Nat) (a2 : Int32) (M : sy_M) (r : xe_R × sy_M), jfX8_learn_2 n r1 a2 M = some r → sy_E (3) qX8_learn 2 [.ref 49, .ref r1, .int a2, w3] [] M r := by
  intro n
  induction n with
  | zero => intro w3 r1 a2 M r h; exact absurd (show (none : sy_O) = some r from h) (by simp)
  | succ n ih => intro w3 r1 a2 M r h; exact sy_run_by (d := 2) ((jrX8_learn_2 _ _ _ _ M).trans h) hkX8 (by decide +kernel) sy_cs_nil (sy_us_cons (jwX8_learn_17 (jtX8_learn_17 ih sy_F)) sy_us_nil)
def jfX8_learn (r1 : Nat) (M : sy_M) : sy_O :=
  jfX8_learn_2 sy_F r1 0 M
set_option maxRecDepth 100000 in
theorem jrX8_learn (r1 : Nat) (M : sy_M) : sy_run skX8 qX8_learn [(0, .iconst 0, 1, []), (1, .istore_n 2, 1, [])] [] [(2, juX8_learn_2 (jfX8_learn_2 sy_F))] 3 [] 0 [.ref 49, .ref r1, xe_no, xe_no] [] M = jfX8_learn r1 M := rfl
theorem jtX8_learn : ∀ (r1 : Nat) (M : sy_M) (r : xe_R × sy_M), jfX8_learn r1 M = some r → sy_E (3) qX8_learn 0 [.ref 49, .ref r1, xe_no, xe_no] [] M r := by
  intro r1 M r h
  exact sy_run_by (d := 2) ((jrX8_learn _ M).trans h) hkX8 (by decide +kernel) sy_cs_nil (sy_us_cons (jwX8_learn_2 (jtX8_learn_2 sy_F)) sy_us_nil)
def jcX8_learn (as : List Value) (M : sy_M) (K : sy_O → sy_O) : sy_O := sy_xc 49 as fun l => sy_xa l fun r1 l => sy_xn l (K (jfX8_learn r1 M))
theorem jeX8_learn : sy_snd (3) 63 (jcX8_learn) := by
  intro as M K r h
  obtain ⟨l, e, h1⟩ := sy_xc_ok h; subst e
  obtain ⟨r1, l, e, h2⟩ := sy_xa_ok h1; subst e
  obtain ⟨e, h3⟩ := sy_xn_ok h2; subst e
  exact ⟨_, h3, fun r1 h0 => ⟨qX8_learn, rfl, rfl, jtX8_learn _ M r1 h0⟩⟩
/-! X8_needsAt StairMeter$Night needsAt (I)I [('R', 49), 'I'] -/
def jfX8_needsAt (a1 : Int32) (M : sy_M) : sy_O :=
  if a1 < 0 then
    sy_ri 0 M
  else
    if a1 < 48 then
      sy_bx (xe_in a1 48) <|
      sy_ri (M 51 (Int32.toNatClampNeg a1)) M
    else
      sy_ri 0 M
set_option maxRecDepth 100000 in
theorem jrX8_needsAt (a1 : Int32) (M : sy_M) : sy_run skX8 qX8_needsAt [(0, .iload_n 1, 1, []), (1, .ifCond .lt 18, 3, []), (4, .iload_n 1, 1, []), (5, .bipush 48, 2, []), (7, .if_icmp .ge 12, 3, []), (10, .aload_n 0, 1, []), (11, .getfield 15, 3, []), (14, .iload_n 1, 1, []), (15, .iaload, 1, []), (16, .goto 4, 3, []), (19, .iconst 0, 1, [false, false]), (20, .ireturn, 1, [false, false])] [] [] 13 [] 0 [.ref 49, .int a1] [] M = jfX8_needsAt a1 M := rfl
theorem jtX8_needsAt : ∀ (a1 : Int32) (M : sy_M) (r : xe_R × sy_M), jfX8_needsAt a1 M = some r → sy_E (1) qX8_needsAt 0 [.ref 49, .int a1] [] M r := by
  intro a1 M r h
  exact sy_run_by (d := 0) ((jrX8_needsAt _ M).trans h) hkX8 (by decide +kernel) sy_cs_nil sy_us_nil
def jcX8_needsAt (as : List Value) (M : sy_M) (K : sy_O → sy_O) : sy_O := sy_xc 49 as fun l => sy_xi l fun a1 l => sy_xn l (K (jfX8_needsAt a1 M))
theorem jeX8_needsAt : sy_snd (1) 65 (jcX8_needsAt) := by
  intro as M K r h
  obtain ⟨l, e, h1⟩ := sy_xc_ok h; subst e
  obtain ⟨a1, l, e, h2⟩ := sy_xi_ok h1; subst e
  obtain ⟨e, h3⟩ := sy_xn_ok h2; subst e
  exact ⟨_, h3, fun r1 h0 => ⟨qX8_needsAt, rfl, rfl, jtX8_needsAt _ M r1 h0⟩⟩
/-! X8_presentAt StairMeter$Night presentAt (I)I [('R', 49), 'I'] -/
def jfX8_presentAt (a1 : Int32) (M : sy_M) : sy_O :=
  if a1 < 0 then
    sy_ri 0 M
  else
    if a1 < 48 then
      sy_bx (xe_in a1 48) <|
      sy_ri (M 50 (Int32.toNatClampNeg a1)) M
    else
      sy_ri 0 M
set_option maxRecDepth 100000 in
theorem jrX8_presentAt (a1 : Int32) (M : sy_M) : sy_run skX8 qX8_presentAt [(0, .iload_n 1, 1, []), (1, .ifCond .lt 18, 3, []), (4, .iload_n 1, 1, []), (5, .bipush 48, 2, []), (7, .if_icmp .ge 12, 3, []), (10, .aload_n 0, 1, []), (11, .getfield 9, 3, []), (14, .iload_n 1, 1, []), (15, .iaload, 1, []), (16, .goto 4, 3, []), (19, .iconst 0, 1, [false, false]), (20, .ireturn, 1, [false, false])] [] [] 13 [] 0 [.ref 49, .int a1] [] M = jfX8_presentAt a1 M := rfl
theorem jtX8_presentAt : ∀ (a1 : Int32) (M : sy_M) (r : xe_R × sy_M), jfX8_presentAt a1 M = some r → sy_E (1) qX8_presentAt 0 [.ref 49, .int a1] [] M r := by
  intro a1 M r h
  exact sy_run_by (d := 0) ((jrX8_presentAt _ M).trans h) hkX8 (by decide +kernel) sy_cs_nil sy_us_nil
def jcX8_presentAt (as : List Value) (M : sy_M) (K : sy_O → sy_O) : sy_O := sy_xc 49 as fun l => sy_xi l fun a1 l => sy_xn l (K (jfX8_presentAt a1 M))
theorem jeX8_presentAt : sy_snd (1) 64 (jcX8_presentAt) := by
  intro as M K r h
  obtain ⟨l, e, h1⟩ := sy_xc_ok h; subst e
  obtain ⟨a1, l, e, h2⟩ := sy_xi_ok h1; subst e
  obtain ⟨e, h3⟩ := sy_xn_ok h2; subst e
  exact ⟨_, h3, fun r1 h0 => ⟨qX8_presentAt, rfl, rfl, jtX8_presentAt _ M r1 h0⟩⟩
/-! J9_min_7cf53 java/lang/Math min (II)I ['I', 'I'] -/
def jfJ9_min_7cf53 (a0 : Int32) (a1 : Int32) (M : sy_M) : sy_O :=
  if a1 < a0 then
    sy_ri a1 M
  else
    sy_ri a0 M
set_option maxRecDepth 100000 in
theorem jrJ9_min_7cf53 (a0 : Int32) (a1 : Int32) (M : sy_M) : sy_run (xe_lk (xe_link qJ9_min_7cf53)) qJ9_min_7cf53 [(0, .iload_n 0, 1, []), (1, .iload_n 1, 1, []), (2, .if_icmp .gt 7, 3, []), (5, .iload_n 0, 1, []), (6, .goto 4, 3, []), (9, .iload_n 1, 1, [false, true]), (10, .ireturn, 1, [false, false])] [] [] 8 [] 0 [.int a0, .int a1] [] M = jfJ9_min_7cf53 a0 a1 M := rfl
theorem jtJ9_min_7cf53 : ∀ (a0 : Int32) (a1 : Int32) (M : sy_M) (r : xe_R × sy_M), jfJ9_min_7cf53 a0 a1 M = some r → sy_E (1) qJ9_min_7cf53 0 [.int a0, .int a1] [] M r := by
  intro a0 a1 M r h
  exact sy_run_by (d := 0) ((jrJ9_min_7cf53 _ _ M).trans h) (fun _ => rfl) (by decide +kernel) sy_cs_nil sy_us_nil
def jcJ9_min_7cf53 (as : List Value) (M : sy_M) (K : sy_O → sy_O) : sy_O := sy_xi as fun a0 l => sy_xi l fun a1 l => sy_xn l (K (jfJ9_min_7cf53 a0 a1 M))
theorem jeJ9_min_7cf53 : sy_snd (1) 360 (jcJ9_min_7cf53) := by
  intro as M K r h
  obtain ⟨a0, l, e, h1⟩ := sy_xi_ok h; subst e
  obtain ⟨a1, l, e, h2⟩ := sy_xi_ok h1; subst e
  obtain ⟨e, h3⟩ := sy_xn_ok h2; subst e
  exact ⟨_, h3, fun r1 h0 => ⟨qJ9_min_7cf53, rfl, rfl, jtJ9_min_7cf53 _ _ M r1 h0⟩⟩
/-! X7_add StairMeter$Log add (LStairMeter$House;II)V ['A', 'A', 'I', 'I'] -/
def juX7_add_107 (k : Nat → Int32 → Nat → sy_M → sy_O) (ls st : List Value) (M : sy_M) : sy_O := sy_xa ls fun r0 l => sy_xv l fun _ l => sy_xv l fun _ l => sy_xv l fun _ l => sy_xv l fun _ l => sy_xn l (sy_xi st fun s0 l => sy_xa l fun t1 l => sy_xn l (k r0 s0 t1 M))
theorem jwX7_add_107 {d : Nat} {k : Nat → Int32 → Nat → sy_M → sy_O} (hk : ∀ (w1 : Value) (w2 : Value) (w3 : Value) (w4 : Value) (r0 : Nat) (s0 : Int32) (t1 : Nat) (M : sy_M) (r : xe_R × sy_M), k r0 s0 t1 M = some r → sy_E (d) qX7_add 107 [.ref r0, w1, w2, w3, w4] [.int s0, .ref t1] M r) : ∀ ls st M r, juX7_add_107 k ls st M = some r → sy_E d qX7_add 107 ls st M r := by
  intro ls st M r h
  obtain ⟨r0, l, e, h1⟩ := sy_xa_ok h; subst e
  obtain ⟨w1, l, e, h2⟩ := sy_xv_ok h1; subst e
  obtain ⟨w2, l, e, h3⟩ := sy_xv_ok h2; subst e
  obtain ⟨w3, l, e, h4⟩ := sy_xv_ok h3; subst e
  obtain ⟨w4, l, e, h5⟩ := sy_xv_ok h4; subst e
  obtain ⟨e, h6⟩ := sy_xn_ok h5; subst e
  obtain ⟨s0, l, e, h7⟩ := sy_xi_ok h6; subst e
  obtain ⟨t1, l, e, h8⟩ := sy_xa_ok h7; subst e
  obtain ⟨e, h9⟩ := sy_xn_ok h8; subst e
  exact hk _ _ _ _ r0 s0 t1 M r h9
def juX7_add_70 (k : Nat → Nat → Int32 → sy_M → sy_O) (ls st : List Value) (M : sy_M) : sy_O := sy_xa ls fun r0 l => sy_xa l fun r1 l => sy_xi l fun w2 l => sy_xi l fun w3 l => sy_xi l fun a4 l => sy_xn l (sy_xn st (k r0 r1 a4 M))
theorem jwX7_add_70 {d : Nat} {k : Nat → Nat → Int32 → sy_M → sy_O} (hk : ∀ (w2 : Int32) (w3 : Int32) (r0 : Nat) (r1 : Nat) (a4 : Int32) (M : sy_M) (r : xe_R × sy_M), k r0 r1 a4 M = some r → sy_E (d) qX7_add 70 [.ref r0, .ref r1, .int w2, .int w3, .int a4] [] M r) : ∀ ls st M r, juX7_add_70 k ls st M = some r → sy_E d qX7_add 70 ls st M r := by
  intro ls st M r h
  obtain ⟨r0, l, e, h1⟩ := sy_xa_ok h; subst e
  obtain ⟨r1, l, e, h2⟩ := sy_xa_ok h1; subst e
  obtain ⟨w2, l, e, h3⟩ := sy_xi_ok h2; subst e
  obtain ⟨w3, l, e, h4⟩ := sy_xi_ok h3; subst e
  obtain ⟨a4, l, e, h5⟩ := sy_xi_ok h4; subst e
  obtain ⟨e, h6⟩ := sy_xn_ok h5; subst e
  obtain ⟨e, h7⟩ := sy_xn_ok h6; subst e
  exact hk _ _ r0 r1 a4 M r h7
def jfX7_add_107 (r0 : Nat) (s0 : Int32) (t1 : Nat) (M : sy_M) : sy_O :=
  sy_bs (sy_is 6 t1) <|
  let M1 := sy_upd M t1 3 s0
  sy_bs (sy_is 6 r0) <|
  sy_bs (sy_is 6 r0) <|
  sy_bi (jfJ9_min_7cf53 (M1 r0 0) ((M1 r0 2) + 1) M1) fun v3 M2 =>
  sy_bs (sy_is 6 r0) <|
  let M4 := sy_upd M2 r0 2 v3
  sy_rv M4
set_option maxRecDepth 100000 in
theorem jrX7_add_107 (w1 : Value) (w2 : Value) (w3 : Value) (w4 : Value) (r0 : Nat) (s0 : Int32) (t1 : Nat) (M : sy_M) : sy_run skX7 qX7_add [(107, .putfield 31, 3, [true, false, false, false, false]), (110, .aload_n 0, 1, []), (111, .aload_n 0, 1, []), (112, .getfield 18, 3, []), (115, .aload_n 0, 1, []), (116, .getfield 28, 3, []), (119, .iconst 1, 1, []), (120, .iadd, 1, []), (121, .invokestatic 9, 3, []), (124, .putfield 28, 3, []), (127, .return_, 1, [])] [(360, 0, jcJ9_min_7cf53)] [] 12 [] 107 [.ref r0, w1, w2, w3, w4] [.int s0, .ref t1] M = jfX7_add_107 r0 s0 t1 M := rfl
theorem jtX7_add_107 : ∀ (w1 : Value) (w2 : Value) (w3 : Value) (w4 : Value) (r0 : Nat) (s0 : Int32) (t1 : Nat) (M : sy_M) (r : xe_R × sy_M), jfX7_add_107 r0 s0 t1 M = some r → sy_E (2) qX7_add 107 [.ref r0, w1, w2, w3, w4] [.int s0, .ref t1] M r := by
  intro w1 w2 w3 w4 r0 s0 t1 M r h
  exact sy_run_by (d := 1) ((jrX7_add_107 _ _ _ _ _ _ _ M).trans h) hkX7 (by decide +kernel) (sy_cs_cons (jeJ9_min_7cf53.deep (by decide)) sy_cs_nil) sy_us_nil
def jfX7_add_70 (r0 : Nat) (r1 : Nat) (a4 : Int32) (M : sy_M) : sy_O :=
  sy_bs (sy_is 6 r0) <|
  sy_bs (sy_is 2 r1) <|
  sy_bx (xe_in (a4 + 4) (sy_li (r0 + 1))) <|
  let M1 := sy_upd M (r0 + 1) (Int32.toNatClampNeg (a4 + 4)) (M r1 7)
  sy_bs (sy_is 6 r0) <|
  sy_bs (sy_is 6 r0) <|
  if ((M1 r0 3) + 1) < (M1 r0 0) then
    sy_bs (sy_is 6 r0) <|
    jfX7_add_107 r0 ((M1 r0 3) + 1) r0 M1
  else
    jfX7_add_107 r0 0 r0 M1
set_option maxRecDepth 100000 in
theorem jrX7_add_70 (w2 : Int32) (w3 : Int32) (r0 : Nat) (r1 : Nat) (a4 : Int32) (M : sy_M) : sy_run skX7 qX7_add [(70, .aload_n 0, 1, []), (71, .getfield 24, 3, []), (74, .iload 4, 2, []), (76, .iconst 4, 1, []), (77, .iadd, 1, []), (78, .aload_n 1, 1, []), (79, .getfield 48, 3, []), (82, .iastore, 1, []), (83, .aload_n 0, 1, []), (84, .aload_n 0, 1, []), (85, .getfield 31, 3, []), (88, .iconst 1, 1, []), (89, .iadd, 1, []), (90, .aload_n 0, 1, []), (91, .getfield 18, 3, []), (94, .if_icmp .ge 12, 3, []), (97, .aload_n 0, 1, []), (98, .getfield 31, 3, []), (101, .iconst 1, 1, []), (102, .iadd, 1, []), (103, .goto 4, 3, []), (106, .iconst 0, 1, [true, false, false, false, false])] [] [(107, juX7_add_107 (jfX7_add_107))] 23 [] 70 [.ref r0, .ref r1, .int w2, .int w3, .int a4] [] M = jfX7_add_70 r0 r1 a4 M := rfl
theorem jtX7_add_70 : ∀ (w2 : Int32) (w3 : Int32) (r0 : Nat) (r1 : Nat) (a4 : Int32) (M : sy_M) (r : xe_R × sy_M), jfX7_add_70 r0 r1 a4 M = some r → sy_E (2) qX7_add 70 [.ref r0, .ref r1, .int w2, .int w3, .int a4] [] M r := by
  intro w2 w3 r0 r1 a4 M r h
  exact sy_run_by (d := 1) ((jrX7_add_70 _ _ _ _ _ M).trans h) hkX7 (by decide +kernel) sy_cs_nil (sy_us_cons (jwX7_add_107 (jtX7_add_107)) sy_us_nil)
def jfX7_add (r0 : Nat) (r1 : Nat) (a2 : Int32) (a3 : Int32) (M : sy_M) : sy_O :=
  sy_bs (sy_is 6 r0) <|
  let v1 := ((M r0 3) * 5)
  if v1 < 0 then
    sy_rv M
  else
    sy_bs (sy_is 6 r0) <|
    sy_bb (sy_ia (r0 + 1) || Nat.beq (r0 + 1) 1000000) <|
    if (Nat.toInt32 (sy_len M (r0 + 1))) < (v1 + 5) then
      sy_rv M
    else
      sy_bs (sy_is 6 r0) <|
      sy_bs (sy_is 2 r1) <|
      sy_bx (xe_in v1 (sy_li (r0 + 1))) <|
      let M2 := sy_upd M (r0 + 1) (Int32.toNatClampNeg v1) (M r1 6)
      sy_bs (sy_is 6 r0) <|
      sy_bs (sy_is 2 r1) <|
      sy_bx (xe_in (v1 + 1) (sy_li (r0 + 1))) <|
      let M3 := sy_upd M2 (r0 + 1) (Int32.toNatClampNeg (v1 + 1)) (M2 r1 5)
      sy_bs (sy_is 6 r0) <|
      sy_bx (xe_in (v1 + 2) (sy_li (r0 + 1))) <|
      let M4 := sy_upd M3 (r0 + 1) (Int32.toNatClampNeg (v1 + 2)) a2
      sy_bs (sy_is 6 r0) <|
      sy_bx (xe_in (v1 + 3) (sy_li (r0 + 1))) <|
      let M5 := sy_upd M4 (r0 + 1) (Int32.toNatClampNeg (v1 + 3)) a3
      jfX7_add_70 r0 r1 v1 M5
set_option maxRecDepth 100000 in
theorem jrX7_add (r0 : Nat) (r1 : Nat) (a2 : Int32) (a3 : Int32) (M : sy_M) : sy_run skX7 qX7_add [(0, .aload_n 0, 1, []), (1, .getfield 31, 3, []), (4, .iconst 5, 1, []), (5, .imul, 1, []), (6, .istore 4, 2, []), (8, .iload 4, 2, []), (10, .ifCond .lt 15, 3, []), (13, .iload 4, 2, []), (15, .iconst 5, 1, []), (16, .iadd, 1, []), (17, .aload_n 0, 1, []), (18, .getfield 24, 3, []), (21, .arraylength, 1, []), (22, .if_icmp .le 4, 3, []), (25, .return_, 1, [false, false, false, false, false]), (26, .aload_n 0, 1, []), (27, .getfield 24, 3, []), (30, .iload 4, 2, []), (32, .aload_n 1, 1, []), (33, .getfield 40, 3, []), (36, .iastore, 1, []), (37, .aload_n 0, 1, []), (38, .getfield 24, 3, []), (41, .iload 4, 2, []), (43, .iconst 1, 1, []), (44, .iadd, 1, []), (45, .aload_n 1, 1, []), (46, .getfield 45, 3, []), (49, .iastore, 1, []), (50, .aload_n 0, 1, []), (51, .getfield 24, 3, []), (54, .iload 4, 2, []), (56, .iconst 2, 1, []), (57, .iadd, 1, []), (58, .iload_n 2, 1, []), (59, .iastore, 1, []), (60, .aload_n 0, 1, []), (61, .getfield 24, 3, []), (64, .iload 4, 2, []), (66, .iconst 3, 1, []), (67, .iadd, 1, []), (68, .iload_n 3, 1, []), (69, .iastore, 1, [])] [] [(70, juX7_add_70 (jfX7_add_70))] 44 [] 0 [.ref r0, .ref r1, .int a2, .int a3, xe_no] [] M = jfX7_add r0 r1 a2 a3 M := rfl
theorem jtX7_add : ∀ (r0 : Nat) (r1 : Nat) (a2 : Int32) (a3 : Int32) (M : sy_M) (r : xe_R × sy_M), jfX7_add r0 r1 a2 a3 M = some r → sy_E (2) qX7_add 0 [.ref r0, .ref r1, .int a2, .int a3, xe_no] [] M r := by
  intro r0 r1 a2 a3 M r h
  exact sy_run_by (d := 1) ((jrX7_add _ _ _ _ M).trans h) hkX7 (by decide +kernel) sy_cs_nil (sy_us_cons (jwX7_add_70 (jtX7_add_70)) sy_us_nil)
def jcX7_add (as : List Value) (M : sy_M) (K : sy_O → sy_O) : sy_O := sy_xa as fun r0 l => sy_xa l fun r1 l => sy_xi l fun a2 l => sy_xi l fun a3 l => sy_xn l (K (jfX7_add r0 r1 a2 a3 M))
theorem jeX7_add : sy_snd (2) 60 (jcX7_add) := by
  intro as M K r h
  obtain ⟨r0, l, e, h1⟩ := sy_xa_ok h; subst e
  obtain ⟨r1, l, e, h2⟩ := sy_xa_ok h1; subst e
  obtain ⟨a2, l, e, h3⟩ := sy_xi_ok h2; subst e
  obtain ⟨a3, l, e, h4⟩ := sy_xi_ok h3; subst e
  obtain ⟨e, h5⟩ := sy_xn_ok h4; subst e
  exact ⟨_, h5, fun r1 h0 => ⟨qX7_add, rfl, rfl, jtX7_add _ _ _ _ M r1 h0⟩⟩
/-! X2_darken StairMeter$House darken ()V ['A'] -/
def jfX2_darken (r0 : Nat) (M : sy_M) : sy_O :=
  sy_bs (sy_is 2 r0) <|
  sy_bi (jfJ9_min_7cf53 99 ((M r0 9) + 1) M) fun v2 M1 =>
  sy_bs (sy_is 2 r0) <|
  let M3 := sy_upd M1 r0 9 v2
  sy_bs (sy_is 2 r0) <|
  if (M3 r0 9) = 1 then
    sy_bs (sy_is 2 r0) <|
    sy_bs (sy_is 6 (r0 + 3)) <|
    sy_bv (jfX7_add (r0 + 3) r0 0 (-1) M3) fun M4 =>
    sy_rv M4
  else
    sy_rv M3
set_option maxRecDepth 100000 in
theorem jrX2_darken (r0 : Nat) (M : sy_M) : sy_run skX2 qX2_darken [(0, .aload_n 0, 1, []), (1, .bipush 99, 2, []), (3, .aload_n 0, 1, []), (4, .getfield 46, 3, []), (7, .iconst 1, 1, []), (8, .iadd, 1, []), (9, .invokestatic 95, 3, []), (12, .putfield 46, 3, []), (15, .aload_n 0, 1, []), (16, .getfield 46, 3, []), (19, .iconst 1, 1, []), (20, .if_icmp .ne 13, 3, []), (23, .aload_n 0, 1, []), (24, .getfield 23, 3, []), (27, .aload_n 0, 1, []), (28, .iconst 0, 1, []), (29, .iconst (-1), 1, []), (30, .invokevirtual 101, 3, []), (33, .return_, 1, [false])] [(360, 0, jcJ9_min_7cf53), (60, 1, jcX7_add)] [] 20 [] 0 [.ref r0] [] M = jfX2_darken r0 M := rfl
theorem jtX2_darken : ∀ (r0 : Nat) (M : sy_M) (r : xe_R × sy_M), jfX2_darken r0 M = some r → sy_E (3) qX2_darken 0 [.ref r0] [] M r := by
  intro r0 M r h
  exact sy_run_by (d := 2) ((jrX2_darken _ M).trans h) hkX2 (by decide +kernel) (sy_cs_cons (jeJ9_min_7cf53.deep (by decide)) (sy_cs_cons (jeX7_add.deep (by decide)) sy_cs_nil)) sy_us_nil
def jcX2_darken (as : List Value) (M : sy_M) (K : sy_O → sy_O) : sy_O := sy_xa as fun r0 l => sy_xn l (K (jfX2_darken r0 M))
theorem jeX2_darken : sy_snd (3) 29 (jcX2_darken) := by
  intro as M K r h
  obtain ⟨r0, l, e, h1⟩ := sy_xa_ok h; subst e
  obtain ⟨e, h2⟩ := sy_xn_ok h1; subst e
  exact ⟨_, h2, fun r1 h0 => ⟨qX2_darken, rfl, rfl, jtX2_darken _ M r1 h0⟩⟩
end
