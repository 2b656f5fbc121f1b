/-! ===== functions of the methods (2); written by wip/whole/run_f.py ===== -/
noncomputable section
/-! X3_readLine StairMeter$HouseLines readLine ()Z [('R', 47)] -/
def juX3_readLine_211 (k : sy_M → sy_O) (ls st : List Value) (M : sy_M) : sy_O := sy_xc 47 ls fun l => sy_xn l (sy_xn st (k M))
theorem jwX3_readLine_211 {d : Nat} {k : sy_M → sy_O} (hk : ∀ (M : sy_M) (r : xe_R × sy_M), k M = some r → sy_E (d) qX3_readLine 211 [.ref 47] [] M r) : ∀ ls st M r, juX3_readLine_211 k ls st M = some r → sy_E d qX3_readLine 211 ls st M r := by
  intro ls st M r h
  obtain ⟨l, e, h1⟩ := sy_xc_ok h; subst e
  obtain ⟨e, h2⟩ := sy_xn_ok h1; subst e
  obtain ⟨e, h3⟩ := sy_xn_ok h2; subst e
  exact hk  M r h3
def juX3_readLine_200 (k : sy_M → sy_O) (ls st : List Value) (M : sy_M) : sy_O := sy_xc 47 ls fun l => sy_xn l (sy_xn st (k M))
theorem jwX3_readLine_200 {d : Nat} {k : sy_M → sy_O} (hk : ∀ (M : sy_M) (r : xe_R × sy_M), k M = some r → sy_E (d) qX3_readLine 200 [.ref 47] [] M r) : ∀ ls st M r, juX3_readLine_200 k ls st M = some r → sy_E d qX3_readLine 200 ls st M r := by
  intro ls st M r h
  obtain ⟨l, e, h1⟩ := sy_xc_ok h; subst e
  obtain ⟨e, h2⟩ := sy_xn_ok h1; subst e
  obtain ⟨e, h3⟩ := sy_xn_ok h2; subst e
  exact hk  M r h3
def juX3_readLine_166 (k : sy_M → sy_O) (ls st : List Value) (M : sy_M) : sy_O := sy_xc 47 ls fun l => sy_xn l (sy_xn st (k M))
theorem jwX3_readLine_166 {d : Nat} {k : sy_M → sy_O} (hk : ∀ (M : sy_M) (r : xe_R × sy_M), k M = some r → sy_E (d) qX3_readLine 166 [.ref 47] [] M r) : ∀ ls st M r, juX3_readLine_166 k ls st M = some r → sy_E d qX3_readLine 166 ls st M r := by
  intro ls st M r h
  obtain ⟨l, e, h1⟩ := sy_xc_ok h; subst e
  obtain ⟨e, h2⟩ := sy_xn_ok h1; subst e
  obtain ⟨e, h3⟩ := sy_xn_ok h2; subst e
  exact hk  M r h3
def jfX3_readLine_211 (M : sy_M) : sy_O :=
  if (M 1 7) = (-1) then
    sy_ri 1 M
  else
    sy_ri 0 M
set_option maxRecDepth 100000 in
theorem jrX3_readLine_211 (M : sy_M) : sy_run skX3 qX3_readLine [(211, .aload_n 0, 1, []), (212, .getfield 15, 3, []), (215, .getfield 61, 3, []), (218, .iconst (-1), 1, []), (219, .if_icmp .ne 7, 3, []), (222, .iconst 1, 1, []), (223, .goto 4, 3, []), (226, .iconst 0, 1, [false]), (227, .ireturn, 1, [false])] [] [] 10 [] 211 [.ref 47] [] M = jfX3_readLine_211 M := rfl
theorem jtX3_readLine_211 : ∀ (M : sy_M) (r : xe_R × sy_M), jfX3_readLine_211 M = some r → sy_E (4) qX3_readLine 211 [.ref 47] [] M r := by
  intro  M r h
  exact sy_run_by (d := 3) ((jrX3_readLine_211 M).trans h) hkX3 (by decide +kernel) sy_cs_nil sy_us_nil
def jfX3_readLine_200 (M : sy_M) : sy_O :=
  jfX3_readLine_211 M
set_option maxRecDepth 100000 in
theorem jrX3_readLine_200 (M : sy_M) : sy_run skX3 qX3_readLine [(200, .goto 11, 3, [])] [] [(211, juX3_readLine_211 (jfX3_readLine_211))] 2 [] 200 [.ref 47] [] M = jfX3_readLine_200 M := rfl
theorem jtX3_readLine_200 : ∀ (M : sy_M) (r : xe_R × sy_M), jfX3_readLine_200 M = some r → sy_E (4) qX3_readLine 200 [.ref 47] [] M r := by
  intro  M r h
  exact sy_run_by (d := 3) ((jrX3_readLine_200 M).trans h) hkX3 (by decide +kernel) sy_cs_nil (sy_us_cons (jwX3_readLine_211 (jtX3_readLine_211)) sy_us_nil)
def jfX3_readLine_166 (M : sy_M) : sy_O :=
  jfX3_readLine_211 M
set_option maxRecDepth 100000 in
theorem jrX3_readLine_166 (M : sy_M) : sy_run skX3 qX3_readLine [(166, .goto 45, 3, [])] [] [(211, juX3_readLine_211 (jfX3_readLine_211))] 2 [] 166 [.ref 47] [] M = jfX3_readLine_166 M := rfl
theorem jtX3_readLine_166 : ∀ (M : sy_M) (r : xe_R × sy_M), jfX3_readLine_166 M = some r → sy_E (4) qX3_readLine 166 [.ref 47] [] M r := by
  intro  M r h
  exact sy_run_by (d := 3) ((jrX3_readLine_166 M).trans h) hkX3 (by decide +kernel) sy_cs_nil (sy_us_cons (jwX3_readLine_211 (jtX3_readLine_211)) sy_us_nil)
def jfX3_readLine (M : sy_M) : sy_O :=
  sy_bi (jfX10_thing M) fun v2 M1 =>
  if v2 = 260 then
    sy_bi (jfX3_readLodger M1) fun v35 M34 =>
    sy_bb (sy_bo v35) <| sy_ri v35 M34
  else
    sy_bi (jfX10_takes 267 M1) fun v4 M3 =>
    if v4 = 0 then
      sy_bi (jfX10_takes 268 M3) fun v6 M5 =>
      if v6 = 0 then
        sy_bi (jfX10_takes 269 M5) fun v8 M7 =>
        if v8 = 0 then
          sy_bi (jfX10_takes 270 M7) fun v10 M9 =>
          if v10 = 0 then
            sy_bi (jfX10_takes 271 M9) fun v12 M11 =>
            if v12 = 0 then
              sy_bi (jfX10_takes 272 M11) fun v14 M13 =>
              if v14 = 0 then
                sy_bi (jfX10_fails M13) fun v16 M15 =>
                jfX3_readLine_211 M15
              else
                sy_bi (jfX10_takesNumber 0 999 M13) fun v18 M17 =>
                let M19 := sy_upd M17 14 6 v18
                jfX3_readLine_200 M19
            else
              sy_bi (jfX10_takesNumber 0 47 M11) fun v21 M20 =>
              let M22 := sy_upd M20 14 5 v21
              jfX3_readLine_166 M22
          else
            sy_bi (jfX10_takesNumber 0 100 M9) fun v24 M23 =>
            let M25 := sy_upd M23 14 10 v24
            jfX3_readLine_211 M25
        else
          sy_bi (jfX10_takesNumber 1 99 M7) fun v27 M26 =>
          let M28 := sy_upd M26 14 8 v27
          jfX3_readLine_211 M28
      else
        sy_bi (jfX10_takesNumber 0 999 M5) fun v30 M29 =>
        let M31 := sy_upd M29 14 7 v30
        jfX3_readLine_211 M31
    else
      sy_bi (jfX3_readDebt M3) fun v33 M32 =>
      sy_bb (sy_bo v33) <| sy_ri v33 M32
set_option maxRecDepth 100000 in
theorem jrX3_readLine (M : sy_M) : sy_run skX3 qX3_readLine [(0, .aload_n 0, 1, []), (1, .getfield 15, 3, []), (4, .invokevirtual 19, 3, []), (7, .sipush 260, 3, []), (10, .if_icmp .ne 8, 3, []), (13, .aload_n 0, 1, []), (14, .invokevirtual 25, 3, []), (17, .ireturn, 1, []), (18, .aload_n 0, 1, []), (19, .getfield 15, 3, []), (22, .sipush 267, 3, []), (25, .invokevirtual 29, 3, []), (28, .ifCond .eq 8, 3, []), (31, .aload_n 0, 1, []), (32, .invokevirtual 33, 3, []), (35, .ireturn, 1, []), (36, .aload_n 0, 1, []), (37, .getfield 15, 3, []), (40, .sipush 268, 3, []), (43, .invokevirtual 29, 3, []), (46, .ifCond .eq 24, 3, []), (49, .aload_n 0, 1, []), (50, .getfield 9, 3, []), (53, .aload_n 0, 1, []), (54, .getfield 15, 3, []), (57, .iconst 0, 1, []), (58, .sipush 999, 3, []), (61, .invokevirtual 36, 3, []), (64, .putfield 40, 3, []), (67, .goto 144, 3, []), (70, .aload_n 0, 1, []), (71, .getfield 15, 3, []), (74, .sipush 269, 3, []), (77, .invokevirtual 29, 3, []), (80, .ifCond .eq 23, 3, []), (83, .aload_n 0, 1, []), (84, .getfield 9, 3, []), (87, .aload_n 0, 1, []), (88, .getfield 15, 3, []), (91, .iconst 1, 1, []), (92, .bipush 99, 2, []), (94, .invokevirtual 36, 3, []), (97, .putfield 46, 3, []), (100, .goto 111, 3, []), (103, .aload_n 0, 1, []), (104, .getfield 15, 3, []), (107, .sipush 270, 3, []), (110, .invokevirtual 29, 3, []), (113, .ifCond .eq 23, 3, []), (116, .aload_n 0, 1, []), (117, .getfield 9, 3, []), (120, .aload_n 0, 1, []), (121, .getfield 15, 3, []), (124, .iconst 0, 1, []), (125, .bipush 100, 2, []), (127, .invokevirtual 36, 3, []), (130, .putfield 49, 3, []), (133, .goto 78, 3, []), (136, .aload_n 0, 1, []), (137, .getfield 15, 3, []), (140, .sipush 271, 3, []), (143, .invokevirtual 29, 3, []), (146, .ifCond .eq 23, 3, []), (149, .aload_n 0, 1, []), (150, .getfield 9, 3, []), (153, .aload_n 0, 1, []), (154, .getfield 15, 3, []), (157, .iconst 0, 1, []), (158, .bipush 47, 2, []), (160, .invokevirtual 36, 3, []), (163, .putfield 52, 3, []), (169, .aload_n 0, 1, []), (170, .getfield 15, 3, []), (173, .sipush 272, 3, []), (176, .invokevirtual 29, 3, []), (179, .ifCond .eq 24, 3, []), (182, .aload_n 0, 1, []), (183, .getfield 9, 3, []), (186, .aload_n 0, 1, []), (187, .getfield 15, 3, []), (190, .iconst 0, 1, []), (191, .sipush 999, 3, []), (194, .invokevirtual 36, 3, []), (197, .putfield 55, 3, []), (203, .aload_n 0, 1, []), (204, .getfield 15, 3, []), (207, .invokevirtual 58, 3, []), (210, .pop, 1, [])] [(85, 0, jcX10_thing), (86, 0, jcX10_takes), (88, 0, jcX10_fails), (87, 0, jcX10_takesNumber), (36, 0, jcX3_readDebt), (34, 0, jcX3_readLodger)] [(211, juX3_readLine_211 (jfX3_readLine_211)), (200, juX3_readLine_200 (jfX3_readLine_200)), (166, juX3_readLine_166 (jfX3_readLine_166))] 89 [] 0 [.ref 47] [] M = jfX3_readLine M := rfl
theorem jtX3_readLine : ∀ (M : sy_M) (r : xe_R × sy_M), jfX3_readLine M = some r → sy_E (4) qX3_readLine 0 [.ref 47] [] M r := by
  intro  M r h
  exact sy_run_by (d := 3) ((jrX3_readLine M).trans h) hkX3 (by decide +kernel) (sy_cs_cons (jeX10_thing.deep (by decide)) (sy_cs_cons (jeX10_takes.deep (by decide)) (sy_cs_cons (jeX10_fails.deep (by decide)) (sy_cs_cons (jeX10_takesNumber.deep (by decide)) (sy_cs_cons (jeX3_readDebt.deep (by decide)) (sy_cs_cons (jeX3_readLodger.deep (by decide)) sy_cs_nil)))))) (sy_us_cons (jwX3_readLine_211 (jtX3_readLine_211)) (sy_us_cons (jwX3_readLine_200 (jtX3_readLine_200)) (sy_us_cons (jwX3_readLine_166 (jtX3_readLine_166)) sy_us_nil)))
def jcX3_readLine (as : List Value) (M : sy_M) (K : sy_O → sy_O) : sy_O := sy_xc 47 as fun l => sy_xn l (K (jfX3_readLine M))
theorem jeX3_readLine : sy_snd (4) 33 (jcX3_readLine) := by
  intro as M K r h
  obtain ⟨l, e, h1⟩ := sy_xc_ok h; subst e
  obtain ⟨e, h2⟩ := sy_xn_ok h1; subst e
  exact ⟨_, h2, fun r1 h0 => ⟨qX3_readLine, rfl, rfl, jtX3_readLine  M r1 h0⟩⟩
/-! X6_readLines StairMeter$Lines readLines (I)Z [('R', 47), 'I'] -/
def juX6_readLines_17 (k : Int32 → Int32 → sy_M → sy_O) (ls st : List Value) (M : sy_M) : sy_O := sy_xc 47 ls fun l => sy_xi l fun a1 l => sy_xi l fun a2 l => sy_xn l (sy_xn st (k a1 a2 M))
theorem jwX6_readLines_17 {d : Nat} {k : Int32 → Int32 → sy_M → sy_O} (hk : ∀ (a1 : Int32) (a2 : Int32) (M : sy_M) (r : xe_R × sy_M), k a1 a2 M = some r → sy_E (d) qX6_readLines 17 [.ref 47, .int a1, .int a2] [] M r) : ∀ ls st M r, juX6_readLines_17 k ls st M = some r → sy_E d qX6_readLines 17 ls st M r := by
  intro ls st M r h
  obtain ⟨l, e, h1⟩ := sy_xc_ok h; subst e
  obtain ⟨a1, l, e, h2⟩ := sy_xi_ok h1; subst e
  obtain ⟨a2, l, e, h3⟩ := sy_xi_ok h2; subst e
  obtain ⟨e, h4⟩ := sy_xn_ok h3; subst e
  obtain ⟨e, h5⟩ := sy_xn_ok h4; subst e
  exact hk a1 a2 M r h5
def jgX6_readLines_17 (k17 : Int32 → Int32 → sy_M → sy_O) (a1 : Int32) (a2 : Int32) (M : sy_M) : sy_O :=
  if a2 < a1 then
    sy_bi (jfX3_readLine M) fun v4 M3 =>
    if v4 = 0 then
      sy_ri 0 M3
    else
      sy_bi (jfX10_thing M3) fun v6 M5 =>
      if v6 = 256 then
        sy_ri 1 M5
      else
        sy_bi (jfX10_takes 59 M5) fun v8 M7 =>
        if v8 = 0 then
          sy_bi (jfX10_fails M7) fun v11 M10 =>
          sy_bb (sy_bo v11) <| sy_ri v11 M10
        else
          let v9 := a2 + 1
          k17 a1 v9 M7
  else
    sy_bi (jfX10_fails M) fun v2 M1 =>
    sy_bb (sy_bo v2) <| sy_ri v2 M1
def jfX6_readLines_17 : Nat → Int32 → Int32 → sy_M → sy_O
  | 0, _, _, _ => none
  | n + 1, a1, a2, M => jgX6_readLines_17 (jfX6_readLines_17 n) a1 a2 M
set_option maxRecDepth 100000 in
theorem jrX6_readLines_17 (k17 : Int32 → Int32 → sy_M → sy_O) (a1 : Int32) (a2 : Int32) (M : sy_M) : sy_run skX6 qX6_readLines [(17, .iload_n 2, 1, []), (18, .iload_n 1, 1, []), (19, .if_icmp .ge 53, 3, []), (22, .aload_n 0, 1, []), (23, .invokevirtual 19, 3, []), (26, .ifCond .ne 5, 3, []), (29, .iconst 0, 1, []), (30, .ireturn, 1, []), (31, .aload_n 0, 1, []), (32, .getfield 7, 3, []), (35, .invokevirtual 13, 3, []), (38, .sipush 256, 3, []), (41, .if_icmp .ne 5, 3, []), (44, .iconst 1, 1, []), (45, .ireturn, 1, []), (46, .aload_n 0, 1, []), (47, .getfield 7, 3, []), (50, .bipush 59, 2, []), (52, .invokevirtual 23, 3, []), (55, .ifCond .ne 11, 3, []), (58, .aload_n 0, 1, []), (59, .getfield 7, 3, []), (62, .invokevirtual 27, 3, []), (65, .ireturn, 1, []), (66, .iinc 2 1, 3, []), (69, .goto (-52), 3, []), (72, .aload_n 0, 1, [true, false, false]), (73, .getfield 7, 3, []), (76, .invokevirtual 27, 3, []), (79, .ireturn, 1, [])] [(88, 0, jcX10_fails), (33, 0, jcX3_readLine), (85, 0, jcX10_thing), (86, 0, jcX10_takes)] [(17, juX6_readLines_17 k17)] 31 [] 17 [.ref 47, .int a1, .int a2] [] M = jgX6_readLines_17 k17 a1 a2 M := rfl
theorem jtX6_readLines_17 : ∀ n : Nat, ∀ (a1 : Int32) (a2 : Int32) (M : sy_M) (r : xe_R × sy_M), jfX6_readLines_17 n a1 a2 M = some r → sy_E (5) qX6_readLines 17 [.ref 47, .int a1, .int a2] [] M r := by
  intro n
  induction n with
  | zero => intro a1 a2 M r h; exact absurd (show (none : sy_O) = some r from h) (by simp)
  | succ n ih => intro a1 a2 M r h; exact sy_run_by (d := 4) ((jrX6_readLines_17 _ _ _ M).trans h) hkX6 (by decide +kernel) (sy_cs_cons (jeX10_fails.deep (by decide)) (sy_cs_cons (jeX3_readLine.deep (by decide)) (sy_cs_cons (jeX10_thing.deep (by decide)) (sy_cs_cons (jeX10_takes.deep (by decide)) sy_cs_nil)))) (sy_us_cons (jwX6_readLines_17 ih) sy_us_nil)
def jfX6_readLines (a1 : Int32) (M : sy_M) : sy_O :=
  sy_bi (jfX10_thing M) fun v2 M1 =>
  if v2 = 256 then
    sy_ri 1 M1
  else
    jfX6_readLines_17 sy_F a1 0 M1
set_option maxRecDepth 100000 in
theorem jrX6_readLines (a1 : Int32) (M : sy_M) : sy_run skX6 qX6_readLines [(0, .aload_n 0, 1, []), (1, .getfield 7, 3, []), (4, .invokevirtual 13, 3, []), (7, .sipush 256, 3, []), (10, .if_icmp .ne 5, 3, []), (13, .iconst 1, 1, []), (14, .ireturn, 1, []), (15, .iconst 0, 1, [true, true, false]), (16, .istore_n 2, 1, [])] [(85, 0, jcX10_thing)] [(17, juX6_readLines_17 (jfX6_readLines_17 sy_F))] 10 [] 0 [.ref 47, .int a1, xe_no] [] M = jfX6_readLines a1 M := rfl
theorem jtX6_readLines : ∀ (a1 : Int32) (M : sy_M) (r : xe_R × sy_M), jfX6_readLines a1 M = some r → sy_E (5) qX6_readLines 0 [.ref 47, .int a1, xe_no] [] M r := by
  intro a1 M r h
  exact sy_run_by (d := 4) ((jrX6_readLines _ M).trans h) hkX6 (by decide +kernel) (sy_cs_cons (jeX10_thing.deep (by decide)) sy_cs_nil) (sy_us_cons (jwX6_readLines_17 (jtX6_readLines_17 sy_F)) sy_us_nil)
def jcX6_readLines (as : List Value) (M : sy_M) (K : sy_O → sy_O) : sy_O := sy_xc 47 as fun l => sy_xi l fun a1 l => sy_xn l (K (jfX6_readLines a1 M))
theorem jeX6_readLines : sy_snd (5) 57 (jcX6_readLines) := by
  intro as M K r h
  obtain ⟨l, e, h1⟩ := sy_xc_ok h; subst e
  obtain ⟨a1, l, e, h2⟩ := sy_xi_ok h1; subst e
  obtain ⟨e, h3⟩ := sy_xn_ok h2; subst e
  exact ⟨_, h3, fun r1 h0 => ⟨qX6_readLines, rfl, rfl, jtX6_readLines _ M r1 h0⟩⟩
/-! X0_forget StairMeter$Acts forget ()V [('R', 57)] -/
def jfX0_forget (M : sy_M) : sy_O :=
  let M1 := sy_upd M 57 1 0
  sy_rv M1
set_option maxRecDepth 100000 in
theorem jrX0_forget (M : sy_M) : sy_run skX0 qX0_forget [(0, .aload_n 0, 1, []), (1, .iconst 0, 1, []), (2, .putfield 20, 3, []), (5, .return_, 1, [])] [] [] 5 [] 0 [.ref 57] [] M = jfX0_forget M := rfl
theorem jtX0_forget : ∀ (M : sy_M) (r : xe_R × sy_M), jfX0_forget M = some r → sy_E (1) qX0_forget 0 [.ref 57] [] M r := by
  intro  M r h
  exact sy_run_by (d := 0) ((jrX0_forget M).trans h) hkX0 (by decide +kernel) sy_cs_nil sy_us_nil
def jcX0_forget (as : List Value) (M : sy_M) (K : sy_O → sy_O) : sy_O := sy_xc 57 as fun l => sy_xn l (K (jfX0_forget M))
theorem jeX0_forget : sy_snd (1) 4 (jcX0_forget) := by
  intro as M K r h
  obtain ⟨l, e, h1⟩ := sy_xc_ok h; subst e
  obtain ⟨e, h2⟩ := sy_xn_ok h1; subst e
  exact ⟨_, h2, fun r1 h0 => ⟨qX0_forget, rfl, rfl, jtX0_forget  M r1 h0⟩⟩
/-! X11_house StairMeter house ()I [('R', 0)] -/
def juX11_house_95 (k : sy_M → sy_O) (ls st : List Value) (M : sy_M) : sy_O := sy_xc 0 ls fun l => sy_xo l fun l => sy_xn l (sy_xn st (k M))
theorem jwX11_house_95 {d : Nat} {k : sy_M → sy_O} (hk : ∀ (M : sy_M) (r : xe_R × sy_M), k M = some r → sy_E (d) qX11_house 95 [.ref 0, xe_no] [] M r) : ∀ ls st M r, juX11_house_95 k ls st M = some r → sy_E d qX11_house 95 ls st M r := by
  intro ls st M r h
  obtain ⟨l, e, h1⟩ := sy_xc_ok h; subst e
  obtain ⟨l, e, h2⟩ := sy_xo_ok h1; subst e
  obtain ⟨e, h3⟩ := sy_xn_ok h2; subst e
  obtain ⟨e, h4⟩ := sy_xn_ok h3; subst e
  exact hk  M r h4
def jfX11_house_95 (M : sy_M) : sy_O :=
  sy_bv (jfX0_forget M) fun M1 =>
  sy_ri (M1 9 4) M1
set_option maxRecDepth 100000 in
theorem jrX11_house_95 (M : sy_M) : sy_run skX11 qX11_house [(95, .aload_n 0, 1, []), (96, .getfield 89, 3, []), (99, .invokevirtual 136, 3, []), (102, .aload_n 0, 1, []), (103, .getfield 28, 3, []), (106, .getfield 130, 3, []), (109, .ireturn, 1, [])] [(4, 1, jcX0_forget)] [] 8 [] 95 [.ref 0, xe_no] [] M = jfX11_house_95 M := rfl
theorem jtX11_house_95 : ∀ (M : sy_M) (r : xe_R × sy_M), jfX11_house_95 M = some r → sy_E (6) qX11_house 95 [.ref 0, xe_no] [] M r := by
  intro  M r h
  exact sy_run_by (d := 5) ((jrX11_house_95 M).trans h) hkX11 (by decide +kernel) (sy_cs_cons (jeX0_forget.deep (by decide)) sy_cs_nil) sy_us_nil
def jfX11_house (M : sy_M) : sy_O :=
  sy_bv (jfX2_takeOver 14 9 M) fun M1 =>
  sy_bv (jfX10_open M1) fun M2 =>
  sy_bi (jfX6_readLines 14 M2) fun v4 M3 =>
  let M5 := sy_upd M3 0 17 (M3 1 7)
  if v4 = 0 then
    sy_bx (xe_in (M5 133 0) 100000) <|
    sy_rt 20 (sy_upd M5 133 0 (M5 133 0 + 1))
  else
    if (M5 9 4) < 12 then
      sy_bv (jfX2_takeOver 9 14 M5) fun M6 =>
      let M7 := sy_upd M6 9 4 ((M6 9 4) + 1)
      jfX11_house_95 M7
    else
      sy_bx (xe_in (M5 133 0) 100000) <|
      sy_rt 21 (sy_upd M5 133 0 (M5 133 0 + 1))
set_option maxRecDepth 100000 in
theorem jrX11_house (M : sy_M) : sy_run skX11 qX11_house [(0, .aload_n 0, 1, []), (1, .getfield 32, 3, []), (4, .aload_n 0, 1, []), (5, .getfield 28, 3, []), (8, .invokevirtual 115, 3, []), (11, .aload_n 0, 1, []), (12, .getfield 10, 3, []), (15, .invokevirtual 119, 3, []), (18, .aload_n 0, 1, []), (19, .getfield 59, 3, []), (22, .bipush 14, 2, []), (24, .invokevirtual 122, 3, []), (27, .istore_n 1, 1, []), (28, .aload_n 0, 1, []), (29, .aload_n 0, 1, []), (30, .getfield 10, 3, []), (33, .getfield 126, 3, []), (36, .putfield 105, 3, []), (39, .iload_n 1, 1, []), (40, .ifCond .ne 11, 3, []), (43, .new 127, 3, []), (51, .aload_n 0, 1, [true, false]), (52, .getfield 28, 3, []), (55, .getfield 130, 3, []), (58, .bipush 12, 2, []), (60, .if_icmp .lt 11, 3, []), (63, .new 133, 3, []), (71, .aload_n 0, 1, [true, false]), (72, .getfield 28, 3, []), (75, .aload_n 0, 1, []), (76, .getfield 32, 3, []), (79, .invokevirtual 115, 3, []), (82, .aload_n 0, 1, []), (83, .getfield 28, 3, []), (86, .dup, 1, []), (87, .getfield 130, 3, []), (90, .iconst 1, 1, []), (91, .iadd, 1, []), (92, .putfield 130, 3, [])] [(9, 1, jcX2_takeOver), (78, 1, jcX10_open), (57, 0, jcX6_readLines)] [(95, juX11_house_95 (jfX11_house_95))] 40 [] 0 [.ref 0, xe_no] [] M = jfX11_house M := rfl
theorem jtX11_house : ∀ (M : sy_M) (r : xe_R × sy_M), jfX11_house M = some r → sy_E (6) qX11_house 0 [.ref 0, xe_no] [] M r := by
  intro  M r h
  exact sy_run_by (d := 5) ((jrX11_house M).trans h) hkX11 (by decide +kernel) (sy_cs_cons (jeX2_takeOver.deep (by decide)) (sy_cs_cons (jeX10_open.deep (by decide)) (sy_cs_cons (jeX6_readLines.deep (by decide)) sy_cs_nil))) (sy_us_cons (jwX11_house_95 (jtX11_house_95)) sy_us_nil)
def jcX11_house (as : List Value) (M : sy_M) (K : sy_O → sy_O) : sy_O := sy_xc 0 as fun l => sy_xn l (K (jfX11_house M))
theorem jeX11_house : sy_snd (6) 92 (jcX11_house) := by
  intro as M K r h
  obtain ⟨l, e, h1⟩ := sy_xc_ok h; subst e
  obtain ⟨e, h2⟩ := sy_xn_ok h1; subst e
  exact ⟨_, h2, fun r1 h0 => ⟨qX11_house, rfl, rfl, jtX11_house  M r1 h0⟩⟩
/-! L_house StairMeterLaw house (LStairMeter;[J)I [('R', 0), ('R', 132)] -/
def jfL_house (M : sy_M) : sy_O :=
  sy_hi (jfX11_house M) (fun v2 M1 =>
    let M5 := sy_wl M1 132 0 (Int32.toInt64 v2)
    sy_ri 0 M5)
  (fun c3 M4 => if c3 = 20 then sy_ri 1 M4 else if c3 = 21 then sy_ri 2 M4 else none)
set_option maxRecDepth 100000 in
theorem jrL_house (M : sy_M) : sy_run skL qL_house [(0, .aload_n 1, 1, []), (1, .iconst 0, 1, []), (2, .aload_n 0, 1, []), (3, .invokevirtual 7, 3, []), (6, .i2l, 1, []), (7, .lastore, 1, []), (8, .goto 9, 3, []), (11, .astore_n 2, 1, [false, false, false]), (12, .iconst 1, 1, []), (13, .ireturn, 1, []), (14, .astore_n 2, 1, [false, false, false]), (15, .iconst 2, 1, []), (16, .ireturn, 1, []), (17, .iconst 0, 1, [false, false, false]), (18, .ireturn, 1, [])] [(92, 3, jcX11_house)] [] 16 [] 0 [.ref 0, .ref 132, xe_no] [] M = jfL_house M := rfl
theorem jtL_house : ∀ (M : sy_M) (r : xe_R × sy_M), jfL_house M = some r → sy_E (7) qL_house 0 [.ref 0, .ref 132, xe_no] [] M r := by
  intro  M r h
  exact sy_run_by (d := 6) ((jrL_house M).trans h) hkL (by decide +kernel) (sy_cs_cons (jeX11_house.deep (by decide)) sy_cs_nil) sy_us_nil
def jcL_house (as : List Value) (M : sy_M) (K : sy_O → sy_O) : sy_O := sy_xc 0 as fun l => sy_xc 132 l fun l => sy_xn l (K (jfL_house M))
theorem jeL_house : sy_snd (7) 321 (jcL_house) := by
  intro as M K r h
  obtain ⟨l, e, h1⟩ := sy_xc_ok h; subst e
  obtain ⟨l, e, h2⟩ := sy_xc_ok h1; subst e
  obtain ⟨e, h3⟩ := sy_xn_ok h2; subst e
  exact ⟨_, h3, fun r1 h0 => ⟨qL_house, rfl, rfl, jtL_house  M r1 h0⟩⟩
/-! X12_putsAside StairMeterModel putsAside ()V [('R', 121)] -/
def juX12_putsAside_2 (k : Int32 → sy_M → sy_O) (ls st : List Value) (M : sy_M) : sy_O := sy_xc 121 ls fun l => sy_xi l fun a1 l => sy_xn l (sy_xn st (k a1 M))
theorem jwX12_putsAside_2 {d : Nat} {k : Int32 → sy_M → sy_O} (hk : ∀ (a1 : Int32) (M : sy_M) (r : xe_R × sy_M), k a1 M = some r → sy_E (d) qX12_putsAside 2 [.ref 121, .int a1] [] M r) : ∀ ls st M r, juX12_putsAside_2 k ls st M = some r → sy_E d qX12_putsAside 2 ls st M r := by
  intro ls st M r h
  obtain ⟨l, e, h1⟩ := sy_xc_ok h; subst e
  obtain ⟨a1, l, e, h2⟩ := sy_xi_ok h1; subst e
  obtain ⟨e, h3⟩ := sy_xn_ok h2; subst e
  obtain ⟨e, h4⟩ := sy_xn_ok h3; subst e
  exact hk a1 M r h4
def jgX12_putsAside_2 (k2 : Int32 → sy_M → sy_O) (a1 : Int32) (M : sy_M) : sy_O :=
  if a1 < 426 then
    sy_bx (xe_in a1 826) <|
    sy_bx (xe_in a1 426) <|
    let M1 := sy_upd M 124 (Int32.toNatClampNeg a1) (M 122 (Int32.toNatClampNeg a1))
    let v2 := a1 + 1
    k2 v2 M1
  else
    sy_rv M
def jfX12_putsAside_2 : Nat → Int32 → sy_M → sy_O
  | 0, _, _ => none
  | n + 1, a1, M => jgX12_putsAside_2 (jfX12_putsAside_2 n) a1 M
set_option maxRecDepth 100000 in
theorem jrX12_putsAside_2 (k2 : Int32 → sy_M → sy_O) (a1 : Int32) (M : sy_M) : sy_run skX12 qX12_putsAside [(2, .iload_n 1, 1, []), (3, .sipush 426, 3, []), (6, .if_icmp .ge 21, 3, []), (9, .aload_n 0, 1, []), (10, .getfield 16, 3, []), (13, .iload_n 1, 1, []), (14, .aload_n 0, 1, []), (15, .getfield 7, 3, []), (18, .iload_n 1, 1, []), (19, .iaload, 1, []), (20, .iastore, 1, []), (21, .iinc 1 1, 3, []), (24, .goto (-22), 3, []), (27, .return_, 1, [false, false])] [] [(2, juX12_putsAside_2 k2)] 15 [] 2 [.ref 121, .int a1] [] M = jgX12_putsAside_2 k2 a1 M := rfl
theorem jtX12_putsAside_2 : ∀ n : Nat, ∀ (a1 : Int32) (M : sy_M) (r : xe_R × sy_M), jfX12_putsAside_2 n a1 M = some r → sy_E (1) qX12_putsAside 2 [.ref 121, .int a1] [] M r := by
  intro n
  induction n with
  | zero => intro a1 M r h; exact absurd (show (none : sy_O) = some r from h) (by simp)
  | succ n ih => intro a1 M r h; exact sy_run_by (d := 0) ((jrX12_putsAside_2 _ _ M).trans h) hkX12 (by decide +kernel) sy_cs_nil (sy_us_cons (jwX12_putsAside_2 ih) sy_us_nil)
def jfX12_putsAside (M : sy_M) : sy_O :=
  jfX12_putsAside_2 sy_F 0 M
set_option maxRecDepth 100000 in
theorem jrX12_putsAside (M : sy_M) : sy_run skX12 qX12_putsAside [(0, .iconst 0, 1, []), (1, .istore_n 1, 1, [])] [] [(2, juX12_putsAside_2 (jfX12_putsAside_2 sy_F))] 3 [] 0 [.ref 121, xe_no] [] M = jfX12_putsAside M := rfl
theorem jtX12_putsAside : ∀ (M : sy_M) (r : xe_R × sy_M), jfX12_putsAside M = some r → sy_E (1) qX12_putsAside 0 [.ref 121, xe_no] [] M r := by
  intro  M r h
  exact sy_run_by (d := 0) ((jrX12_putsAside M).trans h) hkX12 (by decide +kernel) sy_cs_nil (sy_us_cons (jwX12_putsAside_2 (jtX12_putsAside_2 sy_F)) sy_us_nil)
def jcX12_putsAside (as : List Value) (M : sy_M) (K : sy_O → sy_O) : sy_O := sy_xc 121 as fun l => sy_xn l (K (jfX12_putsAside M))
theorem jeX12_putsAside : sy_snd (1) 215 (jcX12_putsAside) := by
  intro as M K r h
  obtain ⟨l, e, h1⟩ := sy_xc_ok h; subst e
  obtain ⟨e, h2⟩ := sy_xn_ok h1; subst e
  exact ⟨_, h2, fun r1 h0 => ⟨qX12_putsAside, rfl, rfl, jtX12_putsAside  M r1 h0⟩⟩
/-! X12_begins StairMeterModel begins ()V [('R', 121)] -/
def jfX12_begins (M : sy_M) : sy_O :=
  let M1 := sy_upd M 121 12 (-1)
  let M2 := sy_upd M1 121 9 (-1)
  let M3 := sy_upd M2 121 10 (M2 121 8)
  let M4 := sy_upd M3 121 8 0
  let M5 := sy_upd M4 121 11 0
  let M6 := sy_upd M5 121 13 0
  sy_rv M6
set_option maxRecDepth 100000 in
theorem jrX12_begins (M : sy_M) : sy_run skX12 qX12_begins [(0, .aload_n 0, 1, []), (1, .iconst (-1), 1, []), (2, .putfield 25, 3, []), (5, .aload_n 0, 1, []), (6, .iconst (-1), 1, []), (7, .putfield 73, 3, []), (10, .aload_n 0, 1, []), (11, .aload_n 0, 1, []), (12, .getfield 70, 3, []), (15, .putfield 79, 3, []), (18, .aload_n 0, 1, []), (19, .iconst 0, 1, []), (20, .putfield 70, 3, []), (23, .aload_n 0, 1, []), (24, .iconst 0, 1, []), (25, .putfield 76, 3, []), (28, .aload_n 0, 1, []), (29, .iconst 0, 1, []), (30, .putfield 159, 3, []), (33, .return_, 1, [])] [] [] 21 [] 0 [.ref 121] [] M = jfX12_begins M := rfl
theorem jtX12_begins : ∀ (M : sy_M) (r : xe_R × sy_M), jfX12_begins M = some r → sy_E (1) qX12_begins 0 [.ref 121] [] M r := by
  intro  M r h
  exact sy_run_by (d := 0) ((jrX12_begins M).trans h) hkX12 (by decide +kernel) sy_cs_nil sy_us_nil
def jcX12_begins (as : List Value) (M : sy_M) (K : sy_O → sy_O) : sy_O := sy_xc 121 as fun l => sy_xn l (K (jfX12_begins M))
theorem jeX12_begins : sy_snd (1) 213 (jcX12_begins) := by
  intro as M K r h
  obtain ⟨l, e, h1⟩ := sy_xc_ok h; subst e
  obtain ⟨e, h2⟩ := sy_xn_ok h1; subst e
  exact ⟨_, h2, fun r1 h0 => ⟨qX12_begins, rfl, rfl, jtX12_begins  M r1 h0⟩⟩
/-! X12_letter StairMeterModel letter (I)I [('R', 121), 'I'] -/
def jfX12_letter (a1 : Int32) (M : sy_M) : sy_O :=
  if (M 121 9) = (-1) then
    sy_bx (xe_in a1 400) <|
    sy_ri (M 126 (Int32.toNatClampNeg a1)) M
  else
    sy_bx (xe_in ((M 121 9) + a1) 826) <|
    sy_ri (M 122 (Int32.toNatClampNeg ((M 121 9) + a1))) M
set_option maxRecDepth 100000 in
theorem jrX12_letter (a1 : Int32) (M : sy_M) : sy_run skX12 qX12_letter [(0, .aload_n 0, 1, []), (1, .getfield 73, 3, []), (4, .iconst (-1), 1, []), (5, .if_icmp .ne 12, 3, []), (8, .aload_n 0, 1, []), (9, .getfield 22, 3, []), (12, .iload_n 1, 1, []), (13, .iaload, 1, []), (14, .goto 14, 3, []), (17, .aload_n 0, 1, []), (18, .getfield 7, 3, []), (21, .aload_n 0, 1, []), (22, .getfield 73, 3, []), (25, .iload_n 1, 1, []), (26, .iadd, 1, []), (27, .iaload, 1, []), (28, .ireturn, 1, [false, false])] [] [] 18 [] 0 [.ref 121, .int a1] [] M = jfX12_letter a1 M := rfl
theorem jtX12_letter : ∀ (a1 : Int32) (M : sy_M) (r : xe_R × sy_M), jfX12_letter a1 M = some r → sy_E (1) qX12_letter 0 [.ref 121, .int a1] [] M r := by
  intro a1 M r h
  exact sy_run_by (d := 0) ((jrX12_letter _ M).trans h) hkX12 (by decide +kernel) sy_cs_nil sy_us_nil
def jcX12_letter (as : List Value) (M : sy_M) (K : sy_O → sy_O) : sy_O := sy_xc 121 as fun l => sy_xi l fun a1 l => sy_xn l (K (jfX12_letter a1 M))
theorem jeX12_letter : sy_snd (1) 200 (jcX12_letter) := by
  intro as M K r h
  obtain ⟨l, e, h1⟩ := sy_xc_ok h; subst e
  obtain ⟨a1, l, e, h2⟩ := sy_xi_ok h1; subst e
  obtain ⟨e, h3⟩ := sy_xn_ok h2; subst e
  exact ⟨_, h3, fun r1 h0 => ⟨qX12_letter, rfl, rfl, jtX12_letter _ M r1 h0⟩⟩
/-! X12_skip StairMeterModel skip ()V [('R', 121)] -/
def juX12_skip_0 (k : sy_M → sy_O) (ls st : List Value) (M : sy_M) : sy_O := sy_xc 121 ls fun l => sy_xn l (sy_xn st (k M))
theorem jwX12_skip_0 {d : Nat} {k : sy_M → sy_O} (hk : ∀ (M : sy_M) (r : xe_R × sy_M), k M = some r → sy_E (d) qX12_skip 0 [.ref 121] [] M r) : ∀ ls st M r, juX12_skip_0 k ls st M = some r → sy_E d qX12_skip 0 ls st M r := by
  intro ls st M r h
  obtain ⟨l, e, h1⟩ := sy_xc_ok h; subst e
  obtain ⟨e, h2⟩ := sy_xn_ok h1; subst e
  obtain ⟨e, h3⟩ := sy_xn_ok h2; subst e
  exact hk  M r h3
def jgX12_skip_0 (k0 : sy_M → sy_O) (M : sy_M) : sy_O :=
  if (M 121 11) < (M 121 10) then
    sy_bi (jfX12_letter (M 121 11) M) fun v2 M1 =>
    if v2 = 32 then
      let M3 := sy_upd M1 121 11 ((M1 121 11) + 1)
      k0 M3
    else
      sy_rv M1
  else
    sy_rv M
def jfX12_skip_0 : Nat → sy_M → sy_O
  | 0, _ => none
  | n + 1, M => jgX12_skip_0 (jfX12_skip_0 n)  M
set_option maxRecDepth 100000 in
theorem jrX12_skip_0 (k0 : sy_M → sy_O) (M : sy_M) : sy_run skX12 qX12_skip [(0, .aload_n 0, 1, []), (1, .getfield 76, 3, []), (4, .aload_n 0, 1, []), (5, .getfield 79, 3, []), (8, .if_icmp .ge 29, 3, []), (11, .aload_n 0, 1, []), (12, .aload_n 0, 1, []), (13, .getfield 76, 3, []), (16, .invokevirtual 82, 3, []), (19, .bipush 32, 2, []), (21, .if_icmp .ne 16, 3, []), (24, .aload_n 0, 1, []), (25, .dup, 1, []), (26, .getfield 76, 3, []), (29, .iconst 1, 1, []), (30, .iadd, 1, []), (31, .putfield 76, 3, []), (34, .goto (-34), 3, []), (37, .return_, 1, [false])] [(200, 0, jcX12_letter)] [(0, juX12_skip_0 k0)] 20 [] 0 [.ref 121] [] M = jgX12_skip_0 k0 M := rfl
theorem jtX12_skip_0 : ∀ n : Nat, ∀ (M : sy_M) (r : xe_R × sy_M), jfX12_skip_0 n M = some r → sy_E (2) qX12_skip 0 [.ref 121] [] M r := by
  intro n
  induction n with
  | zero => intro  M r h; exact absurd (show (none : sy_O) = some r from h) (by simp)
  | succ n ih => intro  M r h; exact sy_run_by (d := 1) ((jrX12_skip_0 _ M).trans h) hkX12 (by decide +kernel) (sy_cs_cons (jeX12_letter.deep (by decide)) sy_cs_nil) (sy_us_cons (jwX12_skip_0 ih) sy_us_nil)
def jfX12_skip (M : sy_M) : sy_O := jfX12_skip_0 sy_F M
def jcX12_skip (as : List Value) (M : sy_M) (K : sy_O → sy_O) : sy_O := sy_xc 121 as fun l => sy_xn l (K (jfX12_skip M))
theorem jeX12_skip : sy_snd (2) 201 (jcX12_skip) := by
  intro as M K r h
  obtain ⟨l, e, h1⟩ := sy_xc_ok h; subst e
  obtain ⟨e, h2⟩ := sy_xn_ok h1; subst e
  exact ⟨_, h2, fun r1 h0 => ⟨qX12_skip, rfl, rfl, jtX12_skip_0 sy_F  M r1 h0⟩⟩
/-! X12_here StairMeterModel here ()I [('R', 121)] -/
def jfX12_here (M : sy_M) : sy_O :=
  sy_bv (jfX12_skip M) fun M1 =>
  sy_ri (M1 121 11) M1
set_option maxRecDepth 100000 in
theorem jrX12_here (M : sy_M) : sy_run skX12 qX12_here [(0, .aload_n 0, 1, []), (1, .invokevirtual 85, 3, []), (4, .aload_n 0, 1, []), (5, .getfield 76, 3, []), (8, .ireturn, 1, [])] [(201, 1, jcX12_skip)] [] 6 [] 0 [.ref 121] [] M = jfX12_here M := rfl
theorem jtX12_here : ∀ (M : sy_M) (r : xe_R × sy_M), jfX12_here M = some r → sy_E (3) qX12_here 0 [.ref 121] [] M r := by
  intro  M r h
  exact sy_run_by (d := 2) ((jrX12_here M).trans h) hkX12 (by decide +kernel) (sy_cs_cons (jeX12_skip.deep (by decide)) sy_cs_nil) sy_us_nil
def jcX12_here (as : List Value) (M : sy_M) (K : sy_O → sy_O) : sy_O := sy_xc 121 as fun l => sy_xn l (K (jfX12_here M))
theorem jeX12_here : sy_snd (3) 205 (jcX12_here) := by
  intro as M K r h
  obtain ⟨l, e, h1⟩ := sy_xc_ok h; subst e
  obtain ⟨e, h2⟩ := sy_xn_ok h1; subst e
  exact ⟨_, h2, fun r1 h0 => ⟨qX12_here, rfl, rfl, jtX12_here  M r1 h0⟩⟩
/-! X12_has StairMeterModel has (Ljava/lang/String;)Z [('R', 121), 'A'] -/
def juX12_has_55 (k : Nat → Int32 → Int32 → sy_M → sy_O) (ls st : List Value) (M : sy_M) : sy_O := sy_xc 121 ls fun l => sy_xa l fun r1 l => sy_xi l fun a2 l => sy_xi l fun a3 l => sy_xn l (sy_xn st (k r1 a2 a3 M))
theorem jwX12_has_55 {d : Nat} {k : Nat → Int32 → Int32 → sy_M → sy_O} (hk : ∀ (r1 : Nat) (a2 : Int32) (a3 : Int32) (M : sy_M) (r : xe_R × sy_M), k r1 a2 a3 M = some r → sy_E (d) qX12_has 55 [.ref 121, .ref r1, .int a2, .int a3] [] M r) : ∀ ls st M r, juX12_has_55 k ls st M = some r → sy_E d qX12_has 55 ls st M r := by
  intro ls st M r h
  obtain ⟨l, e, h1⟩ := sy_xc_ok h; subst e
  obtain ⟨r1, l, e, h2⟩ := sy_xa_ok h1; subst e
  obtain ⟨a2, l, e, h3⟩ := sy_xi_ok h2; subst e
  obtain ⟨a3, l, e, h4⟩ := sy_xi_ok h3; subst e
  obtain ⟨e, h5⟩ := sy_xn_ok h4; subst e
  obtain ⟨e, h6⟩ := sy_xn_ok h5; subst e
  exact hk r1 a2 a3 M r h6
def juX12_has_38 (k : Nat → Int32 → sy_M → sy_O) (ls st : List Value) (M : sy_M) : sy_O := sy_xc 121 ls fun l => sy_xa l fun r1 l => sy_xi l fun a2 l => sy_xv l fun _ l => sy_xn l (sy_xn st (k r1 a2 M))
theorem jwX12_has_38 {d : Nat} {k : Nat → Int32 → sy_M → sy_O} (hk : ∀ (w3 : Value) (r1 : Nat) (a2 : Int32) (M : sy_M) (r : xe_R × sy_M), k r1 a2 M = some r → sy_E (d) qX12_has 38 [.ref 121, .ref r1, .int a2, w3] [] M r) : ∀ ls st M r, juX12_has_38 k ls st M = some r → sy_E d qX12_has 38 ls st M r := by
  intro ls st M r h
  obtain ⟨l, e, h1⟩ := sy_xc_ok h; subst e
  obtain ⟨r1, l, e, h2⟩ := sy_xa_ok h1; subst e
  obtain ⟨a2, l, e, h3⟩ := sy_xi_ok h2; subst e
  obtain ⟨w3, l, e, h4⟩ := sy_xv_ok h3; subst e
  obtain ⟨e, h5⟩ := sy_xn_ok h4; subst e
  obtain ⟨e, h6⟩ := sy_xn_ok h5; subst e
  exact hk _ r1 a2 M r h6
def juX12_has_9 (k : Nat → Int32 → sy_M → sy_O) (ls st : List Value) (M : sy_M) : sy_O := sy_xc 121 ls fun l => sy_xa l fun r1 l => sy_xi l fun a2 l => sy_xv l fun _ l => sy_xn l (sy_xn st (k r1 a2 M))
theorem jwX12_has_9 {d : Nat} {k : Nat → Int32 → sy_M → sy_O} (hk : ∀ (w3 : Value) (r1 : Nat) (a2 : Int32) (M : sy_M) (r : xe_R × sy_M), k r1 a2 M = some r → sy_E (d) qX12_has 9 [.ref 121, .ref r1, .int a2, w3] [] M r) : ∀ ls st M r, juX12_has_9 k ls st M = some r → sy_E d qX12_has 9 ls st M r := by
  intro ls st M r h
  obtain ⟨l, e, h1⟩ := sy_xc_ok h; subst e
  obtain ⟨r1, l, e, h2⟩ := sy_xa_ok h1; subst e
  obtain ⟨a2, l, e, h3⟩ := sy_xi_ok h2; subst e
  obtain ⟨w3, l, e, h4⟩ := sy_xv_ok h3; subst e
  obtain ⟨e, h5⟩ := sy_xn_ok h4; subst e
  obtain ⟨e, h6⟩ := sy_xn_ok h5; subst e
  exact hk _ r1 a2 M r h6
def jgX12_has_55 (k55 : Nat → Int32 → Int32 → sy_M → sy_O) (r1 : Nat) (a2 : Int32) (a3 : Int32) (M : sy_M) : sy_O :=
  sy_bb (sy_st r1) <|
  if a3 < (Nat.toInt32 (sy_sl r1)) then
    sy_bi (jfX12_letter ((M 121 11) + a3) M) fun v3 M2 =>
    sy_bx (sy_st r1 && xe_in a3 (sy_sl r1)) <|
    if v3 = (sy_sc r1 (Int32.toNatClampNeg a3)) then
      let v4 := a3 + 1
      k55 r1 a2 v4 M2
    else
      sy_ri 0 M2
  else
    let M1 := sy_upd M 121 11 a2
    sy_ri 1 M1
def jfX12_has_55 : Nat → Nat → Int32 → Int32 → sy_M → sy_O
  | 0, _, _, _, _ => none
  | n + 1, r1, a2, a3, M => jgX12_has_55 (jfX12_has_55 n) r1 a2 a3 M
set_option maxRecDepth 100000 in
theorem jrX12_has_55 (k55 : Nat → Int32 → Int32 → sy_M → sy_O) (r1 : Nat) (a2 : Int32) (a3 : Int32) (M : sy_M) : sy_run skX12 qX12_has [(55, .iload_n 3, 1, []), (56, .aload_n 1, 1, []), (57, .invokevirtual 88, 3, []), (60, .if_icmp .ge 29, 3, []), (63, .aload_n 0, 1, []), (64, .aload_n 0, 1, []), (65, .getfield 76, 3, []), (68, .iload_n 3, 1, []), (69, .iadd, 1, []), (70, .invokevirtual 82, 3, []), (73, .aload_n 1, 1, []), (74, .iload_n 3, 1, []), (75, .invokevirtual 94, 3, []), (78, .if_icmp .eq 5, 3, []), (81, .iconst 0, 1, []), (82, .ireturn, 1, []), (83, .iinc 3 1, 3, []), (86, .goto (-31), 3, []), (89, .aload_n 0, 1, [true, false, true, false]), (90, .iload_n 2, 1, []), (91, .putfield 76, 3, []), (94, .iconst 1, 1, []), (95, .ireturn, 1, [])] [(200, 0, jcX12_letter)] [(55, juX12_has_55 k55)] 24 [] 55 [.ref 121, .ref r1, .int a2, .int a3] [] M = jgX12_has_55 k55 r1 a2 a3 M := rfl
theorem jtX12_has_55 : ∀ n : Nat, ∀ (r1 : Nat) (a2 : Int32) (a3 : Int32) (M : sy_M) (r : xe_R × sy_M), jfX12_has_55 n r1 a2 a3 M = some r → sy_E (3) qX12_has 55 [.ref 121, .ref r1, .int a2, .int a3] [] M r := by
  intro n
  induction n with
  | zero => intro r1 a2 a3 M r h; exact absurd (show (none : sy_O) = some r from h) (by simp)
  | succ n ih => intro r1 a2 a3 M r h; exact sy_run_by (d := 2) ((jrX12_has_55 _ _ _ _ M).trans h) hkX12 (by decide +kernel) (sy_cs_cons (jeX12_letter.deep (by decide)) sy_cs_nil) (sy_us_cons (jwX12_has_55 ih) sy_us_nil)
def jfX12_has_38 (r1 : Nat) (a2 : Int32) (M : sy_M) : sy_O :=
  sy_bb (sy_st r1) <|
  if (a2 - (M 121 11)) = (Nat.toInt32 (sy_sl r1)) then
    jfX12_has_55 sy_F r1 a2 0 M
  else
    sy_ri 0 M
set_option maxRecDepth 100000 in
theorem jrX12_has_38 (w3 : Value) (r1 : Nat) (a2 : Int32) (M : sy_M) : sy_run skX12 qX12_has [(38, .iload_n 2, 1, [true, true, true, false]), (39, .aload_n 0, 1, []), (40, .getfield 76, 3, []), (43, .isub, 1, []), (44, .aload_n 1, 1, []), (45, .invokevirtual 88, 3, []), (48, .if_icmp .eq 5, 3, []), (51, .iconst 0, 1, []), (52, .ireturn, 1, []), (53, .iconst 0, 1, [true, true, true, false]), (54, .istore_n 3, 1, [])] [] [(55, juX12_has_55 (jfX12_has_55 sy_F))] 12 [] 38 [.ref 121, .ref r1, .int a2, w3] [] M = jfX12_has_38 r1 a2 M := rfl
theorem jtX12_has_38 : ∀ (w3 : Value) (r1 : Nat) (a2 : Int32) (M : sy_M) (r : xe_R × sy_M), jfX12_has_38 r1 a2 M = some r → sy_E (3) qX12_has 38 [.ref 121, .ref r1, .int a2, w3] [] M r := by
  intro w3 r1 a2 M r h
  exact sy_run_by (d := 2) ((jrX12_has_38 _ _ _ M).trans h) hkX12 (by decide +kernel) sy_cs_nil (sy_us_cons (jwX12_has_55 (jtX12_has_55 sy_F)) sy_us_nil)
def jgX12_has_9 (k9 : Nat → Int32 → sy_M → sy_O) (r1 : Nat) (a2 : Int32) (M : sy_M) : sy_O :=
  if a2 < (M 121 10) then
    sy_bi (jfX12_letter a2 M) fun v2 M1 =>
    sy_bi (jfX12_isIn v2 97 122 M1) fun v4 M3 =>
    if v4 = 0 then
      jfX12_has_38 r1 a2 M3
    else
      let v5 := a2 + 1
      k9 r1 v5 M3
  else
    jfX12_has_38 r1 a2 M
def jfX12_has_9 : Nat → Nat → Int32 → sy_M → sy_O
  | 0, _, _, _ => none
  | n + 1, r1, a2, M => jgX12_has_9 (jfX12_has_9 n) r1 a2 M
set_option maxRecDepth 100000 in
theorem jrX12_has_9 (k9 : Nat → Int32 → sy_M → sy_O) (w3 : Value) (r1 : Nat) (a2 : Int32) (M : sy_M) : sy_run skX12 qX12_has [(9, .iload_n 2, 1, [true, true, true, false]), (10, .aload_n 0, 1, []), (11, .getfield 79, 3, []), (14, .if_icmp .ge 24, 3, []), (17, .aload_n 0, 1, []), (18, .iload_n 2, 1, []), (19, .invokevirtual 82, 3, []), (22, .bipush 97, 2, []), (24, .bipush 122, 2, []), (26, .invokestatic 48, 3, []), (29, .ifCond .eq 9, 3, []), (32, .iinc 2 1, 3, []), (35, .goto (-26), 3, [])] [(200, 0, jcX12_letter), (182, 0, jcX12_isIn)] [(38, juX12_has_38 (jfX12_has_38)), (9, juX12_has_9 k9)] 14 [] 9 [.ref 121, .ref r1, .int a2, w3] [] M = jgX12_has_9 k9 r1 a2 M := rfl
theorem jtX12_has_9 : ∀ n : Nat, ∀ (w3 : Value) (r1 : Nat) (a2 : Int32) (M : sy_M) (r : xe_R × sy_M), jfX12_has_9 n r1 a2 M = some r → sy_E (3) qX12_has 9 [.ref 121, .ref r1, .int a2, w3] [] M r := by
  intro n
  induction n with
  | zero => intro w3 r1 a2 M r h; exact absurd (show (none : sy_O) = some r from h) (by simp)
  | succ n ih => intro w3 r1 a2 M r h; exact sy_run_by (d := 2) ((jrX12_has_9 _ _ _ _ M).trans h) hkX12 (by decide +kernel) (sy_cs_cons (jeX12_letter.deep (by decide)) (sy_cs_cons (jeX12_isIn.deep (by decide)) sy_cs_nil)) (sy_us_cons (jwX12_has_38 (jtX12_has_38)) (sy_us_cons (jwX12_has_9 ih) sy_us_nil))
def jfX12_has (r1 : Nat) (M : sy_M) : sy_O :=
  sy_bv (jfX12_skip M) fun M1 =>
  let v2 := (M1 121 11)
  jfX12_has_9 sy_F r1 v2 M1
set_option maxRecDepth 100000 in
theorem jrX12_has (r1 : Nat) (M : sy_M) : sy_run skX12 qX12_has [(0, .aload_n 0, 1, []), (1, .invokevirtual 85, 3, []), (4, .aload_n 0, 1, []), (5, .getfield 76, 3, []), (8, .istore_n 2, 1, [])] [(201, 1, jcX12_skip)] [(9, juX12_has_9 (jfX12_has_9 sy_F))] 6 [] 0 [.ref 121, .ref r1, xe_no, xe_no] [] M = jfX12_has r1 M := rfl
theorem jtX12_has : ∀ (r1 : Nat) (M : sy_M) (r : xe_R × sy_M), jfX12_has r1 M = some r → sy_E (3) qX12_has 0 [.ref 121, .ref r1, xe_no, xe_no] [] M r := by
  intro r1 M r h
  exact sy_run_by (d := 2) ((jrX12_has _ M).trans h) hkX12 (by decide +kernel) (sy_cs_cons (jeX12_skip.deep (by decide)) sy_cs_nil) (sy_us_cons (jwX12_has_9 (jtX12_has_9 sy_F)) sy_us_nil)
def jcX12_has (as : List Value) (M : sy_M) (K : sy_O → sy_O) : sy_O := sy_xc 121 as fun l => sy_xa l fun r1 l => sy_xn l (K (jfX12_has r1 M))
theorem jeX12_has : sy_snd (3) 203 (jcX12_has) := by
  intro as M K r h
  obtain ⟨l, e, h1⟩ := sy_xc_ok h; subst e
  obtain ⟨r1, l, e, h2⟩ := sy_xa_ok h1; subst e
  obtain ⟨e, h3⟩ := sy_xn_ok h2; subst e
  exact ⟨_, h3, fun r1 h0 => ⟨qX12_has, rfl, rfl, jtX12_has _ M r1 h0⟩⟩
/-! X12_wrong StairMeterModel wrong (I)V [('R', 121), 'I'] -/
def jfX12_wrong (a1 : Int32) (M : sy_M) : sy_O :=
  if (M 121 12) = (-1) then
    let M1 := sy_upd M 121 12 a1
    sy_rv M1
  else
    sy_rv M
set_option maxRecDepth 100000 in
theorem jrX12_wrong (a1 : Int32) (M : sy_M) : sy_run skX12 qX12_wrong [(0, .aload_n 0, 1, []), (1, .getfield 25, 3, []), (4, .iconst (-1), 1, []), (5, .if_icmp .ne 8, 3, []), (8, .aload_n 0, 1, []), (9, .iload_n 1, 1, []), (10, .putfield 25, 3, []), (13, .return_, 1, [false, false])] [] [] 9 [] 0 [.ref 121, .int a1] [] M = jfX12_wrong a1 M := rfl
theorem jtX12_wrong : ∀ (a1 : Int32) (M : sy_M) (r : xe_R × sy_M), jfX12_wrong a1 M = some r → sy_E (1) qX12_wrong 0 [.ref 121, .int a1] [] M r := by
  intro a1 M r h
  exact sy_run_by (d := 0) ((jrX12_wrong _ M).trans h) hkX12 (by decide +kernel) sy_cs_nil sy_us_nil
def jcX12_wrong (as : List Value) (M : sy_M) (K : sy_O → sy_O) : sy_O := sy_xc 121 as fun l => sy_xi l fun a1 l => sy_xn l (K (jfX12_wrong a1 M))
theorem jeX12_wrong : sy_snd (1) 204 (jcX12_wrong) := by
  intro as M K r h
  obtain ⟨l, e, h1⟩ := sy_xc_ok h; subst e
  obtain ⟨a1, l, e, h2⟩ := sy_xi_ok h1; subst e
  obtain ⟨e, h3⟩ := sy_xn_ok h2; subst e
  exact ⟨_, h3, fun r1 h0 => ⟨qX12_wrong, rfl, rfl, jtX12_wrong _ M r1 h0⟩⟩
/-! X12_figures StairMeterModel figures (II)I [('R', 121), 'I', 'I'] -/
def juX12_figures_119 (k : Int32 → Int32 → sy_M → sy_O) (ls st : List Value) (M : sy_M) : sy_O := sy_xc 121 ls fun l => sy_xv l fun _ l => sy_xv l fun _ l => sy_xi l fun a3 l => sy_xi l fun a4 l => sy_xn l (sy_xn st (k a3 a4 M))
theorem jwX12_figures_119 {d : Nat} {k : Int32 → Int32 → sy_M → sy_O} (hk : ∀ (w1 : Value) (w2 : Value) (a3 : Int32) (a4 : Int32) (M : sy_M) (r : xe_R × sy_M), k a3 a4 M = some r → sy_E (d) qX12_figures 119 [.ref 121, w1, w2, .int a3, .int a4] [] M r) : ∀ ls st M r, juX12_figures_119 k ls st M = some r → sy_E d qX12_figures 119 ls st M r := by
  intro ls st M r h
  obtain ⟨l, e, h1⟩ := sy_xc_ok h; subst e
  obtain ⟨w1, l, e, h2⟩ := sy_xv_ok h1; subst e
  obtain ⟨w2, l, e, h3⟩ := sy_xv_ok h2; subst e
  obtain ⟨a3, l, e, h4⟩ := sy_xi_ok h3; subst e
  obtain ⟨a4, l, e, h5⟩ := sy_xi_ok h4; subst e
  obtain ⟨e, h6⟩ := sy_xn_ok h5; subst e
  obtain ⟨e, h7⟩ := sy_xn_ok h6; subst e
  exact hk _ _ a3 a4 M r h7
def juX12_figures_89 (k : Int32 → Int32 → Int32 → Int32 → sy_M → sy_O) (ls st : List Value) (M : sy_M) : sy_O := sy_xc 121 ls fun l => sy_xi l fun a1 l => sy_xi l fun a2 l => sy_xi l fun a3 l => sy_xi l fun a4 l => sy_xn l (sy_xn st (k a1 a2 a3 a4 M))
theorem jwX12_figures_89 {d : Nat} {k : Int32 → Int32 → Int32 → Int32 → sy_M → sy_O} (hk : ∀ (a1 : Int32) (a2 : Int32) (a3 : Int32) (a4 : Int32) (M : sy_M) (r : xe_R × sy_M), k a1 a2 a3 a4 M = some r → sy_E (d) qX12_figures 89 [.ref 121, .int a1, .int a2, .int a3, .int a4] [] M r) : ∀ ls st M r, juX12_figures_89 k ls st M = some r → sy_E d qX12_figures 89 ls st M r := by
  intro ls st M r h
  obtain ⟨l, e, h1⟩ := sy_xc_ok h; subst e
  obtain ⟨a1, l, e, h2⟩ := sy_xi_ok h1; subst e
  obtain ⟨a2, l, e, h3⟩ := sy_xi_ok h2; subst e
  obtain ⟨a3, l, e, h4⟩ := sy_xi_ok h3; subst e
  obtain ⟨a4, l, e, h5⟩ := sy_xi_ok h4; subst e
  obtain ⟨e, h6⟩ := sy_xn_ok h5; subst e
  obtain ⟨e, h7⟩ := sy_xn_ok h6; subst e
  exact hk a1 a2 a3 a4 M r h7
def juX12_figures_86 (k : Int32 → Int32 → Int32 → Int32 → sy_M → sy_O) (ls st : List Value) (M : sy_M) : sy_O := sy_xc 121 ls fun l => sy_xi l fun a1 l => sy_xi l fun a2 l => sy_xi l fun a3 l => sy_xi l fun a4 l => sy_xn l (sy_xn st (k a1 a2 a3 a4 M))
theorem jwX12_figures_86 {d : Nat} {k : Int32 → Int32 → Int32 → Int32 → sy_M → sy_O} (hk : ∀ (a1 : Int32) (a2 : Int32) (a3 : Int32) (a4 : Int32) (M : sy_M) (r : xe_R × sy_M), k a1 a2 a3 a4 M = some r → sy_E (d) qX12_figures 86 [.ref 121, .int a1, .int a2, .int a3, .int a4] [] M r) : ∀ ls st M r, juX12_figures_86 k ls st M = some r → sy_E d qX12_figures 86 ls st M r := by
  intro ls st M r h
  obtain ⟨l, e, h1⟩ := sy_xc_ok h; subst e
  obtain ⟨a1, l, e, h2⟩ := sy_xi_ok h1; subst e
  obtain ⟨a2, l, e, h3⟩ := sy_xi_ok h2; subst e
  obtain ⟨a3, l, e, h4⟩ := sy_xi_ok h3; subst e
  obtain ⟨a4, l, e, h5⟩ := sy_xi_ok h4; subst e
  obtain ⟨e, h6⟩ := sy_xn_ok h5; subst e
  obtain ⟨e, h7⟩ := sy_xn_ok h6; subst e
  exact hk a1 a2 a3 a4 M r h7
def juX12_figures_18 (k : Int32 → Int32 → Int32 → Int32 → sy_M → sy_O) (ls st : List Value) (M : sy_M) : sy_O := sy_xc 121 ls fun l => sy_xi l fun a1 l => sy_xi l fun a2 l => sy_xi l fun a3 l => sy_xi l fun a4 l => sy_xn l (sy_xn st (k a1 a2 a3 a4 M))
theorem jwX12_figures_18 {d : Nat} {k : Int32 → Int32 → Int32 → Int32 → sy_M → sy_O} (hk : ∀ (a1 : Int32) (a2 : Int32) (a3 : Int32) (a4 : Int32) (M : sy_M) (r : xe_R × sy_M), k a1 a2 a3 a4 M = some r → sy_E (d) qX12_figures 18 [.ref 121, .int a1, .int a2, .int a3, .int a4] [] M r) : ∀ ls st M r, juX12_figures_18 k ls st M = some r → sy_E d qX12_figures 18 ls st M r := by
  intro ls st M r h
  obtain ⟨l, e, h1⟩ := sy_xc_ok h; subst e
  obtain ⟨a1, l, e, h2⟩ := sy_xi_ok h1; subst e
  obtain ⟨a2, l, e, h3⟩ := sy_xi_ok h2; subst e
  obtain ⟨a3, l, e, h4⟩ := sy_xi_ok h3; subst e
  obtain ⟨a4, l, e, h5⟩ := sy_xi_ok h4; subst e
  obtain ⟨e, h6⟩ := sy_xn_ok h5; subst e
  obtain ⟨e, h7⟩ := sy_xn_ok h6; subst e
  exact hk a1 a2 a3 a4 M r h7
def jfX12_figures_119 (a3 : Int32) (a4 : Int32) (M : sy_M) : sy_O :=
  sy_bv (jfX12_wrong a3 M) fun M1 =>
  sy_ri a4 M1
set_option maxRecDepth 100000 in
theorem jrX12_figures_119 (w1 : Value) (w2 : Value) (a3 : Int32) (a4 : Int32) (M : sy_M) : sy_run skX12 qX12_figures [(119, .aload_n 0, 1, [true, false, false, true, true]), (120, .iload_n 3, 1, []), (121, .invokevirtual 101, 3, []), (124, .iload 4, 2, [false, false, false, false, true]), (126, .ireturn, 1, [])] [(204, 1, jcX12_wrong)] [] 6 [] 119 [.ref 121, w1, w2, .int a3, .int a4] [] M = jfX12_figures_119 a3 a4 M := rfl
theorem jtX12_figures_119 : ∀ (w1 : Value) (w2 : Value) (a3 : Int32) (a4 : Int32) (M : sy_M) (r : xe_R × sy_M), jfX12_figures_119 a3 a4 M = some r → sy_E (4) qX12_figures 119 [.ref 121, w1, w2, .int a3, .int a4] [] M r := by
  intro w1 w2 a3 a4 M r h
  exact sy_run_by (d := 3) ((jrX12_figures_119 _ _ _ _ M).trans h) hkX12 (by decide +kernel) (sy_cs_cons (jeX12_wrong.deep (by decide)) sy_cs_nil) sy_us_nil
def jfX12_figures_89 (a1 : Int32) (a2 : Int32) (a3 : Int32) (a4 : Int32) (M : sy_M) : sy_O :=
  if (M 121 11) = a3 then
    jfX12_figures_119 a3 a4 M
  else
    if 3 < ((M 121 11) - a3) then
      jfX12_figures_119 a3 a4 M
    else
      if a4 < a1 then
        jfX12_figures_119 a3 a4 M
      else
        if a2 < a4 then
          jfX12_figures_119 a3 a4 M
        else
          sy_ri a4 M
set_option maxRecDepth 100000 in
theorem jrX12_figures_89 (a1 : Int32) (a2 : Int32) (a3 : Int32) (a4 : Int32) (M : sy_M) : sy_run skX12 qX12_figures [(89, .aload_n 0, 1, []), (90, .getfield 76, 3, []), (93, .iload_n 3, 1, []), (94, .if_icmp .eq 25, 3, []), (97, .aload_n 0, 1, []), (98, .getfield 76, 3, []), (101, .iload_n 3, 1, []), (102, .isub, 1, []), (103, .iconst 3, 1, []), (104, .if_icmp .gt 15, 3, []), (107, .iload 4, 2, []), (109, .iload_n 1, 1, []), (110, .if_icmp .lt 9, 3, []), (113, .iload 4, 2, []), (115, .iload_n 2, 1, []), (116, .if_icmp .le 8, 3, []), (124, .iload 4, 2, [false, false, false, false, true]), (126, .ireturn, 1, [])] [] [(119, juX12_figures_119 (jfX12_figures_119))] 19 [] 89 [.ref 121, .int a1, .int a2, .int a3, .int a4] [] M = jfX12_figures_89 a1 a2 a3 a4 M := rfl
theorem jtX12_figures_89 : ∀ (a1 : Int32) (a2 : Int32) (a3 : Int32) (a4 : Int32) (M : sy_M) (r : xe_R × sy_M), jfX12_figures_89 a1 a2 a3 a4 M = some r → sy_E (4) qX12_figures 89 [.ref 121, .int a1, .int a2, .int a3, .int a4] [] M r := by
  intro a1 a2 a3 a4 M r h
  exact sy_run_by (d := 3) ((jrX12_figures_89 _ _ _ _ M).trans h) hkX12 (by decide +kernel) sy_cs_nil (sy_us_cons (jwX12_figures_119 (jtX12_figures_119)) sy_us_nil)
def jfX12_figures_86 (k18 : Int32 → Int32 → Int32 → Int32 → sy_M → sy_O) (a1 : Int32) (a2 : Int32) (a3 : Int32) (a4 : Int32) (M : sy_M) : sy_O :=
  k18 a1 a2 a3 a4 M
set_option maxRecDepth 100000 in
theorem jrX12_figures_86 (k18 : Int32 → Int32 → Int32 → Int32 → sy_M → sy_O) (a1 : Int32) (a2 : Int32) (a3 : Int32) (a4 : Int32) (M : sy_M) : sy_run skX12 qX12_figures [(86, .goto (-68), 3, [])] [] [(18, juX12_figures_18 k18)] 2 [] 86 [.ref 121, .int a1, .int a2, .int a3, .int a4] [] M = jfX12_figures_86 k18 a1 a2 a3 a4 M := rfl
theorem jtX12_figures_86 {k18 : Int32 → Int32 → Int32 → Int32 → sy_M → sy_O} (hk18 : ∀ (a1 : Int32) (a2 : Int32) (a3 : Int32) (a4 : Int32) (M : sy_M) (r : xe_R × sy_M), k18 a1 a2 a3 a4 M = some r → sy_E (4) qX12_figures 18 [.ref 121, .int a1, .int a2, .int a3, .int a4] [] M r) : ∀ (a1 : Int32) (a2 : Int32) (a3 : Int32) (a4 : Int32) (M : sy_M) (r : xe_R × sy_M), jfX12_figures_86 k18 a1 a2 a3 a4 M = some r → sy_E (4) qX12_figures 86 [.ref 121, .int a1, .int a2, .int a3, .int a4] [] M r := by
  intro a1 a2 a3 a4 M r h
  exact sy_run_by (d := 3) ((jrX12_figures_86 _ _ _ _ _ M).trans h) hkX12 (by decide +kernel) sy_cs_nil (sy_us_cons (jwX12_figures_18 hk18) sy_us_nil)
def jgX12_figures_18 (k18 : Int32 → Int32 → Int32 → Int32 → sy_M → sy_O) (a1 : Int32) (a2 : Int32) (a3 : Int32) (a4 : Int32) (M : sy_M) : sy_O :=
  if (M 121 11) < (M 121 10) then
    sy_bi (jfX12_letter (M 121 11) M) fun v2 M1 =>
    sy_bi (jfX12_isIn v2 48 57 M1) fun v4 M3 =>
    if v4 = 0 then
      jfX12_figures_89 a1 a2 a3 a4 M3
    else
      if 3 < ((M3 121 11) - a3) then
        jfX12_figures_89 a1 a2 a3 a4 M3
      else
        sy_bi (jfX12_letter (M3 121 11) M3) fun v6 M5 =>
        let v7 := (((10 * a4) + v6) - 48)
        let M8 := sy_upd M5 121 11 ((M5 121 11) + 1)
        jfX12_figures_86 k18 a1 a2 a3 v7 M8
  else
    jfX12_figures_89 a1 a2 a3 a4 M
def jfX12_figures_18 : Nat → Int32 → Int32 → Int32 → Int32 → sy_M → sy_O
  | 0, _, _, _, _, _ => none
  | n + 1, a1, a2, a3, a4, M => jgX12_figures_18 (jfX12_figures_18 n) a1 a2 a3 a4 M
set_option maxRecDepth 100000 in
theorem jrX12_figures_18 (k18 : Int32 → Int32 → Int32 → Int32 → sy_M → sy_O) (a1 : Int32) (a2 : Int32) (a3 : Int32) (a4 : Int32) (M : sy_M) : sy_run skX12 qX12_figures [(18, .aload_n 0, 1, []), (19, .getfield 76, 3, []), (22, .aload_n 0, 1, []), (23, .getfield 79, 3, []), (26, .if_icmp .ge 63, 3, []), (29, .aload_n 0, 1, []), (30, .aload_n 0, 1, []), (31, .getfield 76, 3, []), (34, .invokevirtual 82, 3, []), (37, .bipush 48, 2, []), (39, .bipush 57, 2, []), (41, .invokestatic 48, 3, []), (44, .ifCond .eq 45, 3, []), (47, .aload_n 0, 1, []), (48, .getfield 76, 3, []), (51, .iload_n 3, 1, []), (52, .isub, 1, []), (53, .iconst 3, 1, []), (54, .if_icmp .gt 35, 3, []), (57, .bipush 10, 2, []), (59, .iload 4, 2, []), (61, .imul, 1, []), (62, .aload_n 0, 1, []), (63, .aload_n 0, 1, []), (64, .getfield 76, 3, []), (67, .invokevirtual 82, 3, []), (70, .iadd, 1, []), (71, .bipush 48, 2, []), (73, .isub, 1, []), (74, .istore 4, 2, []), (76, .aload_n 0, 1, []), (77, .dup, 1, []), (78, .getfield 76, 3, []), (81, .iconst 1, 1, []), (82, .iadd, 1, []), (83, .putfield 76, 3, [])] [(200, 0, jcX12_letter), (182, 0, jcX12_isIn)] [(89, juX12_figures_89 (jfX12_figures_89)), (86, juX12_figures_86 (jfX12_figures_86 k18))] 37 [] 18 [.ref 121, .int a1, .int a2, .int a3, .int a4] [] M = jgX12_figures_18 k18 a1 a2 a3 a4 M := rfl
theorem jtX12_figures_18 : ∀ n : Nat, ∀ (a1 : Int32) (a2 : Int32) (a3 : Int32) (a4 : Int32) (M : sy_M) (r : xe_R × sy_M), jfX12_figures_18 n a1 a2 a3 a4 M = some r → sy_E (4) qX12_figures 18 [.ref 121, .int a1, .int a2, .int a3, .int a4] [] M r := by
  intro n
  induction n with
  | zero => intro a1 a2 a3 a4 M r h; exact absurd (show (none : sy_O) = some r from h) (by simp)
  | succ n ih => intro a1 a2 a3 a4 M r h; exact sy_run_by (d := 3) ((jrX12_figures_18 _ _ _ _ _ M).trans h) hkX12 (by decide +kernel) (sy_cs_cons (jeX12_letter.deep (by decide)) (sy_cs_cons (jeX12_isIn.deep (by decide)) sy_cs_nil)) (sy_us_cons (jwX12_figures_89 (jtX12_figures_89)) (sy_us_cons (jwX12_figures_86 (jtX12_figures_86 ih)) sy_us_nil))
def jfX12_figures (a1 : Int32) (a2 : Int32) (M : sy_M) : sy_O :=
  if (M 121 12) = (-1) then
    sy_bi (jfX12_here M) fun v2 M1 =>
    jfX12_figures_18 sy_F a1 a2 v2 0 M1
  else
    sy_ri 0 M
set_option maxRecDepth 100000 in
theorem jrX12_figures (a1 : Int32) (a2 : Int32) (M : sy_M) : sy_run skX12 qX12_figures [(0, .aload_n 0, 1, []), (1, .getfield 25, 3, []), (4, .iconst (-1), 1, []), (5, .if_icmp .eq 5, 3, []), (8, .iconst 0, 1, []), (9, .ireturn, 1, []), (10, .aload_n 0, 1, [true, true, true, false, false]), (11, .invokevirtual 98, 3, []), (14, .istore_n 3, 1, []), (15, .iconst 0, 1, []), (16, .istore 4, 2, [])] [(205, 0, jcX12_here)] [(18, juX12_figures_18 (jfX12_figures_18 sy_F))] 12 [] 0 [.ref 121, .int a1, .int a2, xe_no, xe_no] [] M = jfX12_figures a1 a2 M := rfl
theorem jtX12_figures : ∀ (a1 : Int32) (a2 : Int32) (M : sy_M) (r : xe_R × sy_M), jfX12_figures a1 a2 M = some r → sy_E (4) qX12_figures 0 [.ref 121, .int a1, .int a2, xe_no, xe_no] [] M r := by
  intro a1 a2 M r h
  exact sy_run_by (d := 3) ((jrX12_figures _ _ M).trans h) hkX12 (by decide +kernel) (sy_cs_cons (jeX12_here.deep (by decide)) sy_cs_nil) (sy_us_cons (jwX12_figures_18 (jtX12_figures_18 sy_F)) sy_us_nil)
def jcX12_figures (as : List Value) (M : sy_M) (K : sy_O → sy_O) : sy_O := sy_xc 121 as fun l => sy_xi l fun a1 l => sy_xi l fun a2 l => sy_xn l (K (jfX12_figures a1 a2 M))
theorem jeX12_figures : sy_snd (4) 206 (jcX12_figures) := by
  intro as M K r h
  obtain ⟨l, e, h1⟩ := sy_xc_ok h; subst e
  obtain ⟨a1, l, e, h2⟩ := sy_xi_ok h1; subst e
  obtain ⟨a2, l, e, h3⟩ := sy_xi_ok h2; subst e
  obtain ⟨e, h4⟩ := sy_xn_ok h3; subst e
  exact ⟨_, h4, fun r1 h0 => ⟨qX12_figures, rfl, rfl, jtX12_figures _ _ M r1 h0⟩⟩
/-! X12_tells StairMeterModel tells (III)V [('R', 121), 'I', 'I', 'I'] -/
def jfX12_tells (a1 : Int32) (a2 : Int32) (a3 : Int32) (M : sy_M) : sy_O :=
  sy_bi (jfX12_figures a2 a3 M) fun v2 M1 =>
  if (M1 121 12) = (-1) then
    sy_bx (xe_in a1 826) <|
    let M3 := sy_upd M1 122 (Int32.toNatClampNeg a1) v2
    sy_rv M3
  else
    sy_rv M1
set_option maxRecDepth 100000 in
theorem jrX12_tells (a1 : Int32) (a2 : Int32) (a3 : Int32) (M : sy_M) : sy_run skX12 qX12_tells [(0, .aload_n 0, 1, []), (1, .iload_n 2, 1, []), (2, .iload_n 3, 1, []), (3, .invokevirtual 109, 3, []), (6, .istore 4, 2, []), (8, .aload_n 0, 1, []), (9, .getfield 25, 3, []), (12, .iconst (-1), 1, []), (13, .if_icmp .ne 11, 3, []), (16, .aload_n 0, 1, []), (17, .getfield 7, 3, []), (20, .iload_n 1, 1, []), (21, .iload 4, 2, []), (23, .iastore, 1, []), (24, .return_, 1, [false, false, false, false, false])] [(206, 0, jcX12_figures)] [] 16 [] 0 [.ref 121, .int a1, .int a2, .int a3, xe_no] [] M = jfX12_tells a1 a2 a3 M := rfl
theorem jtX12_tells : ∀ (a1 : Int32) (a2 : Int32) (a3 : Int32) (M : sy_M) (r : xe_R × sy_M), jfX12_tells a1 a2 a3 M = some r → sy_E (5) qX12_tells 0 [.ref 121, .int a1, .int a2, .int a3, xe_no] [] M r := by
  intro a1 a2 a3 M r h
  exact sy_run_by (d := 4) ((jrX12_tells _ _ _ M).trans h) hkX12 (by decide +kernel) (sy_cs_cons (jeX12_figures.deep (by decide)) sy_cs_nil) sy_us_nil
def jcX12_tells (as : List Value) (M : sy_M) (K : sy_O → sy_O) : sy_O := sy_xc 121 as fun l => sy_xi l fun a1 l => sy_xi l fun a2 l => sy_xi l fun a3 l => sy_xn l (K (jfX12_tells a1 a2 a3 M))
theorem jeX12_tells : sy_snd (5) 211 (jcX12_tells) := by
  intro as M K r h
  obtain ⟨l, e, h1⟩ := sy_xc_ok h; subst e
  obtain ⟨a1, l, e, h2⟩ := sy_xi_ok h1; subst e
  obtain ⟨a2, l, e, h3⟩ := sy_xi_ok h2; subst e
  obtain ⟨a3, l, e, h4⟩ := sy_xi_ok h3; subst e
  obtain ⟨e, h5⟩ := sy_xn_ok h4; subst e
  exact ⟨_, h5, fun r1 h0 => ⟨qX12_tells, rfl, rfl, jtX12_tells _ _ _ M r1 h0⟩⟩
/-! X12_owesLine StairMeterModel owesLine ()V [('R', 121)] -/
def juX12_owesLine_51 (k : Int32 → Int32 → sy_M → sy_O) (ls st : List Value) (M : sy_M) : sy_O := sy_xc 121 ls fun l => sy_xi l fun a1 l => sy_xv l fun _ l => sy_xi l fun a3 l => sy_xv l fun _ l => sy_xn l (sy_xn st (k a1 a3 M))
theorem jwX12_owesLine_51 {d : Nat} {k : Int32 → Int32 → sy_M → sy_O} (hk : ∀ (w2 : Value) (w4 : Value) (a1 : Int32) (a3 : Int32) (M : sy_M) (r : xe_R × sy_M), k a1 a3 M = some r → sy_E (d) qX12_owesLine 51 [.ref 121, .int a1, w2, .int a3, w4] [] M r) : ∀ ls st M r, juX12_owesLine_51 k ls st M = some r → sy_E d qX12_owesLine 51 ls st M r := by
  intro ls st M r h
  obtain ⟨l, e, h1⟩ := sy_xc_ok h; subst e
  obtain ⟨a1, l, e, h2⟩ := sy_xi_ok h1; subst e
  obtain ⟨w2, l, e, h3⟩ := sy_xv_ok h2; subst e
  obtain ⟨a3, l, e, h4⟩ := sy_xi_ok h3; subst e
  obtain ⟨w4, l, e, h5⟩ := sy_xv_ok h4; subst e
  obtain ⟨e, h6⟩ := sy_xn_ok h5; subst e
  obtain ⟨e, h7⟩ := sy_xn_ok h6; subst e
  exact hk _ _ a1 a3 M r h7
def jfX12_owesLine_51 (a1 : Int32) (a3 : Int32) (M : sy_M) : sy_O :=
  sy_bi (jfX12_figures 0 99 M) fun v2 M1 =>
  if (M1 121 12) = (-1) then
    sy_bx (xe_in ((77 + (7 * a1)) + a3) 826) <|
    let M3 := sy_upd M1 122 (Int32.toNatClampNeg ((77 + (7 * a1)) + a3)) v2
    sy_rv M3
  else
    sy_rv M1
set_option maxRecDepth 100000 in
theorem jrX12_owesLine_51 (w2 : Value) (w4 : Value) (a1 : Int32) (a3 : Int32) (M : sy_M) : sy_run skX12 qX12_owesLine [(51, .aload_n 0, 1, [true, true, false, true, false]), (52, .iconst 0, 1, []), (53, .bipush 99, 2, []), (55, .invokevirtual 109, 3, []), (58, .istore 4, 2, []), (60, .aload_n 0, 1, []), (61, .getfield 25, 3, []), (64, .iconst (-1), 1, []), (65, .if_icmp .ne 19, 3, []), (68, .aload_n 0, 1, []), (69, .getfield 7, 3, []), (72, .bipush 77, 2, []), (74, .bipush 7, 2, []), (76, .iload_n 1, 1, []), (77, .imul, 1, []), (78, .iadd, 1, []), (79, .iload_n 3, 1, []), (80, .iadd, 1, []), (81, .iload 4, 2, []), (83, .iastore, 1, []), (84, .return_, 1, [false, false, false, false, false])] [(206, 0, jcX12_figures)] [] 22 [] 51 [.ref 121, .int a1, w2, .int a3, w4] [] M = jfX12_owesLine_51 a1 a3 M := rfl
theorem jtX12_owesLine_51 : ∀ (w2 : Value) (w4 : Value) (a1 : Int32) (a3 : Int32) (M : sy_M) (r : xe_R × sy_M), jfX12_owesLine_51 a1 a3 M = some r → sy_E (5) qX12_owesLine 51 [.ref 121, .int a1, w2, .int a3, w4] [] M r := by
  intro w2 w4 a1 a3 M r h
  exact sy_run_by (d := 4) ((jrX12_owesLine_51 _ _ _ _ M).trans h) hkX12 (by decide +kernel) (sy_cs_cons (jeX12_figures.deep (by decide)) sy_cs_nil) sy_us_nil
def jfX12_owesLine (M : sy_M) : sy_O :=
  sy_bi (jfX12_figures 0 ((M 122 3) - 1) M) fun v2 M1 =>
  sy_bi (jfX12_here M1) fun v4 M3 =>
  sy_bi (jfX12_figures 0 ((M3 122 3) - 1) M3) fun v6 M5 =>
  if (M5 121 12) = (-1) then
    if v6 = v2 then
      sy_bv (jfX12_wrong v4 M5) fun M7 =>
      jfX12_owesLine_51 v2 v6 M7
    else
      jfX12_owesLine_51 v2 v6 M5
  else
    jfX12_owesLine_51 v2 v6 M5
set_option maxRecDepth 100000 in
theorem jrX12_owesLine (M : sy_M) : sy_run skX12 qX12_owesLine [(0, .aload_n 0, 1, []), (1, .iconst 0, 1, []), (2, .aload_n 0, 1, []), (3, .getfield 7, 3, []), (6, .iconst 3, 1, []), (7, .iaload, 1, []), (8, .iconst 1, 1, []), (9, .isub, 1, []), (10, .invokevirtual 109, 3, []), (13, .istore_n 1, 1, []), (14, .aload_n 0, 1, []), (15, .invokevirtual 98, 3, []), (18, .istore_n 2, 1, []), (19, .aload_n 0, 1, []), (20, .iconst 0, 1, []), (21, .aload_n 0, 1, []), (22, .getfield 7, 3, []), (25, .iconst 3, 1, []), (26, .iaload, 1, []), (27, .iconst 1, 1, []), (28, .isub, 1, []), (29, .invokevirtual 109, 3, []), (32, .istore_n 3, 1, []), (33, .aload_n 0, 1, []), (34, .getfield 25, 3, []), (37, .iconst (-1), 1, []), (38, .if_icmp .ne 13, 3, []), (41, .iload_n 3, 1, []), (42, .iload_n 1, 1, []), (43, .if_icmp .ne 8, 3, []), (46, .aload_n 0, 1, []), (47, .iload_n 2, 1, []), (48, .invokevirtual 101, 3, [])] [(206, 0, jcX12_figures), (205, 0, jcX12_here), (204, 1, jcX12_wrong)] [(51, juX12_owesLine_51 (jfX12_owesLine_51))] 34 [] 0 [.ref 121, xe_no, xe_no, xe_no, xe_no] [] M = jfX12_owesLine M := rfl
theorem jtX12_owesLine : ∀ (M : sy_M) (r : xe_R × sy_M), jfX12_owesLine M = some r → sy_E (5) qX12_owesLine 0 [.ref 121, xe_no, xe_no, xe_no, xe_no] [] M r := by
  intro  M r h
  exact sy_run_by (d := 4) ((jrX12_owesLine M).trans h) hkX12 (by decide +kernel) (sy_cs_cons (jeX12_figures.deep (by decide)) (sy_cs_cons (jeX12_here.deep (by decide)) (sy_cs_cons (jeX12_wrong.deep (by decide)) sy_cs_nil))) (sy_us_cons (jwX12_owesLine_51 (jtX12_owesLine_51)) sy_us_nil)
def jcX12_owesLine (as : List Value) (M : sy_M) (K : sy_O → sy_O) : sy_O := sy_xc 121 as fun l => sy_xn l (K (jfX12_owesLine M))
theorem jeX12_owesLine : sy_snd (5) 210 (jcX12_owesLine) := by
  intro as M K r h
  obtain ⟨l, e, h1⟩ := sy_xc_ok h; subst e
  obtain ⟨e, h2⟩ := sy_xn_ok h1; subst e
  exact ⟨_, h2, fun r1 h0 => ⟨qX12_owesLine, rfl, rfl, jtX12_owesLine  M r1 h0⟩⟩
/-! X12_behind StairMeterModel behind (Ljava/lang/String;II)I [('R', 121), 'A', 'I', 'I'] -/
def juX12_behind_24 (k : Int32 → Int32 → sy_M → sy_O) (ls st : List Value) (M : sy_M) : sy_O := sy_xc 121 ls fun l => sy_xv l fun _ l => sy_xi l fun a2 l => sy_xi l fun a3 l => sy_xn l (sy_xn st (k a2 a3 M))
theorem jwX12_behind_24 {d : Nat} {k : Int32 → Int32 → sy_M → sy_O} (hk : ∀ (w1 : Value) (a2 : Int32) (a3 : Int32) (M : sy_M) (r : xe_R × sy_M), k a2 a3 M = some r → sy_E (d) qX12_behind 24 [.ref 121, w1, .int a2, .int a3] [] M r) : ∀ ls st M r, juX12_behind_24 k ls st M = some r → sy_E d qX12_behind 24 ls st M r := by
  intro ls st M r h
  obtain ⟨l, e, h1⟩ := sy_xc_ok h; subst e
  obtain ⟨w1, l, e, h2⟩ := sy_xv_ok h1; subst e
  obtain ⟨a2, l, e, h3⟩ := sy_xi_ok h2; subst e
  obtain ⟨a3, l, e, h4⟩ := sy_xi_ok h3; subst e
  obtain ⟨e, h5⟩ := sy_xn_ok h4; subst e
  obtain ⟨e, h6⟩ := sy_xn_ok h5; subst e
  exact hk _ a2 a3 M r h6
def jfX12_behind_24 (a2 : Int32) (a3 : Int32) (M : sy_M) : sy_O :=
  sy_bi (jfX12_figures a2 a3 M) fun v2 M1 =>
  sy_ri v2 M1
set_option maxRecDepth 100000 in
theorem jrX12_behind_24 (w1 : Value) (a2 : Int32) (a3 : Int32) (M : sy_M) : sy_run skX12 qX12_behind [(24, .aload_n 0, 1, [true, false, true, true]), (25, .iload_n 2, 1, []), (26, .iload_n 3, 1, []), (27, .invokevirtual 109, 3, []), (30, .ireturn, 1, [])] [(206, 0, jcX12_figures)] [] 6 [] 24 [.ref 121, w1, .int a2, .int a3] [] M = jfX12_behind_24 a2 a3 M := rfl
theorem jtX12_behind_24 : ∀ (w1 : Value) (a2 : Int32) (a3 : Int32) (M : sy_M) (r : xe_R × sy_M), jfX12_behind_24 a2 a3 M = some r → sy_E (5) qX12_behind 24 [.ref 121, w1, .int a2, .int a3] [] M r := by
  intro w1 a2 a3 M r h
  exact sy_run_by (d := 4) ((jrX12_behind_24 _ _ _ M).trans h) hkX12 (by decide +kernel) (sy_cs_cons (jeX12_figures.deep (by decide)) sy_cs_nil) sy_us_nil
def jfX12_behind (r1 : Nat) (a2 : Int32) (a3 : Int32) (M : sy_M) : sy_O :=
  if (M 121 12) = (-1) then
    sy_bi (jfX12_has r1 M) fun v2 M1 =>
    if v2 = 0 then
      sy_bv (jfX12_wrong (M1 121 11) M1) fun M3 =>
      jfX12_behind_24 a2 a3 M3
    else
      jfX12_behind_24 a2 a3 M1
  else
    jfX12_behind_24 a2 a3 M
set_option maxRecDepth 100000 in
theorem jrX12_behind (r1 : Nat) (a2 : Int32) (a3 : Int32) (M : sy_M) : sy_run skX12 qX12_behind [(0, .aload_n 0, 1, []), (1, .getfield 25, 3, []), (4, .iconst (-1), 1, []), (5, .if_icmp .ne 19, 3, []), (8, .aload_n 0, 1, []), (9, .aload_n 1, 1, []), (10, .invokevirtual 105, 3, []), (13, .ifCond .ne 11, 3, []), (16, .aload_n 0, 1, []), (17, .aload_n 0, 1, []), (18, .getfield 76, 3, []), (21, .invokevirtual 101, 3, [])] [(203, 0, jcX12_has), (204, 1, jcX12_wrong)] [(24, juX12_behind_24 (jfX12_behind_24))] 13 [] 0 [.ref 121, .ref r1, .int a2, .int a3] [] M = jfX12_behind r1 a2 a3 M := rfl
theorem jtX12_behind : ∀ (r1 : Nat) (a2 : Int32) (a3 : Int32) (M : sy_M) (r : xe_R × sy_M), jfX12_behind r1 a2 a3 M = some r → sy_E (5) qX12_behind 0 [.ref 121, .ref r1, .int a2, .int a3] [] M r := by
  intro r1 a2 a3 M r h
  exact sy_run_by (d := 4) ((jrX12_behind _ _ _ M).trans h) hkX12 (by decide +kernel) (sy_cs_cons (jeX12_has.deep (by decide)) (sy_cs_cons (jeX12_wrong.deep (by decide)) sy_cs_nil)) (sy_us_cons (jwX12_behind_24 (jtX12_behind_24)) sy_us_nil)
def jcX12_behind (as : List Value) (M : sy_M) (K : sy_O → sy_O) : sy_O := sy_xc 121 as fun l => sy_xa l fun r1 l => sy_xi l fun a2 l => sy_xi l fun a3 l => sy_xn l (K (jfX12_behind r1 a2 a3 M))
theorem jeX12_behind : sy_snd (5) 207 (jcX12_behind) := by
  intro as M K r h
  obtain ⟨l, e, h1⟩ := sy_xc_ok h; subst e
  obtain ⟨r1, l, e, h2⟩ := sy_xa_ok h1; subst e
  obtain ⟨a2, l, e, h3⟩ := sy_xi_ok h2; subst e
  obtain ⟨a3, l, e, h4⟩ := sy_xi_ok h3; subst e
  obtain ⟨e, h5⟩ := sy_xn_ok h4; subst e
  exact ⟨_, h5, fun r1 h0 => ⟨qX12_behind, rfl, rfl, jtX12_behind _ _ _ M r1 h0⟩⟩
/-! X12_maybe StairMeterModel maybe (Ljava/lang/String;III)I [('R', 121), 'A', 'I', 'I', 'I'] -/
def jfX12_maybe (r1 : Nat) (a2 : Int32) (a3 : Int32) (a4 : Int32) (M : sy_M) : sy_O :=
  if (M 121 12) = (-1) then
    sy_bi (jfX12_has r1 M) fun v2 M1 =>
    if v2 = 0 then
      sy_ri a4 M1
    else
      sy_bi (jfX12_figures a2 a3 M1) fun v4 M3 =>
      sy_ri v4 M3
  else
    sy_ri a4 M
set_option maxRecDepth 100000 in
theorem jrX12_maybe (r1 : Nat) (a2 : Int32) (a3 : Int32) (a4 : Int32) (M : sy_M) : sy_run skX12 qX12_maybe [(0, .aload_n 0, 1, []), (1, .getfield 25, 3, []), (4, .iconst (-1), 1, []), (5, .if_icmp .ne 20, 3, []), (8, .aload_n 0, 1, []), (9, .aload_n 1, 1, []), (10, .invokevirtual 105, 3, []), (13, .ifCond .eq 12, 3, []), (16, .aload_n 0, 1, []), (17, .iload_n 2, 1, []), (18, .iload_n 3, 1, []), (19, .invokevirtual 109, 3, []), (22, .goto 5, 3, []), (25, .iload 4, 2, [false, false, false, false, true]), (27, .ireturn, 1, [false, false, false, false, false])] [(203, 0, jcX12_has), (206, 0, jcX12_figures)] [] 16 [] 0 [.ref 121, .ref r1, .int a2, .int a3, .int a4] [] M = jfX12_maybe r1 a2 a3 a4 M := rfl
theorem jtX12_maybe : ∀ (r1 : Nat) (a2 : Int32) (a3 : Int32) (a4 : Int32) (M : sy_M) (r : xe_R × sy_M), jfX12_maybe r1 a2 a3 a4 M = some r → sy_E (5) qX12_maybe 0 [.ref 121, .ref r1, .int a2, .int a3, .int a4] [] M r := by
  intro r1 a2 a3 a4 M r h
  exact sy_run_by (d := 4) ((jrX12_maybe _ _ _ _ M).trans h) hkX12 (by decide +kernel) (sy_cs_cons (jeX12_has.deep (by decide)) (sy_cs_cons (jeX12_figures.deep (by decide)) sy_cs_nil)) sy_us_nil
def jcX12_maybe (as : List Value) (M : sy_M) (K : sy_O → sy_O) : sy_O := sy_xc 121 as fun l => sy_xa l fun r1 l => sy_xi l fun a2 l => sy_xi l fun a3 l => sy_xi l fun a4 l => sy_xn l (K (jfX12_maybe r1 a2 a3 a4 M))
theorem jeX12_maybe : sy_snd (5) 208 (jcX12_maybe) := by
  intro as M K r h
  obtain ⟨l, e, h1⟩ := sy_xc_ok h; subst e
  obtain ⟨r1, l, e, h2⟩ := sy_xa_ok h1; subst e
  obtain ⟨a2, l, e, h3⟩ := sy_xi_ok h2; subst e
  obtain ⟨a3, l, e, h4⟩ := sy_xi_ok h3; subst e
  obtain ⟨a4, l, e, h5⟩ := sy_xi_ok h4; subst e
  obtain ⟨e, h6⟩ := sy_xn_ok h5; subst e
  exact ⟨_, h6, fun r1 h0 => ⟨qX12_maybe, rfl, rfl, jtX12_maybe _ _ _ _ M r1 h0⟩⟩
/-! X12_lays StairMeterModel lays (III)V [('R', 121), 'I', 'I', 'I'] -/
def jfX12_lays (a1 : Int32) (a2 : Int32) (a3 : Int32) (M : sy_M) : sy_O :=
  sy_bx (xe_in ((14 + (9 * a1)) + a2) 826) <|
  let M1 := sy_upd M 122 (Int32.toNatClampNeg ((14 + (9 * a1)) + a2)) a3
  sy_rv M1
set_option maxRecDepth 100000 in
theorem jrX12_lays (a1 : Int32) (a2 : Int32) (a3 : Int32) (M : sy_M) : sy_run skX12 qX12_lays [(0, .aload_n 0, 1, []), (1, .getfield 7, 3, []), (4, .bipush 14, 2, []), (6, .bipush 9, 2, []), (8, .iload_n 1, 1, []), (9, .imul, 1, []), (10, .iadd, 1, []), (11, .iload_n 2, 1, []), (12, .iadd, 1, []), (13, .iload_n 3, 1, []), (14, .iastore, 1, []), (15, .return_, 1, [])] [] [] 13 [] 0 [.ref 121, .int a1, .int a2, .int a3] [] M = jfX12_lays a1 a2 a3 M := rfl
theorem jtX12_lays : ∀ (a1 : Int32) (a2 : Int32) (a3 : Int32) (M : sy_M) (r : xe_R × sy_M), jfX12_lays a1 a2 a3 M = some r → sy_E (1) qX12_lays 0 [.ref 121, .int a1, .int a2, .int a3] [] M r := by
  intro a1 a2 a3 M r h
  exact sy_run_by (d := 0) ((jrX12_lays _ _ _ M).trans h) hkX12 (by decide +kernel) sy_cs_nil sy_us_nil
def jcX12_lays (as : List Value) (M : sy_M) (K : sy_O → sy_O) : sy_O := sy_xc 121 as fun l => sy_xi l fun a1 l => sy_xi l fun a2 l => sy_xi l fun a3 l => sy_xn l (K (jfX12_lays a1 a2 a3 M))
theorem jeX12_lays : sy_snd (1) 188 (jcX12_lays) := by
  intro as M K r h
  obtain ⟨l, e, h1⟩ := sy_xc_ok h; subst e
  obtain ⟨a1, l, e, h2⟩ := sy_xi_ok h1; subst e
  obtain ⟨a2, l, e, h3⟩ := sy_xi_ok h2; subst e
  obtain ⟨a3, l, e, h4⟩ := sy_xi_ok h3; subst e
  obtain ⟨e, h5⟩ := sy_xn_ok h4; subst e
  exact ⟨_, h5, fun r1 h0 => ⟨qX12_lays, rfl, rfl, jtX12_lays _ _ _ M r1 h0⟩⟩
/-! X12_lodgerLine StairMeterModel lodgerLine (I)V [('R', 121), 'I'] -/
def juX12_lodgerLine_181 (k : Int32 → Int32 → sy_M → sy_O) (ls st : List Value) (M : sy_M) : sy_O := sy_xc 121 ls fun l => sy_xv l fun _ l => sy_xv l fun _ l => sy_xv l fun _ l => sy_xv l fun _ l => sy_xv l fun _ l => sy_xv l fun _ l => sy_xv l fun _ l => sy_xi l fun a8 l => sy_xi l fun a9 l => sy_xn l (sy_xn st (k a8 a9 M))
theorem jwX12_lodgerLine_181 {d : Nat} {k : Int32 → Int32 → sy_M → sy_O} (hk : ∀ (w1 : Value) (w2 : Value) (w3 : Value) (w4 : Value) (w5 : Value) (w6 : Value) (w7 : Value) (a8 : Int32) (a9 : Int32) (M : sy_M) (r : xe_R × sy_M), k a8 a9 M = some r → sy_E (d) qX12_lodgerLine 181 [.ref 121, w1, w2, w3, w4, w5, w6, w7, .int a8, .int a9] [] M r) : ∀ ls st M r, juX12_lodgerLine_181 k ls st M = some r → sy_E d qX12_lodgerLine 181 ls st M r := by
  intro ls st M r h
  obtain ⟨l, e, h1⟩ := sy_xc_ok h; subst e
  obtain ⟨w1, l, e, h2⟩ := sy_xv_ok h1; subst e
  obtain ⟨w2, l, e, h3⟩ := sy_xv_ok h2; subst e
  obtain ⟨w3, l, e, h4⟩ := sy_xv_ok h3; subst e
  obtain ⟨w4, l, e, h5⟩ := sy_xv_ok h4; subst e
  obtain ⟨w5, l, e, h6⟩ := sy_xv_ok h5; subst e
  obtain ⟨w6, l, e, h7⟩ := sy_xv_ok h6; subst e
  obtain ⟨w7, l, e, h8⟩ := sy_xv_ok h7; subst e
  obtain ⟨a8, l, e, h9⟩ := sy_xi_ok h8; subst e
  obtain ⟨a9, l, e, h10⟩ := sy_xi_ok h9; subst e
  obtain ⟨e, h11⟩ := sy_xn_ok h10; subst e
  obtain ⟨e, h12⟩ := sy_xn_ok h11; subst e
  exact hk _ _ _ _ _ _ _ a8 a9 M r h12
def juX12_lodgerLine_151 (k : Int32 → sy_M → sy_O) (ls st : List Value) (M : sy_M) : sy_O := sy_xc 121 ls fun l => sy_xo l fun l => sy_xi l fun w2 l => sy_xi l fun w3 l => sy_xi l fun w4 l => sy_xi l fun w5 l => sy_xi l fun w6 l => sy_xi l fun w7 l => sy_xi l fun a8 l => sy_xo l fun l => sy_xn l (sy_xn st (k a8 M))
theorem jwX12_lodgerLine_151 {d : Nat} {k : Int32 → sy_M → sy_O} (hk : ∀ (w2 : Int32) (w3 : Int32) (w4 : Int32) (w5 : Int32) (w6 : Int32) (w7 : Int32) (a8 : Int32) (M : sy_M) (r : xe_R × sy_M), k a8 M = some r → sy_E (d) qX12_lodgerLine 151 [.ref 121, xe_no, .int w2, .int w3, .int w4, .int w5, .int w6, .int w7, .int a8, xe_no] [] M r) : ∀ ls st M r, juX12_lodgerLine_151 k ls st M = some r → sy_E d qX12_lodgerLine 151 ls st M r := by
  intro ls st M r h
  obtain ⟨l, e, h1⟩ := sy_xc_ok h; subst e
  obtain ⟨l, e, h2⟩ := sy_xo_ok h1; subst e
  obtain ⟨w2, l, e, h3⟩ := sy_xi_ok h2; subst e
  obtain ⟨w3, l, e, h4⟩ := sy_xi_ok h3; subst e
  obtain ⟨w4, l, e, h5⟩ := sy_xi_ok h4; subst e
  obtain ⟨w5, l, e, h6⟩ := sy_xi_ok h5; subst e
  obtain ⟨w6, l, e, h7⟩ := sy_xi_ok h6; subst e
  obtain ⟨w7, l, e, h8⟩ := sy_xi_ok h7; subst e
  obtain ⟨a8, l, e, h9⟩ := sy_xi_ok h8; subst e
  obtain ⟨l, e, h10⟩ := sy_xo_ok h9; subst e
  obtain ⟨e, h11⟩ := sy_xn_ok h10; subst e
  obtain ⟨e, h12⟩ := sy_xn_ok h11; subst e
  exact hk _ _ _ _ _ _ a8 M r h12
def juX12_lodgerLine_82 (k : Int32 → Int32 → Int32 → Int32 → Int32 → Int32 → sy_M → sy_O) (ls st : List Value) (M : sy_M) : sy_O := sy_xc 121 ls fun l => sy_xo l fun l => sy_xi l fun a2 l => sy_xi l fun a3 l => sy_xi l fun a4 l => sy_xi l fun a5 l => sy_xi l fun a6 l => sy_xi l fun a7 l => sy_xo l fun l => sy_xo l fun l => sy_xn l (sy_xn st (k a2 a3 a4 a5 a6 a7 M))
theorem jwX12_lodgerLine_82 {d : Nat} {k : Int32 → Int32 → Int32 → Int32 → Int32 → Int32 → sy_M → sy_O} (hk : ∀ (a2 : Int32) (a3 : Int32) (a4 : Int32) (a5 : Int32) (a6 : Int32) (a7 : Int32) (M : sy_M) (r : xe_R × sy_M), k a2 a3 a4 a5 a6 a7 M = some r → sy_E (d) qX12_lodgerLine 82 [.ref 121, xe_no, .int a2, .int a3, .int a4, .int a5, .int a6, .int a7, xe_no, xe_no] [] M r) : ∀ ls st M r, juX12_lodgerLine_82 k ls st M = some r → sy_E d qX12_lodgerLine 82 ls st M r := by
  intro ls st M r h
  obtain ⟨l, e, h1⟩ := sy_xc_ok h; subst e
  obtain ⟨l, e, h2⟩ := sy_xo_ok h1; subst e
  obtain ⟨a2, l, e, h3⟩ := sy_xi_ok h2; subst e
  obtain ⟨a3, l, e, h4⟩ := sy_xi_ok h3; subst e
  obtain ⟨a4, l, e, h5⟩ := sy_xi_ok h4; subst e
  obtain ⟨a5, l, e, h6⟩ := sy_xi_ok h5; subst e
  obtain ⟨a6, l, e, h7⟩ := sy_xi_ok h6; subst e
  obtain ⟨a7, l, e, h8⟩ := sy_xi_ok h7; subst e
  obtain ⟨l, e, h9⟩ := sy_xo_ok h8; subst e
  obtain ⟨l, e, h10⟩ := sy_xo_ok h9; subst e
  obtain ⟨e, h11⟩ := sy_xn_ok h10; subst e
  obtain ⟨e, h12⟩ := sy_xn_ok h11; subst e
  exact hk a2 a3 a4 a5 a6 a7 M r h12
def juX12_lodgerLine_16 (k : sy_M → sy_O) (ls st : List Value) (M : sy_M) : sy_O := sy_xc 121 ls fun l => sy_xv l fun _ l => sy_xv l fun _ l => sy_xv l fun _ l => sy_xv l fun _ l => sy_xv l fun _ l => sy_xv l fun _ l => sy_xv l fun _ l => sy_xv l fun _ l => sy_xv l fun _ l => sy_xn l (sy_xn st (k M))
theorem jwX12_lodgerLine_16 {d : Nat} {k : sy_M → sy_O} (hk : ∀ (w1 : Value) (w2 : Value) (w3 : Value) (w4 : Value) (w5 : Value) (w6 : Value) (w7 : Value) (w8 : Value) (w9 : Value) (M : sy_M) (r : xe_R × sy_M), k M = some r → sy_E (d) qX12_lodgerLine 16 [.ref 121, w1, w2, w3, w4, w5, w6, w7, w8, w9] [] M r) : ∀ ls st M r, juX12_lodgerLine_16 k ls st M = some r → sy_E d qX12_lodgerLine 16 ls st M r := by
  intro ls st M r h
  obtain ⟨l, e, h1⟩ := sy_xc_ok h; subst e
  obtain ⟨w1, l, e, h2⟩ := sy_xv_ok h1; subst e
  obtain ⟨w2, l, e, h3⟩ := sy_xv_ok h2; subst e
  obtain ⟨w3, l, e, h4⟩ := sy_xv_ok h3; subst e
  obtain ⟨w4, l, e, h5⟩ := sy_xv_ok h4; subst e
  obtain ⟨w5, l, e, h6⟩ := sy_xv_ok h5; subst e
  obtain ⟨w6, l, e, h7⟩ := sy_xv_ok h6; subst e
  obtain ⟨w7, l, e, h8⟩ := sy_xv_ok h7; subst e
  obtain ⟨w8, l, e, h9⟩ := sy_xv_ok h8; subst e
  obtain ⟨w9, l, e, h10⟩ := sy_xv_ok h9; subst e
  obtain ⟨e, h11⟩ := sy_xn_ok h10; subst e
  obtain ⟨e, h12⟩ := sy_xn_ok h11; subst e
  exact hk _ _ _ _ _ _ _ _ _ M r h12
def jgX12_lodgerLine_181 (k181 : Int32 → Int32 → sy_M → sy_O) (a8 : Int32) (a9 : Int32) (M : sy_M) : sy_O :=
  if a9 < 7 then
    sy_bx (xe_in ((77 + (7 * a8)) + a9) 826) <|
    let M2 := sy_upd M 122 (Int32.toNatClampNeg ((77 + (7 * a8)) + a9)) 0
    sy_bx (xe_in ((77 + (7 * a9)) + a8) 826) <|
    let M3 := sy_upd M2 122 (Int32.toNatClampNeg ((77 + (7 * a9)) + a8)) 0
    let v4 := a9 + 1
    k181 a8 v4 M3
  else
    let M1 := sy_upd M 122 3 ((M 122 3) + 1)
    sy_rv M1
def jfX12_lodgerLine_181 : Nat → Int32 → Int32 → sy_M → sy_O
  | 0, _, _, _ => none
  | n + 1, a8, a9, M => jgX12_lodgerLine_181 (jfX12_lodgerLine_181 n) a8 a9 M
set_option maxRecDepth 100000 in
theorem jrX12_lodgerLine_181 (k181 : Int32 → Int32 → sy_M → sy_O) (w1 : Value) (w2 : Value) (w3 : Value) (w4 : Value) (w5 : Value) (w6 : Value) (w7 : Value) (a8 : Int32) (a9 : Int32) (M : sy_M) : sy_run skX12 qX12_lodgerLine [(181, .iload 9, 2, [true, false, false, false, false, false, false, false, true, true]), (183, .bipush 7, 2, []), (185, .if_icmp .ge 43, 3, []), (188, .aload_n 0, 1, []), (189, .getfield 7, 3, []), (192, .bipush 77, 2, []), (194, .bipush 7, 2, []), (196, .iload 8, 2, []), (198, .imul, 1, []), (199, .iadd, 1, []), (200, .iload 9, 2, []), (202, .iadd, 1, []), (203, .iconst 0, 1, []), (204, .iastore, 1, []), (205, .aload_n 0, 1, []), (206, .getfield 7, 3, []), (209, .bipush 77, 2, []), (211, .bipush 7, 2, []), (213, .iload 9, 2, []), (215, .imul, 1, []), (216, .iadd, 1, []), (217, .iload 8, 2, []), (219, .iadd, 1, []), (220, .iconst 0, 1, []), (221, .iastore, 1, []), (222, .iinc 9 1, 3, []), (225, .goto (-44), 3, []), (228, .aload_n 0, 1, [true, false, false, false, false, false, false, false, false, false]), (229, .getfield 7, 3, []), (232, .iconst 3, 1, []), (233, .dup2, 1, []), (234, .iaload, 1, []), (235, .iconst 1, 1, []), (236, .iadd, 1, []), (237, .iastore, 1, []), (238, .return_, 1, [])] [] [(181, juX12_lodgerLine_181 k181)] 37 [] 181 [.ref 121, w1, w2, w3, w4, w5, w6, w7, .int a8, .int a9] [] M = jgX12_lodgerLine_181 k181 a8 a9 M := rfl
theorem jtX12_lodgerLine_181 : ∀ n : Nat, ∀ (w1 : Value) (w2 : Value) (w3 : Value) (w4 : Value) (w5 : Value) (w6 : Value) (w7 : Value) (a8 : Int32) (a9 : Int32) (M : sy_M) (r : xe_R × sy_M), jfX12_lodgerLine_181 n a8 a9 M = some r → sy_E (6) qX12_lodgerLine 181 [.ref 121, w1, w2, w3, w4, w5, w6, w7, .int a8, .int a9] [] M r := by
  intro n
  induction n with
  | zero => intro w1 w2 w3 w4 w5 w6 w7 a8 a9 M r h; exact absurd (show (none : sy_O) = some r from h) (by simp)
  | succ n ih => intro w1 w2 w3 w4 w5 w6 w7 a8 a9 M r h; exact sy_run_by (d := 5) ((jrX12_lodgerLine_181 _ _ _ _ _ _ _ _ _ _ M).trans h) hkX12 (by decide +kernel) sy_cs_nil (sy_us_cons (jwX12_lodgerLine_181 ih) sy_us_nil)
def jfX12_lodgerLine_151 (a8 : Int32) (M : sy_M) : sy_O :=
  sy_bv (jfX12_lays a8 6 0 M) fun M1 =>
  sy_bv (jfX12_lays a8 7 0 M1) fun M2 =>
  sy_bv (jfX12_lays a8 8 0 M2) fun M3 =>
  jfX12_lodgerLine_181 sy_F a8 0 M3
set_option maxRecDepth 100000 in
theorem jrX12_lodgerLine_151 (w2 : Int32) (w3 : Int32) (w4 : Int32) (w5 : Int32) (w6 : Int32) (w7 : Int32) (a8 : Int32) (M : sy_M) : sy_run skX12 qX12_lodgerLine [(151, .aload_n 0, 1, []), (152, .iload 8, 2, []), (154, .bipush 6, 2, []), (156, .iconst 0, 1, []), (157, .invokevirtual 132, 3, []), (160, .aload_n 0, 1, []), (161, .iload 8, 2, []), (163, .bipush 7, 2, []), (165, .iconst 0, 1, []), (166, .invokevirtual 132, 3, []), (169, .aload_n 0, 1, []), (170, .iload 8, 2, []), (172, .bipush 8, 2, []), (174, .iconst 0, 1, []), (175, .invokevirtual 132, 3, []), (178, .iconst 0, 1, []), (179, .istore 9, 2, [])] [(188, 1, jcX12_lays)] [(181, juX12_lodgerLine_181 (jfX12_lodgerLine_181 sy_F))] 18 [] 151 [.ref 121, xe_no, .int w2, .int w3, .int w4, .int w5, .int w6, .int w7, .int a8, xe_no] [] M = jfX12_lodgerLine_151 a8 M := rfl
theorem jtX12_lodgerLine_151 : ∀ (w2 : Int32) (w3 : Int32) (w4 : Int32) (w5 : Int32) (w6 : Int32) (w7 : Int32) (a8 : Int32) (M : sy_M) (r : xe_R × sy_M), jfX12_lodgerLine_151 a8 M = some r → sy_E (6) qX12_lodgerLine 151 [.ref 121, xe_no, .int w2, .int w3, .int w4, .int w5, .int w6, .int w7, .int a8, xe_no] [] M r := by
  intro w2 w3 w4 w5 w6 w7 a8 M r h
  exact sy_run_by (d := 5) ((jrX12_lodgerLine_151 _ _ _ _ _ _ _ M).trans h) hkX12 (by decide +kernel) (sy_cs_cons (jeX12_lays.deep (by decide)) sy_cs_nil) (sy_us_cons (jwX12_lodgerLine_181 (jtX12_lodgerLine_181 sy_F)) sy_us_nil)
def jfX12_lodgerLine_82 (a2 : Int32) (a3 : Int32) (a4 : Int32) (a5 : Int32) (a6 : Int32) (a7 : Int32) (M : sy_M) : sy_O :=
  if (M 121 12) = (-1) then
    let v1 := (M 122 3)
    sy_bv (jfX12_lays v1 0 a2 M) fun M2 =>
    sy_bv (jfX12_lays v1 1 a3 M2) fun M3 =>
    sy_bv (jfX12_lays v1 2 a4 M3) fun M4 =>
    sy_bv (jfX12_lays v1 3 a6 M4) fun M5 =>
    sy_bv (jfX12_lays v1 4 a7 M5) fun M6 =>
    sy_bv (jfX12_lays v1 5 a5 M6) fun M7 =>
    jfX12_lodgerLine_151 v1 M7
  else
    sy_rv M
set_option maxRecDepth 100000 in
theorem jrX12_lodgerLine_82 (a2 : Int32) (a3 : Int32) (a4 : Int32) (a5 : Int32) (a6 : Int32) (a7 : Int32) (M : sy_M) : sy_run skX12 qX12_lodgerLine [(82, .aload_n 0, 1, []), (83, .getfield 25, 3, []), (86, .iconst (-1), 1, []), (87, .if_icmp .eq 4, 3, []), (90, .return_, 1, []), (91, .aload_n 0, 1, [true, false, true, true, true, true, true, true, false, false]), (92, .getfield 7, 3, []), (95, .iconst 3, 1, []), (96, .iaload, 1, []), (97, .istore 8, 2, []), (99, .aload_n 0, 1, []), (100, .iload 8, 2, []), (102, .iconst 0, 1, []), (103, .iload_n 2, 1, []), (104, .invokevirtual 132, 3, []), (107, .aload_n 0, 1, []), (108, .iload 8, 2, []), (110, .iconst 1, 1, []), (111, .iload_n 3, 1, []), (112, .invokevirtual 132, 3, []), (115, .aload_n 0, 1, []), (116, .iload 8, 2, []), (118, .iconst 2, 1, []), (119, .iload 4, 2, []), (121, .invokevirtual 132, 3, []), (124, .aload_n 0, 1, []), (125, .iload 8, 2, []), (127, .iconst 3, 1, []), (128, .iload 6, 2, []), (130, .invokevirtual 132, 3, []), (133, .aload_n 0, 1, []), (134, .iload 8, 2, []), (136, .iconst 4, 1, []), (137, .iload 7, 2, []), (139, .invokevirtual 132, 3, []), (142, .aload_n 0, 1, []), (143, .iload 8, 2, []), (145, .iconst 5, 1, []), (146, .iload 5, 2, []), (148, .invokevirtual 132, 3, [])] [(188, 1, jcX12_lays)] [(151, juX12_lodgerLine_151 (jfX12_lodgerLine_151))] 41 [] 82 [.ref 121, xe_no, .int a2, .int a3, .int a4, .int a5, .int a6, .int a7, xe_no, xe_no] [] M = jfX12_lodgerLine_82 a2 a3 a4 a5 a6 a7 M := rfl
theorem jtX12_lodgerLine_82 : ∀ (a2 : Int32) (a3 : Int32) (a4 : Int32) (a5 : Int32) (a6 : Int32) (a7 : Int32) (M : sy_M) (r : xe_R × sy_M), jfX12_lodgerLine_82 a2 a3 a4 a5 a6 a7 M = some r → sy_E (6) qX12_lodgerLine 82 [.ref 121, xe_no, .int a2, .int a3, .int a4, .int a5, .int a6, .int a7, xe_no, xe_no] [] M r := by
  intro a2 a3 a4 a5 a6 a7 M r h
  exact sy_run_by (d := 5) ((jrX12_lodgerLine_82 _ _ _ _ _ _ M).trans h) hkX12 (by decide +kernel) (sy_cs_cons (jeX12_lays.deep (by decide)) sy_cs_nil) (sy_us_cons (jwX12_lodgerLine_151 (jtX12_lodgerLine_151)) sy_us_nil)
def jfX12_lodgerLine_16 (M : sy_M) : sy_O :=
  sy_bi (jfX12_behind 1500009 1 9 M) fun v2 M1 =>
  sy_bi (jfX12_behind 1500017 0 47 M1) fun v4 M3 =>
  sy_bi (jfX12_behind 1500018 0 47 M3) fun v6 M5 =>
  sy_bi (jfX12_behind 1500010 0 99 M5) fun v8 M7 =>
  sy_bi (jfX12_maybe 1500019 0 20 3 M7) fun v10 M9 =>
  sy_bi (jfX12_maybe 1500020 0 20 2 M9) fun v12 M11 =>
  jfX12_lodgerLine_82 v2 v4 v6 v8 v10 v12 M11
set_option maxRecDepth 100000 in
theorem jrX12_lodgerLine_16 (w1 : Value) (w2 : Value) (w3 : Value) (w4 : Value) (w5 : Value) (w6 : Value) (w7 : Value) (w8 : Value) (w9 : Value) (M : sy_M) : sy_run skX12 qX12_lodgerLine [(16, .aload_n 0, 1, [true, false, false, false, false, false, false, false, false, false]), (17, .ldc 112, 2, []), (19, .iconst 1, 1, []), (20, .bipush 9, 2, []), (22, .invokevirtual 114, 3, []), (25, .istore_n 2, 1, []), (26, .aload_n 0, 1, []), (27, .ldc 118, 2, []), (29, .iconst 0, 1, []), (30, .bipush 47, 2, []), (32, .invokevirtual 114, 3, []), (35, .istore_n 3, 1, []), (36, .aload_n 0, 1, []), (37, .ldc 120, 2, []), (39, .iconst 0, 1, []), (40, .bipush 47, 2, []), (42, .invokevirtual 114, 3, []), (45, .istore 4, 2, []), (47, .aload_n 0, 1, []), (48, .ldc 122, 2, []), (50, .iconst 0, 1, []), (51, .bipush 99, 2, []), (53, .invokevirtual 114, 3, []), (56, .istore 5, 2, []), (58, .aload_n 0, 1, []), (59, .ldc 124, 2, []), (61, .iconst 0, 1, []), (62, .bipush 20, 2, []), (64, .iconst 3, 1, []), (65, .invokevirtual 126, 3, []), (68, .istore 6, 2, []), (70, .aload_n 0, 1, []), (71, .ldc 130, 2, []), (73, .iconst 0, 1, []), (74, .bipush 20, 2, []), (76, .iconst 2, 1, []), (77, .invokevirtual 126, 3, []), (80, .istore 7, 2, [])] [(207, 0, jcX12_behind), (208, 0, jcX12_maybe)] [(82, juX12_lodgerLine_82 (jfX12_lodgerLine_82))] 39 [] 16 [.ref 121, w1, w2, w3, w4, w5, w6, w7, w8, w9] [] M = jfX12_lodgerLine_16 M := rfl
theorem jtX12_lodgerLine_16 : ∀ (w1 : Value) (w2 : Value) (w3 : Value) (w4 : Value) (w5 : Value) (w6 : Value) (w7 : Value) (w8 : Value) (w9 : Value) (M : sy_M) (r : xe_R × sy_M), jfX12_lodgerLine_16 M = some r → sy_E (6) qX12_lodgerLine 16 [.ref 121, w1, w2, w3, w4, w5, w6, w7, w8, w9] [] M r := by
  intro w1 w2 w3 w4 w5 w6 w7 w8 w9 M r h
  exact sy_run_by (d := 5) ((jrX12_lodgerLine_16 _ _ _ _ _ _ _ _ _ M).trans h) hkX12 (by decide +kernel) (sy_cs_cons (jeX12_behind.deep (by decide)) (sy_cs_cons (jeX12_maybe.deep (by decide)) sy_cs_nil)) (sy_us_cons (jwX12_lodgerLine_82 (jtX12_lodgerLine_82)) sy_us_nil)
def jfX12_lodgerLine (a1 : Int32) (M : sy_M) : sy_O :=
  if (M 122 3) = 7 then
    sy_bv (jfX12_wrong a1 M) fun M1 =>
    jfX12_lodgerLine_16 M1
  else
    jfX12_lodgerLine_16 M
set_option maxRecDepth 100000 in
theorem jrX12_lodgerLine (a1 : Int32) (M : sy_M) : sy_run skX12 qX12_lodgerLine [(0, .aload_n 0, 1, []), (1, .getfield 7, 3, []), (4, .iconst 3, 1, []), (5, .iaload, 1, []), (6, .bipush 7, 2, []), (8, .if_icmp .ne 8, 3, []), (11, .aload_n 0, 1, []), (12, .iload_n 1, 1, []), (13, .invokevirtual 101, 3, [])] [(204, 1, jcX12_wrong)] [(16, juX12_lodgerLine_16 (jfX12_lodgerLine_16))] 10 [] 0 [.ref 121, .int a1, xe_no, xe_no, xe_no, xe_no, xe_no, xe_no, xe_no, xe_no] [] M = jfX12_lodgerLine a1 M := rfl
theorem jtX12_lodgerLine : ∀ (a1 : Int32) (M : sy_M) (r : xe_R × sy_M), jfX12_lodgerLine a1 M = some r → sy_E (6) qX12_lodgerLine 0 [.ref 121, .int a1, xe_no, xe_no, xe_no, xe_no, xe_no, xe_no, xe_no, xe_no] [] M r := by
  intro a1 M r h
  exact sy_run_by (d := 5) ((jrX12_lodgerLine _ M).trans h) hkX12 (by decide +kernel) (sy_cs_cons (jeX12_wrong.deep (by decide)) sy_cs_nil) (sy_us_cons (jwX12_lodgerLine_16 (jtX12_lodgerLine_16)) sy_us_nil)
def jcX12_lodgerLine (as : List Value) (M : sy_M) (K : sy_O → sy_O) : sy_O := sy_xc 121 as fun l => sy_xi l fun a1 l => sy_xn l (K (jfX12_lodgerLine a1 M))
theorem jeX12_lodgerLine : sy_snd (6) 209 (jcX12_lodgerLine) := by
  intro as M K r h
  obtain ⟨l, e, h1⟩ := sy_xc_ok h; subst e
  obtain ⟨a1, l, e, h2⟩ := sy_xi_ok h1; subst e
  obtain ⟨e, h3⟩ := sy_xn_ok h2; subst e
  exact ⟨_, h3, fun r1 h0 => ⟨qX12_lodgerLine, rfl, rfl, jtX12_lodgerLine _ M r1 h0⟩⟩
/-! X12_houseLine StairMeterModel houseLine ()V [('R', 121)] -/
def juX12_houseLine_140 (k : sy_M → sy_O) (ls st : List Value) (M : sy_M) : sy_O := sy_xc 121 ls fun l => sy_xo l fun l => sy_xn l (sy_xn st (k M))
theorem jwX12_houseLine_140 {d : Nat} {k : sy_M → sy_O} (hk : ∀ (M : sy_M) (r : xe_R × sy_M), k M = some r → sy_E (d) qX12_houseLine 140 [.ref 121, xe_no] [] M r) : ∀ ls st M r, juX12_houseLine_140 k ls st M = some r → sy_E d qX12_houseLine 140 ls st M r := by
  intro ls st M r h
  obtain ⟨l, e, h1⟩ := sy_xc_ok h; subst e
  obtain ⟨l, e, h2⟩ := sy_xo_ok h1; subst e
  obtain ⟨e, h3⟩ := sy_xn_ok h2; subst e
  obtain ⟨e, h4⟩ := sy_xn_ok h3; subst e
  exact hk  M r h4
def jfX12_houseLine_140 (M : sy_M) : sy_O :=
  sy_rv M
set_option maxRecDepth 100000 in
theorem jrX12_houseLine_140 (M : sy_M) : sy_run skX12 qX12_houseLine [(140, .goto 11, 3, []), (151, .return_, 1, [false, false])] [] [] 3 [] 140 [.ref 121, xe_no] [] M = jfX12_houseLine_140 M := rfl
theorem jtX12_houseLine_140 : ∀ (M : sy_M) (r : xe_R × sy_M), jfX12_houseLine_140 M = some r → sy_E (7) qX12_houseLine 140 [.ref 121, xe_no] [] M r := by
  intro  M r h
  exact sy_run_by (d := 6) ((jrX12_houseLine_140 M).trans h) hkX12 (by decide +kernel) sy_cs_nil sy_us_nil
def jfX12_houseLine (M : sy_M) : sy_O :=
  sy_bi (jfX12_here M) fun v2 M1 =>
  sy_bi (jfX12_has 1500008 M1) fun v4 M3 =>
  if v4 = 0 then
    sy_bi (jfX12_has 1500021 M3) fun v6 M5 =>
    if v6 = 0 then
      sy_bi (jfX12_has 1500022 M5) fun v8 M7 =>
      if v8 = 0 then
        sy_bi (jfX12_has 1500023 M7) fun v10 M9 =>
        if v10 = 0 then
          sy_bi (jfX12_has 1500024 M9) fun v12 M11 =>
          if v12 = 0 then
            sy_bi (jfX12_has 1500014 M11) fun v14 M13 =>
            if v14 = 0 then
              sy_bi (jfX12_has 1500025 M13) fun v16 M15 =>
              if v16 = 0 then
                sy_bv (jfX12_wrong (M15 121 11) M15) fun M17 =>
                sy_rv M17
              else
                sy_bv (jfX12_tells 5 0 999 M15) fun M18 =>
                jfX12_houseLine_140 M18
            else
              sy_bv (jfX12_tells 4 0 47 M13) fun M19 =>
              sy_rv M19
          else
            sy_bv (jfX12_tells 9 0 100 M11) fun M20 =>
            sy_rv M20
        else
          sy_bv (jfX12_tells 7 1 99 M9) fun M21 =>
          sy_rv M21
      else
        sy_bv (jfX12_tells 6 0 999 M7) fun M22 =>
        sy_rv M22
    else
      sy_bv (jfX12_owesLine M5) fun M23 =>
      sy_rv M23
  else
    sy_bv (jfX12_lodgerLine v2 M3) fun M24 =>
    sy_rv M24
set_option maxRecDepth 100000 in
theorem jrX12_houseLine (M : sy_M) : sy_run skX12 qX12_houseLine [(0, .aload_n 0, 1, []), (1, .invokevirtual 98, 3, []), (4, .istore_n 1, 1, []), (5, .aload_n 0, 1, []), (6, .ldc 136, 2, []), (8, .invokevirtual 105, 3, []), (11, .ifCond .eq 11, 3, []), (14, .aload_n 0, 1, []), (15, .iload_n 1, 1, []), (16, .invokevirtual 138, 3, []), (19, .goto 132, 3, []), (22, .aload_n 0, 1, [true, false]), (23, .ldc 141, 2, []), (25, .invokevirtual 105, 3, []), (28, .ifCond .eq 10, 3, []), (31, .aload_n 0, 1, []), (32, .invokevirtual 143, 3, []), (35, .goto 116, 3, []), (38, .aload_n 0, 1, [true, false]), (39, .ldc 146, 2, []), (41, .invokevirtual 105, 3, []), (44, .ifCond .eq 16, 3, []), (47, .aload_n 0, 1, []), (48, .bipush 6, 2, []), (50, .iconst 0, 1, []), (51, .sipush 999, 3, []), (54, .invokevirtual 148, 3, []), (57, .goto 94, 3, []), (60, .aload_n 0, 1, [true, false]), (61, .ldc 151, 2, []), (63, .invokevirtual 105, 3, []), (66, .ifCond .eq 15, 3, []), (69, .aload_n 0, 1, []), (70, .bipush 7, 2, []), (72, .iconst 1, 1, []), (73, .bipush 99, 2, []), (75, .invokevirtual 148, 3, []), (78, .goto 73, 3, []), (81, .aload_n 0, 1, [true, false]), (82, .ldc 153, 2, []), (84, .invokevirtual 105, 3, []), (87, .ifCond .eq 15, 3, []), (90, .aload_n 0, 1, []), (91, .bipush 9, 2, []), (93, .iconst 0, 1, []), (94, .bipush 100, 2, []), (96, .invokevirtual 148, 3, []), (99, .goto 52, 3, []), (102, .aload_n 0, 1, [true, false]), (103, .ldc 155, 2, []), (105, .invokevirtual 105, 3, []), (108, .ifCond .eq 14, 3, []), (111, .aload_n 0, 1, []), (112, .iconst 4, 1, []), (113, .iconst 0, 1, []), (114, .bipush 47, 2, []), (116, .invokevirtual 148, 3, []), (119, .goto 32, 3, []), (122, .aload_n 0, 1, [true, false]), (123, .ldc 157, 2, []), (125, .invokevirtual 105, 3, []), (128, .ifCond .eq 15, 3, []), (131, .aload_n 0, 1, []), (132, .iconst 5, 1, []), (133, .iconst 0, 1, []), (134, .sipush 999, 3, []), (137, .invokevirtual 148, 3, []), (143, .aload_n 0, 1, [true, false]), (144, .aload_n 0, 1, []), (145, .getfield 76, 3, []), (148, .invokevirtual 101, 3, []), (151, .return_, 1, [false, false])] [(205, 0, jcX12_here), (203, 0, jcX12_has), (204, 1, jcX12_wrong), (211, 1, jcX12_tells), (210, 1, jcX12_owesLine), (209, 1, jcX12_lodgerLine)] [(140, juX12_houseLine_140 (jfX12_houseLine_140))] 73 [] 0 [.ref 121, xe_no] [] M = jfX12_houseLine M := rfl
theorem jtX12_houseLine : ∀ (M : sy_M) (r : xe_R × sy_M), jfX12_houseLine M = some r → sy_E (7) qX12_houseLine 0 [.ref 121, xe_no] [] M r := by
  intro  M r h
  exact sy_run_by (d := 6) ((jrX12_houseLine M).trans h) hkX12 (by decide +kernel) (sy_cs_cons (jeX12_here.deep (by decide)) (sy_cs_cons (jeX12_has.deep (by decide)) (sy_cs_cons (jeX12_wrong.deep (by decide)) (sy_cs_cons (jeX12_tells.deep (by decide)) (sy_cs_cons (jeX12_owesLine.deep (by decide)) (sy_cs_cons (jeX12_lodgerLine.deep (by decide)) sy_cs_nil)))))) (sy_us_cons (jwX12_houseLine_140 (jtX12_houseLine_140)) sy_us_nil)
def jcX12_houseLine (as : List Value) (M : sy_M) (K : sy_O → sy_O) : sy_O := sy_xc 121 as fun l => sy_xn l (K (jfX12_houseLine M))
theorem jeX12_houseLine : sy_snd (7) 212 (jcX12_houseLine) := by
  intro as M K r h
  obtain ⟨l, e, h1⟩ := sy_xc_ok h; subst e
  obtain ⟨e, h2⟩ := sy_xn_ok h1; subst e
  exact ⟨_, h2, fun r1 h0 => ⟨qX12_houseLine, rfl, rfl, jtX12_houseLine  M r1 h0⟩⟩
/-! X12_isSign StairMeterModel isSign (I)Z [('R', 121), 'I'] -/
def jfX12_isSign (a1 : Int32) (M : sy_M) : sy_O :=
  sy_bv (jfX12_skip M) fun M1 =>
  if (M1 121 11) < (M1 121 10) then
    sy_bi (jfX12_letter (M1 121 11) M1) fun v3 M2 =>
    if v3 = a1 then
      sy_ri 1 M2
    else
      sy_ri 0 M2
  else
    sy_ri 0 M1
set_option maxRecDepth 100000 in
theorem jrX12_isSign (a1 : Int32) (M : sy_M) : sy_run skX12 qX12_isSign [(0, .aload_n 0, 1, []), (1, .invokevirtual 85, 3, []), (4, .aload_n 0, 1, []), (5, .getfield 76, 3, []), (8, .aload_n 0, 1, []), (9, .getfield 79, 3, []), (12, .if_icmp .ge 19, 3, []), (15, .aload_n 0, 1, []), (16, .aload_n 0, 1, []), (17, .getfield 76, 3, []), (20, .invokevirtual 82, 3, []), (23, .iload_n 1, 1, []), (24, .if_icmp .ne 7, 3, []), (27, .iconst 1, 1, []), (28, .goto 4, 3, []), (31, .iconst 0, 1, [false, false]), (32, .ireturn, 1, [false, false])] [(201, 1, jcX12_skip), (200, 0, jcX12_letter)] [] 18 [] 0 [.ref 121, .int a1] [] M = jfX12_isSign a1 M := rfl
theorem jtX12_isSign : ∀ (a1 : Int32) (M : sy_M) (r : xe_R × sy_M), jfX12_isSign a1 M = some r → sy_E (3) qX12_isSign 0 [.ref 121, .int a1] [] M r := by
  intro a1 M r h
  exact sy_run_by (d := 2) ((jrX12_isSign _ M).trans h) hkX12 (by decide +kernel) (sy_cs_cons (jeX12_skip.deep (by decide)) (sy_cs_cons (jeX12_letter.deep (by decide)) sy_cs_nil)) sy_us_nil
def jcX12_isSign (as : List Value) (M : sy_M) (K : sy_O → sy_O) : sy_O := sy_xc 121 as fun l => sy_xi l fun a1 l => sy_xn l (K (jfX12_isSign a1 M))
theorem jeX12_isSign : sy_snd (3) 202 (jcX12_isSign) := by
  intro as M K r h
  obtain ⟨l, e, h1⟩ := sy_xc_ok h; subst e
  obtain ⟨a1, l, e, h2⟩ := sy_xi_ok h1; subst e
  obtain ⟨e, h3⟩ := sy_xn_ok h2; subst e
  exact ⟨_, h3, fun r1 h0 => ⟨qX12_isSign, rfl, rfl, jtX12_isSign _ M r1 h0⟩⟩
def chd_A (rc : sy_M → sy_O) (as : List Value) (M : sy_M) (K : sy_O → sy_O) : sy_O := sy_xc 121 as fun l => sy_xn l (K (rc M))
/-! X12_every StairMeterModel every ()Z [('R', 121)] -/
def juX12_every_40 (k : Int32 → sy_M → sy_O) (ls st : List Value) (M : sy_M) : sy_O := sy_xc 121 ls fun l => sy_xv l fun _ l => sy_xv l fun _ l => sy_xn l (sy_xi st fun s0 l => sy_xn l (k s0 M))
theorem jwX12_every_40 {d : Nat} {k : Int32 → sy_M → sy_O} (hk : ∀ (w1 : Value) (w2 : Value) (s0 : Int32) (M : sy_M) (r : xe_R × sy_M), k s0 M = some r → sy_E (d) qX12_every 40 [.ref 121, w1, w2] [.int s0] M r) : ∀ ls st M r, juX12_every_40 k ls st M = some r → sy_E d qX12_every 40 ls st M r := by
  intro ls st M r h
  obtain ⟨l, e, h1⟩ := sy_xc_ok h; subst e
  obtain ⟨w1, l, e, h2⟩ := sy_xv_ok h1; subst e
  obtain ⟨w2, l, e, h3⟩ := sy_xv_ok h2; subst e
  obtain ⟨e, h4⟩ := sy_xn_ok h3; subst e
  obtain ⟨s0, l, e, h5⟩ := sy_xi_ok h4; subst e
  obtain ⟨e, h6⟩ := sy_xn_ok h5; subst e
  exact hk _ _ s0 M r h6
def juX12_every_39 (k : sy_M → sy_O) (ls st : List Value) (M : sy_M) : sy_O := sy_xc 121 ls fun l => sy_xv l fun _ l => sy_xv l fun _ l => sy_xn l (sy_xn st (k M))
theorem jwX12_every_39 {d : Nat} {k : sy_M → sy_O} (hk : ∀ (w1 : Value) (w2 : Value) (M : sy_M) (r : xe_R × sy_M), k M = some r → sy_E (d) qX12_every 39 [.ref 121, w1, w2] [] M r) : ∀ ls st M r, juX12_every_39 k ls st M = some r → sy_E d qX12_every 39 ls st M r := by
  intro ls st M r h
  obtain ⟨l, e, h1⟩ := sy_xc_ok h; subst e
  obtain ⟨w1, l, e, h2⟩ := sy_xv_ok h1; subst e
  obtain ⟨w2, l, e, h3⟩ := sy_xv_ok h2; subst e
  obtain ⟨e, h4⟩ := sy_xn_ok h3; subst e
  obtain ⟨e, h5⟩ := sy_xn_ok h4; subst e
  exact hk _ _ M r h5
def juX12_every_5 (k : Int32 → sy_M → sy_O) (ls st : List Value) (M : sy_M) : sy_O := sy_xc 121 ls fun l => sy_xi l fun a1 l => sy_xv l fun _ l => sy_xn l (sy_xn st (k a1 M))
theorem jwX12_every_5 {d : Nat} {k : Int32 → sy_M → sy_O} (hk : ∀ (w2 : Value) (a1 : Int32) (M : sy_M) (r : xe_R × sy_M), k a1 M = some r → sy_E (d) qX12_every 5 [.ref 121, .int a1, w2] [] M r) : ∀ ls st M r, juX12_every_5 k ls st M = some r → sy_E d qX12_every 5 ls st M r := by
  intro ls st M r h
  obtain ⟨l, e, h1⟩ := sy_xc_ok h; subst e
  obtain ⟨a1, l, e, h2⟩ := sy_xi_ok h1; subst e
  obtain ⟨w2, l, e, h3⟩ := sy_xv_ok h2; subst e
  obtain ⟨e, h4⟩ := sy_xn_ok h3; subst e
  obtain ⟨e, h5⟩ := sy_xn_ok h4; subst e
  exact hk _ a1 M r h5
def jfX12_every_40 (rc : sy_M → sy_O) (k5 : Int32 → sy_M → sy_O) (s0 : Int32) (M : sy_M) : sy_O :=
  k5 s0 M
set_option maxRecDepth 100000 in
theorem jrX12_every_40 (rc : sy_M → sy_O) (k5 : Int32 → sy_M → sy_O) (w1 : Value) (w2 : Value) (s0 : Int32) (M : sy_M) : sy_run skX12 qX12_every [(40, .istore_n 1, 1, [true, false, false]), (41, .goto (-36), 3, [])] [] [(5, juX12_every_5 k5)] 3 [] 40 [.ref 121, w1, w2] [.int s0] M = jfX12_every_40 rc k5 s0 M := rfl
theorem jtX12_every_40 {rc : sy_M → sy_O} {d : Nat} (hd : 7 ≤ d) (hrc : sy_snd d 221 (chd_A rc)) {k5 : Int32 → sy_M → sy_O} (hk5 : ∀ (w2 : Value) (a1 : Int32) (M : sy_M) (r : xe_R × sy_M), k5 a1 M = some r → sy_E (d + 1) qX12_every 5 [.ref 121, .int a1, w2] [] M r) : ∀ (w1 : Value) (w2 : Value) (s0 : Int32) (M : sy_M) (r : xe_R × sy_M), jfX12_every_40 rc k5 s0 M = some r → sy_E (d + 1) qX12_every 40 [.ref 121, w1, w2] [.int s0] M r := by
  intro w1 w2 s0 M r h
  exact sy_run_by (d := d) ((jrX12_every_40 _ _ _ _ _ M).trans h) hkX12 (by decide +kernel) sy_cs_nil (sy_us_cons (jwX12_every_5 hk5) sy_us_nil)
def jfX12_every_39 (rc : sy_M → sy_O) (k5 : Int32 → sy_M → sy_O) (M : sy_M) : sy_O :=
  jfX12_every_40 rc k5 0 M
set_option maxRecDepth 100000 in
theorem jrX12_every_39 (rc : sy_M → sy_O) (k5 : Int32 → sy_M → sy_O) (w1 : Value) (w2 : Value) (M : sy_M) : sy_run skX12 qX12_every [(39, .iconst 0, 1, [true, false, false])] [] [(40, juX12_every_40 (jfX12_every_40 rc k5))] 2 [] 39 [.ref 121, w1, w2] [] M = jfX12_every_39 rc k5 M := rfl
theorem jtX12_every_39 {rc : sy_M → sy_O} {d : Nat} (hd : 7 ≤ d) (hrc : sy_snd d 221 (chd_A rc)) {k5 : Int32 → sy_M → sy_O} (hk5 : ∀ (w2 : Value) (a1 : Int32) (M : sy_M) (r : xe_R × sy_M), k5 a1 M = some r → sy_E (d + 1) qX12_every 5 [.ref 121, .int a1, w2] [] M r) : ∀ (w1 : Value) (w2 : Value) (M : sy_M) (r : xe_R × sy_M), jfX12_every_39 rc k5 M = some r → sy_E (d + 1) qX12_every 39 [.ref 121, w1, w2] [] M r := by
  intro w1 w2 M r h
  exact sy_run_by (d := d) ((jrX12_every_39 _ _ _ _ M).trans h) hkX12 (by decide +kernel) sy_cs_nil (sy_us_cons (jwX12_every_40 (jtX12_every_40 hd hrc hk5)) sy_us_nil)
def jgX12_every_5 (rc : sy_M → sy_O) (k5 : Int32 → sy_M → sy_O) (a1 : Int32) (M : sy_M) : sy_O :=
  if (M 121 12) = (-1) then
    sy_bi (jfX12_has 1500015 M) fun v2 M1 =>
    if v2 = 0 then
      sy_bb (sy_bo a1) <| sy_ri a1 M1
    else
      sy_bi (rc M1) fun v4 M3 =>
      if a1 = 0 then
        jfX12_every_39 rc k5 M3
      else
        if v4 = 0 then
          jfX12_every_39 rc k5 M3
        else
          jfX12_every_40 rc k5 1 M3
  else
    sy_bb (sy_bo a1) <| sy_ri a1 M
def jfX12_every_5 (rc : sy_M → sy_O) : Nat → Int32 → sy_M → sy_O
  | 0, _, _ => none
  | n + 1, a1, M => jgX12_every_5 rc (jfX12_every_5 rc n) a1 M
set_option maxRecDepth 100000 in
theorem jrX12_every_5 (rc : sy_M → sy_O) (k5 : Int32 → sy_M → sy_O) (w2 : Value) (a1 : Int32) (M : sy_M) : sy_run skX12 qX12_every [(5, .aload_n 0, 1, [true, true, false]), (6, .getfield 25, 3, []), (9, .iconst (-1), 1, []), (10, .if_icmp .ne 34, 3, []), (13, .aload_n 0, 1, []), (14, .ldc 223, 2, []), (16, .invokevirtual 105, 3, []), (19, .ifCond .eq 25, 3, []), (22, .aload_n 0, 1, []), (23, .invokevirtual 217, 3, []), (26, .istore_n 2, 1, []), (27, .iload_n 1, 1, []), (28, .ifCond .eq 11, 3, []), (31, .iload_n 2, 1, []), (32, .ifCond .eq 7, 3, []), (35, .iconst 1, 1, []), (36, .goto 4, 3, []), (44, .iload_n 1, 1, [false, true, false]), (45, .ireturn, 1, [])] [(203, 0, jcX12_has), (221, 0, chd_A rc)] [(39, juX12_every_39 (jfX12_every_39 rc k5)), (40, juX12_every_40 (jfX12_every_40 rc k5))] 20 [] 5 [.ref 121, .int a1, w2] [] M = jgX12_every_5 rc k5 a1 M := rfl
theorem jtX12_every_5 {rc : sy_M → sy_O} {d : Nat} (hd : 7 ≤ d) (hrc : sy_snd d 221 (chd_A rc)) : ∀ n : Nat, ∀ (w2 : Value) (a1 : Int32) (M : sy_M) (r : xe_R × sy_M), jfX12_every_5 rc n a1 M = some r → sy_E (d + 1) qX12_every 5 [.ref 121, .int a1, w2] [] M r := by
  intro n
  induction n with
  | zero => intro w2 a1 M r h; exact absurd (show (none : sy_O) = some r from h) (by simp)
  | succ n ih => intro w2 a1 M r h; exact sy_run_by (d := d) ((jrX12_every_5 _ _ _ _ M).trans h) hkX12 (by decide +kernel) (sy_cs_cons (jeX12_has.deep (by omega)) (sy_cs_cons (hrc.deep (by omega)) sy_cs_nil)) (sy_us_cons (jwX12_every_39 (jtX12_every_39 hd hrc ih)) (sy_us_cons (jwX12_every_40 (jtX12_every_40 hd hrc ih)) sy_us_nil))
def jfX12_every (rc : sy_M → sy_O) (M : sy_M) : sy_O :=
  sy_bi (rc M) fun v2 M1 =>
  jfX12_every_5 rc sy_F v2 M1
set_option maxRecDepth 100000 in
theorem jrX12_every (rc : sy_M → sy_O) (M : sy_M) : sy_run skX12 qX12_every [(0, .aload_n 0, 1, []), (1, .invokevirtual 217, 3, []), (4, .istore_n 1, 1, [])] [(221, 0, chd_A rc)] [(5, juX12_every_5 (jfX12_every_5 rc sy_F))] 4 [] 0 [.ref 121, xe_no, xe_no] [] M = jfX12_every rc M := rfl
theorem jtX12_every {rc : sy_M → sy_O} {d : Nat} (hd : 7 ≤ d) (hrc : sy_snd d 221 (chd_A rc)) : ∀ (M : sy_M) (r : xe_R × sy_M), jfX12_every rc M = some r → sy_E (d + 1) qX12_every 0 [.ref 121, xe_no, xe_no] [] M r := by
  intro  M r h
  exact sy_run_by (d := d) ((jrX12_every _ M).trans h) hkX12 (by decide +kernel) (sy_cs_cons (hrc.deep (by omega)) sy_cs_nil) (sy_us_cons (jwX12_every_5 (jtX12_every_5 hd hrc sy_F)) sy_us_nil)
def jcX12_every (rc : sy_M → sy_O) (as : List Value) (M : sy_M) (K : sy_O → sy_O) : sy_O := sy_xc 121 as fun l => sy_xn l (K (jfX12_every rc M))
theorem jeX12_every {rc : sy_M → sy_O} {d : Nat} (hd : 7 ≤ d) (hrc : sy_snd d 221 (chd_A rc)) : sy_snd (d + 1) 222 (jcX12_every rc) := by
  intro as M K r h
  obtain ⟨l, e, h1⟩ := sy_xc_ok h; subst e
  obtain ⟨e, h2⟩ := sy_xn_ok h1; subst e
  exact ⟨_, h2, fun r1 h0 => ⟨qX12_every, rfl, rfl, jtX12_every hd hrc  M r1 h0⟩⟩
/-! X12_some StairMeterModel some ()Z [('R', 121)] -/
def juX12_some_40 (k : Int32 → sy_M → sy_O) (ls st : List Value) (M : sy_M) : sy_O := sy_xc 121 ls fun l => sy_xv l fun _ l => sy_xv l fun _ l => sy_xn l (sy_xi st fun s0 l => sy_xn l (k s0 M))
theorem jwX12_some_40 {d : Nat} {k : Int32 → sy_M → sy_O} (hk : ∀ (w1 : Value) (w2 : Value) (s0 : Int32) (M : sy_M) (r : xe_R × sy_M), k s0 M = some r → sy_E (d) qX12_some 40 [.ref 121, w1, w2] [.int s0] M r) : ∀ ls st M r, juX12_some_40 k ls st M = some r → sy_E d qX12_some 40 ls st M r := by
  intro ls st M r h
  obtain ⟨l, e, h1⟩ := sy_xc_ok h; subst e
  obtain ⟨w1, l, e, h2⟩ := sy_xv_ok h1; subst e
  obtain ⟨w2, l, e, h3⟩ := sy_xv_ok h2; subst e
  obtain ⟨e, h4⟩ := sy_xn_ok h3; subst e
  obtain ⟨s0, l, e, h5⟩ := sy_xi_ok h4; subst e
  obtain ⟨e, h6⟩ := sy_xn_ok h5; subst e
  exact hk _ _ s0 M r h6
def juX12_some_35 (k : sy_M → sy_O) (ls st : List Value) (M : sy_M) : sy_O := sy_xc 121 ls fun l => sy_xv l fun _ l => sy_xv l fun _ l => sy_xn l (sy_xn st (k M))
theorem jwX12_some_35 {d : Nat} {k : sy_M → sy_O} (hk : ∀ (w1 : Value) (w2 : Value) (M : sy_M) (r : xe_R × sy_M), k M = some r → sy_E (d) qX12_some 35 [.ref 121, w1, w2] [] M r) : ∀ ls st M r, juX12_some_35 k ls st M = some r → sy_E d qX12_some 35 ls st M r := by
  intro ls st M r h
  obtain ⟨l, e, h1⟩ := sy_xc_ok h; subst e
  obtain ⟨w1, l, e, h2⟩ := sy_xv_ok h1; subst e
  obtain ⟨w2, l, e, h3⟩ := sy_xv_ok h2; subst e
  obtain ⟨e, h4⟩ := sy_xn_ok h3; subst e
  obtain ⟨e, h5⟩ := sy_xn_ok h4; subst e
  exact hk _ _ M r h5
def juX12_some_5 (k : Int32 → sy_M → sy_O) (ls st : List Value) (M : sy_M) : sy_O := sy_xc 121 ls fun l => sy_xi l fun a1 l => sy_xv l fun _ l => sy_xn l (sy_xn st (k a1 M))
theorem jwX12_some_5 {d : Nat} {k : Int32 → sy_M → sy_O} (hk : ∀ (w2 : Value) (a1 : Int32) (M : sy_M) (r : xe_R × sy_M), k a1 M = some r → sy_E (d) qX12_some 5 [.ref 121, .int a1, w2] [] M r) : ∀ ls st M r, juX12_some_5 k ls st M = some r → sy_E d qX12_some 5 ls st M r := by
  intro ls st M r h
  obtain ⟨l, e, h1⟩ := sy_xc_ok h; subst e
  obtain ⟨a1, l, e, h2⟩ := sy_xi_ok h1; subst e
  obtain ⟨w2, l, e, h3⟩ := sy_xv_ok h2; subst e
  obtain ⟨e, h4⟩ := sy_xn_ok h3; subst e
  obtain ⟨e, h5⟩ := sy_xn_ok h4; subst e
  exact hk _ a1 M r h5
def jfX12_some_40 (rc : sy_M → sy_O) (k5 : Int32 → sy_M → sy_O) (s0 : Int32) (M : sy_M) : sy_O :=
  k5 s0 M
set_option maxRecDepth 100000 in
theorem jrX12_some_40 (rc : sy_M → sy_O) (k5 : Int32 → sy_M → sy_O) (w1 : Value) (w2 : Value) (s0 : Int32) (M : sy_M) : sy_run skX12 qX12_some [(40, .istore_n 1, 1, [true, false, false]), (41, .goto (-36), 3, [])] [] [(5, juX12_some_5 k5)] 3 [] 40 [.ref 121, w1, w2] [.int s0] M = jfX12_some_40 rc k5 s0 M := rfl
theorem jtX12_some_40 {rc : sy_M → sy_O} {d : Nat} (hd : 7 ≤ d) (hrc : sy_snd d 221 (chd_A rc)) {k5 : Int32 → sy_M → sy_O} (hk5 : ∀ (w2 : Value) (a1 : Int32) (M : sy_M) (r : xe_R × sy_M), k5 a1 M = some r → sy_E (d + 2) qX12_some 5 [.ref 121, .int a1, w2] [] M r) : ∀ (w1 : Value) (w2 : Value) (s0 : Int32) (M : sy_M) (r : xe_R × sy_M), jfX12_some_40 rc k5 s0 M = some r → sy_E (d + 2) qX12_some 40 [.ref 121, w1, w2] [.int s0] M r := by
  intro w1 w2 s0 M r h
  exact sy_run_by (d := d + 1) ((jrX12_some_40 _ _ _ _ _ M).trans h) hkX12 (by decide +kernel) sy_cs_nil (sy_us_cons (jwX12_some_5 hk5) sy_us_nil)
def jfX12_some_35 (rc : sy_M → sy_O) (k5 : Int32 → sy_M → sy_O) (M : sy_M) : sy_O :=
  jfX12_some_40 rc k5 1 M
set_option maxRecDepth 100000 in
theorem jrX12_some_35 (rc : sy_M → sy_O) (k5 : Int32 → sy_M → sy_O) (w1 : Value) (w2 : Value) (M : sy_M) : sy_run skX12 qX12_some [(35, .iconst 1, 1, [true, false, false]), (36, .goto 4, 3, [])] [] [(40, juX12_some_40 (jfX12_some_40 rc k5))] 3 [] 35 [.ref 121, w1, w2] [] M = jfX12_some_35 rc k5 M := rfl
theorem jtX12_some_35 {rc : sy_M → sy_O} {d : Nat} (hd : 7 ≤ d) (hrc : sy_snd d 221 (chd_A rc)) {k5 : Int32 → sy_M → sy_O} (hk5 : ∀ (w2 : Value) (a1 : Int32) (M : sy_M) (r : xe_R × sy_M), k5 a1 M = some r → sy_E (d + 2) qX12_some 5 [.ref 121, .int a1, w2] [] M r) : ∀ (w1 : Value) (w2 : Value) (M : sy_M) (r : xe_R × sy_M), jfX12_some_35 rc k5 M = some r → sy_E (d + 2) qX12_some 35 [.ref 121, w1, w2] [] M r := by
  intro w1 w2 M r h
  exact sy_run_by (d := d + 1) ((jrX12_some_35 _ _ _ _ M).trans h) hkX12 (by decide +kernel) sy_cs_nil (sy_us_cons (jwX12_some_40 (jtX12_some_40 hd hrc hk5)) sy_us_nil)
def jgX12_some_5 (rc : sy_M → sy_O) (k5 : Int32 → sy_M → sy_O) (a1 : Int32) (M : sy_M) : sy_O :=
  if (M 121 12) = (-1) then
    sy_bi (jfX12_has 1500016 M) fun v2 M1 =>
    if v2 = 0 then
      sy_bb (sy_bo a1) <| sy_ri a1 M1
    else
      sy_bi (jfX12_every rc M1) fun v4 M3 =>
      if a1 = 0 then
        if v4 = 0 then
          jfX12_some_40 rc k5 0 M3
        else
          jfX12_some_35 rc k5 M3
      else
        jfX12_some_35 rc k5 M3
  else
    sy_bb (sy_bo a1) <| sy_ri a1 M
def jfX12_some_5 (rc : sy_M → sy_O) : Nat → Int32 → sy_M → sy_O
  | 0, _, _ => none
  | n + 1, a1, M => jgX12_some_5 rc (jfX12_some_5 rc n) a1 M
set_option maxRecDepth 100000 in
theorem jrX12_some_5 (rc : sy_M → sy_O) (k5 : Int32 → sy_M → sy_O) (w2 : Value) (a1 : Int32) (M : sy_M) : sy_run skX12 qX12_some [(5, .aload_n 0, 1, [true, true, false]), (6, .getfield 25, 3, []), (9, .iconst (-1), 1, []), (10, .if_icmp .ne 34, 3, []), (13, .aload_n 0, 1, []), (14, .ldc 228, 2, []), (16, .invokevirtual 105, 3, []), (19, .ifCond .eq 25, 3, []), (22, .aload_n 0, 1, []), (23, .invokevirtual 225, 3, []), (26, .istore_n 2, 1, []), (27, .iload_n 1, 1, []), (28, .ifCond .ne 7, 3, []), (31, .iload_n 2, 1, []), (32, .ifCond .eq 7, 3, []), (39, .iconst 0, 1, [true, false, false]), (44, .iload_n 1, 1, [false, true, false]), (45, .ireturn, 1, [])] [(203, 0, jcX12_has), (222, 0, jcX12_every rc)] [(35, juX12_some_35 (jfX12_some_35 rc k5)), (40, juX12_some_40 (jfX12_some_40 rc k5))] 19 [] 5 [.ref 121, .int a1, w2] [] M = jgX12_some_5 rc k5 a1 M := rfl
theorem jtX12_some_5 {rc : sy_M → sy_O} {d : Nat} (hd : 7 ≤ d) (hrc : sy_snd d 221 (chd_A rc)) : ∀ n : Nat, ∀ (w2 : Value) (a1 : Int32) (M : sy_M) (r : xe_R × sy_M), jfX12_some_5 rc n a1 M = some r → sy_E (d + 2) qX12_some 5 [.ref 121, .int a1, w2] [] M r := by
  intro n
  induction n with
  | zero => intro w2 a1 M r h; exact absurd (show (none : sy_O) = some r from h) (by simp)
  | succ n ih => intro w2 a1 M r h; exact sy_run_by (d := d + 1) ((jrX12_some_5 _ _ _ _ M).trans h) hkX12 (by decide +kernel) (sy_cs_cons (jeX12_has.deep (by omega)) (sy_cs_cons ((jeX12_every hd hrc).deep (by omega)) sy_cs_nil)) (sy_us_cons (jwX12_some_35 (jtX12_some_35 hd hrc ih)) (sy_us_cons (jwX12_some_40 (jtX12_some_40 hd hrc ih)) sy_us_nil))
def jfX12_some (rc : sy_M → sy_O) (M : sy_M) : sy_O :=
  sy_bi (jfX12_every rc M) fun v2 M1 =>
  jfX12_some_5 rc sy_F v2 M1
set_option maxRecDepth 100000 in
theorem jrX12_some (rc : sy_M → sy_O) (M : sy_M) : sy_run skX12 qX12_some [(0, .aload_n 0, 1, []), (1, .invokevirtual 225, 3, []), (4, .istore_n 1, 1, [])] [(222, 0, jcX12_every rc)] [(5, juX12_some_5 (jfX12_some_5 rc sy_F))] 4 [] 0 [.ref 121, xe_no, xe_no] [] M = jfX12_some rc M := rfl
theorem jtX12_some {rc : sy_M → sy_O} {d : Nat} (hd : 7 ≤ d) (hrc : sy_snd d 221 (chd_A rc)) : ∀ (M : sy_M) (r : xe_R × sy_M), jfX12_some rc M = some r → sy_E (d + 2) qX12_some 0 [.ref 121, xe_no, xe_no] [] M r := by
  intro  M r h
  exact sy_run_by (d := d + 1) ((jrX12_some _ M).trans h) hkX12 (by decide +kernel) (sy_cs_cons ((jeX12_every hd hrc).deep (by omega)) sy_cs_nil) (sy_us_cons (jwX12_some_5 (jtX12_some_5 hd hrc sy_F)) sy_us_nil)
def jcX12_some (rc : sy_M → sy_O) (as : List Value) (M : sy_M) (K : sy_O → sy_O) : sy_O := sy_xc 121 as fun l => sy_xn l (K (jfX12_some rc M))
theorem jeX12_some {rc : sy_M → sy_O} {d : Nat} (hd : 7 ≤ d) (hrc : sy_snd d 221 (chd_A rc)) : sy_snd (d + 2) 223 (jcX12_some rc) := by
  intro as M K r h
  obtain ⟨l, e, h1⟩ := sy_xc_ok h; subst e
  obtain ⟨e, h2⟩ := sy_xn_ok h1; subst e
  exact ⟨_, h2, fun r1 h0 => ⟨qX12_some, rfl, rfl, jtX12_some hd hrc  M r1 h0⟩⟩
/-! X12_part StairMeterModel part ()I [('R', 121)] -/
def juX12_part_145 (k : Int32 → sy_M → sy_O) (ls st : List Value) (M : sy_M) : sy_O := sy_xc 121 ls fun l => sy_xv l fun _ l => sy_xn l (sy_xi st fun s0 l => sy_xn l (k s0 M))
theorem jwX12_part_145 {d : Nat} {k : Int32 → sy_M → sy_O} (hk : ∀ (w1 : Value) (s0 : Int32) (M : sy_M) (r : xe_R × sy_M), k s0 M = some r → sy_E (d) qX12_part 145 [.ref 121, w1] [.int s0] M r) : ∀ ls st M r, juX12_part_145 k ls st M = some r → sy_E d qX12_part 145 ls st M r := by
  intro ls st M r h
  obtain ⟨l, e, h1⟩ := sy_xc_ok h; subst e
  obtain ⟨w1, l, e, h2⟩ := sy_xv_ok h1; subst e
  obtain ⟨e, h3⟩ := sy_xn_ok h2; subst e
  obtain ⟨s0, l, e, h4⟩ := sy_xi_ok h3; subst e
  obtain ⟨e, h5⟩ := sy_xn_ok h4; subst e
  exact hk _ s0 M r h5
def juX12_part_52 (k : sy_M → sy_O) (ls st : List Value) (M : sy_M) : sy_O := sy_xc 121 ls fun l => sy_xv l fun _ l => sy_xn l (sy_xn st (k M))
theorem jwX12_part_52 {d : Nat} {k : sy_M → sy_O} (hk : ∀ (w1 : Value) (M : sy_M) (r : xe_R × sy_M), k M = some r → sy_E (d) qX12_part 52 [.ref 121, w1] [] M r) : ∀ ls st M r, juX12_part_52 k ls st M = some r → sy_E d qX12_part 52 ls st M r := by
  intro ls st M r h
  obtain ⟨l, e, h1⟩ := sy_xc_ok h; subst e
  obtain ⟨w1, l, e, h2⟩ := sy_xv_ok h1; subst e
  obtain ⟨e, h3⟩ := sy_xn_ok h2; subst e
  obtain ⟨e, h4⟩ := sy_xn_ok h3; subst e
  exact hk _ M r h4
def jfX12_part_145 (s0 : Int32) (M : sy_M) : sy_O :=
  if s0 = (-1) then
    sy_bv (jfX12_wrong (M 121 11) M) fun M1 =>
    sy_ri 0 M1
  else
    sy_bx (xe_in s0 7) <|
    sy_ri (M 127 (Int32.toNatClampNeg s0)) M
set_option maxRecDepth 100000 in
theorem jrX12_part_145 (w1 : Value) (s0 : Int32) (M : sy_M) : sy_run skX12 qX12_part [(145, .istore_n 1, 1, [true, false]), (146, .iload_n 1, 1, []), (147, .iconst (-1), 1, []), (148, .if_icmp .ne 13, 3, []), (151, .aload_n 0, 1, []), (152, .aload_n 0, 1, []), (153, .getfield 76, 3, []), (156, .invokevirtual 101, 3, []), (159, .iconst 0, 1, []), (160, .ireturn, 1, []), (161, .aload_n 0, 1, []), (162, .getfield 29, 3, []), (165, .iload_n 1, 1, []), (166, .iaload, 1, []), (167, .ireturn, 1, [])] [(204, 1, jcX12_wrong)] [] 16 [] 145 [.ref 121, w1] [.int s0] M = jfX12_part_145 s0 M := rfl
theorem jtX12_part_145 : ∀ (w1 : Value) (s0 : Int32) (M : sy_M) (r : xe_R × sy_M), jfX12_part_145 s0 M = some r → sy_E (5) qX12_part 145 [.ref 121, w1] [.int s0] M r := by
  intro w1 s0 M r h
  exact sy_run_by (d := 4) ((jrX12_part_145 _ _ M).trans h) hkX12 (by decide +kernel) (sy_cs_cons (jeX12_wrong.deep (by decide)) sy_cs_nil) sy_us_nil
def jfX12_part_52 (M : sy_M) : sy_O :=
  sy_bi (jfX12_has 1500008 M) fun v2 M1 =>
  if v2 = 0 then
    sy_bi (jfX12_has 1500009 M1) fun v4 M3 =>
    if v4 = 0 then
      sy_bi (jfX12_has 1500010 M3) fun v6 M5 =>
      if v6 = 0 then
        sy_bi (jfX12_has 1500011 M5) fun v8 M7 =>
        if v8 = 0 then
          sy_bi (jfX12_has 1500012 M7) fun v10 M9 =>
          if v10 = 0 then
            sy_bi (jfX12_has 1500013 M9) fun v12 M11 =>
            if v12 = 0 then
              sy_bi (jfX12_has 1500014 M11) fun v14 M13 =>
              if v14 = 0 then
                jfX12_part_145 (-1) M13
              else
                jfX12_part_145 6 M13
            else
              jfX12_part_145 5 M11
          else
            jfX12_part_145 4 M9
        else
          jfX12_part_145 3 M7
      else
        jfX12_part_145 2 M5
    else
      jfX12_part_145 1 M3
  else
    jfX12_part_145 0 M1
set_option maxRecDepth 100000 in
theorem jrX12_part_52 (w1 : Value) (M : sy_M) : sy_run skX12 qX12_part [(52, .aload_n 0, 1, [true, false]), (53, .ldc 136, 2, []), (55, .invokevirtual 105, 3, []), (58, .ifCond .eq 7, 3, []), (61, .iconst 0, 1, []), (62, .goto 83, 3, []), (65, .aload_n 0, 1, [true, false]), (66, .ldc 112, 2, []), (68, .invokevirtual 105, 3, []), (71, .ifCond .eq 7, 3, []), (74, .iconst 1, 1, []), (75, .goto 70, 3, []), (78, .aload_n 0, 1, [true, false]), (79, .ldc 122, 2, []), (81, .invokevirtual 105, 3, []), (84, .ifCond .eq 7, 3, []), (87, .iconst 2, 1, []), (88, .goto 57, 3, []), (91, .aload_n 0, 1, [true, false]), (92, .ldc 188, 2, []), (94, .invokevirtual 105, 3, []), (97, .ifCond .eq 7, 3, []), (100, .iconst 3, 1, []), (101, .goto 44, 3, []), (104, .aload_n 0, 1, [true, false]), (105, .ldc 190, 2, []), (107, .invokevirtual 105, 3, []), (110, .ifCond .eq 7, 3, []), (113, .iconst 4, 1, []), (114, .goto 31, 3, []), (117, .aload_n 0, 1, [true, false]), (118, .ldc 192, 2, []), (120, .invokevirtual 105, 3, []), (123, .ifCond .eq 7, 3, []), (126, .iconst 5, 1, []), (127, .goto 18, 3, []), (130, .aload_n 0, 1, [true, false]), (131, .ldc 155, 2, []), (133, .invokevirtual 105, 3, []), (136, .ifCond .eq 8, 3, []), (139, .bipush 6, 2, []), (141, .goto 4, 3, []), (144, .iconst (-1), 1, [true, false])] [(203, 0, jcX12_has)] [(145, juX12_part_145 (jfX12_part_145))] 44 [] 52 [.ref 121, w1] [] M = jfX12_part_52 M := rfl
theorem jtX12_part_52 : ∀ (w1 : Value) (M : sy_M) (r : xe_R × sy_M), jfX12_part_52 M = some r → sy_E (5) qX12_part 52 [.ref 121, w1] [] M r := by
  intro w1 M r h
  exact sy_run_by (d := 4) ((jrX12_part_52 _ M).trans h) hkX12 (by decide +kernel) (sy_cs_cons (jeX12_has.deep (by decide)) sy_cs_nil) (sy_us_cons (jwX12_part_145 (jtX12_part_145)) sy_us_nil)
def jfX12_part (M : sy_M) : sy_O :=
  if (M 121 12) = (-1) then
    sy_bv (jfX12_skip M) fun M1 =>
    if (M1 121 11) < (M1 121 10) then
      sy_bi (jfX12_letter (M1 121 11) M1) fun v3 M2 =>
      sy_bi (jfX12_isIn v3 48 57 M2) fun v5 M4 =>
      if v5 = 0 then
        jfX12_part_52 M4
      else
        sy_bi (jfX12_figures 0 999 M4) fun v7 M6 =>
        sy_ri v7 M6
    else
      jfX12_part_52 M1
  else
    sy_ri 0 M
set_option maxRecDepth 100000 in
theorem jrX12_part (M : sy_M) : sy_run skX12 qX12_part [(0, .aload_n 0, 1, []), (1, .getfield 25, 3, []), (4, .iconst (-1), 1, []), (5, .if_icmp .eq 5, 3, []), (8, .iconst 0, 1, []), (9, .ireturn, 1, []), (10, .aload_n 0, 1, [true, false]), (11, .invokevirtual 85, 3, []), (14, .aload_n 0, 1, []), (15, .getfield 76, 3, []), (18, .aload_n 0, 1, []), (19, .getfield 79, 3, []), (22, .if_icmp .ge 30, 3, []), (25, .aload_n 0, 1, []), (26, .aload_n 0, 1, []), (27, .getfield 76, 3, []), (30, .invokevirtual 82, 3, []), (33, .bipush 48, 2, []), (35, .bipush 57, 2, []), (37, .invokestatic 48, 3, []), (40, .ifCond .eq 12, 3, []), (43, .aload_n 0, 1, []), (44, .iconst 0, 1, []), (45, .sipush 999, 3, []), (48, .invokevirtual 109, 3, []), (51, .ireturn, 1, [])] [(201, 1, jcX12_skip), (200, 0, jcX12_letter), (182, 0, jcX12_isIn), (206, 0, jcX12_figures)] [(52, juX12_part_52 (jfX12_part_52))] 27 [] 0 [.ref 121, xe_no] [] M = jfX12_part M := rfl
theorem jtX12_part : ∀ (M : sy_M) (r : xe_R × sy_M), jfX12_part M = some r → sy_E (5) qX12_part 0 [.ref 121, xe_no] [] M r := by
  intro  M r h
  exact sy_run_by (d := 4) ((jrX12_part M).trans h) hkX12 (by decide +kernel) (sy_cs_cons (jeX12_skip.deep (by decide)) (sy_cs_cons (jeX12_letter.deep (by decide)) (sy_cs_cons (jeX12_isIn.deep (by decide)) (sy_cs_cons (jeX12_figures.deep (by decide)) sy_cs_nil)))) (sy_us_cons (jwX12_part_52 (jtX12_part_52)) sy_us_nil)
def jcX12_part (as : List Value) (M : sy_M) (K : sy_O → sy_O) : sy_O := sy_xc 121 as fun l => sy_xn l (K (jfX12_part M))
theorem jeX12_part : sy_snd (5) 218 (jcX12_part) := by
  intro as M K r h
  obtain ⟨l, e, h1⟩ := sy_xc_ok h; subst e
  obtain ⟨e, h2⟩ := sy_xn_ok h1; subst e
  exact ⟨_, h2, fun r1 h0 => ⟨qX12_part, rfl, rfl, jtX12_part  M r1 h0⟩⟩
end
