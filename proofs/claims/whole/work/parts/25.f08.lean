/-! ===== functions of the methods (8); written by wip/whole/run_f.py ===== -/
noncomputable section
/-! X12_home StairMeterModel home (III)I [('R', 121), 'I', 'I', 'I'] -/
def juX12_home_28 (k : Int32 → Int32 → Int32 → Int32 → sy_M → sy_O) (ls st : List Value) (M : sy_M) : sy_O := sy_xc 121 ls fun l => sy_xi l fun a1 l => sy_xi l fun a2 l => sy_xi l fun a3 l => sy_xv l fun _ l => sy_xn l (sy_xi st fun s0 l => sy_xc 121 l fun l => sy_xn l (k a1 a2 a3 s0 M))
theorem jwX12_home_28 {d : Nat} {k : Int32 → Int32 → Int32 → Int32 → sy_M → sy_O} (hk : ∀ (w4 : Value) (a1 : Int32) (a2 : Int32) (a3 : Int32) (s0 : Int32) (M : sy_M) (r : xe_R × sy_M), k a1 a2 a3 s0 M = some r → sy_E (d) qX12_home 28 [.ref 121, .int a1, .int a2, .int a3, w4] [.int s0, .ref 121] M r) : ∀ ls st M r, juX12_home_28 k ls st M = some r → sy_E d qX12_home 28 ls st M r := by
  intro ls st M r h
  obtain ⟨l, e, h1⟩ := sy_xc_ok h; subst e
  obtain ⟨a1, l, e, h2⟩ := sy_xi_ok h1; subst e
  obtain ⟨a2, l, e, h3⟩ := sy_xi_ok h2; subst e
  obtain ⟨a3, l, e, h4⟩ := sy_xi_ok h3; subst e
  obtain ⟨w4, l, e, h5⟩ := sy_xv_ok h4; subst e
  obtain ⟨e, h6⟩ := sy_xn_ok h5; subst e
  obtain ⟨s0, l, e, h7⟩ := sy_xi_ok h6; subst e
  obtain ⟨l, e, h8⟩ := sy_xc_ok h7; subst e
  obtain ⟨e, h9⟩ := sy_xn_ok h8; subst e
  exact hk _ a1 a2 a3 s0 M r h9
def juX12_home_23 (k : Int32 → Int32 → Int32 → sy_M → sy_O) (ls st : List Value) (M : sy_M) : sy_O := sy_xc 121 ls fun l => sy_xi l fun a1 l => sy_xi l fun a2 l => sy_xi l fun a3 l => sy_xv l fun _ l => sy_xn l (sy_xc 121 st fun l => sy_xn l (k a1 a2 a3 M))
theorem jwX12_home_23 {d : Nat} {k : Int32 → Int32 → Int32 → sy_M → sy_O} (hk : ∀ (w4 : Value) (a1 : Int32) (a2 : Int32) (a3 : Int32) (M : sy_M) (r : xe_R × sy_M), k a1 a2 a3 M = some r → sy_E (d) qX12_home 23 [.ref 121, .int a1, .int a2, .int a3, w4] [.ref 121] M r) : ∀ ls st M r, juX12_home_23 k ls st M = some r → sy_E d qX12_home 23 ls st M r := by
  intro ls st M r h
  obtain ⟨l, e, h1⟩ := sy_xc_ok h; subst e
  obtain ⟨a1, l, e, h2⟩ := sy_xi_ok h1; subst e
  obtain ⟨a2, l, e, h3⟩ := sy_xi_ok h2; subst e
  obtain ⟨a3, l, e, h4⟩ := sy_xi_ok h3; subst e
  obtain ⟨w4, l, e, h5⟩ := sy_xv_ok h4; subst e
  obtain ⟨e, h6⟩ := sy_xn_ok h5; subst e
  obtain ⟨l, e, h7⟩ := sy_xc_ok h6; subst e
  obtain ⟨e, h8⟩ := sy_xn_ok h7; subst e
  exact hk _ a1 a2 a3 M r h8
def jfX12_home_28 (a1 : Int32) (a2 : Int32) (a3 : Int32) (s0 : Int32) (M : sy_M) : sy_O :=
  let M1 := sy_upd M 121 0 s0
  if 0 < (M1 121 0) then
    sy_ri 0 M1
  else
    sy_bi (jfX12_sets ((14 + (9 * a1)) + 1) a2 M1) fun v3 M2 =>
    sy_bv (jfX12_lays a1 2 a3 M2) fun M4 =>
    sy_bi (jfX12_hoursOf a1 M4) fun v6 M5 =>
    sy_ri v6 M5
set_option maxRecDepth 100000 in
theorem jrX12_home_28 (w4 : Value) (a1 : Int32) (a2 : Int32) (a3 : Int32) (s0 : Int32) (M : sy_M) : sy_run skX12 qX12_home [(28, .putfield 45, 3, [true, true, true, true, false]), (31, .aload_n 0, 1, []), (32, .getfield 45, 3, []), (35, .ifCond .le 5, 3, []), (38, .iconst 0, 1, []), (39, .ireturn, 1, []), (40, .aload_n 0, 1, [true, true, true, true, false]), (41, .bipush 14, 2, []), (43, .bipush 9, 2, []), (45, .iload_n 1, 1, []), (46, .imul, 1, []), (47, .iadd, 1, []), (48, .iconst 1, 1, []), (49, .iadd, 1, []), (50, .iload_n 2, 1, []), (51, .invokevirtual 318, 3, []), (54, .istore 4, 2, []), (56, .aload_n 0, 1, []), (57, .iload_n 1, 1, []), (58, .iconst 2, 1, []), (59, .iload_n 3, 1, []), (60, .invokevirtual 132, 3, []), (63, .aload_n 0, 1, []), (64, .iload_n 1, 1, []), (65, .invokevirtual 281, 3, []), (68, .ireturn, 1, [])] [(245, 0, jcX12_sets), (188, 1, jcX12_lays), (196, 0, jcX12_hoursOf)] [] 27 [] 28 [.ref 121, .int a1, .int a2, .int a3, w4] [.int s0, .ref 121] M = jfX12_home_28 a1 a2 a3 s0 M := rfl
theorem jtX12_home_28 : ∀ (w4 : Value) (a1 : Int32) (a2 : Int32) (a3 : Int32) (s0 : Int32) (M : sy_M) (r : xe_R × sy_M), jfX12_home_28 a1 a2 a3 s0 M = some r → sy_E (4) qX12_home 28 [.ref 121, .int a1, .int a2, .int a3, w4] [.int s0, .ref 121] M r := by
  intro w4 a1 a2 a3 s0 M r h
  exact sy_run_by (d := 3) ((jrX12_home_28 _ _ _ _ _ M).trans h) hkX12 (by decide +kernel) (sy_cs_cons (jeX12_sets.deep (by decide)) (sy_cs_cons (jeX12_lays.deep (by decide)) (sy_cs_cons (jeX12_hoursOf.deep (by decide)) sy_cs_nil))) sy_us_nil
def jfX12_home_23 (a1 : Int32) (a2 : Int32) (a3 : Int32) (M : sy_M) : sy_O :=
  jfX12_home_28 a1 a2 a3 1 M
set_option maxRecDepth 100000 in
theorem jrX12_home_23 (w4 : Value) (a1 : Int32) (a2 : Int32) (a3 : Int32) (M : sy_M) : sy_run skX12 qX12_home [(23, .iconst 1, 1, [true, true, true, true, false]), (24, .goto 4, 3, [])] [] [(28, juX12_home_28 (jfX12_home_28))] 3 [] 23 [.ref 121, .int a1, .int a2, .int a3, w4] [.ref 121] M = jfX12_home_23 a1 a2 a3 M := rfl
theorem jtX12_home_23 : ∀ (w4 : Value) (a1 : Int32) (a2 : Int32) (a3 : Int32) (M : sy_M) (r : xe_R × sy_M), jfX12_home_23 a1 a2 a3 M = some r → sy_E (4) qX12_home 23 [.ref 121, .int a1, .int a2, .int a3, w4] [.ref 121] M r := by
  intro w4 a1 a2 a3 M r h
  exact sy_run_by (d := 3) ((jrX12_home_23 _ _ _ _ M).trans h) hkX12 (by decide +kernel) sy_cs_nil (sy_us_cons (jwX12_home_28 (jtX12_home_28)) sy_us_nil)
def jfX12_home (a1 : Int32) (a2 : Int32) (a3 : Int32) (M : sy_M) : sy_O :=
  sy_bi (jfX12_isLodger a1 M) fun v2 M1 =>
  if v2 = 0 then
    jfX12_home_23 a1 a2 a3 M1
  else
    sy_bi (jfX12_isTick a2 M1) fun v4 M3 =>
    if v4 = 0 then
      jfX12_home_23 a1 a2 a3 M3
    else
      sy_bi (jfX12_isTick a3 M3) fun v6 M5 =>
      if v6 = 0 then
        jfX12_home_23 a1 a2 a3 M5
      else
        jfX12_home_28 a1 a2 a3 0 M5
set_option maxRecDepth 100000 in
theorem jrX12_home (a1 : Int32) (a2 : Int32) (a3 : Int32) (M : sy_M) : sy_run skX12 qX12_home [(0, .aload_n 0, 1, []), (1, .aload_n 0, 1, []), (2, .iload_n 1, 1, []), (3, .invokevirtual 284, 3, []), (6, .ifCond .eq 17, 3, []), (9, .iload_n 2, 1, []), (10, .invokestatic 305, 3, []), (13, .ifCond .eq 10, 3, []), (16, .iload_n 3, 1, []), (17, .invokestatic 305, 3, []), (20, .ifCond .ne 7, 3, []), (27, .iconst 0, 1, [true, true, true, true, false])] [(190, 0, jcX12_isLodger), (191, 0, jcX12_isTick)] [(23, juX12_home_23 (jfX12_home_23)), (28, juX12_home_28 (jfX12_home_28))] 13 [] 0 [.ref 121, .int a1, .int a2, .int a3, xe_no] [] M = jfX12_home a1 a2 a3 M := rfl
theorem jtX12_home : ∀ (a1 : Int32) (a2 : Int32) (a3 : Int32) (M : sy_M) (r : xe_R × sy_M), jfX12_home a1 a2 a3 M = some r → sy_E (4) qX12_home 0 [.ref 121, .int a1, .int a2, .int a3, xe_no] [] M r := by
  intro a1 a2 a3 M r h
  exact sy_run_by (d := 3) ((jrX12_home _ _ _ M).trans h) hkX12 (by decide +kernel) (sy_cs_cons (jeX12_isLodger.deep (by decide)) (sy_cs_cons (jeX12_isTick.deep (by decide)) sy_cs_nil)) (sy_us_cons (jwX12_home_23 (jtX12_home_23)) (sy_us_cons (jwX12_home_28 (jtX12_home_28)) sy_us_nil))
def jcX12_home (as : List Value) (M : sy_M) (K : sy_O → sy_O) : sy_O := sy_xc 121 as fun l => sy_xi l fun a1 l => sy_xi l fun a2 l => sy_xi l fun a3 l => sy_xn l (K (jfX12_home a1 a2 a3 M))
theorem jeX12_home : sy_snd (4) 254 (jcX12_home) := by
  intro as M K r h
  obtain ⟨l, e, h1⟩ := sy_xc_ok h; subst e
  obtain ⟨a1, l, e, h2⟩ := sy_xi_ok h1; subst e
  obtain ⟨a2, l, e, h3⟩ := sy_xi_ok h2; subst e
  obtain ⟨a3, l, e, h4⟩ := sy_xi_ok h3; subst e
  obtain ⟨e, h5⟩ := sy_xn_ok h4; subst e
  exact ⟨_, h5, fun r1 h0 => ⟨qX12_home, rfl, rfl, jtX12_home _ _ _ M r1 h0⟩⟩
/-! X11_empty StairMeter empty ()I [('R', 0)] -/
def jfX11_empty (M : sy_M) : sy_O :=
  sy_bv (jfX0_remember 9 M) fun M1 =>
  let v2 := (M1 9 11)
  let M3 := sy_upd M1 9 11 0
  sy_ri v2 M3
set_option maxRecDepth 100000 in
theorem jrX11_empty (M : sy_M) : sy_run skX11 qX11_empty [(0, .aload_n 0, 1, []), (1, .getfield 89, 3, []), (4, .aload_n 0, 1, []), (5, .getfield 28, 3, []), (8, .invokevirtual 252, 3, []), (11, .aload_n 0, 1, []), (12, .getfield 28, 3, []), (15, .getfield 227, 3, []), (18, .istore_n 1, 1, []), (19, .aload_n 0, 1, []), (20, .getfield 28, 3, []), (23, .iconst 0, 1, []), (24, .putfield 227, 3, []), (27, .iload_n 1, 1, []), (28, .ireturn, 1, [])] [(2, 1, jcX0_remember)] [] 16 [] 0 [.ref 0, xe_no] [] M = jfX11_empty M := rfl
theorem jtX11_empty : ∀ (M : sy_M) (r : xe_R × sy_M), jfX11_empty M = some r → sy_E (4) qX11_empty 0 [.ref 0, xe_no] [] M r := by
  intro  M r h
  exact sy_run_by (d := 3) ((jrX11_empty M).trans h) hkX11 (by decide +kernel) (sy_cs_cons (jeX0_remember.deep (by decide)) sy_cs_nil) sy_us_nil
def jcX11_empty (as : List Value) (M : sy_M) (K : sy_O → sy_O) : sy_O := sy_xc 0 as fun l => sy_xn l (K (jfX11_empty M))
theorem jeX11_empty : sy_snd (4) 109 (jcX11_empty) := by
  intro as M K r h
  obtain ⟨l, e, h1⟩ := sy_xc_ok h; subst e
  obtain ⟨e, h2⟩ := sy_xn_ok h1; subst e
  exact ⟨_, h2, fun r1 h0 => ⟨qX11_empty, rfl, rfl, jtX11_empty  M r1 h0⟩⟩
/-! X12_empty StairMeterModel empty ()I [('R', 121)] -/
def jfX12_empty (M : sy_M) : sy_O :=
  let M1 := sy_upd M 121 0 0
  sy_bi (jfX12_sets 10 0 M1) fun v3 M2 =>
  sy_ri v3 M2
set_option maxRecDepth 100000 in
theorem jrX12_empty (M : sy_M) : sy_run skX12 qX12_empty [(0, .aload_n 0, 1, []), (1, .iconst 0, 1, []), (2, .putfield 45, 3, []), (5, .aload_n 0, 1, []), (6, .bipush 10, 2, []), (8, .iconst 0, 1, []), (9, .invokevirtual 318, 3, []), (12, .ireturn, 1, [])] [(245, 0, jcX12_sets)] [] 9 [] 0 [.ref 121] [] M = jfX12_empty M := rfl
theorem jtX12_empty : ∀ (M : sy_M) (r : xe_R × sy_M), jfX12_empty M = some r → sy_E (3) qX12_empty 0 [.ref 121] [] M r := by
  intro  M r h
  exact sy_run_by (d := 2) ((jrX12_empty M).trans h) hkX12 (by decide +kernel) (sy_cs_cons (jeX12_sets.deep (by decide)) sy_cs_nil) sy_us_nil
def jcX12_empty (as : List Value) (M : sy_M) (K : sy_O → sy_O) : sy_O := sy_xc 121 as fun l => sy_xn l (K (jfX12_empty M))
theorem jeX12_empty : sy_snd (3) 255 (jcX12_empty) := by
  intro as M K r h
  obtain ⟨l, e, h1⟩ := sy_xc_ok h; subst e
  obtain ⟨e, h2⟩ := sy_xn_ok h1; subst e
  exact ⟨_, h2, fun r1 h0 => ⟨qX12_empty, rfl, rfl, jtX12_empty  M r1 h0⟩⟩
/-! X11_inside StairMeter inside ()I [('R', 0)] -/
def jfX11_inside (M : sy_M) : sy_O :=
  sy_bv (jfX8_learn 9 M) fun M1 =>
  sy_bi (jfX8_presentAt (M1 9 5) M1) fun v3 M2 =>
  sy_ri v3 M2
set_option maxRecDepth 100000 in
theorem jrX11_inside (M : sy_M) : sy_run skX11 qX11_inside [(0, .aload_n 0, 1, []), (1, .getfield 75, 3, []), (4, .aload_n 0, 1, []), (5, .getfield 28, 3, []), (8, .invokevirtual 181, 3, []), (11, .aload_n 0, 1, []), (12, .getfield 75, 3, []), (15, .aload_n 0, 1, []), (16, .getfield 28, 3, []), (19, .getfield 210, 3, []), (22, .invokevirtual 245, 3, []), (25, .ireturn, 1, [])] [(63, 1, jcX8_learn), (64, 0, jcX8_presentAt)] [] 13 [] 0 [.ref 0] [] M = jfX11_inside M := rfl
theorem jtX11_inside : ∀ (M : sy_M) (r : xe_R × sy_M), jfX11_inside M = some r → sy_E (4) qX11_inside 0 [.ref 0] [] M r := by
  intro  M r h
  exact sy_run_by (d := 3) ((jrX11_inside M).trans h) hkX11 (by decide +kernel) (sy_cs_cons (jeX8_learn.deep (by decide)) (sy_cs_cons (jeX8_presentAt.deep (by decide)) sy_cs_nil)) sy_us_nil
def jcX11_inside (as : List Value) (M : sy_M) (K : sy_O → sy_O) : sy_O := sy_xc 0 as fun l => sy_xn l (K (jfX11_inside M))
theorem jeX11_inside : sy_snd (4) 100 (jcX11_inside) := by
  intro as M K r h
  obtain ⟨l, e, h1⟩ := sy_xc_ok h; subst e
  obtain ⟨e, h2⟩ := sy_xn_ok h1; subst e
  exact ⟨_, h2, fun r1 h0 => ⟨qX11_inside, rfl, rfl, jtX11_inside  M r1 h0⟩⟩
/-! X12_inside StairMeterModel inside ()I [('R', 121)] -/
def jfX12_inside (M : sy_M) : sy_O :=
  let M1 := sy_upd M 121 0 0
  sy_bi (jfX12_homeIn (M1 122 4) M1) fun v3 M2 =>
  sy_ri v3 M2
set_option maxRecDepth 100000 in
theorem jrX12_inside (M : sy_M) : sy_run skX12 qX12_inside [(0, .aload_n 0, 1, []), (1, .iconst 0, 1, []), (2, .putfield 45, 3, []), (5, .aload_n 0, 1, []), (6, .aload_n 0, 1, []), (7, .getfield 7, 3, []), (10, .iconst 4, 1, []), (11, .iaload, 1, []), (12, .invokevirtual 63, 3, []), (15, .ireturn, 1, [])] [(193, 0, jcX12_homeIn)] [] 11 [] 0 [.ref 121] [] M = jfX12_inside M := rfl
theorem jtX12_inside : ∀ (M : sy_M) (r : xe_R × sy_M), jfX12_inside M = some r → sy_E (4) qX12_inside 0 [.ref 121] [] M r := by
  intro  M r h
  exact sy_run_by (d := 3) ((jrX12_inside M).trans h) hkX12 (by decide +kernel) (sy_cs_cons (jeX12_homeIn.deep (by decide)) sy_cs_nil) sy_us_nil
def jcX12_inside (as : List Value) (M : sy_M) (K : sy_O → sy_O) : sy_O := sy_xc 121 as fun l => sy_xn l (K (jfX12_inside M))
theorem jeX12_inside : sy_snd (4) 256 (jcX12_inside) := by
  intro as M K r h
  obtain ⟨l, e, h1⟩ := sy_xc_ok h; subst e
  obtain ⟨e, h2⟩ := sy_xn_ok h1; subst e
  exact ⟨_, h2, fun r1 h0 => ⟨qX12_inside, rfl, rfl, jtX12_inside  M r1 h0⟩⟩
/-! X11_start StairMeter start ()V [('R', 0)] -/
def jfX11_start (M : sy_M) : sy_O :=
  sy_bv (jfX8_learn 9 M) fun M1 =>
  sy_bv (jfX2_takeOver 19 9 M1) fun M2 =>
  sy_rv M2
set_option maxRecDepth 100000 in
theorem jrX11_start (M : sy_M) : sy_run skX11 qX11_start [(0, .aload_n 0, 1, []), (1, .getfield 75, 3, []), (4, .aload_n 0, 1, []), (5, .getfield 28, 3, []), (8, .invokevirtual 181, 3, []), (11, .aload_n 0, 1, []), (12, .getfield 35, 3, []), (15, .aload_n 0, 1, []), (16, .getfield 28, 3, []), (19, .invokevirtual 115, 3, []), (22, .return_, 1, [])] [(63, 1, jcX8_learn), (9, 1, jcX2_takeOver)] [] 12 [] 0 [.ref 0] [] M = jfX11_start M := rfl
theorem jtX11_start : ∀ (M : sy_M) (r : xe_R × sy_M), jfX11_start M = some r → sy_E (4) qX11_start 0 [.ref 0] [] M r := by
  intro  M r h
  exact sy_run_by (d := 3) ((jrX11_start M).trans h) hkX11 (by decide +kernel) (sy_cs_cons (jeX8_learn.deep (by decide)) (sy_cs_cons (jeX2_takeOver.deep (by decide)) sy_cs_nil)) sy_us_nil
def jcX11_start (as : List Value) (M : sy_M) (K : sy_O → sy_O) : sy_O := sy_xc 0 as fun l => sy_xn l (K (jfX11_start M))
theorem jeX11_start : sy_snd (4) 119 (jcX11_start) := by
  intro as M K r h
  obtain ⟨l, e, h1⟩ := sy_xc_ok h; subst e
  obtain ⟨e, h2⟩ := sy_xn_ok h1; subst e
  exact ⟨_, h2, fun r1 h0 => ⟨qX11_start, rfl, rfl, jtX11_start  M r1 h0⟩⟩
/-! X11_firstDark StairMeter firstDark ()I [('R', 0)] -/
def juX11_firstDark_6 (k : Int32 → sy_M → sy_O) (ls st : List Value) (M : sy_M) : sy_O := sy_xc 0 ls fun l => sy_xi l fun a1 l => sy_xn l (sy_xn st (k a1 M))
theorem jwX11_firstDark_6 {d : Nat} {k : Int32 → sy_M → sy_O} (hk : ∀ (a1 : Int32) (M : sy_M) (r : xe_R × sy_M), k a1 M = some r → sy_E (d) qX11_firstDark 6 [.ref 0, .int a1] [] M r) : ∀ ls st M r, juX11_firstDark_6 k ls st M = some r → sy_E d qX11_firstDark 6 ls st M r := by
  intro ls st M r h
  obtain ⟨l, e, h1⟩ := sy_xc_ok h; subst e
  obtain ⟨a1, l, e, h2⟩ := sy_xi_ok h1; subst e
  obtain ⟨e, h3⟩ := sy_xn_ok h2; subst e
  obtain ⟨e, h4⟩ := sy_xn_ok h3; subst e
  exact hk a1 M r h4
def jgX11_firstDark_6 (k6 : Int32 → sy_M → sy_O) (a1 : Int32) (M : sy_M) : sy_O :=
  if 96 < a1 then
    sy_ri (-1) M
  else
    sy_bi (jfX8_pass 19 29 0 M) fun v2 M1 =>
    if v2 = (-2) then
      let v3 := a1 + 1
      k6 v3 M1
    else
      sy_ri a1 M1
def jfX11_firstDark_6 : Nat → Int32 → sy_M → sy_O
  | 0, _, _ => none
  | n + 1, a1, M => jgX11_firstDark_6 (jfX11_firstDark_6 n) a1 M
set_option maxRecDepth 100000 in
theorem jrX11_firstDark_6 (k6 : Int32 → sy_M → sy_O) (a1 : Int32) (M : sy_M) : sy_run skX11 qX11_firstDark [(6, .iload_n 1, 1, []), (7, .bipush 96, 2, []), (9, .if_icmp .gt 32, 3, []), (12, .aload_n 0, 1, []), (13, .getfield 75, 3, []), (16, .aload_n 0, 1, []), (17, .getfield 35, 3, []), (20, .aload_n 0, 1, []), (21, .getfield 44, 3, []), (24, .iconst 0, 1, []), (25, .invokevirtual 255, 3, []), (28, .bipush (-2), 2, []), (30, .if_icmp .eq 5, 3, []), (33, .iload_n 1, 1, []), (34, .ireturn, 1, []), (35, .iinc 1 1, 3, []), (38, .goto (-32), 3, []), (41, .iconst (-1), 1, [false, false]), (42, .ireturn, 1, [])] [(66, 0, jcX8_pass)] [(6, juX11_firstDark_6 k6)] 20 [] 6 [.ref 0, .int a1] [] M = jgX11_firstDark_6 k6 a1 M := rfl
theorem jtX11_firstDark_6 : ∀ n : Nat, ∀ (a1 : Int32) (M : sy_M) (r : xe_R × sy_M), jfX11_firstDark_6 n a1 M = some r → sy_E (5) qX11_firstDark 6 [.ref 0, .int a1] [] M r := by
  intro n
  induction n with
  | zero => intro a1 M r h; exact absurd (show (none : sy_O) = some r from h) (by simp)
  | succ n ih => intro a1 M r h; exact sy_run_by (d := 4) ((jrX11_firstDark_6 _ _ M).trans h) hkX11 (by decide +kernel) (sy_cs_cons (jeX8_pass.deep (by decide)) sy_cs_nil) (sy_us_cons (jwX11_firstDark_6 ih) sy_us_nil)
def jfX11_firstDark (M : sy_M) : sy_O :=
  sy_bv (jfX11_start M) fun M1 =>
  jfX11_firstDark_6 sy_F 1 M1
set_option maxRecDepth 100000 in
theorem jrX11_firstDark (M : sy_M) : sy_run skX11 qX11_firstDark [(0, .aload_n 0, 1, []), (1, .invokevirtual 289, 3, []), (4, .iconst 1, 1, []), (5, .istore_n 1, 1, [])] [(119, 1, jcX11_start)] [(6, juX11_firstDark_6 (jfX11_firstDark_6 sy_F))] 5 [] 0 [.ref 0, xe_no] [] M = jfX11_firstDark M := rfl
theorem jtX11_firstDark : ∀ (M : sy_M) (r : xe_R × sy_M), jfX11_firstDark M = some r → sy_E (5) qX11_firstDark 0 [.ref 0, xe_no] [] M r := by
  intro  M r h
  exact sy_run_by (d := 4) ((jrX11_firstDark M).trans h) hkX11 (by decide +kernel) (sy_cs_cons (jeX11_start.deep (by decide)) sy_cs_nil) (sy_us_cons (jwX11_firstDark_6 (jtX11_firstDark_6 sy_F)) sy_us_nil)
def jcX11_firstDark (as : List Value) (M : sy_M) (K : sy_O → sy_O) : sy_O := sy_xc 0 as fun l => sy_xn l (K (jfX11_firstDark M))
theorem jeX11_firstDark : sy_snd (5) 112 (jcX11_firstDark) := by
  intro as M K r h
  obtain ⟨l, e, h1⟩ := sy_xc_ok h; subst e
  obtain ⟨e, h2⟩ := sy_xn_ok h1; subst e
  exact ⟨_, h2, fun r1 h0 => ⟨qX11_firstDark, rfl, rfl, jtX11_firstDark  M r1 h0⟩⟩
/-! X11_lasts StairMeter lasts ()I [('R', 0)] -/
def jfX11_lasts (M : sy_M) : sy_O :=
  sy_bi (jfX11_firstDark M) fun v2 M1 =>
  sy_ri v2 M1
set_option maxRecDepth 100000 in
theorem jrX11_lasts (M : sy_M) : sy_run skX11 qX11_lasts [(0, .aload_n 0, 1, []), (1, .invokevirtual 285, 3, []), (4, .ireturn, 1, [])] [(112, 0, jcX11_firstDark)] [] 4 [] 0 [.ref 0] [] M = jfX11_lasts M := rfl
theorem jtX11_lasts : ∀ (M : sy_M) (r : xe_R × sy_M), jfX11_lasts M = some r → sy_E (6) qX11_lasts 0 [.ref 0] [] M r := by
  intro  M r h
  exact sy_run_by (d := 5) ((jrX11_lasts M).trans h) hkX11 (by decide +kernel) (sy_cs_cons (jeX11_firstDark.deep (by decide)) sy_cs_nil) sy_us_nil
def jcX11_lasts (as : List Value) (M : sy_M) (K : sy_O → sy_O) : sy_O := sy_xc 0 as fun l => sy_xn l (K (jfX11_lasts M))
theorem jeX11_lasts : sy_snd (6) 110 (jcX11_lasts) := by
  intro as M K r h
  obtain ⟨l, e, h1⟩ := sy_xc_ok h; subst e
  obtain ⟨e, h2⟩ := sy_xn_ok h1; subst e
  exact ⟨_, h2, fun r1 h0 => ⟨qX11_lasts, rfl, rfl, jtX11_lasts  M r1 h0⟩⟩
/-! X12_firstDark StairMeterModel firstDark ()I [('R', 121)] -/
def juX12_firstDark_35 (k : Int32 → sy_M → sy_O) (ls st : List Value) (M : sy_M) : sy_O := sy_xc 121 ls fun l => sy_xi l fun a1 l => sy_xv l fun _ l => sy_xn l (sy_xn st (k a1 M))
theorem jwX12_firstDark_35 {d : Nat} {k : Int32 → sy_M → sy_O} (hk : ∀ (w2 : Value) (a1 : Int32) (M : sy_M) (r : xe_R × sy_M), k a1 M = some r → sy_E (d) qX12_firstDark 35 [.ref 121, .int a1, w2] [] M r) : ∀ ls st M r, juX12_firstDark_35 k ls st M = some r → sy_E d qX12_firstDark 35 ls st M r := by
  intro ls st M r h
  obtain ⟨l, e, h1⟩ := sy_xc_ok h; subst e
  obtain ⟨a1, l, e, h2⟩ := sy_xi_ok h1; subst e
  obtain ⟨w2, l, e, h3⟩ := sy_xv_ok h2; subst e
  obtain ⟨e, h4⟩ := sy_xn_ok h3; subst e
  obtain ⟨e, h5⟩ := sy_xn_ok h4; subst e
  exact hk _ a1 M r h5
def juX12_firstDark_29 (k : Int32 → Int32 → sy_M → sy_O) (ls st : List Value) (M : sy_M) : sy_O := sy_xc 121 ls fun l => sy_xi l fun a1 l => sy_xi l fun a2 l => sy_xn l (sy_xn st (k a1 a2 M))
theorem jwX12_firstDark_29 {d : Nat} {k : Int32 → Int32 → sy_M → sy_O} (hk : ∀ (a1 : Int32) (a2 : Int32) (M : sy_M) (r : xe_R × sy_M), k a1 a2 M = some r → sy_E (d) qX12_firstDark 29 [.ref 121, .int a1, .int a2] [] M r) : ∀ ls st M r, juX12_firstDark_29 k ls st M = some r → sy_E d qX12_firstDark 29 ls st M r := by
  intro ls st M r h
  obtain ⟨l, e, h1⟩ := sy_xc_ok h; subst e
  obtain ⟨a1, l, e, h2⟩ := sy_xi_ok h1; subst e
  obtain ⟨a2, l, e, h3⟩ := sy_xi_ok h2; subst e
  obtain ⟨e, h4⟩ := sy_xn_ok h3; subst e
  obtain ⟨e, h5⟩ := sy_xn_ok h4; subst e
  exact hk a1 a2 M r h5
def juX12_firstDark_8 (k : Int32 → Int32 → sy_M → sy_O) (ls st : List Value) (M : sy_M) : sy_O := sy_xc 121 ls fun l => sy_xi l fun a1 l => sy_xi l fun a2 l => sy_xn l (sy_xn st (k a1 a2 M))
theorem jwX12_firstDark_8 {d : Nat} {k : Int32 → Int32 → sy_M → sy_O} (hk : ∀ (a1 : Int32) (a2 : Int32) (M : sy_M) (r : xe_R × sy_M), k a1 a2 M = some r → sy_E (d) qX12_firstDark 8 [.ref 121, .int a1, .int a2] [] M r) : ∀ ls st M r, juX12_firstDark_8 k ls st M = some r → sy_E d qX12_firstDark 8 ls st M r := by
  intro ls st M r h
  obtain ⟨l, e, h1⟩ := sy_xc_ok h; subst e
  obtain ⟨a1, l, e, h2⟩ := sy_xi_ok h1; subst e
  obtain ⟨a2, l, e, h3⟩ := sy_xi_ok h2; subst e
  obtain ⟨e, h4⟩ := sy_xn_ok h3; subst e
  obtain ⟨e, h5⟩ := sy_xn_ok h4; subst e
  exact hk a1 a2 M r h5
def jfX12_firstDark_35 (a1 : Int32) (M : sy_M) : sy_O :=
  sy_bv (jfX12_comesBack M) fun M1 =>
  let M2 := sy_upd M1 121 19 0
  sy_ri a1 M2
set_option maxRecDepth 100000 in
theorem jrX12_firstDark_35 (w2 : Value) (a1 : Int32) (M : sy_M) : sy_run skX12 qX12_firstDark [(35, .aload_n 0, 1, [true, true, false]), (36, .invokevirtual 182, 3, []), (39, .aload_n 0, 1, []), (40, .iconst 0, 1, []), (41, .putfield 268, 3, []), (44, .iload_n 1, 1, []), (45, .ireturn, 1, [])] [(216, 1, jcX12_comesBack)] [] 8 [] 35 [.ref 121, .int a1, w2] [] M = jfX12_firstDark_35 a1 M := rfl
theorem jtX12_firstDark_35 : ∀ (w2 : Value) (a1 : Int32) (M : sy_M) (r : xe_R × sy_M), jfX12_firstDark_35 a1 M = some r → sy_E (51) qX12_firstDark 35 [.ref 121, .int a1, w2] [] M r := by
  intro w2 a1 M r h
  exact sy_run_by (d := 50) ((jrX12_firstDark_35 _ _ M).trans h) hkX12 (by decide +kernel) (sy_cs_cons (jeX12_comesBack.deep (by decide)) sy_cs_nil) sy_us_nil
def jfX12_firstDark_29 (k8 : Int32 → Int32 → sy_M → sy_O) (a1 : Int32) (a2 : Int32) (M : sy_M) : sy_O :=
  let v1 := a2 + 1
  k8 a1 v1 M
set_option maxRecDepth 100000 in
theorem jrX12_firstDark_29 (k8 : Int32 → Int32 → sy_M → sy_O) (a1 : Int32) (a2 : Int32) (M : sy_M) : sy_run skX12 qX12_firstDark [(29, .iinc 2 1, 3, []), (32, .goto (-24), 3, [])] [] [(8, juX12_firstDark_8 k8)] 3 [] 29 [.ref 121, .int a1, .int a2] [] M = jfX12_firstDark_29 k8 a1 a2 M := rfl
theorem jtX12_firstDark_29 {k8 : Int32 → Int32 → sy_M → sy_O} (hk8 : ∀ (a1 : Int32) (a2 : Int32) (M : sy_M) (r : xe_R × sy_M), k8 a1 a2 M = some r → sy_E (51) qX12_firstDark 8 [.ref 121, .int a1, .int a2] [] M r) : ∀ (a1 : Int32) (a2 : Int32) (M : sy_M) (r : xe_R × sy_M), jfX12_firstDark_29 k8 a1 a2 M = some r → sy_E (51) qX12_firstDark 29 [.ref 121, .int a1, .int a2] [] M r := by
  intro a1 a2 M r h
  exact sy_run_by (d := 50) ((jrX12_firstDark_29 _ _ _ M).trans h) hkX12 (by decide +kernel) sy_cs_nil (sy_us_cons (jwX12_firstDark_8 hk8) sy_us_nil)
def jgX12_firstDark_8 (k8 : Int32 → Int32 → sy_M → sy_O) (a1 : Int32) (a2 : Int32) (M : sy_M) : sy_O :=
  if 96 < a2 then
    jfX12_firstDark_35 a1 M
  else
    if a1 = (-1) then
      sy_bi (jfX12_passes 0 M) fun v2 M1 =>
      if v2 = 0 then
        jfX12_firstDark_29 k8 a1 a2 M1
      else
        jfX12_firstDark_29 k8 a2 a2 M1
    else
      jfX12_firstDark_35 a1 M
def jfX12_firstDark_8 : Nat → Int32 → Int32 → sy_M → sy_O
  | 0, _, _, _ => none
  | n + 1, a1, a2, M => jgX12_firstDark_8 (jfX12_firstDark_8 n) a1 a2 M
set_option maxRecDepth 100000 in
theorem jrX12_firstDark_8 (k8 : Int32 → Int32 → sy_M → sy_O) (a1 : Int32) (a2 : Int32) (M : sy_M) : sy_run skX12 qX12_firstDark [(8, .iload_n 2, 1, []), (9, .bipush 96, 2, []), (11, .if_icmp .gt 24, 3, []), (14, .iload_n 1, 1, []), (15, .iconst (-1), 1, []), (16, .if_icmp .ne 19, 3, []), (19, .aload_n 0, 1, []), (20, .iconst 0, 1, []), (21, .invokevirtual 277, 3, []), (24, .ifCond .eq 5, 3, []), (27, .iload_n 2, 1, []), (28, .istore_n 1, 1, [])] [(234, 0, jcX12_passes)] [(35, juX12_firstDark_35 (jfX12_firstDark_35)), (29, juX12_firstDark_29 (jfX12_firstDark_29 k8))] 13 [] 8 [.ref 121, .int a1, .int a2] [] M = jgX12_firstDark_8 k8 a1 a2 M := rfl
theorem jtX12_firstDark_8 : ∀ n : Nat, ∀ (a1 : Int32) (a2 : Int32) (M : sy_M) (r : xe_R × sy_M), jfX12_firstDark_8 n a1 a2 M = some r → sy_E (51) qX12_firstDark 8 [.ref 121, .int a1, .int a2] [] M r := by
  intro n
  induction n with
  | zero => intro a1 a2 M r h; exact absurd (show (none : sy_O) = some r from h) (by simp)
  | succ n ih => intro a1 a2 M r h; exact sy_run_by (d := 50) ((jrX12_firstDark_8 _ _ _ M).trans h) hkX12 (by decide +kernel) (sy_cs_cons (jeX12_passes.deep (by decide)) sy_cs_nil) (sy_us_cons (jwX12_firstDark_35 (jtX12_firstDark_35)) (sy_us_cons (jwX12_firstDark_29 (jtX12_firstDark_29 ih)) sy_us_nil))
def jfX12_firstDark (M : sy_M) : sy_O :=
  sy_bv (jfX12_putsAside M) fun M1 =>
  jfX12_firstDark_8 sy_F (-1) 1 M1
set_option maxRecDepth 100000 in
theorem jrX12_firstDark (M : sy_M) : sy_run skX12 qX12_firstDark [(0, .aload_n 0, 1, []), (1, .invokevirtual 172, 3, []), (4, .iconst (-1), 1, []), (5, .istore_n 1, 1, []), (6, .iconst 1, 1, []), (7, .istore_n 2, 1, [])] [(215, 1, jcX12_putsAside)] [(8, juX12_firstDark_8 (jfX12_firstDark_8 sy_F))] 7 [] 0 [.ref 121, xe_no, xe_no] [] M = jfX12_firstDark M := rfl
theorem jtX12_firstDark : ∀ (M : sy_M) (r : xe_R × sy_M), jfX12_firstDark M = some r → sy_E (51) qX12_firstDark 0 [.ref 121, xe_no, xe_no] [] M r := by
  intro  M r h
  exact sy_run_by (d := 50) ((jrX12_firstDark M).trans h) hkX12 (by decide +kernel) (sy_cs_cons (jeX12_putsAside.deep (by decide)) sy_cs_nil) (sy_us_cons (jwX12_firstDark_8 (jtX12_firstDark_8 sy_F)) sy_us_nil)
def jcX12_firstDark (as : List Value) (M : sy_M) (K : sy_O → sy_O) : sy_O := sy_xc 121 as fun l => sy_xn l (K (jfX12_firstDark M))
theorem jeX12_firstDark : sy_snd (51) 257 (jcX12_firstDark) := by
  intro as M K r h
  obtain ⟨l, e, h1⟩ := sy_xc_ok h; subst e
  obtain ⟨e, h2⟩ := sy_xn_ok h1; subst e
  exact ⟨_, h2, fun r1 h0 => ⟨qX12_firstDark, rfl, rfl, jtX12_firstDark  M r1 h0⟩⟩
/-! X12_lasts StairMeterModel lasts ()I [('R', 121)] -/
def jfX12_lasts (M : sy_M) : sy_O :=
  let M1 := sy_upd M 121 0 0
  let M2 := sy_upd M1 121 19 1
  sy_bi (jfX12_firstDark M2) fun v4 M3 =>
  sy_ri v4 M3
set_option maxRecDepth 100000 in
theorem jrX12_lasts (M : sy_M) : sy_run skX12 qX12_lasts [(0, .aload_n 0, 1, []), (1, .iconst 0, 1, []), (2, .putfield 45, 3, []), (5, .aload_n 0, 1, []), (6, .iconst 1, 1, []), (7, .putfield 268, 3, []), (10, .aload_n 0, 1, []), (11, .invokevirtual 324, 3, []), (14, .ireturn, 1, [])] [(257, 0, jcX12_firstDark)] [] 10 [] 0 [.ref 121] [] M = jfX12_lasts M := rfl
theorem jtX12_lasts : ∀ (M : sy_M) (r : xe_R × sy_M), jfX12_lasts M = some r → sy_E (52) qX12_lasts 0 [.ref 121] [] M r := by
  intro  M r h
  exact sy_run_by (d := 51) ((jrX12_lasts M).trans h) hkX12 (by decide +kernel) (sy_cs_cons (jeX12_firstDark.deep (by decide)) sy_cs_nil) sy_us_nil
def jcX12_lasts (as : List Value) (M : sy_M) (K : sy_O → sy_O) : sy_O := sy_xc 121 as fun l => sy_xn l (K (jfX12_lasts M))
theorem jeX12_lasts : sy_snd (52) 258 (jcX12_lasts) := by
  intro as M K r h
  obtain ⟨l, e, h1⟩ := sy_xc_ok h; subst e
  obtain ⟨e, h2⟩ := sy_xn_ok h1; subst e
  exact ⟨_, h2, fun r1 h0 => ⟨qX12_lasts, rfl, rfl, jtX12_lasts  M r1 h0⟩⟩
/-! X11_out StairMeter out ()I [('R', 0)] -/
def jfX11_out (M : sy_M) : sy_O :=
  sy_bi (jfX11_firstDark M) fun v2 M1 =>
  sy_ri v2 M1
set_option maxRecDepth 100000 in
theorem jrX11_out (M : sy_M) : sy_run skX11 qX11_out [(0, .aload_n 0, 1, []), (1, .invokevirtual 285, 3, []), (4, .ireturn, 1, [])] [(112, 0, jcX11_firstDark)] [] 4 [] 0 [.ref 0] [] M = jfX11_out M := rfl
theorem jtX11_out : ∀ (M : sy_M) (r : xe_R × sy_M), jfX11_out M = some r → sy_E (6) qX11_out 0 [.ref 0] [] M r := by
  intro  M r h
  exact sy_run_by (d := 5) ((jrX11_out M).trans h) hkX11 (by decide +kernel) (sy_cs_cons (jeX11_firstDark.deep (by decide)) sy_cs_nil) sy_us_nil
def jcX11_out (as : List Value) (M : sy_M) (K : sy_O → sy_O) : sy_O := sy_xc 0 as fun l => sy_xn l (K (jfX11_out M))
theorem jeX11_out : sy_snd (6) 111 (jcX11_out) := by
  intro as M K r h
  obtain ⟨l, e, h1⟩ := sy_xc_ok h; subst e
  obtain ⟨e, h2⟩ := sy_xn_ok h1; subst e
  exact ⟨_, h2, fun r1 h0 => ⟨qX11_out, rfl, rfl, jtX11_out  M r1 h0⟩⟩
/-! X12_out StairMeterModel out ()I [('R', 121)] -/
def jfX12_out (M : sy_M) : sy_O :=
  let M1 := sy_upd M 121 0 0
  sy_bi (jfX12_firstDark M1) fun v3 M2 =>
  sy_ri v3 M2
set_option maxRecDepth 100000 in
theorem jrX12_out (M : sy_M) : sy_run skX12 qX12_out [(0, .aload_n 0, 1, []), (1, .iconst 0, 1, []), (2, .putfield 45, 3, []), (5, .aload_n 0, 1, []), (6, .invokevirtual 324, 3, []), (9, .ireturn, 1, [])] [(257, 0, jcX12_firstDark)] [] 7 [] 0 [.ref 121] [] M = jfX12_out M := rfl
theorem jtX12_out : ∀ (M : sy_M) (r : xe_R × sy_M), jfX12_out M = some r → sy_E (52) qX12_out 0 [.ref 121] [] M r := by
  intro  M r h
  exact sy_run_by (d := 51) ((jrX12_out M).trans h) hkX12 (by decide +kernel) (sy_cs_cons (jeX12_firstDark.deep (by decide)) sy_cs_nil) sy_us_nil
def jcX12_out (as : List Value) (M : sy_M) (K : sy_O → sy_O) : sy_O := sy_xc 121 as fun l => sy_xn l (K (jfX12_out M))
theorem jeX12_out : sy_snd (52) 259 (jcX12_out) := by
  intro as M K r h
  obtain ⟨l, e, h1⟩ := sy_xc_ok h; subst e
  obtain ⟨e, h2⟩ := sy_xn_ok h1; subst e
  exact ⟨_, h2, fun r1 h0 => ⟨qX12_out, rfl, rfl, jtX12_out  M r1 h0⟩⟩
/-! X11_feeder StairMeter feeder ()I [('R', 0)] -/
def juX11_feeder_6 (k : Int32 → sy_M → sy_O) (ls st : List Value) (M : sy_M) : sy_O := sy_xc 0 ls fun l => sy_xi l fun a1 l => sy_xv l fun _ l => sy_xn l (sy_xn st (k a1 M))
theorem jwX11_feeder_6 {d : Nat} {k : Int32 → sy_M → sy_O} (hk : ∀ (w2 : Value) (a1 : Int32) (M : sy_M) (r : xe_R × sy_M), k a1 M = some r → sy_E (d) qX11_feeder 6 [.ref 0, .int a1, w2] [] M r) : ∀ ls st M r, juX11_feeder_6 k ls st M = some r → sy_E d qX11_feeder 6 ls st M r := by
  intro ls st M r h
  obtain ⟨l, e, h1⟩ := sy_xc_ok h; subst e
  obtain ⟨a1, l, e, h2⟩ := sy_xi_ok h1; subst e
  obtain ⟨w2, l, e, h3⟩ := sy_xv_ok h2; subst e
  obtain ⟨e, h4⟩ := sy_xn_ok h3; subst e
  obtain ⟨e, h5⟩ := sy_xn_ok h4; subst e
  exact hk _ a1 M r h5
def jgX11_feeder_6 (k6 : Int32 → sy_M → sy_O) (a1 : Int32) (M : sy_M) : sy_O :=
  if 96 < a1 then
    sy_ri (-1) M
  else
    sy_bi (jfX8_pass 19 29 0 M) fun v2 M1 =>
    if v2 < 0 then
      let v3 := a1 + 1
      k6 v3 M1
    else
      sy_ri v2 M1
def jfX11_feeder_6 : Nat → Int32 → sy_M → sy_O
  | 0, _, _ => none
  | n + 1, a1, M => jgX11_feeder_6 (jfX11_feeder_6 n) a1 M
set_option maxRecDepth 100000 in
theorem jrX11_feeder_6 (k6 : Int32 → sy_M → sy_O) (w2 : Value) (a1 : Int32) (M : sy_M) : sy_run skX11 qX11_feeder [(6, .iload_n 1, 1, [true, true, false]), (7, .bipush 96, 2, []), (9, .if_icmp .gt 32, 3, []), (12, .aload_n 0, 1, []), (13, .getfield 75, 3, []), (16, .aload_n 0, 1, []), (17, .getfield 35, 3, []), (20, .aload_n 0, 1, []), (21, .getfield 44, 3, []), (24, .iconst 0, 1, []), (25, .invokevirtual 255, 3, []), (28, .istore_n 2, 1, []), (29, .iload_n 2, 1, []), (30, .ifCond .lt 5, 3, []), (33, .iload_n 2, 1, []), (34, .ireturn, 1, []), (35, .iinc 1 1, 3, [true, true, false]), (38, .goto (-32), 3, []), (41, .iconst (-1), 1, [false, false, false]), (42, .ireturn, 1, [])] [(66, 0, jcX8_pass)] [(6, juX11_feeder_6 k6)] 21 [] 6 [.ref 0, .int a1, w2] [] M = jgX11_feeder_6 k6 a1 M := rfl
theorem jtX11_feeder_6 : ∀ n : Nat, ∀ (w2 : Value) (a1 : Int32) (M : sy_M) (r : xe_R × sy_M), jfX11_feeder_6 n a1 M = some r → sy_E (5) qX11_feeder 6 [.ref 0, .int a1, w2] [] M r := by
  intro n
  induction n with
  | zero => intro w2 a1 M r h; exact absurd (show (none : sy_O) = some r from h) (by simp)
  | succ n ih => intro w2 a1 M r h; exact sy_run_by (d := 4) ((jrX11_feeder_6 _ _ _ M).trans h) hkX11 (by decide +kernel) (sy_cs_cons (jeX8_pass.deep (by decide)) sy_cs_nil) (sy_us_cons (jwX11_feeder_6 ih) sy_us_nil)
def jfX11_feeder (M : sy_M) : sy_O :=
  sy_bv (jfX11_start M) fun M1 =>
  jfX11_feeder_6 sy_F 1 M1
set_option maxRecDepth 100000 in
theorem jrX11_feeder (M : sy_M) : sy_run skX11 qX11_feeder [(0, .aload_n 0, 1, []), (1, .invokevirtual 289, 3, []), (4, .iconst 1, 1, []), (5, .istore_n 1, 1, [])] [(119, 1, jcX11_start)] [(6, juX11_feeder_6 (jfX11_feeder_6 sy_F))] 5 [] 0 [.ref 0, xe_no, xe_no] [] M = jfX11_feeder M := rfl
theorem jtX11_feeder : ∀ (M : sy_M) (r : xe_R × sy_M), jfX11_feeder M = some r → sy_E (5) qX11_feeder 0 [.ref 0, xe_no, xe_no] [] M r := by
  intro  M r h
  exact sy_run_by (d := 4) ((jrX11_feeder M).trans h) hkX11 (by decide +kernel) (sy_cs_cons (jeX11_start.deep (by decide)) sy_cs_nil) (sy_us_cons (jwX11_feeder_6 (jtX11_feeder_6 sy_F)) sy_us_nil)
def jcX11_feeder (as : List Value) (M : sy_M) (K : sy_O → sy_O) : sy_O := sy_xc 0 as fun l => sy_xn l (K (jfX11_feeder M))
theorem jeX11_feeder : sy_snd (5) 113 (jcX11_feeder) := by
  intro as M K r h
  obtain ⟨l, e, h1⟩ := sy_xc_ok h; subst e
  obtain ⟨e, h2⟩ := sy_xn_ok h1; subst e
  exact ⟨_, h2, fun r1 h0 => ⟨qX11_feeder, rfl, rfl, jtX11_feeder  M r1 h0⟩⟩
/-! X12_feeder StairMeterModel feeder ()I [('R', 121)] -/
def jfX12_feeder (M : sy_M) : sy_O :=
  let M1 := sy_upd M 121 0 0
  sy_bv (jfX12_putsAside M1) fun M2 =>
  sy_bi (jfX12_goes 96 0 M2) fun v4 M3 =>
  sy_bv (jfX12_comesBack M3) fun M5 =>
  sy_ri (M5 121 21) M5
set_option maxRecDepth 100000 in
theorem jrX12_feeder (M : sy_M) : sy_run skX12 qX12_feeder [(0, .aload_n 0, 1, []), (1, .iconst 0, 1, []), (2, .putfield 45, 3, []), (5, .aload_n 0, 1, []), (6, .invokevirtual 172, 3, []), (9, .aload_n 0, 1, []), (10, .bipush 96, 2, []), (12, .iconst 0, 1, []), (13, .invokevirtual 314, 3, []), (16, .istore_n 1, 1, []), (17, .aload_n 0, 1, []), (18, .invokevirtual 182, 3, []), (21, .aload_n 0, 1, []), (22, .getfield 247, 3, []), (25, .ireturn, 1, [])] [(215, 1, jcX12_putsAside), (235, 0, jcX12_goes), (216, 1, jcX12_comesBack)] [] 16 [] 0 [.ref 121, xe_no] [] M = jfX12_feeder M := rfl
theorem jtX12_feeder : ∀ (M : sy_M) (r : xe_R × sy_M), jfX12_feeder M = some r → sy_E (52) qX12_feeder 0 [.ref 121, xe_no] [] M r := by
  intro  M r h
  exact sy_run_by (d := 51) ((jrX12_feeder M).trans h) hkX12 (by decide +kernel) (sy_cs_cons (jeX12_putsAside.deep (by decide)) (sy_cs_cons (jeX12_goes.deep (by decide)) (sy_cs_cons (jeX12_comesBack.deep (by decide)) sy_cs_nil))) sy_us_nil
def jcX12_feeder (as : List Value) (M : sy_M) (K : sy_O → sy_O) : sy_O := sy_xc 121 as fun l => sy_xn l (K (jfX12_feeder M))
theorem jeX12_feeder : sy_snd (52) 260 (jcX12_feeder) := by
  intro as M K r h
  obtain ⟨l, e, h1⟩ := sy_xc_ok h; subst e
  obtain ⟨e, h2⟩ := sy_xn_ok h1; subst e
  exact ⟨_, h2, fun r1 h0 => ⟨qX12_feeder, rfl, rfl, jtX12_feeder  M r1 h0⟩⟩
/-! X11_firstColder StairMeter firstColder ()I [('R', 0)] -/
def juX11_firstColder_2 (k : Int32 → sy_M → sy_O) (ls st : List Value) (M : sy_M) : sy_O := sy_xc 0 ls fun l => sy_xi l fun a1 l => sy_xn l (sy_xn st (k a1 M))
theorem jwX11_firstColder_2 {d : Nat} {k : Int32 → sy_M → sy_O} (hk : ∀ (a1 : Int32) (M : sy_M) (r : xe_R × sy_M), k a1 M = some r → sy_E (d) qX11_firstColder 2 [.ref 0, .int a1] [] M r) : ∀ ls st M r, juX11_firstColder_2 k ls st M = some r → sy_E d qX11_firstColder 2 ls st M r := by
  intro ls st M r h
  obtain ⟨l, e, h1⟩ := sy_xc_ok h; subst e
  obtain ⟨a1, l, e, h2⟩ := sy_xi_ok h1; subst e
  obtain ⟨e, h3⟩ := sy_xn_ok h2; subst e
  obtain ⟨e, h4⟩ := sy_xn_ok h3; subst e
  exact hk a1 M r h4
def jgX11_firstColder_2 (k2 : Int32 → sy_M → sy_O) (a1 : Int32) (M : sy_M) : sy_O :=
  if a1 < (M 9 3) then
    sy_bi (jfX2_get 19 a1 7 M) fun v2 M1 =>
    sy_bi (jfX2_get 9 a1 7 M1) fun v4 M3 =>
    if v4 < v2 then
      sy_ri a1 M3
    else
      let v5 := a1 + 1
      k2 v5 M3
  else
    sy_ri (-1) M
def jfX11_firstColder_2 : Nat → Int32 → sy_M → sy_O
  | 0, _, _ => none
  | n + 1, a1, M => jgX11_firstColder_2 (jfX11_firstColder_2 n) a1 M
set_option maxRecDepth 100000 in
theorem jrX11_firstColder_2 (k2 : Int32 → sy_M → sy_O) (a1 : Int32) (M : sy_M) : sy_run skX11 qX11_firstColder [(2, .iload_n 1, 1, []), (3, .aload_n 0, 1, []), (4, .getfield 28, 3, []), (7, .getfield 207, 3, []), (10, .if_icmp .ge 34, 3, []), (13, .aload_n 0, 1, []), (14, .getfield 35, 3, []), (17, .iload_n 1, 1, []), (18, .bipush 7, 2, []), (20, .invokevirtual 152, 3, []), (23, .aload_n 0, 1, []), (24, .getfield 28, 3, []), (27, .iload_n 1, 1, []), (28, .bipush 7, 2, []), (30, .invokevirtual 152, 3, []), (33, .if_icmp .le 5, 3, []), (36, .iload_n 1, 1, []), (37, .ireturn, 1, []), (38, .iinc 1 1, 3, []), (41, .goto (-39), 3, []), (44, .iconst (-1), 1, [false, false]), (45, .ireturn, 1, [])] [(10, 0, jcX2_get)] [(2, juX11_firstColder_2 k2)] 23 [] 2 [.ref 0, .int a1] [] M = jgX11_firstColder_2 k2 a1 M := rfl
theorem jtX11_firstColder_2 : ∀ n : Nat, ∀ (a1 : Int32) (M : sy_M) (r : xe_R × sy_M), jfX11_firstColder_2 n a1 M = some r → sy_E (2) qX11_firstColder 2 [.ref 0, .int a1] [] M r := by
  intro n
  induction n with
  | zero => intro a1 M r h; exact absurd (show (none : sy_O) = some r from h) (by simp)
  | succ n ih => intro a1 M r h; exact sy_run_by (d := 1) ((jrX11_firstColder_2 _ _ M).trans h) hkX11 (by decide +kernel) (sy_cs_cons (jeX2_get.deep (by decide)) sy_cs_nil) (sy_us_cons (jwX11_firstColder_2 ih) sy_us_nil)
def jfX11_firstColder (M : sy_M) : sy_O :=
  jfX11_firstColder_2 sy_F 0 M
set_option maxRecDepth 100000 in
theorem jrX11_firstColder (M : sy_M) : sy_run skX11 qX11_firstColder [(0, .iconst 0, 1, []), (1, .istore_n 1, 1, [])] [] [(2, juX11_firstColder_2 (jfX11_firstColder_2 sy_F))] 3 [] 0 [.ref 0, xe_no] [] M = jfX11_firstColder M := rfl
theorem jtX11_firstColder : ∀ (M : sy_M) (r : xe_R × sy_M), jfX11_firstColder M = some r → sy_E (2) qX11_firstColder 0 [.ref 0, xe_no] [] M r := by
  intro  M r h
  exact sy_run_by (d := 1) ((jrX11_firstColder M).trans h) hkX11 (by decide +kernel) sy_cs_nil (sy_us_cons (jwX11_firstColder_2 (jtX11_firstColder_2 sy_F)) sy_us_nil)
def jcX11_firstColder (as : List Value) (M : sy_M) (K : sy_O → sy_O) : sy_O := sy_xc 0 as fun l => sy_xn l (K (jfX11_firstColder M))
theorem jeX11_firstColder : sy_snd (2) 115 (jcX11_firstColder) := by
  intro as M K r h
  obtain ⟨l, e, h1⟩ := sy_xc_ok h; subst e
  obtain ⟨e, h2⟩ := sy_xn_ok h1; subst e
  exact ⟨_, h2, fun r1 h0 => ⟨qX11_firstColder, rfl, rfl, jtX11_firstColder  M r1 h0⟩⟩
/-! X11_shiver StairMeter shiver ()I [('R', 0)] -/
def juX11_shiver_6 (k : Int32 → sy_M → sy_O) (ls st : List Value) (M : sy_M) : sy_O := sy_xc 0 ls fun l => sy_xi l fun a1 l => sy_xv l fun _ l => sy_xn l (sy_xn st (k a1 M))
theorem jwX11_shiver_6 {d : Nat} {k : Int32 → sy_M → sy_O} (hk : ∀ (w2 : Value) (a1 : Int32) (M : sy_M) (r : xe_R × sy_M), k a1 M = some r → sy_E (d) qX11_shiver 6 [.ref 0, .int a1, w2] [] M r) : ∀ ls st M r, juX11_shiver_6 k ls st M = some r → sy_E d qX11_shiver 6 ls st M r := by
  intro ls st M r h
  obtain ⟨l, e, h1⟩ := sy_xc_ok h; subst e
  obtain ⟨a1, l, e, h2⟩ := sy_xi_ok h1; subst e
  obtain ⟨w2, l, e, h3⟩ := sy_xv_ok h2; subst e
  obtain ⟨e, h4⟩ := sy_xn_ok h3; subst e
  obtain ⟨e, h5⟩ := sy_xn_ok h4; subst e
  exact hk _ a1 M r h5
def jgX11_shiver_6 (k6 : Int32 → sy_M → sy_O) (a1 : Int32) (M : sy_M) : sy_O :=
  if 96 < a1 then
    sy_ri (-1) M
  else
    sy_bi (jfX8_pass 19 29 0 M) fun v2 M1 =>
    sy_bi (jfX11_firstColder M1) fun v4 M3 =>
    if v4 = (-1) then
      let v5 := a1 + 1
      k6 v5 M3
    else
      sy_ri v4 M3
def jfX11_shiver_6 : Nat → Int32 → sy_M → sy_O
  | 0, _, _ => none
  | n + 1, a1, M => jgX11_shiver_6 (jfX11_shiver_6 n) a1 M
set_option maxRecDepth 100000 in
theorem jrX11_shiver_6 (k6 : Int32 → sy_M → sy_O) (w2 : Value) (a1 : Int32) (M : sy_M) : sy_run skX11 qX11_shiver [(6, .iload_n 1, 1, [true, true, false]), (7, .bipush 96, 2, []), (9, .if_icmp .gt 38, 3, []), (12, .aload_n 0, 1, []), (13, .getfield 75, 3, []), (16, .aload_n 0, 1, []), (17, .getfield 35, 3, []), (20, .aload_n 0, 1, []), (21, .getfield 44, 3, []), (24, .iconst 0, 1, []), (25, .invokevirtual 255, 3, []), (28, .pop, 1, []), (29, .aload_n 0, 1, []), (30, .invokevirtual 292, 3, []), (33, .istore_n 2, 1, []), (34, .iload_n 2, 1, []), (35, .iconst (-1), 1, []), (36, .if_icmp .eq 5, 3, []), (39, .iload_n 2, 1, []), (40, .ireturn, 1, []), (41, .iinc 1 1, 3, [true, true, false]), (44, .goto (-38), 3, []), (47, .iconst (-1), 1, [false, false, false]), (48, .ireturn, 1, [])] [(66, 0, jcX8_pass), (115, 0, jcX11_firstColder)] [(6, juX11_shiver_6 k6)] 25 [] 6 [.ref 0, .int a1, w2] [] M = jgX11_shiver_6 k6 a1 M := rfl
theorem jtX11_shiver_6 : ∀ n : Nat, ∀ (w2 : Value) (a1 : Int32) (M : sy_M) (r : xe_R × sy_M), jfX11_shiver_6 n a1 M = some r → sy_E (5) qX11_shiver 6 [.ref 0, .int a1, w2] [] M r := by
  intro n
  induction n with
  | zero => intro w2 a1 M r h; exact absurd (show (none : sy_O) = some r from h) (by simp)
  | succ n ih => intro w2 a1 M r h; exact sy_run_by (d := 4) ((jrX11_shiver_6 _ _ _ M).trans h) hkX11 (by decide +kernel) (sy_cs_cons (jeX8_pass.deep (by decide)) (sy_cs_cons (jeX11_firstColder.deep (by decide)) sy_cs_nil)) (sy_us_cons (jwX11_shiver_6 ih) sy_us_nil)
def jfX11_shiver (M : sy_M) : sy_O :=
  sy_bv (jfX11_start M) fun M1 =>
  jfX11_shiver_6 sy_F 1 M1
set_option maxRecDepth 100000 in
theorem jrX11_shiver (M : sy_M) : sy_run skX11 qX11_shiver [(0, .aload_n 0, 1, []), (1, .invokevirtual 289, 3, []), (4, .iconst 1, 1, []), (5, .istore_n 1, 1, [])] [(119, 1, jcX11_start)] [(6, juX11_shiver_6 (jfX11_shiver_6 sy_F))] 5 [] 0 [.ref 0, xe_no, xe_no] [] M = jfX11_shiver M := rfl
theorem jtX11_shiver : ∀ (M : sy_M) (r : xe_R × sy_M), jfX11_shiver M = some r → sy_E (5) qX11_shiver 0 [.ref 0, xe_no, xe_no] [] M r := by
  intro  M r h
  exact sy_run_by (d := 4) ((jrX11_shiver M).trans h) hkX11 (by decide +kernel) (sy_cs_cons (jeX11_start.deep (by decide)) sy_cs_nil) (sy_us_cons (jwX11_shiver_6 (jtX11_shiver_6 sy_F)) sy_us_nil)
def jcX11_shiver (as : List Value) (M : sy_M) (K : sy_O → sy_O) : sy_O := sy_xc 0 as fun l => sy_xn l (K (jfX11_shiver M))
theorem jeX11_shiver : sy_snd (5) 114 (jcX11_shiver) := by
  intro as M K r h
  obtain ⟨l, e, h1⟩ := sy_xc_ok h; subst e
  obtain ⟨e, h2⟩ := sy_xn_ok h1; subst e
  exact ⟨_, h2, fun r1 h0 => ⟨qX11_shiver, rfl, rfl, jtX11_shiver  M r1 h0⟩⟩
/-! X12_keepsColds StairMeterModel keepsColds ()V [('R', 121)] -/
def juX12_keepsColds_2 (k : Int32 → sy_M → sy_O) (ls st : List Value) (M : sy_M) : sy_O := sy_xc 121 ls fun l => sy_xi l fun a1 l => sy_xn l (sy_xn st (k a1 M))
theorem jwX12_keepsColds_2 {d : Nat} {k : Int32 → sy_M → sy_O} (hk : ∀ (a1 : Int32) (M : sy_M) (r : xe_R × sy_M), k a1 M = some r → sy_E (d) qX12_keepsColds 2 [.ref 121, .int a1] [] M r) : ∀ ls st M r, juX12_keepsColds_2 k ls st M = some r → sy_E d qX12_keepsColds 2 ls st M r := by
  intro ls st M r h
  obtain ⟨l, e, h1⟩ := sy_xc_ok h; subst e
  obtain ⟨a1, l, e, h2⟩ := sy_xi_ok h1; subst e
  obtain ⟨e, h3⟩ := sy_xn_ok h2; subst e
  obtain ⟨e, h4⟩ := sy_xn_ok h3; subst e
  exact hk a1 M r h4
def jgX12_keepsColds_2 (k2 : Int32 → sy_M → sy_O) (a1 : Int32) (M : sy_M) : sy_O :=
  if a1 < (M 122 3) then
    sy_bi (jfX12_of a1 7 M) fun v2 M1 =>
    sy_bx (xe_in a1 7) <|
    let M3 := sy_upd M1 128 (Int32.toNatClampNeg a1) v2
    let v4 := a1 + 1
    k2 v4 M3
  else
    sy_rv M
def jfX12_keepsColds_2 : Nat → Int32 → sy_M → sy_O
  | 0, _, _ => none
  | n + 1, a1, M => jgX12_keepsColds_2 (jfX12_keepsColds_2 n) a1 M
set_option maxRecDepth 100000 in
theorem jrX12_keepsColds_2 (k2 : Int32 → sy_M → sy_O) (a1 : Int32) (M : sy_M) : sy_run skX12 qX12_keepsColds [(2, .iload_n 1, 1, []), (3, .aload_n 0, 1, []), (4, .getfield 7, 3, []), (7, .iconst 3, 1, []), (8, .iaload, 1, []), (9, .if_icmp .ge 22, 3, []), (12, .aload_n 0, 1, []), (13, .getfield 32, 3, []), (16, .iload_n 1, 1, []), (17, .aload_n 0, 1, []), (18, .iload_n 1, 1, []), (19, .bipush 7, 2, []), (21, .invokevirtual 52, 3, []), (24, .iastore, 1, []), (25, .iinc 1 1, 3, []), (28, .goto (-26), 3, []), (31, .return_, 1, [false, false])] [(187, 0, jcX12_of)] [(2, juX12_keepsColds_2 k2)] 18 [] 2 [.ref 121, .int a1] [] M = jgX12_keepsColds_2 k2 a1 M := rfl
theorem jtX12_keepsColds_2 : ∀ n : Nat, ∀ (a1 : Int32) (M : sy_M) (r : xe_R × sy_M), jfX12_keepsColds_2 n a1 M = some r → sy_E (2) qX12_keepsColds 2 [.ref 121, .int a1] [] M r := by
  intro n
  induction n with
  | zero => intro a1 M r h; exact absurd (show (none : sy_O) = some r from h) (by simp)
  | succ n ih => intro a1 M r h; exact sy_run_by (d := 1) ((jrX12_keepsColds_2 _ _ M).trans h) hkX12 (by decide +kernel) (sy_cs_cons (jeX12_of.deep (by decide)) sy_cs_nil) (sy_us_cons (jwX12_keepsColds_2 ih) sy_us_nil)
def jfX12_keepsColds (M : sy_M) : sy_O :=
  jfX12_keepsColds_2 sy_F 0 M
set_option maxRecDepth 100000 in
theorem jrX12_keepsColds (M : sy_M) : sy_run skX12 qX12_keepsColds [(0, .iconst 0, 1, []), (1, .istore_n 1, 1, [])] [] [(2, juX12_keepsColds_2 (jfX12_keepsColds_2 sy_F))] 3 [] 0 [.ref 121, xe_no] [] M = jfX12_keepsColds M := rfl
theorem jtX12_keepsColds : ∀ (M : sy_M) (r : xe_R × sy_M), jfX12_keepsColds M = some r → sy_E (2) qX12_keepsColds 0 [.ref 121, xe_no] [] M r := by
  intro  M r h
  exact sy_run_by (d := 1) ((jrX12_keepsColds M).trans h) hkX12 (by decide +kernel) sy_cs_nil (sy_us_cons (jwX12_keepsColds_2 (jtX12_keepsColds_2 sy_F)) sy_us_nil)
def jcX12_keepsColds (as : List Value) (M : sy_M) (K : sy_O → sy_O) : sy_O := sy_xc 121 as fun l => sy_xn l (K (jfX12_keepsColds M))
theorem jeX12_keepsColds : sy_snd (2) 261 (jcX12_keepsColds) := by
  intro as M K r h
  obtain ⟨l, e, h1⟩ := sy_xc_ok h; subst e
  obtain ⟨e, h2⟩ := sy_xn_ok h1; subst e
  exact ⟨_, h2, fun r1 h0 => ⟨qX12_keepsColds, rfl, rfl, jtX12_keepsColds  M r1 h0⟩⟩
/-! X12_colder StairMeterModel colder ()I [('R', 121)] -/
def juX12_colder_2 (k : Int32 → sy_M → sy_O) (ls st : List Value) (M : sy_M) : sy_O := sy_xc 121 ls fun l => sy_xi l fun a1 l => sy_xn l (sy_xn st (k a1 M))
theorem jwX12_colder_2 {d : Nat} {k : Int32 → sy_M → sy_O} (hk : ∀ (a1 : Int32) (M : sy_M) (r : xe_R × sy_M), k a1 M = some r → sy_E (d) qX12_colder 2 [.ref 121, .int a1] [] M r) : ∀ ls st M r, juX12_colder_2 k ls st M = some r → sy_E d qX12_colder 2 ls st M r := by
  intro ls st M r h
  obtain ⟨l, e, h1⟩ := sy_xc_ok h; subst e
  obtain ⟨a1, l, e, h2⟩ := sy_xi_ok h1; subst e
  obtain ⟨e, h3⟩ := sy_xn_ok h2; subst e
  obtain ⟨e, h4⟩ := sy_xn_ok h3; subst e
  exact hk a1 M r h4
def jgX12_colder_2 (k2 : Int32 → sy_M → sy_O) (a1 : Int32) (M : sy_M) : sy_O :=
  if a1 < (M 122 3) then
    sy_bi (jfX12_of a1 7 M) fun v2 M1 =>
    sy_bx (xe_in a1 7) <|
    if (M1 128 (Int32.toNatClampNeg a1)) < v2 then
      sy_ri a1 M1
    else
      let v3 := a1 + 1
      k2 v3 M1
  else
    sy_ri (-1) M
def jfX12_colder_2 : Nat → Int32 → sy_M → sy_O
  | 0, _, _ => none
  | n + 1, a1, M => jgX12_colder_2 (jfX12_colder_2 n) a1 M
set_option maxRecDepth 100000 in
theorem jrX12_colder_2 (k2 : Int32 → sy_M → sy_O) (a1 : Int32) (M : sy_M) : sy_run skX12 qX12_colder [(2, .iload_n 1, 1, []), (3, .aload_n 0, 1, []), (4, .getfield 7, 3, []), (7, .iconst 3, 1, []), (8, .iaload, 1, []), (9, .if_icmp .ge 27, 3, []), (12, .aload_n 0, 1, []), (13, .iload_n 1, 1, []), (14, .bipush 7, 2, []), (16, .invokevirtual 52, 3, []), (19, .aload_n 0, 1, []), (20, .getfield 32, 3, []), (23, .iload_n 1, 1, []), (24, .iaload, 1, []), (25, .if_icmp .le 5, 3, []), (28, .iload_n 1, 1, []), (29, .ireturn, 1, []), (30, .iinc 1 1, 3, []), (33, .goto (-31), 3, []), (36, .iconst (-1), 1, [false, false]), (37, .ireturn, 1, [])] [(187, 0, jcX12_of)] [(2, juX12_colder_2 k2)] 22 [] 2 [.ref 121, .int a1] [] M = jgX12_colder_2 k2 a1 M := rfl
theorem jtX12_colder_2 : ∀ n : Nat, ∀ (a1 : Int32) (M : sy_M) (r : xe_R × sy_M), jfX12_colder_2 n a1 M = some r → sy_E (2) qX12_colder 2 [.ref 121, .int a1] [] M r := by
  intro n
  induction n with
  | zero => intro a1 M r h; exact absurd (show (none : sy_O) = some r from h) (by simp)
  | succ n ih => intro a1 M r h; exact sy_run_by (d := 1) ((jrX12_colder_2 _ _ M).trans h) hkX12 (by decide +kernel) (sy_cs_cons (jeX12_of.deep (by decide)) sy_cs_nil) (sy_us_cons (jwX12_colder_2 ih) sy_us_nil)
def jfX12_colder (M : sy_M) : sy_O :=
  jfX12_colder_2 sy_F 0 M
set_option maxRecDepth 100000 in
theorem jrX12_colder (M : sy_M) : sy_run skX12 qX12_colder [(0, .iconst 0, 1, []), (1, .istore_n 1, 1, [])] [] [(2, juX12_colder_2 (jfX12_colder_2 sy_F))] 3 [] 0 [.ref 121, xe_no] [] M = jfX12_colder M := rfl
theorem jtX12_colder : ∀ (M : sy_M) (r : xe_R × sy_M), jfX12_colder M = some r → sy_E (2) qX12_colder 0 [.ref 121, xe_no] [] M r := by
  intro  M r h
  exact sy_run_by (d := 1) ((jrX12_colder M).trans h) hkX12 (by decide +kernel) sy_cs_nil (sy_us_cons (jwX12_colder_2 (jtX12_colder_2 sy_F)) sy_us_nil)
def jcX12_colder (as : List Value) (M : sy_M) (K : sy_O → sy_O) : sy_O := sy_xc 121 as fun l => sy_xn l (K (jfX12_colder M))
theorem jeX12_colder : sy_snd (2) 262 (jcX12_colder) := by
  intro as M K r h
  obtain ⟨l, e, h1⟩ := sy_xc_ok h; subst e
  obtain ⟨e, h2⟩ := sy_xn_ok h1; subst e
  exact ⟨_, h2, fun r1 h0 => ⟨qX12_colder, rfl, rfl, jtX12_colder  M r1 h0⟩⟩
/-! X12_shiver StairMeterModel shiver ()I [('R', 121)] -/
def juX12_shiver_45 (k : Int32 → sy_M → sy_O) (ls st : List Value) (M : sy_M) : sy_O := sy_xc 121 ls fun l => sy_xi l fun a1 l => sy_xv l fun _ l => sy_xv l fun _ l => sy_xn l (sy_xn st (k a1 M))
theorem jwX12_shiver_45 {d : Nat} {k : Int32 → sy_M → sy_O} (hk : ∀ (w2 : Value) (w3 : Value) (a1 : Int32) (M : sy_M) (r : xe_R × sy_M), k a1 M = some r → sy_E (d) qX12_shiver 45 [.ref 121, .int a1, w2, w3] [] M r) : ∀ ls st M r, juX12_shiver_45 k ls st M = some r → sy_E d qX12_shiver 45 ls st M r := by
  intro ls st M r h
  obtain ⟨l, e, h1⟩ := sy_xc_ok h; subst e
  obtain ⟨a1, l, e, h2⟩ := sy_xi_ok h1; subst e
  obtain ⟨w2, l, e, h3⟩ := sy_xv_ok h2; subst e
  obtain ⟨w3, l, e, h4⟩ := sy_xv_ok h3; subst e
  obtain ⟨e, h5⟩ := sy_xn_ok h4; subst e
  obtain ⟨e, h6⟩ := sy_xn_ok h5; subst e
  exact hk _ _ a1 M r h6
def juX12_shiver_17 (k : Int32 → Int32 → sy_M → sy_O) (ls st : List Value) (M : sy_M) : sy_O := sy_xc 121 ls fun l => sy_xi l fun a1 l => sy_xi l fun a2 l => sy_xv l fun _ l => sy_xn l (sy_xn st (k a1 a2 M))
theorem jwX12_shiver_17 {d : Nat} {k : Int32 → Int32 → sy_M → sy_O} (hk : ∀ (w3 : Value) (a1 : Int32) (a2 : Int32) (M : sy_M) (r : xe_R × sy_M), k a1 a2 M = some r → sy_E (d) qX12_shiver 17 [.ref 121, .int a1, .int a2, w3] [] M r) : ∀ ls st M r, juX12_shiver_17 k ls st M = some r → sy_E d qX12_shiver 17 ls st M r := by
  intro ls st M r h
  obtain ⟨l, e, h1⟩ := sy_xc_ok h; subst e
  obtain ⟨a1, l, e, h2⟩ := sy_xi_ok h1; subst e
  obtain ⟨a2, l, e, h3⟩ := sy_xi_ok h2; subst e
  obtain ⟨w3, l, e, h4⟩ := sy_xv_ok h3; subst e
  obtain ⟨e, h5⟩ := sy_xn_ok h4; subst e
  obtain ⟨e, h6⟩ := sy_xn_ok h5; subst e
  exact hk _ a1 a2 M r h6
def jfX12_shiver_45 (a1 : Int32) (M : sy_M) : sy_O :=
  sy_bv (jfX12_comesBack M) fun M1 =>
  sy_ri a1 M1
set_option maxRecDepth 100000 in
theorem jrX12_shiver_45 (w2 : Value) (w3 : Value) (a1 : Int32) (M : sy_M) : sy_run skX12 qX12_shiver [(45, .aload_n 0, 1, [true, true, false, false]), (46, .invokevirtual 182, 3, []), (49, .iload_n 1, 1, []), (50, .ireturn, 1, [])] [(216, 1, jcX12_comesBack)] [] 5 [] 45 [.ref 121, .int a1, w2, w3] [] M = jfX12_shiver_45 a1 M := rfl
theorem jtX12_shiver_45 : ∀ (w2 : Value) (w3 : Value) (a1 : Int32) (M : sy_M) (r : xe_R × sy_M), jfX12_shiver_45 a1 M = some r → sy_E (51) qX12_shiver 45 [.ref 121, .int a1, w2, w3] [] M r := by
  intro w2 w3 a1 M r h
  exact sy_run_by (d := 50) ((jrX12_shiver_45 _ _ _ M).trans h) hkX12 (by decide +kernel) (sy_cs_cons (jeX12_comesBack.deep (by decide)) sy_cs_nil) sy_us_nil
def jgX12_shiver_17 (k17 : Int32 → Int32 → sy_M → sy_O) (a1 : Int32) (a2 : Int32) (M : sy_M) : sy_O :=
  if a2 < 96 then
    if a1 = (-1) then
      sy_bi (jfX12_passes 0 M) fun v2 M1 =>
      sy_bi (jfX12_colder M1) fun v4 M3 =>
      let v5 := a2 + 1
      k17 v4 v5 M3
    else
      jfX12_shiver_45 a1 M
  else
    jfX12_shiver_45 a1 M
def jfX12_shiver_17 : Nat → Int32 → Int32 → sy_M → sy_O
  | 0, _, _, _ => none
  | n + 1, a1, a2, M => jgX12_shiver_17 (jfX12_shiver_17 n) a1 a2 M
set_option maxRecDepth 100000 in
theorem jrX12_shiver_17 (k17 : Int32 → Int32 → sy_M → sy_O) (w3 : Value) (a1 : Int32) (a2 : Int32) (M : sy_M) : sy_run skX12 qX12_shiver [(17, .iload_n 2, 1, [true, true, true, false]), (18, .bipush 96, 2, []), (20, .if_icmp .ge 25, 3, []), (23, .iload_n 1, 1, []), (24, .iconst (-1), 1, []), (25, .if_icmp .ne 20, 3, []), (28, .aload_n 0, 1, []), (29, .iconst 0, 1, []), (30, .invokevirtual 277, 3, []), (33, .istore_n 3, 1, []), (34, .aload_n 0, 1, []), (35, .invokevirtual 330, 3, []), (38, .istore_n 1, 1, []), (39, .iinc 2 1, 3, []), (42, .goto (-25), 3, [])] [(234, 0, jcX12_passes), (262, 0, jcX12_colder)] [(45, juX12_shiver_45 (jfX12_shiver_45)), (17, juX12_shiver_17 k17)] 16 [] 17 [.ref 121, .int a1, .int a2, w3] [] M = jgX12_shiver_17 k17 a1 a2 M := rfl
theorem jtX12_shiver_17 : ∀ n : Nat, ∀ (w3 : Value) (a1 : Int32) (a2 : Int32) (M : sy_M) (r : xe_R × sy_M), jfX12_shiver_17 n a1 a2 M = some r → sy_E (51) qX12_shiver 17 [.ref 121, .int a1, .int a2, w3] [] M r := by
  intro n
  induction n with
  | zero => intro w3 a1 a2 M r h; exact absurd (show (none : sy_O) = some r from h) (by simp)
  | succ n ih => intro w3 a1 a2 M r h; exact sy_run_by (d := 50) ((jrX12_shiver_17 _ _ _ _ M).trans h) hkX12 (by decide +kernel) (sy_cs_cons (jeX12_passes.deep (by decide)) (sy_cs_cons (jeX12_colder.deep (by decide)) sy_cs_nil)) (sy_us_cons (jwX12_shiver_45 (jtX12_shiver_45)) (sy_us_cons (jwX12_shiver_17 ih) sy_us_nil))
def jfX12_shiver (M : sy_M) : sy_O :=
  let M1 := sy_upd M 121 0 0
  sy_bv (jfX12_keepsColds M1) fun M2 =>
  sy_bv (jfX12_putsAside M2) fun M3 =>
  jfX12_shiver_17 sy_F (-1) 0 M3
set_option maxRecDepth 100000 in
theorem jrX12_shiver (M : sy_M) : sy_run skX12 qX12_shiver [(0, .aload_n 0, 1, []), (1, .iconst 0, 1, []), (2, .putfield 45, 3, []), (5, .aload_n 0, 1, []), (6, .invokevirtual 327, 3, []), (9, .aload_n 0, 1, []), (10, .invokevirtual 172, 3, []), (13, .iconst (-1), 1, []), (14, .istore_n 1, 1, []), (15, .iconst 0, 1, []), (16, .istore_n 2, 1, [])] [(261, 1, jcX12_keepsColds), (215, 1, jcX12_putsAside)] [(17, juX12_shiver_17 (jfX12_shiver_17 sy_F))] 12 [] 0 [.ref 121, xe_no, xe_no, xe_no] [] M = jfX12_shiver M := rfl
theorem jtX12_shiver : ∀ (M : sy_M) (r : xe_R × sy_M), jfX12_shiver M = some r → sy_E (51) qX12_shiver 0 [.ref 121, xe_no, xe_no, xe_no] [] M r := by
  intro  M r h
  exact sy_run_by (d := 50) ((jrX12_shiver M).trans h) hkX12 (by decide +kernel) (sy_cs_cons (jeX12_keepsColds.deep (by decide)) (sy_cs_cons (jeX12_putsAside.deep (by decide)) sy_cs_nil)) (sy_us_cons (jwX12_shiver_17 (jtX12_shiver_17 sy_F)) sy_us_nil)
def jcX12_shiver (as : List Value) (M : sy_M) (K : sy_O → sy_O) : sy_O := sy_xc 121 as fun l => sy_xn l (K (jfX12_shiver M))
theorem jeX12_shiver : sy_snd (51) 263 (jcX12_shiver) := by
  intro as M K r h
  obtain ⟨l, e, h1⟩ := sy_xc_ok h; subst e
  obtain ⟨e, h2⟩ := sy_xn_ok h1; subst e
  exact ⟨_, h2, fun r1 h0 => ⟨qX12_shiver, rfl, rfl, jtX12_shiver  M r1 h0⟩⟩
/-! X11_after StairMeter after (III)I [('R', 0), 'I', 'I', 'I'] -/
def juX11_after_71 (k : Int32 → Int32 → sy_M → sy_O) (ls st : List Value) (M : sy_M) : sy_O := sy_xv ls fun _ l => sy_xv l fun _ l => sy_xv l fun _ l => sy_xv l fun _ l => sy_xn l (sy_xi st fun s0 l => sy_xi l fun s1 l => sy_xc 19 l fun l => sy_xn l (k s0 s1 M))
theorem jwX11_after_71 {d : Nat} {k : Int32 → Int32 → sy_M → sy_O} (hk : ∀ (w0 : Value) (w1 : Value) (w2 : Value) (w3 : Value) (s0 : Int32) (s1 : Int32) (M : sy_M) (r : xe_R × sy_M), k s0 s1 M = some r → sy_E (d) qX11_after 71 [w0, w1, w2, w3] [.int s0, .int s1, .ref 19] M r) : ∀ ls st M r, juX11_after_71 k ls st M = some r → sy_E d qX11_after 71 ls st M r := by
  intro ls st M r h
  obtain ⟨w0, l, e, h1⟩ := sy_xv_ok h; subst e
  obtain ⟨w1, l, e, h2⟩ := sy_xv_ok h1; subst e
  obtain ⟨w2, l, e, h3⟩ := sy_xv_ok h2; subst e
  obtain ⟨w3, l, e, h4⟩ := sy_xv_ok h3; subst e
  obtain ⟨e, h5⟩ := sy_xn_ok h4; subst e
  obtain ⟨s0, l, e, h6⟩ := sy_xi_ok h5; subst e
  obtain ⟨s1, l, e, h7⟩ := sy_xi_ok h6; subst e
  obtain ⟨l, e, h8⟩ := sy_xc_ok h7; subst e
  obtain ⟨e, h9⟩ := sy_xn_ok h8; subst e
  exact hk _ _ _ _ s0 s1 M r h9
def jfX11_after_71 (s0 : Int32) (s1 : Int32) (M : sy_M) : sy_O :=
  sy_bi (jfX2_get 19 s1 s0 M) fun v2 M1 =>
  sy_ri v2 M1
set_option maxRecDepth 100000 in
theorem jrX11_after_71 (w0 : Value) (w1 : Value) (w2 : Value) (w3 : Value) (s0 : Int32) (s1 : Int32) (M : sy_M) : sy_run skX11 qX11_after [(71, .invokevirtual 152, 3, [false, false, false, false]), (74, .ireturn, 1, [])] [(10, 0, jcX2_get)] [] 3 [] 71 [w0, w1, w2, w3] [.int s0, .int s1, .ref 19] M = jfX11_after_71 s0 s1 M := rfl
theorem jtX11_after_71 : ∀ (w0 : Value) (w1 : Value) (w2 : Value) (w3 : Value) (s0 : Int32) (s1 : Int32) (M : sy_M) (r : xe_R × sy_M), jfX11_after_71 s0 s1 M = some r → sy_E (6) qX11_after 71 [w0, w1, w2, w3] [.int s0, .int s1, .ref 19] M r := by
  intro w0 w1 w2 w3 s0 s1 M r h
  exact sy_run_by (d := 5) ((jrX11_after_71 _ _ _ _ _ _ M).trans h) hkX11 (by decide +kernel) (sy_cs_cons (jeX2_get.deep (by decide)) sy_cs_nil) sy_us_nil
def jfX11_after (a1 : Int32) (a2 : Int32) (a3 : Int32) (M : sy_M) : sy_O :=
  sy_bv (jfX11_checkLodger a1 M) fun M1 =>
  sy_bv (jfX11_checkRange a2 0 96 M1) fun M2 =>
  if a3 < 0 then
    sy_bx (xe_in (M2 133 0) 100000) <|
    sy_rt 23 (sy_upd M2 133 0 (M2 133 0 + 1))
  else
    if 2 < a3 then
      sy_bx (xe_in (M2 133 0) 100000) <|
      sy_rt 23 (sy_upd M2 133 0 (M2 133 0 + 1))
    else
      sy_bv (jfX11_start M2) fun M3 =>
      sy_bi (jfX11_run a2 0 M3) fun v5 M4 =>
      if a3 = 0 then
        sy_bi (jfX2_get 19 a1 5 M4) fun v7 M6 =>
        sy_ri v7 M6
      else
        if a3 = 1 then
          jfX11_after_71 7 a1 M4
        else
          jfX11_after_71 8 a1 M4
set_option maxRecDepth 100000 in
theorem jrX11_after (a1 : Int32) (a2 : Int32) (a3 : Int32) (M : sy_M) : sy_run skX11 qX11_after [(0, .aload_n 0, 1, []), (1, .iload_n 1, 1, []), (2, .invokevirtual 149, 3, []), (5, .iload_n 2, 1, []), (6, .iconst 0, 1, []), (7, .bipush 96, 2, []), (9, .invokestatic 248, 3, []), (12, .iload_n 3, 1, []), (13, .ifCond .lt 8, 3, []), (16, .iload_n 3, 1, []), (17, .iconst 2, 1, []), (18, .if_icmp .le 11, 3, []), (21, .new 187, 3, [false, false, false, false]), (29, .aload_n 0, 1, []), (30, .invokevirtual 289, 3, []), (33, .aload_n 0, 1, []), (34, .iload_n 2, 1, []), (35, .iconst 0, 1, []), (36, .invokevirtual 295, 3, []), (39, .pop, 1, []), (40, .iload_n 3, 1, []), (41, .ifCond .ne 13, 3, []), (44, .aload_n 0, 1, []), (45, .getfield 35, 3, []), (48, .iload_n 1, 1, []), (49, .iconst 5, 1, []), (50, .invokevirtual 152, 3, []), (53, .ireturn, 1, []), (54, .aload_n 0, 1, [true, true, false, true]), (55, .getfield 35, 3, []), (58, .iload_n 1, 1, []), (59, .iload_n 3, 1, []), (60, .iconst 1, 1, []), (61, .if_icmp .ne 8, 3, []), (64, .bipush 7, 2, []), (66, .goto 5, 3, []), (69, .bipush 8, 2, [false, false, false, false])] [(176, 1, jcX11_checkLodger), (179, 1, jcX11_checkRange), (119, 1, jcX11_start), (120, 0, jcX11_run), (10, 0, jcX2_get)] [(71, juX11_after_71 (jfX11_after_71))] 38 [] 0 [.ref 0, .int a1, .int a2, .int a3] [] M = jfX11_after a1 a2 a3 M := rfl
theorem jtX11_after : ∀ (a1 : Int32) (a2 : Int32) (a3 : Int32) (M : sy_M) (r : xe_R × sy_M), jfX11_after a1 a2 a3 M = some r → sy_E (6) qX11_after 0 [.ref 0, .int a1, .int a2, .int a3] [] M r := by
  intro a1 a2 a3 M r h
  exact sy_run_by (d := 5) ((jrX11_after _ _ _ M).trans h) hkX11 (by decide +kernel) (sy_cs_cons (jeX11_checkLodger.deep (by decide)) (sy_cs_cons (jeX11_checkRange.deep (by decide)) (sy_cs_cons (jeX11_start.deep (by decide)) (sy_cs_cons (jeX11_run.deep (by decide)) (sy_cs_cons (jeX2_get.deep (by decide)) sy_cs_nil))))) (sy_us_cons (jwX11_after_71 (jtX11_after_71)) sy_us_nil)
def jcX11_after (as : List Value) (M : sy_M) (K : sy_O → sy_O) : sy_O := sy_xc 0 as fun l => sy_xi l fun a1 l => sy_xi l fun a2 l => sy_xi l fun a3 l => sy_xn l (K (jfX11_after a1 a2 a3 M))
theorem jeX11_after : sy_snd (6) 116 (jcX11_after) := by
  intro as M K r h
  obtain ⟨l, e, h1⟩ := sy_xc_ok h; subst e
  obtain ⟨a1, l, e, h2⟩ := sy_xi_ok h1; subst e
  obtain ⟨a2, l, e, h3⟩ := sy_xi_ok h2; subst e
  obtain ⟨a3, l, e, h4⟩ := sy_xi_ok h3; subst e
  obtain ⟨e, h5⟩ := sy_xn_ok h4; subst e
  exact ⟨_, h5, fun r1 h0 => ⟨qX11_after, rfl, rfl, jtX11_after _ _ _ M r1 h0⟩⟩
/-! L_after StairMeterLaw after (LStairMeter;III[J)I [('R', 0), 'I', 'I', 'I', ('R', 132)] -/
def jfL_after (a1 : Int32) (a2 : Int32) (a3 : Int32) (M : sy_M) : sy_O :=
  sy_hi (jfX11_after a1 a2 a3 M) (fun v2 M1 =>
    let M5 := sy_wl M1 132 0 (Int32.toInt64 v2)
    sy_ri 0 M5)
  (fun c3 M4 => if c3 = 22 then sy_ri 1 M4 else if c3 = 20 then sy_ri 2 M4 else if c3 = 23 then sy_ri 3 M4 else none)
set_option maxRecDepth 100000 in
theorem jrL_after (a1 : Int32) (a2 : Int32) (a3 : Int32) (M : sy_M) : sy_run skL qL_after [(0, .aload 4, 2, []), (2, .iconst 0, 1, []), (3, .aload_n 0, 1, []), (4, .iload_n 1, 1, []), (5, .iload_n 2, 1, []), (6, .iload_n 3, 1, []), (7, .invokevirtual 66, 3, []), (10, .i2l, 1, []), (11, .lastore, 1, []), (12, .goto 15, 3, []), (15, .astore 5, 2, [false, false, false, false, false, false]), (17, .iconst 1, 1, []), (18, .ireturn, 1, []), (19, .astore 5, 2, [false, false, false, false, false, false]), (21, .iconst 2, 1, []), (22, .ireturn, 1, []), (23, .astore 5, 2, [false, false, false, false, false, false]), (25, .iconst 3, 1, []), (26, .ireturn, 1, []), (27, .iconst 0, 1, [false, false, false, false, false, false]), (28, .ireturn, 1, [])] [(116, 3, jcX11_after)] [] 22 [] 0 [.ref 0, .int a1, .int a2, .int a3, .ref 132, xe_no] [] M = jfL_after a1 a2 a3 M := rfl
theorem jtL_after : ∀ (a1 : Int32) (a2 : Int32) (a3 : Int32) (M : sy_M) (r : xe_R × sy_M), jfL_after a1 a2 a3 M = some r → sy_E (7) qL_after 0 [.ref 0, .int a1, .int a2, .int a3, .ref 132, xe_no] [] M r := by
  intro a1 a2 a3 M r h
  exact sy_run_by (d := 6) ((jrL_after _ _ _ M).trans h) hkL (by decide +kernel) (sy_cs_cons (jeX11_after.deep (by decide)) sy_cs_nil) sy_us_nil
def jcL_after (as : List Value) (M : sy_M) (K : sy_O → sy_O) : sy_O := sy_xc 0 as fun l => sy_xi l fun a1 l => sy_xi l fun a2 l => sy_xi l fun a3 l => sy_xc 132 l fun l => sy_xn l (K (jfL_after a1 a2 a3 M))
theorem jeL_after : sy_snd (7) 335 (jcL_after) := by
  intro as M K r h
  obtain ⟨l, e, h1⟩ := sy_xc_ok h; subst e
  obtain ⟨a1, l, e, h2⟩ := sy_xi_ok h1; subst e
  obtain ⟨a2, l, e, h3⟩ := sy_xi_ok h2; subst e
  obtain ⟨a3, l, e, h4⟩ := sy_xi_ok h3; subst e
  obtain ⟨l, e, h5⟩ := sy_xc_ok h4; subst e
  obtain ⟨e, h6⟩ := sy_xn_ok h5; subst e
  exact ⟨_, h6, fun r1 h0 => ⟨qL_after, rfl, rfl, jtL_after _ _ _ M r1 h0⟩⟩
/-! X12_after StairMeterModel after (III)I [('R', 121), 'I', 'I', 'I'] -/
def juX12_after_87 (k : Int32 → Int32 → sy_M → sy_O) (ls st : List Value) (M : sy_M) : sy_O := sy_xc 121 ls fun l => sy_xv l fun _ l => sy_xv l fun _ l => sy_xv l fun _ l => sy_xv l fun _ l => sy_xv l fun _ l => sy_xn l (sy_xi st fun s0 l => sy_xi l fun s1 l => sy_xc 121 l fun l => sy_xn l (k s0 s1 M))
theorem jwX12_after_87 {d : Nat} {k : Int32 → Int32 → sy_M → sy_O} (hk : ∀ (w1 : Value) (w2 : Value) (w3 : Value) (w4 : Value) (w5 : Value) (s0 : Int32) (s1 : Int32) (M : sy_M) (r : xe_R × sy_M), k s0 s1 M = some r → sy_E (d) qX12_after 87 [.ref 121, w1, w2, w3, w4, w5] [.int s0, .int s1, .ref 121] M r) : ∀ ls st M r, juX12_after_87 k ls st M = some r → sy_E d qX12_after 87 ls st M r := by
  intro ls st M r h
  obtain ⟨l, e, h1⟩ := sy_xc_ok h; subst e
  obtain ⟨w1, l, e, h2⟩ := sy_xv_ok h1; subst e
  obtain ⟨w2, l, e, h3⟩ := sy_xv_ok h2; subst e
  obtain ⟨w3, l, e, h4⟩ := sy_xv_ok h3; subst e
  obtain ⟨w4, l, e, h5⟩ := sy_xv_ok h4; subst e
  obtain ⟨w5, l, e, h6⟩ := sy_xv_ok h5; subst e
  obtain ⟨e, h7⟩ := sy_xn_ok h6; subst e
  obtain ⟨s0, l, e, h8⟩ := sy_xi_ok h7; subst e
  obtain ⟨s1, l, e, h9⟩ := sy_xi_ok h8; subst e
  obtain ⟨l, e, h10⟩ := sy_xc_ok h9; subst e
  obtain ⟨e, h11⟩ := sy_xn_ok h10; subst e
  exact hk _ _ _ _ _ s0 s1 M r h11
def juX12_after_41 (k : Int32 → Int32 → Int32 → Int32 → sy_M → sy_O) (ls st : List Value) (M : sy_M) : sy_O := sy_xc 121 ls fun l => sy_xi l fun a1 l => sy_xi l fun a2 l => sy_xi l fun a3 l => sy_xv l fun _ l => sy_xv l fun _ l => sy_xn l (sy_xi st fun s0 l => sy_xc 121 l fun l => sy_xn l (k a1 a2 a3 s0 M))
theorem jwX12_after_41 {d : Nat} {k : Int32 → Int32 → Int32 → Int32 → sy_M → sy_O} (hk : ∀ (w4 : Value) (w5 : Value) (a1 : Int32) (a2 : Int32) (a3 : Int32) (s0 : Int32) (M : sy_M) (r : xe_R × sy_M), k a1 a2 a3 s0 M = some r → sy_E (d) qX12_after 41 [.ref 121, .int a1, .int a2, .int a3, w4, w5] [.int s0, .ref 121] M r) : ∀ ls st M r, juX12_after_41 k ls st M = some r → sy_E d qX12_after 41 ls st M r := by
  intro ls st M r h
  obtain ⟨l, e, h1⟩ := sy_xc_ok h; subst e
  obtain ⟨a1, l, e, h2⟩ := sy_xi_ok h1; subst e
  obtain ⟨a2, l, e, h3⟩ := sy_xi_ok h2; subst e
  obtain ⟨a3, l, e, h4⟩ := sy_xi_ok h3; subst e
  obtain ⟨w4, l, e, h5⟩ := sy_xv_ok h4; subst e
  obtain ⟨w5, l, e, h6⟩ := sy_xv_ok h5; subst e
  obtain ⟨e, h7⟩ := sy_xn_ok h6; subst e
  obtain ⟨s0, l, e, h8⟩ := sy_xi_ok h7; subst e
  obtain ⟨l, e, h9⟩ := sy_xc_ok h8; subst e
  obtain ⟨e, h10⟩ := sy_xn_ok h9; subst e
  exact hk _ _ a1 a2 a3 s0 M r h10
def jfX12_after_87 (s0 : Int32) (s1 : Int32) (M : sy_M) : sy_O :=
  sy_bi (jfX12_of s1 s0 M) fun v2 M1 =>
  sy_bv (jfX12_comesBack M1) fun M3 =>
  sy_ri v2 M3
set_option maxRecDepth 100000 in
theorem jrX12_after_87 (w1 : Value) (w2 : Value) (w3 : Value) (w4 : Value) (w5 : Value) (s0 : Int32) (s1 : Int32) (M : sy_M) : sy_run skX12 qX12_after [(87, .invokevirtual 52, 3, [true, false, false, false, false, false]), (90, .istore 5, 2, []), (92, .aload_n 0, 1, []), (93, .invokevirtual 182, 3, []), (96, .iload 5, 2, []), (98, .ireturn, 1, [])] [(187, 0, jcX12_of), (216, 1, jcX12_comesBack)] [] 7 [] 87 [.ref 121, w1, w2, w3, w4, w5] [.int s0, .int s1, .ref 121] M = jfX12_after_87 s0 s1 M := rfl
theorem jtX12_after_87 : ∀ (w1 : Value) (w2 : Value) (w3 : Value) (w4 : Value) (w5 : Value) (s0 : Int32) (s1 : Int32) (M : sy_M) (r : xe_R × sy_M), jfX12_after_87 s0 s1 M = some r → sy_E (52) qX12_after 87 [.ref 121, w1, w2, w3, w4, w5] [.int s0, .int s1, .ref 121] M r := by
  intro w1 w2 w3 w4 w5 s0 s1 M r h
  exact sy_run_by (d := 51) ((jrX12_after_87 _ _ _ _ _ _ _ M).trans h) hkX12 (by decide +kernel) (sy_cs_cons (jeX12_of.deep (by decide)) (sy_cs_cons (jeX12_comesBack.deep (by decide)) sy_cs_nil)) sy_us_nil
def jfX12_after_41 (a1 : Int32) (a2 : Int32) (a3 : Int32) (s0 : Int32) (M : sy_M) : sy_O :=
  let M1 := sy_upd M 121 0 s0
  if 0 < (M1 121 0) then
    sy_ri 0 M1
  else
    sy_bv (jfX12_putsAside M1) fun M2 =>
    sy_bi (jfX12_goes a2 0 M2) fun v4 M3 =>
    if a3 = 0 then
      jfX12_after_87 5 a1 M3
    else
      if a3 = 1 then
        jfX12_after_87 7 a1 M3
      else
        jfX12_after_87 8 a1 M3
set_option maxRecDepth 100000 in
theorem jrX12_after_41 (w4 : Value) (w5 : Value) (a1 : Int32) (a2 : Int32) (a3 : Int32) (s0 : Int32) (M : sy_M) : sy_run skX12 qX12_after [(41, .putfield 45, 3, [true, true, true, true, false, false]), (44, .aload_n 0, 1, []), (45, .getfield 45, 3, []), (48, .ifCond .le 5, 3, []), (51, .iconst 0, 1, []), (52, .ireturn, 1, []), (53, .aload_n 0, 1, [true, true, true, true, false, false]), (54, .invokevirtual 172, 3, []), (57, .aload_n 0, 1, []), (58, .iload_n 2, 1, []), (59, .iconst 0, 1, []), (60, .invokevirtual 314, 3, []), (63, .istore 4, 2, []), (65, .aload_n 0, 1, []), (66, .iload_n 1, 1, []), (67, .iload_n 3, 1, []), (68, .ifCond .ne 7, 3, []), (71, .iconst 5, 1, []), (72, .goto 15, 3, []), (75, .iload_n 3, 1, [true, false, false, true, false, false]), (76, .iconst 1, 1, []), (77, .if_icmp .ne 8, 3, []), (80, .bipush 7, 2, []), (82, .goto 5, 3, []), (85, .bipush 8, 2, [true, false, false, false, false, false])] [(215, 1, jcX12_putsAside), (235, 0, jcX12_goes)] [(87, juX12_after_87 (jfX12_after_87))] 26 [] 41 [.ref 121, .int a1, .int a2, .int a3, w4, w5] [.int s0, .ref 121] M = jfX12_after_41 a1 a2 a3 s0 M := rfl
theorem jtX12_after_41 : ∀ (w4 : Value) (w5 : Value) (a1 : Int32) (a2 : Int32) (a3 : Int32) (s0 : Int32) (M : sy_M) (r : xe_R × sy_M), jfX12_after_41 a1 a2 a3 s0 M = some r → sy_E (52) qX12_after 41 [.ref 121, .int a1, .int a2, .int a3, w4, w5] [.int s0, .ref 121] M r := by
  intro w4 w5 a1 a2 a3 s0 M r h
  exact sy_run_by (d := 51) ((jrX12_after_41 _ _ _ _ _ _ M).trans h) hkX12 (by decide +kernel) (sy_cs_cons (jeX12_putsAside.deep (by decide)) (sy_cs_cons (jeX12_goes.deep (by decide)) sy_cs_nil)) (sy_us_cons (jwX12_after_87 (jtX12_after_87)) sy_us_nil)
def jfX12_after (a1 : Int32) (a2 : Int32) (a3 : Int32) (M : sy_M) : sy_O :=
  sy_bi (jfX12_isLodger a1 M) fun v2 M1 =>
  if v2 = 0 then
    jfX12_after_41 a1 a2 a3 1 M1
  else
    sy_bi (jfX12_isIn a2 0 96 M1) fun v4 M3 =>
    if v4 = 0 then
      jfX12_after_41 a1 a2 a3 2 M3
    else
      sy_bi (jfX12_isIn a3 0 2 M3) fun v6 M5 =>
      if v6 = 0 then
        jfX12_after_41 a1 a2 a3 3 M5
      else
        jfX12_after_41 a1 a2 a3 0 M5
set_option maxRecDepth 100000 in
theorem jrX12_after (a1 : Int32) (a2 : Int32) (a3 : Int32) (M : sy_M) : sy_run skX12 qX12_after [(0, .aload_n 0, 1, []), (1, .aload_n 0, 1, []), (2, .iload_n 1, 1, []), (3, .invokevirtual 284, 3, []), (6, .ifCond .ne 7, 3, []), (9, .iconst 1, 1, []), (10, .goto 31, 3, []), (13, .iload_n 2, 1, [true, true, true, true, false, false]), (14, .iconst 0, 1, []), (15, .bipush 96, 2, []), (17, .invokestatic 48, 3, []), (20, .ifCond .ne 7, 3, []), (23, .iconst 2, 1, []), (24, .goto 17, 3, []), (27, .iload_n 3, 1, [true, true, true, true, false, false]), (28, .iconst 0, 1, []), (29, .iconst 2, 1, []), (30, .invokestatic 48, 3, []), (33, .ifCond .ne 7, 3, []), (36, .iconst 3, 1, []), (37, .goto 4, 3, []), (40, .iconst 0, 1, [true, true, true, true, false, false])] [(190, 0, jcX12_isLodger), (182, 0, jcX12_isIn)] [(41, juX12_after_41 (jfX12_after_41))] 23 [] 0 [.ref 121, .int a1, .int a2, .int a3, xe_no, xe_no] [] M = jfX12_after a1 a2 a3 M := rfl
theorem jtX12_after : ∀ (a1 : Int32) (a2 : Int32) (a3 : Int32) (M : sy_M) (r : xe_R × sy_M), jfX12_after a1 a2 a3 M = some r → sy_E (52) qX12_after 0 [.ref 121, .int a1, .int a2, .int a3, xe_no, xe_no] [] M r := by
  intro a1 a2 a3 M r h
  exact sy_run_by (d := 51) ((jrX12_after _ _ _ M).trans h) hkX12 (by decide +kernel) (sy_cs_cons (jeX12_isLodger.deep (by decide)) (sy_cs_cons (jeX12_isIn.deep (by decide)) sy_cs_nil)) (sy_us_cons (jwX12_after_41 (jtX12_after_41)) sy_us_nil)
def jcX12_after (as : List Value) (M : sy_M) (K : sy_O → sy_O) : sy_O := sy_xc 121 as fun l => sy_xi l fun a1 l => sy_xi l fun a2 l => sy_xi l fun a3 l => sy_xn l (K (jfX12_after a1 a2 a3 M))
theorem jeX12_after : sy_snd (52) 264 (jcX12_after) := by
  intro as M K r h
  obtain ⟨l, e, h1⟩ := sy_xc_ok h; subst e
  obtain ⟨a1, l, e, h2⟩ := sy_xi_ok h1; subst e
  obtain ⟨a2, l, e, h3⟩ := sy_xi_ok h2; subst e
  obtain ⟨a3, l, e, h4⟩ := sy_xi_ok h3; subst e
  obtain ⟨e, h5⟩ := sy_xn_ok h4; subst e
  exact ⟨_, h5, fun r1 h0 => ⟨qX12_after, rfl, rfl, jtX12_after _ _ _ M r1 h0⟩⟩
/-! X11_coins StairMeter coins (I)I [('R', 0), 'I'] -/
def juX11_coins_29 (k : Int32 → Int32 → Int32 → sy_M → sy_O) (ls st : List Value) (M : sy_M) : sy_O := sy_xc 0 ls fun l => sy_xi l fun a1 l => sy_xi l fun a2 l => sy_xi l fun a3 l => sy_xn l (sy_xn st (k a1 a2 a3 M))
theorem jwX11_coins_29 {d : Nat} {k : Int32 → Int32 → Int32 → sy_M → sy_O} (hk : ∀ (a1 : Int32) (a2 : Int32) (a3 : Int32) (M : sy_M) (r : xe_R × sy_M), k a1 a2 a3 M = some r → sy_E (d) qX11_coins 29 [.ref 0, .int a1, .int a2, .int a3] [] M r) : ∀ ls st M r, juX11_coins_29 k ls st M = some r → sy_E d qX11_coins 29 ls st M r := by
  intro ls st M r h
  obtain ⟨l, e, h1⟩ := sy_xc_ok h; subst e
  obtain ⟨a1, l, e, h2⟩ := sy_xi_ok h1; subst e
  obtain ⟨a2, l, e, h3⟩ := sy_xi_ok h2; subst e
  obtain ⟨a3, l, e, h4⟩ := sy_xi_ok h3; subst e
  obtain ⟨e, h5⟩ := sy_xn_ok h4; subst e
  obtain ⟨e, h6⟩ := sy_xn_ok h5; subst e
  exact hk a1 a2 a3 M r h6
def jgX11_coins_29 (k29 : Int32 → Int32 → Int32 → sy_M → sy_O) (a1 : Int32) (a2 : Int32) (a3 : Int32) (M : sy_M) : sy_O :=
  if a3 < a1 then
    sy_bi (jfX8_needsAt (((M 9 5) + a3) - ((M 9 5) + a3) / 48 * 48) M) fun v2 M1 =>
    let v3 := (a2 + v2)
    let v4 := a3 + 1
    k29 a1 v3 v4 M1
  else
    if 0 < a2 then
      if (M 9 8) < 1 then
        sy_ri 0 M
      else
        if (M 9 8) = 0 then none else
        sy_ri (((a2 + (M 9 8)) - 1) / (M 9 8)) M
    else
      sy_ri 0 M
def jfX11_coins_29 : Nat → Int32 → Int32 → Int32 → sy_M → sy_O
  | 0, _, _, _, _ => none
  | n + 1, a1, a2, a3, M => jgX11_coins_29 (jfX11_coins_29 n) a1 a2 a3 M
set_option maxRecDepth 100000 in
theorem jrX11_coins_29 (k29 : Int32 → Int32 → Int32 → sy_M → sy_O) (a1 : Int32) (a2 : Int32) (a3 : Int32) (M : sy_M) : sy_run skX11 qX11_coins [(29, .iload_n 3, 1, []), (30, .iload_n 1, 1, []), (31, .if_icmp .ge 31, 3, []), (34, .iload_n 2, 1, []), (35, .aload_n 0, 1, []), (36, .getfield 75, 3, []), (39, .aload_n 0, 1, []), (40, .getfield 28, 3, []), (43, .getfield 210, 3, []), (46, .iload_n 3, 1, []), (47, .iadd, 1, []), (48, .bipush 48, 2, []), (50, .irem, 1, []), (51, .invokevirtual 204, 3, []), (54, .iadd, 1, []), (55, .istore_n 2, 1, []), (56, .iinc 3 1, 3, []), (59, .goto (-30), 3, []), (62, .iload_n 2, 1, [true, false, true, false]), (63, .ifCond .le 14, 3, []), (66, .aload_n 0, 1, []), (67, .getfield 28, 3, []), (70, .getfield 218, 3, []), (73, .iconst 1, 1, []), (74, .if_icmp .ge 5, 3, []), (77, .iconst 0, 1, [false, false, false, false]), (78, .ireturn, 1, []), (79, .iload_n 2, 1, [true, false, true, false]), (80, .aload_n 0, 1, []), (81, .getfield 28, 3, []), (84, .getfield 218, 3, []), (87, .iadd, 1, []), (88, .iconst 1, 1, []), (89, .isub, 1, []), (90, .aload_n 0, 1, []), (91, .getfield 28, 3, []), (94, .getfield 218, 3, []), (97, .idiv, 1, []), (98, .ireturn, 1, [])] [(65, 0, jcX8_needsAt)] [(29, juX11_coins_29 k29)] 40 [] 29 [.ref 0, .int a1, .int a2, .int a3] [] M = jgX11_coins_29 k29 a1 a2 a3 M := rfl
theorem jtX11_coins_29 : ∀ n : Nat, ∀ (a1 : Int32) (a2 : Int32) (a3 : Int32) (M : sy_M) (r : xe_R × sy_M), jfX11_coins_29 n a1 a2 a3 M = some r → sy_E (4) qX11_coins 29 [.ref 0, .int a1, .int a2, .int a3] [] M r := by
  intro n
  induction n with
  | zero => intro a1 a2 a3 M r h; exact absurd (show (none : sy_O) = some r from h) (by simp)
  | succ n ih => intro a1 a2 a3 M r h; exact sy_run_by (d := 3) ((jrX11_coins_29 _ _ _ _ M).trans h) hkX11 (by decide +kernel) (sy_cs_cons (jeX8_needsAt.deep (by decide)) sy_cs_nil) (sy_us_cons (jwX11_coins_29 ih) sy_us_nil)
def jfX11_coins (a1 : Int32) (M : sy_M) : sy_O :=
  sy_bv (jfX11_checkRange a1 0 48 M) fun M1 =>
  sy_bv (jfX8_learn 9 M1) fun M2 =>
  let v3 := (-(M2 9 7))
  jfX11_coins_29 sy_F a1 v3 0 M2
set_option maxRecDepth 100000 in
theorem jrX11_coins (a1 : Int32) (M : sy_M) : sy_run skX11 qX11_coins [(0, .iload_n 1, 1, []), (1, .iconst 0, 1, []), (2, .bipush 48, 2, []), (4, .invokestatic 248, 3, []), (7, .aload_n 0, 1, []), (8, .getfield 75, 3, []), (11, .aload_n 0, 1, []), (12, .getfield 28, 3, []), (15, .invokevirtual 181, 3, []), (18, .aload_n 0, 1, []), (19, .getfield 28, 3, []), (22, .getfield 215, 3, []), (25, .ineg, 1, []), (26, .istore_n 2, 1, []), (27, .iconst 0, 1, []), (28, .istore_n 3, 1, [])] [(179, 1, jcX11_checkRange), (63, 1, jcX8_learn)] [(29, juX11_coins_29 (jfX11_coins_29 sy_F))] 17 [] 0 [.ref 0, .int a1, xe_no, xe_no] [] M = jfX11_coins a1 M := rfl
theorem jtX11_coins : ∀ (a1 : Int32) (M : sy_M) (r : xe_R × sy_M), jfX11_coins a1 M = some r → sy_E (4) qX11_coins 0 [.ref 0, .int a1, xe_no, xe_no] [] M r := by
  intro a1 M r h
  exact sy_run_by (d := 3) ((jrX11_coins _ M).trans h) hkX11 (by decide +kernel) (sy_cs_cons (jeX11_checkRange.deep (by decide)) (sy_cs_cons (jeX8_learn.deep (by decide)) sy_cs_nil)) (sy_us_cons (jwX11_coins_29 (jtX11_coins_29 sy_F)) sy_us_nil)
def jcX11_coins (as : List Value) (M : sy_M) (K : sy_O → sy_O) : sy_O := sy_xc 0 as fun l => sy_xi l fun a1 l => sy_xn l (K (jfX11_coins a1 M))
theorem jeX11_coins : sy_snd (4) 117 (jcX11_coins) := by
  intro as M K r h
  obtain ⟨l, e, h1⟩ := sy_xc_ok h; subst e
  obtain ⟨a1, l, e, h2⟩ := sy_xi_ok h1; subst e
  obtain ⟨e, h3⟩ := sy_xn_ok h2; subst e
  exact ⟨_, h3, fun r1 h0 => ⟨qX11_coins, rfl, rfl, jtX11_coins _ M r1 h0⟩⟩
/-! L_coins StairMeterLaw coins (LStairMeter;I[J)I [('R', 0), 'I', ('R', 132)] -/
def jfL_coins (a1 : Int32) (M : sy_M) : sy_O :=
  sy_hi (jfX11_coins a1 M) (fun v2 M1 =>
    let M5 := sy_wl M1 132 0 (Int32.toInt64 v2)
    sy_ri 0 M5)
  (fun c3 M4 => if c3 = 20 then sy_ri 1 M4 else none)
set_option maxRecDepth 100000 in
theorem jrL_coins (a1 : Int32) (M : sy_M) : sy_run skL qL_coins [(0, .aload_n 2, 1, []), (1, .iconst 0, 1, []), (2, .aload_n 0, 1, []), (3, .iload_n 1, 1, []), (4, .invokevirtual 69, 3, []), (7, .i2l, 1, []), (8, .lastore, 1, []), (9, .goto 6, 3, []), (12, .astore_n 3, 1, [false, false, false, false]), (13, .iconst 1, 1, []), (14, .ireturn, 1, []), (15, .iconst 0, 1, [false, false, false, false]), (16, .ireturn, 1, [])] [(117, 3, jcX11_coins)] [] 14 [] 0 [.ref 0, .int a1, .ref 132, xe_no] [] M = jfL_coins a1 M := rfl
theorem jtL_coins : ∀ (a1 : Int32) (M : sy_M) (r : xe_R × sy_M), jfL_coins a1 M = some r → sy_E (5) qL_coins 0 [.ref 0, .int a1, .ref 132, xe_no] [] M r := by
  intro a1 M r h
  exact sy_run_by (d := 4) ((jrL_coins _ M).trans h) hkL (by decide +kernel) (sy_cs_cons (jeX11_coins.deep (by decide)) sy_cs_nil) sy_us_nil
def jcL_coins (as : List Value) (M : sy_M) (K : sy_O → sy_O) : sy_O := sy_xc 0 as fun l => sy_xi l fun a1 l => sy_xc 132 l fun l => sy_xn l (K (jfL_coins a1 M))
theorem jeL_coins : sy_snd (5) 336 (jcL_coins) := by
  intro as M K r h
  obtain ⟨l, e, h1⟩ := sy_xc_ok h; subst e
  obtain ⟨a1, l, e, h2⟩ := sy_xi_ok h1; subst e
  obtain ⟨l, e, h3⟩ := sy_xc_ok h2; subst e
  obtain ⟨e, h4⟩ := sy_xn_ok h3; subst e
  exact ⟨_, h4, fun r1 h0 => ⟨qL_coins, rfl, rfl, jtL_coins _ M r1 h0⟩⟩
/-! X12_greater StairMeterModel greater (II)I ['I', 'I'] -/
def jfX12_greater (a0 : Int32) (a1 : Int32) (M : sy_M) : sy_O :=
  if a1 < a0 then
    sy_ri a0 M
  else
    sy_ri a1 M
set_option maxRecDepth 100000 in
theorem jrX12_greater (a0 : Int32) (a1 : Int32) (M : sy_M) : sy_run skX12 qX12_greater [(0, .iload_n 0, 1, []), (1, .iload_n 1, 1, []), (2, .if_icmp .le 7, 3, []), (5, .iload_n 0, 1, []), (6, .goto 4, 3, []), (9, .iload_n 1, 1, [false, true]), (10, .ireturn, 1, [false, false])] [] [] 8 [] 0 [.int a0, .int a1] [] M = jfX12_greater a0 a1 M := rfl
theorem jtX12_greater : ∀ (a0 : Int32) (a1 : Int32) (M : sy_M) (r : xe_R × sy_M), jfX12_greater a0 a1 M = some r → sy_E (1) qX12_greater 0 [.int a0, .int a1] [] M r := by
  intro a0 a1 M r h
  exact sy_run_by (d := 0) ((jrX12_greater _ _ M).trans h) hkX12 (by decide +kernel) sy_cs_nil sy_us_nil
def jcX12_greater (as : List Value) (M : sy_M) (K : sy_O → sy_O) : sy_O := sy_xi as fun a0 l => sy_xi l fun a1 l => sy_xn l (K (jfX12_greater a0 a1 M))
theorem jeX12_greater : sy_snd (1) 184 (jcX12_greater) := by
  intro as M K r h
  obtain ⟨a0, l, e, h1⟩ := sy_xi_ok h; subst e
  obtain ⟨a1, l, e, h2⟩ := sy_xi_ok h1; subst e
  obtain ⟨e, h3⟩ := sy_xn_ok h2; subst e
  exact ⟨_, h3, fun r1 h0 => ⟨qX12_greater, rfl, rfl, jtX12_greater _ _ M r1 h0⟩⟩
/-! X12_coins StairMeterModel coins (I)I [('R', 121), 'I'] -/
def juX12_coins_32 (k : Int32 → Int32 → Int32 → sy_M → sy_O) (ls st : List Value) (M : sy_M) : sy_O := sy_xc 121 ls fun l => sy_xi l fun a1 l => sy_xi l fun a2 l => sy_xi l fun a3 l => sy_xn l (sy_xn st (k a1 a2 a3 M))
theorem jwX12_coins_32 {d : Nat} {k : Int32 → Int32 → Int32 → sy_M → sy_O} (hk : ∀ (a1 : Int32) (a2 : Int32) (a3 : Int32) (M : sy_M) (r : xe_R × sy_M), k a1 a2 a3 M = some r → sy_E (d) qX12_coins 32 [.ref 121, .int a1, .int a2, .int a3] [] M r) : ∀ ls st M r, juX12_coins_32 k ls st M = some r → sy_E d qX12_coins 32 ls st M r := by
  intro ls st M r h
  obtain ⟨l, e, h1⟩ := sy_xc_ok h; subst e
  obtain ⟨a1, l, e, h2⟩ := sy_xi_ok h1; subst e
  obtain ⟨a2, l, e, h3⟩ := sy_xi_ok h2; subst e
  obtain ⟨a3, l, e, h4⟩ := sy_xi_ok h3; subst e
  obtain ⟨e, h5⟩ := sy_xn_ok h4; subst e
  obtain ⟨e, h6⟩ := sy_xn_ok h5; subst e
  exact hk a1 a2 a3 M r h6
def juX12_coins_16 (k : Int32 → Int32 → sy_M → sy_O) (ls st : List Value) (M : sy_M) : sy_O := sy_xc 121 ls fun l => sy_xi l fun a1 l => sy_xv l fun _ l => sy_xv l fun _ l => sy_xn l (sy_xi st fun s0 l => sy_xc 121 l fun l => sy_xn l (k a1 s0 M))
theorem jwX12_coins_16 {d : Nat} {k : Int32 → Int32 → sy_M → sy_O} (hk : ∀ (w2 : Value) (w3 : Value) (a1 : Int32) (s0 : Int32) (M : sy_M) (r : xe_R × sy_M), k a1 s0 M = some r → sy_E (d) qX12_coins 16 [.ref 121, .int a1, w2, w3] [.int s0, .ref 121] M r) : ∀ ls st M r, juX12_coins_16 k ls st M = some r → sy_E d qX12_coins 16 ls st M r := by
  intro ls st M r h
  obtain ⟨l, e, h1⟩ := sy_xc_ok h; subst e
  obtain ⟨a1, l, e, h2⟩ := sy_xi_ok h1; subst e
  obtain ⟨w2, l, e, h3⟩ := sy_xv_ok h2; subst e
  obtain ⟨w3, l, e, h4⟩ := sy_xv_ok h3; subst e
  obtain ⟨e, h5⟩ := sy_xn_ok h4; subst e
  obtain ⟨s0, l, e, h6⟩ := sy_xi_ok h5; subst e
  obtain ⟨l, e, h7⟩ := sy_xc_ok h6; subst e
  obtain ⟨e, h8⟩ := sy_xn_ok h7; subst e
  exact hk _ _ a1 s0 M r h8
def jgX12_coins_32 (k32 : Int32 → Int32 → Int32 → sy_M → sy_O) (a1 : Int32) (a2 : Int32) (a3 : Int32) (M : sy_M) : sy_O :=
  if a3 < a1 then
    sy_bi (jfX12_needsIn (((M 122 4) + a3) - ((M 122 4) + a3) / 48 * 48) M) fun v4 M3 =>
    let v5 := (a2 + v4)
    let v6 := a3 + 1
    k32 a1 v5 v6 M3
  else
    sy_bi (jfX12_greater 0 (a2 - (M 122 6)) M) fun v2 M1 =>
    if (M1 122 7) = 0 then none else
    sy_ri (((v2 + (M1 122 7)) - 1) / (M1 122 7)) M1
def jfX12_coins_32 : Nat → Int32 → Int32 → Int32 → sy_M → sy_O
  | 0, _, _, _, _ => none
  | n + 1, a1, a2, a3, M => jgX12_coins_32 (jfX12_coins_32 n) a1 a2 a3 M
set_option maxRecDepth 100000 in
theorem jrX12_coins_32 (k32 : Int32 → Int32 → Int32 → sy_M → sy_O) (a1 : Int32) (a2 : Int32) (a3 : Int32) (M : sy_M) : sy_run skX12 qX12_coins [(32, .iload_n 3, 1, []), (33, .iload_n 1, 1, []), (34, .if_icmp .ge 27, 3, []), (37, .iload_n 2, 1, []), (38, .aload_n 0, 1, []), (39, .aload_n 0, 1, []), (40, .getfield 7, 3, []), (43, .iconst 4, 1, []), (44, .iaload, 1, []), (45, .iload_n 3, 1, []), (46, .iadd, 1, []), (47, .bipush 48, 2, []), (49, .irem, 1, []), (50, .invokevirtual 308, 3, []), (53, .iadd, 1, []), (54, .istore_n 2, 1, []), (55, .iinc 3 1, 3, []), (58, .goto (-26), 3, []), (61, .iconst 0, 1, [true, false, true, false]), (62, .iload_n 2, 1, []), (63, .aload_n 0, 1, []), (64, .getfield 7, 3, []), (67, .bipush 6, 2, []), (69, .iaload, 1, []), (70, .isub, 1, []), (71, .invokestatic 333, 3, []), (74, .istore_n 3, 1, []), (75, .iload_n 3, 1, []), (76, .aload_n 0, 1, []), (77, .getfield 7, 3, []), (80, .bipush 7, 2, []), (82, .iaload, 1, []), (83, .iadd, 1, []), (84, .iconst 1, 1, []), (85, .isub, 1, []), (86, .aload_n 0, 1, []), (87, .getfield 7, 3, []), (90, .bipush 7, 2, []), (92, .iaload, 1, []), (93, .idiv, 1, []), (94, .ireturn, 1, [])] [(184, 0, jcX12_greater), (195, 0, jcX12_needsIn)] [(32, juX12_coins_32 k32)] 42 [] 32 [.ref 121, .int a1, .int a2, .int a3] [] M = jgX12_coins_32 k32 a1 a2 a3 M := rfl
theorem jtX12_coins_32 : ∀ n : Nat, ∀ (a1 : Int32) (a2 : Int32) (a3 : Int32) (M : sy_M) (r : xe_R × sy_M), jfX12_coins_32 n a1 a2 a3 M = some r → sy_E (5) qX12_coins 32 [.ref 121, .int a1, .int a2, .int a3] [] M r := by
  intro n
  induction n with
  | zero => intro a1 a2 a3 M r h; exact absurd (show (none : sy_O) = some r from h) (by simp)
  | succ n ih => intro a1 a2 a3 M r h; exact sy_run_by (d := 4) ((jrX12_coins_32 _ _ _ _ M).trans h) hkX12 (by decide +kernel) (sy_cs_cons (jeX12_greater.deep (by decide)) (sy_cs_cons (jeX12_needsIn.deep (by decide)) sy_cs_nil)) (sy_us_cons (jwX12_coins_32 ih) sy_us_nil)
def jfX12_coins_16 (a1 : Int32) (s0 : Int32) (M : sy_M) : sy_O :=
  let M1 := sy_upd M 121 0 s0
  if 0 < (M1 121 0) then
    sy_ri 0 M1
  else
    jfX12_coins_32 sy_F a1 0 0 M1
set_option maxRecDepth 100000 in
theorem jrX12_coins_16 (w2 : Value) (w3 : Value) (a1 : Int32) (s0 : Int32) (M : sy_M) : sy_run skX12 qX12_coins [(16, .putfield 45, 3, [true, true, false, false]), (19, .aload_n 0, 1, []), (20, .getfield 45, 3, []), (23, .ifCond .le 5, 3, []), (26, .iconst 0, 1, []), (27, .ireturn, 1, []), (28, .iconst 0, 1, [true, true, false, false]), (29, .istore_n 2, 1, []), (30, .iconst 0, 1, []), (31, .istore_n 3, 1, [])] [] [(32, juX12_coins_32 (jfX12_coins_32 sy_F))] 11 [] 16 [.ref 121, .int a1, w2, w3] [.int s0, .ref 121] M = jfX12_coins_16 a1 s0 M := rfl
theorem jtX12_coins_16 : ∀ (w2 : Value) (w3 : Value) (a1 : Int32) (s0 : Int32) (M : sy_M) (r : xe_R × sy_M), jfX12_coins_16 a1 s0 M = some r → sy_E (5) qX12_coins 16 [.ref 121, .int a1, w2, w3] [.int s0, .ref 121] M r := by
  intro w2 w3 a1 s0 M r h
  exact sy_run_by (d := 4) ((jrX12_coins_16 _ _ _ _ M).trans h) hkX12 (by decide +kernel) sy_cs_nil (sy_us_cons (jwX12_coins_32 (jtX12_coins_32 sy_F)) sy_us_nil)
def jfX12_coins (a1 : Int32) (M : sy_M) : sy_O :=
  sy_bi (jfX12_isIn a1 0 48 M) fun v2 M1 =>
  if v2 = 0 then
    jfX12_coins_16 a1 1 M1
  else
    jfX12_coins_16 a1 0 M1
set_option maxRecDepth 100000 in
theorem jrX12_coins (a1 : Int32) (M : sy_M) : sy_run skX12 qX12_coins [(0, .aload_n 0, 1, []), (1, .iload_n 1, 1, []), (2, .iconst 0, 1, []), (3, .bipush 48, 2, []), (5, .invokestatic 48, 3, []), (8, .ifCond .ne 7, 3, []), (11, .iconst 1, 1, []), (12, .goto 4, 3, []), (15, .iconst 0, 1, [true, true, false, false])] [(182, 0, jcX12_isIn)] [(16, juX12_coins_16 (jfX12_coins_16))] 10 [] 0 [.ref 121, .int a1, xe_no, xe_no] [] M = jfX12_coins a1 M := rfl
theorem jtX12_coins : ∀ (a1 : Int32) (M : sy_M) (r : xe_R × sy_M), jfX12_coins a1 M = some r → sy_E (5) qX12_coins 0 [.ref 121, .int a1, xe_no, xe_no] [] M r := by
  intro a1 M r h
  exact sy_run_by (d := 4) ((jrX12_coins _ M).trans h) hkX12 (by decide +kernel) (sy_cs_cons (jeX12_isIn.deep (by decide)) sy_cs_nil) (sy_us_cons (jwX12_coins_16 (jtX12_coins_16)) sy_us_nil)
def jcX12_coins (as : List Value) (M : sy_M) (K : sy_O → sy_O) : sy_O := sy_xc 121 as fun l => sy_xi l fun a1 l => sy_xn l (K (jfX12_coins a1 M))
theorem jeX12_coins : sy_snd (5) 265 (jcX12_coins) := by
  intro as M K r h
  obtain ⟨l, e, h1⟩ := sy_xc_ok h; subst e
  obtain ⟨a1, l, e, h2⟩ := sy_xi_ok h1; subst e
  obtain ⟨e, h3⟩ := sy_xn_ok h2; subst e
  exact ⟨_, h3, fun r1 h0 => ⟨qX12_coins, rfl, rfl, jtX12_coins _ M r1 h0⟩⟩
/-! X11_ease StairMeter ease (I)I [('R', 0), 'I'] -/
def juX11_ease_20 (k : Int32 → Int32 → sy_M → sy_O) (ls st : List Value) (M : sy_M) : sy_O := sy_xc 0 ls fun l => sy_xi l fun a1 l => sy_xi l fun a2 l => sy_xn l (sy_xn st (k a1 a2 M))
theorem jwX11_ease_20 {d : Nat} {k : Int32 → Int32 → sy_M → sy_O} (hk : ∀ (a1 : Int32) (a2 : Int32) (M : sy_M) (r : xe_R × sy_M), k a1 a2 M = some r → sy_E (d) qX11_ease 20 [.ref 0, .int a1, .int a2] [] M r) : ∀ ls st M r, juX11_ease_20 k ls st M = some r → sy_E d qX11_ease 20 ls st M r := by
  intro ls st M r h
  obtain ⟨l, e, h1⟩ := sy_xc_ok h; subst e
  obtain ⟨a1, l, e, h2⟩ := sy_xi_ok h1; subst e
  obtain ⟨a2, l, e, h3⟩ := sy_xi_ok h2; subst e
  obtain ⟨e, h4⟩ := sy_xn_ok h3; subst e
  obtain ⟨e, h5⟩ := sy_xn_ok h4; subst e
  exact hk a1 a2 M r h5
def jgX11_ease_20 (k20 : Int32 → Int32 → sy_M → sy_O) (a1 : Int32) (a2 : Int32) (M : sy_M) : sy_O :=
  if 99 < a2 then
    sy_ri (-1) M
  else
    sy_bv (jfX2_takeOver 19 9 M) fun M1 =>
    sy_bv (jfX2_addGas 19 (a2 * (M1 9 8)) M1) fun M2 =>
    sy_bi (jfX11_run a1 0 M2) fun v4 M3 =>
    sy_bi (jfX11_firstColder M3) fun v6 M5 =>
    if v6 = (-1) then
      sy_ri a2 M5
    else
      let v7 := a2 + 1
      k20 a1 v7 M5
def jfX11_ease_20 : Nat → Int32 → Int32 → sy_M → sy_O
  | 0, _, _, _ => none
  | n + 1, a1, a2, M => jgX11_ease_20 (jfX11_ease_20 n) a1 a2 M
set_option maxRecDepth 100000 in
theorem jrX11_ease_20 (k20 : Int32 → Int32 → sy_M → sy_O) (a1 : Int32) (a2 : Int32) (M : sy_M) : sy_run skX11 qX11_ease [(20, .iload_n 2, 1, []), (21, .bipush 99, 2, []), (23, .if_icmp .gt 53, 3, []), (26, .aload_n 0, 1, []), (27, .getfield 35, 3, []), (30, .aload_n 0, 1, []), (31, .getfield 28, 3, []), (34, .invokevirtual 115, 3, []), (37, .aload_n 0, 1, []), (38, .getfield 35, 3, []), (41, .iload_n 2, 1, []), (42, .aload_n 0, 1, []), (43, .getfield 28, 3, []), (46, .getfield 218, 3, []), (49, .imul, 1, []), (50, .invokevirtual 299, 3, []), (53, .aload_n 0, 1, []), (54, .iload_n 1, 1, []), (55, .iconst 0, 1, []), (56, .invokevirtual 295, 3, []), (59, .pop, 1, []), (60, .aload_n 0, 1, []), (61, .invokevirtual 292, 3, []), (64, .iconst (-1), 1, []), (65, .if_icmp .ne 5, 3, []), (68, .iload_n 2, 1, []), (69, .ireturn, 1, []), (70, .iinc 2 1, 3, []), (73, .goto (-53), 3, []), (76, .iconst (-1), 1, [false, false, false]), (77, .ireturn, 1, [])] [(9, 1, jcX2_takeOver), (25, 1, jcX2_addGas), (120, 0, jcX11_run), (115, 0, jcX11_firstColder)] [(20, juX11_ease_20 k20)] 32 [] 20 [.ref 0, .int a1, .int a2] [] M = jgX11_ease_20 k20 a1 a2 M := rfl
theorem jtX11_ease_20 : ∀ n : Nat, ∀ (a1 : Int32) (a2 : Int32) (M : sy_M) (r : xe_R × sy_M), jfX11_ease_20 n a1 a2 M = some r → sy_E (6) qX11_ease 20 [.ref 0, .int a1, .int a2] [] M r := by
  intro n
  induction n with
  | zero => intro a1 a2 M r h; exact absurd (show (none : sy_O) = some r from h) (by simp)
  | succ n ih => intro a1 a2 M r h; exact sy_run_by (d := 5) ((jrX11_ease_20 _ _ _ M).trans h) hkX11 (by decide +kernel) (sy_cs_cons (jeX2_takeOver.deep (by decide)) (sy_cs_cons (jeX2_addGas.deep (by decide)) (sy_cs_cons (jeX11_run.deep (by decide)) (sy_cs_cons (jeX11_firstColder.deep (by decide)) sy_cs_nil)))) (sy_us_cons (jwX11_ease_20 ih) sy_us_nil)
def jfX11_ease (a1 : Int32) (M : sy_M) : sy_O :=
  sy_bv (jfX11_checkRange a1 0 48 M) fun M1 =>
  sy_bv (jfX8_learn 9 M1) fun M2 =>
  jfX11_ease_20 sy_F a1 0 M2
set_option maxRecDepth 100000 in
theorem jrX11_ease (a1 : Int32) (M : sy_M) : sy_run skX11 qX11_ease [(0, .iload_n 1, 1, []), (1, .iconst 0, 1, []), (2, .bipush 48, 2, []), (4, .invokestatic 248, 3, []), (7, .aload_n 0, 1, []), (8, .getfield 75, 3, []), (11, .aload_n 0, 1, []), (12, .getfield 28, 3, []), (15, .invokevirtual 181, 3, []), (18, .iconst 0, 1, []), (19, .istore_n 2, 1, [])] [(179, 1, jcX11_checkRange), (63, 1, jcX8_learn)] [(20, juX11_ease_20 (jfX11_ease_20 sy_F))] 12 [] 0 [.ref 0, .int a1, xe_no] [] M = jfX11_ease a1 M := rfl
theorem jtX11_ease : ∀ (a1 : Int32) (M : sy_M) (r : xe_R × sy_M), jfX11_ease a1 M = some r → sy_E (6) qX11_ease 0 [.ref 0, .int a1, xe_no] [] M r := by
  intro a1 M r h
  exact sy_run_by (d := 5) ((jrX11_ease _ M).trans h) hkX11 (by decide +kernel) (sy_cs_cons (jeX11_checkRange.deep (by decide)) (sy_cs_cons (jeX8_learn.deep (by decide)) sy_cs_nil)) (sy_us_cons (jwX11_ease_20 (jtX11_ease_20 sy_F)) sy_us_nil)
def jcX11_ease (as : List Value) (M : sy_M) (K : sy_O → sy_O) : sy_O := sy_xc 0 as fun l => sy_xi l fun a1 l => sy_xn l (K (jfX11_ease a1 M))
theorem jeX11_ease : sy_snd (6) 118 (jcX11_ease) := by
  intro as M K r h
  obtain ⟨l, e, h1⟩ := sy_xc_ok h; subst e
  obtain ⟨a1, l, e, h2⟩ := sy_xi_ok h1; subst e
  obtain ⟨e, h3⟩ := sy_xn_ok h2; subst e
  exact ⟨_, h3, fun r1 h0 => ⟨qX11_ease, rfl, rfl, jtX11_ease _ M r1 h0⟩⟩
/-! L_ease StairMeterLaw ease (LStairMeter;I[J)I [('R', 0), 'I', ('R', 132)] -/
def jfL_ease (a1 : Int32) (M : sy_M) : sy_O :=
  sy_hi (jfX11_ease a1 M) (fun v2 M1 =>
    let M5 := sy_wl M1 132 0 (Int32.toInt64 v2)
    sy_ri 0 M5)
  (fun c3 M4 => if c3 = 20 then sy_ri 1 M4 else none)
set_option maxRecDepth 100000 in
theorem jrL_ease (a1 : Int32) (M : sy_M) : sy_run skL qL_ease [(0, .aload_n 2, 1, []), (1, .iconst 0, 1, []), (2, .aload_n 0, 1, []), (3, .iload_n 1, 1, []), (4, .invokevirtual 72, 3, []), (7, .i2l, 1, []), (8, .lastore, 1, []), (9, .goto 6, 3, []), (12, .astore_n 3, 1, [false, false, false, false]), (13, .iconst 1, 1, []), (14, .ireturn, 1, []), (15, .iconst 0, 1, [false, false, false, false]), (16, .ireturn, 1, [])] [(118, 3, jcX11_ease)] [] 14 [] 0 [.ref 0, .int a1, .ref 132, xe_no] [] M = jfL_ease a1 M := rfl
theorem jtL_ease : ∀ (a1 : Int32) (M : sy_M) (r : xe_R × sy_M), jfL_ease a1 M = some r → sy_E (7) qL_ease 0 [.ref 0, .int a1, .ref 132, xe_no] [] M r := by
  intro a1 M r h
  exact sy_run_by (d := 6) ((jrL_ease _ M).trans h) hkL (by decide +kernel) (sy_cs_cons (jeX11_ease.deep (by decide)) sy_cs_nil) sy_us_nil
def jcL_ease (as : List Value) (M : sy_M) (K : sy_O → sy_O) : sy_O := sy_xc 0 as fun l => sy_xi l fun a1 l => sy_xc 132 l fun l => sy_xn l (K (jfL_ease a1 M))
theorem jeL_ease : sy_snd (7) 337 (jcL_ease) := by
  intro as M K r h
  obtain ⟨l, e, h1⟩ := sy_xc_ok h; subst e
  obtain ⟨a1, l, e, h2⟩ := sy_xi_ok h1; subst e
  obtain ⟨l, e, h3⟩ := sy_xc_ok h2; subst e
  obtain ⟨e, h4⟩ := sy_xn_ok h3; subst e
  exact ⟨_, h4, fun r1 h0 => ⟨qL_ease, rfl, rfl, jtL_ease _ M r1 h0⟩⟩
/-! X12_ease StairMeterModel ease (I)I [('R', 121), 'I'] -/
def juX12_ease_99 (k : Int32 → Int32 → Int32 → sy_M → sy_O) (ls st : List Value) (M : sy_M) : sy_O := sy_xc 121 ls fun l => sy_xi l fun a1 l => sy_xi l fun a2 l => sy_xi l fun a3 l => sy_xv l fun _ l => sy_xn l (sy_xn st (k a1 a2 a3 M))
theorem jwX12_ease_99 {d : Nat} {k : Int32 → Int32 → Int32 → sy_M → sy_O} (hk : ∀ (w4 : Value) (a1 : Int32) (a2 : Int32) (a3 : Int32) (M : sy_M) (r : xe_R × sy_M), k a1 a2 a3 M = some r → sy_E (d) qX12_ease 99 [.ref 121, .int a1, .int a2, .int a3, w4] [] M r) : ∀ ls st M r, juX12_ease_99 k ls st M = some r → sy_E d qX12_ease 99 ls st M r := by
  intro ls st M r h
  obtain ⟨l, e, h1⟩ := sy_xc_ok h; subst e
  obtain ⟨a1, l, e, h2⟩ := sy_xi_ok h1; subst e
  obtain ⟨a2, l, e, h3⟩ := sy_xi_ok h2; subst e
  obtain ⟨a3, l, e, h4⟩ := sy_xi_ok h3; subst e
  obtain ⟨w4, l, e, h5⟩ := sy_xv_ok h4; subst e
  obtain ⟨e, h6⟩ := sy_xn_ok h5; subst e
  obtain ⟨e, h7⟩ := sy_xn_ok h6; subst e
  exact hk _ a1 a2 a3 M r h7
def juX12_ease_40 (k : Int32 → Int32 → Int32 → sy_M → sy_O) (ls st : List Value) (M : sy_M) : sy_O := sy_xc 121 ls fun l => sy_xi l fun a1 l => sy_xi l fun a2 l => sy_xi l fun a3 l => sy_xv l fun _ l => sy_xn l (sy_xn st (k a1 a2 a3 M))
theorem jwX12_ease_40 {d : Nat} {k : Int32 → Int32 → Int32 → sy_M → sy_O} (hk : ∀ (w4 : Value) (a1 : Int32) (a2 : Int32) (a3 : Int32) (M : sy_M) (r : xe_R × sy_M), k a1 a2 a3 M = some r → sy_E (d) qX12_ease 40 [.ref 121, .int a1, .int a2, .int a3, w4] [] M r) : ∀ ls st M r, juX12_ease_40 k ls st M = some r → sy_E d qX12_ease 40 ls st M r := by
  intro ls st M r h
  obtain ⟨l, e, h1⟩ := sy_xc_ok h; subst e
  obtain ⟨a1, l, e, h2⟩ := sy_xi_ok h1; subst e
  obtain ⟨a2, l, e, h3⟩ := sy_xi_ok h2; subst e
  obtain ⟨a3, l, e, h4⟩ := sy_xi_ok h3; subst e
  obtain ⟨w4, l, e, h5⟩ := sy_xv_ok h4; subst e
  obtain ⟨e, h6⟩ := sy_xn_ok h5; subst e
  obtain ⟨e, h7⟩ := sy_xn_ok h6; subst e
  exact hk _ a1 a2 a3 M r h7
def juX12_ease_16 (k : Int32 → Int32 → sy_M → sy_O) (ls st : List Value) (M : sy_M) : sy_O := sy_xc 121 ls fun l => sy_xi l fun a1 l => sy_xv l fun _ l => sy_xv l fun _ l => sy_xv l fun _ l => sy_xn l (sy_xi st fun s0 l => sy_xc 121 l fun l => sy_xn l (k a1 s0 M))
theorem jwX12_ease_16 {d : Nat} {k : Int32 → Int32 → sy_M → sy_O} (hk : ∀ (w2 : Value) (w3 : Value) (w4 : Value) (a1 : Int32) (s0 : Int32) (M : sy_M) (r : xe_R × sy_M), k a1 s0 M = some r → sy_E (d) qX12_ease 16 [.ref 121, .int a1, w2, w3, w4] [.int s0, .ref 121] M r) : ∀ ls st M r, juX12_ease_16 k ls st M = some r → sy_E d qX12_ease 16 ls st M r := by
  intro ls st M r h
  obtain ⟨l, e, h1⟩ := sy_xc_ok h; subst e
  obtain ⟨a1, l, e, h2⟩ := sy_xi_ok h1; subst e
  obtain ⟨w2, l, e, h3⟩ := sy_xv_ok h2; subst e
  obtain ⟨w3, l, e, h4⟩ := sy_xv_ok h3; subst e
  obtain ⟨w4, l, e, h5⟩ := sy_xv_ok h4; subst e
  obtain ⟨e, h6⟩ := sy_xn_ok h5; subst e
  obtain ⟨s0, l, e, h7⟩ := sy_xi_ok h6; subst e
  obtain ⟨l, e, h8⟩ := sy_xc_ok h7; subst e
  obtain ⟨e, h9⟩ := sy_xn_ok h8; subst e
  exact hk _ _ _ a1 s0 M r h9
def jfX12_ease_99 (k40 : Int32 → Int32 → Int32 → sy_M → sy_O) (a1 : Int32) (a2 : Int32) (a3 : Int32) (M : sy_M) : sy_O :=
  sy_bv (jfX12_comesBack M) fun M1 =>
  let v2 := a3 + 1
  k40 a1 a2 v2 M1
set_option maxRecDepth 100000 in
theorem jrX12_ease_99 (k40 : Int32 → Int32 → Int32 → sy_M → sy_O) (w4 : Value) (a1 : Int32) (a2 : Int32) (a3 : Int32) (M : sy_M) : sy_run skX12 qX12_ease [(99, .aload_n 0, 1, [true, true, true, true, false]), (100, .invokevirtual 182, 3, []), (103, .iinc 3 1, 3, []), (106, .goto (-66), 3, [])] [(216, 1, jcX12_comesBack)] [(40, juX12_ease_40 k40)] 5 [] 99 [.ref 121, .int a1, .int a2, .int a3, w4] [] M = jfX12_ease_99 k40 a1 a2 a3 M := rfl
theorem jtX12_ease_99 {k40 : Int32 → Int32 → Int32 → sy_M → sy_O} (hk40 : ∀ (w4 : Value) (a1 : Int32) (a2 : Int32) (a3 : Int32) (M : sy_M) (r : xe_R × sy_M), k40 a1 a2 a3 M = some r → sy_E (52) qX12_ease 40 [.ref 121, .int a1, .int a2, .int a3, w4] [] M r) : ∀ (w4 : Value) (a1 : Int32) (a2 : Int32) (a3 : Int32) (M : sy_M) (r : xe_R × sy_M), jfX12_ease_99 k40 a1 a2 a3 M = some r → sy_E (52) qX12_ease 99 [.ref 121, .int a1, .int a2, .int a3, w4] [] M r := by
  intro w4 a1 a2 a3 M r h
  exact sy_run_by (d := 51) ((jrX12_ease_99 _ _ _ _ _ M).trans h) hkX12 (by decide +kernel) (sy_cs_cons (jeX12_comesBack.deep (by decide)) sy_cs_nil) (sy_us_cons (jwX12_ease_40 hk40) sy_us_nil)
def jgX12_ease_40 (k40 : Int32 → Int32 → Int32 → sy_M → sy_O) (a1 : Int32) (a2 : Int32) (a3 : Int32) (M : sy_M) : sy_O :=
  if 99 < a3 then
    sy_ri a2 M
  else
    if a2 = (-1) then
      sy_bi (jfX12_lesser 9999 ((M 122 6) + (a3 * (M 122 7))) M) fun v2 M1 =>
      let M3 := sy_upd M1 122 6 v2
      sy_bi (jfX12_goes a1 0 M3) fun v5 M4 =>
      sy_bi (jfX12_colder M4) fun v7 M6 =>
      if v7 = (-1) then
        jfX12_ease_99 k40 a1 a3 a3 M6
      else
        jfX12_ease_99 k40 a1 a2 a3 M6
    else
      sy_ri a2 M
def jfX12_ease_40 : Nat → Int32 → Int32 → Int32 → sy_M → sy_O
  | 0, _, _, _, _ => none
  | n + 1, a1, a2, a3, M => jgX12_ease_40 (jfX12_ease_40 n) a1 a2 a3 M
set_option maxRecDepth 100000 in
theorem jrX12_ease_40 (k40 : Int32 → Int32 → Int32 → sy_M → sy_O) (w4 : Value) (a1 : Int32) (a2 : Int32) (a3 : Int32) (M : sy_M) : sy_run skX12 qX12_ease [(40, .iload_n 3, 1, [true, true, true, true, false]), (41, .bipush 99, 2, []), (43, .if_icmp .gt 66, 3, []), (46, .iload_n 2, 1, []), (47, .iconst (-1), 1, []), (48, .if_icmp .ne 61, 3, []), (51, .aload_n 0, 1, []), (52, .getfield 7, 3, []), (55, .bipush 6, 2, []), (57, .sipush 9999, 3, []), (60, .aload_n 0, 1, []), (61, .getfield 7, 3, []), (64, .bipush 6, 2, []), (66, .iaload, 1, []), (67, .iload_n 3, 1, []), (68, .aload_n 0, 1, []), (69, .getfield 7, 3, []), (72, .bipush 7, 2, []), (74, .iaload, 1, []), (75, .imul, 1, []), (76, .iadd, 1, []), (77, .invokestatic 244, 3, []), (80, .iastore, 1, []), (81, .aload_n 0, 1, []), (82, .iload_n 1, 1, []), (83, .iconst 0, 1, []), (84, .invokevirtual 314, 3, []), (87, .istore 4, 2, []), (89, .aload_n 0, 1, []), (90, .invokevirtual 330, 3, []), (93, .iconst (-1), 1, []), (94, .if_icmp .ne 5, 3, []), (97, .iload_n 3, 1, []), (98, .istore_n 2, 1, []), (109, .iload_n 2, 1, [false, false, true, false, false]), (110, .ireturn, 1, [])] [(183, 0, jcX12_lesser), (235, 0, jcX12_goes), (262, 0, jcX12_colder)] [(99, juX12_ease_99 (jfX12_ease_99 k40))] 37 [] 40 [.ref 121, .int a1, .int a2, .int a3, w4] [] M = jgX12_ease_40 k40 a1 a2 a3 M := rfl
theorem jtX12_ease_40 : ∀ n : Nat, ∀ (w4 : Value) (a1 : Int32) (a2 : Int32) (a3 : Int32) (M : sy_M) (r : xe_R × sy_M), jfX12_ease_40 n a1 a2 a3 M = some r → sy_E (52) qX12_ease 40 [.ref 121, .int a1, .int a2, .int a3, w4] [] M r := by
  intro n
  induction n with
  | zero => intro w4 a1 a2 a3 M r h; exact absurd (show (none : sy_O) = some r from h) (by simp)
  | succ n ih => intro w4 a1 a2 a3 M r h; exact sy_run_by (d := 51) ((jrX12_ease_40 _ _ _ _ _ M).trans h) hkX12 (by decide +kernel) (sy_cs_cons (jeX12_lesser.deep (by decide)) (sy_cs_cons (jeX12_goes.deep (by decide)) (sy_cs_cons (jeX12_colder.deep (by decide)) sy_cs_nil))) (sy_us_cons (jwX12_ease_99 (jtX12_ease_99 ih)) sy_us_nil)
def jfX12_ease_16 (a1 : Int32) (s0 : Int32) (M : sy_M) : sy_O :=
  let M1 := sy_upd M 121 0 s0
  if 0 < (M1 121 0) then
    sy_ri 0 M1
  else
    sy_bv (jfX12_keepsColds M1) fun M2 =>
    sy_bv (jfX12_putsAside M2) fun M3 =>
    jfX12_ease_40 sy_F a1 (-1) 0 M3
set_option maxRecDepth 100000 in
theorem jrX12_ease_16 (w2 : Value) (w3 : Value) (w4 : Value) (a1 : Int32) (s0 : Int32) (M : sy_M) : sy_run skX12 qX12_ease [(16, .putfield 45, 3, [true, true, false, false, false]), (19, .aload_n 0, 1, []), (20, .getfield 45, 3, []), (23, .ifCond .le 5, 3, []), (26, .iconst 0, 1, []), (27, .ireturn, 1, []), (28, .aload_n 0, 1, [true, true, false, false, false]), (29, .invokevirtual 327, 3, []), (32, .aload_n 0, 1, []), (33, .invokevirtual 172, 3, []), (36, .iconst (-1), 1, []), (37, .istore_n 2, 1, []), (38, .iconst 0, 1, []), (39, .istore_n 3, 1, [])] [(261, 1, jcX12_keepsColds), (215, 1, jcX12_putsAside)] [(40, juX12_ease_40 (jfX12_ease_40 sy_F))] 15 [] 16 [.ref 121, .int a1, w2, w3, w4] [.int s0, .ref 121] M = jfX12_ease_16 a1 s0 M := rfl
theorem jtX12_ease_16 : ∀ (w2 : Value) (w3 : Value) (w4 : Value) (a1 : Int32) (s0 : Int32) (M : sy_M) (r : xe_R × sy_M), jfX12_ease_16 a1 s0 M = some r → sy_E (52) qX12_ease 16 [.ref 121, .int a1, w2, w3, w4] [.int s0, .ref 121] M r := by
  intro w2 w3 w4 a1 s0 M r h
  exact sy_run_by (d := 51) ((jrX12_ease_16 _ _ _ _ _ M).trans h) hkX12 (by decide +kernel) (sy_cs_cons (jeX12_keepsColds.deep (by decide)) (sy_cs_cons (jeX12_putsAside.deep (by decide)) sy_cs_nil)) (sy_us_cons (jwX12_ease_40 (jtX12_ease_40 sy_F)) sy_us_nil)
def jfX12_ease (a1 : Int32) (M : sy_M) : sy_O :=
  sy_bi (jfX12_isIn a1 0 48 M) fun v2 M1 =>
  if v2 = 0 then
    jfX12_ease_16 a1 1 M1
  else
    jfX12_ease_16 a1 0 M1
set_option maxRecDepth 100000 in
theorem jrX12_ease (a1 : Int32) (M : sy_M) : sy_run skX12 qX12_ease [(0, .aload_n 0, 1, []), (1, .iload_n 1, 1, []), (2, .iconst 0, 1, []), (3, .bipush 48, 2, []), (5, .invokestatic 48, 3, []), (8, .ifCond .ne 7, 3, []), (11, .iconst 1, 1, []), (12, .goto 4, 3, []), (15, .iconst 0, 1, [true, true, false, false, false])] [(182, 0, jcX12_isIn)] [(16, juX12_ease_16 (jfX12_ease_16))] 10 [] 0 [.ref 121, .int a1, xe_no, xe_no, xe_no] [] M = jfX12_ease a1 M := rfl
theorem jtX12_ease : ∀ (a1 : Int32) (M : sy_M) (r : xe_R × sy_M), jfX12_ease a1 M = some r → sy_E (52) qX12_ease 0 [.ref 121, .int a1, xe_no, xe_no, xe_no] [] M r := by
  intro a1 M r h
  exact sy_run_by (d := 51) ((jrX12_ease _ M).trans h) hkX12 (by decide +kernel) (sy_cs_cons (jeX12_isIn.deep (by decide)) sy_cs_nil) (sy_us_cons (jwX12_ease_16 (jtX12_ease_16)) sy_us_nil)
def jcX12_ease (as : List Value) (M : sy_M) (K : sy_O → sy_O) : sy_O := sy_xc 121 as fun l => sy_xi l fun a1 l => sy_xn l (K (jfX12_ease a1 M))
theorem jeX12_ease : sy_snd (52) 266 (jcX12_ease) := by
  intro as M K r h
  obtain ⟨l, e, h1⟩ := sy_xc_ok h; subst e
  obtain ⟨a1, l, e, h2⟩ := sy_xi_ok h1; subst e
  obtain ⟨e, h3⟩ := sy_xn_ok h2; subst e
  exact ⟨_, h3, fun r1 h0 => ⟨qX12_ease, rfl, rfl, jtX12_ease _ M r1 h0⟩⟩
/-! X11_grief StairMeter grief (II)I [('R', 0), 'I', 'I'] -/
def jfX11_grief (a1 : Int32) (a2 : Int32) (M : sy_M) : sy_O :=
  sy_bv (jfX11_checkLodger a1 M) fun M1 =>
  sy_bv (jfX11_checkRange a2 0 20 M1) fun M2 =>
  sy_bv (jfX8_learn 9 M2) fun M3 =>
  sy_bi (jfX11_griefBy a1 a2 M3) fun v5 M4 =>
  sy_ri v5 M4
set_option maxRecDepth 100000 in
theorem jrX11_grief (a1 : Int32) (a2 : Int32) (M : sy_M) : sy_run skX11 qX11_grief [(0, .aload_n 0, 1, []), (1, .iload_n 1, 1, []), (2, .invokevirtual 149, 3, []), (5, .iload_n 2, 1, []), (6, .iconst 0, 1, []), (7, .bipush 20, 2, []), (9, .invokestatic 248, 3, []), (12, .aload_n 0, 1, []), (13, .getfield 75, 3, []), (16, .aload_n 0, 1, []), (17, .getfield 28, 3, []), (20, .invokevirtual 181, 3, []), (23, .aload_n 0, 1, []), (24, .iload_n 1, 1, []), (25, .iload_n 2, 1, []), (26, .invokevirtual 302, 3, []), (29, .ireturn, 1, [])] [(176, 1, jcX11_checkLodger), (179, 1, jcX11_checkRange), (63, 1, jcX8_learn), (127, 0, jcX11_griefBy)] [] 18 [] 0 [.ref 0, .int a1, .int a2] [] M = jfX11_grief a1 a2 M := rfl
theorem jtX11_grief : ∀ (a1 : Int32) (a2 : Int32) (M : sy_M) (r : xe_R × sy_M), jfX11_grief a1 a2 M = some r → sy_E (7) qX11_grief 0 [.ref 0, .int a1, .int a2] [] M r := by
  intro a1 a2 M r h
  exact sy_run_by (d := 6) ((jrX11_grief _ _ M).trans h) hkX11 (by decide +kernel) (sy_cs_cons (jeX11_checkLodger.deep (by decide)) (sy_cs_cons (jeX11_checkRange.deep (by decide)) (sy_cs_cons (jeX8_learn.deep (by decide)) (sy_cs_cons (jeX11_griefBy.deep (by decide)) sy_cs_nil)))) sy_us_nil
def jcX11_grief (as : List Value) (M : sy_M) (K : sy_O → sy_O) : sy_O := sy_xc 0 as fun l => sy_xi l fun a1 l => sy_xi l fun a2 l => sy_xn l (K (jfX11_grief a1 a2 M))
theorem jeX11_grief : sy_snd (7) 121 (jcX11_grief) := by
  intro as M K r h
  obtain ⟨l, e, h1⟩ := sy_xc_ok h; subst e
  obtain ⟨a1, l, e, h2⟩ := sy_xi_ok h1; subst e
  obtain ⟨a2, l, e, h3⟩ := sy_xi_ok h2; subst e
  obtain ⟨e, h4⟩ := sy_xn_ok h3; subst e
  exact ⟨_, h4, fun r1 h0 => ⟨qX11_grief, rfl, rfl, jtX11_grief _ _ M r1 h0⟩⟩
/-! L_grief StairMeterLaw grief (LStairMeter;II[J)I [('R', 0), 'I', 'I', ('R', 132)] -/
def jfL_grief (a1 : Int32) (a2 : Int32) (M : sy_M) : sy_O :=
  sy_hi (jfX11_grief a1 a2 M) (fun v2 M1 =>
    let M5 := sy_wl M1 132 0 (Int32.toInt64 v2)
    sy_ri 0 M5)
  (fun c3 M4 => if c3 = 22 then sy_ri 1 M4 else if c3 = 20 then sy_ri 2 M4 else none)
set_option maxRecDepth 100000 in
theorem jrL_grief (a1 : Int32) (a2 : Int32) (M : sy_M) : sy_run skL qL_grief [(0, .aload_n 3, 1, []), (1, .iconst 0, 1, []), (2, .aload_n 0, 1, []), (3, .iload_n 1, 1, []), (4, .iload_n 2, 1, []), (5, .invokevirtual 75, 3, []), (8, .i2l, 1, []), (9, .lastore, 1, []), (10, .goto 11, 3, []), (13, .astore 4, 2, [false, false, false, false, false]), (15, .iconst 1, 1, []), (16, .ireturn, 1, []), (17, .astore 4, 2, [false, false, false, false, false]), (19, .iconst 2, 1, []), (20, .ireturn, 1, []), (21, .iconst 0, 1, [false, false, false, false, false]), (22, .ireturn, 1, [])] [(121, 3, jcX11_grief)] [] 18 [] 0 [.ref 0, .int a1, .int a2, .ref 132, xe_no] [] M = jfL_grief a1 a2 M := rfl
theorem jtL_grief : ∀ (a1 : Int32) (a2 : Int32) (M : sy_M) (r : xe_R × sy_M), jfL_grief a1 a2 M = some r → sy_E (8) qL_grief 0 [.ref 0, .int a1, .int a2, .ref 132, xe_no] [] M r := by
  intro a1 a2 M r h
  exact sy_run_by (d := 7) ((jrL_grief _ _ M).trans h) hkL (by decide +kernel) (sy_cs_cons (jeX11_grief.deep (by decide)) sy_cs_nil) sy_us_nil
def jcL_grief (as : List Value) (M : sy_M) (K : sy_O → sy_O) : sy_O := sy_xc 0 as fun l => sy_xi l fun a1 l => sy_xi l fun a2 l => sy_xc 132 l fun l => sy_xn l (K (jfL_grief a1 a2 M))
theorem jeL_grief : sy_snd (8) 338 (jcL_grief) := by
  intro as M K r h
  obtain ⟨l, e, h1⟩ := sy_xc_ok h; subst e
  obtain ⟨a1, l, e, h2⟩ := sy_xi_ok h1; subst e
  obtain ⟨a2, l, e, h3⟩ := sy_xi_ok h2; subst e
  obtain ⟨l, e, h4⟩ := sy_xc_ok h3; subst e
  obtain ⟨e, h5⟩ := sy_xn_ok h4; subst e
  exact ⟨_, h5, fun r1 h0 => ⟨qL_grief, rfl, rfl, jtL_grief _ _ M r1 h0⟩⟩
/-! X12_grief StairMeterModel grief (II)I [('R', 121), 'I', 'I'] -/
def juX12_grief_28 (k : Int32 → Int32 → Int32 → sy_M → sy_O) (ls st : List Value) (M : sy_M) : sy_O := sy_xc 121 ls fun l => sy_xi l fun a1 l => sy_xi l fun a2 l => sy_xn l (sy_xi st fun s0 l => sy_xc 121 l fun l => sy_xn l (k a1 a2 s0 M))
theorem jwX12_grief_28 {d : Nat} {k : Int32 → Int32 → Int32 → sy_M → sy_O} (hk : ∀ (a1 : Int32) (a2 : Int32) (s0 : Int32) (M : sy_M) (r : xe_R × sy_M), k a1 a2 s0 M = some r → sy_E (d) qX12_grief 28 [.ref 121, .int a1, .int a2] [.int s0, .ref 121] M r) : ∀ ls st M r, juX12_grief_28 k ls st M = some r → sy_E d qX12_grief 28 ls st M r := by
  intro ls st M r h
  obtain ⟨l, e, h1⟩ := sy_xc_ok h; subst e
  obtain ⟨a1, l, e, h2⟩ := sy_xi_ok h1; subst e
  obtain ⟨a2, l, e, h3⟩ := sy_xi_ok h2; subst e
  obtain ⟨e, h4⟩ := sy_xn_ok h3; subst e
  obtain ⟨s0, l, e, h5⟩ := sy_xi_ok h4; subst e
  obtain ⟨l, e, h6⟩ := sy_xc_ok h5; subst e
  obtain ⟨e, h7⟩ := sy_xn_ok h6; subst e
  exact hk a1 a2 s0 M r h7
def jfX12_grief_28 (a1 : Int32) (a2 : Int32) (s0 : Int32) (M : sy_M) : sy_O :=
  let M1 := sy_upd M 121 0 s0
  if 0 < (M1 121 0) then
    sy_ri 0 M1
  else
    sy_bi (jfX12_griefOf a1 a2 M1) fun v3 M2 =>
    sy_ri v3 M2
set_option maxRecDepth 100000 in
theorem jrX12_grief_28 (a1 : Int32) (a2 : Int32) (s0 : Int32) (M : sy_M) : sy_run skX12 qX12_grief [(28, .putfield 45, 3, []), (31, .aload_n 0, 1, []), (32, .getfield 45, 3, []), (35, .ifCond .le 7, 3, []), (38, .iconst 0, 1, []), (39, .goto 9, 3, []), (42, .aload_n 0, 1, []), (43, .iload_n 1, 1, []), (44, .iload_n 2, 1, []), (45, .invokevirtual 340, 3, []), (48, .ireturn, 1, [false, false, false])] [(268, 0, jcX12_griefOf)] [] 12 [] 28 [.ref 121, .int a1, .int a2] [.int s0, .ref 121] M = jfX12_grief_28 a1 a2 s0 M := rfl
theorem jtX12_grief_28 : ∀ (a1 : Int32) (a2 : Int32) (s0 : Int32) (M : sy_M) (r : xe_R × sy_M), jfX12_grief_28 a1 a2 s0 M = some r → sy_E (54) qX12_grief 28 [.ref 121, .int a1, .int a2] [.int s0, .ref 121] M r := by
  intro a1 a2 s0 M r h
  exact sy_run_by (d := 53) ((jrX12_grief_28 _ _ _ M).trans h) hkX12 (by decide +kernel) (sy_cs_cons (jeX12_griefOf.deep (by decide)) sy_cs_nil) sy_us_nil
def jfX12_grief (a1 : Int32) (a2 : Int32) (M : sy_M) : sy_O :=
  sy_bi (jfX12_isLodger a1 M) fun v2 M1 =>
  if v2 = 0 then
    jfX12_grief_28 a1 a2 1 M1
  else
    sy_bi (jfX12_isIn a2 0 20 M1) fun v4 M3 =>
    if v4 = 0 then
      jfX12_grief_28 a1 a2 2 M3
    else
      jfX12_grief_28 a1 a2 0 M3
set_option maxRecDepth 100000 in
theorem jrX12_grief (a1 : Int32) (a2 : Int32) (M : sy_M) : sy_run skX12 qX12_grief [(0, .aload_n 0, 1, []), (1, .aload_n 0, 1, []), (2, .iload_n 1, 1, []), (3, .invokevirtual 284, 3, []), (6, .ifCond .ne 7, 3, []), (9, .iconst 1, 1, []), (10, .goto 18, 3, []), (13, .iload_n 2, 1, []), (14, .iconst 0, 1, []), (15, .bipush 20, 2, []), (17, .invokestatic 48, 3, []), (20, .ifCond .ne 7, 3, []), (23, .iconst 2, 1, []), (24, .goto 4, 3, []), (27, .iconst 0, 1, [])] [(190, 0, jcX12_isLodger), (182, 0, jcX12_isIn)] [(28, juX12_grief_28 (jfX12_grief_28))] 16 [] 0 [.ref 121, .int a1, .int a2] [] M = jfX12_grief a1 a2 M := rfl
theorem jtX12_grief : ∀ (a1 : Int32) (a2 : Int32) (M : sy_M) (r : xe_R × sy_M), jfX12_grief a1 a2 M = some r → sy_E (54) qX12_grief 0 [.ref 121, .int a1, .int a2] [] M r := by
  intro a1 a2 M r h
  exact sy_run_by (d := 53) ((jrX12_grief _ _ M).trans h) hkX12 (by decide +kernel) (sy_cs_cons (jeX12_isLodger.deep (by decide)) (sy_cs_cons (jeX12_isIn.deep (by decide)) sy_cs_nil)) (sy_us_cons (jwX12_grief_28 (jtX12_grief_28)) sy_us_nil)
def jcX12_grief (as : List Value) (M : sy_M) (K : sy_O → sy_O) : sy_O := sy_xc 121 as fun l => sy_xi l fun a1 l => sy_xi l fun a2 l => sy_xn l (K (jfX12_grief a1 a2 M))
theorem jeX12_grief : sy_snd (54) 270 (jcX12_grief) := by
  intro as M K r h
  obtain ⟨l, e, h1⟩ := sy_xc_ok h; subst e
  obtain ⟨a1, l, e, h2⟩ := sy_xi_ok h1; subst e
  obtain ⟨a2, l, e, h3⟩ := sy_xi_ok h2; subst e
  obtain ⟨e, h4⟩ := sy_xn_ok h3; subst e
  exact ⟨_, h4, fun r1 h0 => ⟨qX12_grief, rfl, rfl, jtX12_grief _ _ M r1 h0⟩⟩
/-! X11_wouldWait StairMeter wouldWait (I)Z [('R', 0), 'I'] -/
def juX11_wouldWait_17 (k : Int32 → Int32 → Int32 → sy_M → sy_O) (ls st : List Value) (M : sy_M) : sy_O := sy_xc 0 ls fun l => sy_xi l fun a1 l => sy_xi l fun a2 l => sy_xi l fun a3 l => sy_xn l (sy_xn st (k a1 a2 a3 M))
theorem jwX11_wouldWait_17 {d : Nat} {k : Int32 → Int32 → Int32 → sy_M → sy_O} (hk : ∀ (a1 : Int32) (a2 : Int32) (a3 : Int32) (M : sy_M) (r : xe_R × sy_M), k a1 a2 a3 M = some r → sy_E (d) qX11_wouldWait 17 [.ref 0, .int a1, .int a2, .int a3] [] M r) : ∀ ls st M r, juX11_wouldWait_17 k ls st M = some r → sy_E d qX11_wouldWait 17 ls st M r := by
  intro ls st M r h
  obtain ⟨l, e, h1⟩ := sy_xc_ok h; subst e
  obtain ⟨a1, l, e, h2⟩ := sy_xi_ok h1; subst e
  obtain ⟨a2, l, e, h3⟩ := sy_xi_ok h2; subst e
  obtain ⟨a3, l, e, h4⟩ := sy_xi_ok h3; subst e
  obtain ⟨e, h5⟩ := sy_xn_ok h4; subst e
  obtain ⟨e, h6⟩ := sy_xn_ok h5; subst e
  exact hk a1 a2 a3 M r h6
def jgX11_wouldWait_17 (k17 : Int32 → Int32 → Int32 → sy_M → sy_O) (a1 : Int32) (a2 : Int32) (a3 : Int32) (M : sy_M) : sy_O :=
  if 20 < a3 then
    sy_ri 0 M
  else
    sy_bi (jfX11_griefBy a1 a3 M) fun v2 M1 =>
    if v2 < a2 then
      sy_ri 1 M1
    else
      let v3 := a3 + 1
      k17 a1 a2 v3 M1
def jfX11_wouldWait_17 : Nat → Int32 → Int32 → Int32 → sy_M → sy_O
  | 0, _, _, _, _ => none
  | n + 1, a1, a2, a3, M => jgX11_wouldWait_17 (jfX11_wouldWait_17 n) a1 a2 a3 M
set_option maxRecDepth 100000 in
theorem jrX11_wouldWait_17 (k17 : Int32 → Int32 → Int32 → sy_M → sy_O) (a1 : Int32) (a2 : Int32) (a3 : Int32) (M : sy_M) : sy_run skX11 qX11_wouldWait [(17, .iload_n 3, 1, []), (18, .bipush 20, 2, []), (20, .if_icmp .gt 21, 3, []), (23, .aload_n 0, 1, []), (24, .iload_n 1, 1, []), (25, .iload_n 3, 1, []), (26, .invokevirtual 302, 3, []), (29, .iload_n 2, 1, []), (30, .if_icmp .ge 5, 3, []), (33, .iconst 1, 1, []), (34, .ireturn, 1, []), (35, .iinc 3 1, 3, []), (38, .goto (-21), 3, []), (41, .iconst 0, 1, [false, false, false, false]), (42, .ireturn, 1, [])] [(127, 0, jcX11_griefBy)] [(17, juX11_wouldWait_17 k17)] 16 [] 17 [.ref 0, .int a1, .int a2, .int a3] [] M = jgX11_wouldWait_17 k17 a1 a2 a3 M := rfl
theorem jtX11_wouldWait_17 : ∀ n : Nat, ∀ (a1 : Int32) (a2 : Int32) (a3 : Int32) (M : sy_M) (r : xe_R × sy_M), jfX11_wouldWait_17 n a1 a2 a3 M = some r → sy_E (7) qX11_wouldWait 17 [.ref 0, .int a1, .int a2, .int a3] [] M r := by
  intro n
  induction n with
  | zero => intro a1 a2 a3 M r h; exact absurd (show (none : sy_O) = some r from h) (by simp)
  | succ n ih => intro a1 a2 a3 M r h; exact sy_run_by (d := 6) ((jrX11_wouldWait_17 _ _ _ _ M).trans h) hkX11 (by decide +kernel) (sy_cs_cons (jeX11_griefBy.deep (by decide)) sy_cs_nil) (sy_us_cons (jwX11_wouldWait_17 ih) sy_us_nil)
def jfX11_wouldWait (a1 : Int32) (M : sy_M) : sy_O :=
  sy_bi (jfX2_get 9 a1 4 M) fun v2 M1 =>
  sy_bi (jfX11_griefBy a1 v2 M1) fun v4 M3 =>
  jfX11_wouldWait_17 sy_F a1 v4 0 M3
set_option maxRecDepth 100000 in
theorem jrX11_wouldWait (a1 : Int32) (M : sy_M) : sy_run skX11 qX11_wouldWait [(0, .aload_n 0, 1, []), (1, .iload_n 1, 1, []), (2, .aload_n 0, 1, []), (3, .getfield 28, 3, []), (6, .iload_n 1, 1, []), (7, .iconst 4, 1, []), (8, .invokevirtual 152, 3, []), (11, .invokevirtual 302, 3, []), (14, .istore_n 2, 1, []), (15, .iconst 0, 1, []), (16, .istore_n 3, 1, [])] [(10, 0, jcX2_get), (127, 0, jcX11_griefBy)] [(17, juX11_wouldWait_17 (jfX11_wouldWait_17 sy_F))] 12 [] 0 [.ref 0, .int a1, xe_no, xe_no] [] M = jfX11_wouldWait a1 M := rfl
theorem jtX11_wouldWait : ∀ (a1 : Int32) (M : sy_M) (r : xe_R × sy_M), jfX11_wouldWait a1 M = some r → sy_E (7) qX11_wouldWait 0 [.ref 0, .int a1, xe_no, xe_no] [] M r := by
  intro a1 M r h
  exact sy_run_by (d := 6) ((jrX11_wouldWait _ M).trans h) hkX11 (by decide +kernel) (sy_cs_cons (jeX2_get.deep (by decide)) (sy_cs_cons (jeX11_griefBy.deep (by decide)) sy_cs_nil)) (sy_us_cons (jwX11_wouldWait_17 (jtX11_wouldWait_17 sy_F)) sy_us_nil)
def jcX11_wouldWait (as : List Value) (M : sy_M) (K : sy_O → sy_O) : sy_O := sy_xc 0 as fun l => sy_xi l fun a1 l => sy_xn l (K (jfX11_wouldWait a1 M))
theorem jeX11_wouldWait : sy_snd (7) 123 (jcX11_wouldWait) := by
  intro as M K r h
  obtain ⟨l, e, h1⟩ := sy_xc_ok h; subst e
  obtain ⟨a1, l, e, h2⟩ := sy_xi_ok h1; subst e
  obtain ⟨e, h3⟩ := sy_xn_ok h2; subst e
  exact ⟨_, h3, fun r1 h0 => ⟨qX11_wouldWait, rfl, rfl, jtX11_wouldWait _ M r1 h0⟩⟩
/-! X11_restless StairMeter restless ()I [('R', 0)] -/
def juX11_restless_40 (k : Int32 → Int32 → sy_M → sy_O) (ls st : List Value) (M : sy_M) : sy_O := sy_xc 0 ls fun l => sy_xi l fun a1 l => sy_xi l fun a2 l => sy_xn l (sy_xn st (k a1 a2 M))
theorem jwX11_restless_40 {d : Nat} {k : Int32 → Int32 → sy_M → sy_O} (hk : ∀ (a1 : Int32) (a2 : Int32) (M : sy_M) (r : xe_R × sy_M), k a1 a2 M = some r → sy_E (d) qX11_restless 40 [.ref 0, .int a1, .int a2] [] M r) : ∀ ls st M r, juX11_restless_40 k ls st M = some r → sy_E d qX11_restless 40 ls st M r := by
  intro ls st M r h
  obtain ⟨l, e, h1⟩ := sy_xc_ok h; subst e
  obtain ⟨a1, l, e, h2⟩ := sy_xi_ok h1; subst e
  obtain ⟨a2, l, e, h3⟩ := sy_xi_ok h2; subst e
  obtain ⟨e, h4⟩ := sy_xn_ok h3; subst e
  obtain ⟨e, h5⟩ := sy_xn_ok h4; subst e
  exact hk a1 a2 M r h5
def juX11_restless_15 (k : Int32 → Int32 → sy_M → sy_O) (ls st : List Value) (M : sy_M) : sy_O := sy_xc 0 ls fun l => sy_xi l fun a1 l => sy_xi l fun a2 l => sy_xn l (sy_xn st (k a1 a2 M))
theorem jwX11_restless_15 {d : Nat} {k : Int32 → Int32 → sy_M → sy_O} (hk : ∀ (a1 : Int32) (a2 : Int32) (M : sy_M) (r : xe_R × sy_M), k a1 a2 M = some r → sy_E (d) qX11_restless 15 [.ref 0, .int a1, .int a2] [] M r) : ∀ ls st M r, juX11_restless_15 k ls st M = some r → sy_E d qX11_restless 15 ls st M r := by
  intro ls st M r h
  obtain ⟨l, e, h1⟩ := sy_xc_ok h; subst e
  obtain ⟨a1, l, e, h2⟩ := sy_xi_ok h1; subst e
  obtain ⟨a2, l, e, h3⟩ := sy_xi_ok h2; subst e
  obtain ⟨e, h4⟩ := sy_xn_ok h3; subst e
  obtain ⟨e, h5⟩ := sy_xn_ok h4; subst e
  exact hk a1 a2 M r h5
def jfX11_restless_40 (k15 : Int32 → Int32 → sy_M → sy_O) (a1 : Int32) (a2 : Int32) (M : sy_M) : sy_O :=
  let v1 := a2 + 1
  k15 a1 v1 M
set_option maxRecDepth 100000 in
theorem jrX11_restless_40 (k15 : Int32 → Int32 → sy_M → sy_O) (a1 : Int32) (a2 : Int32) (M : sy_M) : sy_run skX11 qX11_restless [(40, .iinc 2 1, 3, []), (43, .goto (-28), 3, [])] [] [(15, juX11_restless_15 k15)] 3 [] 40 [.ref 0, .int a1, .int a2] [] M = jfX11_restless_40 k15 a1 a2 M := rfl
theorem jtX11_restless_40 {k15 : Int32 → Int32 → sy_M → sy_O} (hk15 : ∀ (a1 : Int32) (a2 : Int32) (M : sy_M) (r : xe_R × sy_M), k15 a1 a2 M = some r → sy_E (8) qX11_restless 15 [.ref 0, .int a1, .int a2] [] M r) : ∀ (a1 : Int32) (a2 : Int32) (M : sy_M) (r : xe_R × sy_M), jfX11_restless_40 k15 a1 a2 M = some r → sy_E (8) qX11_restless 40 [.ref 0, .int a1, .int a2] [] M r := by
  intro a1 a2 M r h
  exact sy_run_by (d := 7) ((jrX11_restless_40 _ _ _ M).trans h) hkX11 (by decide +kernel) sy_cs_nil (sy_us_cons (jwX11_restless_15 hk15) sy_us_nil)
def jgX11_restless_15 (k15 : Int32 → Int32 → sy_M → sy_O) (a1 : Int32) (a2 : Int32) (M : sy_M) : sy_O :=
  if a2 < (M 9 3) then
    sy_bi (jfX11_wouldWait a2 M) fun v2 M1 =>
    if v2 = 0 then
      jfX11_restless_40 k15 a1 a2 M1
    else
      let v3 := (a1 ||| (1 <<< (a2 &&& 31)))
      jfX11_restless_40 k15 v3 a2 M1
  else
    sy_ri a1 M
def jfX11_restless_15 : Nat → Int32 → Int32 → sy_M → sy_O
  | 0, _, _, _ => none
  | n + 1, a1, a2, M => jgX11_restless_15 (jfX11_restless_15 n) a1 a2 M
set_option maxRecDepth 100000 in
theorem jrX11_restless_15 (k15 : Int32 → Int32 → sy_M → sy_O) (a1 : Int32) (a2 : Int32) (M : sy_M) : sy_run skX11 qX11_restless [(15, .iload_n 2, 1, []), (16, .aload_n 0, 1, []), (17, .getfield 28, 3, []), (20, .getfield 207, 3, []), (23, .if_icmp .ge 23, 3, []), (26, .aload_n 0, 1, []), (27, .iload_n 2, 1, []), (28, .invokevirtual 305, 3, []), (31, .ifCond .eq 9, 3, []), (34, .iload_n 1, 1, []), (35, .iconst 1, 1, []), (36, .iload_n 2, 1, []), (37, .ishl, 1, []), (38, .ior, 1, []), (39, .istore_n 1, 1, []), (46, .iload_n 1, 1, [false, true, false]), (47, .ireturn, 1, [])] [(123, 0, jcX11_wouldWait)] [(40, juX11_restless_40 (jfX11_restless_40 k15))] 18 [] 15 [.ref 0, .int a1, .int a2] [] M = jgX11_restless_15 k15 a1 a2 M := rfl
theorem jtX11_restless_15 : ∀ n : Nat, ∀ (a1 : Int32) (a2 : Int32) (M : sy_M) (r : xe_R × sy_M), jfX11_restless_15 n a1 a2 M = some r → sy_E (8) qX11_restless 15 [.ref 0, .int a1, .int a2] [] M r := by
  intro n
  induction n with
  | zero => intro a1 a2 M r h; exact absurd (show (none : sy_O) = some r from h) (by simp)
  | succ n ih => intro a1 a2 M r h; exact sy_run_by (d := 7) ((jrX11_restless_15 _ _ _ M).trans h) hkX11 (by decide +kernel) (sy_cs_cons (jeX11_wouldWait.deep (by decide)) sy_cs_nil) (sy_us_cons (jwX11_restless_40 (jtX11_restless_40 ih)) sy_us_nil)
def jfX11_restless (M : sy_M) : sy_O :=
  sy_bv (jfX8_learn 9 M) fun M1 =>
  jfX11_restless_15 sy_F 0 0 M1
set_option maxRecDepth 100000 in
theorem jrX11_restless (M : sy_M) : sy_run skX11 qX11_restless [(0, .aload_n 0, 1, []), (1, .getfield 75, 3, []), (4, .aload_n 0, 1, []), (5, .getfield 28, 3, []), (8, .invokevirtual 181, 3, []), (11, .iconst 0, 1, []), (12, .istore_n 1, 1, []), (13, .iconst 0, 1, []), (14, .istore_n 2, 1, [])] [(63, 1, jcX8_learn)] [(15, juX11_restless_15 (jfX11_restless_15 sy_F))] 10 [] 0 [.ref 0, xe_no, xe_no] [] M = jfX11_restless M := rfl
theorem jtX11_restless : ∀ (M : sy_M) (r : xe_R × sy_M), jfX11_restless M = some r → sy_E (8) qX11_restless 0 [.ref 0, xe_no, xe_no] [] M r := by
  intro  M r h
  exact sy_run_by (d := 7) ((jrX11_restless M).trans h) hkX11 (by decide +kernel) (sy_cs_cons (jeX8_learn.deep (by decide)) sy_cs_nil) (sy_us_cons (jwX11_restless_15 (jtX11_restless_15 sy_F)) sy_us_nil)
def jcX11_restless (as : List Value) (M : sy_M) (K : sy_O → sy_O) : sy_O := sy_xc 0 as fun l => sy_xn l (K (jfX11_restless M))
theorem jeX11_restless : sy_snd (8) 122 (jcX11_restless) := by
  intro as M K r h
  obtain ⟨l, e, h1⟩ := sy_xc_ok h; subst e
  obtain ⟨e, h2⟩ := sy_xn_ok h1; subst e
  exact ⟨_, h2, fun r1 h0 => ⟨qX11_restless, rfl, rfl, jtX11_restless  M r1 h0⟩⟩
/-! X12_restless StairMeterModel restless ()I [('R', 121)] -/
def juX12_restless_51 (k : Int32 → Int32 → Int32 → sy_M → sy_O) (ls st : List Value) (M : sy_M) : sy_O := sy_xc 121 ls fun l => sy_xv l fun _ l => sy_xi l fun a2 l => sy_xn l (sy_xi st fun s0 l => sy_xi l fun s1 l => sy_xn l (k a2 s0 s1 M))
theorem jwX12_restless_51 {d : Nat} {k : Int32 → Int32 → Int32 → sy_M → sy_O} (hk : ∀ (w1 : Value) (a2 : Int32) (s0 : Int32) (s1 : Int32) (M : sy_M) (r : xe_R × sy_M), k a2 s0 s1 M = some r → sy_E (d) qX12_restless 51 [.ref 121, w1, .int a2] [.int s0, .int s1] M r) : ∀ ls st M r, juX12_restless_51 k ls st M = some r → sy_E d qX12_restless 51 ls st M r := by
  intro ls st M r h
  obtain ⟨l, e, h1⟩ := sy_xc_ok h; subst e
  obtain ⟨w1, l, e, h2⟩ := sy_xv_ok h1; subst e
  obtain ⟨a2, l, e, h3⟩ := sy_xi_ok h2; subst e
  obtain ⟨e, h4⟩ := sy_xn_ok h3; subst e
  obtain ⟨s0, l, e, h5⟩ := sy_xi_ok h4; subst e
  obtain ⟨s1, l, e, h6⟩ := sy_xi_ok h5; subst e
  obtain ⟨e, h7⟩ := sy_xn_ok h6; subst e
  exact hk _ a2 s0 s1 M r h7
def juX12_restless_9 (k : Int32 → Int32 → sy_M → sy_O) (ls st : List Value) (M : sy_M) : sy_O := sy_xc 121 ls fun l => sy_xi l fun a1 l => sy_xi l fun a2 l => sy_xn l (sy_xn st (k a1 a2 M))
theorem jwX12_restless_9 {d : Nat} {k : Int32 → Int32 → sy_M → sy_O} (hk : ∀ (a1 : Int32) (a2 : Int32) (M : sy_M) (r : xe_R × sy_M), k a1 a2 M = some r → sy_E (d) qX12_restless 9 [.ref 121, .int a1, .int a2] [] M r) : ∀ ls st M r, juX12_restless_9 k ls st M = some r → sy_E d qX12_restless 9 ls st M r := by
  intro ls st M r h
  obtain ⟨l, e, h1⟩ := sy_xc_ok h; subst e
  obtain ⟨a1, l, e, h2⟩ := sy_xi_ok h1; subst e
  obtain ⟨a2, l, e, h3⟩ := sy_xi_ok h2; subst e
  obtain ⟨e, h4⟩ := sy_xn_ok h3; subst e
  obtain ⟨e, h5⟩ := sy_xn_ok h4; subst e
  exact hk a1 a2 M r h5
def jfX12_restless_51 (k9 : Int32 → Int32 → sy_M → sy_O) (a2 : Int32) (s0 : Int32) (s1 : Int32) (M : sy_M) : sy_O :=
  let v1 := (s1 ||| s0)
  let v2 := a2 + 1
  k9 v1 v2 M
set_option maxRecDepth 100000 in
theorem jrX12_restless_51 (k9 : Int32 → Int32 → sy_M → sy_O) (w1 : Value) (a2 : Int32) (s0 : Int32) (s1 : Int32) (M : sy_M) : sy_run skX12 qX12_restless [(51, .ior, 1, [true, false, true]), (52, .istore_n 1, 1, []), (53, .iinc 2 1, 3, []), (56, .goto (-47), 3, [])] [] [(9, juX12_restless_9 k9)] 5 [] 51 [.ref 121, w1, .int a2] [.int s0, .int s1] M = jfX12_restless_51 k9 a2 s0 s1 M := rfl
theorem jtX12_restless_51 {k9 : Int32 → Int32 → sy_M → sy_O} (hk9 : ∀ (a1 : Int32) (a2 : Int32) (M : sy_M) (r : xe_R × sy_M), k9 a1 a2 M = some r → sy_E (55) qX12_restless 9 [.ref 121, .int a1, .int a2] [] M r) : ∀ (w1 : Value) (a2 : Int32) (s0 : Int32) (s1 : Int32) (M : sy_M) (r : xe_R × sy_M), jfX12_restless_51 k9 a2 s0 s1 M = some r → sy_E (55) qX12_restless 51 [.ref 121, w1, .int a2] [.int s0, .int s1] M r := by
  intro w1 a2 s0 s1 M r h
  exact sy_run_by (d := 54) ((jrX12_restless_51 _ _ _ _ _ M).trans h) hkX12 (by decide +kernel) sy_cs_nil (sy_us_cons (jwX12_restless_9 hk9) sy_us_nil)
def jgX12_restless_9 (k9 : Int32 → Int32 → sy_M → sy_O) (a1 : Int32) (a2 : Int32) (M : sy_M) : sy_O :=
  if a2 < (M 122 3) then
    sy_bi (jfX12_of a2 4 M) fun v2 M1 =>
    sy_bi (jfX12_griefOf a2 v2 M1) fun v4 M3 =>
    sy_bi (jfX12_bestOf a2 M3) fun v6 M5 =>
    sy_bi (jfX12_griefOf a2 v6 M5) fun v8 M7 =>
    if v8 < v4 then
      jfX12_restless_51 k9 a2 (1 <<< (a2 &&& 31)) a1 M7
    else
      jfX12_restless_51 k9 a2 0 a1 M7
  else
    sy_ri a1 M
def jfX12_restless_9 : Nat → Int32 → Int32 → sy_M → sy_O
  | 0, _, _, _ => none
  | n + 1, a1, a2, M => jgX12_restless_9 (jfX12_restless_9 n) a1 a2 M
set_option maxRecDepth 100000 in
theorem jrX12_restless_9 (k9 : Int32 → Int32 → sy_M → sy_O) (a1 : Int32) (a2 : Int32) (M : sy_M) : sy_run skX12 qX12_restless [(9, .iload_n 2, 1, []), (10, .aload_n 0, 1, []), (11, .getfield 7, 3, []), (14, .iconst 3, 1, []), (15, .iaload, 1, []), (16, .if_icmp .ge 43, 3, []), (19, .iload_n 1, 1, []), (20, .aload_n 0, 1, []), (21, .iload_n 2, 1, []), (22, .aload_n 0, 1, []), (23, .iload_n 2, 1, []), (24, .iconst 4, 1, []), (25, .invokevirtual 52, 3, []), (28, .invokevirtual 340, 3, []), (31, .aload_n 0, 1, []), (32, .iload_n 2, 1, []), (33, .aload_n 0, 1, []), (34, .iload_n 2, 1, []), (35, .invokevirtual 296, 3, []), (38, .invokevirtual 340, 3, []), (41, .if_icmp .le 9, 3, []), (44, .iconst 1, 1, []), (45, .iload_n 2, 1, []), (46, .ishl, 1, []), (47, .goto 4, 3, []), (50, .iconst 0, 1, [true, false, true]), (59, .iload_n 1, 1, [false, true, false]), (60, .ireturn, 1, [])] [(187, 0, jcX12_of), (268, 0, jcX12_griefOf), (269, 0, jcX12_bestOf)] [(51, juX12_restless_51 (jfX12_restless_51 k9))] 29 [] 9 [.ref 121, .int a1, .int a2] [] M = jgX12_restless_9 k9 a1 a2 M := rfl
theorem jtX12_restless_9 : ∀ n : Nat, ∀ (a1 : Int32) (a2 : Int32) (M : sy_M) (r : xe_R × sy_M), jfX12_restless_9 n a1 a2 M = some r → sy_E (55) qX12_restless 9 [.ref 121, .int a1, .int a2] [] M r := by
  intro n
  induction n with
  | zero => intro a1 a2 M r h; exact absurd (show (none : sy_O) = some r from h) (by simp)
  | succ n ih => intro a1 a2 M r h; exact sy_run_by (d := 54) ((jrX12_restless_9 _ _ _ M).trans h) hkX12 (by decide +kernel) (sy_cs_cons (jeX12_of.deep (by decide)) (sy_cs_cons (jeX12_griefOf.deep (by decide)) (sy_cs_cons (jeX12_bestOf.deep (by decide)) sy_cs_nil))) (sy_us_cons (jwX12_restless_51 (jtX12_restless_51 ih)) sy_us_nil)
def jfX12_restless (M : sy_M) : sy_O :=
  let M1 := sy_upd M 121 0 0
  jfX12_restless_9 sy_F 0 0 M1
set_option maxRecDepth 100000 in
theorem jrX12_restless (M : sy_M) : sy_run skX12 qX12_restless [(0, .aload_n 0, 1, []), (1, .iconst 0, 1, []), (2, .putfield 45, 3, []), (5, .iconst 0, 1, []), (6, .istore_n 1, 1, []), (7, .iconst 0, 1, []), (8, .istore_n 2, 1, [])] [] [(9, juX12_restless_9 (jfX12_restless_9 sy_F))] 8 [] 0 [.ref 121, xe_no, xe_no] [] M = jfX12_restless M := rfl
theorem jtX12_restless : ∀ (M : sy_M) (r : xe_R × sy_M), jfX12_restless M = some r → sy_E (55) qX12_restless 0 [.ref 121, xe_no, xe_no] [] M r := by
  intro  M r h
  exact sy_run_by (d := 54) ((jrX12_restless M).trans h) hkX12 (by decide +kernel) sy_cs_nil (sy_us_cons (jwX12_restless_9 (jtX12_restless_9 sy_F)) sy_us_nil)
def jcX12_restless (as : List Value) (M : sy_M) (K : sy_O → sy_O) : sy_O := sy_xc 121 as fun l => sy_xn l (K (jfX12_restless M))
theorem jeX12_restless : sy_snd (55) 271 (jcX12_restless) := by
  intro as M K r h
  obtain ⟨l, e, h1⟩ := sy_xc_ok h; subst e
  obtain ⟨e, h2⟩ := sy_xn_ok h1; subst e
  exact ⟨_, h2, fun r1 h0 => ⟨qX12_restless, rfl, rfl, jtX12_restless  M r1 h0⟩⟩
end
