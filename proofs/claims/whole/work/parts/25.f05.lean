/-! ===== functions of the methods (5); written by wip/whole/run_f.py ===== -/
noncomputable section
/-! X2_chill StairMeter$House chill (I)V ['A', 'I'] -/
def juX2_chill_121 (k : Nat → Int32 → Int32 → sy_M → sy_O) (ls st : List Value) (M : sy_M) : sy_O := sy_xa ls fun r0 l => sy_xi l fun a1 l => sy_xi l fun a2 l => sy_xv l fun _ l => sy_xv l fun _ l => sy_xv l fun _ l => sy_xn l (sy_xn st (k r0 a1 a2 M))
theorem jwX2_chill_121 {d : Nat} {k : Nat → Int32 → Int32 → sy_M → sy_O} (hk : ∀ (w3 : Value) (w4 : Value) (w5 : Value) (r0 : Nat) (a1 : Int32) (a2 : Int32) (M : sy_M) (r : xe_R × sy_M), k r0 a1 a2 M = some r → sy_E (d) qX2_chill 121 [.ref r0, .int a1, .int a2, w3, w4, w5] [] M r) : ∀ ls st M r, juX2_chill_121 k ls st M = some r → sy_E d qX2_chill 121 ls st M r := by
  intro ls st M r h
  obtain ⟨r0, l, e, h1⟩ := sy_xa_ok h; subst e
  obtain ⟨a1, l, e, h2⟩ := sy_xi_ok h1; subst e
  obtain ⟨a2, l, e, h3⟩ := sy_xi_ok h2; subst e
  obtain ⟨w3, l, e, h4⟩ := sy_xv_ok h3; subst e
  obtain ⟨w4, l, e, h5⟩ := sy_xv_ok h4; subst e
  obtain ⟨w5, l, e, h6⟩ := sy_xv_ok h5; subst e
  obtain ⟨e, h7⟩ := sy_xn_ok h6; subst e
  obtain ⟨e, h8⟩ := sy_xn_ok h7; subst e
  exact hk _ _ _ r0 a1 a2 M r h8
def juX2_chill_98 (k : Nat → Int32 → Int32 → Int32 → Int32 → Int32 → sy_M → sy_O) (ls st : List Value) (M : sy_M) : sy_O := sy_xa ls fun r0 l => sy_xi l fun a1 l => sy_xi l fun a2 l => sy_xi l fun a3 l => sy_xi l fun a4 l => sy_xi l fun a5 l => sy_xn l (sy_xn st (k r0 a1 a2 a3 a4 a5 M))
theorem jwX2_chill_98 {d : Nat} {k : Nat → Int32 → Int32 → Int32 → Int32 → Int32 → sy_M → sy_O} (hk : ∀ (r0 : Nat) (a1 : Int32) (a2 : Int32) (a3 : Int32) (a4 : Int32) (a5 : Int32) (M : sy_M) (r : xe_R × sy_M), k r0 a1 a2 a3 a4 a5 M = some r → sy_E (d) qX2_chill 98 [.ref r0, .int a1, .int a2, .int a3, .int a4, .int a5] [] M r) : ∀ ls st M r, juX2_chill_98 k ls st M = some r → sy_E d qX2_chill 98 ls st M r := by
  intro ls st M r h
  obtain ⟨r0, l, e, h1⟩ := sy_xa_ok h; subst e
  obtain ⟨a1, l, e, h2⟩ := sy_xi_ok h1; subst e
  obtain ⟨a2, l, e, h3⟩ := sy_xi_ok h2; subst e
  obtain ⟨a3, l, e, h4⟩ := sy_xi_ok h3; subst e
  obtain ⟨a4, l, e, h5⟩ := sy_xi_ok h4; subst e
  obtain ⟨a5, l, e, h6⟩ := sy_xi_ok h5; subst e
  obtain ⟨e, h7⟩ := sy_xn_ok h6; subst e
  obtain ⟨e, h8⟩ := sy_xn_ok h7; subst e
  exact hk r0 a1 a2 a3 a4 a5 M r h8
def juX2_chill_46 (k : Nat → Int32 → Int32 → Int32 → Int32 → sy_M → sy_O) (ls st : List Value) (M : sy_M) : sy_O := sy_xa ls fun r0 l => sy_xi l fun a1 l => sy_xi l fun a2 l => sy_xi l fun a3 l => sy_xv l fun _ l => sy_xv l fun _ l => sy_xn l (sy_xi st fun s0 l => sy_xn l (k r0 a1 a2 a3 s0 M))
theorem jwX2_chill_46 {d : Nat} {k : Nat → Int32 → Int32 → Int32 → Int32 → sy_M → sy_O} (hk : ∀ (w4 : Value) (w5 : Value) (r0 : Nat) (a1 : Int32) (a2 : Int32) (a3 : Int32) (s0 : Int32) (M : sy_M) (r : xe_R × sy_M), k r0 a1 a2 a3 s0 M = some r → sy_E (d) qX2_chill 46 [.ref r0, .int a1, .int a2, .int a3, w4, w5] [.int s0] M r) : ∀ ls st M r, juX2_chill_46 k ls st M = some r → sy_E d qX2_chill 46 ls st M r := by
  intro ls st M r h
  obtain ⟨r0, l, e, h1⟩ := sy_xa_ok h; subst e
  obtain ⟨a1, l, e, h2⟩ := sy_xi_ok h1; subst e
  obtain ⟨a2, l, e, h3⟩ := sy_xi_ok h2; subst e
  obtain ⟨a3, l, e, h4⟩ := sy_xi_ok h3; subst e
  obtain ⟨w4, l, e, h5⟩ := sy_xv_ok h4; subst e
  obtain ⟨w5, l, e, h6⟩ := sy_xv_ok h5; subst e
  obtain ⟨e, h7⟩ := sy_xn_ok h6; subst e
  obtain ⟨s0, l, e, h8⟩ := sy_xi_ok h7; subst e
  obtain ⟨e, h9⟩ := sy_xn_ok h8; subst e
  exact hk _ _ r0 a1 a2 a3 s0 M r h9
def juX2_chill_23 (k : Nat → Int32 → Int32 → Int32 → sy_M → sy_O) (ls st : List Value) (M : sy_M) : sy_O := sy_xa ls fun r0 l => sy_xi l fun a1 l => sy_xi l fun a2 l => sy_xv l fun _ l => sy_xv l fun _ l => sy_xv l fun _ l => sy_xn l (sy_xi st fun s0 l => sy_xn l (k r0 a1 a2 s0 M))
theorem jwX2_chill_23 {d : Nat} {k : Nat → Int32 → Int32 → Int32 → sy_M → sy_O} (hk : ∀ (w3 : Value) (w4 : Value) (w5 : Value) (r0 : Nat) (a1 : Int32) (a2 : Int32) (s0 : Int32) (M : sy_M) (r : xe_R × sy_M), k r0 a1 a2 s0 M = some r → sy_E (d) qX2_chill 23 [.ref r0, .int a1, .int a2, w3, w4, w5] [.int s0] M r) : ∀ ls st M r, juX2_chill_23 k ls st M = some r → sy_E d qX2_chill 23 ls st M r := by
  intro ls st M r h
  obtain ⟨r0, l, e, h1⟩ := sy_xa_ok h; subst e
  obtain ⟨a1, l, e, h2⟩ := sy_xi_ok h1; subst e
  obtain ⟨a2, l, e, h3⟩ := sy_xi_ok h2; subst e
  obtain ⟨w3, l, e, h4⟩ := sy_xv_ok h3; subst e
  obtain ⟨w4, l, e, h5⟩ := sy_xv_ok h4; subst e
  obtain ⟨w5, l, e, h6⟩ := sy_xv_ok h5; subst e
  obtain ⟨e, h7⟩ := sy_xn_ok h6; subst e
  obtain ⟨s0, l, e, h8⟩ := sy_xi_ok h7; subst e
  obtain ⟨e, h9⟩ := sy_xn_ok h8; subst e
  exact hk _ _ _ r0 a1 a2 s0 M r h9
def juX2_chill_2 (k : Nat → Int32 → Int32 → sy_M → sy_O) (ls st : List Value) (M : sy_M) : sy_O := sy_xa ls fun r0 l => sy_xi l fun a1 l => sy_xi l fun a2 l => sy_xv l fun _ l => sy_xv l fun _ l => sy_xv l fun _ l => sy_xn l (sy_xn st (k r0 a1 a2 M))
theorem jwX2_chill_2 {d : Nat} {k : Nat → Int32 → Int32 → sy_M → sy_O} (hk : ∀ (w3 : Value) (w4 : Value) (w5 : Value) (r0 : Nat) (a1 : Int32) (a2 : Int32) (M : sy_M) (r : xe_R × sy_M), k r0 a1 a2 M = some r → sy_E (d) qX2_chill 2 [.ref r0, .int a1, .int a2, w3, w4, w5] [] M r) : ∀ ls st M r, juX2_chill_2 k ls st M = some r → sy_E d qX2_chill 2 ls st M r := by
  intro ls st M r h
  obtain ⟨r0, l, e, h1⟩ := sy_xa_ok h; subst e
  obtain ⟨a1, l, e, h2⟩ := sy_xi_ok h1; subst e
  obtain ⟨a2, l, e, h3⟩ := sy_xi_ok h2; subst e
  obtain ⟨w3, l, e, h4⟩ := sy_xv_ok h3; subst e
  obtain ⟨w4, l, e, h5⟩ := sy_xv_ok h4; subst e
  obtain ⟨w5, l, e, h6⟩ := sy_xv_ok h5; subst e
  obtain ⟨e, h7⟩ := sy_xn_ok h6; subst e
  obtain ⟨e, h8⟩ := sy_xn_ok h7; subst e
  exact hk _ _ _ r0 a1 a2 M r h8
def jfX2_chill_121 (k2 : Nat → Int32 → Int32 → sy_M → sy_O) (r0 : Nat) (a1 : Int32) (a2 : Int32) (M : sy_M) : sy_O :=
  let v1 := a2 + 1
  k2 r0 a1 v1 M
set_option maxRecDepth 100000 in
theorem jrX2_chill_121 (k2 : Nat → Int32 → Int32 → sy_M → sy_O) (w3 : Value) (w4 : Value) (w5 : Value) (r0 : Nat) (a1 : Int32) (a2 : Int32) (M : sy_M) : sy_run skX2 qX2_chill [(121, .iinc 2 1, 3, [true, true, true, false, false, false]), (124, .goto (-122), 3, [])] [] [(2, juX2_chill_2 k2)] 3 [] 121 [.ref r0, .int a1, .int a2, w3, w4, w5] [] M = jfX2_chill_121 k2 r0 a1 a2 M := rfl
theorem jtX2_chill_121 {k2 : Nat → Int32 → Int32 → sy_M → sy_O} (hk2 : ∀ (w3 : Value) (w4 : Value) (w5 : Value) (r0 : Nat) (a1 : Int32) (a2 : Int32) (M : sy_M) (r : xe_R × sy_M), k2 r0 a1 a2 M = some r → sy_E (3) qX2_chill 2 [.ref r0, .int a1, .int a2, w3, w4, w5] [] M r) : ∀ (w3 : Value) (w4 : Value) (w5 : Value) (r0 : Nat) (a1 : Int32) (a2 : Int32) (M : sy_M) (r : xe_R × sy_M), jfX2_chill_121 k2 r0 a1 a2 M = some r → sy_E (3) qX2_chill 121 [.ref r0, .int a1, .int a2, w3, w4, w5] [] M r := by
  intro w3 w4 w5 r0 a1 a2 M r h
  exact sy_run_by (d := 2) ((jrX2_chill_121 _ _ _ _ _ _ _ M).trans h) hkX2 (by decide +kernel) sy_cs_nil (sy_us_cons (jwX2_chill_2 hk2) sy_us_nil)
def jfX2_chill_98 (k2 : Nat → Int32 → Int32 → sy_M → sy_O) (r0 : Nat) (a1 : Int32) (a2 : Int32) (a3 : Int32) (a4 : Int32) (a5 : Int32) (M : sy_M) : sy_O :=
  if a3 = 0 then
    jfX2_chill_121 k2 r0 a1 a2 M
  else
    if a4 = (a5 + 1) then
      sy_bs (sy_is 2 r0) <|
      sy_bs (sy_is 6 (r0 + 3)) <|
      sy_bv (jfX7_add (r0 + 3) r0 2 a2 M) fun M1 =>
      jfX2_chill_121 k2 r0 a1 a2 M1
    else
      jfX2_chill_121 k2 r0 a1 a2 M
set_option maxRecDepth 100000 in
theorem jrX2_chill_98 (k2 : Nat → Int32 → Int32 → sy_M → sy_O) (r0 : Nat) (a1 : Int32) (a2 : Int32) (a3 : Int32) (a4 : Int32) (a5 : Int32) (M : sy_M) : sy_run skX2 qX2_chill [(98, .iload_n 3, 1, []), (99, .ifCond .eq 22, 3, []), (102, .iload 4, 2, []), (104, .iload 5, 2, []), (106, .iconst 1, 1, []), (107, .iadd, 1, []), (108, .if_icmp .ne 13, 3, []), (111, .aload_n 0, 1, []), (112, .getfield 23, 3, []), (115, .aload_n 0, 1, []), (116, .iconst 2, 1, []), (117, .iload_n 2, 1, []), (118, .invokevirtual 101, 3, [])] [(60, 1, jcX7_add)] [(121, juX2_chill_121 (jfX2_chill_121 k2))] 14 [] 98 [.ref r0, .int a1, .int a2, .int a3, .int a4, .int a5] [] M = jfX2_chill_98 k2 r0 a1 a2 a3 a4 a5 M := rfl
theorem jtX2_chill_98 {k2 : Nat → Int32 → Int32 → sy_M → sy_O} (hk2 : ∀ (w3 : Value) (w4 : Value) (w5 : Value) (r0 : Nat) (a1 : Int32) (a2 : Int32) (M : sy_M) (r : xe_R × sy_M), k2 r0 a1 a2 M = some r → sy_E (3) qX2_chill 2 [.ref r0, .int a1, .int a2, w3, w4, w5] [] M r) : ∀ (r0 : Nat) (a1 : Int32) (a2 : Int32) (a3 : Int32) (a4 : Int32) (a5 : Int32) (M : sy_M) (r : xe_R × sy_M), jfX2_chill_98 k2 r0 a1 a2 a3 a4 a5 M = some r → sy_E (3) qX2_chill 98 [.ref r0, .int a1, .int a2, .int a3, .int a4, .int a5] [] M r := by
  intro r0 a1 a2 a3 a4 a5 M r h
  exact sy_run_by (d := 2) ((jrX2_chill_98 _ _ _ _ _ _ _ M).trans h) hkX2 (by decide +kernel) (sy_cs_cons (jeX7_add.deep (by decide)) sy_cs_nil) (sy_us_cons (jwX2_chill_121 (jtX2_chill_121 hk2)) sy_us_nil)
def jfX2_chill_46 (k2 : Nat → Int32 → Int32 → sy_M → sy_O) (r0 : Nat) (a1 : Int32) (a2 : Int32) (a3 : Int32) (s0 : Int32) (M : sy_M) : sy_O :=
  sy_bs (sy_is 2 r0) <|
  sy_bi (jfX2_get r0 a2 3 M) fun v2 M1 =>
  sy_bs (sy_is 2 r0) <|
  sy_bv (jfX2_set r0 a2 6 s0 M1) fun M3 =>
  if a3 = 0 then
    jfX2_chill_98 k2 r0 a1 a2 a3 s0 v2 M3
  else
    if v2 < s0 then
      sy_bs (sy_is 2 r0) <|
      sy_bi (jfX2_get r0 a2 7 M3) fun v5 M4 =>
      sy_bi (jfJ9_min_7cf53 999 (v5 + 1) M4) fun v7 M6 =>
      sy_bs (sy_is 2 r0) <|
      sy_bv (jfX2_set r0 a2 7 v7 M6) fun M8 =>
      jfX2_chill_98 k2 r0 a1 a2 a3 s0 v2 M8
    else
      jfX2_chill_98 k2 r0 a1 a2 a3 s0 v2 M3
set_option maxRecDepth 100000 in
theorem jrX2_chill_46 (k2 : Nat → Int32 → Int32 → sy_M → sy_O) (w4 : Value) (w5 : Value) (r0 : Nat) (a1 : Int32) (a2 : Int32) (a3 : Int32) (s0 : Int32) (M : sy_M) : sy_run skX2 qX2_chill [(46, .istore 4, 2, [true, true, true, true, false, false]), (48, .aload_n 0, 1, []), (49, .iload_n 2, 1, []), (50, .iconst 3, 1, []), (51, .invokevirtual 71, 3, []), (54, .istore 5, 2, []), (56, .aload_n 0, 1, []), (57, .iload_n 2, 1, []), (58, .bipush 6, 2, []), (60, .iload 4, 2, []), (62, .invokevirtual 84, 3, []), (65, .iload_n 3, 1, []), (66, .ifCond .eq 32, 3, []), (69, .iload 4, 2, []), (71, .iload 5, 2, []), (73, .if_icmp .le 25, 3, []), (76, .aload_n 0, 1, []), (77, .iload_n 2, 1, []), (78, .bipush 7, 2, []), (80, .sipush 999, 3, []), (83, .aload_n 0, 1, []), (84, .iload_n 2, 1, []), (85, .bipush 7, 2, []), (87, .invokevirtual 71, 3, []), (90, .iconst 1, 1, []), (91, .iadd, 1, []), (92, .invokestatic 95, 3, []), (95, .invokevirtual 84, 3, [])] [(10, 0, jcX2_get), (11, 1, jcX2_set), (360, 0, jcJ9_min_7cf53)] [(98, juX2_chill_98 (jfX2_chill_98 k2))] 29 [] 46 [.ref r0, .int a1, .int a2, .int a3, w4, w5] [.int s0] M = jfX2_chill_46 k2 r0 a1 a2 a3 s0 M := rfl
theorem jtX2_chill_46 {k2 : Nat → Int32 → Int32 → sy_M → sy_O} (hk2 : ∀ (w3 : Value) (w4 : Value) (w5 : Value) (r0 : Nat) (a1 : Int32) (a2 : Int32) (M : sy_M) (r : xe_R × sy_M), k2 r0 a1 a2 M = some r → sy_E (3) qX2_chill 2 [.ref r0, .int a1, .int a2, w3, w4, w5] [] M r) : ∀ (w4 : Value) (w5 : Value) (r0 : Nat) (a1 : Int32) (a2 : Int32) (a3 : Int32) (s0 : Int32) (M : sy_M) (r : xe_R × sy_M), jfX2_chill_46 k2 r0 a1 a2 a3 s0 M = some r → sy_E (3) qX2_chill 46 [.ref r0, .int a1, .int a2, .int a3, w4, w5] [.int s0] M r := by
  intro w4 w5 r0 a1 a2 a3 s0 M r h
  exact sy_run_by (d := 2) ((jrX2_chill_46 _ _ _ _ _ _ _ _ M).trans h) hkX2 (by decide +kernel) (sy_cs_cons (jeX2_get.deep (by decide)) (sy_cs_cons (jeX2_set.deep (by decide)) (sy_cs_cons (jeJ9_min_7cf53.deep (by decide)) sy_cs_nil))) (sy_us_cons (jwX2_chill_98 (jtX2_chill_98 hk2)) sy_us_nil)
def jfX2_chill_23 (k2 : Nat → Int32 → Int32 → sy_M → sy_O) (r0 : Nat) (a1 : Int32) (a2 : Int32) (s0 : Int32) (M : sy_M) : sy_O :=
  if s0 = 0 then
    jfX2_chill_46 k2 r0 a1 a2 s0 0 M
  else
    sy_bs (sy_is 2 r0) <|
    sy_bi (jfX2_get r0 a2 6 M) fun v2 M1 =>
    sy_bi (jfJ9_min_7cf53 99 (v2 + 1) M1) fun v4 M3 =>
    jfX2_chill_46 k2 r0 a1 a2 s0 v4 M3
set_option maxRecDepth 100000 in
theorem jrX2_chill_23 (k2 : Nat → Int32 → Int32 → sy_M → sy_O) (w3 : Value) (w4 : Value) (w5 : Value) (r0 : Nat) (a1 : Int32) (a2 : Int32) (s0 : Int32) (M : sy_M) : sy_run skX2 qX2_chill [(23, .istore_n 3, 1, [true, true, true, false, false, false]), (24, .iload_n 3, 1, []), (25, .ifCond .eq 20, 3, []), (28, .bipush 99, 2, []), (30, .aload_n 0, 1, []), (31, .iload_n 2, 1, []), (32, .bipush 6, 2, []), (34, .invokevirtual 71, 3, []), (37, .iconst 1, 1, []), (38, .iadd, 1, []), (39, .invokestatic 95, 3, []), (42, .goto 4, 3, []), (45, .iconst 0, 1, [true, true, true, true, false, false])] [(10, 0, jcX2_get), (360, 0, jcJ9_min_7cf53)] [(46, juX2_chill_46 (jfX2_chill_46 k2))] 14 [] 23 [.ref r0, .int a1, .int a2, w3, w4, w5] [.int s0] M = jfX2_chill_23 k2 r0 a1 a2 s0 M := rfl
theorem jtX2_chill_23 {k2 : Nat → Int32 → Int32 → sy_M → sy_O} (hk2 : ∀ (w3 : Value) (w4 : Value) (w5 : Value) (r0 : Nat) (a1 : Int32) (a2 : Int32) (M : sy_M) (r : xe_R × sy_M), k2 r0 a1 a2 M = some r → sy_E (3) qX2_chill 2 [.ref r0, .int a1, .int a2, w3, w4, w5] [] M r) : ∀ (w3 : Value) (w4 : Value) (w5 : Value) (r0 : Nat) (a1 : Int32) (a2 : Int32) (s0 : Int32) (M : sy_M) (r : xe_R × sy_M), jfX2_chill_23 k2 r0 a1 a2 s0 M = some r → sy_E (3) qX2_chill 23 [.ref r0, .int a1, .int a2, w3, w4, w5] [.int s0] M r := by
  intro w3 w4 w5 r0 a1 a2 s0 M r h
  exact sy_run_by (d := 2) ((jrX2_chill_23 _ _ _ _ _ _ _ _ M).trans h) hkX2 (by decide +kernel) (sy_cs_cons (jeX2_get.deep (by decide)) (sy_cs_cons (jeJ9_min_7cf53.deep (by decide)) sy_cs_nil)) (sy_us_cons (jwX2_chill_46 (jtX2_chill_46 hk2)) sy_us_nil)
def jgX2_chill_2 (k2 : Nat → Int32 → Int32 → sy_M → sy_O) (r0 : Nat) (a1 : Int32) (a2 : Int32) (M : sy_M) : sy_O :=
  sy_bs (sy_is 2 r0) <|
  if a2 < (M r0 3) then
    if ((a1 >>> (a2 &&& 31)) &&& 1) = 0 then
      jfX2_chill_23 k2 r0 a1 a2 0 M
    else
      jfX2_chill_23 k2 r0 a1 a2 1 M
  else
    sy_rv M
def jfX2_chill_2 : Nat → Nat → Int32 → Int32 → sy_M → sy_O
  | 0, _, _, _, _ => none
  | n + 1, r0, a1, a2, M => jgX2_chill_2 (jfX2_chill_2 n) r0 a1 a2 M
set_option maxRecDepth 100000 in
theorem jrX2_chill_2 (k2 : Nat → Int32 → Int32 → sy_M → sy_O) (w3 : Value) (w4 : Value) (w5 : Value) (r0 : Nat) (a1 : Int32) (a2 : Int32) (M : sy_M) : sy_run skX2 qX2_chill [(2, .iload_n 2, 1, [true, true, true, false, false, false]), (3, .aload_n 0, 1, []), (4, .getfield 27, 3, []), (7, .if_icmp .ge 120, 3, []), (10, .iload_n 1, 1, []), (11, .iload_n 2, 1, []), (12, .ishr, 1, []), (13, .iconst 1, 1, []), (14, .iand, 1, []), (15, .ifCond .eq 7, 3, []), (18, .iconst 1, 1, []), (19, .goto 4, 3, []), (22, .iconst 0, 1, [true, true, true, false, false, false]), (127, .return_, 1, [false, false, false, false, false, false])] [] [(23, juX2_chill_23 (jfX2_chill_23 k2))] 15 [] 2 [.ref r0, .int a1, .int a2, w3, w4, w5] [] M = jgX2_chill_2 k2 r0 a1 a2 M := rfl
theorem jtX2_chill_2 : ∀ n : Nat, ∀ (w3 : Value) (w4 : Value) (w5 : Value) (r0 : Nat) (a1 : Int32) (a2 : Int32) (M : sy_M) (r : xe_R × sy_M), jfX2_chill_2 n r0 a1 a2 M = some r → sy_E (3) qX2_chill 2 [.ref r0, .int a1, .int a2, w3, w4, w5] [] M r := by
  intro n
  induction n with
  | zero => intro w3 w4 w5 r0 a1 a2 M r h; exact absurd (show (none : sy_O) = some r from h) (by simp)
  | succ n ih => intro w3 w4 w5 r0 a1 a2 M r h; exact sy_run_by (d := 2) ((jrX2_chill_2 _ _ _ _ _ _ _ M).trans h) hkX2 (by decide +kernel) sy_cs_nil (sy_us_cons (jwX2_chill_23 (jtX2_chill_23 ih)) sy_us_nil)
def jfX2_chill (r0 : Nat) (a1 : Int32) (M : sy_M) : sy_O :=
  jfX2_chill_2 sy_F r0 a1 0 M
set_option maxRecDepth 100000 in
theorem jrX2_chill (r0 : Nat) (a1 : Int32) (M : sy_M) : sy_run skX2 qX2_chill [(0, .iconst 0, 1, []), (1, .istore_n 2, 1, [])] [] [(2, juX2_chill_2 (jfX2_chill_2 sy_F))] 3 [] 0 [.ref r0, .int a1, xe_no, xe_no, xe_no, xe_no] [] M = jfX2_chill r0 a1 M := rfl
theorem jtX2_chill : ∀ (r0 : Nat) (a1 : Int32) (M : sy_M) (r : xe_R × sy_M), jfX2_chill r0 a1 M = some r → sy_E (3) qX2_chill 0 [.ref r0, .int a1, xe_no, xe_no, xe_no, xe_no] [] M r := by
  intro r0 a1 M r h
  exact sy_run_by (d := 2) ((jrX2_chill _ _ M).trans h) hkX2 (by decide +kernel) sy_cs_nil (sy_us_cons (jwX2_chill_2 (jtX2_chill_2 sy_F)) sy_us_nil)
def jcX2_chill (as : List Value) (M : sy_M) (K : sy_O → sy_O) : sy_O := sy_xa as fun r0 l => sy_xi l fun a1 l => sy_xn l (K (jfX2_chill r0 a1 M))
theorem jeX2_chill : sy_snd (3) 30 (jcX2_chill) := by
  intro as M K r h
  obtain ⟨r0, l, e, h1⟩ := sy_xa_ok h; subst e
  obtain ⟨a1, l, e, h2⟩ := sy_xi_ok h1; subst e
  obtain ⟨e, h3⟩ := sy_xn_ok h2; subst e
  exact ⟨_, h3, fun r1 h0 => ⟨qX2_chill, rfl, rfl, jtX2_chill _ _ M r1 h0⟩⟩
/-! X8_whoGoes StairMeter$Night whoGoes (LStairMeter$House;LStairMeter$Law;I)I [('R', 49), 'A', 'A', 'I'] -/
def juX8_whoGoes_118 (k : Nat → Nat → Int32 → Int32 → Int32 → Int32 → sy_M → sy_O) (ls st : List Value) (M : sy_M) : sy_O := sy_xc 49 ls fun l => sy_xa l fun r1 l => sy_xa l fun r2 l => sy_xi l fun a3 l => sy_xi l fun a4 l => sy_xi l fun a5 l => sy_xi l fun a6 l => sy_xv l fun _ l => sy_xv l fun _ l => sy_xn l (sy_xn st (k r1 r2 a3 a4 a5 a6 M))
theorem jwX8_whoGoes_118 {d : Nat} {k : Nat → Nat → Int32 → Int32 → Int32 → Int32 → sy_M → sy_O} (hk : ∀ (w7 : Value) (w8 : Value) (r1 : Nat) (r2 : Nat) (a3 : Int32) (a4 : Int32) (a5 : Int32) (a6 : Int32) (M : sy_M) (r : xe_R × sy_M), k r1 r2 a3 a4 a5 a6 M = some r → sy_E (d) qX8_whoGoes 118 [.ref 49, .ref r1, .ref r2, .int a3, .int a4, .int a5, .int a6, w7, w8] [] M r) : ∀ ls st M r, juX8_whoGoes_118 k ls st M = some r → sy_E d qX8_whoGoes 118 ls st M r := by
  intro ls st M r h
  obtain ⟨l, e, h1⟩ := sy_xc_ok h; subst e
  obtain ⟨r1, l, e, h2⟩ := sy_xa_ok h1; subst e
  obtain ⟨r2, l, e, h3⟩ := sy_xa_ok h2; subst e
  obtain ⟨a3, l, e, h4⟩ := sy_xi_ok h3; subst e
  obtain ⟨a4, l, e, h5⟩ := sy_xi_ok h4; subst e
  obtain ⟨a5, l, e, h6⟩ := sy_xi_ok h5; subst e
  obtain ⟨a6, l, e, h7⟩ := sy_xi_ok h6; subst e
  obtain ⟨w7, l, e, h8⟩ := sy_xv_ok h7; subst e
  obtain ⟨w8, l, e, h9⟩ := sy_xv_ok h8; subst e
  obtain ⟨e, h10⟩ := sy_xn_ok h9; subst e
  obtain ⟨e, h11⟩ := sy_xn_ok h10; subst e
  exact hk _ _ r1 r2 a3 a4 a5 a6 M r h11
def juX8_whoGoes_110 (k : Nat → Nat → Int32 → Int32 → Int32 → sy_M → sy_O) (ls st : List Value) (M : sy_M) : sy_O := sy_xc 49 ls fun l => sy_xa l fun r1 l => sy_xa l fun r2 l => sy_xi l fun a3 l => sy_xv l fun _ l => sy_xv l fun _ l => sy_xi l fun a6 l => sy_xv l fun _ l => sy_xi l fun a8 l => sy_xn l (sy_xn st (k r1 r2 a3 a6 a8 M))
theorem jwX8_whoGoes_110 {d : Nat} {k : Nat → Nat → Int32 → Int32 → Int32 → sy_M → sy_O} (hk : ∀ (w4 : Value) (w5 : Value) (w7 : Value) (r1 : Nat) (r2 : Nat) (a3 : Int32) (a6 : Int32) (a8 : Int32) (M : sy_M) (r : xe_R × sy_M), k r1 r2 a3 a6 a8 M = some r → sy_E (d) qX8_whoGoes 110 [.ref 49, .ref r1, .ref r2, .int a3, w4, w5, .int a6, w7, .int a8] [] M r) : ∀ ls st M r, juX8_whoGoes_110 k ls st M = some r → sy_E d qX8_whoGoes 110 ls st M r := by
  intro ls st M r h
  obtain ⟨l, e, h1⟩ := sy_xc_ok h; subst e
  obtain ⟨r1, l, e, h2⟩ := sy_xa_ok h1; subst e
  obtain ⟨r2, l, e, h3⟩ := sy_xa_ok h2; subst e
  obtain ⟨a3, l, e, h4⟩ := sy_xi_ok h3; subst e
  obtain ⟨w4, l, e, h5⟩ := sy_xv_ok h4; subst e
  obtain ⟨w5, l, e, h6⟩ := sy_xv_ok h5; subst e
  obtain ⟨a6, l, e, h7⟩ := sy_xi_ok h6; subst e
  obtain ⟨w7, l, e, h8⟩ := sy_xv_ok h7; subst e
  obtain ⟨a8, l, e, h9⟩ := sy_xi_ok h8; subst e
  obtain ⟨e, h10⟩ := sy_xn_ok h9; subst e
  obtain ⟨e, h11⟩ := sy_xn_ok h10; subst e
  exact hk _ _ _ r1 r2 a3 a6 a8 M r h11
def juX8_whoGoes_56 (k : Nat → Nat → Int32 → Int32 → Int32 → Int32 → Int32 → sy_M → sy_O) (ls st : List Value) (M : sy_M) : sy_O := sy_xc 49 ls fun l => sy_xa l fun r1 l => sy_xa l fun r2 l => sy_xi l fun a3 l => sy_xi l fun a4 l => sy_xi l fun a5 l => sy_xi l fun a6 l => sy_xv l fun _ l => sy_xv l fun _ l => sy_xn l (sy_xi st fun s0 l => sy_xn l (k r1 r2 a3 a4 a5 a6 s0 M))
theorem jwX8_whoGoes_56 {d : Nat} {k : Nat → Nat → Int32 → Int32 → Int32 → Int32 → Int32 → sy_M → sy_O} (hk : ∀ (w7 : Value) (w8 : Value) (r1 : Nat) (r2 : Nat) (a3 : Int32) (a4 : Int32) (a5 : Int32) (a6 : Int32) (s0 : Int32) (M : sy_M) (r : xe_R × sy_M), k r1 r2 a3 a4 a5 a6 s0 M = some r → sy_E (d) qX8_whoGoes 56 [.ref 49, .ref r1, .ref r2, .int a3, .int a4, .int a5, .int a6, w7, w8] [.int s0] M r) : ∀ ls st M r, juX8_whoGoes_56 k ls st M = some r → sy_E d qX8_whoGoes 56 ls st M r := by
  intro ls st M r h
  obtain ⟨l, e, h1⟩ := sy_xc_ok h; subst e
  obtain ⟨r1, l, e, h2⟩ := sy_xa_ok h1; subst e
  obtain ⟨r2, l, e, h3⟩ := sy_xa_ok h2; subst e
  obtain ⟨a3, l, e, h4⟩ := sy_xi_ok h3; subst e
  obtain ⟨a4, l, e, h5⟩ := sy_xi_ok h4; subst e
  obtain ⟨a5, l, e, h6⟩ := sy_xi_ok h5; subst e
  obtain ⟨a6, l, e, h7⟩ := sy_xi_ok h6; subst e
  obtain ⟨w7, l, e, h8⟩ := sy_xv_ok h7; subst e
  obtain ⟨w8, l, e, h9⟩ := sy_xv_ok h8; subst e
  obtain ⟨e, h10⟩ := sy_xn_ok h9; subst e
  obtain ⟨s0, l, e, h11⟩ := sy_xi_ok h10; subst e
  obtain ⟨e, h12⟩ := sy_xn_ok h11; subst e
  exact hk _ _ r1 r2 a3 a4 a5 a6 s0 M r h12
def juX8_whoGoes_55 (k : Nat → Nat → Int32 → Int32 → Int32 → Int32 → sy_M → sy_O) (ls st : List Value) (M : sy_M) : sy_O := sy_xc 49 ls fun l => sy_xa l fun r1 l => sy_xa l fun r2 l => sy_xi l fun a3 l => sy_xi l fun a4 l => sy_xi l fun a5 l => sy_xi l fun a6 l => sy_xv l fun _ l => sy_xv l fun _ l => sy_xn l (sy_xn st (k r1 r2 a3 a4 a5 a6 M))
theorem jwX8_whoGoes_55 {d : Nat} {k : Nat → Nat → Int32 → Int32 → Int32 → Int32 → sy_M → sy_O} (hk : ∀ (w7 : Value) (w8 : Value) (r1 : Nat) (r2 : Nat) (a3 : Int32) (a4 : Int32) (a5 : Int32) (a6 : Int32) (M : sy_M) (r : xe_R × sy_M), k r1 r2 a3 a4 a5 a6 M = some r → sy_E (d) qX8_whoGoes 55 [.ref 49, .ref r1, .ref r2, .int a3, .int a4, .int a5, .int a6, w7, w8] [] M r) : ∀ ls st M r, juX8_whoGoes_55 k ls st M = some r → sy_E d qX8_whoGoes 55 ls st M r := by
  intro ls st M r h
  obtain ⟨l, e, h1⟩ := sy_xc_ok h; subst e
  obtain ⟨r1, l, e, h2⟩ := sy_xa_ok h1; subst e
  obtain ⟨r2, l, e, h3⟩ := sy_xa_ok h2; subst e
  obtain ⟨a3, l, e, h4⟩ := sy_xi_ok h3; subst e
  obtain ⟨a4, l, e, h5⟩ := sy_xi_ok h4; subst e
  obtain ⟨a5, l, e, h6⟩ := sy_xi_ok h5; subst e
  obtain ⟨a6, l, e, h7⟩ := sy_xi_ok h6; subst e
  obtain ⟨w7, l, e, h8⟩ := sy_xv_ok h7; subst e
  obtain ⟨w8, l, e, h9⟩ := sy_xv_ok h8; subst e
  obtain ⟨e, h10⟩ := sy_xn_ok h9; subst e
  obtain ⟨e, h11⟩ := sy_xn_ok h10; subst e
  exact hk _ _ r1 r2 a3 a4 a5 a6 M r h11
def juX8_whoGoes_9 (k : Nat → Nat → Int32 → Int32 → Int32 → Int32 → sy_M → sy_O) (ls st : List Value) (M : sy_M) : sy_O := sy_xc 49 ls fun l => sy_xa l fun r1 l => sy_xa l fun r2 l => sy_xi l fun a3 l => sy_xi l fun a4 l => sy_xi l fun a5 l => sy_xi l fun a6 l => sy_xv l fun _ l => sy_xv l fun _ l => sy_xn l (sy_xn st (k r1 r2 a3 a4 a5 a6 M))
theorem jwX8_whoGoes_9 {d : Nat} {k : Nat → Nat → Int32 → Int32 → Int32 → Int32 → sy_M → sy_O} (hk : ∀ (w7 : Value) (w8 : Value) (r1 : Nat) (r2 : Nat) (a3 : Int32) (a4 : Int32) (a5 : Int32) (a6 : Int32) (M : sy_M) (r : xe_R × sy_M), k r1 r2 a3 a4 a5 a6 M = some r → sy_E (d) qX8_whoGoes 9 [.ref 49, .ref r1, .ref r2, .int a3, .int a4, .int a5, .int a6, w7, w8] [] M r) : ∀ ls st M r, juX8_whoGoes_9 k ls st M = some r → sy_E d qX8_whoGoes 9 ls st M r := by
  intro ls st M r h
  obtain ⟨l, e, h1⟩ := sy_xc_ok h; subst e
  obtain ⟨r1, l, e, h2⟩ := sy_xa_ok h1; subst e
  obtain ⟨r2, l, e, h3⟩ := sy_xa_ok h2; subst e
  obtain ⟨a3, l, e, h4⟩ := sy_xi_ok h3; subst e
  obtain ⟨a4, l, e, h5⟩ := sy_xi_ok h4; subst e
  obtain ⟨a5, l, e, h6⟩ := sy_xi_ok h5; subst e
  obtain ⟨a6, l, e, h7⟩ := sy_xi_ok h6; subst e
  obtain ⟨w7, l, e, h8⟩ := sy_xv_ok h7; subst e
  obtain ⟨w8, l, e, h9⟩ := sy_xv_ok h8; subst e
  obtain ⟨e, h10⟩ := sy_xn_ok h9; subst e
  obtain ⟨e, h11⟩ := sy_xn_ok h10; subst e
  exact hk _ _ r1 r2 a3 a4 a5 a6 M r h11
def jfX8_whoGoes_118 (k9 : Nat → Nat → Int32 → Int32 → Int32 → Int32 → sy_M → sy_O) (r1 : Nat) (r2 : Nat) (a3 : Int32) (a4 : Int32) (a5 : Int32) (a6 : Int32) (M : sy_M) : sy_O :=
  let v1 := a6 + 1
  k9 r1 r2 a3 a4 a5 v1 M
set_option maxRecDepth 100000 in
theorem jrX8_whoGoes_118 (k9 : Nat → Nat → Int32 → Int32 → Int32 → Int32 → sy_M → sy_O) (w7 : Value) (w8 : Value) (r1 : Nat) (r2 : Nat) (a3 : Int32) (a4 : Int32) (a5 : Int32) (a6 : Int32) (M : sy_M) : sy_run skX8 qX8_whoGoes [(118, .iinc 6 1, 3, [true, true, true, true, true, true, true, false, false]), (121, .goto (-112), 3, [])] [] [(9, juX8_whoGoes_9 k9)] 3 [] 118 [.ref 49, .ref r1, .ref r2, .int a3, .int a4, .int a5, .int a6, w7, w8] [] M = jfX8_whoGoes_118 k9 r1 r2 a3 a4 a5 a6 M := rfl
theorem jtX8_whoGoes_118 {k9 : Nat → Nat → Int32 → Int32 → Int32 → Int32 → sy_M → sy_O} (hk9 : ∀ (w7 : Value) (w8 : Value) (r1 : Nat) (r2 : Nat) (a3 : Int32) (a4 : Int32) (a5 : Int32) (a6 : Int32) (M : sy_M) (r : xe_R × sy_M), k9 r1 r2 a3 a4 a5 a6 M = some r → sy_E (3) qX8_whoGoes 9 [.ref 49, .ref r1, .ref r2, .int a3, .int a4, .int a5, .int a6, w7, w8] [] M r) : ∀ (w7 : Value) (w8 : Value) (r1 : Nat) (r2 : Nat) (a3 : Int32) (a4 : Int32) (a5 : Int32) (a6 : Int32) (M : sy_M) (r : xe_R × sy_M), jfX8_whoGoes_118 k9 r1 r2 a3 a4 a5 a6 M = some r → sy_E (3) qX8_whoGoes 118 [.ref 49, .ref r1, .ref r2, .int a3, .int a4, .int a5, .int a6, w7, w8] [] M r := by
  intro w7 w8 r1 r2 a3 a4 a5 a6 M r h
  exact sy_run_by (d := 2) ((jrX8_whoGoes_118 _ _ _ _ _ _ _ _ _ M).trans h) hkX8 (by decide +kernel) sy_cs_nil (sy_us_cons (jwX8_whoGoes_9 hk9) sy_us_nil)
def jfX8_whoGoes_110 (k9 : Nat → Nat → Int32 → Int32 → Int32 → Int32 → sy_M → sy_O) (r1 : Nat) (r2 : Nat) (a3 : Int32) (a6 : Int32) (a8 : Int32) (M : sy_M) : sy_O :=
  jfX8_whoGoes_118 k9 r1 r2 a3 a6 a8 a6 M
set_option maxRecDepth 100000 in
theorem jrX8_whoGoes_110 (k9 : Nat → Nat → Int32 → Int32 → Int32 → Int32 → sy_M → sy_O) (w4 : Value) (w5 : Value) (w7 : Value) (r1 : Nat) (r2 : Nat) (a3 : Int32) (a6 : Int32) (a8 : Int32) (M : sy_M) : sy_run skX8 qX8_whoGoes [(110, .iload 8, 2, [true, true, true, true, false, false, true, false, true]), (112, .istore 5, 2, []), (114, .iload 6, 2, []), (116, .istore 4, 2, [])] [] [(118, juX8_whoGoes_118 (jfX8_whoGoes_118 k9))] 5 [] 110 [.ref 49, .ref r1, .ref r2, .int a3, w4, w5, .int a6, w7, .int a8] [] M = jfX8_whoGoes_110 k9 r1 r2 a3 a6 a8 M := rfl
theorem jtX8_whoGoes_110 {k9 : Nat → Nat → Int32 → Int32 → Int32 → Int32 → sy_M → sy_O} (hk9 : ∀ (w7 : Value) (w8 : Value) (r1 : Nat) (r2 : Nat) (a3 : Int32) (a4 : Int32) (a5 : Int32) (a6 : Int32) (M : sy_M) (r : xe_R × sy_M), k9 r1 r2 a3 a4 a5 a6 M = some r → sy_E (3) qX8_whoGoes 9 [.ref 49, .ref r1, .ref r2, .int a3, .int a4, .int a5, .int a6, w7, w8] [] M r) : ∀ (w4 : Value) (w5 : Value) (w7 : Value) (r1 : Nat) (r2 : Nat) (a3 : Int32) (a6 : Int32) (a8 : Int32) (M : sy_M) (r : xe_R × sy_M), jfX8_whoGoes_110 k9 r1 r2 a3 a6 a8 M = some r → sy_E (3) qX8_whoGoes 110 [.ref 49, .ref r1, .ref r2, .int a3, w4, w5, .int a6, w7, .int a8] [] M r := by
  intro w4 w5 w7 r1 r2 a3 a6 a8 M r h
  exact sy_run_by (d := 2) ((jrX8_whoGoes_110 _ _ _ _ _ _ _ _ _ M).trans h) hkX8 (by decide +kernel) sy_cs_nil (sy_us_cons (jwX8_whoGoes_118 (jtX8_whoGoes_118 hk9)) sy_us_nil)
def jfX8_whoGoes_56 (k9 : Nat → Nat → Int32 → Int32 → Int32 → Int32 → sy_M → sy_O) (r1 : Nat) (r2 : Nat) (a3 : Int32) (a4 : Int32) (a5 : Int32) (a6 : Int32) (s0 : Int32) (M : sy_M) : sy_O :=
  if s0 = 0 then
    jfX8_whoGoes_118 k9 r1 r2 a3 a4 a5 a6 M
  else
    sy_bv (jfX8_tell r1 a6 M) fun M1 =>
    sy_bs (sy_is 4 r2) <|
    sy_bi (jfX4_isRefused r2 M1) fun v3 M2 =>
    if v3 = 0 then
      sy_bs (sy_is 4 r2) <|
      sy_bi (jfX4_turnOf r2 M2) fun v5 M4 =>
      if a4 = (-1) then
        jfX8_whoGoes_110 k9 r1 r2 a3 a6 v5 M4
      else
        if a5 < v5 then
          jfX8_whoGoes_110 k9 r1 r2 a3 a6 v5 M4
        else
          jfX8_whoGoes_118 k9 r1 r2 a3 a4 a5 a6 M4
    else
      jfX8_whoGoes_118 k9 r1 r2 a3 a4 a5 a6 M2
set_option maxRecDepth 100000 in
theorem jrX8_whoGoes_56 (k9 : Nat → Nat → Int32 → Int32 → Int32 → Int32 → sy_M → sy_O) (w7 : Value) (w8 : Value) (r1 : Nat) (r2 : Nat) (a3 : Int32) (a4 : Int32) (a5 : Int32) (a6 : Int32) (s0 : Int32) (M : sy_M) : sy_run skX8 qX8_whoGoes [(56, .istore 7, 2, [true, true, true, true, true, true, true, false, false]), (58, .iload 7, 2, []), (60, .ifCond .ne 6, 3, []), (63, .goto 55, 3, []), (66, .aload_n 0, 1, [true, true, true, true, true, true, true, false, false]), (67, .aload_n 1, 1, []), (68, .iload 6, 2, []), (70, .invokevirtual 83, 3, []), (73, .aload_n 2, 1, []), (74, .aload_n 0, 1, []), (75, .getfield 20, 3, []), (78, .invokevirtual 87, 3, []), (81, .ifCond .eq 6, 3, []), (84, .goto 34, 3, []), (87, .aload_n 2, 1, [true, true, true, true, true, true, true, false, false]), (88, .aload_n 0, 1, []), (89, .getfield 20, 3, []), (92, .invokevirtual 91, 3, []), (95, .istore 8, 2, []), (97, .iload 4, 2, []), (99, .iconst (-1), 1, []), (100, .if_icmp .eq 10, 3, []), (103, .iload 8, 2, []), (105, .iload 5, 2, []), (107, .if_icmp .le 11, 3, [])] [(68, 1, jcX8_tell), (45, 0, jcX4_isRefused), (44, 0, jcX4_turnOf)] [(110, juX8_whoGoes_110 (jfX8_whoGoes_110 k9)), (118, juX8_whoGoes_118 (jfX8_whoGoes_118 k9))] 26 [] 56 [.ref 49, .ref r1, .ref r2, .int a3, .int a4, .int a5, .int a6, w7, w8] [.int s0] M = jfX8_whoGoes_56 k9 r1 r2 a3 a4 a5 a6 s0 M := rfl
theorem jtX8_whoGoes_56 {k9 : Nat → Nat → Int32 → Int32 → Int32 → Int32 → sy_M → sy_O} (hk9 : ∀ (w7 : Value) (w8 : Value) (r1 : Nat) (r2 : Nat) (a3 : Int32) (a4 : Int32) (a5 : Int32) (a6 : Int32) (M : sy_M) (r : xe_R × sy_M), k9 r1 r2 a3 a4 a5 a6 M = some r → sy_E (3) qX8_whoGoes 9 [.ref 49, .ref r1, .ref r2, .int a3, .int a4, .int a5, .int a6, w7, w8] [] M r) : ∀ (w7 : Value) (w8 : Value) (r1 : Nat) (r2 : Nat) (a3 : Int32) (a4 : Int32) (a5 : Int32) (a6 : Int32) (s0 : Int32) (M : sy_M) (r : xe_R × sy_M), jfX8_whoGoes_56 k9 r1 r2 a3 a4 a5 a6 s0 M = some r → sy_E (3) qX8_whoGoes 56 [.ref 49, .ref r1, .ref r2, .int a3, .int a4, .int a5, .int a6, w7, w8] [.int s0] M r := by
  intro w7 w8 r1 r2 a3 a4 a5 a6 s0 M r h
  exact sy_run_by (d := 2) ((jrX8_whoGoes_56 _ _ _ _ _ _ _ _ _ _ M).trans h) hkX8 (by decide +kernel) (sy_cs_cons (jeX8_tell.deep (by decide)) (sy_cs_cons (jeX4_isRefused.deep (by decide)) (sy_cs_cons (jeX4_turnOf.deep (by decide)) sy_cs_nil))) (sy_us_cons (jwX8_whoGoes_110 (jtX8_whoGoes_110 hk9)) (sy_us_cons (jwX8_whoGoes_118 (jtX8_whoGoes_118 hk9)) sy_us_nil))
def jfX8_whoGoes_55 (k9 : Nat → Nat → Int32 → Int32 → Int32 → Int32 → sy_M → sy_O) (r1 : Nat) (r2 : Nat) (a3 : Int32) (a4 : Int32) (a5 : Int32) (a6 : Int32) (M : sy_M) : sy_O :=
  jfX8_whoGoes_56 k9 r1 r2 a3 a4 a5 a6 0 M
set_option maxRecDepth 100000 in
theorem jrX8_whoGoes_55 (k9 : Nat → Nat → Int32 → Int32 → Int32 → Int32 → sy_M → sy_O) (w7 : Value) (w8 : Value) (r1 : Nat) (r2 : Nat) (a3 : Int32) (a4 : Int32) (a5 : Int32) (a6 : Int32) (M : sy_M) : sy_run skX8 qX8_whoGoes [(55, .iconst 0, 1, [true, true, true, true, true, true, true, false, false])] [] [(56, juX8_whoGoes_56 (jfX8_whoGoes_56 k9))] 2 [] 55 [.ref 49, .ref r1, .ref r2, .int a3, .int a4, .int a5, .int a6, w7, w8] [] M = jfX8_whoGoes_55 k9 r1 r2 a3 a4 a5 a6 M := rfl
theorem jtX8_whoGoes_55 {k9 : Nat → Nat → Int32 → Int32 → Int32 → Int32 → sy_M → sy_O} (hk9 : ∀ (w7 : Value) (w8 : Value) (r1 : Nat) (r2 : Nat) (a3 : Int32) (a4 : Int32) (a5 : Int32) (a6 : Int32) (M : sy_M) (r : xe_R × sy_M), k9 r1 r2 a3 a4 a5 a6 M = some r → sy_E (3) qX8_whoGoes 9 [.ref 49, .ref r1, .ref r2, .int a3, .int a4, .int a5, .int a6, w7, w8] [] M r) : ∀ (w7 : Value) (w8 : Value) (r1 : Nat) (r2 : Nat) (a3 : Int32) (a4 : Int32) (a5 : Int32) (a6 : Int32) (M : sy_M) (r : xe_R × sy_M), jfX8_whoGoes_55 k9 r1 r2 a3 a4 a5 a6 M = some r → sy_E (3) qX8_whoGoes 55 [.ref 49, .ref r1, .ref r2, .int a3, .int a4, .int a5, .int a6, w7, w8] [] M r := by
  intro w7 w8 r1 r2 a3 a4 a5 a6 M r h
  exact sy_run_by (d := 2) ((jrX8_whoGoes_55 _ _ _ _ _ _ _ _ _ M).trans h) hkX8 (by decide +kernel) sy_cs_nil (sy_us_cons (jwX8_whoGoes_56 (jtX8_whoGoes_56 hk9)) sy_us_nil)
def jgX8_whoGoes_9 (k9 : Nat → Nat → Int32 → Int32 → Int32 → Int32 → sy_M → sy_O) (r1 : Nat) (r2 : Nat) (a3 : Int32) (a4 : Int32) (a5 : Int32) (a6 : Int32) (M : sy_M) : sy_O :=
  sy_bs (sy_is 2 r1) <|
  if a6 < (M r1 3) then
    if ((a3 >>> (a6 &&& 31)) &&& 1) = 0 then
      jfX8_whoGoes_55 k9 r1 r2 a3 a4 a5 a6 M
    else
      sy_bs (sy_is 2 r1) <|
      sy_bi (jfX2_get r1 a6 5 M) fun v2 M1 =>
      if 0 < v2 then
        sy_bs (sy_is 2 r1) <|
        sy_bi (jfX2_get r1 a6 4 M1) fun v4 M3 =>
        sy_bs (sy_is 2 r1) <|
        if v4 < (M3 r1 9) then
          jfX8_whoGoes_56 k9 r1 r2 a3 a4 a5 a6 1 M3
        else
          jfX8_whoGoes_55 k9 r1 r2 a3 a4 a5 a6 M3
      else
        jfX8_whoGoes_55 k9 r1 r2 a3 a4 a5 a6 M1
  else
    sy_ri a4 M
def jfX8_whoGoes_9 : Nat → Nat → Nat → Int32 → Int32 → Int32 → Int32 → sy_M → sy_O
  | 0, _, _, _, _, _, _, _ => none
  | n + 1, r1, r2, a3, a4, a5, a6, M => jgX8_whoGoes_9 (jfX8_whoGoes_9 n) r1 r2 a3 a4 a5 a6 M
set_option maxRecDepth 100000 in
theorem jrX8_whoGoes_9 (k9 : Nat → Nat → Int32 → Int32 → Int32 → Int32 → sy_M → sy_O) (w7 : Value) (w8 : Value) (r1 : Nat) (r2 : Nat) (a3 : Int32) (a4 : Int32) (a5 : Int32) (a6 : Int32) (M : sy_M) : sy_run skX8 qX8_whoGoes [(9, .iload 6, 2, [true, true, true, true, true, true, true, false, false]), (11, .aload_n 1, 1, []), (12, .getfield 23, 3, []), (15, .if_icmp .ge 109, 3, []), (18, .iload_n 3, 1, []), (19, .iload 6, 2, []), (21, .ishr, 1, []), (22, .iconst 1, 1, []), (23, .iand, 1, []), (24, .ifCond .eq 31, 3, []), (27, .aload_n 1, 1, []), (28, .iload 6, 2, []), (30, .iconst 5, 1, []), (31, .invokevirtual 76, 3, []), (34, .ifCond .le 21, 3, []), (37, .aload_n 1, 1, []), (38, .iload 6, 2, []), (40, .iconst 4, 1, []), (41, .invokevirtual 76, 3, []), (44, .aload_n 1, 1, []), (45, .getfield 80, 3, []), (48, .if_icmp .ge 7, 3, []), (51, .iconst 1, 1, []), (52, .goto 4, 3, []), (124, .iload 4, 2, [false, false, false, false, true, false, false, false, false]), (126, .ireturn, 1, [])] [(10, 0, jcX2_get)] [(55, juX8_whoGoes_55 (jfX8_whoGoes_55 k9)), (56, juX8_whoGoes_56 (jfX8_whoGoes_56 k9))] 27 [] 9 [.ref 49, .ref r1, .ref r2, .int a3, .int a4, .int a5, .int a6, w7, w8] [] M = jgX8_whoGoes_9 k9 r1 r2 a3 a4 a5 a6 M := rfl
theorem jtX8_whoGoes_9 : ∀ n : Nat, ∀ (w7 : Value) (w8 : Value) (r1 : Nat) (r2 : Nat) (a3 : Int32) (a4 : Int32) (a5 : Int32) (a6 : Int32) (M : sy_M) (r : xe_R × sy_M), jfX8_whoGoes_9 n r1 r2 a3 a4 a5 a6 M = some r → sy_E (3) qX8_whoGoes 9 [.ref 49, .ref r1, .ref r2, .int a3, .int a4, .int a5, .int a6, w7, w8] [] M r := by
  intro n
  induction n with
  | zero => intro w7 w8 r1 r2 a3 a4 a5 a6 M r h; exact absurd (show (none : sy_O) = some r from h) (by simp)
  | succ n ih => intro w7 w8 r1 r2 a3 a4 a5 a6 M r h; exact sy_run_by (d := 2) ((jrX8_whoGoes_9 _ _ _ _ _ _ _ _ _ M).trans h) hkX8 (by decide +kernel) (sy_cs_cons (jeX2_get.deep (by decide)) sy_cs_nil) (sy_us_cons (jwX8_whoGoes_55 (jtX8_whoGoes_55 ih)) (sy_us_cons (jwX8_whoGoes_56 (jtX8_whoGoes_56 ih)) sy_us_nil))
def jfX8_whoGoes (r1 : Nat) (r2 : Nat) (a3 : Int32) (M : sy_M) : sy_O :=
  jfX8_whoGoes_9 sy_F r1 r2 a3 (-1) 0 0 M
set_option maxRecDepth 100000 in
theorem jrX8_whoGoes (r1 : Nat) (r2 : Nat) (a3 : Int32) (M : sy_M) : sy_run skX8 qX8_whoGoes [(0, .iconst (-1), 1, []), (1, .istore 4, 2, []), (3, .iconst 0, 1, []), (4, .istore 5, 2, []), (6, .iconst 0, 1, []), (7, .istore 6, 2, [])] [] [(9, juX8_whoGoes_9 (jfX8_whoGoes_9 sy_F))] 7 [] 0 [.ref 49, .ref r1, .ref r2, .int a3, xe_no, xe_no, xe_no, xe_no, xe_no] [] M = jfX8_whoGoes r1 r2 a3 M := rfl
theorem jtX8_whoGoes : ∀ (r1 : Nat) (r2 : Nat) (a3 : Int32) (M : sy_M) (r : xe_R × sy_M), jfX8_whoGoes r1 r2 a3 M = some r → sy_E (3) qX8_whoGoes 0 [.ref 49, .ref r1, .ref r2, .int a3, xe_no, xe_no, xe_no, xe_no, xe_no] [] M r := by
  intro r1 r2 a3 M r h
  exact sy_run_by (d := 2) ((jrX8_whoGoes _ _ _ M).trans h) hkX8 (by decide +kernel) sy_cs_nil (sy_us_cons (jwX8_whoGoes_9 (jtX8_whoGoes_9 sy_F)) sy_us_nil)
def jcX8_whoGoes (as : List Value) (M : sy_M) (K : sy_O → sy_O) : sy_O := sy_xc 49 as fun l => sy_xa l fun r1 l => sy_xa l fun r2 l => sy_xi l fun a3 l => sy_xn l (K (jfX8_whoGoes r1 r2 a3 M))
theorem jeX8_whoGoes : sy_snd (3) 67 (jcX8_whoGoes) := by
  intro as M K r h
  obtain ⟨l, e, h1⟩ := sy_xc_ok h; subst e
  obtain ⟨r1, l, e, h2⟩ := sy_xa_ok h1; subst e
  obtain ⟨r2, l, e, h3⟩ := sy_xa_ok h2; subst e
  obtain ⟨a3, l, e, h4⟩ := sy_xi_ok h3; subst e
  obtain ⟨e, h5⟩ := sy_xn_ok h4; subst e
  exact ⟨_, h5, fun r1 h0 => ⟨qX8_whoGoes, rfl, rfl, jtX8_whoGoes _ _ _ M r1 h0⟩⟩
/-! X2_turnClock StairMeter$House turnClock ()V ['A'] -/
def jfX2_turnClock (r0 : Nat) (M : sy_M) : sy_O :=
  sy_bs (sy_is 2 r0) <|
  sy_bs (sy_is 2 r0) <|
  let M1 := sy_upd M r0 5 ((M r0 5) + 1)
  sy_bs (sy_is 2 r0) <|
  if (M1 r0 5) < 48 then
    sy_rv M1
  else
    sy_bs (sy_is 2 r0) <|
    let M2 := sy_upd M1 r0 5 0
    sy_bs (sy_is 2 r0) <|
    sy_bi (jfJ9_min_7cf53 9999 ((M2 r0 6) + 1) M2) fun v4 M3 =>
    sy_bs (sy_is 2 r0) <|
    let M5 := sy_upd M3 r0 6 v4
    sy_rv M5
set_option maxRecDepth 100000 in
theorem jrX2_turnClock (r0 : Nat) (M : sy_M) : sy_run skX2 qX2_turnClock [(0, .aload_n 0, 1, []), (1, .dup, 1, []), (2, .getfield 34, 3, []), (5, .iconst 1, 1, []), (6, .iadd, 1, []), (7, .putfield 34, 3, []), (10, .aload_n 0, 1, []), (11, .getfield 34, 3, []), (14, .bipush 48, 2, []), (16, .if_icmp .lt 24, 3, []), (19, .aload_n 0, 1, []), (20, .iconst 0, 1, []), (21, .putfield 34, 3, []), (24, .aload_n 0, 1, []), (25, .sipush 9999, 3, []), (28, .aload_n 0, 1, []), (29, .getfield 37, 3, []), (32, .iconst 1, 1, []), (33, .iadd, 1, []), (34, .invokestatic 95, 3, []), (37, .putfield 37, 3, []), (40, .return_, 1, [false])] [(360, 0, jcJ9_min_7cf53)] [] 23 [] 0 [.ref r0] [] M = jfX2_turnClock r0 M := rfl
theorem jtX2_turnClock : ∀ (r0 : Nat) (M : sy_M) (r : xe_R × sy_M), jfX2_turnClock r0 M = some r → sy_E (2) qX2_turnClock 0 [.ref r0] [] M r := by
  intro r0 M r h
  exact sy_run_by (d := 1) ((jrX2_turnClock _ M).trans h) hkX2 (by decide +kernel) (sy_cs_cons (jeJ9_min_7cf53.deep (by decide)) sy_cs_nil) sy_us_nil
def jcX2_turnClock (as : List Value) (M : sy_M) (K : sy_O → sy_O) : sy_O := sy_xa as fun r0 l => sy_xn l (K (jfX2_turnClock r0 M))
theorem jeX2_turnClock : sy_snd (2) 31 (jcX2_turnClock) := by
  intro as M K r h
  obtain ⟨r0, l, e, h1⟩ := sy_xa_ok h; subst e
  obtain ⟨e, h2⟩ := sy_xn_ok h1; subst e
  exact ⟨_, h2, fun r1 h0 => ⟨qX2_turnClock, rfl, rfl, jtX2_turnClock _ M r1 h0⟩⟩
/-! X2_addGas StairMeter$House addGas (I)V ['A', 'I'] -/
def jfX2_addGas (r0 : Nat) (a1 : Int32) (M : sy_M) : sy_O :=
  sy_bs (sy_is 2 r0) <|
  sy_bi (jfJ9_min_7cf53 9999 ((M r0 7) + a1) M) fun v2 M1 =>
  sy_bs (sy_is 2 r0) <|
  let M3 := sy_upd M1 r0 7 v2
  sy_rv M3
set_option maxRecDepth 100000 in
theorem jrX2_addGas (r0 : Nat) (a1 : Int32) (M : sy_M) : sy_run skX2 qX2_addGas [(0, .aload_n 0, 1, []), (1, .sipush 9999, 3, []), (4, .aload_n 0, 1, []), (5, .getfield 40, 3, []), (8, .iload_n 1, 1, []), (9, .iadd, 1, []), (10, .invokestatic 95, 3, []), (13, .putfield 40, 3, []), (16, .return_, 1, [])] [(360, 0, jcJ9_min_7cf53)] [] 10 [] 0 [.ref r0, .int a1] [] M = jfX2_addGas r0 a1 M := rfl
theorem jtX2_addGas : ∀ (r0 : Nat) (a1 : Int32) (M : sy_M) (r : xe_R × sy_M), jfX2_addGas r0 a1 M = some r → sy_E (2) qX2_addGas 0 [.ref r0, .int a1] [] M r := by
  intro r0 a1 M r h
  exact sy_run_by (d := 1) ((jrX2_addGas _ _ M).trans h) hkX2 (by decide +kernel) (sy_cs_cons (jeJ9_min_7cf53.deep (by decide)) sy_cs_nil) sy_us_nil
def jcX2_addGas (as : List Value) (M : sy_M) (K : sy_O → sy_O) : sy_O := sy_xa as fun r0 l => sy_xi l fun a1 l => sy_xn l (K (jfX2_addGas r0 a1 M))
theorem jeX2_addGas : sy_snd (2) 25 (jcX2_addGas) := by
  intro as M K r h
  obtain ⟨r0, l, e, h1⟩ := sy_xa_ok h; subst e
  obtain ⟨a1, l, e, h2⟩ := sy_xi_ok h1; subst e
  obtain ⟨e, h3⟩ := sy_xn_ok h2; subst e
  exact ⟨_, h3, fun r1 h0 => ⟨qX2_addGas, rfl, rfl, jtX2_addGas _ _ M r1 h0⟩⟩
/-! X2_takeCoin StairMeter$House takeCoin (I)V ['A', 'I'] -/
def juX2_takeCoin_65 (k : Nat → Int32 → sy_M → sy_O) (ls st : List Value) (M : sy_M) : sy_O := sy_xa ls fun r0 l => sy_xi l fun a1 l => sy_xn l (sy_xn st (k r0 a1 M))
theorem jwX2_takeCoin_65 {d : Nat} {k : Nat → Int32 → sy_M → sy_O} (hk : ∀ (r0 : Nat) (a1 : Int32) (M : sy_M) (r : xe_R × sy_M), k r0 a1 M = some r → sy_E (d) qX2_takeCoin 65 [.ref r0, .int a1] [] M r) : ∀ ls st M r, juX2_takeCoin_65 k ls st M = some r → sy_E d qX2_takeCoin 65 ls st M r := by
  intro ls st M r h
  obtain ⟨r0, l, e, h1⟩ := sy_xa_ok h; subst e
  obtain ⟨a1, l, e, h2⟩ := sy_xi_ok h1; subst e
  obtain ⟨e, h3⟩ := sy_xn_ok h2; subst e
  obtain ⟨e, h4⟩ := sy_xn_ok h3; subst e
  exact hk r0 a1 M r h4
def jfX2_takeCoin_65 (r0 : Nat) (a1 : Int32) (M : sy_M) : sy_O :=
  sy_bs (sy_is 2 r0) <|
  sy_bs (sy_is 6 (r0 + 3)) <|
  sy_bv (jfX7_add (r0 + 3) r0 1 a1 M) fun M1 =>
  sy_rv M1
set_option maxRecDepth 100000 in
theorem jrX2_takeCoin_65 (r0 : Nat) (a1 : Int32) (M : sy_M) : sy_run skX2 qX2_takeCoin [(65, .aload_n 0, 1, []), (66, .getfield 23, 3, []), (69, .aload_n 0, 1, []), (70, .iconst 1, 1, []), (71, .iload_n 1, 1, []), (72, .invokevirtual 101, 3, []), (75, .return_, 1, [])] [(60, 1, jcX7_add)] [] 8 [] 65 [.ref r0, .int a1] [] M = jfX2_takeCoin_65 r0 a1 M := rfl
theorem jtX2_takeCoin_65 : ∀ (r0 : Nat) (a1 : Int32) (M : sy_M) (r : xe_R × sy_M), jfX2_takeCoin_65 r0 a1 M = some r → sy_E (3) qX2_takeCoin 65 [.ref r0, .int a1] [] M r := by
  intro r0 a1 M r h
  exact sy_run_by (d := 2) ((jrX2_takeCoin_65 _ _ M).trans h) hkX2 (by decide +kernel) (sy_cs_cons (jeX7_add.deep (by decide)) sy_cs_nil) sy_us_nil
def jfX2_takeCoin (r0 : Nat) (a1 : Int32) (M : sy_M) : sy_O :=
  sy_bs (sy_is 2 r0) <|
  sy_bi (jfX2_get r0 a1 5 M) fun v2 M1 =>
  sy_bs (sy_is 2 r0) <|
  sy_bv (jfX2_set r0 a1 5 (v2 - 1) M1) fun M3 =>
  sy_bs (sy_is 2 r0) <|
  sy_bi (jfX2_get r0 a1 8 M3) fun v5 M4 =>
  sy_bi (jfJ9_min_7cf53 999 (v5 + 1) M4) fun v7 M6 =>
  sy_bs (sy_is 2 r0) <|
  sy_bv (jfX2_set r0 a1 8 v7 M6) fun M8 =>
  sy_bs (sy_is 2 r0) <|
  sy_bi (jfJ9_min_7cf53 9999 ((M8 r0 11) + 1) M8) fun v10 M9 =>
  sy_bs (sy_is 2 r0) <|
  let M11 := sy_upd M9 r0 11 v10
  sy_bs (sy_is 2 r0) <|
  sy_bs (sy_is 2 r0) <|
  sy_bv (jfX2_addGas r0 (M11 r0 8) M11) fun M12 =>
  sy_bs (sy_is 2 r0) <|
  let M13 := sy_upd M12 r0 12 a1
  jfX2_takeCoin_65 r0 a1 M13
set_option maxRecDepth 100000 in
theorem jrX2_takeCoin (r0 : Nat) (a1 : Int32) (M : sy_M) : sy_run skX2 qX2_takeCoin [(0, .aload_n 0, 1, []), (1, .iload_n 1, 1, []), (2, .iconst 5, 1, []), (3, .aload_n 0, 1, []), (4, .iload_n 1, 1, []), (5, .iconst 5, 1, []), (6, .invokevirtual 71, 3, []), (9, .iconst 1, 1, []), (10, .isub, 1, []), (11, .invokevirtual 84, 3, []), (14, .aload_n 0, 1, []), (15, .iload_n 1, 1, []), (16, .bipush 8, 2, []), (18, .sipush 999, 3, []), (21, .aload_n 0, 1, []), (22, .iload_n 1, 1, []), (23, .bipush 8, 2, []), (25, .invokevirtual 71, 3, []), (28, .iconst 1, 1, []), (29, .iadd, 1, []), (30, .invokestatic 95, 3, []), (33, .invokevirtual 84, 3, []), (36, .aload_n 0, 1, []), (37, .sipush 9999, 3, []), (40, .aload_n 0, 1, []), (41, .getfield 52, 3, []), (44, .iconst 1, 1, []), (45, .iadd, 1, []), (46, .invokestatic 95, 3, []), (49, .putfield 52, 3, []), (52, .aload_n 0, 1, []), (53, .aload_n 0, 1, []), (54, .getfield 43, 3, []), (57, .invokevirtual 98, 3, []), (60, .aload_n 0, 1, []), (61, .iload_n 1, 1, []), (62, .putfield 55, 3, [])] [(10, 0, jcX2_get), (11, 1, jcX2_set), (360, 0, jcJ9_min_7cf53), (25, 1, jcX2_addGas)] [(65, juX2_takeCoin_65 (jfX2_takeCoin_65))] 38 [] 0 [.ref r0, .int a1] [] M = jfX2_takeCoin r0 a1 M := rfl
theorem jtX2_takeCoin : ∀ (r0 : Nat) (a1 : Int32) (M : sy_M) (r : xe_R × sy_M), jfX2_takeCoin r0 a1 M = some r → sy_E (3) qX2_takeCoin 0 [.ref r0, .int a1] [] M r := by
  intro r0 a1 M r h
  exact sy_run_by (d := 2) ((jrX2_takeCoin _ _ M).trans h) hkX2 (by decide +kernel) (sy_cs_cons (jeX2_get.deep (by decide)) (sy_cs_cons (jeX2_set.deep (by decide)) (sy_cs_cons (jeJ9_min_7cf53.deep (by decide)) (sy_cs_cons (jeX2_addGas.deep (by decide)) sy_cs_nil)))) (sy_us_cons (jwX2_takeCoin_65 (jtX2_takeCoin_65)) sy_us_nil)
def jcX2_takeCoin (as : List Value) (M : sy_M) (K : sy_O → sy_O) : sy_O := sy_xa as fun r0 l => sy_xi l fun a1 l => sy_xn l (K (jfX2_takeCoin r0 a1 M))
theorem jeX2_takeCoin : sy_snd (3) 26 (jcX2_takeCoin) := by
  intro as M K r h
  obtain ⟨r0, l, e, h1⟩ := sy_xa_ok h; subst e
  obtain ⟨a1, l, e, h2⟩ := sy_xi_ok h1; subst e
  obtain ⟨e, h3⟩ := sy_xn_ok h2; subst e
  exact ⟨_, h3, fun r1 h0 => ⟨qX2_takeCoin, rfl, rfl, jtX2_takeCoin _ _ M r1 h0⟩⟩
/-! X2_light StairMeter$House light (I)V ['A', 'I'] -/
def juX2_light_12 (k : Nat → Int32 → sy_M → sy_O) (ls st : List Value) (M : sy_M) : sy_O := sy_xa ls fun r0 l => sy_xv l fun _ l => sy_xi l fun a2 l => sy_xn l (sy_xn st (k r0 a2 M))
theorem jwX2_light_12 {d : Nat} {k : Nat → Int32 → sy_M → sy_O} (hk : ∀ (w1 : Value) (r0 : Nat) (a2 : Int32) (M : sy_M) (r : xe_R × sy_M), k r0 a2 M = some r → sy_E (d) qX2_light 12 [.ref r0, w1, .int a2] [] M r) : ∀ ls st M r, juX2_light_12 k ls st M = some r → sy_E d qX2_light 12 ls st M r := by
  intro ls st M r h
  obtain ⟨r0, l, e, h1⟩ := sy_xa_ok h; subst e
  obtain ⟨w1, l, e, h2⟩ := sy_xv_ok h1; subst e
  obtain ⟨a2, l, e, h3⟩ := sy_xi_ok h2; subst e
  obtain ⟨e, h4⟩ := sy_xn_ok h3; subst e
  obtain ⟨e, h5⟩ := sy_xn_ok h4; subst e
  exact hk _ r0 a2 M r h5
def jgX2_light_12 (k12 : Nat → Int32 → sy_M → sy_O) (r0 : Nat) (a2 : Int32) (M : sy_M) : sy_O :=
  sy_bs (sy_is 2 r0) <|
  if a2 < (M r0 3) then
    sy_bs (sy_is 2 r0) <|
    if 0 < (M r0 9) then
      sy_bs (sy_is 2 r0) <|
      sy_bv (jfX2_set r0 a2 6 0 M) fun M3 =>
      let v4 := a2 + 1
      k12 r0 v4 M3
    else
      sy_bs (sy_is 2 r0) <|
      let M2 := sy_upd M r0 9 0
      sy_rv M2
  else
    sy_bs (sy_is 2 r0) <|
    let M1 := sy_upd M r0 9 0
    sy_rv M1
def jfX2_light_12 : Nat → Nat → Int32 → sy_M → sy_O
  | 0, _, _, _ => none
  | n + 1, r0, a2, M => jgX2_light_12 (jfX2_light_12 n) r0 a2 M
set_option maxRecDepth 100000 in
theorem jrX2_light_12 (k12 : Nat → Int32 → sy_M → sy_O) (w1 : Value) (r0 : Nat) (a2 : Int32) (M : sy_M) : sy_run skX2 qX2_light [(12, .iload_n 2, 1, [true, false, true]), (13, .aload_n 0, 1, []), (14, .getfield 27, 3, []), (17, .if_icmp .ge 24, 3, []), (20, .aload_n 0, 1, []), (21, .getfield 46, 3, []), (24, .ifCond .le 17, 3, []), (27, .aload_n 0, 1, []), (28, .iload_n 2, 1, []), (29, .bipush 6, 2, []), (31, .iconst 0, 1, []), (32, .invokevirtual 84, 3, []), (35, .iinc 2 1, 3, []), (38, .goto (-26), 3, []), (41, .aload_n 0, 1, [true, false, false]), (42, .iconst 0, 1, []), (43, .putfield 46, 3, []), (46, .return_, 1, [])] [(11, 1, jcX2_set)] [(12, juX2_light_12 k12)] 19 [] 12 [.ref r0, w1, .int a2] [] M = jgX2_light_12 k12 r0 a2 M := rfl
theorem jtX2_light_12 : ∀ n : Nat, ∀ (w1 : Value) (r0 : Nat) (a2 : Int32) (M : sy_M) (r : xe_R × sy_M), jfX2_light_12 n r0 a2 M = some r → sy_E (2) qX2_light 12 [.ref r0, w1, .int a2] [] M r := by
  intro n
  induction n with
  | zero => intro w1 r0 a2 M r h; exact absurd (show (none : sy_O) = some r from h) (by simp)
  | succ n ih => intro w1 r0 a2 M r h; exact sy_run_by (d := 1) ((jrX2_light_12 _ _ _ _ M).trans h) hkX2 (by decide +kernel) (sy_cs_cons (jeX2_set.deep (by decide)) sy_cs_nil) (sy_us_cons (jwX2_light_12 ih) sy_us_nil)
def jfX2_light (r0 : Nat) (a1 : Int32) (M : sy_M) : sy_O :=
  sy_bs (sy_is 2 r0) <|
  sy_bs (sy_is 2 r0) <|
  let M1 := sy_upd M r0 7 ((M r0 7) - a1)
  jfX2_light_12 sy_F r0 0 M1
set_option maxRecDepth 100000 in
theorem jrX2_light (r0 : Nat) (a1 : Int32) (M : sy_M) : sy_run skX2 qX2_light [(0, .aload_n 0, 1, []), (1, .dup, 1, []), (2, .getfield 40, 3, []), (5, .iload_n 1, 1, []), (6, .isub, 1, []), (7, .putfield 40, 3, []), (10, .iconst 0, 1, []), (11, .istore_n 2, 1, [])] [] [(12, juX2_light_12 (jfX2_light_12 sy_F))] 9 [] 0 [.ref r0, .int a1, xe_no] [] M = jfX2_light r0 a1 M := rfl
theorem jtX2_light : ∀ (r0 : Nat) (a1 : Int32) (M : sy_M) (r : xe_R × sy_M), jfX2_light r0 a1 M = some r → sy_E (2) qX2_light 0 [.ref r0, .int a1, xe_no] [] M r := by
  intro r0 a1 M r h
  exact sy_run_by (d := 1) ((jrX2_light _ _ M).trans h) hkX2 (by decide +kernel) sy_cs_nil (sy_us_cons (jwX2_light_12 (jtX2_light_12 sy_F)) sy_us_nil)
def jcX2_light (as : List Value) (M : sy_M) (K : sy_O → sy_O) : sy_O := sy_xa as fun r0 l => sy_xi l fun a1 l => sy_xn l (K (jfX2_light r0 a1 M))
theorem jeX2_light : sy_snd (2) 28 (jcX2_light) := by
  intro as M K r h
  obtain ⟨r0, l, e, h1⟩ := sy_xa_ok h; subst e
  obtain ⟨a1, l, e, h2⟩ := sy_xi_ok h1; subst e
  obtain ⟨e, h3⟩ := sy_xn_ok h2; subst e
  exact ⟨_, h3, fun r1 h0 => ⟨qX2_light, rfl, rfl, jtX2_light _ _ M r1 h0⟩⟩
/-! X2_draw StairMeter$House draw ()I ['A'] -/
def jfX2_draw (r0 : Nat) (M : sy_M) : sy_O :=
  sy_bs (sy_is 2 r0) <|
  sy_bs (sy_is 2 r0) <|
  let M1 := sy_upd M r0 13 ((1103515245 * (M r0 13)) + 12345)
  sy_bs (sy_is 2 r0) <|
  sy_ri (((Int32.toUInt32 (M1 r0 13) >>> (Int32.toUInt32 16 &&& Int32.toUInt32 31)).toInt32) &&& 32767) M1
set_option maxRecDepth 100000 in
theorem jrX2_draw (r0 : Nat) (M : sy_M) : sy_run skX2 qX2_draw [(0, .aload_n 0, 1, []), (1, .ldc 105, 2, []), (3, .aload_n 0, 1, []), (4, .getfield 58, 3, []), (7, .imul, 1, []), (8, .sipush 12345, 3, []), (11, .iadd, 1, []), (12, .putfield 58, 3, []), (15, .aload_n 0, 1, []), (16, .getfield 58, 3, []), (19, .bipush 16, 2, []), (21, .iushr, 1, []), (22, .sipush 32767, 3, []), (25, .iand, 1, []), (26, .ireturn, 1, [])] [] [] 16 [] 0 [.ref r0] [] M = jfX2_draw r0 M := rfl
theorem jtX2_draw : ∀ (r0 : Nat) (M : sy_M) (r : xe_R × sy_M), jfX2_draw r0 M = some r → sy_E (1) qX2_draw 0 [.ref r0] [] M r := by
  intro r0 M r h
  exact sy_run_by (d := 0) ((jrX2_draw _ M).trans h) hkX2 (by decide +kernel) sy_cs_nil sy_us_nil
def jcX2_draw (as : List Value) (M : sy_M) (K : sy_O → sy_O) : sy_O := sy_xa as fun r0 l => sy_xn l (K (jfX2_draw r0 M))
theorem jeX2_draw : sy_snd (1) 27 (jcX2_draw) := by
  intro as M K r h
  obtain ⟨r0, l, e, h1⟩ := sy_xa_ok h; subst e
  obtain ⟨e, h2⟩ := sy_xn_ok h1; subst e
  exact ⟨_, h2, fun r1 h0 => ⟨qX2_draw, rfl, rfl, jtX2_draw _ M r1 h0⟩⟩
/-! X8_pass StairMeter$Night pass (LStairMeter$House;LStairMeter$Law;Z)I [('R', 49), 'A', 'A', 'I'] -/
def juX8_pass_98 (k : Nat → Int32 → sy_M → sy_O) (ls st : List Value) (M : sy_M) : sy_O := sy_xv ls fun _ l => sy_xa l fun r1 l => sy_xv l fun _ l => sy_xv l fun _ l => sy_xv l fun _ l => sy_xi l fun a5 l => sy_xv l fun _ l => sy_xn l (sy_xn st (k r1 a5 M))
theorem jwX8_pass_98 {d : Nat} {k : Nat → Int32 → sy_M → sy_O} (hk : ∀ (w0 : Value) (w2 : Value) (w3 : Value) (w4 : Value) (w6 : Value) (r1 : Nat) (a5 : Int32) (M : sy_M) (r : xe_R × sy_M), k r1 a5 M = some r → sy_E (d) qX8_pass 98 [w0, .ref r1, w2, w3, w4, .int a5, w6] [] M r) : ∀ ls st M r, juX8_pass_98 k ls st M = some r → sy_E d qX8_pass 98 ls st M r := by
  intro ls st M r h
  obtain ⟨w0, l, e, h1⟩ := sy_xv_ok h; subst e
  obtain ⟨r1, l, e, h2⟩ := sy_xa_ok h1; subst e
  obtain ⟨w2, l, e, h3⟩ := sy_xv_ok h2; subst e
  obtain ⟨w3, l, e, h4⟩ := sy_xv_ok h3; subst e
  obtain ⟨w4, l, e, h5⟩ := sy_xv_ok h4; subst e
  obtain ⟨a5, l, e, h6⟩ := sy_xi_ok h5; subst e
  obtain ⟨w6, l, e, h7⟩ := sy_xv_ok h6; subst e
  obtain ⟨e, h8⟩ := sy_xn_ok h7; subst e
  obtain ⟨e, h9⟩ := sy_xn_ok h8; subst e
  exact hk _ _ _ _ _ r1 a5 M r h9
def juX8_pass_34 (k : Nat → Nat → Int32 → sy_M → sy_O) (ls st : List Value) (M : sy_M) : sy_O := sy_xc 49 ls fun l => sy_xa l fun r1 l => sy_xa l fun r2 l => sy_xv l fun _ l => sy_xi l fun a4 l => sy_xv l fun _ l => sy_xv l fun _ l => sy_xn l (sy_xn st (k r1 r2 a4 M))
theorem jwX8_pass_34 {d : Nat} {k : Nat → Nat → Int32 → sy_M → sy_O} (hk : ∀ (w3 : Value) (w5 : Value) (w6 : Value) (r1 : Nat) (r2 : Nat) (a4 : Int32) (M : sy_M) (r : xe_R × sy_M), k r1 r2 a4 M = some r → sy_E (d) qX8_pass 34 [.ref 49, .ref r1, .ref r2, w3, .int a4, w5, w6] [] M r) : ∀ ls st M r, juX8_pass_34 k ls st M = some r → sy_E d qX8_pass 34 ls st M r := by
  intro ls st M r h
  obtain ⟨l, e, h1⟩ := sy_xc_ok h; subst e
  obtain ⟨r1, l, e, h2⟩ := sy_xa_ok h1; subst e
  obtain ⟨r2, l, e, h3⟩ := sy_xa_ok h2; subst e
  obtain ⟨w3, l, e, h4⟩ := sy_xv_ok h3; subst e
  obtain ⟨a4, l, e, h5⟩ := sy_xi_ok h4; subst e
  obtain ⟨w5, l, e, h6⟩ := sy_xv_ok h5; subst e
  obtain ⟨w6, l, e, h7⟩ := sy_xv_ok h6; subst e
  obtain ⟨e, h8⟩ := sy_xn_ok h7; subst e
  obtain ⟨e, h9⟩ := sy_xn_ok h8; subst e
  exact hk _ _ _ r1 r2 a4 M r h9
def jfX8_pass_98 (r1 : Nat) (a5 : Int32) (M : sy_M) : sy_O :=
  sy_bs (sy_is 2 r1) <|
  sy_bv (jfX2_turnClock r1 M) fun M1 =>
  sy_ri a5 M1
set_option maxRecDepth 100000 in
theorem jrX8_pass_98 (w0 : Value) (w2 : Value) (w3 : Value) (w4 : Value) (w6 : Value) (r1 : Nat) (a5 : Int32) (M : sy_M) : sy_run skX8 qX8_pass [(98, .aload_n 1, 1, [false, true, false, false, false, true, false]), (99, .invokevirtual 73, 3, []), (102, .iload 5, 2, []), (104, .ireturn, 1, [])] [(31, 1, jcX2_turnClock)] [] 5 [] 98 [w0, .ref r1, w2, w3, w4, .int a5, w6] [] M = jfX8_pass_98 r1 a5 M := rfl
theorem jtX8_pass_98 : ∀ (w0 : Value) (w2 : Value) (w3 : Value) (w4 : Value) (w6 : Value) (r1 : Nat) (a5 : Int32) (M : sy_M) (r : xe_R × sy_M), jfX8_pass_98 r1 a5 M = some r → sy_E (4) qX8_pass 98 [w0, .ref r1, w2, w3, w4, .int a5, w6] [] M r := by
  intro w0 w2 w3 w4 w6 r1 a5 M r h
  exact sy_run_by (d := 3) ((jrX8_pass_98 _ _ _ _ _ _ _ M).trans h) hkX8 (by decide +kernel) (sy_cs_cons (jeX2_turnClock.deep (by decide)) sy_cs_nil) sy_us_nil
def jfX8_pass_34 (r1 : Nat) (r2 : Nat) (a4 : Int32) (M : sy_M) : sy_O :=
  sy_bs (sy_is 2 r1) <|
  if (M r1 7) < a4 then
    sy_bs (sy_is 2 r1) <|
    sy_bi (jfX8_presentAt (M r1 5) M) fun v2 M1 =>
    sy_bs (sy_is 2 r1) <|
    sy_bv (jfX2_darken r1 M1) fun M3 =>
    sy_bs (sy_is 2 r1) <|
    sy_bv (jfX2_chill r1 v2 M3) fun M4 =>
    sy_bi (jfX8_whoGoes r1 r2 v2 M4) fun v6 M5 =>
    if v6 = (-1) then
      jfX8_pass_98 r1 v6 M5
    else
      sy_bs (sy_is 2 r1) <|
      sy_bv (jfX2_takeCoin r1 v6 M5) fun M7 =>
      jfX8_pass_98 r1 v6 M7
  else
    sy_bs (sy_is 2 r1) <|
    sy_bv (jfX2_light r1 a4 M) fun M8 =>
    jfX8_pass_98 r1 (-2) M8
set_option maxRecDepth 100000 in
theorem jrX8_pass_34 (w3 : Value) (w5 : Value) (w6 : Value) (r1 : Nat) (r2 : Nat) (a4 : Int32) (M : sy_M) : sy_run skX8 qX8_pass [(34, .bipush (-2), 2, [true, true, true, false, true, false, false]), (36, .istore 5, 2, []), (38, .aload_n 1, 1, []), (39, .getfield 50, 3, []), (42, .iload 4, 2, []), (44, .if_icmp .lt 12, 3, []), (47, .aload_n 1, 1, []), (48, .iload 4, 2, []), (50, .invokevirtual 53, 3, []), (53, .goto 45, 3, []), (56, .aload_n 0, 1, [true, true, true, false, false, false, false]), (57, .aload_n 1, 1, []), (58, .getfield 37, 3, []), (61, .invokevirtual 57, 3, []), (64, .istore 6, 2, []), (66, .aload_n 1, 1, []), (67, .invokevirtual 60, 3, []), (70, .aload_n 1, 1, []), (71, .iload 6, 2, []), (73, .invokevirtual 63, 3, []), (76, .aload_n 0, 1, []), (77, .aload_n 1, 1, []), (78, .aload_n 2, 1, []), (79, .iload 6, 2, []), (81, .invokevirtual 66, 3, []), (84, .istore 5, 2, []), (86, .iload 5, 2, []), (88, .iconst (-1), 1, []), (89, .if_icmp .eq 9, 3, []), (92, .aload_n 1, 1, []), (93, .iload 5, 2, []), (95, .invokevirtual 70, 3, [])] [(64, 0, jcX8_presentAt), (29, 1, jcX2_darken), (30, 1, jcX2_chill), (67, 0, jcX8_whoGoes), (26, 1, jcX2_takeCoin), (28, 1, jcX2_light)] [(98, juX8_pass_98 (jfX8_pass_98))] 33 [] 34 [.ref 49, .ref r1, .ref r2, w3, .int a4, w5, w6] [] M = jfX8_pass_34 r1 r2 a4 M := rfl
theorem jtX8_pass_34 : ∀ (w3 : Value) (w5 : Value) (w6 : Value) (r1 : Nat) (r2 : Nat) (a4 : Int32) (M : sy_M) (r : xe_R × sy_M), jfX8_pass_34 r1 r2 a4 M = some r → sy_E (4) qX8_pass 34 [.ref 49, .ref r1, .ref r2, w3, .int a4, w5, w6] [] M r := by
  intro w3 w5 w6 r1 r2 a4 M r h
  exact sy_run_by (d := 3) ((jrX8_pass_34 _ _ _ _ _ _ M).trans h) hkX8 (by decide +kernel) (sy_cs_cons (jeX8_presentAt.deep (by decide)) (sy_cs_cons (jeX2_darken.deep (by decide)) (sy_cs_cons (jeX2_chill.deep (by decide)) (sy_cs_cons (jeX8_whoGoes.deep (by decide)) (sy_cs_cons (jeX2_takeCoin.deep (by decide)) (sy_cs_cons (jeX2_light.deep (by decide)) sy_cs_nil)))))) (sy_us_cons (jwX8_pass_98 (jtX8_pass_98)) sy_us_nil)
def jfX8_pass (r1 : Nat) (r2 : Nat) (a3 : Int32) (M : sy_M) : sy_O :=
  sy_bs (sy_is 2 r1) <|
  sy_bi (jfX8_needsAt (M r1 5) M) fun v2 M1 =>
  if a3 = 0 then
    jfX8_pass_34 r1 r2 v2 M1
  else
    sy_bs (sy_is 2 r1) <|
    sy_bi (jfX2_draw r1 M1) fun v4 M3 =>
    sy_bs (sy_is 2 r1) <|
    if (v4 - v4 / 100 * 100) < (M3 r1 10) then
      let v5 := (v2 * 2)
      jfX8_pass_34 r1 r2 v5 M3
    else
      jfX8_pass_34 r1 r2 v2 M3
set_option maxRecDepth 100000 in
theorem jrX8_pass (r1 : Nat) (r2 : Nat) (a3 : Int32) (M : sy_M) : sy_run skX8 qX8_pass [(0, .aload_n 0, 1, []), (1, .aload_n 1, 1, []), (2, .getfield 37, 3, []), (5, .invokevirtual 40, 3, []), (8, .istore 4, 2, []), (10, .iload_n 3, 1, []), (11, .ifCond .eq 23, 3, []), (14, .aload_n 1, 1, []), (15, .invokevirtual 43, 3, []), (18, .bipush 100, 2, []), (20, .irem, 1, []), (21, .aload_n 1, 1, []), (22, .getfield 47, 3, []), (25, .if_icmp .ge 9, 3, []), (28, .iload 4, 2, []), (30, .iconst 2, 1, []), (31, .imul, 1, []), (32, .istore 4, 2, [])] [(65, 0, jcX8_needsAt), (27, 0, jcX2_draw)] [(34, juX8_pass_34 (jfX8_pass_34))] 19 [] 0 [.ref 49, .ref r1, .ref r2, .int a3, xe_no, xe_no, xe_no] [] M = jfX8_pass r1 r2 a3 M := rfl
theorem jtX8_pass : ∀ (r1 : Nat) (r2 : Nat) (a3 : Int32) (M : sy_M) (r : xe_R × sy_M), jfX8_pass r1 r2 a3 M = some r → sy_E (4) qX8_pass 0 [.ref 49, .ref r1, .ref r2, .int a3, xe_no, xe_no, xe_no] [] M r := by
  intro r1 r2 a3 M r h
  exact sy_run_by (d := 3) ((jrX8_pass _ _ _ M).trans h) hkX8 (by decide +kernel) (sy_cs_cons (jeX8_needsAt.deep (by decide)) (sy_cs_cons (jeX2_draw.deep (by decide)) sy_cs_nil)) (sy_us_cons (jwX8_pass_34 (jtX8_pass_34)) sy_us_nil)
def jcX8_pass (as : List Value) (M : sy_M) (K : sy_O → sy_O) : sy_O := sy_xc 49 as fun l => sy_xa l fun r1 l => sy_xa l fun r2 l => sy_xi l fun a3 l => sy_xn l (K (jfX8_pass r1 r2 a3 M))
theorem jeX8_pass : sy_snd (4) 66 (jcX8_pass) := by
  intro as M K r h
  obtain ⟨l, e, h1⟩ := sy_xc_ok h; subst e
  obtain ⟨r1, l, e, h2⟩ := sy_xa_ok h1; subst e
  obtain ⟨r2, l, e, h3⟩ := sy_xa_ok h2; subst e
  obtain ⟨a3, l, e, h4⟩ := sy_xi_ok h3; subst e
  obtain ⟨e, h5⟩ := sy_xn_ok h4; subst e
  exact ⟨_, h5, fun r1 h0 => ⟨qX8_pass, rfl, rfl, jtX8_pass _ _ _ M r1 h0⟩⟩
/-! X11_run StairMeter run (IZ)I [('R', 0), 'I', 'I'] -/
def juX11_run_33 (k : Int32 → Int32 → Int32 → Int32 → sy_M → sy_O) (ls st : List Value) (M : sy_M) : sy_O := sy_xc 0 ls fun l => sy_xi l fun a1 l => sy_xi l fun a2 l => sy_xi l fun a3 l => sy_xi l fun a4 l => sy_xn l (sy_xn st (k a1 a2 a3 a4 M))
theorem jwX11_run_33 {d : Nat} {k : Int32 → Int32 → Int32 → Int32 → sy_M → sy_O} (hk : ∀ (a1 : Int32) (a2 : Int32) (a3 : Int32) (a4 : Int32) (M : sy_M) (r : xe_R × sy_M), k a1 a2 a3 a4 M = some r → sy_E (d) qX11_run 33 [.ref 0, .int a1, .int a2, .int a3, .int a4] [] M r) : ∀ ls st M r, juX11_run_33 k ls st M = some r → sy_E d qX11_run 33 ls st M r := by
  intro ls st M r h
  obtain ⟨l, e, h1⟩ := sy_xc_ok h; subst e
  obtain ⟨a1, l, e, h2⟩ := sy_xi_ok h1; subst e
  obtain ⟨a2, l, e, h3⟩ := sy_xi_ok h2; subst e
  obtain ⟨a3, l, e, h4⟩ := sy_xi_ok h3; subst e
  obtain ⟨a4, l, e, h5⟩ := sy_xi_ok h4; subst e
  obtain ⟨e, h6⟩ := sy_xn_ok h5; subst e
  obtain ⟨e, h7⟩ := sy_xn_ok h6; subst e
  exact hk a1 a2 a3 a4 M r h7
def juX11_run_5 (k : Int32 → Int32 → Int32 → Int32 → sy_M → sy_O) (ls st : List Value) (M : sy_M) : sy_O := sy_xc 0 ls fun l => sy_xi l fun a1 l => sy_xi l fun a2 l => sy_xi l fun a3 l => sy_xi l fun a4 l => sy_xn l (sy_xn st (k a1 a2 a3 a4 M))
theorem jwX11_run_5 {d : Nat} {k : Int32 → Int32 → Int32 → Int32 → sy_M → sy_O} (hk : ∀ (a1 : Int32) (a2 : Int32) (a3 : Int32) (a4 : Int32) (M : sy_M) (r : xe_R × sy_M), k a1 a2 a3 a4 M = some r → sy_E (d) qX11_run 5 [.ref 0, .int a1, .int a2, .int a3, .int a4] [] M r) : ∀ ls st M r, juX11_run_5 k ls st M = some r → sy_E d qX11_run 5 ls st M r := by
  intro ls st M r h
  obtain ⟨l, e, h1⟩ := sy_xc_ok h; subst e
  obtain ⟨a1, l, e, h2⟩ := sy_xi_ok h1; subst e
  obtain ⟨a2, l, e, h3⟩ := sy_xi_ok h2; subst e
  obtain ⟨a3, l, e, h4⟩ := sy_xi_ok h3; subst e
  obtain ⟨a4, l, e, h5⟩ := sy_xi_ok h4; subst e
  obtain ⟨e, h6⟩ := sy_xn_ok h5; subst e
  obtain ⟨e, h7⟩ := sy_xn_ok h6; subst e
  exact hk a1 a2 a3 a4 M r h7
def jfX11_run_33 (k5 : Int32 → Int32 → Int32 → Int32 → sy_M → sy_O) (a1 : Int32) (a2 : Int32) (a3 : Int32) (a4 : Int32) (M : sy_M) : sy_O :=
  let v1 := a4 + 1
  k5 a1 a2 a3 v1 M
set_option maxRecDepth 100000 in
theorem jrX11_run_33 (k5 : Int32 → Int32 → Int32 → Int32 → sy_M → sy_O) (a1 : Int32) (a2 : Int32) (a3 : Int32) (a4 : Int32) (M : sy_M) : sy_run skX11 qX11_run [(33, .iinc 4 1, 3, []), (36, .goto (-31), 3, [])] [] [(5, juX11_run_5 k5)] 3 [] 33 [.ref 0, .int a1, .int a2, .int a3, .int a4] [] M = jfX11_run_33 k5 a1 a2 a3 a4 M := rfl
theorem jtX11_run_33 {k5 : Int32 → Int32 → Int32 → Int32 → sy_M → sy_O} (hk5 : ∀ (a1 : Int32) (a2 : Int32) (a3 : Int32) (a4 : Int32) (M : sy_M) (r : xe_R × sy_M), k5 a1 a2 a3 a4 M = some r → sy_E (5) qX11_run 5 [.ref 0, .int a1, .int a2, .int a3, .int a4] [] M r) : ∀ (a1 : Int32) (a2 : Int32) (a3 : Int32) (a4 : Int32) (M : sy_M) (r : xe_R × sy_M), jfX11_run_33 k5 a1 a2 a3 a4 M = some r → sy_E (5) qX11_run 33 [.ref 0, .int a1, .int a2, .int a3, .int a4] [] M r := by
  intro a1 a2 a3 a4 M r h
  exact sy_run_by (d := 4) ((jrX11_run_33 _ _ _ _ _ M).trans h) hkX11 (by decide +kernel) sy_cs_nil (sy_us_cons (jwX11_run_5 hk5) sy_us_nil)
def jgX11_run_5 (k5 : Int32 → Int32 → Int32 → Int32 → sy_M → sy_O) (a1 : Int32) (a2 : Int32) (a3 : Int32) (a4 : Int32) (M : sy_M) : sy_O :=
  if a4 < a1 then
    sy_bi (jfX8_pass 19 29 a2 M) fun v2 M1 =>
    if v2 < 0 then
      jfX11_run_33 k5 a1 a2 a3 a4 M1
    else
      let v3 := a3 + 1
      jfX11_run_33 k5 a1 a2 v3 a4 M1
  else
    sy_ri a3 M
def jfX11_run_5 : Nat → Int32 → Int32 → Int32 → Int32 → sy_M → sy_O
  | 0, _, _, _, _, _ => none
  | n + 1, a1, a2, a3, a4, M => jgX11_run_5 (jfX11_run_5 n) a1 a2 a3 a4 M
set_option maxRecDepth 100000 in
theorem jrX11_run_5 (k5 : Int32 → Int32 → Int32 → Int32 → sy_M → sy_O) (a1 : Int32) (a2 : Int32) (a3 : Int32) (a4 : Int32) (M : sy_M) : sy_run skX11 qX11_run [(5, .iload 4, 2, []), (7, .iload_n 1, 1, []), (8, .if_icmp .ge 31, 3, []), (11, .aload_n 0, 1, []), (12, .getfield 75, 3, []), (15, .aload_n 0, 1, []), (16, .getfield 35, 3, []), (19, .aload_n 0, 1, []), (20, .getfield 44, 3, []), (23, .iload_n 2, 1, []), (24, .invokevirtual 255, 3, []), (27, .ifCond .lt 6, 3, []), (30, .iinc 3 1, 3, []), (39, .iload_n 3, 1, [false, false, false, true, false]), (40, .ireturn, 1, [])] [(66, 0, jcX8_pass)] [(33, juX11_run_33 (jfX11_run_33 k5))] 16 [] 5 [.ref 0, .int a1, .int a2, .int a3, .int a4] [] M = jgX11_run_5 k5 a1 a2 a3 a4 M := rfl
theorem jtX11_run_5 : ∀ n : Nat, ∀ (a1 : Int32) (a2 : Int32) (a3 : Int32) (a4 : Int32) (M : sy_M) (r : xe_R × sy_M), jfX11_run_5 n a1 a2 a3 a4 M = some r → sy_E (5) qX11_run 5 [.ref 0, .int a1, .int a2, .int a3, .int a4] [] M r := by
  intro n
  induction n with
  | zero => intro a1 a2 a3 a4 M r h; exact absurd (show (none : sy_O) = some r from h) (by simp)
  | succ n ih => intro a1 a2 a3 a4 M r h; exact sy_run_by (d := 4) ((jrX11_run_5 _ _ _ _ _ M).trans h) hkX11 (by decide +kernel) (sy_cs_cons (jeX8_pass.deep (by decide)) sy_cs_nil) (sy_us_cons (jwX11_run_33 (jtX11_run_33 ih)) sy_us_nil)
def jfX11_run (a1 : Int32) (a2 : Int32) (M : sy_M) : sy_O :=
  jfX11_run_5 sy_F a1 a2 0 0 M
set_option maxRecDepth 100000 in
theorem jrX11_run (a1 : Int32) (a2 : Int32) (M : sy_M) : sy_run skX11 qX11_run [(0, .iconst 0, 1, []), (1, .istore_n 3, 1, []), (2, .iconst 0, 1, []), (3, .istore 4, 2, [])] [] [(5, juX11_run_5 (jfX11_run_5 sy_F))] 5 [] 0 [.ref 0, .int a1, .int a2, xe_no, xe_no] [] M = jfX11_run a1 a2 M := rfl
theorem jtX11_run : ∀ (a1 : Int32) (a2 : Int32) (M : sy_M) (r : xe_R × sy_M), jfX11_run a1 a2 M = some r → sy_E (5) qX11_run 0 [.ref 0, .int a1, .int a2, xe_no, xe_no] [] M r := by
  intro a1 a2 M r h
  exact sy_run_by (d := 4) ((jrX11_run _ _ M).trans h) hkX11 (by decide +kernel) sy_cs_nil (sy_us_cons (jwX11_run_5 (jtX11_run_5 sy_F)) sy_us_nil)
def jcX11_run (as : List Value) (M : sy_M) (K : sy_O → sy_O) : sy_O := sy_xc 0 as fun l => sy_xi l fun a1 l => sy_xi l fun a2 l => sy_xn l (K (jfX11_run a1 a2 M))
theorem jeX11_run : sy_snd (5) 120 (jcX11_run) := by
  intro as M K r h
  obtain ⟨l, e, h1⟩ := sy_xc_ok h; subst e
  obtain ⟨a1, l, e, h2⟩ := sy_xi_ok h1; subst e
  obtain ⟨a2, l, e, h3⟩ := sy_xi_ok h2; subst e
  obtain ⟨e, h4⟩ := sy_xn_ok h3; subst e
  exact ⟨_, h4, fun r1 h0 => ⟨qX11_run, rfl, rfl, jtX11_run _ _ M r1 h0⟩⟩
/-! X11_griefAhead StairMeter griefAhead (I)I [('R', 0), 'I'] -/
def jfX11_griefAhead (a1 : Int32) (M : sy_M) : sy_O :=
  sy_bi (jfX2_get 19 a1 7 M) fun v2 M1 =>
  sy_bi (jfX2_get 9 a1 7 M1) fun v4 M3 =>
  let v5 := (v2 - v4)
  sy_bi (jfX2_get 19 a1 8 M3) fun v7 M6 =>
  sy_bi (jfX2_get 9 a1 8 M6) fun v9 M8 =>
  let v10 := (v7 - v9)
  sy_ri (v5 + (3 * v10)) M8
set_option maxRecDepth 100000 in
theorem jrX11_griefAhead (a1 : Int32) (M : sy_M) : sy_run skX11 qX11_griefAhead [(0, .aload_n 0, 1, []), (1, .getfield 35, 3, []), (4, .iload_n 1, 1, []), (5, .bipush 7, 2, []), (7, .invokevirtual 152, 3, []), (10, .aload_n 0, 1, []), (11, .getfield 28, 3, []), (14, .iload_n 1, 1, []), (15, .bipush 7, 2, []), (17, .invokevirtual 152, 3, []), (20, .isub, 1, []), (21, .istore_n 2, 1, []), (22, .aload_n 0, 1, []), (23, .getfield 35, 3, []), (26, .iload_n 1, 1, []), (27, .bipush 8, 2, []), (29, .invokevirtual 152, 3, []), (32, .aload_n 0, 1, []), (33, .getfield 28, 3, []), (36, .iload_n 1, 1, []), (37, .bipush 8, 2, []), (39, .invokevirtual 152, 3, []), (42, .isub, 1, []), (43, .istore_n 3, 1, []), (44, .iload_n 2, 1, []), (45, .iconst 3, 1, []), (46, .iload_n 3, 1, []), (47, .imul, 1, []), (48, .iadd, 1, []), (49, .ireturn, 1, [])] [(10, 0, jcX2_get)] [] 31 [] 0 [.ref 0, .int a1, xe_no, xe_no] [] M = jfX11_griefAhead a1 M := rfl
theorem jtX11_griefAhead : ∀ (a1 : Int32) (M : sy_M) (r : xe_R × sy_M), jfX11_griefAhead a1 M = some r → sy_E (2) qX11_griefAhead 0 [.ref 0, .int a1, xe_no, xe_no] [] M r := by
  intro a1 M r h
  exact sy_run_by (d := 1) ((jrX11_griefAhead _ M).trans h) hkX11 (by decide +kernel) (sy_cs_cons (jeX2_get.deep (by decide)) sy_cs_nil) sy_us_nil
def jcX11_griefAhead (as : List Value) (M : sy_M) (K : sy_O → sy_O) : sy_O := sy_xc 0 as fun l => sy_xi l fun a1 l => sy_xn l (K (jfX11_griefAhead a1 M))
theorem jeX11_griefAhead : sy_snd (2) 128 (jcX11_griefAhead) := by
  intro as M K r h
  obtain ⟨l, e, h1⟩ := sy_xc_ok h; subst e
  obtain ⟨a1, l, e, h2⟩ := sy_xi_ok h1; subst e
  obtain ⟨e, h3⟩ := sy_xn_ok h2; subst e
  exact ⟨_, h3, fun r1 h0 => ⟨qX11_griefAhead, rfl, rfl, jtX11_griefAhead _ M r1 h0⟩⟩
/-! X11_griefBy StairMeter griefBy (II)I [('R', 0), 'I', 'I'] -/
def jfX11_griefBy (a1 : Int32) (a2 : Int32) (M : sy_M) : sy_O :=
  sy_bv (jfX2_takeOver 19 9 M) fun M1 =>
  sy_bv (jfX2_set 19 a1 4 a2 M1) fun M2 =>
  sy_bi (jfX11_run 48 0 M2) fun v4 M3 =>
  sy_bi (jfX11_griefAhead a1 M3) fun v6 M5 =>
  sy_ri v6 M5
set_option maxRecDepth 100000 in
theorem jrX11_griefBy (a1 : Int32) (a2 : Int32) (M : sy_M) : sy_run skX11 qX11_griefBy [(0, .aload_n 0, 1, []), (1, .getfield 35, 3, []), (4, .aload_n 0, 1, []), (5, .getfield 28, 3, []), (8, .invokevirtual 115, 3, []), (11, .aload_n 0, 1, []), (12, .getfield 35, 3, []), (15, .iload_n 1, 1, []), (16, .iconst 4, 1, []), (17, .iload_n 2, 1, []), (18, .invokevirtual 276, 3, []), (21, .aload_n 0, 1, []), (22, .bipush 48, 2, []), (24, .iconst 0, 1, []), (25, .invokevirtual 295, 3, []), (28, .pop, 1, []), (29, .aload_n 0, 1, []), (30, .iload_n 1, 1, []), (31, .invokevirtual 308, 3, []), (34, .ireturn, 1, [])] [(9, 1, jcX2_takeOver), (11, 1, jcX2_set), (120, 0, jcX11_run), (128, 0, jcX11_griefAhead)] [] 21 [] 0 [.ref 0, .int a1, .int a2] [] M = jfX11_griefBy a1 a2 M := rfl
theorem jtX11_griefBy : ∀ (a1 : Int32) (a2 : Int32) (M : sy_M) (r : xe_R × sy_M), jfX11_griefBy a1 a2 M = some r → sy_E (6) qX11_griefBy 0 [.ref 0, .int a1, .int a2] [] M r := by
  intro a1 a2 M r h
  exact sy_run_by (d := 5) ((jrX11_griefBy _ _ M).trans h) hkX11 (by decide +kernel) (sy_cs_cons (jeX2_takeOver.deep (by decide)) (sy_cs_cons (jeX2_set.deep (by decide)) (sy_cs_cons (jeX11_run.deep (by decide)) (sy_cs_cons (jeX11_griefAhead.deep (by decide)) sy_cs_nil)))) sy_us_nil
def jcX11_griefBy (as : List Value) (M : sy_M) (K : sy_O → sy_O) : sy_O := sy_xc 0 as fun l => sy_xi l fun a1 l => sy_xi l fun a2 l => sy_xn l (K (jfX11_griefBy a1 a2 M))
theorem jeX11_griefBy : sy_snd (6) 127 (jcX11_griefBy) := by
  intro as M K r h
  obtain ⟨l, e, h1⟩ := sy_xc_ok h; subst e
  obtain ⟨a1, l, e, h2⟩ := sy_xi_ok h1; subst e
  obtain ⟨a2, l, e, h3⟩ := sy_xi_ok h2; subst e
  obtain ⟨e, h4⟩ := sy_xn_ok h3; subst e
  exact ⟨_, h4, fun r1 h0 => ⟨qX11_griefBy, rfl, rfl, jtX11_griefBy _ _ M r1 h0⟩⟩
/-! X11_bestWait StairMeter bestWait (I)I [('R', 0), 'I'] -/
def juX11_bestWait_40 (k : Int32 → Int32 → Int32 → Int32 → sy_M → sy_O) (ls st : List Value) (M : sy_M) : sy_O := sy_xc 0 ls fun l => sy_xi l fun a1 l => sy_xi l fun a2 l => sy_xi l fun a3 l => sy_xi l fun a4 l => sy_xv l fun _ l => sy_xn l (sy_xn st (k a1 a2 a3 a4 M))
theorem jwX11_bestWait_40 {d : Nat} {k : Int32 → Int32 → Int32 → Int32 → sy_M → sy_O} (hk : ∀ (w5 : Value) (a1 : Int32) (a2 : Int32) (a3 : Int32) (a4 : Int32) (M : sy_M) (r : xe_R × sy_M), k a1 a2 a3 a4 M = some r → sy_E (d) qX11_bestWait 40 [.ref 0, .int a1, .int a2, .int a3, .int a4, w5] [] M r) : ∀ ls st M r, juX11_bestWait_40 k ls st M = some r → sy_E d qX11_bestWait 40 ls st M r := by
  intro ls st M r h
  obtain ⟨l, e, h1⟩ := sy_xc_ok h; subst e
  obtain ⟨a1, l, e, h2⟩ := sy_xi_ok h1; subst e
  obtain ⟨a2, l, e, h3⟩ := sy_xi_ok h2; subst e
  obtain ⟨a3, l, e, h4⟩ := sy_xi_ok h3; subst e
  obtain ⟨a4, l, e, h5⟩ := sy_xi_ok h4; subst e
  obtain ⟨w5, l, e, h6⟩ := sy_xv_ok h5; subst e
  obtain ⟨e, h7⟩ := sy_xn_ok h6; subst e
  obtain ⟨e, h8⟩ := sy_xn_ok h7; subst e
  exact hk _ a1 a2 a3 a4 M r h8
def juX11_bestWait_12 (k : Int32 → Int32 → Int32 → Int32 → sy_M → sy_O) (ls st : List Value) (M : sy_M) : sy_O := sy_xc 0 ls fun l => sy_xi l fun a1 l => sy_xi l fun a2 l => sy_xi l fun a3 l => sy_xi l fun a4 l => sy_xv l fun _ l => sy_xn l (sy_xn st (k a1 a2 a3 a4 M))
theorem jwX11_bestWait_12 {d : Nat} {k : Int32 → Int32 → Int32 → Int32 → sy_M → sy_O} (hk : ∀ (w5 : Value) (a1 : Int32) (a2 : Int32) (a3 : Int32) (a4 : Int32) (M : sy_M) (r : xe_R × sy_M), k a1 a2 a3 a4 M = some r → sy_E (d) qX11_bestWait 12 [.ref 0, .int a1, .int a2, .int a3, .int a4, w5] [] M r) : ∀ ls st M r, juX11_bestWait_12 k ls st M = some r → sy_E d qX11_bestWait 12 ls st M r := by
  intro ls st M r h
  obtain ⟨l, e, h1⟩ := sy_xc_ok h; subst e
  obtain ⟨a1, l, e, h2⟩ := sy_xi_ok h1; subst e
  obtain ⟨a2, l, e, h3⟩ := sy_xi_ok h2; subst e
  obtain ⟨a3, l, e, h4⟩ := sy_xi_ok h3; subst e
  obtain ⟨a4, l, e, h5⟩ := sy_xi_ok h4; subst e
  obtain ⟨w5, l, e, h6⟩ := sy_xv_ok h5; subst e
  obtain ⟨e, h7⟩ := sy_xn_ok h6; subst e
  obtain ⟨e, h8⟩ := sy_xn_ok h7; subst e
  exact hk _ a1 a2 a3 a4 M r h8
def jfX11_bestWait_40 (k12 : Int32 → Int32 → Int32 → Int32 → sy_M → sy_O) (a1 : Int32) (a2 : Int32) (a3 : Int32) (a4 : Int32) (M : sy_M) : sy_O :=
  let v1 := a4 + 1
  k12 a1 a2 a3 v1 M
set_option maxRecDepth 100000 in
theorem jrX11_bestWait_40 (k12 : Int32 → Int32 → Int32 → Int32 → sy_M → sy_O) (w5 : Value) (a1 : Int32) (a2 : Int32) (a3 : Int32) (a4 : Int32) (M : sy_M) : sy_run skX11 qX11_bestWait [(40, .iinc 4 1, 3, [true, true, true, true, true, false]), (43, .goto (-31), 3, [])] [] [(12, juX11_bestWait_12 k12)] 3 [] 40 [.ref 0, .int a1, .int a2, .int a3, .int a4, w5] [] M = jfX11_bestWait_40 k12 a1 a2 a3 a4 M := rfl
theorem jtX11_bestWait_40 {k12 : Int32 → Int32 → Int32 → Int32 → sy_M → sy_O} (hk12 : ∀ (w5 : Value) (a1 : Int32) (a2 : Int32) (a3 : Int32) (a4 : Int32) (M : sy_M) (r : xe_R × sy_M), k12 a1 a2 a3 a4 M = some r → sy_E (7) qX11_bestWait 12 [.ref 0, .int a1, .int a2, .int a3, .int a4, w5] [] M r) : ∀ (w5 : Value) (a1 : Int32) (a2 : Int32) (a3 : Int32) (a4 : Int32) (M : sy_M) (r : xe_R × sy_M), jfX11_bestWait_40 k12 a1 a2 a3 a4 M = some r → sy_E (7) qX11_bestWait 40 [.ref 0, .int a1, .int a2, .int a3, .int a4, w5] [] M r := by
  intro w5 a1 a2 a3 a4 M r h
  exact sy_run_by (d := 6) ((jrX11_bestWait_40 _ _ _ _ _ _ M).trans h) hkX11 (by decide +kernel) sy_cs_nil (sy_us_cons (jwX11_bestWait_12 hk12) sy_us_nil)
def jgX11_bestWait_12 (k12 : Int32 → Int32 → Int32 → Int32 → sy_M → sy_O) (a1 : Int32) (a2 : Int32) (a3 : Int32) (a4 : Int32) (M : sy_M) : sy_O :=
  if 20 < a4 then
    sy_ri a2 M
  else
    sy_bi (jfX11_griefBy a1 a4 M) fun v2 M1 =>
    if v2 < a3 then
      jfX11_bestWait_40 k12 a1 a4 v2 a4 M1
    else
      jfX11_bestWait_40 k12 a1 a2 a3 a4 M1
def jfX11_bestWait_12 : Nat → Int32 → Int32 → Int32 → Int32 → sy_M → sy_O
  | 0, _, _, _, _, _ => none
  | n + 1, a1, a2, a3, a4, M => jgX11_bestWait_12 (jfX11_bestWait_12 n) a1 a2 a3 a4 M
set_option maxRecDepth 100000 in
theorem jrX11_bestWait_12 (k12 : Int32 → Int32 → Int32 → Int32 → sy_M → sy_O) (w5 : Value) (a1 : Int32) (a2 : Int32) (a3 : Int32) (a4 : Int32) (M : sy_M) : sy_run skX11 qX11_bestWait [(12, .iload 4, 2, [true, true, true, true, true, false]), (14, .bipush 20, 2, []), (16, .if_icmp .gt 30, 3, []), (19, .aload_n 0, 1, []), (20, .iload_n 1, 1, []), (21, .iload 4, 2, []), (23, .invokevirtual 302, 3, []), (26, .istore 5, 2, []), (28, .iload 5, 2, []), (30, .iload_n 3, 1, []), (31, .if_icmp .ge 9, 3, []), (34, .iload 5, 2, []), (36, .istore_n 3, 1, []), (37, .iload 4, 2, []), (39, .istore_n 2, 1, []), (46, .iload_n 2, 1, [false, false, true, false, false, false]), (47, .ireturn, 1, [])] [(127, 0, jcX11_griefBy)] [(40, juX11_bestWait_40 (jfX11_bestWait_40 k12))] 18 [] 12 [.ref 0, .int a1, .int a2, .int a3, .int a4, w5] [] M = jgX11_bestWait_12 k12 a1 a2 a3 a4 M := rfl
theorem jtX11_bestWait_12 : ∀ n : Nat, ∀ (w5 : Value) (a1 : Int32) (a2 : Int32) (a3 : Int32) (a4 : Int32) (M : sy_M) (r : xe_R × sy_M), jfX11_bestWait_12 n a1 a2 a3 a4 M = some r → sy_E (7) qX11_bestWait 12 [.ref 0, .int a1, .int a2, .int a3, .int a4, w5] [] M r := by
  intro n
  induction n with
  | zero => intro w5 a1 a2 a3 a4 M r h; exact absurd (show (none : sy_O) = some r from h) (by simp)
  | succ n ih => intro w5 a1 a2 a3 a4 M r h; exact sy_run_by (d := 6) ((jrX11_bestWait_12 _ _ _ _ _ _ M).trans h) hkX11 (by decide +kernel) (sy_cs_cons (jeX11_griefBy.deep (by decide)) sy_cs_nil) (sy_us_cons (jwX11_bestWait_40 (jtX11_bestWait_40 ih)) sy_us_nil)
def jfX11_bestWait (a1 : Int32) (M : sy_M) : sy_O :=
  sy_bi (jfX11_griefBy a1 0 M) fun v2 M1 =>
  jfX11_bestWait_12 sy_F a1 0 v2 1 M1
set_option maxRecDepth 100000 in
theorem jrX11_bestWait (a1 : Int32) (M : sy_M) : sy_run skX11 qX11_bestWait [(0, .iconst 0, 1, []), (1, .istore_n 2, 1, []), (2, .aload_n 0, 1, []), (3, .iload_n 1, 1, []), (4, .iconst 0, 1, []), (5, .invokevirtual 302, 3, []), (8, .istore_n 3, 1, []), (9, .iconst 1, 1, []), (10, .istore 4, 2, [])] [(127, 0, jcX11_griefBy)] [(12, juX11_bestWait_12 (jfX11_bestWait_12 sy_F))] 10 [] 0 [.ref 0, .int a1, xe_no, xe_no, xe_no, xe_no] [] M = jfX11_bestWait a1 M := rfl
theorem jtX11_bestWait : ∀ (a1 : Int32) (M : sy_M) (r : xe_R × sy_M), jfX11_bestWait a1 M = some r → sy_E (7) qX11_bestWait 0 [.ref 0, .int a1, xe_no, xe_no, xe_no, xe_no] [] M r := by
  intro a1 M r h
  exact sy_run_by (d := 6) ((jrX11_bestWait _ M).trans h) hkX11 (by decide +kernel) (sy_cs_cons (jeX11_griefBy.deep (by decide)) sy_cs_nil) (sy_us_cons (jwX11_bestWait_12 (jtX11_bestWait_12 sy_F)) sy_us_nil)
def jcX11_bestWait (as : List Value) (M : sy_M) (K : sy_O → sy_O) : sy_O := sy_xc 0 as fun l => sy_xi l fun a1 l => sy_xn l (K (jfX11_bestWait a1 M))
theorem jeX11_bestWait : sy_snd (7) 126 (jcX11_bestWait) := by
  intro as M K r h
  obtain ⟨l, e, h1⟩ := sy_xc_ok h; subst e
  obtain ⟨a1, l, e, h2⟩ := sy_xi_ok h1; subst e
  obtain ⟨e, h3⟩ := sy_xn_ok h2; subst e
  exact ⟨_, h3, fun r1 h0 => ⟨qX11_bestWait, rfl, rfl, jtX11_bestWait _ M r1 h0⟩⟩
/-! X11_lodger StairMeter lodger (II)I [('R', 0), 'I', 'I'] -/
def juX11_lodger_60 (k : Int32 → sy_M → sy_O) (ls st : List Value) (M : sy_M) : sy_O := sy_xc 0 ls fun l => sy_xi l fun a1 l => sy_xv l fun _ l => sy_xn l (sy_xn st (k a1 M))
theorem jwX11_lodger_60 {d : Nat} {k : Int32 → sy_M → sy_O} (hk : ∀ (w2 : Value) (a1 : Int32) (M : sy_M) (r : xe_R × sy_M), k a1 M = some r → sy_E (d) qX11_lodger 60 [.ref 0, .int a1, w2] [] M r) : ∀ ls st M r, juX11_lodger_60 k ls st M = some r → sy_E d qX11_lodger 60 ls st M r := by
  intro ls st M r h
  obtain ⟨l, e, h1⟩ := sy_xc_ok h; subst e
  obtain ⟨a1, l, e, h2⟩ := sy_xi_ok h1; subst e
  obtain ⟨w2, l, e, h3⟩ := sy_xv_ok h2; subst e
  obtain ⟨e, h4⟩ := sy_xn_ok h3; subst e
  obtain ⟨e, h5⟩ := sy_xn_ok h4; subst e
  exact hk _ a1 M r h5
def juX11_lodger_87 (k : Int32 → sy_M → sy_O) (ls st : List Value) (M : sy_M) : sy_O := sy_xc 0 ls fun l => sy_xi l fun a1 l => sy_xv l fun _ l => sy_xn l (sy_xn st (k a1 M))
theorem jwX11_lodger_87 {d : Nat} {k : Int32 → sy_M → sy_O} (hk : ∀ (w2 : Value) (a1 : Int32) (M : sy_M) (r : xe_R × sy_M), k a1 M = some r → sy_E (d) qX11_lodger 87 [.ref 0, .int a1, w2] [] M r) : ∀ ls st M r, juX11_lodger_87 k ls st M = some r → sy_E d qX11_lodger 87 ls st M r := by
  intro ls st M r h
  obtain ⟨l, e, h1⟩ := sy_xc_ok h; subst e
  obtain ⟨a1, l, e, h2⟩ := sy_xi_ok h1; subst e
  obtain ⟨w2, l, e, h3⟩ := sy_xv_ok h2; subst e
  obtain ⟨e, h4⟩ := sy_xn_ok h3; subst e
  obtain ⟨e, h5⟩ := sy_xn_ok h4; subst e
  exact hk _ a1 M r h5
def juX11_lodger_122 (k : Int32 → sy_M → sy_O) (ls st : List Value) (M : sy_M) : sy_O := sy_xc 0 ls fun l => sy_xi l fun a1 l => sy_xv l fun _ l => sy_xn l (sy_xn st (k a1 M))
theorem jwX11_lodger_122 {d : Nat} {k : Int32 → sy_M → sy_O} (hk : ∀ (w2 : Value) (a1 : Int32) (M : sy_M) (r : xe_R × sy_M), k a1 M = some r → sy_E (d) qX11_lodger 122 [.ref 0, .int a1, w2] [] M r) : ∀ ls st M r, juX11_lodger_122 k ls st M = some r → sy_E d qX11_lodger 122 ls st M r := by
  intro ls st M r h
  obtain ⟨l, e, h1⟩ := sy_xc_ok h; subst e
  obtain ⟨a1, l, e, h2⟩ := sy_xi_ok h1; subst e
  obtain ⟨w2, l, e, h3⟩ := sy_xv_ok h2; subst e
  obtain ⟨e, h4⟩ := sy_xn_ok h3; subst e
  obtain ⟨e, h5⟩ := sy_xn_ok h4; subst e
  exact hk _ a1 M r h5
def juX11_lodger_145 (k : Int32 → sy_M → sy_O) (ls st : List Value) (M : sy_M) : sy_O := sy_xc 0 ls fun l => sy_xi l fun a1 l => sy_xv l fun _ l => sy_xn l (sy_xn st (k a1 M))
theorem jwX11_lodger_145 {d : Nat} {k : Int32 → sy_M → sy_O} (hk : ∀ (w2 : Value) (a1 : Int32) (M : sy_M) (r : xe_R × sy_M), k a1 M = some r → sy_E (d) qX11_lodger 145 [.ref 0, .int a1, w2] [] M r) : ∀ ls st M r, juX11_lodger_145 k ls st M = some r → sy_E d qX11_lodger 145 ls st M r := by
  intro ls st M r h
  obtain ⟨l, e, h1⟩ := sy_xc_ok h; subst e
  obtain ⟨a1, l, e, h2⟩ := sy_xi_ok h1; subst e
  obtain ⟨w2, l, e, h3⟩ := sy_xv_ok h2; subst e
  obtain ⟨e, h4⟩ := sy_xn_ok h3; subst e
  obtain ⟨e, h5⟩ := sy_xn_ok h4; subst e
  exact hk _ a1 M r h5
def juX11_lodger_154 (k : Int32 → sy_M → sy_O) (ls st : List Value) (M : sy_M) : sy_O := sy_xc 0 ls fun l => sy_xi l fun a1 l => sy_xv l fun _ l => sy_xn l (sy_xn st (k a1 M))
theorem jwX11_lodger_154 {d : Nat} {k : Int32 → sy_M → sy_O} (hk : ∀ (w2 : Value) (a1 : Int32) (M : sy_M) (r : xe_R × sy_M), k a1 M = some r → sy_E (d) qX11_lodger 154 [.ref 0, .int a1, w2] [] M r) : ∀ ls st M r, juX11_lodger_154 k ls st M = some r → sy_E d qX11_lodger 154 ls st M r := by
  intro ls st M r h
  obtain ⟨l, e, h1⟩ := sy_xc_ok h; subst e
  obtain ⟨a1, l, e, h2⟩ := sy_xi_ok h1; subst e
  obtain ⟨w2, l, e, h3⟩ := sy_xv_ok h2; subst e
  obtain ⟨e, h4⟩ := sy_xn_ok h3; subst e
  obtain ⟨e, h5⟩ := sy_xn_ok h4; subst e
  exact hk _ a1 M r h5
def juX11_lodger_25 (k : Int32 → Int32 → sy_M → sy_O) (ls st : List Value) (M : sy_M) : sy_O := sy_xc 0 ls fun l => sy_xi l fun a1 l => sy_xi l fun a2 l => sy_xn l (sy_xn st (k a1 a2 M))
theorem jwX11_lodger_25 {d : Nat} {k : Int32 → Int32 → sy_M → sy_O} (hk : ∀ (a1 : Int32) (a2 : Int32) (M : sy_M) (r : xe_R × sy_M), k a1 a2 M = some r → sy_E (d) qX11_lodger 25 [.ref 0, .int a1, .int a2] [] M r) : ∀ ls st M r, juX11_lodger_25 k ls st M = some r → sy_E d qX11_lodger 25 ls st M r := by
  intro ls st M r h
  obtain ⟨l, e, h1⟩ := sy_xc_ok h; subst e
  obtain ⟨a1, l, e, h2⟩ := sy_xi_ok h1; subst e
  obtain ⟨a2, l, e, h3⟩ := sy_xi_ok h2; subst e
  obtain ⟨e, h4⟩ := sy_xn_ok h3; subst e
  obtain ⟨e, h5⟩ := sy_xn_ok h4; subst e
  exact hk a1 a2 M r h5
def jfX11_lodger_60 (a1 : Int32) (M : sy_M) : sy_O :=
  sy_bv (jfX8_tell 9 a1 M) fun M1 =>
  sy_bi (jfX4_turnOf 29 M1) fun v3 M2 =>
  sy_ri v3 M2
set_option maxRecDepth 100000 in
theorem jrX11_lodger_60 (w2 : Value) (a1 : Int32) (M : sy_M) : sy_run skX11 qX11_lodger [(60, .aload_n 0, 1, [true, true, false]), (61, .getfield 75, 3, []), (64, .aload_n 0, 1, []), (65, .getfield 28, 3, []), (68, .iload_n 1, 1, []), (69, .invokevirtual 156, 3, []), (72, .aload_n 0, 1, []), (73, .getfield 44, 3, []), (76, .aload_n 0, 1, []), (77, .getfield 75, 3, []), (80, .getfield 160, 3, []), (83, .invokevirtual 163, 3, []), (86, .ireturn, 1, [])] [(68, 1, jcX8_tell), (44, 0, jcX4_turnOf)] [] 14 [] 60 [.ref 0, .int a1, w2] [] M = jfX11_lodger_60 a1 M := rfl
theorem jtX11_lodger_60 : ∀ (w2 : Value) (a1 : Int32) (M : sy_M) (r : xe_R × sy_M), jfX11_lodger_60 a1 M = some r → sy_E (8) qX11_lodger 60 [.ref 0, .int a1, w2] [] M r := by
  intro w2 a1 M r h
  exact sy_run_by (d := 7) ((jrX11_lodger_60 _ _ M).trans h) hkX11 (by decide +kernel) (sy_cs_cons (jeX8_tell.deep (by decide)) (sy_cs_cons (jeX4_turnOf.deep (by decide)) sy_cs_nil)) sy_us_nil
def jfX11_lodger_87 (a1 : Int32) (M : sy_M) : sy_O :=
  sy_bv (jfX8_tell 9 a1 M) fun M1 =>
  sy_bi (jfX4_isRefused 29 M1) fun v3 M2 =>
  if v3 = 0 then
    sy_ri 0 M2
  else
    sy_ri 1 M2
set_option maxRecDepth 100000 in
theorem jrX11_lodger_87 (w2 : Value) (a1 : Int32) (M : sy_M) : sy_run skX11 qX11_lodger [(87, .aload_n 0, 1, [true, true, false]), (88, .getfield 75, 3, []), (91, .aload_n 0, 1, []), (92, .getfield 28, 3, []), (95, .iload_n 1, 1, []), (96, .invokevirtual 156, 3, []), (99, .aload_n 0, 1, []), (100, .getfield 44, 3, []), (103, .aload_n 0, 1, []), (104, .getfield 75, 3, []), (107, .getfield 160, 3, []), (110, .invokevirtual 167, 3, []), (113, .ifCond .eq 7, 3, []), (116, .iconst 1, 1, []), (117, .goto 4, 3, []), (120, .iconst 0, 1, [false, false, false]), (121, .ireturn, 1, [false, false, false])] [(68, 1, jcX8_tell), (45, 0, jcX4_isRefused)] [] 18 [] 87 [.ref 0, .int a1, w2] [] M = jfX11_lodger_87 a1 M := rfl
theorem jtX11_lodger_87 : ∀ (w2 : Value) (a1 : Int32) (M : sy_M) (r : xe_R × sy_M), jfX11_lodger_87 a1 M = some r → sy_E (8) qX11_lodger 87 [.ref 0, .int a1, w2] [] M r := by
  intro w2 a1 M r h
  exact sy_run_by (d := 7) ((jrX11_lodger_87 _ _ M).trans h) hkX11 (by decide +kernel) (sy_cs_cons (jeX8_tell.deep (by decide)) (sy_cs_cons (jeX4_isRefused.deep (by decide)) sy_cs_nil)) sy_us_nil
def jfX11_lodger_122 (a1 : Int32) (M : sy_M) : sy_O :=
  sy_bi (jfX2_get 9 a1 8 M) fun v2 M1 =>
  sy_bi (jfX2_sum 9 8 M1) fun v4 M3 =>
  sy_bi (jfX11_hundredths v2 v4 M3) fun v6 M5 =>
  sy_ri v6 M5
set_option maxRecDepth 100000 in
theorem jrX11_lodger_122 (w2 : Value) (a1 : Int32) (M : sy_M) : sy_run skX11 qX11_lodger [(122, .aload_n 0, 1, [true, true, false]), (123, .getfield 28, 3, []), (126, .iload_n 1, 1, []), (127, .bipush 8, 2, []), (129, .invokevirtual 152, 3, []), (132, .aload_n 0, 1, []), (133, .getfield 28, 3, []), (136, .bipush 8, 2, []), (138, .invokevirtual 171, 3, []), (141, .invokestatic 175, 3, []), (144, .ireturn, 1, [])] [(10, 0, jcX2_get), (12, 0, jcX2_sum), (131, 0, jcX11_hundredths)] [] 12 [] 122 [.ref 0, .int a1, w2] [] M = jfX11_lodger_122 a1 M := rfl
theorem jtX11_lodger_122 : ∀ (w2 : Value) (a1 : Int32) (M : sy_M) (r : xe_R × sy_M), jfX11_lodger_122 a1 M = some r → sy_E (8) qX11_lodger 122 [.ref 0, .int a1, w2] [] M r := by
  intro w2 a1 M r h
  exact sy_run_by (d := 7) ((jrX11_lodger_122 _ _ M).trans h) hkX11 (by decide +kernel) (sy_cs_cons (jeX2_get.deep (by decide)) (sy_cs_cons (jeX2_sum.deep (by decide)) (sy_cs_cons (jeX11_hundredths.deep (by decide)) sy_cs_nil))) sy_us_nil
def jfX11_lodger_145 (a1 : Int32) (M : sy_M) : sy_O :=
  sy_bi (jfX2_metered 9 a1 M) fun v2 M1 =>
  sy_ri v2 M1
set_option maxRecDepth 100000 in
theorem jrX11_lodger_145 (w2 : Value) (a1 : Int32) (M : sy_M) : sy_run skX11 qX11_lodger [(145, .aload_n 0, 1, [true, true, false]), (146, .getfield 28, 3, []), (149, .iload_n 1, 1, []), (150, .invokevirtual 178, 3, []), (153, .ireturn, 1, [])] [(15, 0, jcX2_metered)] [] 6 [] 145 [.ref 0, .int a1, w2] [] M = jfX11_lodger_145 a1 M := rfl
theorem jtX11_lodger_145 : ∀ (w2 : Value) (a1 : Int32) (M : sy_M) (r : xe_R × sy_M), jfX11_lodger_145 a1 M = some r → sy_E (8) qX11_lodger 145 [.ref 0, .int a1, w2] [] M r := by
  intro w2 a1 M r h
  exact sy_run_by (d := 7) ((jrX11_lodger_145 _ _ M).trans h) hkX11 (by decide +kernel) (sy_cs_cons (jeX2_metered.deep (by decide)) sy_cs_nil) sy_us_nil
def jfX11_lodger_154 (a1 : Int32) (M : sy_M) : sy_O :=
  sy_bv (jfX8_learn 9 M) fun M1 =>
  sy_bi (jfX11_bestWait a1 M1) fun v3 M2 =>
  sy_ri v3 M2
set_option maxRecDepth 100000 in
theorem jrX11_lodger_154 (w2 : Value) (a1 : Int32) (M : sy_M) : sy_run skX11 qX11_lodger [(154, .aload_n 0, 1, [true, true, false]), (155, .getfield 75, 3, []), (158, .aload_n 0, 1, []), (159, .getfield 28, 3, []), (162, .invokevirtual 181, 3, []), (165, .aload_n 0, 1, []), (166, .iload_n 1, 1, []), (167, .invokevirtual 184, 3, []), (170, .ireturn, 1, [])] [(63, 1, jcX8_learn), (126, 0, jcX11_bestWait)] [] 10 [] 154 [.ref 0, .int a1, w2] [] M = jfX11_lodger_154 a1 M := rfl
theorem jtX11_lodger_154 : ∀ (w2 : Value) (a1 : Int32) (M : sy_M) (r : xe_R × sy_M), jfX11_lodger_154 a1 M = some r → sy_E (8) qX11_lodger 154 [.ref 0, .int a1, w2] [] M r := by
  intro w2 a1 M r h
  exact sy_run_by (d := 7) ((jrX11_lodger_154 _ _ M).trans h) hkX11 (by decide +kernel) (sy_cs_cons (jeX8_learn.deep (by decide)) (sy_cs_cons (jeX11_bestWait.deep (by decide)) sy_cs_nil)) sy_us_nil
def jfX11_lodger_25 (a1 : Int32) (a2 : Int32) (M : sy_M) : sy_O :=
  if a2 = 9 then
    jfX11_lodger_60 a1 M
  else if a2 = 10 then
    jfX11_lodger_87 a1 M
  else if a2 = 11 then
    jfX11_lodger_122 a1 M
  else if a2 = 12 then
    jfX11_lodger_145 a1 M
  else if a2 = 13 then
    jfX11_lodger_154 a1 M
  else sy_bx (xe_in (M 133 0) 100000) <|
  sy_rt 23 (sy_upd M 133 0 (M 133 0 + 1))
set_option maxRecDepth 100000 in
theorem jrX11_lodger_25 (a1 : Int32) (a2 : Int32) (M : sy_M) : sy_run skX11 qX11_lodger [(25, .iload_n 2, 1, []), (26, .tableswitch 145 9 13 #[34, 61, 96, 119, 128], 34, []), (171, .new 187, 3, [false, false, false])] [] [(60, juX11_lodger_60 (jfX11_lodger_60)), (87, juX11_lodger_87 (jfX11_lodger_87)), (122, juX11_lodger_122 (jfX11_lodger_122)), (145, juX11_lodger_145 (jfX11_lodger_145)), (154, juX11_lodger_154 (jfX11_lodger_154))] 4 [] 25 [.ref 0, .int a1, .int a2] [] M = jfX11_lodger_25 a1 a2 M := rfl
theorem jtX11_lodger_25 : ∀ (a1 : Int32) (a2 : Int32) (M : sy_M) (r : xe_R × sy_M), jfX11_lodger_25 a1 a2 M = some r → sy_E (8) qX11_lodger 25 [.ref 0, .int a1, .int a2] [] M r := by
  intro a1 a2 M r h
  exact sy_run_by (d := 7) ((jrX11_lodger_25 _ _ M).trans h) hkX11 (by decide +kernel) sy_cs_nil (sy_us_cons (jwX11_lodger_60 (jtX11_lodger_60)) (sy_us_cons (jwX11_lodger_87 (jtX11_lodger_87)) (sy_us_cons (jwX11_lodger_122 (jtX11_lodger_122)) (sy_us_cons (jwX11_lodger_145 (jtX11_lodger_145)) (sy_us_cons (jwX11_lodger_154 (jtX11_lodger_154)) sy_us_nil)))))
def jfX11_lodger (a1 : Int32) (a2 : Int32) (M : sy_M) : sy_O :=
  sy_bv (jfX11_checkLodger a1 M) fun M1 =>
  if a2 < 0 then
    jfX11_lodger_25 a1 a2 M1
  else
    if a2 < 9 then
      sy_bi (jfX2_get 9 a1 a2 M1) fun v3 M2 =>
      sy_ri v3 M2
    else
      jfX11_lodger_25 a1 a2 M1
set_option maxRecDepth 100000 in
theorem jrX11_lodger (a1 : Int32) (a2 : Int32) (M : sy_M) : sy_run skX11 qX11_lodger [(0, .aload_n 0, 1, []), (1, .iload_n 1, 1, []), (2, .invokevirtual 149, 3, []), (5, .iload_n 2, 1, []), (6, .ifCond .lt 19, 3, []), (9, .iload_n 2, 1, []), (10, .bipush 9, 2, []), (12, .if_icmp .ge 13, 3, []), (15, .aload_n 0, 1, []), (16, .getfield 28, 3, []), (19, .iload_n 1, 1, []), (20, .iload_n 2, 1, []), (21, .invokevirtual 152, 3, []), (24, .ireturn, 1, [])] [(176, 1, jcX11_checkLodger), (10, 0, jcX2_get)] [(25, juX11_lodger_25 (jfX11_lodger_25))] 15 [] 0 [.ref 0, .int a1, .int a2] [] M = jfX11_lodger a1 a2 M := rfl
theorem jtX11_lodger : ∀ (a1 : Int32) (a2 : Int32) (M : sy_M) (r : xe_R × sy_M), jfX11_lodger a1 a2 M = some r → sy_E (8) qX11_lodger 0 [.ref 0, .int a1, .int a2] [] M r := by
  intro a1 a2 M r h
  exact sy_run_by (d := 7) ((jrX11_lodger _ _ M).trans h) hkX11 (by decide +kernel) (sy_cs_cons (jeX11_checkLodger.deep (by decide)) (sy_cs_cons (jeX2_get.deep (by decide)) sy_cs_nil)) (sy_us_cons (jwX11_lodger_25 (jtX11_lodger_25)) sy_us_nil)
def jcX11_lodger (as : List Value) (M : sy_M) (K : sy_O → sy_O) : sy_O := sy_xc 0 as fun l => sy_xi l fun a1 l => sy_xi l fun a2 l => sy_xn l (K (jfX11_lodger a1 a2 M))
theorem jeX11_lodger : sy_snd (8) 95 (jcX11_lodger) := by
  intro as M K r h
  obtain ⟨l, e, h1⟩ := sy_xc_ok h; subst e
  obtain ⟨a1, l, e, h2⟩ := sy_xi_ok h1; subst e
  obtain ⟨a2, l, e, h3⟩ := sy_xi_ok h2; subst e
  obtain ⟨e, h4⟩ := sy_xn_ok h3; subst e
  exact ⟨_, h4, fun r1 h0 => ⟨qX11_lodger, rfl, rfl, jtX11_lodger _ _ M r1 h0⟩⟩
/-! L_lodger StairMeterLaw lodger (LStairMeter;II[J)I [('R', 0), 'I', 'I', ('R', 132)] -/
def jfL_lodger (a1 : Int32) (a2 : Int32) (M : sy_M) : sy_O :=
  sy_hi (jfX11_lodger a1 a2 M) (fun v2 M1 =>
    let M5 := sy_wl M1 132 0 (Int32.toInt64 v2)
    sy_ri 0 M5)
  (fun c3 M4 => if c3 = 22 then sy_ri 1 M4 else if c3 = 23 then sy_ri 2 M4 else none)
set_option maxRecDepth 100000 in
theorem jrL_lodger (a1 : Int32) (a2 : Int32) (M : sy_M) : sy_run skL qL_lodger [(0, .aload_n 3, 1, []), (1, .iconst 0, 1, []), (2, .aload_n 0, 1, []), (3, .iload_n 1, 1, []), (4, .iload_n 2, 1, []), (5, .invokevirtual 20, 3, []), (8, .i2l, 1, []), (9, .lastore, 1, []), (10, .goto 11, 3, []), (13, .astore 4, 2, [false, false, false, false, false]), (15, .iconst 1, 1, []), (16, .ireturn, 1, []), (17, .astore 4, 2, [false, false, false, false, false]), (19, .iconst 2, 1, []), (20, .ireturn, 1, []), (21, .iconst 0, 1, [false, false, false, false, false]), (22, .ireturn, 1, [])] [(95, 3, jcX11_lodger)] [] 18 [] 0 [.ref 0, .int a1, .int a2, .ref 132, xe_no] [] M = jfL_lodger a1 a2 M := rfl
theorem jtL_lodger : ∀ (a1 : Int32) (a2 : Int32) (M : sy_M) (r : xe_R × sy_M), jfL_lodger a1 a2 M = some r → sy_E (9) qL_lodger 0 [.ref 0, .int a1, .int a2, .ref 132, xe_no] [] M r := by
  intro a1 a2 M r h
  exact sy_run_by (d := 8) ((jrL_lodger _ _ M).trans h) hkL (by decide +kernel) (sy_cs_cons (jeX11_lodger.deep (by decide)) sy_cs_nil) sy_us_nil
def jcL_lodger (as : List Value) (M : sy_M) (K : sy_O → sy_O) : sy_O := sy_xc 0 as fun l => sy_xi l fun a1 l => sy_xi l fun a2 l => sy_xc 132 l fun l => sy_xn l (K (jfL_lodger a1 a2 M))
theorem jeL_lodger : sy_snd (9) 323 (jcL_lodger) := by
  intro as M K r h
  obtain ⟨l, e, h1⟩ := sy_xc_ok h; subst e
  obtain ⟨a1, l, e, h2⟩ := sy_xi_ok h1; subst e
  obtain ⟨a2, l, e, h3⟩ := sy_xi_ok h2; subst e
  obtain ⟨l, e, h4⟩ := sy_xc_ok h3; subst e
  obtain ⟨e, h5⟩ := sy_xn_ok h4; subst e
  exact ⟨_, h5, fun r1 h0 => ⟨qL_lodger, rfl, rfl, jtL_lodger _ _ M r1 h0⟩⟩
/-! X12_isLodger StairMeterModel isLodger (I)Z [('R', 121), 'I'] -/
def jfX12_isLodger (a1 : Int32) (M : sy_M) : sy_O :=
  sy_bi (jfX12_isIn a1 0 ((M 122 3) - 1) M) fun v2 M1 =>
  sy_bb (sy_bo v2) <| sy_ri v2 M1
set_option maxRecDepth 100000 in
theorem jrX12_isLodger (a1 : Int32) (M : sy_M) : sy_run skX12 qX12_isLodger [(0, .iload_n 1, 1, []), (1, .iconst 0, 1, []), (2, .aload_n 0, 1, []), (3, .getfield 7, 3, []), (6, .iconst 3, 1, []), (7, .iaload, 1, []), (8, .iconst 1, 1, []), (9, .isub, 1, []), (10, .invokestatic 48, 3, []), (13, .ireturn, 1, [])] [(182, 0, jcX12_isIn)] [] 11 [] 0 [.ref 121, .int a1] [] M = jfX12_isLodger a1 M := rfl
theorem jtX12_isLodger : ∀ (a1 : Int32) (M : sy_M) (r : xe_R × sy_M), jfX12_isLodger a1 M = some r → sy_E (2) qX12_isLodger 0 [.ref 121, .int a1] [] M r := by
  intro a1 M r h
  exact sy_run_by (d := 1) ((jrX12_isLodger _ M).trans h) hkX12 (by decide +kernel) (sy_cs_cons (jeX12_isIn.deep (by decide)) sy_cs_nil) sy_us_nil
def jcX12_isLodger (as : List Value) (M : sy_M) (K : sy_O → sy_O) : sy_O := sy_xc 121 as fun l => sy_xi l fun a1 l => sy_xn l (K (jfX12_isLodger a1 M))
theorem jeX12_isLodger : sy_snd (2) 190 (jcX12_isLodger) := by
  intro as M K r h
  obtain ⟨l, e, h1⟩ := sy_xc_ok h; subst e
  obtain ⟨a1, l, e, h2⟩ := sy_xi_ok h1; subst e
  obtain ⟨e, h3⟩ := sy_xn_ok h2; subst e
  exact ⟨_, h3, fun r1 h0 => ⟨qX12_isLodger, rfl, rfl, jtX12_isLodger _ M r1 h0⟩⟩
/-! X12_of StairMeterModel of (II)I [('R', 121), 'I', 'I'] -/
def jfX12_of (a1 : Int32) (a2 : Int32) (M : sy_M) : sy_O :=
  sy_bx (xe_in ((14 + (9 * a1)) + a2) 826) <|
  sy_ri (M 122 (Int32.toNatClampNeg ((14 + (9 * a1)) + a2))) M
set_option maxRecDepth 100000 in
theorem jrX12_of (a1 : Int32) (a2 : Int32) (M : sy_M) : sy_run skX12 qX12_of [(0, .aload_n 0, 1, []), (1, .getfield 7, 3, []), (4, .bipush 14, 2, []), (6, .bipush 9, 2, []), (8, .iload_n 1, 1, []), (9, .imul, 1, []), (10, .iadd, 1, []), (11, .iload_n 2, 1, []), (12, .iadd, 1, []), (13, .iaload, 1, []), (14, .ireturn, 1, [])] [] [] 12 [] 0 [.ref 121, .int a1, .int a2] [] M = jfX12_of a1 a2 M := rfl
theorem jtX12_of : ∀ (a1 : Int32) (a2 : Int32) (M : sy_M) (r : xe_R × sy_M), jfX12_of a1 a2 M = some r → sy_E (1) qX12_of 0 [.ref 121, .int a1, .int a2] [] M r := by
  intro a1 a2 M r h
  exact sy_run_by (d := 0) ((jrX12_of _ _ M).trans h) hkX12 (by decide +kernel) sy_cs_nil sy_us_nil
def jcX12_of (as : List Value) (M : sy_M) (K : sy_O → sy_O) : sy_O := sy_xc 121 as fun l => sy_xi l fun a1 l => sy_xi l fun a2 l => sy_xn l (K (jfX12_of a1 a2 M))
theorem jeX12_of : sy_snd (1) 187 (jcX12_of) := by
  intro as M K r h
  obtain ⟨l, e, h1⟩ := sy_xc_ok h; subst e
  obtain ⟨a1, l, e, h2⟩ := sy_xi_ok h1; subst e
  obtain ⟨a2, l, e, h3⟩ := sy_xi_ok h2; subst e
  obtain ⟨e, h4⟩ := sy_xn_ok h3; subst e
  exact ⟨_, h4, fun r1 h0 => ⟨qX12_of, rfl, rfl, jtX12_of _ _ M r1 h0⟩⟩
/-! X12_asks StairMeterModel asks (I)V [('R', 121), 'I'] -/
def juX12_asks_146 (k : Int32 → sy_M → sy_O) (ls st : List Value) (M : sy_M) : sy_O := sy_xc 121 ls fun l => sy_xv l fun _ l => sy_xv l fun _ l => sy_xv l fun _ l => sy_xn l (sy_xi st fun s0 l => sy_xc 121 l fun l => sy_xn l (k s0 M))
theorem jwX12_asks_146 {d : Nat} {k : Int32 → sy_M → sy_O} (hk : ∀ (w1 : Value) (w2 : Value) (w3 : Value) (s0 : Int32) (M : sy_M) (r : xe_R × sy_M), k s0 M = some r → sy_E (d) qX12_asks 146 [.ref 121, w1, w2, w3] [.int s0, .ref 121] M r) : ∀ ls st M r, juX12_asks_146 k ls st M = some r → sy_E d qX12_asks 146 ls st M r := by
  intro ls st M r h
  obtain ⟨l, e, h1⟩ := sy_xc_ok h; subst e
  obtain ⟨w1, l, e, h2⟩ := sy_xv_ok h1; subst e
  obtain ⟨w2, l, e, h3⟩ := sy_xv_ok h2; subst e
  obtain ⟨w3, l, e, h4⟩ := sy_xv_ok h3; subst e
  obtain ⟨e, h5⟩ := sy_xn_ok h4; subst e
  obtain ⟨s0, l, e, h6⟩ := sy_xi_ok h5; subst e
  obtain ⟨l, e, h7⟩ := sy_xc_ok h6; subst e
  obtain ⟨e, h8⟩ := sy_xn_ok h7; subst e
  exact hk _ _ _ s0 M r h8
def juX12_asks_121 (k : Int32 → Int32 → sy_M → sy_O) (ls st : List Value) (M : sy_M) : sy_O := sy_xc 121 ls fun l => sy_xi l fun a1 l => sy_xv l fun _ l => sy_xv l fun _ l => sy_xn l (sy_xi st fun s0 l => sy_xc 121 l fun l => sy_xn l (k a1 s0 M))
theorem jwX12_asks_121 {d : Nat} {k : Int32 → Int32 → sy_M → sy_O} (hk : ∀ (w2 : Value) (w3 : Value) (a1 : Int32) (s0 : Int32) (M : sy_M) (r : xe_R × sy_M), k a1 s0 M = some r → sy_E (d) qX12_asks 121 [.ref 121, .int a1, w2, w3] [.int s0, .ref 121] M r) : ∀ ls st M r, juX12_asks_121 k ls st M = some r → sy_E d qX12_asks 121 ls st M r := by
  intro ls st M r h
  obtain ⟨l, e, h1⟩ := sy_xc_ok h; subst e
  obtain ⟨a1, l, e, h2⟩ := sy_xi_ok h1; subst e
  obtain ⟨w2, l, e, h3⟩ := sy_xv_ok h2; subst e
  obtain ⟨w3, l, e, h4⟩ := sy_xv_ok h3; subst e
  obtain ⟨e, h5⟩ := sy_xn_ok h4; subst e
  obtain ⟨s0, l, e, h6⟩ := sy_xi_ok h5; subst e
  obtain ⟨l, e, h7⟩ := sy_xc_ok h6; subst e
  obtain ⟨e, h8⟩ := sy_xn_ok h7; subst e
  exact hk _ _ a1 s0 M r h8
def juX12_asks_65 (k : Int32 → sy_M → sy_O) (ls st : List Value) (M : sy_M) : sy_O := sy_xc 121 ls fun l => sy_xi l fun a1 l => sy_xo l fun l => sy_xo l fun l => sy_xn l (sy_xn st (k a1 M))
theorem jwX12_asks_65 {d : Nat} {k : Int32 → sy_M → sy_O} (hk : ∀ (a1 : Int32) (M : sy_M) (r : xe_R × sy_M), k a1 M = some r → sy_E (d) qX12_asks 65 [.ref 121, .int a1, xe_no, xe_no] [] M r) : ∀ ls st M r, juX12_asks_65 k ls st M = some r → sy_E d qX12_asks 65 ls st M r := by
  intro ls st M r h
  obtain ⟨l, e, h1⟩ := sy_xc_ok h; subst e
  obtain ⟨a1, l, e, h2⟩ := sy_xi_ok h1; subst e
  obtain ⟨l, e, h3⟩ := sy_xo_ok h2; subst e
  obtain ⟨l, e, h4⟩ := sy_xo_ok h3; subst e
  obtain ⟨e, h5⟩ := sy_xn_ok h4; subst e
  obtain ⟨e, h6⟩ := sy_xn_ok h5; subst e
  exact hk a1 M r h6
def jfX12_asks_146 (s0 : Int32) (M : sy_M) : sy_O :=
  sy_bb (sy_bo s0) <|
  let M1 := sy_upd M 121 16 s0
  let v2 := (M1 121 12)
  let M3 := sy_upd M1 121 12 (-1)
  let M4 := sy_upd M3 121 9 426
  let M5 := sy_upd M4 121 10 (M4 122 2)
  let M6 := sy_upd M5 121 11 0
  let M7 := sy_upd M6 121 13 0
  sy_bi (jfX12_read 1 M7) fun v9 M8 =>
  let M10 := sy_upd M8 121 12 v2
  sy_rv M10
set_option maxRecDepth 100000 in
theorem jrX12_asks_146 (w1 : Value) (w2 : Value) (w3 : Value) (s0 : Int32) (M : sy_M) : sy_run skX12 qX12_asks [(146, .putfield 205, 3, [true, false, false, false]), (149, .aload_n 0, 1, []), (150, .getfield 25, 3, []), (153, .istore_n 2, 1, []), (154, .aload_n 0, 1, []), (155, .iconst (-1), 1, []), (156, .putfield 25, 3, []), (159, .aload_n 0, 1, []), (160, .sipush 426, 3, []), (163, .putfield 73, 3, []), (166, .aload_n 0, 1, []), (167, .aload_n 0, 1, []), (168, .getfield 7, 3, []), (171, .iconst 2, 1, []), (172, .iaload, 1, []), (173, .putfield 79, 3, []), (176, .aload_n 0, 1, []), (177, .iconst 0, 1, []), (178, .putfield 76, 3, []), (181, .aload_n 0, 1, []), (182, .iconst 0, 1, []), (183, .putfield 159, 3, []), (186, .aload_n 0, 1, []), (187, .iconst 1, 1, []), (188, .invokevirtual 178, 3, []), (191, .istore_n 3, 1, []), (192, .aload_n 0, 1, []), (193, .iload_n 2, 1, []), (194, .putfield 25, 3, []), (197, .return_, 1, [])] [(214, 0, jcX12_read)] [] 31 [] 146 [.ref 121, w1, w2, w3] [.int s0, .ref 121] M = jfX12_asks_146 s0 M := rfl
theorem jtX12_asks_146 : ∀ (w1 : Value) (w2 : Value) (w3 : Value) (s0 : Int32) (M : sy_M) (r : xe_R × sy_M), jfX12_asks_146 s0 M = some r → sy_E (48) qX12_asks 146 [.ref 121, w1, w2, w3] [.int s0, .ref 121] M r := by
  intro w1 w2 w3 s0 M r h
  exact sy_run_by (d := 47) ((jrX12_asks_146 _ _ _ _ M).trans h) hkX12 (by decide +kernel) (sy_cs_cons (jeX12_read.deep (by decide)) sy_cs_nil) sy_us_nil
def jfX12_asks_121 (a1 : Int32) (s0 : Int32) (M : sy_M) : sy_O :=
  sy_bb (sy_bo s0) <|
  let M1 := sy_upd M 121 15 s0
  sy_bi (jfX12_of a1 6 M1) fun v3 M2 =>
  sy_bi (jfX12_of a1 3 M2) fun v5 M4 =>
  if v5 < v3 then
    jfX12_asks_146 1 M4
  else
    jfX12_asks_146 0 M4
set_option maxRecDepth 100000 in
theorem jrX12_asks_121 (w2 : Value) (w3 : Value) (a1 : Int32) (s0 : Int32) (M : sy_M) : sy_run skX12 qX12_asks [(121, .putfield 199, 3, [true, true, false, false]), (124, .aload_n 0, 1, []), (125, .aload_n 0, 1, []), (126, .iload_n 1, 1, []), (127, .bipush 6, 2, []), (129, .invokevirtual 52, 3, []), (132, .aload_n 0, 1, []), (133, .iload_n 1, 1, []), (134, .iconst 3, 1, []), (135, .invokevirtual 52, 3, []), (138, .if_icmp .le 7, 3, []), (141, .iconst 1, 1, []), (142, .goto 4, 3, []), (145, .iconst 0, 1, [true, false, false, false])] [(187, 0, jcX12_of)] [(146, juX12_asks_146 (jfX12_asks_146))] 15 [] 121 [.ref 121, .int a1, w2, w3] [.int s0, .ref 121] M = jfX12_asks_121 a1 s0 M := rfl
theorem jtX12_asks_121 : ∀ (w2 : Value) (w3 : Value) (a1 : Int32) (s0 : Int32) (M : sy_M) (r : xe_R × sy_M), jfX12_asks_121 a1 s0 M = some r → sy_E (48) qX12_asks 121 [.ref 121, .int a1, w2, w3] [.int s0, .ref 121] M r := by
  intro w2 w3 a1 s0 M r h
  exact sy_run_by (d := 47) ((jrX12_asks_121 _ _ _ _ M).trans h) hkX12 (by decide +kernel) (sy_cs_cons (jeX12_of.deep (by decide)) sy_cs_nil) (sy_us_cons (jwX12_asks_146 (jtX12_asks_146)) sy_us_nil)
def jfX12_asks_65 (a1 : Int32) (M : sy_M) : sy_O :=
  sy_bi (jfX12_of a1 6 M) fun v2 M1 =>
  let M3 := sy_upd M1 127 4 v2
  let M4 := sy_upd M3 127 5 (M3 122 8)
  let M5 := sy_upd M4 127 6 (M4 122 4)
  if (M5 122 11) = a1 then
    jfX12_asks_121 a1 1 M5
  else
    jfX12_asks_121 a1 0 M5
set_option maxRecDepth 100000 in
theorem jrX12_asks_65 (a1 : Int32) (M : sy_M) : sy_run skX12 qX12_asks [(65, .aload_n 0, 1, []), (66, .getfield 29, 3, []), (69, .iconst 4, 1, []), (70, .aload_n 0, 1, []), (71, .iload_n 1, 1, []), (72, .bipush 6, 2, []), (74, .invokevirtual 52, 3, []), (77, .iastore, 1, []), (78, .aload_n 0, 1, []), (79, .getfield 29, 3, []), (82, .iconst 5, 1, []), (83, .aload_n 0, 1, []), (84, .getfield 7, 3, []), (87, .bipush 8, 2, []), (89, .iaload, 1, []), (90, .iastore, 1, []), (91, .aload_n 0, 1, []), (92, .getfield 29, 3, []), (95, .bipush 6, 2, []), (97, .aload_n 0, 1, []), (98, .getfield 7, 3, []), (101, .iconst 4, 1, []), (102, .iaload, 1, []), (103, .iastore, 1, []), (104, .aload_n 0, 1, []), (105, .aload_n 0, 1, []), (106, .getfield 7, 3, []), (109, .bipush 11, 2, []), (111, .iaload, 1, []), (112, .iload_n 1, 1, []), (113, .if_icmp .ne 7, 3, []), (116, .iconst 1, 1, []), (117, .goto 4, 3, []), (120, .iconst 0, 1, [true, true, false, false])] [(187, 0, jcX12_of)] [(121, juX12_asks_121 (jfX12_asks_121))] 35 [] 65 [.ref 121, .int a1, xe_no, xe_no] [] M = jfX12_asks_65 a1 M := rfl
theorem jtX12_asks_65 : ∀ (a1 : Int32) (M : sy_M) (r : xe_R × sy_M), jfX12_asks_65 a1 M = some r → sy_E (48) qX12_asks 65 [.ref 121, .int a1, xe_no, xe_no] [] M r := by
  intro a1 M r h
  exact sy_run_by (d := 47) ((jrX12_asks_65 _ M).trans h) hkX12 (by decide +kernel) (sy_cs_cons (jeX12_of.deep (by decide)) sy_cs_nil) (sy_us_cons (jwX12_asks_121 (jtX12_asks_121)) sy_us_nil)
def jfX12_asks (a1 : Int32) (M : sy_M) : sy_O :=
  let M1 := sy_upd M 121 17 0
  let M2 := sy_upd M1 121 18 0
  if (M2 122 1) < 1 then
    sy_rv M2
  else
    let M3 := sy_upd M2 127 0 a1
    sy_bi (jfX12_of a1 0 M3) fun v5 M4 =>
    let M6 := sy_upd M4 127 1 v5
    sy_bi (jfX12_of a1 5 M6) fun v8 M7 =>
    let M9 := sy_upd M7 127 2 v8
    sy_bi (jfX12_of a1 8 M9) fun v11 M10 =>
    let M12 := sy_upd M10 127 3 v11
    jfX12_asks_65 a1 M12
set_option maxRecDepth 100000 in
theorem jrX12_asks (a1 : Int32) (M : sy_M) : sy_run skX12 qX12_asks [(0, .aload_n 0, 1, []), (1, .iconst 0, 1, []), (2, .putfield 241, 3, []), (5, .aload_n 0, 1, []), (6, .iconst 0, 1, []), (7, .putfield 238, 3, []), (10, .aload_n 0, 1, []), (11, .getfield 7, 3, []), (14, .iconst 1, 1, []), (15, .iaload, 1, []), (16, .iconst 1, 1, []), (17, .if_icmp .ge 4, 3, []), (20, .return_, 1, []), (21, .aload_n 0, 1, [true, true, false, false]), (22, .getfield 29, 3, []), (25, .iconst 0, 1, []), (26, .iload_n 1, 1, []), (27, .iastore, 1, []), (28, .aload_n 0, 1, []), (29, .getfield 29, 3, []), (32, .iconst 1, 1, []), (33, .aload_n 0, 1, []), (34, .iload_n 1, 1, []), (35, .iconst 0, 1, []), (36, .invokevirtual 52, 3, []), (39, .iastore, 1, []), (40, .aload_n 0, 1, []), (41, .getfield 29, 3, []), (44, .iconst 2, 1, []), (45, .aload_n 0, 1, []), (46, .iload_n 1, 1, []), (47, .iconst 5, 1, []), (48, .invokevirtual 52, 3, []), (51, .iastore, 1, []), (52, .aload_n 0, 1, []), (53, .getfield 29, 3, []), (56, .iconst 3, 1, []), (57, .aload_n 0, 1, []), (58, .iload_n 1, 1, []), (59, .bipush 8, 2, []), (61, .invokevirtual 52, 3, []), (64, .iastore, 1, [])] [(187, 0, jcX12_of)] [(65, juX12_asks_65 (jfX12_asks_65))] 43 [] 0 [.ref 121, .int a1, xe_no, xe_no] [] M = jfX12_asks a1 M := rfl
theorem jtX12_asks : ∀ (a1 : Int32) (M : sy_M) (r : xe_R × sy_M), jfX12_asks a1 M = some r → sy_E (48) qX12_asks 0 [.ref 121, .int a1, xe_no, xe_no] [] M r := by
  intro a1 M r h
  exact sy_run_by (d := 47) ((jrX12_asks _ M).trans h) hkX12 (by decide +kernel) (sy_cs_cons (jeX12_of.deep (by decide)) sy_cs_nil) (sy_us_cons (jwX12_asks_65 (jtX12_asks_65)) sy_us_nil)
def jcX12_asks (as : List Value) (M : sy_M) (K : sy_O → sy_O) : sy_O := sy_xc 121 as fun l => sy_xi l fun a1 l => sy_xn l (K (jfX12_asks a1 M))
theorem jeX12_asks : sy_snd (48) 227 (jcX12_asks) := by
  intro as M K r h
  obtain ⟨l, e, h1⟩ := sy_xc_ok h; subst e
  obtain ⟨a1, l, e, h2⟩ := sy_xi_ok h1; subst e
  obtain ⟨e, h3⟩ := sy_xn_ok h2; subst e
  exact ⟨_, h3, fun r1 h0 => ⟨qX12_asks, rfl, rfl, jtX12_asks _ M r1 h0⟩⟩
/-! X12_atHome StairMeterModel atHome (II)Z [('R', 121), 'I', 'I'] -/
def juX12_atHome_42 (k : sy_M → sy_O) (ls st : List Value) (M : sy_M) : sy_O := sy_xv ls fun _ l => sy_xv l fun _ l => sy_xv l fun _ l => sy_xv l fun _ l => sy_xv l fun _ l => sy_xn l (sy_xn st (k M))
theorem jwX12_atHome_42 {d : Nat} {k : sy_M → sy_O} (hk : ∀ (w0 : Value) (w1 : Value) (w2 : Value) (w3 : Value) (w4 : Value) (M : sy_M) (r : xe_R × sy_M), k M = some r → sy_E (d) qX12_atHome 42 [w0, w1, w2, w3, w4] [] M r) : ∀ ls st M r, juX12_atHome_42 k ls st M = some r → sy_E d qX12_atHome 42 ls st M r := by
  intro ls st M r h
  obtain ⟨w0, l, e, h1⟩ := sy_xv_ok h; subst e
  obtain ⟨w1, l, e, h2⟩ := sy_xv_ok h1; subst e
  obtain ⟨w2, l, e, h3⟩ := sy_xv_ok h2; subst e
  obtain ⟨w3, l, e, h4⟩ := sy_xv_ok h3; subst e
  obtain ⟨w4, l, e, h5⟩ := sy_xv_ok h4; subst e
  obtain ⟨e, h6⟩ := sy_xn_ok h5; subst e
  obtain ⟨e, h7⟩ := sy_xn_ok h6; subst e
  exact hk _ _ _ _ _ M r h7
def jfX12_atHome_42 (M : sy_M) : sy_O :=
  sy_ri 1 M
set_option maxRecDepth 100000 in
theorem jrX12_atHome_42 (w0 : Value) (w1 : Value) (w2 : Value) (w3 : Value) (w4 : Value) (M : sy_M) : sy_run skX12 qX12_atHome [(42, .iconst 1, 1, [false, false, false, false, false]), (43, .goto 4, 3, []), (47, .ireturn, 1, [false, false, false, false, false])] [] [] 4 [] 42 [w0, w1, w2, w3, w4] [] M = jfX12_atHome_42 M := rfl
theorem jtX12_atHome_42 : ∀ (w0 : Value) (w1 : Value) (w2 : Value) (w3 : Value) (w4 : Value) (M : sy_M) (r : xe_R × sy_M), jfX12_atHome_42 M = some r → sy_E (2) qX12_atHome 42 [w0, w1, w2, w3, w4] [] M r := by
  intro w0 w1 w2 w3 w4 M r h
  exact sy_run_by (d := 1) ((jrX12_atHome_42 _ _ _ _ _ M).trans h) hkX12 (by decide +kernel) sy_cs_nil sy_us_nil
def jfX12_atHome (a1 : Int32) (a2 : Int32) (M : sy_M) : sy_O :=
  sy_bi (jfX12_of a1 1 M) fun v2 M1 =>
  sy_bi (jfX12_of a1 2 M1) fun v4 M3 =>
  if v4 < v2 then
    if a2 < v2 then
      if v4 < a2 then
        sy_ri 0 M3
      else
        jfX12_atHome_42 M3
    else
      jfX12_atHome_42 M3
  else
    sy_bi (jfX12_isIn a2 v2 v4 M3) fun v6 M5 =>
    sy_bb (sy_bo v6) <| sy_ri v6 M5
set_option maxRecDepth 100000 in
theorem jrX12_atHome (a1 : Int32) (a2 : Int32) (M : sy_M) : sy_run skX12 qX12_atHome [(0, .aload_n 0, 1, []), (1, .iload_n 1, 1, []), (2, .iconst 1, 1, []), (3, .invokevirtual 52, 3, []), (6, .istore_n 3, 1, []), (7, .aload_n 0, 1, []), (8, .iload_n 1, 1, []), (9, .iconst 2, 1, []), (10, .invokevirtual 52, 3, []), (13, .istore 4, 2, []), (15, .iload_n 3, 1, []), (16, .iload 4, 2, []), (18, .if_icmp .gt 13, 3, []), (21, .iload_n 2, 1, []), (22, .iload_n 3, 1, []), (23, .iload 4, 2, []), (25, .invokestatic 48, 3, []), (28, .goto 19, 3, []), (31, .iload_n 2, 1, [false, false, true, true, true]), (32, .iload_n 3, 1, []), (33, .if_icmp .ge 9, 3, []), (36, .iload_n 2, 1, []), (37, .iload 4, 2, []), (39, .if_icmp .gt 7, 3, []), (46, .iconst 0, 1, [false, false, false, false, false]), (47, .ireturn, 1, [false, false, false, false, false])] [(187, 0, jcX12_of), (182, 0, jcX12_isIn)] [(42, juX12_atHome_42 (jfX12_atHome_42))] 27 [] 0 [.ref 121, .int a1, .int a2, xe_no, xe_no] [] M = jfX12_atHome a1 a2 M := rfl
theorem jtX12_atHome : ∀ (a1 : Int32) (a2 : Int32) (M : sy_M) (r : xe_R × sy_M), jfX12_atHome a1 a2 M = some r → sy_E (2) qX12_atHome 0 [.ref 121, .int a1, .int a2, xe_no, xe_no] [] M r := by
  intro a1 a2 M r h
  exact sy_run_by (d := 1) ((jrX12_atHome _ _ M).trans h) hkX12 (by decide +kernel) (sy_cs_cons (jeX12_of.deep (by decide)) (sy_cs_cons (jeX12_isIn.deep (by decide)) sy_cs_nil)) (sy_us_cons (jwX12_atHome_42 (jtX12_atHome_42)) sy_us_nil)
def jcX12_atHome (as : List Value) (M : sy_M) (K : sy_O → sy_O) : sy_O := sy_xc 121 as fun l => sy_xi l fun a1 l => sy_xi l fun a2 l => sy_xn l (K (jfX12_atHome a1 a2 M))
theorem jeX12_atHome : sy_snd (2) 192 (jcX12_atHome) := by
  intro as M K r h
  obtain ⟨l, e, h1⟩ := sy_xc_ok h; subst e
  obtain ⟨a1, l, e, h2⟩ := sy_xi_ok h1; subst e
  obtain ⟨a2, l, e, h3⟩ := sy_xi_ok h2; subst e
  obtain ⟨e, h4⟩ := sy_xn_ok h3; subst e
  exact ⟨_, h4, fun r1 h0 => ⟨qX12_atHome, rfl, rfl, jtX12_atHome _ _ M r1 h0⟩⟩
/-! X12_homeIn StairMeterModel homeIn (I)I [('R', 121), 'I'] -/
def juX12_homeIn_31 (k : Int32 → Int32 → Int32 → Int32 → sy_M → sy_O) (ls st : List Value) (M : sy_M) : sy_O := sy_xc 121 ls fun l => sy_xi l fun a1 l => sy_xv l fun _ l => sy_xi l fun a3 l => sy_xn l (sy_xi st fun s0 l => sy_xi l fun s1 l => sy_xn l (k a1 a3 s0 s1 M))
theorem jwX12_homeIn_31 {d : Nat} {k : Int32 → Int32 → Int32 → Int32 → sy_M → sy_O} (hk : ∀ (w2 : Value) (a1 : Int32) (a3 : Int32) (s0 : Int32) (s1 : Int32) (M : sy_M) (r : xe_R × sy_M), k a1 a3 s0 s1 M = some r → sy_E (d) qX12_homeIn 31 [.ref 121, .int a1, w2, .int a3] [.int s0, .int s1] M r) : ∀ ls st M r, juX12_homeIn_31 k ls st M = some r → sy_E d qX12_homeIn 31 ls st M r := by
  intro ls st M r h
  obtain ⟨l, e, h1⟩ := sy_xc_ok h; subst e
  obtain ⟨a1, l, e, h2⟩ := sy_xi_ok h1; subst e
  obtain ⟨w2, l, e, h3⟩ := sy_xv_ok h2; subst e
  obtain ⟨a3, l, e, h4⟩ := sy_xi_ok h3; subst e
  obtain ⟨e, h5⟩ := sy_xn_ok h4; subst e
  obtain ⟨s0, l, e, h6⟩ := sy_xi_ok h5; subst e
  obtain ⟨s1, l, e, h7⟩ := sy_xi_ok h6; subst e
  obtain ⟨e, h8⟩ := sy_xn_ok h7; subst e
  exact hk _ a1 a3 s0 s1 M r h8
def juX12_homeIn_4 (k : Int32 → Int32 → Int32 → sy_M → sy_O) (ls st : List Value) (M : sy_M) : sy_O := sy_xc 121 ls fun l => sy_xi l fun a1 l => sy_xi l fun a2 l => sy_xi l fun a3 l => sy_xn l (sy_xn st (k a1 a2 a3 M))
theorem jwX12_homeIn_4 {d : Nat} {k : Int32 → Int32 → Int32 → sy_M → sy_O} (hk : ∀ (a1 : Int32) (a2 : Int32) (a3 : Int32) (M : sy_M) (r : xe_R × sy_M), k a1 a2 a3 M = some r → sy_E (d) qX12_homeIn 4 [.ref 121, .int a1, .int a2, .int a3] [] M r) : ∀ ls st M r, juX12_homeIn_4 k ls st M = some r → sy_E d qX12_homeIn 4 ls st M r := by
  intro ls st M r h
  obtain ⟨l, e, h1⟩ := sy_xc_ok h; subst e
  obtain ⟨a1, l, e, h2⟩ := sy_xi_ok h1; subst e
  obtain ⟨a2, l, e, h3⟩ := sy_xi_ok h2; subst e
  obtain ⟨a3, l, e, h4⟩ := sy_xi_ok h3; subst e
  obtain ⟨e, h5⟩ := sy_xn_ok h4; subst e
  obtain ⟨e, h6⟩ := sy_xn_ok h5; subst e
  exact hk a1 a2 a3 M r h6
def jfX12_homeIn_31 (k4 : Int32 → Int32 → Int32 → sy_M → sy_O) (a1 : Int32) (a3 : Int32) (s0 : Int32) (s1 : Int32) (M : sy_M) : sy_O :=
  let v1 := (s1 ||| s0)
  let v2 := a3 + 1
  k4 a1 v1 v2 M
set_option maxRecDepth 100000 in
theorem jrX12_homeIn_31 (k4 : Int32 → Int32 → Int32 → sy_M → sy_O) (w2 : Value) (a1 : Int32) (a3 : Int32) (s0 : Int32) (s1 : Int32) (M : sy_M) : sy_run skX12 qX12_homeIn [(31, .ior, 1, [true, true, false, true]), (32, .istore_n 2, 1, []), (33, .iinc 3 1, 3, []), (36, .goto (-32), 3, [])] [] [(4, juX12_homeIn_4 k4)] 5 [] 31 [.ref 121, .int a1, w2, .int a3] [.int s0, .int s1] M = jfX12_homeIn_31 k4 a1 a3 s0 s1 M := rfl
theorem jtX12_homeIn_31 {k4 : Int32 → Int32 → Int32 → sy_M → sy_O} (hk4 : ∀ (a1 : Int32) (a2 : Int32) (a3 : Int32) (M : sy_M) (r : xe_R × sy_M), k4 a1 a2 a3 M = some r → sy_E (3) qX12_homeIn 4 [.ref 121, .int a1, .int a2, .int a3] [] M r) : ∀ (w2 : Value) (a1 : Int32) (a3 : Int32) (s0 : Int32) (s1 : Int32) (M : sy_M) (r : xe_R × sy_M), jfX12_homeIn_31 k4 a1 a3 s0 s1 M = some r → sy_E (3) qX12_homeIn 31 [.ref 121, .int a1, w2, .int a3] [.int s0, .int s1] M r := by
  intro w2 a1 a3 s0 s1 M r h
  exact sy_run_by (d := 2) ((jrX12_homeIn_31 _ _ _ _ _ _ M).trans h) hkX12 (by decide +kernel) sy_cs_nil (sy_us_cons (jwX12_homeIn_4 hk4) sy_us_nil)
def jgX12_homeIn_4 (k4 : Int32 → Int32 → Int32 → sy_M → sy_O) (a1 : Int32) (a2 : Int32) (a3 : Int32) (M : sy_M) : sy_O :=
  if a3 < (M 122 3) then
    sy_bi (jfX12_atHome a3 a1 M) fun v2 M1 =>
    if v2 = 0 then
      jfX12_homeIn_31 k4 a1 a3 0 a2 M1
    else
      jfX12_homeIn_31 k4 a1 a3 (1 <<< (a3 &&& 31)) a2 M1
  else
    sy_ri a2 M
def jfX12_homeIn_4 : Nat → Int32 → Int32 → Int32 → sy_M → sy_O
  | 0, _, _, _, _ => none
  | n + 1, a1, a2, a3, M => jgX12_homeIn_4 (jfX12_homeIn_4 n) a1 a2 a3 M
set_option maxRecDepth 100000 in
theorem jrX12_homeIn_4 (k4 : Int32 → Int32 → Int32 → sy_M → sy_O) (a1 : Int32) (a2 : Int32) (a3 : Int32) (M : sy_M) : sy_run skX12 qX12_homeIn [(4, .iload_n 3, 1, []), (5, .aload_n 0, 1, []), (6, .getfield 7, 3, []), (9, .iconst 3, 1, []), (10, .iaload, 1, []), (11, .if_icmp .ge 28, 3, []), (14, .iload_n 2, 1, []), (15, .aload_n 0, 1, []), (16, .iload_n 3, 1, []), (17, .iload_n 1, 1, []), (18, .invokevirtual 56, 3, []), (21, .ifCond .eq 9, 3, []), (24, .iconst 1, 1, []), (25, .iload_n 3, 1, []), (26, .ishl, 1, []), (27, .goto 4, 3, []), (30, .iconst 0, 1, [true, true, false, true]), (39, .iload_n 2, 1, [false, false, true, false]), (40, .ireturn, 1, [])] [(192, 0, jcX12_atHome)] [(31, juX12_homeIn_31 (jfX12_homeIn_31 k4))] 20 [] 4 [.ref 121, .int a1, .int a2, .int a3] [] M = jgX12_homeIn_4 k4 a1 a2 a3 M := rfl
theorem jtX12_homeIn_4 : ∀ n : Nat, ∀ (a1 : Int32) (a2 : Int32) (a3 : Int32) (M : sy_M) (r : xe_R × sy_M), jfX12_homeIn_4 n a1 a2 a3 M = some r → sy_E (3) qX12_homeIn 4 [.ref 121, .int a1, .int a2, .int a3] [] M r := by
  intro n
  induction n with
  | zero => intro a1 a2 a3 M r h; exact absurd (show (none : sy_O) = some r from h) (by simp)
  | succ n ih => intro a1 a2 a3 M r h; exact sy_run_by (d := 2) ((jrX12_homeIn_4 _ _ _ _ M).trans h) hkX12 (by decide +kernel) (sy_cs_cons (jeX12_atHome.deep (by decide)) sy_cs_nil) (sy_us_cons (jwX12_homeIn_31 (jtX12_homeIn_31 ih)) sy_us_nil)
def jfX12_homeIn (a1 : Int32) (M : sy_M) : sy_O :=
  jfX12_homeIn_4 sy_F a1 0 0 M
set_option maxRecDepth 100000 in
theorem jrX12_homeIn (a1 : Int32) (M : sy_M) : sy_run skX12 qX12_homeIn [(0, .iconst 0, 1, []), (1, .istore_n 2, 1, []), (2, .iconst 0, 1, []), (3, .istore_n 3, 1, [])] [] [(4, juX12_homeIn_4 (jfX12_homeIn_4 sy_F))] 5 [] 0 [.ref 121, .int a1, xe_no, xe_no] [] M = jfX12_homeIn a1 M := rfl
theorem jtX12_homeIn : ∀ (a1 : Int32) (M : sy_M) (r : xe_R × sy_M), jfX12_homeIn a1 M = some r → sy_E (3) qX12_homeIn 0 [.ref 121, .int a1, xe_no, xe_no] [] M r := by
  intro a1 M r h
  exact sy_run_by (d := 2) ((jrX12_homeIn _ M).trans h) hkX12 (by decide +kernel) sy_cs_nil (sy_us_cons (jwX12_homeIn_4 (jtX12_homeIn_4 sy_F)) sy_us_nil)
def jcX12_homeIn (as : List Value) (M : sy_M) (K : sy_O → sy_O) : sy_O := sy_xc 121 as fun l => sy_xi l fun a1 l => sy_xn l (K (jfX12_homeIn a1 M))
theorem jeX12_homeIn : sy_snd (3) 193 (jcX12_homeIn) := by
  intro as M K r h
  obtain ⟨l, e, h1⟩ := sy_xc_ok h; subst e
  obtain ⟨a1, l, e, h2⟩ := sy_xi_ok h1; subst e
  obtain ⟨e, h3⟩ := sy_xn_ok h2; subst e
  exact ⟨_, h3, fun r1 h0 => ⟨qX12_homeIn, rfl, rfl, jtX12_homeIn _ M r1 h0⟩⟩
/-! X12_isOf StairMeterModel isOf (II)Z ['I', 'I'] -/
def jfX12_isOf (a0 : Int32) (a1 : Int32) (M : sy_M) : sy_O :=
  if ((a0 >>> (a1 &&& 31)) &&& 1) = 1 then
    sy_ri 1 M
  else
    sy_ri 0 M
set_option maxRecDepth 100000 in
theorem jrX12_isOf (a0 : Int32) (a1 : Int32) (M : sy_M) : sy_run skX12 qX12_isOf [(0, .iload_n 0, 1, []), (1, .iload_n 1, 1, []), (2, .ishr, 1, []), (3, .iconst 1, 1, []), (4, .iand, 1, []), (5, .iconst 1, 1, []), (6, .if_icmp .ne 7, 3, []), (9, .iconst 1, 1, []), (10, .goto 4, 3, []), (13, .iconst 0, 1, [false, false]), (14, .ireturn, 1, [false, false])] [] [] 12 [] 0 [.int a0, .int a1] [] M = jfX12_isOf a0 a1 M := rfl
theorem jtX12_isOf : ∀ (a0 : Int32) (a1 : Int32) (M : sy_M) (r : xe_R × sy_M), jfX12_isOf a0 a1 M = some r → sy_E (1) qX12_isOf 0 [.int a0, .int a1] [] M r := by
  intro a0 a1 M r h
  exact sy_run_by (d := 0) ((jrX12_isOf _ _ M).trans h) hkX12 (by decide +kernel) sy_cs_nil sy_us_nil
def jcX12_isOf (as : List Value) (M : sy_M) (K : sy_O → sy_O) : sy_O := sy_xi as fun a0 l => sy_xi l fun a1 l => sy_xn l (K (jfX12_isOf a0 a1 M))
theorem jeX12_isOf : sy_snd (1) 185 (jcX12_isOf) := by
  intro as M K r h
  obtain ⟨a0, l, e, h1⟩ := sy_xi_ok h; subst e
  obtain ⟨a1, l, e, h2⟩ := sy_xi_ok h1; subst e
  obtain ⟨e, h3⟩ := sy_xn_ok h2; subst e
  exact ⟨_, h3, fun r1 h0 => ⟨qX12_isOf, rfl, rfl, jtX12_isOf _ _ M r1 h0⟩⟩
/-! X12_burnsOf StairMeterModel burnsOf (I)I [('R', 121), 'I'] -/
def juX12_burnsOf_33 (k : Int32 → Int32 → Int32 → Int32 → sy_M → sy_O) (ls st : List Value) (M : sy_M) : sy_O := sy_xc 121 ls fun l => sy_xi l fun a1 l => sy_xv l fun _ l => sy_xi l fun a3 l => sy_xn l (sy_xi st fun s0 l => sy_xi l fun s1 l => sy_xn l (k a1 a3 s0 s1 M))
theorem jwX12_burnsOf_33 {d : Nat} {k : Int32 → Int32 → Int32 → Int32 → sy_M → sy_O} (hk : ∀ (w2 : Value) (a1 : Int32) (a3 : Int32) (s0 : Int32) (s1 : Int32) (M : sy_M) (r : xe_R × sy_M), k a1 a3 s0 s1 M = some r → sy_E (d) qX12_burnsOf 33 [.ref 121, .int a1, w2, .int a3] [.int s0, .int s1] M r) : ∀ ls st M r, juX12_burnsOf_33 k ls st M = some r → sy_E d qX12_burnsOf 33 ls st M r := by
  intro ls st M r h
  obtain ⟨l, e, h1⟩ := sy_xc_ok h; subst e
  obtain ⟨a1, l, e, h2⟩ := sy_xi_ok h1; subst e
  obtain ⟨w2, l, e, h3⟩ := sy_xv_ok h2; subst e
  obtain ⟨a3, l, e, h4⟩ := sy_xi_ok h3; subst e
  obtain ⟨e, h5⟩ := sy_xn_ok h4; subst e
  obtain ⟨s0, l, e, h6⟩ := sy_xi_ok h5; subst e
  obtain ⟨s1, l, e, h7⟩ := sy_xi_ok h6; subst e
  obtain ⟨e, h8⟩ := sy_xn_ok h7; subst e
  exact hk _ a1 a3 s0 s1 M r h8
def juX12_burnsOf_4 (k : Int32 → Int32 → Int32 → sy_M → sy_O) (ls st : List Value) (M : sy_M) : sy_O := sy_xc 121 ls fun l => sy_xi l fun a1 l => sy_xi l fun a2 l => sy_xi l fun a3 l => sy_xn l (sy_xn st (k a1 a2 a3 M))
theorem jwX12_burnsOf_4 {d : Nat} {k : Int32 → Int32 → Int32 → sy_M → sy_O} (hk : ∀ (a1 : Int32) (a2 : Int32) (a3 : Int32) (M : sy_M) (r : xe_R × sy_M), k a1 a2 a3 M = some r → sy_E (d) qX12_burnsOf 4 [.ref 121, .int a1, .int a2, .int a3] [] M r) : ∀ ls st M r, juX12_burnsOf_4 k ls st M = some r → sy_E d qX12_burnsOf 4 ls st M r := by
  intro ls st M r h
  obtain ⟨l, e, h1⟩ := sy_xc_ok h; subst e
  obtain ⟨a1, l, e, h2⟩ := sy_xi_ok h1; subst e
  obtain ⟨a2, l, e, h3⟩ := sy_xi_ok h2; subst e
  obtain ⟨a3, l, e, h4⟩ := sy_xi_ok h3; subst e
  obtain ⟨e, h5⟩ := sy_xn_ok h4; subst e
  obtain ⟨e, h6⟩ := sy_xn_ok h5; subst e
  exact hk a1 a2 a3 M r h6
def jfX12_burnsOf_33 (k4 : Int32 → Int32 → Int32 → sy_M → sy_O) (a1 : Int32) (a3 : Int32) (s0 : Int32) (s1 : Int32) (M : sy_M) : sy_O :=
  let v1 := (s1 + s0)
  let v2 := a3 + 1
  k4 a1 v1 v2 M
set_option maxRecDepth 100000 in
theorem jrX12_burnsOf_33 (k4 : Int32 → Int32 → Int32 → sy_M → sy_O) (w2 : Value) (a1 : Int32) (a3 : Int32) (s0 : Int32) (s1 : Int32) (M : sy_M) : sy_run skX12 qX12_burnsOf [(33, .iadd, 1, [true, true, false, true]), (34, .istore_n 2, 1, []), (35, .iinc 3 1, 3, []), (38, .goto (-34), 3, [])] [] [(4, juX12_burnsOf_4 k4)] 5 [] 33 [.ref 121, .int a1, w2, .int a3] [.int s0, .int s1] M = jfX12_burnsOf_33 k4 a1 a3 s0 s1 M := rfl
theorem jtX12_burnsOf_33 {k4 : Int32 → Int32 → Int32 → sy_M → sy_O} (hk4 : ∀ (a1 : Int32) (a2 : Int32) (a3 : Int32) (M : sy_M) (r : xe_R × sy_M), k4 a1 a2 a3 M = some r → sy_E (2) qX12_burnsOf 4 [.ref 121, .int a1, .int a2, .int a3] [] M r) : ∀ (w2 : Value) (a1 : Int32) (a3 : Int32) (s0 : Int32) (s1 : Int32) (M : sy_M) (r : xe_R × sy_M), jfX12_burnsOf_33 k4 a1 a3 s0 s1 M = some r → sy_E (2) qX12_burnsOf 33 [.ref 121, .int a1, w2, .int a3] [.int s0, .int s1] M r := by
  intro w2 a1 a3 s0 s1 M r h
  exact sy_run_by (d := 1) ((jrX12_burnsOf_33 _ _ _ _ _ _ M).trans h) hkX12 (by decide +kernel) sy_cs_nil (sy_us_cons (jwX12_burnsOf_4 hk4) sy_us_nil)
def jgX12_burnsOf_4 (k4 : Int32 → Int32 → Int32 → sy_M → sy_O) (a1 : Int32) (a2 : Int32) (a3 : Int32) (M : sy_M) : sy_O :=
  if a3 < (M 122 3) then
    sy_bi (jfX12_isOf a1 a3 M) fun v2 M1 =>
    if v2 = 0 then
      jfX12_burnsOf_33 k4 a1 a3 0 a2 M1
    else
      sy_bi (jfX12_of a3 0 M1) fun v4 M3 =>
      jfX12_burnsOf_33 k4 a1 a3 v4 a2 M3
  else
    sy_ri a2 M
def jfX12_burnsOf_4 : Nat → Int32 → Int32 → Int32 → sy_M → sy_O
  | 0, _, _, _, _ => none
  | n + 1, a1, a2, a3, M => jgX12_burnsOf_4 (jfX12_burnsOf_4 n) a1 a2 a3 M
set_option maxRecDepth 100000 in
theorem jrX12_burnsOf_4 (k4 : Int32 → Int32 → Int32 → sy_M → sy_O) (a1 : Int32) (a2 : Int32) (a3 : Int32) (M : sy_M) : sy_run skX12 qX12_burnsOf [(4, .iload_n 3, 1, []), (5, .aload_n 0, 1, []), (6, .getfield 7, 3, []), (9, .iconst 3, 1, []), (10, .iaload, 1, []), (11, .if_icmp .ge 30, 3, []), (14, .iload_n 2, 1, []), (15, .iload_n 1, 1, []), (16, .iload_n 3, 1, []), (17, .invokestatic 60, 3, []), (20, .ifCond .eq 12, 3, []), (23, .aload_n 0, 1, []), (24, .iload_n 3, 1, []), (25, .iconst 0, 1, []), (26, .invokevirtual 52, 3, []), (29, .goto 4, 3, []), (32, .iconst 0, 1, [true, true, false, true]), (41, .iload_n 2, 1, [false, false, true, false]), (42, .ireturn, 1, [])] [(185, 0, jcX12_isOf), (187, 0, jcX12_of)] [(33, juX12_burnsOf_33 (jfX12_burnsOf_33 k4))] 20 [] 4 [.ref 121, .int a1, .int a2, .int a3] [] M = jgX12_burnsOf_4 k4 a1 a2 a3 M := rfl
theorem jtX12_burnsOf_4 : ∀ n : Nat, ∀ (a1 : Int32) (a2 : Int32) (a3 : Int32) (M : sy_M) (r : xe_R × sy_M), jfX12_burnsOf_4 n a1 a2 a3 M = some r → sy_E (2) qX12_burnsOf 4 [.ref 121, .int a1, .int a2, .int a3] [] M r := by
  intro n
  induction n with
  | zero => intro a1 a2 a3 M r h; exact absurd (show (none : sy_O) = some r from h) (by simp)
  | succ n ih => intro a1 a2 a3 M r h; exact sy_run_by (d := 1) ((jrX12_burnsOf_4 _ _ _ _ M).trans h) hkX12 (by decide +kernel) (sy_cs_cons (jeX12_isOf.deep (by decide)) (sy_cs_cons (jeX12_of.deep (by decide)) sy_cs_nil)) (sy_us_cons (jwX12_burnsOf_33 (jtX12_burnsOf_33 ih)) sy_us_nil)
def jfX12_burnsOf (a1 : Int32) (M : sy_M) : sy_O :=
  jfX12_burnsOf_4 sy_F a1 0 0 M
set_option maxRecDepth 100000 in
theorem jrX12_burnsOf (a1 : Int32) (M : sy_M) : sy_run skX12 qX12_burnsOf [(0, .iconst 0, 1, []), (1, .istore_n 2, 1, []), (2, .iconst 0, 1, []), (3, .istore_n 3, 1, [])] [] [(4, juX12_burnsOf_4 (jfX12_burnsOf_4 sy_F))] 5 [] 0 [.ref 121, .int a1, xe_no, xe_no] [] M = jfX12_burnsOf a1 M := rfl
theorem jtX12_burnsOf : ∀ (a1 : Int32) (M : sy_M) (r : xe_R × sy_M), jfX12_burnsOf a1 M = some r → sy_E (2) qX12_burnsOf 0 [.ref 121, .int a1, xe_no, xe_no] [] M r := by
  intro a1 M r h
  exact sy_run_by (d := 1) ((jrX12_burnsOf _ M).trans h) hkX12 (by decide +kernel) sy_cs_nil (sy_us_cons (jwX12_burnsOf_4 (jtX12_burnsOf_4 sy_F)) sy_us_nil)
def jcX12_burnsOf (as : List Value) (M : sy_M) (K : sy_O → sy_O) : sy_O := sy_xc 121 as fun l => sy_xi l fun a1 l => sy_xn l (K (jfX12_burnsOf a1 M))
theorem jeX12_burnsOf : sy_snd (2) 194 (jcX12_burnsOf) := by
  intro as M K r h
  obtain ⟨l, e, h1⟩ := sy_xc_ok h; subst e
  obtain ⟨a1, l, e, h2⟩ := sy_xi_ok h1; subst e
  obtain ⟨e, h3⟩ := sy_xn_ok h2; subst e
  exact ⟨_, h3, fun r1 h0 => ⟨qX12_burnsOf, rfl, rfl, jtX12_burnsOf _ M r1 h0⟩⟩
/-! X12_lesser StairMeterModel lesser (II)I ['I', 'I'] -/
def jfX12_lesser (a0 : Int32) (a1 : Int32) (M : sy_M) : sy_O :=
  if a0 < a1 then
    sy_ri a0 M
  else
    sy_ri a1 M
set_option maxRecDepth 100000 in
theorem jrX12_lesser (a0 : Int32) (a1 : Int32) (M : sy_M) : sy_run skX12 qX12_lesser [(0, .iload_n 0, 1, []), (1, .iload_n 1, 1, []), (2, .if_icmp .ge 7, 3, []), (5, .iload_n 0, 1, []), (6, .goto 4, 3, []), (9, .iload_n 1, 1, [false, true]), (10, .ireturn, 1, [false, false])] [] [] 8 [] 0 [.int a0, .int a1] [] M = jfX12_lesser a0 a1 M := rfl
theorem jtX12_lesser : ∀ (a0 : Int32) (a1 : Int32) (M : sy_M) (r : xe_R × sy_M), jfX12_lesser a0 a1 M = some r → sy_E (1) qX12_lesser 0 [.int a0, .int a1] [] M r := by
  intro a0 a1 M r h
  exact sy_run_by (d := 0) ((jrX12_lesser _ _ M).trans h) hkX12 (by decide +kernel) sy_cs_nil sy_us_nil
def jcX12_lesser (as : List Value) (M : sy_M) (K : sy_O → sy_O) : sy_O := sy_xi as fun a0 l => sy_xi l fun a1 l => sy_xn l (K (jfX12_lesser a0 a1 M))
theorem jeX12_lesser : sy_snd (1) 183 (jcX12_lesser) := by
  intro as M K r h
  obtain ⟨a0, l, e, h1⟩ := sy_xi_ok h; subst e
  obtain ⟨a1, l, e, h2⟩ := sy_xi_ok h1; subst e
  obtain ⟨e, h3⟩ := sy_xn_ok h2; subst e
  exact ⟨_, h3, fun r1 h0 => ⟨qX12_lesser, rfl, rfl, jtX12_lesser _ _ M r1 h0⟩⟩
/-! X12_logs StairMeterModel logs (II)V [('R', 121), 'I', 'I'] -/
def juX12_logs_94 (k : sy_M → sy_O) (ls st : List Value) (M : sy_M) : sy_O := sy_xc 121 ls fun l => sy_xi l fun w1 l => sy_xi l fun w2 l => sy_xo l fun l => sy_xn l (sy_xn st (k M))
theorem jwX12_logs_94 {d : Nat} {k : sy_M → sy_O} (hk : ∀ (w1 : Int32) (w2 : Int32) (M : sy_M) (r : xe_R × sy_M), k M = some r → sy_E (d) qX12_logs 94 [.ref 121, .int w1, .int w2, xe_no] [] M r) : ∀ ls st M r, juX12_logs_94 k ls st M = some r → sy_E d qX12_logs 94 ls st M r := by
  intro ls st M r h
  obtain ⟨l, e, h1⟩ := sy_xc_ok h; subst e
  obtain ⟨w1, l, e, h2⟩ := sy_xi_ok h1; subst e
  obtain ⟨w2, l, e, h3⟩ := sy_xi_ok h2; subst e
  obtain ⟨l, e, h4⟩ := sy_xo_ok h3; subst e
  obtain ⟨e, h5⟩ := sy_xn_ok h4; subst e
  obtain ⟨e, h6⟩ := sy_xn_ok h5; subst e
  exact hk _ _ M r h6
def juX12_logs_4 (k : Int32 → Int32 → Int32 → sy_M → sy_O) (ls st : List Value) (M : sy_M) : sy_O := sy_xc 121 ls fun l => sy_xi l fun a1 l => sy_xi l fun a2 l => sy_xi l fun a3 l => sy_xn l (sy_xn st (k a1 a2 a3 M))
theorem jwX12_logs_4 {d : Nat} {k : Int32 → Int32 → Int32 → sy_M → sy_O} (hk : ∀ (a1 : Int32) (a2 : Int32) (a3 : Int32) (M : sy_M) (r : xe_R × sy_M), k a1 a2 a3 M = some r → sy_E (d) qX12_logs 4 [.ref 121, .int a1, .int a2, .int a3] [] M r) : ∀ ls st M r, juX12_logs_4 k ls st M = some r → sy_E d qX12_logs 4 ls st M r := by
  intro ls st M r h
  obtain ⟨l, e, h1⟩ := sy_xc_ok h; subst e
  obtain ⟨a1, l, e, h2⟩ := sy_xi_ok h1; subst e
  obtain ⟨a2, l, e, h3⟩ := sy_xi_ok h2; subst e
  obtain ⟨a3, l, e, h4⟩ := sy_xi_ok h3; subst e
  obtain ⟨e, h5⟩ := sy_xn_ok h4; subst e
  obtain ⟨e, h6⟩ := sy_xn_ok h5; subst e
  exact hk a1 a2 a3 M r h6
def jfX12_logs_94 (M : sy_M) : sy_O :=
  sy_bi (jfX12_lesser 60 ((M 122 12) + 1) M) fun v2 M1 =>
  let M3 := sy_upd M1 122 12 v2
  sy_rv M3
set_option maxRecDepth 100000 in
theorem jrX12_logs_94 (w1 : Int32) (w2 : Int32) (M : sy_M) : sy_run skX12 qX12_logs [(94, .aload_n 0, 1, []), (95, .getfield 7, 3, []), (98, .bipush 12, 2, []), (100, .bipush 60, 2, []), (102, .aload_n 0, 1, []), (103, .getfield 7, 3, []), (106, .bipush 12, 2, []), (108, .iaload, 1, []), (109, .iconst 1, 1, []), (110, .iadd, 1, []), (111, .invokestatic 244, 3, []), (114, .iastore, 1, []), (115, .return_, 1, [])] [(183, 0, jcX12_lesser)] [] 14 [] 94 [.ref 121, .int w1, .int w2, xe_no] [] M = jfX12_logs_94 M := rfl
theorem jtX12_logs_94 : ∀ (w1 : Int32) (w2 : Int32) (M : sy_M) (r : xe_R × sy_M), jfX12_logs_94 M = some r → sy_E (2) qX12_logs 94 [.ref 121, .int w1, .int w2, xe_no] [] M r := by
  intro w1 w2 M r h
  exact sy_run_by (d := 1) ((jrX12_logs_94 _ _ M).trans h) hkX12 (by decide +kernel) (sy_cs_cons (jeX12_lesser.deep (by decide)) sy_cs_nil) sy_us_nil
def jgX12_logs_4 (k4 : Int32 → Int32 → Int32 → sy_M → sy_O) (a1 : Int32) (a2 : Int32) (a3 : Int32) (M : sy_M) : sy_O :=
  if a3 < 5 then
    let M1 := sy_upd M 122 126 (M 122 5)
    let M2 := sy_upd M1 122 127 (M1 122 4)
    let M3 := sy_upd M2 122 128 a1
    let M4 := sy_upd M3 122 129 a2
    let M5 := sy_upd M4 122 130 (M4 122 6)
    jfX12_logs_94 M5
  else
    sy_bx (xe_in ((126 + a3) - 5) 826) <|
    sy_bx (xe_in (126 + a3) 826) <|
    let M6 := sy_upd M 122 (Int32.toNatClampNeg (126 + a3)) (M 122 (Int32.toNatClampNeg ((126 + a3) - 5)))
    let v7 := a3 + (-1)
    k4 a1 a2 v7 M6
def jfX12_logs_4 : Nat → Int32 → Int32 → Int32 → sy_M → sy_O
  | 0, _, _, _, _ => none
  | n + 1, a1, a2, a3, M => jgX12_logs_4 (jfX12_logs_4 n) a1 a2 a3 M
set_option maxRecDepth 100000 in
theorem jrX12_logs_4 (k4 : Int32 → Int32 → Int32 → sy_M → sy_O) (a1 : Int32) (a2 : Int32) (a3 : Int32) (M : sy_M) : sy_run skX12 qX12_logs [(4, .iload_n 3, 1, []), (5, .iconst 5, 1, []), (6, .if_icmp .lt 29, 3, []), (9, .aload_n 0, 1, []), (10, .getfield 7, 3, []), (13, .bipush 126, 2, []), (15, .iload_n 3, 1, []), (16, .iadd, 1, []), (17, .aload_n 0, 1, []), (18, .getfield 7, 3, []), (21, .bipush 126, 2, []), (23, .iload_n 3, 1, []), (24, .iadd, 1, []), (25, .iconst 5, 1, []), (26, .isub, 1, []), (27, .iaload, 1, []), (28, .iastore, 1, []), (29, .iinc 3 (-1), 3, []), (32, .goto (-28), 3, []), (35, .aload_n 0, 1, [true, true, true, false]), (36, .getfield 7, 3, []), (39, .bipush 126, 2, []), (41, .aload_n 0, 1, []), (42, .getfield 7, 3, []), (45, .iconst 5, 1, []), (46, .iaload, 1, []), (47, .iastore, 1, []), (48, .aload_n 0, 1, []), (49, .getfield 7, 3, []), (52, .bipush 127, 2, []), (54, .aload_n 0, 1, []), (55, .getfield 7, 3, []), (58, .iconst 4, 1, []), (59, .iaload, 1, []), (60, .iastore, 1, []), (61, .aload_n 0, 1, []), (62, .getfield 7, 3, []), (65, .sipush 128, 3, []), (68, .iload_n 1, 1, []), (69, .iastore, 1, []), (70, .aload_n 0, 1, []), (71, .getfield 7, 3, []), (74, .sipush 129, 3, []), (77, .iload_n 2, 1, []), (78, .iastore, 1, []), (79, .aload_n 0, 1, []), (80, .getfield 7, 3, []), (83, .sipush 130, 3, []), (86, .aload_n 0, 1, []), (87, .getfield 7, 3, []), (90, .bipush 6, 2, []), (92, .iaload, 1, []), (93, .iastore, 1, [])] [] [(94, juX12_logs_94 (jfX12_logs_94)), (4, juX12_logs_4 k4)] 54 [] 4 [.ref 121, .int a1, .int a2, .int a3] [] M = jgX12_logs_4 k4 a1 a2 a3 M := rfl
theorem jtX12_logs_4 : ∀ n : Nat, ∀ (a1 : Int32) (a2 : Int32) (a3 : Int32) (M : sy_M) (r : xe_R × sy_M), jfX12_logs_4 n a1 a2 a3 M = some r → sy_E (2) qX12_logs 4 [.ref 121, .int a1, .int a2, .int a3] [] M r := by
  intro n
  induction n with
  | zero => intro a1 a2 a3 M r h; exact absurd (show (none : sy_O) = some r from h) (by simp)
  | succ n ih => intro a1 a2 a3 M r h; exact sy_run_by (d := 1) ((jrX12_logs_4 _ _ _ _ M).trans h) hkX12 (by decide +kernel) sy_cs_nil (sy_us_cons (jwX12_logs_94 (jtX12_logs_94)) (sy_us_cons (jwX12_logs_4 ih) sy_us_nil))
def jfX12_logs (a1 : Int32) (a2 : Int32) (M : sy_M) : sy_O :=
  jfX12_logs_4 sy_F a1 a2 299 M
set_option maxRecDepth 100000 in
theorem jrX12_logs (a1 : Int32) (a2 : Int32) (M : sy_M) : sy_run skX12 qX12_logs [(0, .sipush 299, 3, []), (3, .istore_n 3, 1, [])] [] [(4, juX12_logs_4 (jfX12_logs_4 sy_F))] 3 [] 0 [.ref 121, .int a1, .int a2, xe_no] [] M = jfX12_logs a1 a2 M := rfl
theorem jtX12_logs : ∀ (a1 : Int32) (a2 : Int32) (M : sy_M) (r : xe_R × sy_M), jfX12_logs a1 a2 M = some r → sy_E (2) qX12_logs 0 [.ref 121, .int a1, .int a2, xe_no] [] M r := by
  intro a1 a2 M r h
  exact sy_run_by (d := 1) ((jrX12_logs _ _ M).trans h) hkX12 (by decide +kernel) sy_cs_nil (sy_us_cons (jwX12_logs_4 (jtX12_logs_4 sy_F)) sy_us_nil)
def jcX12_logs (as : List Value) (M : sy_M) (K : sy_O → sy_O) : sy_O := sy_xc 121 as fun l => sy_xi l fun a1 l => sy_xi l fun a2 l => sy_xn l (K (jfX12_logs a1 a2 M))
theorem jeX12_logs : sy_snd (2) 229 (jcX12_logs) := by
  intro as M K r h
  obtain ⟨l, e, h1⟩ := sy_xc_ok h; subst e
  obtain ⟨a1, l, e, h2⟩ := sy_xi_ok h1; subst e
  obtain ⟨a2, l, e, h3⟩ := sy_xi_ok h2; subst e
  obtain ⟨e, h4⟩ := sy_xn_ok h3; subst e
  exact ⟨_, h4, fun r1 h0 => ⟨qX12_logs, rfl, rfl, jtX12_logs _ _ M r1 h0⟩⟩
end
