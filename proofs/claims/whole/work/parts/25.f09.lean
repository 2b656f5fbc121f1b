/-! ===== functions of the methods (9); written by wip/whole/run_f.py ===== -/
noncomputable section
/-! X11_saint StairMeter saint (IZ)I [('R', 0), 'I', 'I'] -/
def juX11_saint_139 (k : Int32 → Int32 → Int32 → Int32 → sy_M → sy_O) (ls st : List Value) (M : sy_M) : sy_O := sy_xc 0 ls fun l => sy_xi l fun a1 l => sy_xi l fun a2 l => sy_xi l fun a3 l => sy_xi l fun a4 l => sy_xv l fun _ l => sy_xn l (sy_xn st (k a1 a2 a3 a4 M))
theorem jwX11_saint_139 {d : Nat} {k : Int32 → Int32 → Int32 → Int32 → sy_M → sy_O} (hk : ∀ (w5 : Value) (a1 : Int32) (a2 : Int32) (a3 : Int32) (a4 : Int32) (M : sy_M) (r : xe_R × sy_M), k a1 a2 a3 a4 M = some r → sy_E (d) qX11_saint 139 [.ref 0, .int a1, .int a2, .int a3, .int a4, w5] [] M r) : ∀ ls st M r, juX11_saint_139 k ls st M = some r → sy_E d qX11_saint 139 ls st M r := by
  intro ls st M r h
  obtain ⟨l, e, h1⟩ := sy_xc_ok h; subst e
  obtain ⟨a1, l, e, h2⟩ := sy_xi_ok h1; subst e
  obtain ⟨a2, l, e, h3⟩ := sy_xi_ok h2; subst e
  obtain ⟨a3, l, e, h4⟩ := sy_xi_ok h3; subst e
  obtain ⟨a4, l, e, h5⟩ := sy_xi_ok h4; subst e
  obtain ⟨w5, l, e, h6⟩ := sy_xv_ok h5; subst e
  obtain ⟨e, h7⟩ := sy_xn_ok h6; subst e
  obtain ⟨e, h8⟩ := sy_xn_ok h7; subst e
  exact hk _ a1 a2 a3 a4 M r h8
def juX11_saint_132 (k : Int32 → Int32 → Int32 → Int32 → sy_M → sy_O) (ls st : List Value) (M : sy_M) : sy_O := sy_xc 0 ls fun l => sy_xi l fun a1 l => sy_xi l fun a2 l => sy_xi l fun a3 l => sy_xi l fun a4 l => sy_xv l fun _ l => sy_xn l (sy_xn st (k a1 a2 a3 a4 M))
theorem jwX11_saint_132 {d : Nat} {k : Int32 → Int32 → Int32 → Int32 → sy_M → sy_O} (hk : ∀ (w5 : Value) (a1 : Int32) (a2 : Int32) (a3 : Int32) (a4 : Int32) (M : sy_M) (r : xe_R × sy_M), k a1 a2 a3 a4 M = some r → sy_E (d) qX11_saint 132 [.ref 0, .int a1, .int a2, .int a3, .int a4, w5] [] M r) : ∀ ls st M r, juX11_saint_132 k ls st M = some r → sy_E d qX11_saint 132 ls st M r := by
  intro ls st M r h
  obtain ⟨l, e, h1⟩ := sy_xc_ok h; subst e
  obtain ⟨a1, l, e, h2⟩ := sy_xi_ok h1; subst e
  obtain ⟨a2, l, e, h3⟩ := sy_xi_ok h2; subst e
  obtain ⟨a3, l, e, h4⟩ := sy_xi_ok h3; subst e
  obtain ⟨a4, l, e, h5⟩ := sy_xi_ok h4; subst e
  obtain ⟨w5, l, e, h6⟩ := sy_xv_ok h5; subst e
  obtain ⟨e, h7⟩ := sy_xn_ok h6; subst e
  obtain ⟨e, h8⟩ := sy_xn_ok h7; subst e
  exact hk _ a1 a2 a3 a4 M r h8
def juX11_saint_68 (k : Int32 → Int32 → Int32 → Int32 → sy_M → sy_O) (ls st : List Value) (M : sy_M) : sy_O := sy_xc 0 ls fun l => sy_xi l fun a1 l => sy_xi l fun a2 l => sy_xi l fun a3 l => sy_xi l fun a4 l => sy_xv l fun _ l => sy_xn l (sy_xn st (k a1 a2 a3 a4 M))
theorem jwX11_saint_68 {d : Nat} {k : Int32 → Int32 → Int32 → Int32 → sy_M → sy_O} (hk : ∀ (w5 : Value) (a1 : Int32) (a2 : Int32) (a3 : Int32) (a4 : Int32) (M : sy_M) (r : xe_R × sy_M), k a1 a2 a3 a4 M = some r → sy_E (d) qX11_saint 68 [.ref 0, .int a1, .int a2, .int a3, .int a4, w5] [] M r) : ∀ ls st M r, juX11_saint_68 k ls st M = some r → sy_E d qX11_saint 68 ls st M r := by
  intro ls st M r h
  obtain ⟨l, e, h1⟩ := sy_xc_ok h; subst e
  obtain ⟨a1, l, e, h2⟩ := sy_xi_ok h1; subst e
  obtain ⟨a2, l, e, h3⟩ := sy_xi_ok h2; subst e
  obtain ⟨a3, l, e, h4⟩ := sy_xi_ok h3; subst e
  obtain ⟨a4, l, e, h5⟩ := sy_xi_ok h4; subst e
  obtain ⟨w5, l, e, h6⟩ := sy_xv_ok h5; subst e
  obtain ⟨e, h7⟩ := sy_xn_ok h6; subst e
  obtain ⟨e, h8⟩ := sy_xn_ok h7; subst e
  exact hk _ a1 a2 a3 a4 M r h8
def juX11_saint_33 (k : Int32 → Int32 → Int32 → sy_M → sy_O) (ls st : List Value) (M : sy_M) : sy_O := sy_xc 0 ls fun l => sy_xi l fun a1 l => sy_xi l fun a2 l => sy_xi l fun a3 l => sy_xv l fun _ l => sy_xv l fun _ l => sy_xn l (sy_xn st (k a1 a2 a3 M))
theorem jwX11_saint_33 {d : Nat} {k : Int32 → Int32 → Int32 → sy_M → sy_O} (hk : ∀ (w4 : Value) (w5 : Value) (a1 : Int32) (a2 : Int32) (a3 : Int32) (M : sy_M) (r : xe_R × sy_M), k a1 a2 a3 M = some r → sy_E (d) qX11_saint 33 [.ref 0, .int a1, .int a2, .int a3, w4, w5] [] M r) : ∀ ls st M r, juX11_saint_33 k ls st M = some r → sy_E d qX11_saint 33 ls st M r := by
  intro ls st M r h
  obtain ⟨l, e, h1⟩ := sy_xc_ok h; subst e
  obtain ⟨a1, l, e, h2⟩ := sy_xi_ok h1; subst e
  obtain ⟨a2, l, e, h3⟩ := sy_xi_ok h2; subst e
  obtain ⟨a3, l, e, h4⟩ := sy_xi_ok h3; subst e
  obtain ⟨w4, l, e, h5⟩ := sy_xv_ok h4; subst e
  obtain ⟨w5, l, e, h6⟩ := sy_xv_ok h5; subst e
  obtain ⟨e, h7⟩ := sy_xn_ok h6; subst e
  obtain ⟨e, h8⟩ := sy_xn_ok h7; subst e
  exact hk _ _ a1 a2 a3 M r h8
def jfX11_saint_139 (k68 : Int32 → Int32 → Int32 → Int32 → sy_M → sy_O) (a1 : Int32) (a2 : Int32) (a3 : Int32) (a4 : Int32) (M : sy_M) : sy_O :=
  let v1 := a4 + 1
  k68 a1 a2 a3 v1 M
set_option maxRecDepth 100000 in
theorem jrX11_saint_139 (k68 : Int32 → Int32 → Int32 → Int32 → sy_M → sy_O) (w5 : Value) (a1 : Int32) (a2 : Int32) (a3 : Int32) (a4 : Int32) (M : sy_M) : sy_run skX11 qX11_saint [(139, .iinc 4 1, 3, [true, true, true, true, true, false]), (142, .goto (-74), 3, [])] [] [(68, juX11_saint_68 k68)] 3 [] 139 [.ref 0, .int a1, .int a2, .int a3, .int a4, w5] [] M = jfX11_saint_139 k68 a1 a2 a3 a4 M := rfl
theorem jtX11_saint_139 {k68 : Int32 → Int32 → Int32 → Int32 → sy_M → sy_O} (hk68 : ∀ (w5 : Value) (a1 : Int32) (a2 : Int32) (a3 : Int32) (a4 : Int32) (M : sy_M) (r : xe_R × sy_M), k68 a1 a2 a3 a4 M = some r → sy_E (7) qX11_saint 68 [.ref 0, .int a1, .int a2, .int a3, .int a4, w5] [] M r) : ∀ (w5 : Value) (a1 : Int32) (a2 : Int32) (a3 : Int32) (a4 : Int32) (M : sy_M) (r : xe_R × sy_M), jfX11_saint_139 k68 a1 a2 a3 a4 M = some r → sy_E (7) qX11_saint 139 [.ref 0, .int a1, .int a2, .int a3, .int a4, w5] [] M r := by
  intro w5 a1 a2 a3 a4 M r h
  exact sy_run_by (d := 6) ((jrX11_saint_139 _ _ _ _ _ _ M).trans h) hkX11 (by decide +kernel) sy_cs_nil (sy_us_cons (jwX11_saint_68 hk68) sy_us_nil)
def jfX11_saint_132 (k68 : Int32 → Int32 → Int32 → Int32 → sy_M → sy_O) (a1 : Int32) (a2 : Int32) (a3 : Int32) (a4 : Int32) (M : sy_M) : sy_O :=
  let v1 := (a3 ||| (1 <<< (a4 &&& 31)))
  jfX11_saint_139 k68 a1 a2 v1 a4 M
set_option maxRecDepth 100000 in
theorem jrX11_saint_132 (k68 : Int32 → Int32 → Int32 → Int32 → sy_M → sy_O) (w5 : Value) (a1 : Int32) (a2 : Int32) (a3 : Int32) (a4 : Int32) (M : sy_M) : sy_run skX11 qX11_saint [(132, .iload_n 3, 1, [true, true, true, true, true, false]), (133, .iconst 1, 1, []), (134, .iload 4, 2, []), (136, .ishl, 1, []), (137, .ior, 1, []), (138, .istore_n 3, 1, [])] [] [(139, juX11_saint_139 (jfX11_saint_139 k68))] 7 [] 132 [.ref 0, .int a1, .int a2, .int a3, .int a4, w5] [] M = jfX11_saint_132 k68 a1 a2 a3 a4 M := rfl
theorem jtX11_saint_132 {k68 : Int32 → Int32 → Int32 → Int32 → sy_M → sy_O} (hk68 : ∀ (w5 : Value) (a1 : Int32) (a2 : Int32) (a3 : Int32) (a4 : Int32) (M : sy_M) (r : xe_R × sy_M), k68 a1 a2 a3 a4 M = some r → sy_E (7) qX11_saint 68 [.ref 0, .int a1, .int a2, .int a3, .int a4, w5] [] M r) : ∀ (w5 : Value) (a1 : Int32) (a2 : Int32) (a3 : Int32) (a4 : Int32) (M : sy_M) (r : xe_R × sy_M), jfX11_saint_132 k68 a1 a2 a3 a4 M = some r → sy_E (7) qX11_saint 132 [.ref 0, .int a1, .int a2, .int a3, .int a4, w5] [] M r := by
  intro w5 a1 a2 a3 a4 M r h
  exact sy_run_by (d := 6) ((jrX11_saint_132 _ _ _ _ _ _ M).trans h) hkX11 (by decide +kernel) sy_cs_nil (sy_us_cons (jwX11_saint_139 (jtX11_saint_139 hk68)) sy_us_nil)
def jgX11_saint_68 (k68 : Int32 → Int32 → Int32 → Int32 → sy_M → sy_O) (a1 : Int32) (a2 : Int32) (a3 : Int32) (a4 : Int32) (M : sy_M) : sy_O :=
  if a4 < (M 9 3) then
    if a4 < 7 then
      sy_bi (jfX11_griefAhead a4 M) fun v2 M1 =>
      if a4 = a1 then
        jfX11_saint_139 k68 a1 a2 a3 a4 M1
      else
        if a2 = 0 then
          sy_bx (xe_in a4 7) <|
          if v2 < (M1 120 (Int32.toNatClampNeg a4)) then
            jfX11_saint_132 k68 a1 a2 a3 a4 M1
          else
            jfX11_saint_139 k68 a1 a2 a3 a4 M1
        else
          sy_bx (xe_in a4 7) <|
          if (M1 120 (Int32.toNatClampNeg a4)) < v2 then
            jfX11_saint_132 k68 a1 a2 a3 a4 M1
          else
            jfX11_saint_139 k68 a1 a2 a3 a4 M1
    else
      sy_ri a3 M
  else
    sy_ri a3 M
def jfX11_saint_68 : Nat → Int32 → Int32 → Int32 → Int32 → sy_M → sy_O
  | 0, _, _, _, _, _ => none
  | n + 1, a1, a2, a3, a4, M => jgX11_saint_68 (jfX11_saint_68 n) a1 a2 a3 a4 M
set_option maxRecDepth 100000 in
theorem jrX11_saint_68 (k68 : Int32 → Int32 → Int32 → Int32 → sy_M → sy_O) (w5 : Value) (a1 : Int32) (a2 : Int32) (a3 : Int32) (a4 : Int32) (M : sy_M) : sy_run skX11 qX11_saint [(68, .iload 4, 2, [true, true, true, true, true, false]), (70, .aload_n 0, 1, []), (71, .getfield 28, 3, []), (74, .getfield 207, 3, []), (77, .if_icmp .ge 68, 3, []), (80, .iload 4, 2, []), (82, .bipush 7, 2, []), (84, .if_icmp .ge 61, 3, []), (87, .aload_n 0, 1, []), (88, .iload 4, 2, []), (90, .invokevirtual 308, 3, []), (93, .istore 5, 2, []), (95, .iload 4, 2, []), (97, .iload_n 1, 1, []), (98, .if_icmp .eq 41, 3, []), (101, .iload_n 2, 1, []), (102, .ifCond .eq 18, 3, []), (105, .iload 5, 2, []), (107, .aload_n 0, 1, []), (108, .getfield 97, 3, []), (111, .iload 4, 2, []), (113, .iaload, 1, []), (114, .if_icmp .le 25, 3, []), (117, .goto 15, 3, []), (120, .iload 5, 2, []), (122, .aload_n 0, 1, []), (123, .getfield 97, 3, []), (126, .iload 4, 2, []), (128, .iaload, 1, []), (129, .if_icmp .ge 10, 3, []), (145, .iload_n 3, 1, [false, false, false, true, false, false]), (146, .ireturn, 1, [])] [(128, 0, jcX11_griefAhead)] [(139, juX11_saint_139 (jfX11_saint_139 k68)), (132, juX11_saint_132 (jfX11_saint_132 k68))] 33 [] 68 [.ref 0, .int a1, .int a2, .int a3, .int a4, w5] [] M = jgX11_saint_68 k68 a1 a2 a3 a4 M := rfl
theorem jtX11_saint_68 : ∀ n : Nat, ∀ (w5 : Value) (a1 : Int32) (a2 : Int32) (a3 : Int32) (a4 : Int32) (M : sy_M) (r : xe_R × sy_M), jfX11_saint_68 n a1 a2 a3 a4 M = some r → sy_E (7) qX11_saint 68 [.ref 0, .int a1, .int a2, .int a3, .int a4, w5] [] M r := by
  intro n
  induction n with
  | zero => intro w5 a1 a2 a3 a4 M r h; exact absurd (show (none : sy_O) = some r from h) (by simp)
  | succ n ih => intro w5 a1 a2 a3 a4 M r h; exact sy_run_by (d := 6) ((jrX11_saint_68 _ _ _ _ _ _ M).trans h) hkX11 (by decide +kernel) (sy_cs_cons (jeX11_griefAhead.deep (by decide)) sy_cs_nil) (sy_us_cons (jwX11_saint_139 (jtX11_saint_139 ih)) (sy_us_cons (jwX11_saint_132 (jtX11_saint_132 ih)) sy_us_nil))
def jgX11_saint_33 (k33 : Int32 → Int32 → Int32 → sy_M → sy_O) (a1 : Int32) (a2 : Int32) (a3 : Int32) (M : sy_M) : sy_O :=
  if a3 < 7 then
    sy_bi (jfX11_griefAhead a3 M) fun v4 M3 =>
    sy_bx (xe_in a3 7) <|
    let M5 := sy_upd M3 120 (Int32.toNatClampNeg a3) v4
    let v6 := a3 + 1
    k33 a1 a2 v6 M5
  else
    sy_bi (jfX11_griefBy a1 0 M) fun v2 M1 =>
    jfX11_saint_68 sy_F a1 a2 0 0 M1
def jfX11_saint_33 : Nat → Int32 → Int32 → Int32 → sy_M → sy_O
  | 0, _, _, _, _ => none
  | n + 1, a1, a2, a3, M => jgX11_saint_33 (jfX11_saint_33 n) a1 a2 a3 M
set_option maxRecDepth 100000 in
theorem jrX11_saint_33 (k33 : Int32 → Int32 → Int32 → sy_M → sy_O) (w4 : Value) (w5 : Value) (a1 : Int32) (a2 : Int32) (a3 : Int32) (M : sy_M) : sy_run skX11 qX11_saint [(33, .iload_n 3, 1, [true, true, true, true, false, false]), (34, .bipush 7, 2, []), (36, .if_icmp .ge 20, 3, []), (39, .aload_n 0, 1, []), (40, .getfield 97, 3, []), (43, .iload_n 3, 1, []), (44, .aload_n 0, 1, []), (45, .iload_n 3, 1, []), (46, .invokevirtual 308, 3, []), (49, .iastore, 1, []), (50, .iinc 3 1, 3, []), (53, .goto (-20), 3, []), (56, .aload_n 0, 1, [true, true, true, false, false, false]), (57, .iload_n 1, 1, []), (58, .iconst 0, 1, []), (59, .invokevirtual 302, 3, []), (62, .pop, 1, []), (63, .iconst 0, 1, []), (64, .istore_n 3, 1, []), (65, .iconst 0, 1, []), (66, .istore 4, 2, [])] [(127, 0, jcX11_griefBy), (128, 0, jcX11_griefAhead)] [(68, juX11_saint_68 (jfX11_saint_68 sy_F)), (33, juX11_saint_33 k33)] 22 [] 33 [.ref 0, .int a1, .int a2, .int a3, w4, w5] [] M = jgX11_saint_33 k33 a1 a2 a3 M := rfl
theorem jtX11_saint_33 : ∀ n : Nat, ∀ (w4 : Value) (w5 : Value) (a1 : Int32) (a2 : Int32) (a3 : Int32) (M : sy_M) (r : xe_R × sy_M), jfX11_saint_33 n a1 a2 a3 M = some r → sy_E (7) qX11_saint 33 [.ref 0, .int a1, .int a2, .int a3, w4, w5] [] M r := by
  intro n
  induction n with
  | zero => intro w4 w5 a1 a2 a3 M r h; exact absurd (show (none : sy_O) = some r from h) (by simp)
  | succ n ih => intro w4 w5 a1 a2 a3 M r h; exact sy_run_by (d := 6) ((jrX11_saint_33 _ _ _ _ _ _ M).trans h) hkX11 (by decide +kernel) (sy_cs_cons (jeX11_griefBy.deep (by decide)) (sy_cs_cons (jeX11_griefAhead.deep (by decide)) sy_cs_nil)) (sy_us_cons (jwX11_saint_68 (jtX11_saint_68 sy_F)) (sy_us_cons (jwX11_saint_33 ih) sy_us_nil))
def jfX11_saint (a1 : Int32) (a2 : Int32) (M : sy_M) : sy_O :=
  sy_bv (jfX11_checkLodger a1 M) fun M1 =>
  sy_bv (jfX8_learn 9 M1) fun M2 =>
  sy_bi (jfX2_get 9 a1 4 M2) fun v4 M3 =>
  sy_bi (jfX11_griefBy a1 v4 M3) fun v6 M5 =>
  jfX11_saint_33 sy_F a1 a2 0 M5
set_option maxRecDepth 100000 in
theorem jrX11_saint (a1 : Int32) (a2 : Int32) (M : sy_M) : sy_run skX11 qX11_saint [(0, .aload_n 0, 1, []), (1, .iload_n 1, 1, []), (2, .invokevirtual 149, 3, []), (5, .aload_n 0, 1, []), (6, .getfield 75, 3, []), (9, .aload_n 0, 1, []), (10, .getfield 28, 3, []), (13, .invokevirtual 181, 3, []), (16, .aload_n 0, 1, []), (17, .iload_n 1, 1, []), (18, .aload_n 0, 1, []), (19, .getfield 28, 3, []), (22, .iload_n 1, 1, []), (23, .iconst 4, 1, []), (24, .invokevirtual 152, 3, []), (27, .invokevirtual 302, 3, []), (30, .pop, 1, []), (31, .iconst 0, 1, []), (32, .istore_n 3, 1, [])] [(176, 1, jcX11_checkLodger), (63, 1, jcX8_learn), (10, 0, jcX2_get), (127, 0, jcX11_griefBy)] [(33, juX11_saint_33 (jfX11_saint_33 sy_F))] 20 [] 0 [.ref 0, .int a1, .int a2, xe_no, xe_no, xe_no] [] M = jfX11_saint a1 a2 M := rfl
theorem jtX11_saint : ∀ (a1 : Int32) (a2 : Int32) (M : sy_M) (r : xe_R × sy_M), jfX11_saint a1 a2 M = some r → sy_E (7) qX11_saint 0 [.ref 0, .int a1, .int a2, xe_no, xe_no, xe_no] [] M r := by
  intro a1 a2 M r h
  exact sy_run_by (d := 6) ((jrX11_saint _ _ M).trans h) hkX11 (by decide +kernel) (sy_cs_cons (jeX11_checkLodger.deep (by decide)) (sy_cs_cons (jeX8_learn.deep (by decide)) (sy_cs_cons (jeX2_get.deep (by decide)) (sy_cs_cons (jeX11_griefBy.deep (by decide)) sy_cs_nil)))) (sy_us_cons (jwX11_saint_33 (jtX11_saint_33 sy_F)) sy_us_nil)
def jcX11_saint (as : List Value) (M : sy_M) (K : sy_O → sy_O) : sy_O := sy_xc 0 as fun l => sy_xi l fun a1 l => sy_xi l fun a2 l => sy_xn l (K (jfX11_saint a1 a2 M))
theorem jeX11_saint : sy_snd (7) 124 (jcX11_saint) := by
  intro as M K r h
  obtain ⟨l, e, h1⟩ := sy_xc_ok h; subst e
  obtain ⟨a1, l, e, h2⟩ := sy_xi_ok h1; subst e
  obtain ⟨a2, l, e, h3⟩ := sy_xi_ok h2; subst e
  obtain ⟨e, h4⟩ := sy_xn_ok h3; subst e
  exact ⟨_, h4, fun r1 h0 => ⟨qX11_saint, rfl, rfl, jtX11_saint _ _ M r1 h0⟩⟩
/-! L_saint StairMeterLaw saint (LStairMeter;IZ[J)I [('R', 0), 'I', 'I', ('R', 132)] -/
def jfL_saint (a1 : Int32) (a2 : Int32) (M : sy_M) : sy_O :=
  sy_hi (jfX11_saint a1 a2 M) (fun v2 M1 =>
    let M5 := sy_wl M1 132 0 (Int32.toInt64 v2)
    sy_ri 0 M5)
  (fun c3 M4 => if c3 = 22 then sy_ri 1 M4 else none)
set_option maxRecDepth 100000 in
theorem jrL_saint (a1 : Int32) (a2 : Int32) (M : sy_M) : sy_run skL qL_saint [(0, .aload_n 3, 1, []), (1, .iconst 0, 1, []), (2, .aload_n 0, 1, []), (3, .iload_n 1, 1, []), (4, .iload_n 2, 1, []), (5, .invokevirtual 78, 3, []), (8, .i2l, 1, []), (9, .lastore, 1, []), (10, .goto 7, 3, []), (13, .astore 4, 2, [false, false, false, false, false]), (15, .iconst 1, 1, []), (16, .ireturn, 1, []), (17, .iconst 0, 1, [false, false, false, false, false]), (18, .ireturn, 1, [])] [(124, 3, jcX11_saint)] [] 15 [] 0 [.ref 0, .int a1, .int a2, .ref 132, xe_no] [] M = jfL_saint a1 a2 M := rfl
theorem jtL_saint : ∀ (a1 : Int32) (a2 : Int32) (M : sy_M) (r : xe_R × sy_M), jfL_saint a1 a2 M = some r → sy_E (8) qL_saint 0 [.ref 0, .int a1, .int a2, .ref 132, xe_no] [] M r := by
  intro a1 a2 M r h
  exact sy_run_by (d := 7) ((jrL_saint _ _ M).trans h) hkL (by decide +kernel) (sy_cs_cons (jeX11_saint.deep (by decide)) sy_cs_nil) sy_us_nil
def jcL_saint (as : List Value) (M : sy_M) (K : sy_O → sy_O) : sy_O := sy_xc 0 as fun l => sy_xi l fun a1 l => sy_xi l fun a2 l => sy_xc 132 l fun l => sy_xn l (K (jfL_saint a1 a2 M))
theorem jeL_saint : sy_snd (8) 339 (jcL_saint) := by
  intro as M K r h
  obtain ⟨l, e, h1⟩ := sy_xc_ok h; subst e
  obtain ⟨a1, l, e, h2⟩ := sy_xi_ok h1; subst e
  obtain ⟨a2, l, e, h3⟩ := sy_xi_ok h2; subst e
  obtain ⟨l, e, h4⟩ := sy_xc_ok h3; subst e
  obtain ⟨e, h5⟩ := sy_xn_ok h4; subst e
  exact ⟨_, h5, fun r1 h0 => ⟨qL_saint, rfl, rfl, jtL_saint _ _ M r1 h0⟩⟩
/-! X12_saint StairMeterModel saint (IZ)I [('R', 121), 'I', 'I'] -/
def juX12_saint_141 (k : Int32 → Int32 → Int32 → Int32 → Int32 → sy_M → sy_O) (ls st : List Value) (M : sy_M) : sy_O := sy_xc 121 ls fun l => sy_xi l fun a1 l => sy_xi l fun a2 l => sy_xv l fun _ l => sy_xv l fun _ l => sy_xi l fun a5 l => sy_xn l (sy_xi st fun s0 l => sy_xi l fun s1 l => sy_xn l (k a1 a2 a5 s0 s1 M))
theorem jwX12_saint_141 {d : Nat} {k : Int32 → Int32 → Int32 → Int32 → Int32 → sy_M → sy_O} (hk : ∀ (w3 : Value) (w4 : Value) (a1 : Int32) (a2 : Int32) (a5 : Int32) (s0 : Int32) (s1 : Int32) (M : sy_M) (r : xe_R × sy_M), k a1 a2 a5 s0 s1 M = some r → sy_E (d) qX12_saint 141 [.ref 121, .int a1, .int a2, w3, w4, .int a5] [.int s0, .int s1] M r) : ∀ ls st M r, juX12_saint_141 k ls st M = some r → sy_E d qX12_saint 141 ls st M r := by
  intro ls st M r h
  obtain ⟨l, e, h1⟩ := sy_xc_ok h; subst e
  obtain ⟨a1, l, e, h2⟩ := sy_xi_ok h1; subst e
  obtain ⟨a2, l, e, h3⟩ := sy_xi_ok h2; subst e
  obtain ⟨w3, l, e, h4⟩ := sy_xv_ok h3; subst e
  obtain ⟨w4, l, e, h5⟩ := sy_xv_ok h4; subst e
  obtain ⟨a5, l, e, h6⟩ := sy_xi_ok h5; subst e
  obtain ⟨e, h7⟩ := sy_xn_ok h6; subst e
  obtain ⟨s0, l, e, h8⟩ := sy_xi_ok h7; subst e
  obtain ⟨s1, l, e, h9⟩ := sy_xi_ok h8; subst e
  obtain ⟨e, h10⟩ := sy_xn_ok h9; subst e
  exact hk _ _ a1 a2 a5 s0 s1 M r h10
def juX12_saint_140 (k : Int32 → Int32 → Int32 → Int32 → sy_M → sy_O) (ls st : List Value) (M : sy_M) : sy_O := sy_xc 121 ls fun l => sy_xi l fun a1 l => sy_xi l fun a2 l => sy_xv l fun _ l => sy_xv l fun _ l => sy_xi l fun a5 l => sy_xn l (sy_xi st fun s0 l => sy_xn l (k a1 a2 a5 s0 M))
theorem jwX12_saint_140 {d : Nat} {k : Int32 → Int32 → Int32 → Int32 → sy_M → sy_O} (hk : ∀ (w3 : Value) (w4 : Value) (a1 : Int32) (a2 : Int32) (a5 : Int32) (s0 : Int32) (M : sy_M) (r : xe_R × sy_M), k a1 a2 a5 s0 M = some r → sy_E (d) qX12_saint 140 [.ref 121, .int a1, .int a2, w3, w4, .int a5] [.int s0] M r) : ∀ ls st M r, juX12_saint_140 k ls st M = some r → sy_E d qX12_saint 140 ls st M r := by
  intro ls st M r h
  obtain ⟨l, e, h1⟩ := sy_xc_ok h; subst e
  obtain ⟨a1, l, e, h2⟩ := sy_xi_ok h1; subst e
  obtain ⟨a2, l, e, h3⟩ := sy_xi_ok h2; subst e
  obtain ⟨w3, l, e, h4⟩ := sy_xv_ok h3; subst e
  obtain ⟨w4, l, e, h5⟩ := sy_xv_ok h4; subst e
  obtain ⟨a5, l, e, h6⟩ := sy_xi_ok h5; subst e
  obtain ⟨e, h7⟩ := sy_xn_ok h6; subst e
  obtain ⟨s0, l, e, h8⟩ := sy_xi_ok h7; subst e
  obtain ⟨e, h9⟩ := sy_xn_ok h8; subst e
  exact hk _ _ a1 a2 a5 s0 M r h9
def juX12_saint_133 (k : Int32 → Int32 → Int32 → Int32 → sy_M → sy_O) (ls st : List Value) (M : sy_M) : sy_O := sy_xc 121 ls fun l => sy_xi l fun a1 l => sy_xi l fun a2 l => sy_xv l fun _ l => sy_xv l fun _ l => sy_xi l fun a5 l => sy_xn l (sy_xi st fun s0 l => sy_xn l (k a1 a2 a5 s0 M))
theorem jwX12_saint_133 {d : Nat} {k : Int32 → Int32 → Int32 → Int32 → sy_M → sy_O} (hk : ∀ (w3 : Value) (w4 : Value) (a1 : Int32) (a2 : Int32) (a5 : Int32) (s0 : Int32) (M : sy_M) (r : xe_R × sy_M), k a1 a2 a5 s0 M = some r → sy_E (d) qX12_saint 133 [.ref 121, .int a1, .int a2, w3, w4, .int a5] [.int s0] M r) : ∀ ls st M r, juX12_saint_133 k ls st M = some r → sy_E d qX12_saint 133 ls st M r := by
  intro ls st M r h
  obtain ⟨l, e, h1⟩ := sy_xc_ok h; subst e
  obtain ⟨a1, l, e, h2⟩ := sy_xi_ok h1; subst e
  obtain ⟨a2, l, e, h3⟩ := sy_xi_ok h2; subst e
  obtain ⟨w3, l, e, h4⟩ := sy_xv_ok h3; subst e
  obtain ⟨w4, l, e, h5⟩ := sy_xv_ok h4; subst e
  obtain ⟨a5, l, e, h6⟩ := sy_xi_ok h5; subst e
  obtain ⟨e, h7⟩ := sy_xn_ok h6; subst e
  obtain ⟨s0, l, e, h8⟩ := sy_xi_ok h7; subst e
  obtain ⟨e, h9⟩ := sy_xn_ok h8; subst e
  exact hk _ _ a1 a2 a5 s0 M r h9
def juX12_saint_73 (k : Int32 → Int32 → Int32 → Int32 → sy_M → sy_O) (ls st : List Value) (M : sy_M) : sy_O := sy_xc 121 ls fun l => sy_xi l fun a1 l => sy_xi l fun a2 l => sy_xv l fun _ l => sy_xi l fun a4 l => sy_xi l fun a5 l => sy_xn l (sy_xn st (k a1 a2 a4 a5 M))
theorem jwX12_saint_73 {d : Nat} {k : Int32 → Int32 → Int32 → Int32 → sy_M → sy_O} (hk : ∀ (w3 : Value) (a1 : Int32) (a2 : Int32) (a4 : Int32) (a5 : Int32) (M : sy_M) (r : xe_R × sy_M), k a1 a2 a4 a5 M = some r → sy_E (d) qX12_saint 73 [.ref 121, .int a1, .int a2, w3, .int a4, .int a5] [] M r) : ∀ ls st M r, juX12_saint_73 k ls st M = some r → sy_E d qX12_saint 73 ls st M r := by
  intro ls st M r h
  obtain ⟨l, e, h1⟩ := sy_xc_ok h; subst e
  obtain ⟨a1, l, e, h2⟩ := sy_xi_ok h1; subst e
  obtain ⟨a2, l, e, h3⟩ := sy_xi_ok h2; subst e
  obtain ⟨w3, l, e, h4⟩ := sy_xv_ok h3; subst e
  obtain ⟨a4, l, e, h5⟩ := sy_xi_ok h4; subst e
  obtain ⟨a5, l, e, h6⟩ := sy_xi_ok h5; subst e
  obtain ⟨e, h7⟩ := sy_xn_ok h6; subst e
  obtain ⟨e, h8⟩ := sy_xn_ok h7; subst e
  exact hk _ a1 a2 a4 a5 M r h8
def juX12_saint_32 (k : Int32 → Int32 → Int32 → sy_M → sy_O) (ls st : List Value) (M : sy_M) : sy_O := sy_xc 121 ls fun l => sy_xi l fun a1 l => sy_xi l fun a2 l => sy_xi l fun a3 l => sy_xv l fun _ l => sy_xv l fun _ l => sy_xn l (sy_xn st (k a1 a2 a3 M))
theorem jwX12_saint_32 {d : Nat} {k : Int32 → Int32 → Int32 → sy_M → sy_O} (hk : ∀ (w4 : Value) (w5 : Value) (a1 : Int32) (a2 : Int32) (a3 : Int32) (M : sy_M) (r : xe_R × sy_M), k a1 a2 a3 M = some r → sy_E (d) qX12_saint 32 [.ref 121, .int a1, .int a2, .int a3, w4, w5] [] M r) : ∀ ls st M r, juX12_saint_32 k ls st M = some r → sy_E d qX12_saint 32 ls st M r := by
  intro ls st M r h
  obtain ⟨l, e, h1⟩ := sy_xc_ok h; subst e
  obtain ⟨a1, l, e, h2⟩ := sy_xi_ok h1; subst e
  obtain ⟨a2, l, e, h3⟩ := sy_xi_ok h2; subst e
  obtain ⟨a3, l, e, h4⟩ := sy_xi_ok h3; subst e
  obtain ⟨w4, l, e, h5⟩ := sy_xv_ok h4; subst e
  obtain ⟨w5, l, e, h6⟩ := sy_xv_ok h5; subst e
  obtain ⟨e, h7⟩ := sy_xn_ok h6; subst e
  obtain ⟨e, h8⟩ := sy_xn_ok h7; subst e
  exact hk _ _ a1 a2 a3 M r h8
def juX12_saint_14 (k : Int32 → Int32 → Int32 → sy_M → sy_O) (ls st : List Value) (M : sy_M) : sy_O := sy_xc 121 ls fun l => sy_xi l fun a1 l => sy_xi l fun a2 l => sy_xv l fun _ l => sy_xv l fun _ l => sy_xv l fun _ l => sy_xn l (sy_xi st fun s0 l => sy_xc 121 l fun l => sy_xn l (k a1 a2 s0 M))
theorem jwX12_saint_14 {d : Nat} {k : Int32 → Int32 → Int32 → sy_M → sy_O} (hk : ∀ (w3 : Value) (w4 : Value) (w5 : Value) (a1 : Int32) (a2 : Int32) (s0 : Int32) (M : sy_M) (r : xe_R × sy_M), k a1 a2 s0 M = some r → sy_E (d) qX12_saint 14 [.ref 121, .int a1, .int a2, w3, w4, w5] [.int s0, .ref 121] M r) : ∀ ls st M r, juX12_saint_14 k ls st M = some r → sy_E d qX12_saint 14 ls st M r := by
  intro ls st M r h
  obtain ⟨l, e, h1⟩ := sy_xc_ok h; subst e
  obtain ⟨a1, l, e, h2⟩ := sy_xi_ok h1; subst e
  obtain ⟨a2, l, e, h3⟩ := sy_xi_ok h2; subst e
  obtain ⟨w3, l, e, h4⟩ := sy_xv_ok h3; subst e
  obtain ⟨w4, l, e, h5⟩ := sy_xv_ok h4; subst e
  obtain ⟨w5, l, e, h6⟩ := sy_xv_ok h5; subst e
  obtain ⟨e, h7⟩ := sy_xn_ok h6; subst e
  obtain ⟨s0, l, e, h8⟩ := sy_xi_ok h7; subst e
  obtain ⟨l, e, h9⟩ := sy_xc_ok h8; subst e
  obtain ⟨e, h10⟩ := sy_xn_ok h9; subst e
  exact hk _ _ _ a1 a2 s0 M r h10
def jfX12_saint_141 (k73 : Int32 → Int32 → Int32 → Int32 → sy_M → sy_O) (a1 : Int32) (a2 : Int32) (a5 : Int32) (s0 : Int32) (s1 : Int32) (M : sy_M) : sy_O :=
  let v1 := (s1 ||| s0)
  let v2 := a5 + 1
  k73 a1 a2 v1 v2 M
set_option maxRecDepth 100000 in
theorem jrX12_saint_141 (k73 : Int32 → Int32 → Int32 → Int32 → sy_M → sy_O) (w3 : Value) (w4 : Value) (a1 : Int32) (a2 : Int32) (a5 : Int32) (s0 : Int32) (s1 : Int32) (M : sy_M) : sy_run skX12 qX12_saint [(141, .ior, 1, [true, true, true, false, false, true]), (142, .istore 4, 2, []), (144, .iinc 5 1, 3, []), (147, .goto (-74), 3, [])] [] [(73, juX12_saint_73 k73)] 5 [] 141 [.ref 121, .int a1, .int a2, w3, w4, .int a5] [.int s0, .int s1] M = jfX12_saint_141 k73 a1 a2 a5 s0 s1 M := rfl
theorem jtX12_saint_141 {k73 : Int32 → Int32 → Int32 → Int32 → sy_M → sy_O} (hk73 : ∀ (w3 : Value) (a1 : Int32) (a2 : Int32) (a4 : Int32) (a5 : Int32) (M : sy_M) (r : xe_R × sy_M), k73 a1 a2 a4 a5 M = some r → sy_E (54) qX12_saint 73 [.ref 121, .int a1, .int a2, w3, .int a4, .int a5] [] M r) : ∀ (w3 : Value) (w4 : Value) (a1 : Int32) (a2 : Int32) (a5 : Int32) (s0 : Int32) (s1 : Int32) (M : sy_M) (r : xe_R × sy_M), jfX12_saint_141 k73 a1 a2 a5 s0 s1 M = some r → sy_E (54) qX12_saint 141 [.ref 121, .int a1, .int a2, w3, w4, .int a5] [.int s0, .int s1] M r := by
  intro w3 w4 a1 a2 a5 s0 s1 M r h
  exact sy_run_by (d := 53) ((jrX12_saint_141 _ _ _ _ _ _ _ _ M).trans h) hkX12 (by decide +kernel) sy_cs_nil (sy_us_cons (jwX12_saint_73 hk73) sy_us_nil)
def jfX12_saint_140 (k73 : Int32 → Int32 → Int32 → Int32 → sy_M → sy_O) (a1 : Int32) (a2 : Int32) (a5 : Int32) (s0 : Int32) (M : sy_M) : sy_O :=
  jfX12_saint_141 k73 a1 a2 a5 0 s0 M
set_option maxRecDepth 100000 in
theorem jrX12_saint_140 (k73 : Int32 → Int32 → Int32 → Int32 → sy_M → sy_O) (w3 : Value) (w4 : Value) (a1 : Int32) (a2 : Int32) (a5 : Int32) (s0 : Int32) (M : sy_M) : sy_run skX12 qX12_saint [(140, .iconst 0, 1, [true, true, true, false, false, true])] [] [(141, juX12_saint_141 (jfX12_saint_141 k73))] 2 [] 140 [.ref 121, .int a1, .int a2, w3, w4, .int a5] [.int s0] M = jfX12_saint_140 k73 a1 a2 a5 s0 M := rfl
theorem jtX12_saint_140 {k73 : Int32 → Int32 → Int32 → Int32 → sy_M → sy_O} (hk73 : ∀ (w3 : Value) (a1 : Int32) (a2 : Int32) (a4 : Int32) (a5 : Int32) (M : sy_M) (r : xe_R × sy_M), k73 a1 a2 a4 a5 M = some r → sy_E (54) qX12_saint 73 [.ref 121, .int a1, .int a2, w3, .int a4, .int a5] [] M r) : ∀ (w3 : Value) (w4 : Value) (a1 : Int32) (a2 : Int32) (a5 : Int32) (s0 : Int32) (M : sy_M) (r : xe_R × sy_M), jfX12_saint_140 k73 a1 a2 a5 s0 M = some r → sy_E (54) qX12_saint 140 [.ref 121, .int a1, .int a2, w3, w4, .int a5] [.int s0] M r := by
  intro w3 w4 a1 a2 a5 s0 M r h
  exact sy_run_by (d := 53) ((jrX12_saint_140 _ _ _ _ _ _ _ M).trans h) hkX12 (by decide +kernel) sy_cs_nil (sy_us_cons (jwX12_saint_141 (jtX12_saint_141 hk73)) sy_us_nil)
def jfX12_saint_133 (k73 : Int32 → Int32 → Int32 → Int32 → sy_M → sy_O) (a1 : Int32) (a2 : Int32) (a5 : Int32) (s0 : Int32) (M : sy_M) : sy_O :=
  jfX12_saint_141 k73 a1 a2 a5 (1 <<< (a5 &&& 31)) s0 M
set_option maxRecDepth 100000 in
theorem jrX12_saint_133 (k73 : Int32 → Int32 → Int32 → Int32 → sy_M → sy_O) (w3 : Value) (w4 : Value) (a1 : Int32) (a2 : Int32) (a5 : Int32) (s0 : Int32) (M : sy_M) : sy_run skX12 qX12_saint [(133, .iconst 1, 1, [true, true, true, false, false, true]), (134, .iload 5, 2, []), (136, .ishl, 1, []), (137, .goto 4, 3, [])] [] [(141, juX12_saint_141 (jfX12_saint_141 k73))] 5 [] 133 [.ref 121, .int a1, .int a2, w3, w4, .int a5] [.int s0] M = jfX12_saint_133 k73 a1 a2 a5 s0 M := rfl
theorem jtX12_saint_133 {k73 : Int32 → Int32 → Int32 → Int32 → sy_M → sy_O} (hk73 : ∀ (w3 : Value) (a1 : Int32) (a2 : Int32) (a4 : Int32) (a5 : Int32) (M : sy_M) (r : xe_R × sy_M), k73 a1 a2 a4 a5 M = some r → sy_E (54) qX12_saint 73 [.ref 121, .int a1, .int a2, w3, .int a4, .int a5] [] M r) : ∀ (w3 : Value) (w4 : Value) (a1 : Int32) (a2 : Int32) (a5 : Int32) (s0 : Int32) (M : sy_M) (r : xe_R × sy_M), jfX12_saint_133 k73 a1 a2 a5 s0 M = some r → sy_E (54) qX12_saint 133 [.ref 121, .int a1, .int a2, w3, w4, .int a5] [.int s0] M r := by
  intro w3 w4 a1 a2 a5 s0 M r h
  exact sy_run_by (d := 53) ((jrX12_saint_133 _ _ _ _ _ _ _ M).trans h) hkX12 (by decide +kernel) sy_cs_nil (sy_us_cons (jwX12_saint_141 (jtX12_saint_141 hk73)) sy_us_nil)
def jgX12_saint_73 (k73 : Int32 → Int32 → Int32 → Int32 → sy_M → sy_O) (a1 : Int32) (a2 : Int32) (a4 : Int32) (a5 : Int32) (M : sy_M) : sy_O :=
  if a5 < (M 122 3) then
    if a5 = a1 then
      jfX12_saint_140 k73 a1 a2 a5 a4 M
    else
      if a2 = 0 then
        sy_bx (xe_in a5 7) <|
        sy_bx (xe_in a5 7) <|
        if (M 129 (Int32.toNatClampNeg a5)) < (M 128 (Int32.toNatClampNeg a5)) then
          jfX12_saint_133 k73 a1 a2 a5 a4 M
        else
          jfX12_saint_140 k73 a1 a2 a5 a4 M
      else
        sy_bx (xe_in a5 7) <|
        sy_bx (xe_in a5 7) <|
        if (M 128 (Int32.toNatClampNeg a5)) < (M 129 (Int32.toNatClampNeg a5)) then
          jfX12_saint_133 k73 a1 a2 a5 a4 M
        else
          jfX12_saint_140 k73 a1 a2 a5 a4 M
  else
    sy_ri a4 M
def jfX12_saint_73 : Nat → Int32 → Int32 → Int32 → Int32 → sy_M → sy_O
  | 0, _, _, _, _, _ => none
  | n + 1, a1, a2, a4, a5, M => jgX12_saint_73 (jfX12_saint_73 n) a1 a2 a4 a5 M
set_option maxRecDepth 100000 in
theorem jrX12_saint_73 (k73 : Int32 → Int32 → Int32 → Int32 → sy_M → sy_O) (w3 : Value) (a1 : Int32) (a2 : Int32) (a4 : Int32) (a5 : Int32) (M : sy_M) : sy_run skX12 qX12_saint [(73, .iload 5, 2, [true, true, true, false, true, true]), (75, .aload_n 0, 1, []), (76, .getfield 7, 3, []), (79, .iconst 3, 1, []), (80, .iaload, 1, []), (81, .if_icmp .ge 69, 3, []), (84, .iload 4, 2, []), (86, .iload 5, 2, []), (88, .iload_n 1, 1, []), (89, .if_icmp .eq 51, 3, []), (92, .iload_n 2, 1, []), (93, .ifCond .eq 23, 3, []), (96, .aload_n 0, 1, []), (97, .getfield 35, 3, []), (100, .iload 5, 2, []), (102, .iaload, 1, []), (103, .aload_n 0, 1, []), (104, .getfield 32, 3, []), (107, .iload 5, 2, []), (109, .iaload, 1, []), (110, .if_icmp .le 30, 3, []), (113, .goto 20, 3, []), (116, .aload_n 0, 1, [true, true, true, false, false, true]), (117, .getfield 35, 3, []), (120, .iload 5, 2, []), (122, .iaload, 1, []), (123, .aload_n 0, 1, []), (124, .getfield 32, 3, []), (127, .iload 5, 2, []), (129, .iaload, 1, []), (130, .if_icmp .ge 10, 3, []), (150, .iload 4, 2, [false, false, false, false, true, false]), (152, .ireturn, 1, [])] [] [(140, juX12_saint_140 (jfX12_saint_140 k73)), (133, juX12_saint_133 (jfX12_saint_133 k73))] 34 [] 73 [.ref 121, .int a1, .int a2, w3, .int a4, .int a5] [] M = jgX12_saint_73 k73 a1 a2 a4 a5 M := rfl
theorem jtX12_saint_73 : ∀ n : Nat, ∀ (w3 : Value) (a1 : Int32) (a2 : Int32) (a4 : Int32) (a5 : Int32) (M : sy_M) (r : xe_R × sy_M), jfX12_saint_73 n a1 a2 a4 a5 M = some r → sy_E (54) qX12_saint 73 [.ref 121, .int a1, .int a2, w3, .int a4, .int a5] [] M r := by
  intro n
  induction n with
  | zero => intro w3 a1 a2 a4 a5 M r h; exact absurd (show (none : sy_O) = some r from h) (by simp)
  | succ n ih => intro w3 a1 a2 a4 a5 M r h; exact sy_run_by (d := 53) ((jrX12_saint_73 _ _ _ _ _ _ M).trans h) hkX12 (by decide +kernel) sy_cs_nil (sy_us_cons (jwX12_saint_140 (jtX12_saint_140 ih)) (sy_us_cons (jwX12_saint_133 (jtX12_saint_133 ih)) sy_us_nil))
def jgX12_saint_32 (k32 : Int32 → Int32 → Int32 → sy_M → sy_O) (a1 : Int32) (a2 : Int32) (a3 : Int32) (M : sy_M) : sy_O :=
  if a3 < (M 122 3) then
    sy_bx (xe_in a3 7) <|
    sy_bx (xe_in a3 7) <|
    let M3 := sy_upd M 128 (Int32.toNatClampNeg a3) (M 129 (Int32.toNatClampNeg a3))
    let v4 := a3 + 1
    k32 a1 a2 v4 M3
  else
    sy_bi (jfX12_griefOf a1 0 M) fun v2 M1 =>
    jfX12_saint_73 sy_F a1 a2 0 0 M1
def jfX12_saint_32 : Nat → Int32 → Int32 → Int32 → sy_M → sy_O
  | 0, _, _, _, _ => none
  | n + 1, a1, a2, a3, M => jgX12_saint_32 (jfX12_saint_32 n) a1 a2 a3 M
set_option maxRecDepth 100000 in
theorem jrX12_saint_32 (k32 : Int32 → Int32 → Int32 → sy_M → sy_O) (w4 : Value) (w5 : Value) (a1 : Int32) (a2 : Int32) (a3 : Int32) (M : sy_M) : sy_run skX12 qX12_saint [(32, .iload_n 3, 1, [true, true, true, true, false, false]), (33, .aload_n 0, 1, []), (34, .getfield 7, 3, []), (37, .iconst 3, 1, []), (38, .iaload, 1, []), (39, .if_icmp .ge 21, 3, []), (42, .aload_n 0, 1, []), (43, .getfield 32, 3, []), (46, .iload_n 3, 1, []), (47, .aload_n 0, 1, []), (48, .getfield 35, 3, []), (51, .iload_n 3, 1, []), (52, .iaload, 1, []), (53, .iastore, 1, []), (54, .iinc 3 1, 3, []), (57, .goto (-25), 3, []), (60, .aload_n 0, 1, [true, true, true, false, false, false]), (61, .iload_n 1, 1, []), (62, .iconst 0, 1, []), (63, .invokevirtual 340, 3, []), (66, .istore_n 3, 1, []), (67, .iconst 0, 1, []), (68, .istore 4, 2, []), (70, .iconst 0, 1, []), (71, .istore 5, 2, [])] [(268, 0, jcX12_griefOf)] [(73, juX12_saint_73 (jfX12_saint_73 sy_F)), (32, juX12_saint_32 k32)] 26 [] 32 [.ref 121, .int a1, .int a2, .int a3, w4, w5] [] M = jgX12_saint_32 k32 a1 a2 a3 M := rfl
theorem jtX12_saint_32 : ∀ n : Nat, ∀ (w4 : Value) (w5 : Value) (a1 : Int32) (a2 : Int32) (a3 : Int32) (M : sy_M) (r : xe_R × sy_M), jfX12_saint_32 n a1 a2 a3 M = some r → sy_E (54) qX12_saint 32 [.ref 121, .int a1, .int a2, .int a3, w4, w5] [] M r := by
  intro n
  induction n with
  | zero => intro w4 w5 a1 a2 a3 M r h; exact absurd (show (none : sy_O) = some r from h) (by simp)
  | succ n ih => intro w4 w5 a1 a2 a3 M r h; exact sy_run_by (d := 53) ((jrX12_saint_32 _ _ _ _ _ _ M).trans h) hkX12 (by decide +kernel) (sy_cs_cons (jeX12_griefOf.deep (by decide)) sy_cs_nil) (sy_us_cons (jwX12_saint_73 (jtX12_saint_73 sy_F)) (sy_us_cons (jwX12_saint_32 ih) sy_us_nil))
def jfX12_saint_14 (a1 : Int32) (a2 : Int32) (s0 : Int32) (M : sy_M) : sy_O :=
  let M1 := sy_upd M 121 0 s0
  if 0 < (M1 121 0) then
    sy_ri 0 M1
  else
    sy_bv (jfX12_grieves M1) fun M2 =>
    jfX12_saint_32 sy_F a1 a2 0 M2
set_option maxRecDepth 100000 in
theorem jrX12_saint_14 (w3 : Value) (w4 : Value) (w5 : Value) (a1 : Int32) (a2 : Int32) (s0 : Int32) (M : sy_M) : sy_run skX12 qX12_saint [(14, .putfield 45, 3, [true, true, true, false, false, false]), (17, .aload_n 0, 1, []), (18, .getfield 45, 3, []), (21, .ifCond .le 5, 3, []), (24, .iconst 0, 1, []), (25, .ireturn, 1, []), (26, .aload_n 0, 1, [true, true, true, false, false, false]), (27, .invokevirtual 336, 3, []), (30, .iconst 0, 1, []), (31, .istore_n 3, 1, [])] [(267, 1, jcX12_grieves)] [(32, juX12_saint_32 (jfX12_saint_32 sy_F))] 11 [] 14 [.ref 121, .int a1, .int a2, w3, w4, w5] [.int s0, .ref 121] M = jfX12_saint_14 a1 a2 s0 M := rfl
theorem jtX12_saint_14 : ∀ (w3 : Value) (w4 : Value) (w5 : Value) (a1 : Int32) (a2 : Int32) (s0 : Int32) (M : sy_M) (r : xe_R × sy_M), jfX12_saint_14 a1 a2 s0 M = some r → sy_E (54) qX12_saint 14 [.ref 121, .int a1, .int a2, w3, w4, w5] [.int s0, .ref 121] M r := by
  intro w3 w4 w5 a1 a2 s0 M r h
  exact sy_run_by (d := 53) ((jrX12_saint_14 _ _ _ _ _ _ M).trans h) hkX12 (by decide +kernel) (sy_cs_cons (jeX12_grieves.deep (by decide)) sy_cs_nil) (sy_us_cons (jwX12_saint_32 (jtX12_saint_32 sy_F)) sy_us_nil)
def jfX12_saint (a1 : Int32) (a2 : Int32) (M : sy_M) : sy_O :=
  sy_bi (jfX12_isLodger a1 M) fun v2 M1 =>
  if v2 = 0 then
    jfX12_saint_14 a1 a2 1 M1
  else
    jfX12_saint_14 a1 a2 0 M1
set_option maxRecDepth 100000 in
theorem jrX12_saint (a1 : Int32) (a2 : Int32) (M : sy_M) : sy_run skX12 qX12_saint [(0, .aload_n 0, 1, []), (1, .aload_n 0, 1, []), (2, .iload_n 1, 1, []), (3, .invokevirtual 284, 3, []), (6, .ifCond .ne 7, 3, []), (9, .iconst 1, 1, []), (10, .goto 4, 3, []), (13, .iconst 0, 1, [true, true, true, false, false, false])] [(190, 0, jcX12_isLodger)] [(14, juX12_saint_14 (jfX12_saint_14))] 9 [] 0 [.ref 121, .int a1, .int a2, xe_no, xe_no, xe_no] [] M = jfX12_saint a1 a2 M := rfl
theorem jtX12_saint : ∀ (a1 : Int32) (a2 : Int32) (M : sy_M) (r : xe_R × sy_M), jfX12_saint a1 a2 M = some r → sy_E (54) qX12_saint 0 [.ref 121, .int a1, .int a2, xe_no, xe_no, xe_no] [] M r := by
  intro a1 a2 M r h
  exact sy_run_by (d := 53) ((jrX12_saint _ _ M).trans h) hkX12 (by decide +kernel) (sy_cs_cons (jeX12_isLodger.deep (by decide)) sy_cs_nil) (sy_us_cons (jwX12_saint_14 (jtX12_saint_14)) sy_us_nil)
def jcX12_saint (as : List Value) (M : sy_M) (K : sy_O → sy_O) : sy_O := sy_xc 121 as fun l => sy_xi l fun a1 l => sy_xi l fun a2 l => sy_xn l (K (jfX12_saint a1 a2 M))
theorem jeX12_saint : sy_snd (54) 272 (jcX12_saint) := by
  intro as M K r h
  obtain ⟨l, e, h1⟩ := sy_xc_ok h; subst e
  obtain ⟨a1, l, e, h2⟩ := sy_xi_ok h1; subst e
  obtain ⟨a2, l, e, h3⟩ := sy_xi_ok h2; subst e
  obtain ⟨e, h4⟩ := sy_xn_ok h3; subst e
  exact ⟨_, h4, fun r1 h0 => ⟨qX12_saint, rfl, rfl, jtX12_saint _ _ M r1 h0⟩⟩
/-! X11_fair StairMeter fair (II)I [('R', 0), 'I', 'I'] -/
def juX11_fair_54 (k : Int32 → Int32 → Int32 → Int32 → Int32 → sy_M → sy_O) (ls st : List Value) (M : sy_M) : sy_O := sy_xc 0 ls fun l => sy_xi l fun a1 l => sy_xi l fun a2 l => sy_xi l fun a3 l => sy_xi l fun a4 l => sy_xi l fun a5 l => sy_xn l (sy_xn st (k a1 a2 a3 a4 a5 M))
theorem jwX11_fair_54 {d : Nat} {k : Int32 → Int32 → Int32 → Int32 → Int32 → sy_M → sy_O} (hk : ∀ (a1 : Int32) (a2 : Int32) (a3 : Int32) (a4 : Int32) (a5 : Int32) (M : sy_M) (r : xe_R × sy_M), k a1 a2 a3 a4 a5 M = some r → sy_E (d) qX11_fair 54 [.ref 0, .int a1, .int a2, .int a3, .int a4, .int a5] [] M r) : ∀ ls st M r, juX11_fair_54 k ls st M = some r → sy_E d qX11_fair 54 ls st M r := by
  intro ls st M r h
  obtain ⟨l, e, h1⟩ := sy_xc_ok h; subst e
  obtain ⟨a1, l, e, h2⟩ := sy_xi_ok h1; subst e
  obtain ⟨a2, l, e, h3⟩ := sy_xi_ok h2; subst e
  obtain ⟨a3, l, e, h4⟩ := sy_xi_ok h3; subst e
  obtain ⟨a4, l, e, h5⟩ := sy_xi_ok h4; subst e
  obtain ⟨a5, l, e, h6⟩ := sy_xi_ok h5; subst e
  obtain ⟨e, h7⟩ := sy_xn_ok h6; subst e
  obtain ⟨e, h8⟩ := sy_xn_ok h7; subst e
  exact hk a1 a2 a3 a4 a5 M r h8
def juX11_fair_18 (k : Int32 → Int32 → Int32 → Int32 → sy_M → sy_O) (ls st : List Value) (M : sy_M) : sy_O := sy_xc 0 ls fun l => sy_xi l fun a1 l => sy_xi l fun a2 l => sy_xi l fun a3 l => sy_xi l fun a4 l => sy_xv l fun _ l => sy_xn l (sy_xn st (k a1 a2 a3 a4 M))
theorem jwX11_fair_18 {d : Nat} {k : Int32 → Int32 → Int32 → Int32 → sy_M → sy_O} (hk : ∀ (w5 : Value) (a1 : Int32) (a2 : Int32) (a3 : Int32) (a4 : Int32) (M : sy_M) (r : xe_R × sy_M), k a1 a2 a3 a4 M = some r → sy_E (d) qX11_fair 18 [.ref 0, .int a1, .int a2, .int a3, .int a4, w5] [] M r) : ∀ ls st M r, juX11_fair_18 k ls st M = some r → sy_E d qX11_fair 18 ls st M r := by
  intro ls st M r h
  obtain ⟨l, e, h1⟩ := sy_xc_ok h; subst e
  obtain ⟨a1, l, e, h2⟩ := sy_xi_ok h1; subst e
  obtain ⟨a2, l, e, h3⟩ := sy_xi_ok h2; subst e
  obtain ⟨a3, l, e, h4⟩ := sy_xi_ok h3; subst e
  obtain ⟨a4, l, e, h5⟩ := sy_xi_ok h4; subst e
  obtain ⟨w5, l, e, h6⟩ := sy_xv_ok h5; subst e
  obtain ⟨e, h7⟩ := sy_xn_ok h6; subst e
  obtain ⟨e, h8⟩ := sy_xn_ok h7; subst e
  exact hk _ a1 a2 a3 a4 M r h8
def jgX11_fair_54 (k54 : Int32 → Int32 → Int32 → Int32 → Int32 → sy_M → sy_O) (a1 : Int32) (a2 : Int32) (a3 : Int32) (a4 : Int32) (a5 : Int32) (M : sy_M) : sy_O :=
  if a5 < (M 9 3) then
    sy_bi (jfX2_metered 9 a5 M) fun v6 M5 =>
    sy_bi (jfX11_share a2 v6 a3 M5) fun v8 M7 =>
    let v9 := (a4 - v8)
    let v10 := a5 + 1
    k54 a1 a2 a3 v9 v10 M7
  else
    sy_bi (jfX2_metered 9 a1 M) fun v2 M1 =>
    sy_bi (jfX11_share a2 v2 a3 M1) fun v4 M3 =>
    if a1 < a4 then
      sy_ri (v4 + 1) M3
    else
      sy_ri (v4 + 0) M3
def jfX11_fair_54 : Nat → Int32 → Int32 → Int32 → Int32 → Int32 → sy_M → sy_O
  | 0, _, _, _, _, _, _ => none
  | n + 1, a1, a2, a3, a4, a5, M => jgX11_fair_54 (jfX11_fair_54 n) a1 a2 a3 a4 a5 M
set_option maxRecDepth 100000 in
theorem jrX11_fair_54 (k54 : Int32 → Int32 → Int32 → Int32 → Int32 → sy_M → sy_O) (a1 : Int32) (a2 : Int32) (a3 : Int32) (a4 : Int32) (a5 : Int32) (M : sy_M) : sy_run skX11 qX11_fair [(54, .iload 5, 2, []), (56, .aload_n 0, 1, []), (57, .getfield 28, 3, []), (60, .getfield 207, 3, []), (63, .if_icmp .ge 28, 3, []), (66, .iload 4, 2, []), (68, .iload_n 2, 1, []), (69, .aload_n 0, 1, []), (70, .getfield 28, 3, []), (73, .iload 5, 2, []), (75, .invokevirtual 178, 3, []), (78, .iload_n 3, 1, []), (79, .invokestatic 311, 3, []), (82, .isub, 1, []), (83, .istore 4, 2, []), (85, .iinc 5 1, 3, []), (88, .goto (-34), 3, []), (91, .iload_n 2, 1, [true, true, true, true, true, false]), (92, .aload_n 0, 1, []), (93, .getfield 28, 3, []), (96, .iload_n 1, 1, []), (97, .invokevirtual 178, 3, []), (100, .iload_n 3, 1, []), (101, .invokestatic 311, 3, []), (104, .iload_n 1, 1, []), (105, .iload 4, 2, []), (107, .if_icmp .ge 7, 3, []), (110, .iconst 1, 1, []), (111, .goto 4, 3, []), (114, .iconst 0, 1, [false, false, false, false, false, false]), (115, .iadd, 1, [false, false, false, false, false, false]), (116, .ireturn, 1, [])] [(15, 0, jcX2_metered), (130, 0, jcX11_share)] [(54, juX11_fair_54 k54)] 33 [] 54 [.ref 0, .int a1, .int a2, .int a3, .int a4, .int a5] [] M = jgX11_fair_54 k54 a1 a2 a3 a4 a5 M := rfl
theorem jtX11_fair_54 : ∀ n : Nat, ∀ (a1 : Int32) (a2 : Int32) (a3 : Int32) (a4 : Int32) (a5 : Int32) (M : sy_M) (r : xe_R × sy_M), jfX11_fair_54 n a1 a2 a3 a4 a5 M = some r → sy_E (4) qX11_fair 54 [.ref 0, .int a1, .int a2, .int a3, .int a4, .int a5] [] M r := by
  intro n
  induction n with
  | zero => intro a1 a2 a3 a4 a5 M r h; exact absurd (show (none : sy_O) = some r from h) (by simp)
  | succ n ih => intro a1 a2 a3 a4 a5 M r h; exact sy_run_by (d := 3) ((jrX11_fair_54 _ _ _ _ _ _ M).trans h) hkX11 (by decide +kernel) (sy_cs_cons (jeX2_metered.deep (by decide)) (sy_cs_cons (jeX11_share.deep (by decide)) sy_cs_nil)) (sy_us_cons (jwX11_fair_54 ih) sy_us_nil)
def jgX11_fair_18 (k18 : Int32 → Int32 → Int32 → Int32 → sy_M → sy_O) (a1 : Int32) (a2 : Int32) (a3 : Int32) (a4 : Int32) (M : sy_M) : sy_O :=
  if a4 < (M 9 3) then
    sy_bi (jfX2_metered 9 a4 M) fun v2 M1 =>
    let v3 := (a3 + v2)
    let v4 := a4 + 1
    k18 a1 a2 v3 v4 M1
  else
    jfX11_fair_54 sy_F a1 a2 a3 a2 0 M
def jfX11_fair_18 : Nat → Int32 → Int32 → Int32 → Int32 → sy_M → sy_O
  | 0, _, _, _, _, _ => none
  | n + 1, a1, a2, a3, a4, M => jgX11_fair_18 (jfX11_fair_18 n) a1 a2 a3 a4 M
set_option maxRecDepth 100000 in
theorem jrX11_fair_18 (k18 : Int32 → Int32 → Int32 → Int32 → sy_M → sy_O) (w5 : Value) (a1 : Int32) (a2 : Int32) (a3 : Int32) (a4 : Int32) (M : sy_M) : sy_run skX11 qX11_fair [(18, .iload 4, 2, [true, true, true, true, true, false]), (20, .aload_n 0, 1, []), (21, .getfield 28, 3, []), (24, .getfield 207, 3, []), (27, .if_icmp .ge 21, 3, []), (30, .iload_n 3, 1, []), (31, .aload_n 0, 1, []), (32, .getfield 28, 3, []), (35, .iload 4, 2, []), (37, .invokevirtual 178, 3, []), (40, .iadd, 1, []), (41, .istore_n 3, 1, []), (42, .iinc 4 1, 3, []), (45, .goto (-27), 3, []), (48, .iload_n 2, 1, [true, true, true, true, false, false]), (49, .istore 4, 2, []), (51, .iconst 0, 1, []), (52, .istore 5, 2, [])] [(15, 0, jcX2_metered)] [(54, juX11_fair_54 (jfX11_fair_54 sy_F)), (18, juX11_fair_18 k18)] 19 [] 18 [.ref 0, .int a1, .int a2, .int a3, .int a4, w5] [] M = jgX11_fair_18 k18 a1 a2 a3 a4 M := rfl
theorem jtX11_fair_18 : ∀ n : Nat, ∀ (w5 : Value) (a1 : Int32) (a2 : Int32) (a3 : Int32) (a4 : Int32) (M : sy_M) (r : xe_R × sy_M), jfX11_fair_18 n a1 a2 a3 a4 M = some r → sy_E (4) qX11_fair 18 [.ref 0, .int a1, .int a2, .int a3, .int a4, w5] [] M r := by
  intro n
  induction n with
  | zero => intro w5 a1 a2 a3 a4 M r h; exact absurd (show (none : sy_O) = some r from h) (by simp)
  | succ n ih => intro w5 a1 a2 a3 a4 M r h; exact sy_run_by (d := 3) ((jrX11_fair_18 _ _ _ _ _ _ M).trans h) hkX11 (by decide +kernel) (sy_cs_cons (jeX2_metered.deep (by decide)) sy_cs_nil) (sy_us_cons (jwX11_fair_54 (jtX11_fair_54 sy_F)) (sy_us_cons (jwX11_fair_18 ih) sy_us_nil))
def jfX11_fair (a1 : Int32) (a2 : Int32) (M : sy_M) : sy_O :=
  sy_bv (jfX11_checkLodger a1 M) fun M1 =>
  sy_bv (jfX11_checkRange a2 0 999 M1) fun M2 =>
  jfX11_fair_18 sy_F a1 a2 0 0 M2
set_option maxRecDepth 100000 in
theorem jrX11_fair (a1 : Int32) (a2 : Int32) (M : sy_M) : sy_run skX11 qX11_fair [(0, .aload_n 0, 1, []), (1, .iload_n 1, 1, []), (2, .invokevirtual 149, 3, []), (5, .iload_n 2, 1, []), (6, .iconst 0, 1, []), (7, .sipush 999, 3, []), (10, .invokestatic 248, 3, []), (13, .iconst 0, 1, []), (14, .istore_n 3, 1, []), (15, .iconst 0, 1, []), (16, .istore 4, 2, [])] [(176, 1, jcX11_checkLodger), (179, 1, jcX11_checkRange)] [(18, juX11_fair_18 (jfX11_fair_18 sy_F))] 12 [] 0 [.ref 0, .int a1, .int a2, xe_no, xe_no, xe_no] [] M = jfX11_fair a1 a2 M := rfl
theorem jtX11_fair : ∀ (a1 : Int32) (a2 : Int32) (M : sy_M) (r : xe_R × sy_M), jfX11_fair a1 a2 M = some r → sy_E (4) qX11_fair 0 [.ref 0, .int a1, .int a2, xe_no, xe_no, xe_no] [] M r := by
  intro a1 a2 M r h
  exact sy_run_by (d := 3) ((jrX11_fair _ _ M).trans h) hkX11 (by decide +kernel) (sy_cs_cons (jeX11_checkLodger.deep (by decide)) (sy_cs_cons (jeX11_checkRange.deep (by decide)) sy_cs_nil)) (sy_us_cons (jwX11_fair_18 (jtX11_fair_18 sy_F)) sy_us_nil)
def jcX11_fair (as : List Value) (M : sy_M) (K : sy_O → sy_O) : sy_O := sy_xc 0 as fun l => sy_xi l fun a1 l => sy_xi l fun a2 l => sy_xn l (K (jfX11_fair a1 a2 M))
theorem jeX11_fair : sy_snd (4) 129 (jcX11_fair) := by
  intro as M K r h
  obtain ⟨l, e, h1⟩ := sy_xc_ok h; subst e
  obtain ⟨a1, l, e, h2⟩ := sy_xi_ok h1; subst e
  obtain ⟨a2, l, e, h3⟩ := sy_xi_ok h2; subst e
  obtain ⟨e, h4⟩ := sy_xn_ok h3; subst e
  exact ⟨_, h4, fun r1 h0 => ⟨qX11_fair, rfl, rfl, jtX11_fair _ _ M r1 h0⟩⟩
/-! L_fair StairMeterLaw fair (LStairMeter;II[J)I [('R', 0), 'I', 'I', ('R', 132)] -/
def jfL_fair (a1 : Int32) (a2 : Int32) (M : sy_M) : sy_O :=
  sy_hi (jfX11_fair a1 a2 M) (fun v2 M1 =>
    let M5 := sy_wl M1 132 0 (Int32.toInt64 v2)
    sy_ri 0 M5)
  (fun c3 M4 => if c3 = 22 then sy_ri 1 M4 else if c3 = 20 then sy_ri 2 M4 else none)
set_option maxRecDepth 100000 in
theorem jrL_fair (a1 : Int32) (a2 : Int32) (M : sy_M) : sy_run skL qL_fair [(0, .aload_n 3, 1, []), (1, .iconst 0, 1, []), (2, .aload_n 0, 1, []), (3, .iload_n 1, 1, []), (4, .iload_n 2, 1, []), (5, .invokevirtual 82, 3, []), (8, .i2l, 1, []), (9, .lastore, 1, []), (10, .goto 11, 3, []), (13, .astore 4, 2, [false, false, false, false, false]), (15, .iconst 1, 1, []), (16, .ireturn, 1, []), (17, .astore 4, 2, [false, false, false, false, false]), (19, .iconst 2, 1, []), (20, .ireturn, 1, []), (21, .iconst 0, 1, [false, false, false, false, false]), (22, .ireturn, 1, [])] [(129, 3, jcX11_fair)] [] 18 [] 0 [.ref 0, .int a1, .int a2, .ref 132, xe_no] [] M = jfL_fair a1 a2 M := rfl
theorem jtL_fair : ∀ (a1 : Int32) (a2 : Int32) (M : sy_M) (r : xe_R × sy_M), jfL_fair a1 a2 M = some r → sy_E (5) qL_fair 0 [.ref 0, .int a1, .int a2, .ref 132, xe_no] [] M r := by
  intro a1 a2 M r h
  exact sy_run_by (d := 4) ((jrL_fair _ _ M).trans h) hkL (by decide +kernel) (sy_cs_cons (jeX11_fair.deep (by decide)) sy_cs_nil) sy_us_nil
def jcL_fair (as : List Value) (M : sy_M) (K : sy_O → sy_O) : sy_O := sy_xc 0 as fun l => sy_xi l fun a1 l => sy_xi l fun a2 l => sy_xc 132 l fun l => sy_xn l (K (jfL_fair a1 a2 M))
theorem jeL_fair : sy_snd (5) 340 (jcL_fair) := by
  intro as M K r h
  obtain ⟨l, e, h1⟩ := sy_xc_ok h; subst e
  obtain ⟨a1, l, e, h2⟩ := sy_xi_ok h1; subst e
  obtain ⟨a2, l, e, h3⟩ := sy_xi_ok h2; subst e
  obtain ⟨l, e, h4⟩ := sy_xc_ok h3; subst e
  obtain ⟨e, h5⟩ := sy_xn_ok h4; subst e
  exact ⟨_, h5, fun r1 h0 => ⟨qL_fair, rfl, rfl, jtL_fair _ _ M r1 h0⟩⟩
/-! X12_fair StairMeterModel fair (II)I [('R', 121), 'I', 'I'] -/
def juX12_fair_78 (k : Int32 → Int32 → Int32 → Int32 → Int32 → sy_M → sy_O) (ls st : List Value) (M : sy_M) : sy_O := sy_xc 121 ls fun l => sy_xi l fun a1 l => sy_xi l fun a2 l => sy_xi l fun a3 l => sy_xi l fun a4 l => sy_xi l fun a5 l => sy_xn l (sy_xn st (k a1 a2 a3 a4 a5 M))
theorem jwX12_fair_78 {d : Nat} {k : Int32 → Int32 → Int32 → Int32 → Int32 → sy_M → sy_O} (hk : ∀ (a1 : Int32) (a2 : Int32) (a3 : Int32) (a4 : Int32) (a5 : Int32) (M : sy_M) (r : xe_R × sy_M), k a1 a2 a3 a4 a5 M = some r → sy_E (d) qX12_fair 78 [.ref 121, .int a1, .int a2, .int a3, .int a4, .int a5] [] M r) : ∀ ls st M r, juX12_fair_78 k ls st M = some r → sy_E d qX12_fair 78 ls st M r := by
  intro ls st M r h
  obtain ⟨l, e, h1⟩ := sy_xc_ok h; subst e
  obtain ⟨a1, l, e, h2⟩ := sy_xi_ok h1; subst e
  obtain ⟨a2, l, e, h3⟩ := sy_xi_ok h2; subst e
  obtain ⟨a3, l, e, h4⟩ := sy_xi_ok h3; subst e
  obtain ⟨a4, l, e, h5⟩ := sy_xi_ok h4; subst e
  obtain ⟨a5, l, e, h6⟩ := sy_xi_ok h5; subst e
  obtain ⟨e, h7⟩ := sy_xn_ok h6; subst e
  obtain ⟨e, h8⟩ := sy_xn_ok h7; subst e
  exact hk a1 a2 a3 a4 a5 M r h8
def juX12_fair_46 (k : Int32 → Int32 → Int32 → Int32 → sy_M → sy_O) (ls st : List Value) (M : sy_M) : sy_O := sy_xc 121 ls fun l => sy_xi l fun a1 l => sy_xi l fun a2 l => sy_xi l fun a3 l => sy_xi l fun a4 l => sy_xv l fun _ l => sy_xn l (sy_xn st (k a1 a2 a3 a4 M))
theorem jwX12_fair_46 {d : Nat} {k : Int32 → Int32 → Int32 → Int32 → sy_M → sy_O} (hk : ∀ (w5 : Value) (a1 : Int32) (a2 : Int32) (a3 : Int32) (a4 : Int32) (M : sy_M) (r : xe_R × sy_M), k a1 a2 a3 a4 M = some r → sy_E (d) qX12_fair 46 [.ref 121, .int a1, .int a2, .int a3, .int a4, w5] [] M r) : ∀ ls st M r, juX12_fair_46 k ls st M = some r → sy_E d qX12_fair 46 ls st M r := by
  intro ls st M r h
  obtain ⟨l, e, h1⟩ := sy_xc_ok h; subst e
  obtain ⟨a1, l, e, h2⟩ := sy_xi_ok h1; subst e
  obtain ⟨a2, l, e, h3⟩ := sy_xi_ok h2; subst e
  obtain ⟨a3, l, e, h4⟩ := sy_xi_ok h3; subst e
  obtain ⟨a4, l, e, h5⟩ := sy_xi_ok h4; subst e
  obtain ⟨w5, l, e, h6⟩ := sy_xv_ok h5; subst e
  obtain ⟨e, h7⟩ := sy_xn_ok h6; subst e
  obtain ⟨e, h8⟩ := sy_xn_ok h7; subst e
  exact hk _ a1 a2 a3 a4 M r h8
def juX12_fair_29 (k : Int32 → Int32 → Int32 → sy_M → sy_O) (ls st : List Value) (M : sy_M) : sy_O := sy_xc 121 ls fun l => sy_xi l fun a1 l => sy_xi l fun a2 l => sy_xv l fun _ l => sy_xv l fun _ l => sy_xv l fun _ l => sy_xn l (sy_xi st fun s0 l => sy_xc 121 l fun l => sy_xn l (k a1 a2 s0 M))
theorem jwX12_fair_29 {d : Nat} {k : Int32 → Int32 → Int32 → sy_M → sy_O} (hk : ∀ (w3 : Value) (w4 : Value) (w5 : Value) (a1 : Int32) (a2 : Int32) (s0 : Int32) (M : sy_M) (r : xe_R × sy_M), k a1 a2 s0 M = some r → sy_E (d) qX12_fair 29 [.ref 121, .int a1, .int a2, w3, w4, w5] [.int s0, .ref 121] M r) : ∀ ls st M r, juX12_fair_29 k ls st M = some r → sy_E d qX12_fair 29 ls st M r := by
  intro ls st M r h
  obtain ⟨l, e, h1⟩ := sy_xc_ok h; subst e
  obtain ⟨a1, l, e, h2⟩ := sy_xi_ok h1; subst e
  obtain ⟨a2, l, e, h3⟩ := sy_xi_ok h2; subst e
  obtain ⟨w3, l, e, h4⟩ := sy_xv_ok h3; subst e
  obtain ⟨w4, l, e, h5⟩ := sy_xv_ok h4; subst e
  obtain ⟨w5, l, e, h6⟩ := sy_xv_ok h5; subst e
  obtain ⟨e, h7⟩ := sy_xn_ok h6; subst e
  obtain ⟨s0, l, e, h8⟩ := sy_xi_ok h7; subst e
  obtain ⟨l, e, h9⟩ := sy_xc_ok h8; subst e
  obtain ⟨e, h10⟩ := sy_xn_ok h9; subst e
  exact hk _ _ _ a1 a2 s0 M r h10
def jgX12_fair_78 (k78 : Int32 → Int32 → Int32 → Int32 → Int32 → sy_M → sy_O) (a1 : Int32) (a2 : Int32) (a3 : Int32) (a4 : Int32) (a5 : Int32) (M : sy_M) : sy_O :=
  if a5 < (M 122 3) then
    sy_bi (jfX12_metered a5 M) fun v4 M3 =>
    if a3 = 0 then none else
    let v5 := (a4 - ((a2 * v4) / a3))
    let v6 := a5 + 1
    k78 a1 a2 a3 v5 v6 M3
  else
    sy_bi (jfX12_metered a1 M) fun v2 M1 =>
    if a3 = 0 then none else
    if a1 < a4 then
      sy_ri (((a2 * v2) / a3) + 1) M1
    else
      sy_ri (((a2 * v2) / a3) + 0) M1
def jfX12_fair_78 : Nat → Int32 → Int32 → Int32 → Int32 → Int32 → sy_M → sy_O
  | 0, _, _, _, _, _, _ => none
  | n + 1, a1, a2, a3, a4, a5, M => jgX12_fair_78 (jfX12_fair_78 n) a1 a2 a3 a4 a5 M
set_option maxRecDepth 100000 in
theorem jrX12_fair_78 (k78 : Int32 → Int32 → Int32 → Int32 → Int32 → sy_M → sy_O) (a1 : Int32) (a2 : Int32) (a3 : Int32) (a4 : Int32) (a5 : Int32) (M : sy_M) : sy_run skX12 qX12_fair [(78, .iload 5, 2, []), (80, .aload_n 0, 1, []), (81, .getfield 7, 3, []), (84, .iconst 3, 1, []), (85, .iaload, 1, []), (86, .if_icmp .ge 24, 3, []), (89, .iload 4, 2, []), (91, .iload_n 2, 1, []), (92, .aload_n 0, 1, []), (93, .iload 5, 2, []), (95, .invokevirtual 293, 3, []), (98, .imul, 1, []), (99, .iload_n 3, 1, []), (100, .idiv, 1, []), (101, .isub, 1, []), (102, .istore 4, 2, []), (104, .iinc 5 1, 3, []), (107, .goto (-29), 3, []), (110, .iload_n 2, 1, [true, true, true, true, true, false]), (111, .aload_n 0, 1, []), (112, .iload_n 1, 1, []), (113, .invokevirtual 293, 3, []), (116, .imul, 1, []), (117, .iload_n 3, 1, []), (118, .idiv, 1, []), (119, .iload_n 1, 1, []), (120, .iload 4, 2, []), (122, .if_icmp .ge 7, 3, []), (125, .iconst 1, 1, []), (126, .goto 4, 3, []), (129, .iconst 0, 1, [false, false, false, false, false, false]), (130, .iadd, 1, [false, false, false, false, false, false]), (131, .ireturn, 1, [])] [(238, 0, jcX12_metered)] [(78, juX12_fair_78 k78)] 34 [] 78 [.ref 121, .int a1, .int a2, .int a3, .int a4, .int a5] [] M = jgX12_fair_78 k78 a1 a2 a3 a4 a5 M := rfl
theorem jtX12_fair_78 : ∀ n : Nat, ∀ (a1 : Int32) (a2 : Int32) (a3 : Int32) (a4 : Int32) (a5 : Int32) (M : sy_M) (r : xe_R × sy_M), jfX12_fair_78 n a1 a2 a3 a4 a5 M = some r → sy_E (5) qX12_fair 78 [.ref 121, .int a1, .int a2, .int a3, .int a4, .int a5] [] M r := by
  intro n
  induction n with
  | zero => intro a1 a2 a3 a4 a5 M r h; exact absurd (show (none : sy_O) = some r from h) (by simp)
  | succ n ih => intro a1 a2 a3 a4 a5 M r h; exact sy_run_by (d := 4) ((jrX12_fair_78 _ _ _ _ _ _ M).trans h) hkX12 (by decide +kernel) (sy_cs_cons (jeX12_metered.deep (by decide)) sy_cs_nil) (sy_us_cons (jwX12_fair_78 ih) sy_us_nil)
def jgX12_fair_46 (k46 : Int32 → Int32 → Int32 → Int32 → sy_M → sy_O) (a1 : Int32) (a2 : Int32) (a3 : Int32) (a4 : Int32) (M : sy_M) : sy_O :=
  if a4 < (M 122 3) then
    sy_bi (jfX12_metered a4 M) fun v2 M1 =>
    let v3 := (a3 + v2)
    let v4 := a4 + 1
    k46 a1 a2 v3 v4 M1
  else
    jfX12_fair_78 sy_F a1 a2 a3 a2 0 M
def jfX12_fair_46 : Nat → Int32 → Int32 → Int32 → Int32 → sy_M → sy_O
  | 0, _, _, _, _, _ => none
  | n + 1, a1, a2, a3, a4, M => jgX12_fair_46 (jfX12_fair_46 n) a1 a2 a3 a4 M
set_option maxRecDepth 100000 in
theorem jrX12_fair_46 (k46 : Int32 → Int32 → Int32 → Int32 → sy_M → sy_O) (w5 : Value) (a1 : Int32) (a2 : Int32) (a3 : Int32) (a4 : Int32) (M : sy_M) : sy_run skX12 qX12_fair [(46, .iload 4, 2, [true, true, true, true, true, false]), (48, .aload_n 0, 1, []), (49, .getfield 7, 3, []), (52, .iconst 3, 1, []), (53, .iaload, 1, []), (54, .if_icmp .ge 18, 3, []), (57, .iload_n 3, 1, []), (58, .aload_n 0, 1, []), (59, .iload 4, 2, []), (61, .invokevirtual 293, 3, []), (64, .iadd, 1, []), (65, .istore_n 3, 1, []), (66, .iinc 4 1, 3, []), (69, .goto (-23), 3, []), (72, .iload_n 2, 1, [true, true, true, true, false, false]), (73, .istore 4, 2, []), (75, .iconst 0, 1, []), (76, .istore 5, 2, [])] [(238, 0, jcX12_metered)] [(78, juX12_fair_78 (jfX12_fair_78 sy_F)), (46, juX12_fair_46 k46)] 19 [] 46 [.ref 121, .int a1, .int a2, .int a3, .int a4, w5] [] M = jgX12_fair_46 k46 a1 a2 a3 a4 M := rfl
theorem jtX12_fair_46 : ∀ n : Nat, ∀ (w5 : Value) (a1 : Int32) (a2 : Int32) (a3 : Int32) (a4 : Int32) (M : sy_M) (r : xe_R × sy_M), jfX12_fair_46 n a1 a2 a3 a4 M = some r → sy_E (5) qX12_fair 46 [.ref 121, .int a1, .int a2, .int a3, .int a4, w5] [] M r := by
  intro n
  induction n with
  | zero => intro w5 a1 a2 a3 a4 M r h; exact absurd (show (none : sy_O) = some r from h) (by simp)
  | succ n ih => intro w5 a1 a2 a3 a4 M r h; exact sy_run_by (d := 4) ((jrX12_fair_46 _ _ _ _ _ _ M).trans h) hkX12 (by decide +kernel) (sy_cs_cons (jeX12_metered.deep (by decide)) sy_cs_nil) (sy_us_cons (jwX12_fair_78 (jtX12_fair_78 sy_F)) (sy_us_cons (jwX12_fair_46 ih) sy_us_nil))
def jfX12_fair_29 (a1 : Int32) (a2 : Int32) (s0 : Int32) (M : sy_M) : sy_O :=
  let M1 := sy_upd M 121 0 s0
  if 0 < (M1 121 0) then
    sy_ri 0 M1
  else
    jfX12_fair_46 sy_F a1 a2 0 0 M1
set_option maxRecDepth 100000 in
theorem jrX12_fair_29 (w3 : Value) (w4 : Value) (w5 : Value) (a1 : Int32) (a2 : Int32) (s0 : Int32) (M : sy_M) : sy_run skX12 qX12_fair [(29, .putfield 45, 3, [true, true, true, false, false, false]), (32, .aload_n 0, 1, []), (33, .getfield 45, 3, []), (36, .ifCond .le 5, 3, []), (39, .iconst 0, 1, []), (40, .ireturn, 1, []), (41, .iconst 0, 1, [true, true, true, false, false, false]), (42, .istore_n 3, 1, []), (43, .iconst 0, 1, []), (44, .istore 4, 2, [])] [] [(46, juX12_fair_46 (jfX12_fair_46 sy_F))] 11 [] 29 [.ref 121, .int a1, .int a2, w3, w4, w5] [.int s0, .ref 121] M = jfX12_fair_29 a1 a2 s0 M := rfl
theorem jtX12_fair_29 : ∀ (w3 : Value) (w4 : Value) (w5 : Value) (a1 : Int32) (a2 : Int32) (s0 : Int32) (M : sy_M) (r : xe_R × sy_M), jfX12_fair_29 a1 a2 s0 M = some r → sy_E (5) qX12_fair 29 [.ref 121, .int a1, .int a2, w3, w4, w5] [.int s0, .ref 121] M r := by
  intro w3 w4 w5 a1 a2 s0 M r h
  exact sy_run_by (d := 4) ((jrX12_fair_29 _ _ _ _ _ _ M).trans h) hkX12 (by decide +kernel) sy_cs_nil (sy_us_cons (jwX12_fair_46 (jtX12_fair_46 sy_F)) sy_us_nil)
def jfX12_fair (a1 : Int32) (a2 : Int32) (M : sy_M) : sy_O :=
  sy_bi (jfX12_isLodger a1 M) fun v2 M1 =>
  if v2 = 0 then
    jfX12_fair_29 a1 a2 1 M1
  else
    sy_bi (jfX12_isIn a2 0 999 M1) fun v4 M3 =>
    if v4 = 0 then
      jfX12_fair_29 a1 a2 2 M3
    else
      jfX12_fair_29 a1 a2 0 M3
set_option maxRecDepth 100000 in
theorem jrX12_fair (a1 : Int32) (a2 : Int32) (M : sy_M) : sy_run skX12 qX12_fair [(0, .aload_n 0, 1, []), (1, .aload_n 0, 1, []), (2, .iload_n 1, 1, []), (3, .invokevirtual 284, 3, []), (6, .ifCond .ne 7, 3, []), (9, .iconst 1, 1, []), (10, .goto 19, 3, []), (13, .iload_n 2, 1, [true, true, true, false, false, false]), (14, .iconst 0, 1, []), (15, .sipush 999, 3, []), (18, .invokestatic 48, 3, []), (21, .ifCond .ne 7, 3, []), (24, .iconst 2, 1, []), (25, .goto 4, 3, []), (28, .iconst 0, 1, [true, true, true, false, false, false])] [(190, 0, jcX12_isLodger), (182, 0, jcX12_isIn)] [(29, juX12_fair_29 (jfX12_fair_29))] 16 [] 0 [.ref 121, .int a1, .int a2, xe_no, xe_no, xe_no] [] M = jfX12_fair a1 a2 M := rfl
theorem jtX12_fair : ∀ (a1 : Int32) (a2 : Int32) (M : sy_M) (r : xe_R × sy_M), jfX12_fair a1 a2 M = some r → sy_E (5) qX12_fair 0 [.ref 121, .int a1, .int a2, xe_no, xe_no, xe_no] [] M r := by
  intro a1 a2 M r h
  exact sy_run_by (d := 4) ((jrX12_fair _ _ M).trans h) hkX12 (by decide +kernel) (sy_cs_cons (jeX12_isLodger.deep (by decide)) (sy_cs_cons (jeX12_isIn.deep (by decide)) sy_cs_nil)) (sy_us_cons (jwX12_fair_29 (jtX12_fair_29)) sy_us_nil)
def jcX12_fair (as : List Value) (M : sy_M) (K : sy_O → sy_O) : sy_O := sy_xc 121 as fun l => sy_xi l fun a1 l => sy_xi l fun a2 l => sy_xn l (K (jfX12_fair a1 a2 M))
theorem jeX12_fair : sy_snd (5) 273 (jcX12_fair) := by
  intro as M K r h
  obtain ⟨l, e, h1⟩ := sy_xc_ok h; subst e
  obtain ⟨a1, l, e, h2⟩ := sy_xi_ok h1; subst e
  obtain ⟨a2, l, e, h3⟩ := sy_xi_ok h2; subst e
  obtain ⟨e, h4⟩ := sy_xn_ok h3; subst e
  exact ⟨_, h4, fun r1 h0 => ⟨qX12_fair, rfl, rfl, jtX12_fair _ _ M r1 h0⟩⟩
/-! J9_max_7cf53 java/lang/Math max (II)I ['I', 'I'] -/
def jfJ9_max_7cf53 (a0 : Int32) (a1 : Int32) (M : sy_M) : sy_O :=
  if a0 < a1 then
    sy_ri a1 M
  else
    sy_ri a0 M
set_option maxRecDepth 100000 in
theorem jrJ9_max_7cf53 (a0 : Int32) (a1 : Int32) (M : sy_M) : sy_run (xe_lk (xe_link qJ9_max_7cf53)) qJ9_max_7cf53 [(0, .iload_n 0, 1, []), (1, .iload_n 1, 1, []), (2, .if_icmp .lt 7, 3, []), (5, .iload_n 0, 1, []), (6, .goto 4, 3, []), (9, .iload_n 1, 1, [false, true]), (10, .ireturn, 1, [false, false])] [] [] 8 [] 0 [.int a0, .int a1] [] M = jfJ9_max_7cf53 a0 a1 M := rfl
theorem jtJ9_max_7cf53 : ∀ (a0 : Int32) (a1 : Int32) (M : sy_M) (r : xe_R × sy_M), jfJ9_max_7cf53 a0 a1 M = some r → sy_E (1) qJ9_max_7cf53 0 [.int a0, .int a1] [] M r := by
  intro a0 a1 M r h
  exact sy_run_by (d := 0) ((jrJ9_max_7cf53 _ _ M).trans h) (fun _ => rfl) (by decide +kernel) sy_cs_nil sy_us_nil
def jcJ9_max_7cf53 (as : List Value) (M : sy_M) (K : sy_O → sy_O) : sy_O := sy_xi as fun a0 l => sy_xi l fun a1 l => sy_xn l (K (jfJ9_max_7cf53 a0 a1 M))
theorem jeJ9_max_7cf53 : sy_snd (1) 359 (jcJ9_max_7cf53) := by
  intro as M K r h
  obtain ⟨a0, l, e, h1⟩ := sy_xi_ok h; subst e
  obtain ⟨a1, l, e, h2⟩ := sy_xi_ok h1; subst e
  obtain ⟨e, h3⟩ := sy_xn_ok h2; subst e
  exact ⟨_, h3, fun r1 h0 => ⟨qJ9_max_7cf53, rfl, rfl, jtJ9_max_7cf53 _ _ M r1 h0⟩⟩
/-! X11_mostNeeds StairMeter mostNeeds (I)I [('R', 0), 'I'] -/
def juX11_mostNeeds_4 (k : Int32 → Int32 → Int32 → sy_M → sy_O) (ls st : List Value) (M : sy_M) : sy_O := sy_xc 0 ls fun l => sy_xi l fun a1 l => sy_xi l fun a2 l => sy_xi l fun a3 l => sy_xn l (sy_xn st (k a1 a2 a3 M))
theorem jwX11_mostNeeds_4 {d : Nat} {k : Int32 → Int32 → Int32 → sy_M → sy_O} (hk : ∀ (a1 : Int32) (a2 : Int32) (a3 : Int32) (M : sy_M) (r : xe_R × sy_M), k a1 a2 a3 M = some r → sy_E (d) qX11_mostNeeds 4 [.ref 0, .int a1, .int a2, .int a3] [] M r) : ∀ ls st M r, juX11_mostNeeds_4 k ls st M = some r → sy_E d qX11_mostNeeds 4 ls st M r := by
  intro ls st M r h
  obtain ⟨l, e, h1⟩ := sy_xc_ok h; subst e
  obtain ⟨a1, l, e, h2⟩ := sy_xi_ok h1; subst e
  obtain ⟨a2, l, e, h3⟩ := sy_xi_ok h2; subst e
  obtain ⟨a3, l, e, h4⟩ := sy_xi_ok h3; subst e
  obtain ⟨e, h5⟩ := sy_xn_ok h4; subst e
  obtain ⟨e, h6⟩ := sy_xn_ok h5; subst e
  exact hk a1 a2 a3 M r h6
def jgX11_mostNeeds_4 (k4 : Int32 → Int32 → Int32 → sy_M → sy_O) (a1 : Int32) (a2 : Int32) (a3 : Int32) (M : sy_M) : sy_O :=
  if a3 < 48 then
    sy_bi (jfX8_presentAt a3 M) fun v2 M1 =>
    sy_bi (jfX2_burnt 9 (a1 &&& v2) M1) fun v4 M3 =>
    sy_bi (jfJ9_max_7cf53 a2 v4 M3) fun v6 M5 =>
    let v7 := a3 + 1
    k4 a1 v6 v7 M5
  else
    sy_ri a2 M
def jfX11_mostNeeds_4 : Nat → Int32 → Int32 → Int32 → sy_M → sy_O
  | 0, _, _, _, _ => none
  | n + 1, a1, a2, a3, M => jgX11_mostNeeds_4 (jfX11_mostNeeds_4 n) a1 a2 a3 M
set_option maxRecDepth 100000 in
theorem jrX11_mostNeeds_4 (k4 : Int32 → Int32 → Int32 → sy_M → sy_O) (a1 : Int32) (a2 : Int32) (a3 : Int32) (M : sy_M) : sy_run skX11 qX11_mostNeeds [(4, .iload_n 3, 1, []), (5, .bipush 48, 2, []), (7, .if_icmp .ge 31, 3, []), (10, .iload_n 2, 1, []), (11, .aload_n 0, 1, []), (12, .getfield 28, 3, []), (15, .iload_n 1, 1, []), (16, .aload_n 0, 1, []), (17, .getfield 75, 3, []), (20, .iload_n 3, 1, []), (21, .invokevirtual 245, 3, []), (24, .iand, 1, []), (25, .invokevirtual 321, 3, []), (28, .invokestatic 324, 3, []), (31, .istore_n 2, 1, []), (32, .iinc 3 1, 3, []), (35, .goto (-31), 3, []), (38, .iload_n 2, 1, [false, false, true, false]), (39, .ireturn, 1, [])] [(64, 0, jcX8_presentAt), (16, 0, jcX2_burnt), (359, 0, jcJ9_max_7cf53)] [(4, juX11_mostNeeds_4 k4)] 20 [] 4 [.ref 0, .int a1, .int a2, .int a3] [] M = jgX11_mostNeeds_4 k4 a1 a2 a3 M := rfl
theorem jtX11_mostNeeds_4 : ∀ n : Nat, ∀ (a1 : Int32) (a2 : Int32) (a3 : Int32) (M : sy_M) (r : xe_R × sy_M), jfX11_mostNeeds_4 n a1 a2 a3 M = some r → sy_E (3) qX11_mostNeeds 4 [.ref 0, .int a1, .int a2, .int a3] [] M r := by
  intro n
  induction n with
  | zero => intro a1 a2 a3 M r h; exact absurd (show (none : sy_O) = some r from h) (by simp)
  | succ n ih => intro a1 a2 a3 M r h; exact sy_run_by (d := 2) ((jrX11_mostNeeds_4 _ _ _ _ M).trans h) hkX11 (by decide +kernel) (sy_cs_cons (jeX8_presentAt.deep (by decide)) (sy_cs_cons (jeX2_burnt.deep (by decide)) (sy_cs_cons (jeJ9_max_7cf53.deep (by decide)) sy_cs_nil))) (sy_us_cons (jwX11_mostNeeds_4 ih) sy_us_nil)
def jfX11_mostNeeds (a1 : Int32) (M : sy_M) : sy_O :=
  jfX11_mostNeeds_4 sy_F a1 0 0 M
set_option maxRecDepth 100000 in
theorem jrX11_mostNeeds (a1 : Int32) (M : sy_M) : sy_run skX11 qX11_mostNeeds [(0, .iconst 0, 1, []), (1, .istore_n 2, 1, []), (2, .iconst 0, 1, []), (3, .istore_n 3, 1, [])] [] [(4, juX11_mostNeeds_4 (jfX11_mostNeeds_4 sy_F))] 5 [] 0 [.ref 0, .int a1, xe_no, xe_no] [] M = jfX11_mostNeeds a1 M := rfl
theorem jtX11_mostNeeds : ∀ (a1 : Int32) (M : sy_M) (r : xe_R × sy_M), jfX11_mostNeeds a1 M = some r → sy_E (3) qX11_mostNeeds 0 [.ref 0, .int a1, xe_no, xe_no] [] M r := by
  intro a1 M r h
  exact sy_run_by (d := 2) ((jrX11_mostNeeds _ M).trans h) hkX11 (by decide +kernel) sy_cs_nil (sy_us_cons (jwX11_mostNeeds_4 (jtX11_mostNeeds_4 sy_F)) sy_us_nil)
def jcX11_mostNeeds (as : List Value) (M : sy_M) (K : sy_O → sy_O) : sy_O := sy_xc 0 as fun l => sy_xi l fun a1 l => sy_xn l (K (jfX11_mostNeeds a1 M))
theorem jeX11_mostNeeds : sy_snd (3) 134 (jcX11_mostNeeds) := by
  intro as M K r h
  obtain ⟨l, e, h1⟩ := sy_xc_ok h; subst e
  obtain ⟨a1, l, e, h2⟩ := sy_xi_ok h1; subst e
  obtain ⟨e, h3⟩ := sy_xn_ok h2; subst e
  exact ⟨_, h3, fun r1 h0 => ⟨qX11_mostNeeds, rfl, rfl, jtX11_mostNeeds _ M r1 h0⟩⟩
/-! X11_tops StairMeter tops (I)I [('R', 0), 'I'] -/
def jfX11_tops (a1 : Int32) (M : sy_M) : sy_O :=
  sy_bv (jfX8_learn 9 M) fun M1 =>
  sy_bi (jfX11_mostNeeds a1 M1) fun v3 M2 =>
  sy_ri v3 M2
set_option maxRecDepth 100000 in
theorem jrX11_tops (a1 : Int32) (M : sy_M) : sy_run skX11 qX11_tops [(0, .aload_n 0, 1, []), (1, .getfield 75, 3, []), (4, .aload_n 0, 1, []), (5, .getfield 28, 3, []), (8, .invokevirtual 181, 3, []), (11, .aload_n 0, 1, []), (12, .iload_n 1, 1, []), (13, .invokevirtual 315, 3, []), (16, .ireturn, 1, [])] [(63, 1, jcX8_learn), (134, 0, jcX11_mostNeeds)] [] 10 [] 0 [.ref 0, .int a1] [] M = jfX11_tops a1 M := rfl
theorem jtX11_tops : ∀ (a1 : Int32) (M : sy_M) (r : xe_R × sy_M), jfX11_tops a1 M = some r → sy_E (4) qX11_tops 0 [.ref 0, .int a1] [] M r := by
  intro a1 M r h
  exact sy_run_by (d := 3) ((jrX11_tops _ M).trans h) hkX11 (by decide +kernel) (sy_cs_cons (jeX8_learn.deep (by decide)) (sy_cs_cons (jeX11_mostNeeds.deep (by decide)) sy_cs_nil)) sy_us_nil
def jcX11_tops (as : List Value) (M : sy_M) (K : sy_O → sy_O) : sy_O := sy_xc 0 as fun l => sy_xi l fun a1 l => sy_xn l (K (jfX11_tops a1 M))
theorem jeX11_tops : sy_snd (4) 132 (jcX11_tops) := by
  intro as M K r h
  obtain ⟨l, e, h1⟩ := sy_xc_ok h; subst e
  obtain ⟨a1, l, e, h2⟩ := sy_xi_ok h1; subst e
  obtain ⟨e, h3⟩ := sy_xn_ok h2; subst e
  exact ⟨_, h3, fun r1 h0 => ⟨qX11_tops, rfl, rfl, jtX11_tops _ M r1 h0⟩⟩
/-! X12_topsOf StairMeterModel topsOf (I)I [('R', 121), 'I'] -/
def juX12_topsOf_4 (k : Int32 → Int32 → Int32 → sy_M → sy_O) (ls st : List Value) (M : sy_M) : sy_O := sy_xc 121 ls fun l => sy_xi l fun a1 l => sy_xi l fun a2 l => sy_xi l fun a3 l => sy_xn l (sy_xn st (k a1 a2 a3 M))
theorem jwX12_topsOf_4 {d : Nat} {k : Int32 → Int32 → Int32 → sy_M → sy_O} (hk : ∀ (a1 : Int32) (a2 : Int32) (a3 : Int32) (M : sy_M) (r : xe_R × sy_M), k a1 a2 a3 M = some r → sy_E (d) qX12_topsOf 4 [.ref 121, .int a1, .int a2, .int a3] [] M r) : ∀ ls st M r, juX12_topsOf_4 k ls st M = some r → sy_E d qX12_topsOf 4 ls st M r := by
  intro ls st M r h
  obtain ⟨l, e, h1⟩ := sy_xc_ok h; subst e
  obtain ⟨a1, l, e, h2⟩ := sy_xi_ok h1; subst e
  obtain ⟨a2, l, e, h3⟩ := sy_xi_ok h2; subst e
  obtain ⟨a3, l, e, h4⟩ := sy_xi_ok h3; subst e
  obtain ⟨e, h5⟩ := sy_xn_ok h4; subst e
  obtain ⟨e, h6⟩ := sy_xn_ok h5; subst e
  exact hk a1 a2 a3 M r h6
def jgX12_topsOf_4 (k4 : Int32 → Int32 → Int32 → sy_M → sy_O) (a1 : Int32) (a2 : Int32) (a3 : Int32) (M : sy_M) : sy_O :=
  if a3 < 48 then
    sy_bi (jfX12_homeIn a3 M) fun v2 M1 =>
    sy_bi (jfX12_burnsOf (v2 &&& a1) M1) fun v4 M3 =>
    sy_bi (jfX12_greater a2 v4 M3) fun v6 M5 =>
    let v7 := a3 + 1
    k4 a1 v6 v7 M5
  else
    sy_ri a2 M
def jfX12_topsOf_4 : Nat → Int32 → Int32 → Int32 → sy_M → sy_O
  | 0, _, _, _, _ => none
  | n + 1, a1, a2, a3, M => jgX12_topsOf_4 (jfX12_topsOf_4 n) a1 a2 a3 M
set_option maxRecDepth 100000 in
theorem jrX12_topsOf_4 (k4 : Int32 → Int32 → Int32 → sy_M → sy_O) (a1 : Int32) (a2 : Int32) (a3 : Int32) (M : sy_M) : sy_run skX12 qX12_topsOf [(4, .iload_n 3, 1, []), (5, .bipush 48, 2, []), (7, .if_icmp .ge 25, 3, []), (10, .iload_n 2, 1, []), (11, .aload_n 0, 1, []), (12, .aload_n 0, 1, []), (13, .iload_n 3, 1, []), (14, .invokevirtual 63, 3, []), (17, .iload_n 1, 1, []), (18, .iand, 1, []), (19, .invokevirtual 67, 3, []), (22, .invokestatic 333, 3, []), (25, .istore_n 2, 1, []), (26, .iinc 3 1, 3, []), (29, .goto (-25), 3, []), (32, .iload_n 2, 1, [false, false, true, false]), (33, .ireturn, 1, [])] [(193, 0, jcX12_homeIn), (194, 0, jcX12_burnsOf), (184, 0, jcX12_greater)] [(4, juX12_topsOf_4 k4)] 18 [] 4 [.ref 121, .int a1, .int a2, .int a3] [] M = jgX12_topsOf_4 k4 a1 a2 a3 M := rfl
theorem jtX12_topsOf_4 : ∀ n : Nat, ∀ (a1 : Int32) (a2 : Int32) (a3 : Int32) (M : sy_M) (r : xe_R × sy_M), jfX12_topsOf_4 n a1 a2 a3 M = some r → sy_E (4) qX12_topsOf 4 [.ref 121, .int a1, .int a2, .int a3] [] M r := by
  intro n
  induction n with
  | zero => intro a1 a2 a3 M r h; exact absurd (show (none : sy_O) = some r from h) (by simp)
  | succ n ih => intro a1 a2 a3 M r h; exact sy_run_by (d := 3) ((jrX12_topsOf_4 _ _ _ _ M).trans h) hkX12 (by decide +kernel) (sy_cs_cons (jeX12_homeIn.deep (by decide)) (sy_cs_cons (jeX12_burnsOf.deep (by decide)) (sy_cs_cons (jeX12_greater.deep (by decide)) sy_cs_nil))) (sy_us_cons (jwX12_topsOf_4 ih) sy_us_nil)
def jfX12_topsOf (a1 : Int32) (M : sy_M) : sy_O :=
  jfX12_topsOf_4 sy_F a1 0 0 M
set_option maxRecDepth 100000 in
theorem jrX12_topsOf (a1 : Int32) (M : sy_M) : sy_run skX12 qX12_topsOf [(0, .iconst 0, 1, []), (1, .istore_n 2, 1, []), (2, .iconst 0, 1, []), (3, .istore_n 3, 1, [])] [] [(4, juX12_topsOf_4 (jfX12_topsOf_4 sy_F))] 5 [] 0 [.ref 121, .int a1, xe_no, xe_no] [] M = jfX12_topsOf a1 M := rfl
theorem jtX12_topsOf : ∀ (a1 : Int32) (M : sy_M) (r : xe_R × sy_M), jfX12_topsOf a1 M = some r → sy_E (4) qX12_topsOf 0 [.ref 121, .int a1, xe_no, xe_no] [] M r := by
  intro a1 M r h
  exact sy_run_by (d := 3) ((jrX12_topsOf _ M).trans h) hkX12 (by decide +kernel) sy_cs_nil (sy_us_cons (jwX12_topsOf_4 (jtX12_topsOf_4 sy_F)) sy_us_nil)
def jcX12_topsOf (as : List Value) (M : sy_M) (K : sy_O → sy_O) : sy_O := sy_xc 121 as fun l => sy_xi l fun a1 l => sy_xn l (K (jfX12_topsOf a1 M))
theorem jeX12_topsOf : sy_snd (4) 274 (jcX12_topsOf) := by
  intro as M K r h
  obtain ⟨l, e, h1⟩ := sy_xc_ok h; subst e
  obtain ⟨a1, l, e, h2⟩ := sy_xi_ok h1; subst e
  obtain ⟨e, h3⟩ := sy_xn_ok h2; subst e
  exact ⟨_, h3, fun r1 h0 => ⟨qX12_topsOf, rfl, rfl, jtX12_topsOf _ M r1 h0⟩⟩
/-! X12_tops StairMeterModel tops (I)I [('R', 121), 'I'] -/
def jfX12_tops (a1 : Int32) (M : sy_M) : sy_O :=
  let M1 := sy_upd M 121 0 0
  sy_bi (jfX12_topsOf a1 M1) fun v3 M2 =>
  sy_ri v3 M2
set_option maxRecDepth 100000 in
theorem jrX12_tops (a1 : Int32) (M : sy_M) : sy_run skX12 qX12_tops [(0, .aload_n 0, 1, []), (1, .iconst 0, 1, []), (2, .putfield 45, 3, []), (5, .aload_n 0, 1, []), (6, .iload_n 1, 1, []), (7, .invokevirtual 343, 3, []), (10, .ireturn, 1, [])] [(274, 0, jcX12_topsOf)] [] 8 [] 0 [.ref 121, .int a1] [] M = jfX12_tops a1 M := rfl
theorem jtX12_tops : ∀ (a1 : Int32) (M : sy_M) (r : xe_R × sy_M), jfX12_tops a1 M = some r → sy_E (5) qX12_tops 0 [.ref 121, .int a1] [] M r := by
  intro a1 M r h
  exact sy_run_by (d := 4) ((jrX12_tops _ M).trans h) hkX12 (by decide +kernel) (sy_cs_cons (jeX12_topsOf.deep (by decide)) sy_cs_nil) sy_us_nil
def jcX12_tops (as : List Value) (M : sy_M) (K : sy_O → sy_O) : sy_O := sy_xc 121 as fun l => sy_xi l fun a1 l => sy_xn l (K (jfX12_tops a1 M))
theorem jeX12_tops : sy_snd (5) 275 (jcX12_tops) := by
  intro as M K r h
  obtain ⟨l, e, h1⟩ := sy_xc_ok h; subst e
  obtain ⟨a1, l, e, h2⟩ := sy_xi_ok h1; subst e
  obtain ⟨e, h3⟩ := sy_xn_ok h2; subst e
  exact ⟨_, h3, fun r1 h0 => ⟨qX12_tops, rfl, rfl, jtX12_tops _ M r1 h0⟩⟩
/-! X11_everybody StairMeter everybody ()I [('R', 0)] -/
def jfX11_everybody (M : sy_M) : sy_O :=
  sy_ri ((1 <<< ((M 9 3) &&& 31)) - 1) M
set_option maxRecDepth 100000 in
theorem jrX11_everybody (M : sy_M) : sy_run skX11 qX11_everybody [(0, .iconst 1, 1, []), (1, .aload_n 0, 1, []), (2, .getfield 28, 3, []), (5, .getfield 207, 3, []), (8, .ishl, 1, []), (9, .iconst 1, 1, []), (10, .isub, 1, []), (11, .ireturn, 1, [])] [] [] 9 [] 0 [.ref 0] [] M = jfX11_everybody M := rfl
theorem jtX11_everybody : ∀ (M : sy_M) (r : xe_R × sy_M), jfX11_everybody M = some r → sy_E (1) qX11_everybody 0 [.ref 0] [] M r := by
  intro  M r h
  exact sy_run_by (d := 0) ((jrX11_everybody M).trans h) hkX11 (by decide +kernel) sy_cs_nil sy_us_nil
def jcX11_everybody (as : List Value) (M : sy_M) (K : sy_O → sy_O) : sy_O := sy_xc 0 as fun l => sy_xn l (K (jfX11_everybody M))
theorem jeX11_everybody : sy_snd (1) 175 (jcX11_everybody) := by
  intro as M K r h
  obtain ⟨l, e, h1⟩ := sy_xc_ok h; subst e
  obtain ⟨e, h2⟩ := sy_xn_ok h1; subst e
  exact ⟨_, h2, fun r1 h0 => ⟨qX11_everybody, rfl, rfl, jtX11_everybody  M r1 h0⟩⟩
/-! X11_stand StairMeter stand (I)I [('R', 0), 'I'] -/
def jfX11_stand (a1 : Int32) (M : sy_M) : sy_O :=
  sy_bv (jfX11_checkLodger a1 M) fun M1 =>
  sy_bv (jfX8_learn 9 M1) fun M2 =>
  sy_bi (jfX11_everybody M2) fun v4 M3 =>
  sy_bi (jfX11_mostNeeds v4 M3) fun v6 M5 =>
  sy_bi (jfX11_everybody M5) fun v8 M7 =>
  sy_bi (jfX11_mostNeeds (v8 &&& ((1 <<< (a1 &&& 31)) ^^^ (-1))) M7) fun v10 M9 =>
  sy_bi (jfX11_hundredths (v6 - v10) v6 M9) fun v12 M11 =>
  sy_ri v12 M11
set_option maxRecDepth 100000 in
theorem jrX11_stand (a1 : Int32) (M : sy_M) : sy_run skX11 qX11_stand [(0, .aload_n 0, 1, []), (1, .iload_n 1, 1, []), (2, .invokevirtual 149, 3, []), (5, .aload_n 0, 1, []), (6, .getfield 75, 3, []), (9, .aload_n 0, 1, []), (10, .getfield 28, 3, []), (13, .invokevirtual 181, 3, []), (16, .aload_n 0, 1, []), (17, .aload_n 0, 1, []), (18, .invokevirtual 318, 3, []), (21, .invokevirtual 315, 3, []), (24, .istore_n 2, 1, []), (25, .iload_n 2, 1, []), (26, .aload_n 0, 1, []), (27, .aload_n 0, 1, []), (28, .invokevirtual 318, 3, []), (31, .iconst 1, 1, []), (32, .iload_n 1, 1, []), (33, .ishl, 1, []), (34, .iconst (-1), 1, []), (35, .ixor, 1, []), (36, .iand, 1, []), (37, .invokevirtual 315, 3, []), (40, .isub, 1, []), (41, .iload_n 2, 1, []), (42, .invokestatic 175, 3, []), (45, .ireturn, 1, [])] [(176, 1, jcX11_checkLodger), (63, 1, jcX8_learn), (175, 0, jcX11_everybody), (134, 0, jcX11_mostNeeds), (131, 0, jcX11_hundredths)] [] 29 [] 0 [.ref 0, .int a1, xe_no] [] M = jfX11_stand a1 M := rfl
theorem jtX11_stand : ∀ (a1 : Int32) (M : sy_M) (r : xe_R × sy_M), jfX11_stand a1 M = some r → sy_E (4) qX11_stand 0 [.ref 0, .int a1, xe_no] [] M r := by
  intro a1 M r h
  exact sy_run_by (d := 3) ((jrX11_stand _ M).trans h) hkX11 (by decide +kernel) (sy_cs_cons (jeX11_checkLodger.deep (by decide)) (sy_cs_cons (jeX8_learn.deep (by decide)) (sy_cs_cons (jeX11_everybody.deep (by decide)) (sy_cs_cons (jeX11_mostNeeds.deep (by decide)) (sy_cs_cons (jeX11_hundredths.deep (by decide)) sy_cs_nil))))) sy_us_nil
def jcX11_stand (as : List Value) (M : sy_M) (K : sy_O → sy_O) : sy_O := sy_xc 0 as fun l => sy_xi l fun a1 l => sy_xn l (K (jfX11_stand a1 M))
theorem jeX11_stand : sy_snd (4) 133 (jcX11_stand) := by
  intro as M K r h
  obtain ⟨l, e, h1⟩ := sy_xc_ok h; subst e
  obtain ⟨a1, l, e, h2⟩ := sy_xi_ok h1; subst e
  obtain ⟨e, h3⟩ := sy_xn_ok h2; subst e
  exact ⟨_, h3, fun r1 h0 => ⟨qX11_stand, rfl, rfl, jtX11_stand _ M r1 h0⟩⟩
/-! L_stand StairMeterLaw stand (LStairMeter;I[J)I [('R', 0), 'I', ('R', 132)] -/
def jfL_stand (a1 : Int32) (M : sy_M) : sy_O :=
  sy_hi (jfX11_stand a1 M) (fun v2 M1 =>
    let M5 := sy_wl M1 132 0 (Int32.toInt64 v2)
    sy_ri 0 M5)
  (fun c3 M4 => if c3 = 22 then sy_ri 1 M4 else none)
set_option maxRecDepth 100000 in
theorem jrL_stand (a1 : Int32) (M : sy_M) : sy_run skL qL_stand [(0, .aload_n 2, 1, []), (1, .iconst 0, 1, []), (2, .aload_n 0, 1, []), (3, .iload_n 1, 1, []), (4, .invokevirtual 85, 3, []), (7, .i2l, 1, []), (8, .lastore, 1, []), (9, .goto 6, 3, []), (12, .astore_n 3, 1, [false, false, false, false]), (13, .iconst 1, 1, []), (14, .ireturn, 1, []), (15, .iconst 0, 1, [false, false, false, false]), (16, .ireturn, 1, [])] [(133, 3, jcX11_stand)] [] 14 [] 0 [.ref 0, .int a1, .ref 132, xe_no] [] M = jfL_stand a1 M := rfl
theorem jtL_stand : ∀ (a1 : Int32) (M : sy_M) (r : xe_R × sy_M), jfL_stand a1 M = some r → sy_E (5) qL_stand 0 [.ref 0, .int a1, .ref 132, xe_no] [] M r := by
  intro a1 M r h
  exact sy_run_by (d := 4) ((jrL_stand _ M).trans h) hkL (by decide +kernel) (sy_cs_cons (jeX11_stand.deep (by decide)) sy_cs_nil) sy_us_nil
def jcL_stand (as : List Value) (M : sy_M) (K : sy_O → sy_O) : sy_O := sy_xc 0 as fun l => sy_xi l fun a1 l => sy_xc 132 l fun l => sy_xn l (K (jfL_stand a1 M))
theorem jeL_stand : sy_snd (5) 341 (jcL_stand) := by
  intro as M K r h
  obtain ⟨l, e, h1⟩ := sy_xc_ok h; subst e
  obtain ⟨a1, l, e, h2⟩ := sy_xi_ok h1; subst e
  obtain ⟨l, e, h3⟩ := sy_xc_ok h2; subst e
  obtain ⟨e, h4⟩ := sy_xn_ok h3; subst e
  exact ⟨_, h4, fun r1 h0 => ⟨qL_stand, rfl, rfl, jtL_stand _ M r1 h0⟩⟩
/-! X12_stand StairMeterModel stand (I)I [('R', 121), 'I'] -/
def juX12_stand_14 (k : Int32 → Int32 → sy_M → sy_O) (ls st : List Value) (M : sy_M) : sy_O := sy_xc 121 ls fun l => sy_xi l fun a1 l => sy_xn l (sy_xi st fun s0 l => sy_xc 121 l fun l => sy_xn l (k a1 s0 M))
theorem jwX12_stand_14 {d : Nat} {k : Int32 → Int32 → sy_M → sy_O} (hk : ∀ (a1 : Int32) (s0 : Int32) (M : sy_M) (r : xe_R × sy_M), k a1 s0 M = some r → sy_E (d) qX12_stand 14 [.ref 121, .int a1] [.int s0, .ref 121] M r) : ∀ ls st M r, juX12_stand_14 k ls st M = some r → sy_E d qX12_stand 14 ls st M r := by
  intro ls st M r h
  obtain ⟨l, e, h1⟩ := sy_xc_ok h; subst e
  obtain ⟨a1, l, e, h2⟩ := sy_xi_ok h1; subst e
  obtain ⟨e, h3⟩ := sy_xn_ok h2; subst e
  obtain ⟨s0, l, e, h4⟩ := sy_xi_ok h3; subst e
  obtain ⟨l, e, h5⟩ := sy_xc_ok h4; subst e
  obtain ⟨e, h6⟩ := sy_xn_ok h5; subst e
  exact hk a1 s0 M r h6
def jfX12_stand_14 (a1 : Int32) (s0 : Int32) (M : sy_M) : sy_O :=
  let M1 := sy_upd M 121 0 s0
  if 0 < (M1 121 0) then
    sy_ri 0 M1
  else
    sy_bi (jfX12_all M1) fun v3 M2 =>
    sy_bi (jfX12_topsOf v3 M2) fun v5 M4 =>
    sy_bi (jfX12_all M4) fun v7 M6 =>
    sy_bi (jfX12_topsOf (v7 &&& ((1 <<< (a1 &&& 31)) ^^^ (-1))) M6) fun v9 M8 =>
    sy_bi (jfX12_all M8) fun v11 M10 =>
    sy_bi (jfX12_topsOf v11 M10) fun v13 M12 =>
    if v13 = 0 then none else
    sy_ri ((100 * (v5 - v9)) / v13) M12
set_option maxRecDepth 100000 in
theorem jrX12_stand_14 (a1 : Int32) (s0 : Int32) (M : sy_M) : sy_run skX12 qX12_stand [(14, .putfield 45, 3, []), (17, .aload_n 0, 1, []), (18, .getfield 45, 3, []), (21, .ifCond .le 7, 3, []), (24, .iconst 0, 1, []), (25, .goto 38, 3, []), (28, .bipush 100, 2, []), (30, .aload_n 0, 1, []), (31, .aload_n 0, 1, []), (32, .invokevirtual 287, 3, []), (35, .invokevirtual 343, 3, []), (38, .aload_n 0, 1, []), (39, .aload_n 0, 1, []), (40, .invokevirtual 287, 3, []), (43, .iconst 1, 1, []), (44, .iload_n 1, 1, []), (45, .ishl, 1, []), (46, .iconst (-1), 1, []), (47, .ixor, 1, []), (48, .iand, 1, []), (49, .invokevirtual 343, 3, []), (52, .isub, 1, []), (53, .imul, 1, []), (54, .aload_n 0, 1, []), (55, .aload_n 0, 1, []), (56, .invokevirtual 287, 3, []), (59, .invokevirtual 343, 3, []), (62, .idiv, 1, []), (63, .ireturn, 1, [false, false])] [(197, 0, jcX12_all), (274, 0, jcX12_topsOf)] [] 30 [] 14 [.ref 121, .int a1] [.int s0, .ref 121] M = jfX12_stand_14 a1 s0 M := rfl
theorem jtX12_stand_14 : ∀ (a1 : Int32) (s0 : Int32) (M : sy_M) (r : xe_R × sy_M), jfX12_stand_14 a1 s0 M = some r → sy_E (5) qX12_stand 14 [.ref 121, .int a1] [.int s0, .ref 121] M r := by
  intro a1 s0 M r h
  exact sy_run_by (d := 4) ((jrX12_stand_14 _ _ M).trans h) hkX12 (by decide +kernel) (sy_cs_cons (jeX12_all.deep (by decide)) (sy_cs_cons (jeX12_topsOf.deep (by decide)) sy_cs_nil)) sy_us_nil
def jfX12_stand (a1 : Int32) (M : sy_M) : sy_O :=
  sy_bi (jfX12_isLodger a1 M) fun v2 M1 =>
  if v2 = 0 then
    jfX12_stand_14 a1 1 M1
  else
    jfX12_stand_14 a1 0 M1
set_option maxRecDepth 100000 in
theorem jrX12_stand (a1 : Int32) (M : sy_M) : sy_run skX12 qX12_stand [(0, .aload_n 0, 1, []), (1, .aload_n 0, 1, []), (2, .iload_n 1, 1, []), (3, .invokevirtual 284, 3, []), (6, .ifCond .ne 7, 3, []), (9, .iconst 1, 1, []), (10, .goto 4, 3, []), (13, .iconst 0, 1, [])] [(190, 0, jcX12_isLodger)] [(14, juX12_stand_14 (jfX12_stand_14))] 9 [] 0 [.ref 121, .int a1] [] M = jfX12_stand a1 M := rfl
theorem jtX12_stand : ∀ (a1 : Int32) (M : sy_M) (r : xe_R × sy_M), jfX12_stand a1 M = some r → sy_E (5) qX12_stand 0 [.ref 121, .int a1] [] M r := by
  intro a1 M r h
  exact sy_run_by (d := 4) ((jrX12_stand _ M).trans h) hkX12 (by decide +kernel) (sy_cs_cons (jeX12_isLodger.deep (by decide)) sy_cs_nil) (sy_us_cons (jwX12_stand_14 (jtX12_stand_14)) sy_us_nil)
def jcX12_stand (as : List Value) (M : sy_M) (K : sy_O → sy_O) : sy_O := sy_xc 121 as fun l => sy_xi l fun a1 l => sy_xn l (K (jfX12_stand a1 M))
theorem jeX12_stand : sy_snd (5) 276 (jcX12_stand) := by
  intro as M K r h
  obtain ⟨l, e, h1⟩ := sy_xc_ok h; subst e
  obtain ⟨a1, l, e, h2⟩ := sy_xi_ok h1; subst e
  obtain ⟨e, h3⟩ := sy_xn_ok h2; subst e
  exact ⟨_, h3, fun r1 h0 => ⟨qX12_stand, rfl, rfl, jtX12_stand _ M r1 h0⟩⟩
/-! X11_earned StairMeter earned (I)I [('R', 0), 'I'] -/
def jfX11_earned (a1 : Int32) (M : sy_M) : sy_O :=
  sy_bv (jfX2_takeOver 19 9 M) fun M1 =>
  let M2 := sy_upd M1 19 8 a1
  sy_bi (jfX11_run 48 0 M2) fun v4 M3 =>
  sy_ri v4 M3
set_option maxRecDepth 100000 in
theorem jrX11_earned (a1 : Int32) (M : sy_M) : sy_run skX11 qX11_earned [(0, .aload_n 0, 1, []), (1, .getfield 35, 3, []), (4, .aload_n 0, 1, []), (5, .getfield 28, 3, []), (8, .invokevirtual 115, 3, []), (11, .aload_n 0, 1, []), (12, .getfield 35, 3, []), (15, .iload_n 1, 1, []), (16, .putfield 218, 3, []), (19, .aload_n 0, 1, []), (20, .bipush 48, 2, []), (22, .iconst 0, 1, []), (23, .invokevirtual 295, 3, []), (26, .ireturn, 1, [])] [(9, 1, jcX2_takeOver), (120, 0, jcX11_run)] [] 15 [] 0 [.ref 0, .int a1] [] M = jfX11_earned a1 M := rfl
theorem jtX11_earned : ∀ (a1 : Int32) (M : sy_M) (r : xe_R × sy_M), jfX11_earned a1 M = some r → sy_E (6) qX11_earned 0 [.ref 0, .int a1] [] M r := by
  intro a1 M r h
  exact sy_run_by (d := 5) ((jrX11_earned _ M).trans h) hkX11 (by decide +kernel) (sy_cs_cons (jeX2_takeOver.deep (by decide)) (sy_cs_cons (jeX11_run.deep (by decide)) sy_cs_nil)) sy_us_nil
def jcX11_earned (as : List Value) (M : sy_M) (K : sy_O → sy_O) : sy_O := sy_xc 0 as fun l => sy_xi l fun a1 l => sy_xn l (K (jfX11_earned a1 M))
theorem jeX11_earned : sy_snd (6) 137 (jcX11_earned) := by
  intro as M K r h
  obtain ⟨l, e, h1⟩ := sy_xc_ok h; subst e
  obtain ⟨a1, l, e, h2⟩ := sy_xi_ok h1; subst e
  obtain ⟨e, h3⟩ := sy_xn_ok h2; subst e
  exact ⟨_, h3, fun r1 h0 => ⟨qX11_earned, rfl, rfl, jtX11_earned _ M r1 h0⟩⟩
/-! X11_dear StairMeter dear (Z)I [('R', 0), 'I'] -/
def juX11_dear_72 (k : Int32 → Int32 → Int32 → Int32 → sy_M → sy_O) (ls st : List Value) (M : sy_M) : sy_O := sy_xc 0 ls fun l => sy_xi l fun a1 l => sy_xi l fun a2 l => sy_xi l fun a3 l => sy_xi l fun a4 l => sy_xv l fun _ l => sy_xv l fun _ l => sy_xn l (sy_xn st (k a1 a2 a3 a4 M))
theorem jwX11_dear_72 {d : Nat} {k : Int32 → Int32 → Int32 → Int32 → sy_M → sy_O} (hk : ∀ (w5 : Value) (w6 : Value) (a1 : Int32) (a2 : Int32) (a3 : Int32) (a4 : Int32) (M : sy_M) (r : xe_R × sy_M), k a1 a2 a3 a4 M = some r → sy_E (d) qX11_dear 72 [.ref 0, .int a1, .int a2, .int a3, .int a4, w5, w6] [] M r) : ∀ ls st M r, juX11_dear_72 k ls st M = some r → sy_E d qX11_dear 72 ls st M r := by
  intro ls st M r h
  obtain ⟨l, e, h1⟩ := sy_xc_ok h; subst e
  obtain ⟨a1, l, e, h2⟩ := sy_xi_ok h1; subst e
  obtain ⟨a2, l, e, h3⟩ := sy_xi_ok h2; subst e
  obtain ⟨a3, l, e, h4⟩ := sy_xi_ok h3; subst e
  obtain ⟨a4, l, e, h5⟩ := sy_xi_ok h4; subst e
  obtain ⟨w5, l, e, h6⟩ := sy_xv_ok h5; subst e
  obtain ⟨w6, l, e, h7⟩ := sy_xv_ok h6; subst e
  obtain ⟨e, h8⟩ := sy_xn_ok h7; subst e
  obtain ⟨e, h9⟩ := sy_xn_ok h8; subst e
  exact hk _ _ a1 a2 a3 a4 M r h9
def juX11_dear_66 (k : Int32 → Int32 → Int32 → sy_M → sy_O) (ls st : List Value) (M : sy_M) : sy_O := sy_xc 0 ls fun l => sy_xi l fun a1 l => sy_xv l fun _ l => sy_xv l fun _ l => sy_xi l fun a4 l => sy_xv l fun _ l => sy_xi l fun a6 l => sy_xn l (sy_xn st (k a1 a4 a6 M))
theorem jwX11_dear_66 {d : Nat} {k : Int32 → Int32 → Int32 → sy_M → sy_O} (hk : ∀ (w2 : Value) (w3 : Value) (w5 : Value) (a1 : Int32) (a4 : Int32) (a6 : Int32) (M : sy_M) (r : xe_R × sy_M), k a1 a4 a6 M = some r → sy_E (d) qX11_dear 66 [.ref 0, .int a1, w2, w3, .int a4, w5, .int a6] [] M r) : ∀ ls st M r, juX11_dear_66 k ls st M = some r → sy_E d qX11_dear 66 ls st M r := by
  intro ls st M r h
  obtain ⟨l, e, h1⟩ := sy_xc_ok h; subst e
  obtain ⟨a1, l, e, h2⟩ := sy_xi_ok h1; subst e
  obtain ⟨w2, l, e, h3⟩ := sy_xv_ok h2; subst e
  obtain ⟨w3, l, e, h4⟩ := sy_xv_ok h3; subst e
  obtain ⟨a4, l, e, h5⟩ := sy_xi_ok h4; subst e
  obtain ⟨w5, l, e, h6⟩ := sy_xv_ok h5; subst e
  obtain ⟨a6, l, e, h7⟩ := sy_xi_ok h6; subst e
  obtain ⟨e, h8⟩ := sy_xn_ok h7; subst e
  obtain ⟨e, h9⟩ := sy_xn_ok h8; subst e
  exact hk _ _ _ a1 a4 a6 M r h9
def juX11_dear_52 (k : Int32 → Int32 → Int32 → Int32 → Int32 → sy_M → sy_O) (ls st : List Value) (M : sy_M) : sy_O := sy_xc 0 ls fun l => sy_xi l fun a1 l => sy_xi l fun a2 l => sy_xi l fun a3 l => sy_xi l fun a4 l => sy_xv l fun _ l => sy_xv l fun _ l => sy_xn l (sy_xi st fun s0 l => sy_xn l (k a1 a2 a3 a4 s0 M))
theorem jwX11_dear_52 {d : Nat} {k : Int32 → Int32 → Int32 → Int32 → Int32 → sy_M → sy_O} (hk : ∀ (w5 : Value) (w6 : Value) (a1 : Int32) (a2 : Int32) (a3 : Int32) (a4 : Int32) (s0 : Int32) (M : sy_M) (r : xe_R × sy_M), k a1 a2 a3 a4 s0 M = some r → sy_E (d) qX11_dear 52 [.ref 0, .int a1, .int a2, .int a3, .int a4, w5, w6] [.int s0] M r) : ∀ ls st M r, juX11_dear_52 k ls st M = some r → sy_E d qX11_dear 52 ls st M r := by
  intro ls st M r h
  obtain ⟨l, e, h1⟩ := sy_xc_ok h; subst e
  obtain ⟨a1, l, e, h2⟩ := sy_xi_ok h1; subst e
  obtain ⟨a2, l, e, h3⟩ := sy_xi_ok h2; subst e
  obtain ⟨a3, l, e, h4⟩ := sy_xi_ok h3; subst e
  obtain ⟨a4, l, e, h5⟩ := sy_xi_ok h4; subst e
  obtain ⟨w5, l, e, h6⟩ := sy_xv_ok h5; subst e
  obtain ⟨w6, l, e, h7⟩ := sy_xv_ok h6; subst e
  obtain ⟨e, h8⟩ := sy_xn_ok h7; subst e
  obtain ⟨s0, l, e, h9⟩ := sy_xi_ok h8; subst e
  obtain ⟨e, h10⟩ := sy_xn_ok h9; subst e
  exact hk _ _ a1 a2 a3 a4 s0 M r h10
def juX11_dear_18 (k : Int32 → Int32 → Int32 → Int32 → sy_M → sy_O) (ls st : List Value) (M : sy_M) : sy_O := sy_xc 0 ls fun l => sy_xi l fun a1 l => sy_xi l fun a2 l => sy_xi l fun a3 l => sy_xi l fun a4 l => sy_xv l fun _ l => sy_xv l fun _ l => sy_xn l (sy_xn st (k a1 a2 a3 a4 M))
theorem jwX11_dear_18 {d : Nat} {k : Int32 → Int32 → Int32 → Int32 → sy_M → sy_O} (hk : ∀ (w5 : Value) (w6 : Value) (a1 : Int32) (a2 : Int32) (a3 : Int32) (a4 : Int32) (M : sy_M) (r : xe_R × sy_M), k a1 a2 a3 a4 M = some r → sy_E (d) qX11_dear 18 [.ref 0, .int a1, .int a2, .int a3, .int a4, w5, w6] [] M r) : ∀ ls st M r, juX11_dear_18 k ls st M = some r → sy_E d qX11_dear 18 ls st M r := by
  intro ls st M r h
  obtain ⟨l, e, h1⟩ := sy_xc_ok h; subst e
  obtain ⟨a1, l, e, h2⟩ := sy_xi_ok h1; subst e
  obtain ⟨a2, l, e, h3⟩ := sy_xi_ok h2; subst e
  obtain ⟨a3, l, e, h4⟩ := sy_xi_ok h3; subst e
  obtain ⟨a4, l, e, h5⟩ := sy_xi_ok h4; subst e
  obtain ⟨w5, l, e, h6⟩ := sy_xv_ok h5; subst e
  obtain ⟨w6, l, e, h7⟩ := sy_xv_ok h6; subst e
  obtain ⟨e, h8⟩ := sy_xn_ok h7; subst e
  obtain ⟨e, h9⟩ := sy_xn_ok h8; subst e
  exact hk _ _ a1 a2 a3 a4 M r h9
def jfX11_dear_72 (k18 : Int32 → Int32 → Int32 → Int32 → sy_M → sy_O) (a1 : Int32) (a2 : Int32) (a3 : Int32) (a4 : Int32) (M : sy_M) : sy_O :=
  let v1 := a4 + 1
  k18 a1 a2 a3 v1 M
set_option maxRecDepth 100000 in
theorem jrX11_dear_72 (k18 : Int32 → Int32 → Int32 → Int32 → sy_M → sy_O) (w5 : Value) (w6 : Value) (a1 : Int32) (a2 : Int32) (a3 : Int32) (a4 : Int32) (M : sy_M) : sy_run skX11 qX11_dear [(72, .iinc 4 1, 3, [true, true, true, true, true, false, false]), (75, .goto (-57), 3, [])] [] [(18, juX11_dear_18 k18)] 3 [] 72 [.ref 0, .int a1, .int a2, .int a3, .int a4, w5, w6] [] M = jfX11_dear_72 k18 a1 a2 a3 a4 M := rfl
theorem jtX11_dear_72 {k18 : Int32 → Int32 → Int32 → Int32 → sy_M → sy_O} (hk18 : ∀ (w5 : Value) (w6 : Value) (a1 : Int32) (a2 : Int32) (a3 : Int32) (a4 : Int32) (M : sy_M) (r : xe_R × sy_M), k18 a1 a2 a3 a4 M = some r → sy_E (7) qX11_dear 18 [.ref 0, .int a1, .int a2, .int a3, .int a4, w5, w6] [] M r) : ∀ (w5 : Value) (w6 : Value) (a1 : Int32) (a2 : Int32) (a3 : Int32) (a4 : Int32) (M : sy_M) (r : xe_R × sy_M), jfX11_dear_72 k18 a1 a2 a3 a4 M = some r → sy_E (7) qX11_dear 72 [.ref 0, .int a1, .int a2, .int a3, .int a4, w5, w6] [] M r := by
  intro w5 w6 a1 a2 a3 a4 M r h
  exact sy_run_by (d := 6) ((jrX11_dear_72 _ _ _ _ _ _ _ M).trans h) hkX11 (by decide +kernel) sy_cs_nil (sy_us_cons (jwX11_dear_18 hk18) sy_us_nil)
def jfX11_dear_66 (k18 : Int32 → Int32 → Int32 → Int32 → sy_M → sy_O) (a1 : Int32) (a4 : Int32) (a6 : Int32) (M : sy_M) : sy_O :=
  jfX11_dear_72 k18 a1 a4 a6 a4 M
set_option maxRecDepth 100000 in
theorem jrX11_dear_66 (k18 : Int32 → Int32 → Int32 → Int32 → sy_M → sy_O) (w2 : Value) (w3 : Value) (w5 : Value) (a1 : Int32) (a4 : Int32) (a6 : Int32) (M : sy_M) : sy_run skX11 qX11_dear [(66, .iload 6, 2, [true, true, false, false, true, false, true]), (68, .istore_n 3, 1, []), (69, .iload 4, 2, []), (71, .istore_n 2, 1, [])] [] [(72, juX11_dear_72 (jfX11_dear_72 k18))] 5 [] 66 [.ref 0, .int a1, w2, w3, .int a4, w5, .int a6] [] M = jfX11_dear_66 k18 a1 a4 a6 M := rfl
theorem jtX11_dear_66 {k18 : Int32 → Int32 → Int32 → Int32 → sy_M → sy_O} (hk18 : ∀ (w5 : Value) (w6 : Value) (a1 : Int32) (a2 : Int32) (a3 : Int32) (a4 : Int32) (M : sy_M) (r : xe_R × sy_M), k18 a1 a2 a3 a4 M = some r → sy_E (7) qX11_dear 18 [.ref 0, .int a1, .int a2, .int a3, .int a4, w5, w6] [] M r) : ∀ (w2 : Value) (w3 : Value) (w5 : Value) (a1 : Int32) (a4 : Int32) (a6 : Int32) (M : sy_M) (r : xe_R × sy_M), jfX11_dear_66 k18 a1 a4 a6 M = some r → sy_E (7) qX11_dear 66 [.ref 0, .int a1, w2, w3, .int a4, w5, .int a6] [] M r := by
  intro w2 w3 w5 a1 a4 a6 M r h
  exact sy_run_by (d := 6) ((jrX11_dear_66 _ _ _ _ _ _ _ M).trans h) hkX11 (by decide +kernel) sy_cs_nil (sy_us_cons (jwX11_dear_72 (jtX11_dear_72 hk18)) sy_us_nil)
def jfX11_dear_52 (k18 : Int32 → Int32 → Int32 → Int32 → sy_M → sy_O) (a1 : Int32) (a2 : Int32) (a3 : Int32) (a4 : Int32) (s0 : Int32) (M : sy_M) : sy_O :=
  if a4 = 1 then
    jfX11_dear_66 k18 a1 a4 s0 M
  else
    if a3 < s0 then
      jfX11_dear_66 k18 a1 a4 s0 M
    else
      jfX11_dear_72 k18 a1 a2 a3 a4 M
set_option maxRecDepth 100000 in
theorem jrX11_dear_52 (k18 : Int32 → Int32 → Int32 → Int32 → sy_M → sy_O) (w5 : Value) (w6 : Value) (a1 : Int32) (a2 : Int32) (a3 : Int32) (a4 : Int32) (s0 : Int32) (M : sy_M) : sy_run skX11 qX11_dear [(52, .istore 6, 2, [true, true, true, true, true, false, false]), (54, .iload 4, 2, []), (56, .iconst 1, 1, []), (57, .if_icmp .eq 9, 3, []), (60, .iload 6, 2, []), (62, .iload_n 3, 1, []), (63, .if_icmp .le 9, 3, [])] [] [(66, juX11_dear_66 (jfX11_dear_66 k18)), (72, juX11_dear_72 (jfX11_dear_72 k18))] 8 [] 52 [.ref 0, .int a1, .int a2, .int a3, .int a4, w5, w6] [.int s0] M = jfX11_dear_52 k18 a1 a2 a3 a4 s0 M := rfl
theorem jtX11_dear_52 {k18 : Int32 → Int32 → Int32 → Int32 → sy_M → sy_O} (hk18 : ∀ (w5 : Value) (w6 : Value) (a1 : Int32) (a2 : Int32) (a3 : Int32) (a4 : Int32) (M : sy_M) (r : xe_R × sy_M), k18 a1 a2 a3 a4 M = some r → sy_E (7) qX11_dear 18 [.ref 0, .int a1, .int a2, .int a3, .int a4, w5, w6] [] M r) : ∀ (w5 : Value) (w6 : Value) (a1 : Int32) (a2 : Int32) (a3 : Int32) (a4 : Int32) (s0 : Int32) (M : sy_M) (r : xe_R × sy_M), jfX11_dear_52 k18 a1 a2 a3 a4 s0 M = some r → sy_E (7) qX11_dear 52 [.ref 0, .int a1, .int a2, .int a3, .int a4, w5, w6] [.int s0] M r := by
  intro w5 w6 a1 a2 a3 a4 s0 M r h
  exact sy_run_by (d := 6) ((jrX11_dear_52 _ _ _ _ _ _ _ _ M).trans h) hkX11 (by decide +kernel) sy_cs_nil (sy_us_cons (jwX11_dear_66 (jtX11_dear_66 hk18)) (sy_us_cons (jwX11_dear_72 (jtX11_dear_72 hk18)) sy_us_nil))
def jgX11_dear_18 (k18 : Int32 → Int32 → Int32 → Int32 → sy_M → sy_O) (a1 : Int32) (a2 : Int32) (a3 : Int32) (a4 : Int32) (M : sy_M) : sy_O :=
  if 99 < a4 then
    sy_ri a2 M
  else
    sy_bi (jfX11_earned a4 M) fun v2 M1 =>
    if a1 = 0 then
      jfX11_dear_52 k18 a1 a2 a3 a4 v2 M1
    else
      sy_bi (jfX2_sum 19 7 M1) fun v4 M3 =>
      jfX11_dear_52 k18 a1 a2 a3 a4 (-v4) M3
def jfX11_dear_18 : Nat → Int32 → Int32 → Int32 → Int32 → sy_M → sy_O
  | 0, _, _, _, _, _ => none
  | n + 1, a1, a2, a3, a4, M => jgX11_dear_18 (jfX11_dear_18 n) a1 a2 a3 a4 M
set_option maxRecDepth 100000 in
theorem jrX11_dear_18 (k18 : Int32 → Int32 → Int32 → Int32 → sy_M → sy_O) (w5 : Value) (w6 : Value) (a1 : Int32) (a2 : Int32) (a3 : Int32) (a4 : Int32) (M : sy_M) : sy_run skX11 qX11_dear [(18, .iload 4, 2, [true, true, true, true, true, false, false]), (20, .bipush 99, 2, []), (22, .if_icmp .gt 56, 3, []), (25, .aload_n 0, 1, []), (26, .iload 4, 2, []), (28, .invokevirtual 327, 3, []), (31, .istore 5, 2, []), (33, .iload_n 1, 1, []), (34, .ifCond .eq 16, 3, []), (37, .aload_n 0, 1, []), (38, .getfield 35, 3, []), (41, .bipush 7, 2, []), (43, .invokevirtual 171, 3, []), (46, .ineg, 1, []), (47, .goto 5, 3, []), (50, .iload 5, 2, [true, true, true, true, true, true, false]), (78, .iload_n 2, 1, [false, false, true, false, false, false, false]), (79, .ireturn, 1, [])] [(137, 0, jcX11_earned), (12, 0, jcX2_sum)] [(52, juX11_dear_52 (jfX11_dear_52 k18))] 19 [] 18 [.ref 0, .int a1, .int a2, .int a3, .int a4, w5, w6] [] M = jgX11_dear_18 k18 a1 a2 a3 a4 M := rfl
theorem jtX11_dear_18 : ∀ n : Nat, ∀ (w5 : Value) (w6 : Value) (a1 : Int32) (a2 : Int32) (a3 : Int32) (a4 : Int32) (M : sy_M) (r : xe_R × sy_M), jfX11_dear_18 n a1 a2 a3 a4 M = some r → sy_E (7) qX11_dear 18 [.ref 0, .int a1, .int a2, .int a3, .int a4, w5, w6] [] M r := by
  intro n
  induction n with
  | zero => intro w5 w6 a1 a2 a3 a4 M r h; exact absurd (show (none : sy_O) = some r from h) (by simp)
  | succ n ih => intro w5 w6 a1 a2 a3 a4 M r h; exact sy_run_by (d := 6) ((jrX11_dear_18 _ _ _ _ _ _ _ M).trans h) hkX11 (by decide +kernel) (sy_cs_cons (jeX11_earned.deep (by decide)) (sy_cs_cons (jeX2_sum.deep (by decide)) sy_cs_nil)) (sy_us_cons (jwX11_dear_52 (jtX11_dear_52 ih)) sy_us_nil)
def jfX11_dear (a1 : Int32) (M : sy_M) : sy_O :=
  sy_bv (jfX8_learn 9 M) fun M1 =>
  jfX11_dear_18 sy_F a1 1 0 1 M1
set_option maxRecDepth 100000 in
theorem jrX11_dear (a1 : Int32) (M : sy_M) : sy_run skX11 qX11_dear [(0, .aload_n 0, 1, []), (1, .getfield 75, 3, []), (4, .aload_n 0, 1, []), (5, .getfield 28, 3, []), (8, .invokevirtual 181, 3, []), (11, .iconst 1, 1, []), (12, .istore_n 2, 1, []), (13, .iconst 0, 1, []), (14, .istore_n 3, 1, []), (15, .iconst 1, 1, []), (16, .istore 4, 2, [])] [(63, 1, jcX8_learn)] [(18, juX11_dear_18 (jfX11_dear_18 sy_F))] 12 [] 0 [.ref 0, .int a1, xe_no, xe_no, xe_no, xe_no, xe_no] [] M = jfX11_dear a1 M := rfl
theorem jtX11_dear : ∀ (a1 : Int32) (M : sy_M) (r : xe_R × sy_M), jfX11_dear a1 M = some r → sy_E (7) qX11_dear 0 [.ref 0, .int a1, xe_no, xe_no, xe_no, xe_no, xe_no] [] M r := by
  intro a1 M r h
  exact sy_run_by (d := 6) ((jrX11_dear _ M).trans h) hkX11 (by decide +kernel) (sy_cs_cons (jeX8_learn.deep (by decide)) sy_cs_nil) (sy_us_cons (jwX11_dear_18 (jtX11_dear_18 sy_F)) sy_us_nil)
def jcX11_dear (as : List Value) (M : sy_M) (K : sy_O → sy_O) : sy_O := sy_xc 0 as fun l => sy_xi l fun a1 l => sy_xn l (K (jfX11_dear a1 M))
theorem jeX11_dear : sy_snd (7) 135 (jcX11_dear) := by
  intro as M K r h
  obtain ⟨l, e, h1⟩ := sy_xc_ok h; subst e
  obtain ⟨a1, l, e, h2⟩ := sy_xi_ok h1; subst e
  obtain ⟨e, h3⟩ := sy_xn_ok h2; subst e
  exact ⟨_, h3, fun r1 h0 => ⟨qX11_dear, rfl, rfl, jtX11_dear _ M r1 h0⟩⟩
/-! X12_coldOfAll StairMeterModel coldOfAll ()I [('R', 121)] -/
def juX12_coldOfAll_4 (k : Int32 → Int32 → sy_M → sy_O) (ls st : List Value) (M : sy_M) : sy_O := sy_xc 121 ls fun l => sy_xi l fun a1 l => sy_xi l fun a2 l => sy_xn l (sy_xn st (k a1 a2 M))
theorem jwX12_coldOfAll_4 {d : Nat} {k : Int32 → Int32 → sy_M → sy_O} (hk : ∀ (a1 : Int32) (a2 : Int32) (M : sy_M) (r : xe_R × sy_M), k a1 a2 M = some r → sy_E (d) qX12_coldOfAll 4 [.ref 121, .int a1, .int a2] [] M r) : ∀ ls st M r, juX12_coldOfAll_4 k ls st M = some r → sy_E d qX12_coldOfAll 4 ls st M r := by
  intro ls st M r h
  obtain ⟨l, e, h1⟩ := sy_xc_ok h; subst e
  obtain ⟨a1, l, e, h2⟩ := sy_xi_ok h1; subst e
  obtain ⟨a2, l, e, h3⟩ := sy_xi_ok h2; subst e
  obtain ⟨e, h4⟩ := sy_xn_ok h3; subst e
  obtain ⟨e, h5⟩ := sy_xn_ok h4; subst e
  exact hk a1 a2 M r h5
def jgX12_coldOfAll_4 (k4 : Int32 → Int32 → sy_M → sy_O) (a1 : Int32) (a2 : Int32) (M : sy_M) : sy_O :=
  if a2 < (M 122 3) then
    sy_bi (jfX12_of a2 7 M) fun v2 M1 =>
    let v3 := (a1 + v2)
    let v4 := a2 + 1
    k4 v3 v4 M1
  else
    sy_ri a1 M
def jfX12_coldOfAll_4 : Nat → Int32 → Int32 → sy_M → sy_O
  | 0, _, _, _ => none
  | n + 1, a1, a2, M => jgX12_coldOfAll_4 (jfX12_coldOfAll_4 n) a1 a2 M
set_option maxRecDepth 100000 in
theorem jrX12_coldOfAll_4 (k4 : Int32 → Int32 → sy_M → sy_O) (a1 : Int32) (a2 : Int32) (M : sy_M) : sy_run skX12 qX12_coldOfAll [(4, .iload_n 2, 1, []), (5, .aload_n 0, 1, []), (6, .getfield 7, 3, []), (9, .iconst 3, 1, []), (10, .iaload, 1, []), (11, .if_icmp .ge 19, 3, []), (14, .iload_n 1, 1, []), (15, .aload_n 0, 1, []), (16, .iload_n 2, 1, []), (17, .bipush 7, 2, []), (19, .invokevirtual 52, 3, []), (22, .iadd, 1, []), (23, .istore_n 1, 1, []), (24, .iinc 2 1, 3, []), (27, .goto (-23), 3, []), (30, .iload_n 1, 1, [false, true, false]), (31, .ireturn, 1, [])] [(187, 0, jcX12_of)] [(4, juX12_coldOfAll_4 k4)] 18 [] 4 [.ref 121, .int a1, .int a2] [] M = jgX12_coldOfAll_4 k4 a1 a2 M := rfl
theorem jtX12_coldOfAll_4 : ∀ n : Nat, ∀ (a1 : Int32) (a2 : Int32) (M : sy_M) (r : xe_R × sy_M), jfX12_coldOfAll_4 n a1 a2 M = some r → sy_E (2) qX12_coldOfAll 4 [.ref 121, .int a1, .int a2] [] M r := by
  intro n
  induction n with
  | zero => intro a1 a2 M r h; exact absurd (show (none : sy_O) = some r from h) (by simp)
  | succ n ih => intro a1 a2 M r h; exact sy_run_by (d := 1) ((jrX12_coldOfAll_4 _ _ _ M).trans h) hkX12 (by decide +kernel) (sy_cs_cons (jeX12_of.deep (by decide)) sy_cs_nil) (sy_us_cons (jwX12_coldOfAll_4 ih) sy_us_nil)
def jfX12_coldOfAll (M : sy_M) : sy_O :=
  jfX12_coldOfAll_4 sy_F 0 0 M
set_option maxRecDepth 100000 in
theorem jrX12_coldOfAll (M : sy_M) : sy_run skX12 qX12_coldOfAll [(0, .iconst 0, 1, []), (1, .istore_n 1, 1, []), (2, .iconst 0, 1, []), (3, .istore_n 2, 1, [])] [] [(4, juX12_coldOfAll_4 (jfX12_coldOfAll_4 sy_F))] 5 [] 0 [.ref 121, xe_no, xe_no] [] M = jfX12_coldOfAll M := rfl
theorem jtX12_coldOfAll : ∀ (M : sy_M) (r : xe_R × sy_M), jfX12_coldOfAll M = some r → sy_E (2) qX12_coldOfAll 0 [.ref 121, xe_no, xe_no] [] M r := by
  intro  M r h
  exact sy_run_by (d := 1) ((jrX12_coldOfAll M).trans h) hkX12 (by decide +kernel) sy_cs_nil (sy_us_cons (jwX12_coldOfAll_4 (jtX12_coldOfAll_4 sy_F)) sy_us_nil)
def jcX12_coldOfAll (as : List Value) (M : sy_M) (K : sy_O → sy_O) : sy_O := sy_xc 121 as fun l => sy_xn l (K (jfX12_coldOfAll M))
theorem jeX12_coldOfAll : sy_snd (2) 237 (jcX12_coldOfAll) := by
  intro as M K r h
  obtain ⟨l, e, h1⟩ := sy_xc_ok h; subst e
  obtain ⟨e, h2⟩ := sy_xn_ok h1; subst e
  exact ⟨_, h2, fun r1 h0 => ⟨qX12_coldOfAll, rfl, rfl, jtX12_coldOfAll  M r1 h0⟩⟩
/-! X12_byPrice StairMeterModel byPrice (IZ)I [('R', 121), 'I', 'I'] -/
def juX12_byPrice_35 (k : Int32 → sy_M → sy_O) (ls st : List Value) (M : sy_M) : sy_O := sy_xc 121 ls fun l => sy_xv l fun _ l => sy_xv l fun _ l => sy_xv l fun _ l => sy_xv l fun _ l => sy_xn l (sy_xi st fun s0 l => sy_xn l (k s0 M))
theorem jwX12_byPrice_35 {d : Nat} {k : Int32 → sy_M → sy_O} (hk : ∀ (w1 : Value) (w2 : Value) (w3 : Value) (w4 : Value) (s0 : Int32) (M : sy_M) (r : xe_R × sy_M), k s0 M = some r → sy_E (d) qX12_byPrice 35 [.ref 121, w1, w2, w3, w4] [.int s0] M r) : ∀ ls st M r, juX12_byPrice_35 k ls st M = some r → sy_E d qX12_byPrice 35 ls st M r := by
  intro ls st M r h
  obtain ⟨l, e, h1⟩ := sy_xc_ok h; subst e
  obtain ⟨w1, l, e, h2⟩ := sy_xv_ok h1; subst e
  obtain ⟨w2, l, e, h3⟩ := sy_xv_ok h2; subst e
  obtain ⟨w3, l, e, h4⟩ := sy_xv_ok h3; subst e
  obtain ⟨w4, l, e, h5⟩ := sy_xv_ok h4; subst e
  obtain ⟨e, h6⟩ := sy_xn_ok h5; subst e
  obtain ⟨s0, l, e, h7⟩ := sy_xi_ok h6; subst e
  obtain ⟨e, h8⟩ := sy_xn_ok h7; subst e
  exact hk _ _ _ _ s0 M r h8
def jfX12_byPrice_35 (s0 : Int32) (M : sy_M) : sy_O :=
  sy_bv (jfX12_comesBack M) fun M1 =>
  sy_ri s0 M1
set_option maxRecDepth 100000 in
theorem jrX12_byPrice_35 (w1 : Value) (w2 : Value) (w3 : Value) (w4 : Value) (s0 : Int32) (M : sy_M) : sy_run skX12 qX12_byPrice [(35, .istore 4, 2, [true, false, false, false, false]), (37, .aload_n 0, 1, []), (38, .invokevirtual 182, 3, []), (41, .iload 4, 2, []), (43, .ireturn, 1, [])] [(216, 1, jcX12_comesBack)] [] 6 [] 35 [.ref 121, w1, w2, w3, w4] [.int s0] M = jfX12_byPrice_35 s0 M := rfl
theorem jtX12_byPrice_35 : ∀ (w1 : Value) (w2 : Value) (w3 : Value) (w4 : Value) (s0 : Int32) (M : sy_M) (r : xe_R × sy_M), jfX12_byPrice_35 s0 M = some r → sy_E (52) qX12_byPrice 35 [.ref 121, w1, w2, w3, w4] [.int s0] M r := by
  intro w1 w2 w3 w4 s0 M r h
  exact sy_run_by (d := 51) ((jrX12_byPrice_35 _ _ _ _ _ M).trans h) hkX12 (by decide +kernel) (sy_cs_cons (jeX12_comesBack.deep (by decide)) sy_cs_nil) sy_us_nil
def jfX12_byPrice (a1 : Int32) (a2 : Int32) (M : sy_M) : sy_O :=
  sy_bv (jfX12_putsAside M) fun M1 =>
  let M2 := sy_upd M1 122 7 a1
  sy_bi (jfX12_goes 48 0 M2) fun v4 M3 =>
  if a2 = 0 then
    jfX12_byPrice_35 (M3 121 20) M3
  else
    sy_bi (jfX12_coldOfAll M3) fun v6 M5 =>
    jfX12_byPrice_35 v6 M5
set_option maxRecDepth 100000 in
theorem jrX12_byPrice (a1 : Int32) (a2 : Int32) (M : sy_M) : sy_run skX12 qX12_byPrice [(0, .aload_n 0, 1, []), (1, .invokevirtual 172, 3, []), (4, .aload_n 0, 1, []), (5, .getfield 7, 3, []), (8, .bipush 7, 2, []), (10, .iload_n 1, 1, []), (11, .iastore, 1, []), (12, .aload_n 0, 1, []), (13, .bipush 48, 2, []), (15, .iconst 0, 1, []), (16, .invokevirtual 314, 3, []), (19, .istore_n 3, 1, []), (20, .iload_n 2, 1, []), (21, .ifCond .eq 10, 3, []), (24, .aload_n 0, 1, []), (25, .invokevirtual 346, 3, []), (28, .goto 7, 3, []), (31, .aload_n 0, 1, [true, false, false, false, false]), (32, .getfield 250, 3, [])] [(215, 1, jcX12_putsAside), (235, 0, jcX12_goes), (237, 0, jcX12_coldOfAll)] [(35, juX12_byPrice_35 (jfX12_byPrice_35))] 20 [] 0 [.ref 121, .int a1, .int a2, xe_no, xe_no] [] M = jfX12_byPrice a1 a2 M := rfl
theorem jtX12_byPrice : ∀ (a1 : Int32) (a2 : Int32) (M : sy_M) (r : xe_R × sy_M), jfX12_byPrice a1 a2 M = some r → sy_E (52) qX12_byPrice 0 [.ref 121, .int a1, .int a2, xe_no, xe_no] [] M r := by
  intro a1 a2 M r h
  exact sy_run_by (d := 51) ((jrX12_byPrice _ _ M).trans h) hkX12 (by decide +kernel) (sy_cs_cons (jeX12_putsAside.deep (by decide)) (sy_cs_cons (jeX12_goes.deep (by decide)) (sy_cs_cons (jeX12_coldOfAll.deep (by decide)) sy_cs_nil))) (sy_us_cons (jwX12_byPrice_35 (jtX12_byPrice_35)) sy_us_nil)
def jcX12_byPrice (as : List Value) (M : sy_M) (K : sy_O → sy_O) : sy_O := sy_xc 121 as fun l => sy_xi l fun a1 l => sy_xi l fun a2 l => sy_xn l (K (jfX12_byPrice a1 a2 M))
theorem jeX12_byPrice : sy_snd (52) 277 (jcX12_byPrice) := by
  intro as M K r h
  obtain ⟨l, e, h1⟩ := sy_xc_ok h; subst e
  obtain ⟨a1, l, e, h2⟩ := sy_xi_ok h1; subst e
  obtain ⟨a2, l, e, h3⟩ := sy_xi_ok h2; subst e
  obtain ⟨e, h4⟩ := sy_xn_ok h3; subst e
  exact ⟨_, h4, fun r1 h0 => ⟨qX12_byPrice, rfl, rfl, jtX12_byPrice _ _ M r1 h0⟩⟩
/-! X12_dear StairMeterModel dear (Z)I [('R', 121), 'I'] -/
def juX12_dear_60 (k : Int32 → Int32 → Int32 → Int32 → sy_M → sy_O) (ls st : List Value) (M : sy_M) : sy_O := sy_xc 121 ls fun l => sy_xi l fun a1 l => sy_xi l fun a2 l => sy_xi l fun a3 l => sy_xi l fun a4 l => sy_xv l fun _ l => sy_xn l (sy_xn st (k a1 a2 a3 a4 M))
theorem jwX12_dear_60 {d : Nat} {k : Int32 → Int32 → Int32 → Int32 → sy_M → sy_O} (hk : ∀ (w5 : Value) (a1 : Int32) (a2 : Int32) (a3 : Int32) (a4 : Int32) (M : sy_M) (r : xe_R × sy_M), k a1 a2 a3 a4 M = some r → sy_E (d) qX12_dear 60 [.ref 121, .int a1, .int a2, .int a3, .int a4, w5] [] M r) : ∀ ls st M r, juX12_dear_60 k ls st M = some r → sy_E d qX12_dear 60 ls st M r := by
  intro ls st M r h
  obtain ⟨l, e, h1⟩ := sy_xc_ok h; subst e
  obtain ⟨a1, l, e, h2⟩ := sy_xi_ok h1; subst e
  obtain ⟨a2, l, e, h3⟩ := sy_xi_ok h2; subst e
  obtain ⟨a3, l, e, h4⟩ := sy_xi_ok h3; subst e
  obtain ⟨a4, l, e, h5⟩ := sy_xi_ok h4; subst e
  obtain ⟨w5, l, e, h6⟩ := sy_xv_ok h5; subst e
  obtain ⟨e, h7⟩ := sy_xn_ok h6; subst e
  obtain ⟨e, h8⟩ := sy_xn_ok h7; subst e
  exact hk _ a1 a2 a3 a4 M r h8
def juX12_dear_54 (k : Int32 → Int32 → Int32 → sy_M → sy_O) (ls st : List Value) (M : sy_M) : sy_O := sy_xc 121 ls fun l => sy_xi l fun a1 l => sy_xv l fun _ l => sy_xv l fun _ l => sy_xi l fun a4 l => sy_xi l fun a5 l => sy_xn l (sy_xn st (k a1 a4 a5 M))
theorem jwX12_dear_54 {d : Nat} {k : Int32 → Int32 → Int32 → sy_M → sy_O} (hk : ∀ (w2 : Value) (w3 : Value) (a1 : Int32) (a4 : Int32) (a5 : Int32) (M : sy_M) (r : xe_R × sy_M), k a1 a4 a5 M = some r → sy_E (d) qX12_dear 54 [.ref 121, .int a1, w2, w3, .int a4, .int a5] [] M r) : ∀ ls st M r, juX12_dear_54 k ls st M = some r → sy_E d qX12_dear 54 ls st M r := by
  intro ls st M r h
  obtain ⟨l, e, h1⟩ := sy_xc_ok h; subst e
  obtain ⟨a1, l, e, h2⟩ := sy_xi_ok h1; subst e
  obtain ⟨w2, l, e, h3⟩ := sy_xv_ok h2; subst e
  obtain ⟨w3, l, e, h4⟩ := sy_xv_ok h3; subst e
  obtain ⟨a4, l, e, h5⟩ := sy_xi_ok h4; subst e
  obtain ⟨a5, l, e, h6⟩ := sy_xi_ok h5; subst e
  obtain ⟨e, h7⟩ := sy_xn_ok h6; subst e
  obtain ⟨e, h8⟩ := sy_xn_ok h7; subst e
  exact hk _ _ a1 a4 a5 M r h8
def juX12_dear_12 (k : Int32 → Int32 → Int32 → Int32 → sy_M → sy_O) (ls st : List Value) (M : sy_M) : sy_O := sy_xc 121 ls fun l => sy_xi l fun a1 l => sy_xi l fun a2 l => sy_xi l fun a3 l => sy_xi l fun a4 l => sy_xv l fun _ l => sy_xn l (sy_xn st (k a1 a2 a3 a4 M))
theorem jwX12_dear_12 {d : Nat} {k : Int32 → Int32 → Int32 → Int32 → sy_M → sy_O} (hk : ∀ (w5 : Value) (a1 : Int32) (a2 : Int32) (a3 : Int32) (a4 : Int32) (M : sy_M) (r : xe_R × sy_M), k a1 a2 a3 a4 M = some r → sy_E (d) qX12_dear 12 [.ref 121, .int a1, .int a2, .int a3, .int a4, w5] [] M r) : ∀ ls st M r, juX12_dear_12 k ls st M = some r → sy_E d qX12_dear 12 ls st M r := by
  intro ls st M r h
  obtain ⟨l, e, h1⟩ := sy_xc_ok h; subst e
  obtain ⟨a1, l, e, h2⟩ := sy_xi_ok h1; subst e
  obtain ⟨a2, l, e, h3⟩ := sy_xi_ok h2; subst e
  obtain ⟨a3, l, e, h4⟩ := sy_xi_ok h3; subst e
  obtain ⟨a4, l, e, h5⟩ := sy_xi_ok h4; subst e
  obtain ⟨w5, l, e, h6⟩ := sy_xv_ok h5; subst e
  obtain ⟨e, h7⟩ := sy_xn_ok h6; subst e
  obtain ⟨e, h8⟩ := sy_xn_ok h7; subst e
  exact hk _ a1 a2 a3 a4 M r h8
def jfX12_dear_60 (k12 : Int32 → Int32 → Int32 → Int32 → sy_M → sy_O) (a1 : Int32) (a2 : Int32) (a3 : Int32) (a4 : Int32) (M : sy_M) : sy_O :=
  let v1 := a4 + 1
  k12 a1 a2 a3 v1 M
set_option maxRecDepth 100000 in
theorem jrX12_dear_60 (k12 : Int32 → Int32 → Int32 → Int32 → sy_M → sy_O) (w5 : Value) (a1 : Int32) (a2 : Int32) (a3 : Int32) (a4 : Int32) (M : sy_M) : sy_run skX12 qX12_dear [(60, .iinc 4 1, 3, [true, true, true, true, true, false]), (63, .goto (-51), 3, [])] [] [(12, juX12_dear_12 k12)] 3 [] 60 [.ref 121, .int a1, .int a2, .int a3, .int a4, w5] [] M = jfX12_dear_60 k12 a1 a2 a3 a4 M := rfl
theorem jtX12_dear_60 {k12 : Int32 → Int32 → Int32 → Int32 → sy_M → sy_O} (hk12 : ∀ (w5 : Value) (a1 : Int32) (a2 : Int32) (a3 : Int32) (a4 : Int32) (M : sy_M) (r : xe_R × sy_M), k12 a1 a2 a3 a4 M = some r → sy_E (53) qX12_dear 12 [.ref 121, .int a1, .int a2, .int a3, .int a4, w5] [] M r) : ∀ (w5 : Value) (a1 : Int32) (a2 : Int32) (a3 : Int32) (a4 : Int32) (M : sy_M) (r : xe_R × sy_M), jfX12_dear_60 k12 a1 a2 a3 a4 M = some r → sy_E (53) qX12_dear 60 [.ref 121, .int a1, .int a2, .int a3, .int a4, w5] [] M r := by
  intro w5 a1 a2 a3 a4 M r h
  exact sy_run_by (d := 52) ((jrX12_dear_60 _ _ _ _ _ _ M).trans h) hkX12 (by decide +kernel) sy_cs_nil (sy_us_cons (jwX12_dear_12 hk12) sy_us_nil)
def jfX12_dear_54 (k12 : Int32 → Int32 → Int32 → Int32 → sy_M → sy_O) (a1 : Int32) (a4 : Int32) (a5 : Int32) (M : sy_M) : sy_O :=
  jfX12_dear_60 k12 a1 a4 a5 a4 M
set_option maxRecDepth 100000 in
theorem jrX12_dear_54 (k12 : Int32 → Int32 → Int32 → Int32 → sy_M → sy_O) (w2 : Value) (w3 : Value) (a1 : Int32) (a4 : Int32) (a5 : Int32) (M : sy_M) : sy_run skX12 qX12_dear [(54, .iload 5, 2, [true, true, false, false, true, true]), (56, .istore_n 3, 1, []), (57, .iload 4, 2, []), (59, .istore_n 2, 1, [])] [] [(60, juX12_dear_60 (jfX12_dear_60 k12))] 5 [] 54 [.ref 121, .int a1, w2, w3, .int a4, .int a5] [] M = jfX12_dear_54 k12 a1 a4 a5 M := rfl
theorem jtX12_dear_54 {k12 : Int32 → Int32 → Int32 → Int32 → sy_M → sy_O} (hk12 : ∀ (w5 : Value) (a1 : Int32) (a2 : Int32) (a3 : Int32) (a4 : Int32) (M : sy_M) (r : xe_R × sy_M), k12 a1 a2 a3 a4 M = some r → sy_E (53) qX12_dear 12 [.ref 121, .int a1, .int a2, .int a3, .int a4, w5] [] M r) : ∀ (w2 : Value) (w3 : Value) (a1 : Int32) (a4 : Int32) (a5 : Int32) (M : sy_M) (r : xe_R × sy_M), jfX12_dear_54 k12 a1 a4 a5 M = some r → sy_E (53) qX12_dear 54 [.ref 121, .int a1, w2, w3, .int a4, .int a5] [] M r := by
  intro w2 w3 a1 a4 a5 M r h
  exact sy_run_by (d := 52) ((jrX12_dear_54 _ _ _ _ _ _ M).trans h) hkX12 (by decide +kernel) sy_cs_nil (sy_us_cons (jwX12_dear_60 (jtX12_dear_60 hk12)) sy_us_nil)
def jgX12_dear_12 (k12 : Int32 → Int32 → Int32 → Int32 → sy_M → sy_O) (a1 : Int32) (a2 : Int32) (a3 : Int32) (a4 : Int32) (M : sy_M) : sy_O :=
  if 99 < a4 then
    sy_ri a2 M
  else
    sy_bi (jfX12_byPrice a4 a1 M) fun v2 M1 =>
    if 0 < a2 then
      if a1 = 0 then
        if a3 < v2 then
          jfX12_dear_54 k12 a1 a4 v2 M1
        else
          jfX12_dear_60 k12 a1 a2 a3 a4 M1
      else
        if v2 < a3 then
          jfX12_dear_54 k12 a1 a4 v2 M1
        else
          jfX12_dear_60 k12 a1 a2 a3 a4 M1
    else
      jfX12_dear_54 k12 a1 a4 v2 M1
def jfX12_dear_12 : Nat → Int32 → Int32 → Int32 → Int32 → sy_M → sy_O
  | 0, _, _, _, _, _ => none
  | n + 1, a1, a2, a3, a4, M => jgX12_dear_12 (jfX12_dear_12 n) a1 a2 a3 a4 M
set_option maxRecDepth 100000 in
theorem jrX12_dear_12 (k12 : Int32 → Int32 → Int32 → Int32 → sy_M → sy_O) (w5 : Value) (a1 : Int32) (a2 : Int32) (a3 : Int32) (a4 : Int32) (M : sy_M) : sy_run skX12 qX12_dear [(12, .iload 4, 2, [true, true, true, true, true, false]), (14, .bipush 99, 2, []), (16, .if_icmp .gt 50, 3, []), (19, .aload_n 0, 1, []), (20, .iload 4, 2, []), (22, .iload_n 1, 1, []), (23, .invokevirtual 349, 3, []), (26, .istore 5, 2, []), (28, .iload_n 2, 1, []), (29, .ifCond .le 25, 3, []), (32, .iload_n 1, 1, []), (33, .ifCond .eq 12, 3, []), (36, .iload 5, 2, []), (38, .iload_n 3, 1, []), (39, .if_icmp .lt 15, 3, []), (42, .goto 18, 3, []), (45, .iload 5, 2, []), (47, .iload_n 3, 1, []), (48, .if_icmp .gt 6, 3, []), (51, .goto 9, 3, []), (66, .iload_n 2, 1, [false, false, true, false, false, false]), (67, .ireturn, 1, [])] [(277, 0, jcX12_byPrice)] [(54, juX12_dear_54 (jfX12_dear_54 k12)), (60, juX12_dear_60 (jfX12_dear_60 k12))] 23 [] 12 [.ref 121, .int a1, .int a2, .int a3, .int a4, w5] [] M = jgX12_dear_12 k12 a1 a2 a3 a4 M := rfl
theorem jtX12_dear_12 : ∀ n : Nat, ∀ (w5 : Value) (a1 : Int32) (a2 : Int32) (a3 : Int32) (a4 : Int32) (M : sy_M) (r : xe_R × sy_M), jfX12_dear_12 n a1 a2 a3 a4 M = some r → sy_E (53) qX12_dear 12 [.ref 121, .int a1, .int a2, .int a3, .int a4, w5] [] M r := by
  intro n
  induction n with
  | zero => intro w5 a1 a2 a3 a4 M r h; exact absurd (show (none : sy_O) = some r from h) (by simp)
  | succ n ih => intro w5 a1 a2 a3 a4 M r h; exact sy_run_by (d := 52) ((jrX12_dear_12 _ _ _ _ _ _ M).trans h) hkX12 (by decide +kernel) (sy_cs_cons (jeX12_byPrice.deep (by decide)) sy_cs_nil) (sy_us_cons (jwX12_dear_54 (jtX12_dear_54 ih)) (sy_us_cons (jwX12_dear_60 (jtX12_dear_60 ih)) sy_us_nil))
def jfX12_dear (a1 : Int32) (M : sy_M) : sy_O :=
  let M1 := sy_upd M 121 0 0
  jfX12_dear_12 sy_F a1 0 0 1 M1
set_option maxRecDepth 100000 in
theorem jrX12_dear (a1 : Int32) (M : sy_M) : sy_run skX12 qX12_dear [(0, .aload_n 0, 1, []), (1, .iconst 0, 1, []), (2, .putfield 45, 3, []), (5, .iconst 0, 1, []), (6, .istore_n 2, 1, []), (7, .iconst 0, 1, []), (8, .istore_n 3, 1, []), (9, .iconst 1, 1, []), (10, .istore 4, 2, [])] [] [(12, juX12_dear_12 (jfX12_dear_12 sy_F))] 10 [] 0 [.ref 121, .int a1, xe_no, xe_no, xe_no, xe_no] [] M = jfX12_dear a1 M := rfl
theorem jtX12_dear : ∀ (a1 : Int32) (M : sy_M) (r : xe_R × sy_M), jfX12_dear a1 M = some r → sy_E (53) qX12_dear 0 [.ref 121, .int a1, xe_no, xe_no, xe_no, xe_no] [] M r := by
  intro a1 M r h
  exact sy_run_by (d := 52) ((jrX12_dear _ M).trans h) hkX12 (by decide +kernel) sy_cs_nil (sy_us_cons (jwX12_dear_12 (jtX12_dear_12 sy_F)) sy_us_nil)
def jcX12_dear (as : List Value) (M : sy_M) (K : sy_O → sy_O) : sy_O := sy_xc 121 as fun l => sy_xi l fun a1 l => sy_xn l (K (jfX12_dear a1 M))
theorem jeX12_dear : sy_snd (53) 278 (jcX12_dear) := by
  intro as M K r h
  obtain ⟨l, e, h1⟩ := sy_xc_ok h; subst e
  obtain ⟨a1, l, e, h2⟩ := sy_xi_ok h1; subst e
  obtain ⟨e, h3⟩ := sy_xn_ok h2; subst e
  exact ⟨_, h3, fun r1 h0 => ⟨qX12_dear, rfl, rfl, jtX12_dear _ M r1 h0⟩⟩
/-! X11_earns StairMeter earns (I)I [('R', 0), 'I'] -/
def jfX11_earns (a1 : Int32) (M : sy_M) : sy_O :=
  sy_bv (jfX11_checkRange a1 1 99 M) fun M1 =>
  sy_bv (jfX8_learn 9 M1) fun M2 =>
  sy_bi (jfX11_earned a1 M2) fun v4 M3 =>
  sy_ri v4 M3
set_option maxRecDepth 100000 in
theorem jrX11_earns (a1 : Int32) (M : sy_M) : sy_run skX11 qX11_earns [(0, .iload_n 1, 1, []), (1, .iconst 1, 1, []), (2, .bipush 99, 2, []), (4, .invokestatic 248, 3, []), (7, .aload_n 0, 1, []), (8, .getfield 75, 3, []), (11, .aload_n 0, 1, []), (12, .getfield 28, 3, []), (15, .invokevirtual 181, 3, []), (18, .aload_n 0, 1, []), (19, .iload_n 1, 1, []), (20, .invokevirtual 327, 3, []), (23, .ireturn, 1, [])] [(179, 1, jcX11_checkRange), (63, 1, jcX8_learn), (137, 0, jcX11_earned)] [] 14 [] 0 [.ref 0, .int a1] [] M = jfX11_earns a1 M := rfl
theorem jtX11_earns : ∀ (a1 : Int32) (M : sy_M) (r : xe_R × sy_M), jfX11_earns a1 M = some r → sy_E (7) qX11_earns 0 [.ref 0, .int a1] [] M r := by
  intro a1 M r h
  exact sy_run_by (d := 6) ((jrX11_earns _ M).trans h) hkX11 (by decide +kernel) (sy_cs_cons (jeX11_checkRange.deep (by decide)) (sy_cs_cons (jeX8_learn.deep (by decide)) (sy_cs_cons (jeX11_earned.deep (by decide)) sy_cs_nil))) sy_us_nil
def jcX11_earns (as : List Value) (M : sy_M) (K : sy_O → sy_O) : sy_O := sy_xc 0 as fun l => sy_xi l fun a1 l => sy_xn l (K (jfX11_earns a1 M))
theorem jeX11_earns : sy_snd (7) 136 (jcX11_earns) := by
  intro as M K r h
  obtain ⟨l, e, h1⟩ := sy_xc_ok h; subst e
  obtain ⟨a1, l, e, h2⟩ := sy_xi_ok h1; subst e
  obtain ⟨e, h3⟩ := sy_xn_ok h2; subst e
  exact ⟨_, h3, fun r1 h0 => ⟨qX11_earns, rfl, rfl, jtX11_earns _ M r1 h0⟩⟩
/-! L_earns StairMeterLaw earns (LStairMeter;I[J)I [('R', 0), 'I', ('R', 132)] -/
def jfL_earns (a1 : Int32) (M : sy_M) : sy_O :=
  sy_hi (jfX11_earns a1 M) (fun v2 M1 =>
    let M5 := sy_wl M1 132 0 (Int32.toInt64 v2)
    sy_ri 0 M5)
  (fun c3 M4 => if c3 = 20 then sy_ri 1 M4 else none)
set_option maxRecDepth 100000 in
theorem jrL_earns (a1 : Int32) (M : sy_M) : sy_run skL qL_earns [(0, .aload_n 2, 1, []), (1, .iconst 0, 1, []), (2, .aload_n 0, 1, []), (3, .iload_n 1, 1, []), (4, .invokevirtual 88, 3, []), (7, .i2l, 1, []), (8, .lastore, 1, []), (9, .goto 6, 3, []), (12, .astore_n 3, 1, [false, false, false, false]), (13, .iconst 1, 1, []), (14, .ireturn, 1, []), (15, .iconst 0, 1, [false, false, false, false]), (16, .ireturn, 1, [])] [(136, 3, jcX11_earns)] [] 14 [] 0 [.ref 0, .int a1, .ref 132, xe_no] [] M = jfL_earns a1 M := rfl
theorem jtL_earns : ∀ (a1 : Int32) (M : sy_M) (r : xe_R × sy_M), jfL_earns a1 M = some r → sy_E (8) qL_earns 0 [.ref 0, .int a1, .ref 132, xe_no] [] M r := by
  intro a1 M r h
  exact sy_run_by (d := 7) ((jrL_earns _ M).trans h) hkL (by decide +kernel) (sy_cs_cons (jeX11_earns.deep (by decide)) sy_cs_nil) sy_us_nil
def jcL_earns (as : List Value) (M : sy_M) (K : sy_O → sy_O) : sy_O := sy_xc 0 as fun l => sy_xi l fun a1 l => sy_xc 132 l fun l => sy_xn l (K (jfL_earns a1 M))
theorem jeL_earns : sy_snd (8) 342 (jcL_earns) := by
  intro as M K r h
  obtain ⟨l, e, h1⟩ := sy_xc_ok h; subst e
  obtain ⟨a1, l, e, h2⟩ := sy_xi_ok h1; subst e
  obtain ⟨l, e, h3⟩ := sy_xc_ok h2; subst e
  obtain ⟨e, h4⟩ := sy_xn_ok h3; subst e
  exact ⟨_, h4, fun r1 h0 => ⟨qL_earns, rfl, rfl, jtL_earns _ M r1 h0⟩⟩
/-! X12_earns StairMeterModel earns (I)I [('R', 121), 'I'] -/
def juX12_earns_16 (k : Int32 → Int32 → sy_M → sy_O) (ls st : List Value) (M : sy_M) : sy_O := sy_xc 121 ls fun l => sy_xi l fun a1 l => sy_xn l (sy_xi st fun s0 l => sy_xc 121 l fun l => sy_xn l (k a1 s0 M))
theorem jwX12_earns_16 {d : Nat} {k : Int32 → Int32 → sy_M → sy_O} (hk : ∀ (a1 : Int32) (s0 : Int32) (M : sy_M) (r : xe_R × sy_M), k a1 s0 M = some r → sy_E (d) qX12_earns 16 [.ref 121, .int a1] [.int s0, .ref 121] M r) : ∀ ls st M r, juX12_earns_16 k ls st M = some r → sy_E d qX12_earns 16 ls st M r := by
  intro ls st M r h
  obtain ⟨l, e, h1⟩ := sy_xc_ok h; subst e
  obtain ⟨a1, l, e, h2⟩ := sy_xi_ok h1; subst e
  obtain ⟨e, h3⟩ := sy_xn_ok h2; subst e
  obtain ⟨s0, l, e, h4⟩ := sy_xi_ok h3; subst e
  obtain ⟨l, e, h5⟩ := sy_xc_ok h4; subst e
  obtain ⟨e, h6⟩ := sy_xn_ok h5; subst e
  exact hk a1 s0 M r h6
def jfX12_earns_16 (a1 : Int32) (s0 : Int32) (M : sy_M) : sy_O :=
  let M1 := sy_upd M 121 0 s0
  if 0 < (M1 121 0) then
    sy_ri 0 M1
  else
    sy_bi (jfX12_byPrice a1 0 M1) fun v3 M2 =>
    sy_ri v3 M2
set_option maxRecDepth 100000 in
theorem jrX12_earns_16 (a1 : Int32) (s0 : Int32) (M : sy_M) : sy_run skX12 qX12_earns [(16, .putfield 45, 3, []), (19, .aload_n 0, 1, []), (20, .getfield 45, 3, []), (23, .ifCond .le 7, 3, []), (26, .iconst 0, 1, []), (27, .goto 9, 3, []), (30, .aload_n 0, 1, []), (31, .iload_n 1, 1, []), (32, .iconst 0, 1, []), (33, .invokevirtual 349, 3, []), (36, .ireturn, 1, [false, false])] [(277, 0, jcX12_byPrice)] [] 12 [] 16 [.ref 121, .int a1] [.int s0, .ref 121] M = jfX12_earns_16 a1 s0 M := rfl
theorem jtX12_earns_16 : ∀ (a1 : Int32) (s0 : Int32) (M : sy_M) (r : xe_R × sy_M), jfX12_earns_16 a1 s0 M = some r → sy_E (53) qX12_earns 16 [.ref 121, .int a1] [.int s0, .ref 121] M r := by
  intro a1 s0 M r h
  exact sy_run_by (d := 52) ((jrX12_earns_16 _ _ M).trans h) hkX12 (by decide +kernel) (sy_cs_cons (jeX12_byPrice.deep (by decide)) sy_cs_nil) sy_us_nil
def jfX12_earns (a1 : Int32) (M : sy_M) : sy_O :=
  sy_bi (jfX12_isIn a1 1 99 M) fun v2 M1 =>
  if v2 = 0 then
    jfX12_earns_16 a1 1 M1
  else
    jfX12_earns_16 a1 0 M1
set_option maxRecDepth 100000 in
theorem jrX12_earns (a1 : Int32) (M : sy_M) : sy_run skX12 qX12_earns [(0, .aload_n 0, 1, []), (1, .iload_n 1, 1, []), (2, .iconst 1, 1, []), (3, .bipush 99, 2, []), (5, .invokestatic 48, 3, []), (8, .ifCond .ne 7, 3, []), (11, .iconst 1, 1, []), (12, .goto 4, 3, []), (15, .iconst 0, 1, [])] [(182, 0, jcX12_isIn)] [(16, juX12_earns_16 (jfX12_earns_16))] 10 [] 0 [.ref 121, .int a1] [] M = jfX12_earns a1 M := rfl
theorem jtX12_earns : ∀ (a1 : Int32) (M : sy_M) (r : xe_R × sy_M), jfX12_earns a1 M = some r → sy_E (53) qX12_earns 0 [.ref 121, .int a1] [] M r := by
  intro a1 M r h
  exact sy_run_by (d := 52) ((jrX12_earns _ M).trans h) hkX12 (by decide +kernel) (sy_cs_cons (jeX12_isIn.deep (by decide)) sy_cs_nil) (sy_us_cons (jwX12_earns_16 (jtX12_earns_16)) sy_us_nil)
def jcX12_earns (as : List Value) (M : sy_M) (K : sy_O → sy_O) : sy_O := sy_xc 121 as fun l => sy_xi l fun a1 l => sy_xn l (K (jfX12_earns a1 M))
theorem jeX12_earns : sy_snd (53) 279 (jcX12_earns) := by
  intro as M K r h
  obtain ⟨l, e, h1⟩ := sy_xc_ok h; subst e
  obtain ⟨a1, l, e, h2⟩ := sy_xi_ok h1; subst e
  obtain ⟨e, h3⟩ := sy_xn_ok h2; subst e
  exact ⟨_, h3, fun r1 h0 => ⟨qX12_earns, rfl, rfl, jtX12_earns _ M r1 h0⟩⟩
/-! X1_readRows StairMeter$Clues readRows (LStairMeter$Tape;I)Z [('R', 6), ('R', 1), 'I'] -/
def juX1_readRows_104 (k : Int32 → Int32 → Int32 → sy_M → sy_O) (ls st : List Value) (M : sy_M) : sy_O := sy_xc 6 ls fun l => sy_xc 1 l fun l => sy_xi l fun a2 l => sy_xi l fun a3 l => sy_xi l fun a4 l => sy_xn l (sy_xn st (k a2 a3 a4 M))
theorem jwX1_readRows_104 {d : Nat} {k : Int32 → Int32 → Int32 → sy_M → sy_O} (hk : ∀ (a2 : Int32) (a3 : Int32) (a4 : Int32) (M : sy_M) (r : xe_R × sy_M), k a2 a3 a4 M = some r → sy_E (d) qX1_readRows 104 [.ref 6, .ref 1, .int a2, .int a3, .int a4] [] M r) : ∀ ls st M r, juX1_readRows_104 k ls st M = some r → sy_E d qX1_readRows 104 ls st M r := by
  intro ls st M r h
  obtain ⟨l, e, h1⟩ := sy_xc_ok h; subst e
  obtain ⟨l, e, h2⟩ := sy_xc_ok h1; subst e
  obtain ⟨a2, l, e, h3⟩ := sy_xi_ok h2; subst e
  obtain ⟨a3, l, e, h4⟩ := sy_xi_ok h3; subst e
  obtain ⟨a4, l, e, h5⟩ := sy_xi_ok h4; subst e
  obtain ⟨e, h6⟩ := sy_xn_ok h5; subst e
  obtain ⟨e, h7⟩ := sy_xn_ok h6; subst e
  exact hk a2 a3 a4 M r h7
def juX1_readRows_32 (k : Int32 → Int32 → Int32 → sy_M → sy_O) (ls st : List Value) (M : sy_M) : sy_O := sy_xc 6 ls fun l => sy_xc 1 l fun l => sy_xi l fun a2 l => sy_xi l fun a3 l => sy_xi l fun a4 l => sy_xn l (sy_xn st (k a2 a3 a4 M))
theorem jwX1_readRows_32 {d : Nat} {k : Int32 → Int32 → Int32 → sy_M → sy_O} (hk : ∀ (a2 : Int32) (a3 : Int32) (a4 : Int32) (M : sy_M) (r : xe_R × sy_M), k a2 a3 a4 M = some r → sy_E (d) qX1_readRows 32 [.ref 6, .ref 1, .int a2, .int a3, .int a4] [] M r) : ∀ ls st M r, juX1_readRows_32 k ls st M = some r → sy_E d qX1_readRows 32 ls st M r := by
  intro ls st M r h
  obtain ⟨l, e, h1⟩ := sy_xc_ok h; subst e
  obtain ⟨l, e, h2⟩ := sy_xc_ok h1; subst e
  obtain ⟨a2, l, e, h3⟩ := sy_xi_ok h2; subst e
  obtain ⟨a3, l, e, h4⟩ := sy_xi_ok h3; subst e
  obtain ⟨a4, l, e, h5⟩ := sy_xi_ok h4; subst e
  obtain ⟨e, h6⟩ := sy_xn_ok h5; subst e
  obtain ⟨e, h7⟩ := sy_xn_ok h6; subst e
  exact hk a2 a3 a4 M r h7
def jfX1_readRows_104 (k32 : Int32 → Int32 → Int32 → sy_M → sy_O) (a2 : Int32) (a3 : Int32) (a4 : Int32) (M : sy_M) : sy_O :=
  let M1 := sy_upd M 6 2 (a4 + 1)
  let v2 := a4 + 1
  k32 a2 a3 v2 M1
set_option maxRecDepth 100000 in
theorem jrX1_readRows_104 (k32 : Int32 → Int32 → Int32 → sy_M → sy_O) (a2 : Int32) (a3 : Int32) (a4 : Int32) (M : sy_M) : sy_run skX1 qX1_readRows [(104, .aload_n 0, 1, []), (105, .iload 4, 2, []), (107, .iconst 1, 1, []), (108, .iadd, 1, []), (109, .putfield 18, 3, []), (112, .iinc 4 1, 3, []), (115, .goto (-83), 3, [])] [] [(32, juX1_readRows_32 k32)] 8 [] 104 [.ref 6, .ref 1, .int a2, .int a3, .int a4] [] M = jfX1_readRows_104 k32 a2 a3 a4 M := rfl
theorem jtX1_readRows_104 {k32 : Int32 → Int32 → Int32 → sy_M → sy_O} (hk32 : ∀ (a2 : Int32) (a3 : Int32) (a4 : Int32) (M : sy_M) (r : xe_R × sy_M), k32 a2 a3 a4 M = some r → sy_E (2) qX1_readRows 32 [.ref 6, .ref 1, .int a2, .int a3, .int a4] [] M r) : ∀ (a2 : Int32) (a3 : Int32) (a4 : Int32) (M : sy_M) (r : xe_R × sy_M), jfX1_readRows_104 k32 a2 a3 a4 M = some r → sy_E (2) qX1_readRows 104 [.ref 6, .ref 1, .int a2, .int a3, .int a4] [] M r := by
  intro a2 a3 a4 M r h
  exact sy_run_by (d := 1) ((jrX1_readRows_104 _ _ _ _ M).trans h) hkX1 (by decide +kernel) sy_cs_nil (sy_us_cons (jwX1_readRows_32 hk32) sy_us_nil)
def jgX1_readRows_32 (k32 : Int32 → Int32 → Int32 → sy_M → sy_O) (a2 : Int32) (a3 : Int32) (a4 : Int32) (M : sy_M) : sy_O :=
  if a4 < 20 then
    if (2 * a4) < a3 then
      sy_bi (jfX10_byteAt (2 * a4) M) fun v2 M1 =>
      sy_bx (xe_in a4 20) <|
      let M3 := sy_upd M1 7 (Int32.toNatClampNeg a4) v2
      sy_bi (jfX10_byteAt ((2 * a4) + 1) M3) fun v5 M4 =>
      sy_bx (xe_in a4 20) <|
      let M6 := sy_upd M4 8 (Int32.toNatClampNeg a4) v5
      sy_bx (xe_in a4 20) <|
      if (M6 7 (Int32.toNatClampNeg a4)) < 48 then
        sy_bx (xe_in a4 20) <|
        if a2 < (M6 8 (Int32.toNatClampNeg a4)) then
          sy_ri 0 M6
        else
          jfX1_readRows_104 k32 a2 a3 a4 M6
      else
        sy_ri 0 M6
    else
      sy_ri 1 M
  else
    sy_ri 1 M
def jfX1_readRows_32 : Nat → Int32 → Int32 → Int32 → sy_M → sy_O
  | 0, _, _, _, _ => none
  | n + 1, a2, a3, a4, M => jgX1_readRows_32 (jfX1_readRows_32 n) a2 a3 a4 M
set_option maxRecDepth 100000 in
theorem jrX1_readRows_32 (k32 : Int32 → Int32 → Int32 → sy_M → sy_O) (a2 : Int32) (a3 : Int32) (a4 : Int32) (M : sy_M) : sy_run skX1 qX1_readRows [(32, .iload 4, 2, []), (34, .bipush 20, 2, []), (36, .if_icmp .ge 82, 3, []), (39, .iconst 2, 1, []), (40, .iload 4, 2, []), (42, .imul, 1, []), (43, .iload_n 3, 1, []), (44, .if_icmp .ge 74, 3, []), (47, .aload_n 0, 1, []), (48, .getfield 9, 3, []), (51, .iload 4, 2, []), (53, .aload_n 1, 1, []), (54, .iconst 2, 1, []), (55, .iload 4, 2, []), (57, .imul, 1, []), (58, .invokevirtual 27, 3, []), (61, .iastore, 1, []), (62, .aload_n 0, 1, []), (63, .getfield 15, 3, []), (66, .iload 4, 2, []), (68, .aload_n 1, 1, []), (69, .iconst 2, 1, []), (70, .iload 4, 2, []), (72, .imul, 1, []), (73, .iconst 1, 1, []), (74, .iadd, 1, []), (75, .invokevirtual 27, 3, []), (78, .iastore, 1, []), (79, .aload_n 0, 1, []), (80, .getfield 9, 3, []), (83, .iload 4, 2, []), (85, .iaload, 1, []), (86, .bipush 48, 2, []), (88, .if_icmp .ge 14, 3, []), (91, .aload_n 0, 1, []), (92, .getfield 15, 3, []), (95, .iload 4, 2, []), (97, .iaload, 1, []), (98, .iload_n 2, 1, []), (99, .if_icmp .le 5, 3, []), (102, .iconst 0, 1, [false, false, false, false, false]), (103, .ireturn, 1, []), (118, .iconst 1, 1, [false, false, false, false, false]), (119, .ireturn, 1, [])] [(77, 0, jcX10_byteAt)] [(104, juX1_readRows_104 (jfX1_readRows_104 k32))] 45 [] 32 [.ref 6, .ref 1, .int a2, .int a3, .int a4] [] M = jgX1_readRows_32 k32 a2 a3 a4 M := rfl
theorem jtX1_readRows_32 : ∀ n : Nat, ∀ (a2 : Int32) (a3 : Int32) (a4 : Int32) (M : sy_M) (r : xe_R × sy_M), jfX1_readRows_32 n a2 a3 a4 M = some r → sy_E (2) qX1_readRows 32 [.ref 6, .ref 1, .int a2, .int a3, .int a4] [] M r := by
  intro n
  induction n with
  | zero => intro a2 a3 a4 M r h; exact absurd (show (none : sy_O) = some r from h) (by simp)
  | succ n ih => intro a2 a3 a4 M r h; exact sy_run_by (d := 1) ((jrX1_readRows_32 _ _ _ _ M).trans h) hkX1 (by decide +kernel) (sy_cs_cons (jeX10_byteAt.deep (by decide)) sy_cs_nil) (sy_us_cons (jwX1_readRows_104 (jtX1_readRows_104 ih)) sy_us_nil)
def jfX1_readRows (a2 : Int32) (M : sy_M) : sy_O :=
  let v1 := (M 1 4)
  let M2 := sy_upd M 1 4 0
  let M3 := sy_upd M2 6 2 0
  if (v1 - v1 / 2 * 2) = 0 then
    if 40 < v1 then
      sy_ri 0 M3
    else
      jfX1_readRows_32 sy_F a2 v1 0 M3
  else
    sy_ri 0 M3
set_option maxRecDepth 100000 in
theorem jrX1_readRows (a2 : Int32) (M : sy_M) : sy_run skX1 qX1_readRows [(0, .aload_n 1, 1, []), (1, .getfield 22, 3, []), (4, .istore_n 3, 1, []), (5, .aload_n 1, 1, []), (6, .iconst 0, 1, []), (7, .putfield 22, 3, []), (10, .aload_n 0, 1, []), (11, .iconst 0, 1, []), (12, .putfield 18, 3, []), (15, .iload_n 3, 1, []), (16, .iconst 2, 1, []), (17, .irem, 1, []), (18, .ifCond .ne 9, 3, []), (21, .iload_n 3, 1, []), (22, .bipush 40, 2, []), (24, .if_icmp .le 5, 3, []), (27, .iconst 0, 1, [false, false, false, false, false]), (28, .ireturn, 1, []), (29, .iconst 0, 1, [true, true, true, true, false]), (30, .istore 4, 2, [])] [] [(32, juX1_readRows_32 (jfX1_readRows_32 sy_F))] 21 [] 0 [.ref 6, .ref 1, .int a2, xe_no, xe_no] [] M = jfX1_readRows a2 M := rfl
theorem jtX1_readRows : ∀ (a2 : Int32) (M : sy_M) (r : xe_R × sy_M), jfX1_readRows a2 M = some r → sy_E (2) qX1_readRows 0 [.ref 6, .ref 1, .int a2, xe_no, xe_no] [] M r := by
  intro a2 M r h
  exact sy_run_by (d := 1) ((jrX1_readRows _ M).trans h) hkX1 (by decide +kernel) sy_cs_nil (sy_us_cons (jwX1_readRows_32 (jtX1_readRows_32 sy_F)) sy_us_nil)
def jcX1_readRows (as : List Value) (M : sy_M) (K : sy_O → sy_O) : sy_O := sy_xc 6 as fun l => sy_xc 1 l fun l => sy_xi l fun a2 l => sy_xn l (K (jfX1_readRows a2 M))
theorem jeX1_readRows : sy_snd (2) 6 (jcX1_readRows) := by
  intro as M K r h
  obtain ⟨l, e, h1⟩ := sy_xc_ok h; subst e
  obtain ⟨l, e, h2⟩ := sy_xc_ok h1; subst e
  obtain ⟨a2, l, e, h3⟩ := sy_xi_ok h2; subst e
  obtain ⟨e, h4⟩ := sy_xn_ok h3; subst e
  exact ⟨_, h4, fun r1 h0 => ⟨qX1_readRows, rfl, rfl, jtX1_readRows _ M r1 h0⟩⟩
/-! X11_readClues StairMeter readClues (I)V [('R', 0), 'I'] -/
def jfX11_readClues (a1 : Int32) (M : sy_M) : sy_O :=
  sy_bi (jfX1_readRows a1 M) fun v2 M1 =>
  if v2 = 0 then
    sy_bx (xe_in (M1 133 0) 100000) <|
    sy_rt 20 (sy_upd M1 133 0 (M1 133 0 + 1))
  else
    sy_rv M1
set_option maxRecDepth 100000 in
theorem jrX11_readClues (a1 : Int32) (M : sy_M) : sy_run skX11 qX11_readClues [(0, .aload_n 0, 1, []), (1, .getfield 19, 3, []), (4, .aload_n 0, 1, []), (5, .getfield 10, 3, []), (8, .iload_n 1, 1, []), (9, .invokevirtual 360, 3, []), (12, .ifCond .ne 11, 3, []), (15, .new 127, 3, []), (23, .return_, 1, [false, false])] [(6, 0, jcX1_readRows)] [] 10 [] 0 [.ref 0, .int a1] [] M = jfX11_readClues a1 M := rfl
theorem jtX11_readClues : ∀ (a1 : Int32) (M : sy_M) (r : xe_R × sy_M), jfX11_readClues a1 M = some r → sy_E (3) qX11_readClues 0 [.ref 0, .int a1] [] M r := by
  intro a1 M r h
  exact sy_run_by (d := 2) ((jrX11_readClues _ M).trans h) hkX11 (by decide +kernel) (sy_cs_cons (jeX1_readRows.deep (by decide)) sy_cs_nil) sy_us_nil
def jcX11_readClues (as : List Value) (M : sy_M) (K : sy_O → sy_O) : sy_O := sy_xc 0 as fun l => sy_xi l fun a1 l => sy_xn l (K (jfX11_readClues a1 M))
theorem jeX11_readClues : sy_snd (3) 144 (jcX11_readClues) := by
  intro as M K r h
  obtain ⟨l, e, h1⟩ := sy_xc_ok h; subst e
  obtain ⟨a1, l, e, h2⟩ := sy_xi_ok h1; subst e
  obtain ⟨e, h3⟩ := sy_xn_ok h2; subst e
  exact ⟨_, h3, fun r1 h0 => ⟨qX11_readClues, rfl, rfl, jtX11_readClues _ M r1 h0⟩⟩
/-! X1_isPossible StairMeter$Clues isPossible (I)Z [('R', 6), 'I'] -/
def juX1_isPossible_46 (k : Int32 → Int32 → Int32 → Int32 → sy_M → sy_O) (ls st : List Value) (M : sy_M) : sy_O := sy_xc 6 ls fun l => sy_xi l fun a1 l => sy_xi l fun a2 l => sy_xn l (sy_xi st fun s0 l => sy_xi l fun s1 l => sy_xn l (k a1 a2 s0 s1 M))
theorem jwX1_isPossible_46 {d : Nat} {k : Int32 → Int32 → Int32 → Int32 → sy_M → sy_O} (hk : ∀ (a1 : Int32) (a2 : Int32) (s0 : Int32) (s1 : Int32) (M : sy_M) (r : xe_R × sy_M), k a1 a2 s0 s1 M = some r → sy_E (d) qX1_isPossible 46 [.ref 6, .int a1, .int a2] [.int s0, .int s1] M r) : ∀ ls st M r, juX1_isPossible_46 k ls st M = some r → sy_E d qX1_isPossible 46 ls st M r := by
  intro ls st M r h
  obtain ⟨l, e, h1⟩ := sy_xc_ok h; subst e
  obtain ⟨a1, l, e, h2⟩ := sy_xi_ok h1; subst e
  obtain ⟨a2, l, e, h3⟩ := sy_xi_ok h2; subst e
  obtain ⟨e, h4⟩ := sy_xn_ok h3; subst e
  obtain ⟨s0, l, e, h5⟩ := sy_xi_ok h4; subst e
  obtain ⟨s1, l, e, h6⟩ := sy_xi_ok h5; subst e
  obtain ⟨e, h7⟩ := sy_xn_ok h6; subst e
  exact hk a1 a2 s0 s1 M r h7
def juX1_isPossible_31 (k : Int32 → Int32 → Int32 → sy_M → sy_O) (ls st : List Value) (M : sy_M) : sy_O := sy_xc 6 ls fun l => sy_xi l fun a1 l => sy_xi l fun a2 l => sy_xn l (sy_xi st fun s0 l => sy_xn l (k a1 a2 s0 M))
theorem jwX1_isPossible_31 {d : Nat} {k : Int32 → Int32 → Int32 → sy_M → sy_O} (hk : ∀ (a1 : Int32) (a2 : Int32) (s0 : Int32) (M : sy_M) (r : xe_R × sy_M), k a1 a2 s0 M = some r → sy_E (d) qX1_isPossible 31 [.ref 6, .int a1, .int a2] [.int s0] M r) : ∀ ls st M r, juX1_isPossible_31 k ls st M = some r → sy_E d qX1_isPossible 31 ls st M r := by
  intro ls st M r h
  obtain ⟨l, e, h1⟩ := sy_xc_ok h; subst e
  obtain ⟨a1, l, e, h2⟩ := sy_xi_ok h1; subst e
  obtain ⟨a2, l, e, h3⟩ := sy_xi_ok h2; subst e
  obtain ⟨e, h4⟩ := sy_xn_ok h3; subst e
  obtain ⟨s0, l, e, h5⟩ := sy_xi_ok h4; subst e
  obtain ⟨e, h6⟩ := sy_xn_ok h5; subst e
  exact hk a1 a2 s0 M r h6
def juX1_isPossible_2 (k : Int32 → Int32 → sy_M → sy_O) (ls st : List Value) (M : sy_M) : sy_O := sy_xc 6 ls fun l => sy_xi l fun a1 l => sy_xi l fun a2 l => sy_xn l (sy_xn st (k a1 a2 M))
theorem jwX1_isPossible_2 {d : Nat} {k : Int32 → Int32 → sy_M → sy_O} (hk : ∀ (a1 : Int32) (a2 : Int32) (M : sy_M) (r : xe_R × sy_M), k a1 a2 M = some r → sy_E (d) qX1_isPossible 2 [.ref 6, .int a1, .int a2] [] M r) : ∀ ls st M r, juX1_isPossible_2 k ls st M = some r → sy_E d qX1_isPossible 2 ls st M r := by
  intro ls st M r h
  obtain ⟨l, e, h1⟩ := sy_xc_ok h; subst e
  obtain ⟨a1, l, e, h2⟩ := sy_xi_ok h1; subst e
  obtain ⟨a2, l, e, h3⟩ := sy_xi_ok h2; subst e
  obtain ⟨e, h4⟩ := sy_xn_ok h3; subst e
  obtain ⟨e, h5⟩ := sy_xn_ok h4; subst e
  exact hk a1 a2 M r h5
def jfX1_isPossible_46 (k2 : Int32 → Int32 → sy_M → sy_O) (a1 : Int32) (a2 : Int32) (s0 : Int32) (s1 : Int32) (M : sy_M) : sy_O :=
  if s1 = s0 then
    let v1 := a2 + 1
    k2 a1 v1 M
  else
    sy_ri 0 M
set_option maxRecDepth 100000 in
theorem jrX1_isPossible_46 (k2 : Int32 → Int32 → sy_M → sy_O) (a1 : Int32) (a2 : Int32) (s0 : Int32) (s1 : Int32) (M : sy_M) : sy_run skX1 qX1_isPossible [(46, .if_icmp .eq 5, 3, []), (49, .iconst 0, 1, []), (50, .ireturn, 1, []), (51, .iinc 2 1, 3, []), (54, .goto (-52), 3, [])] [] [(2, juX1_isPossible_2 k2)] 6 [] 46 [.ref 6, .int a1, .int a2] [.int s0, .int s1] M = jfX1_isPossible_46 k2 a1 a2 s0 s1 M := rfl
theorem jtX1_isPossible_46 {k2 : Int32 → Int32 → sy_M → sy_O} (hk2 : ∀ (a1 : Int32) (a2 : Int32) (M : sy_M) (r : xe_R × sy_M), k2 a1 a2 M = some r → sy_E (1) qX1_isPossible 2 [.ref 6, .int a1, .int a2] [] M r) : ∀ (a1 : Int32) (a2 : Int32) (s0 : Int32) (s1 : Int32) (M : sy_M) (r : xe_R × sy_M), jfX1_isPossible_46 k2 a1 a2 s0 s1 M = some r → sy_E (1) qX1_isPossible 46 [.ref 6, .int a1, .int a2] [.int s0, .int s1] M r := by
  intro a1 a2 s0 s1 M r h
  exact sy_run_by (d := 0) ((jrX1_isPossible_46 _ _ _ _ _ M).trans h) hkX1 (by decide +kernel) sy_cs_nil (sy_us_cons (jwX1_isPossible_2 hk2) sy_us_nil)
def jfX1_isPossible_31 (k2 : Int32 → Int32 → sy_M → sy_O) (a1 : Int32) (a2 : Int32) (s0 : Int32) (M : sy_M) : sy_O :=
  sy_bx (xe_in a2 20) <|
  if (M 8 (Int32.toNatClampNeg a2)) = 1 then
    jfX1_isPossible_46 k2 a1 a2 1 s0 M
  else
    jfX1_isPossible_46 k2 a1 a2 0 s0 M
set_option maxRecDepth 100000 in
theorem jrX1_isPossible_31 (k2 : Int32 → Int32 → sy_M → sy_O) (a1 : Int32) (a2 : Int32) (s0 : Int32) (M : sy_M) : sy_run skX1 qX1_isPossible [(31, .aload_n 0, 1, []), (32, .getfield 15, 3, []), (35, .iload_n 2, 1, []), (36, .iaload, 1, []), (37, .iconst 1, 1, []), (38, .if_icmp .ne 7, 3, []), (41, .iconst 1, 1, []), (42, .goto 4, 3, []), (45, .iconst 0, 1, [])] [] [(46, juX1_isPossible_46 (jfX1_isPossible_46 k2))] 10 [] 31 [.ref 6, .int a1, .int a2] [.int s0] M = jfX1_isPossible_31 k2 a1 a2 s0 M := rfl
theorem jtX1_isPossible_31 {k2 : Int32 → Int32 → sy_M → sy_O} (hk2 : ∀ (a1 : Int32) (a2 : Int32) (M : sy_M) (r : xe_R × sy_M), k2 a1 a2 M = some r → sy_E (1) qX1_isPossible 2 [.ref 6, .int a1, .int a2] [] M r) : ∀ (a1 : Int32) (a2 : Int32) (s0 : Int32) (M : sy_M) (r : xe_R × sy_M), jfX1_isPossible_31 k2 a1 a2 s0 M = some r → sy_E (1) qX1_isPossible 31 [.ref 6, .int a1, .int a2] [.int s0] M r := by
  intro a1 a2 s0 M r h
  exact sy_run_by (d := 0) ((jrX1_isPossible_31 _ _ _ _ M).trans h) hkX1 (by decide +kernel) sy_cs_nil (sy_us_cons (jwX1_isPossible_46 (jtX1_isPossible_46 hk2)) sy_us_nil)
def jgX1_isPossible_2 (k2 : Int32 → Int32 → sy_M → sy_O) (a1 : Int32) (a2 : Int32) (M : sy_M) : sy_O :=
  if a2 < (M 6 2) then
    if a2 < 20 then
      sy_bx (xe_in a2 20) <|
      if (M 7 (Int32.toNatClampNeg a2)) < a1 then
        jfX1_isPossible_31 k2 a1 a2 0 M
      else
        jfX1_isPossible_31 k2 a1 a2 1 M
    else
      sy_ri 1 M
  else
    sy_ri 1 M
def jfX1_isPossible_2 : Nat → Int32 → Int32 → sy_M → sy_O
  | 0, _, _, _ => none
  | n + 1, a1, a2, M => jgX1_isPossible_2 (jfX1_isPossible_2 n) a1 a2 M
set_option maxRecDepth 100000 in
theorem jrX1_isPossible_2 (k2 : Int32 → Int32 → sy_M → sy_O) (a1 : Int32) (a2 : Int32) (M : sy_M) : sy_run skX1 qX1_isPossible [(2, .iload_n 2, 1, []), (3, .aload_n 0, 1, []), (4, .getfield 18, 3, []), (7, .if_icmp .ge 50, 3, []), (10, .iload_n 2, 1, []), (11, .bipush 20, 2, []), (13, .if_icmp .ge 44, 3, []), (16, .iload_n 1, 1, []), (17, .aload_n 0, 1, []), (18, .getfield 9, 3, []), (21, .iload_n 2, 1, []), (22, .iaload, 1, []), (23, .if_icmp .gt 7, 3, []), (26, .iconst 1, 1, []), (27, .goto 4, 3, []), (30, .iconst 0, 1, []), (57, .iconst 1, 1, [false, false, false]), (58, .ireturn, 1, [])] [] [(31, juX1_isPossible_31 (jfX1_isPossible_31 k2))] 19 [] 2 [.ref 6, .int a1, .int a2] [] M = jgX1_isPossible_2 k2 a1 a2 M := rfl
theorem jtX1_isPossible_2 : ∀ n : Nat, ∀ (a1 : Int32) (a2 : Int32) (M : sy_M) (r : xe_R × sy_M), jfX1_isPossible_2 n a1 a2 M = some r → sy_E (1) qX1_isPossible 2 [.ref 6, .int a1, .int a2] [] M r := by
  intro n
  induction n with
  | zero => intro a1 a2 M r h; exact absurd (show (none : sy_O) = some r from h) (by simp)
  | succ n ih => intro a1 a2 M r h; exact sy_run_by (d := 0) ((jrX1_isPossible_2 _ _ _ M).trans h) hkX1 (by decide +kernel) sy_cs_nil (sy_us_cons (jwX1_isPossible_31 (jtX1_isPossible_31 ih)) sy_us_nil)
def jfX1_isPossible (a1 : Int32) (M : sy_M) : sy_O :=
  jfX1_isPossible_2 sy_F a1 0 M
set_option maxRecDepth 100000 in
theorem jrX1_isPossible (a1 : Int32) (M : sy_M) : sy_run skX1 qX1_isPossible [(0, .iconst 0, 1, []), (1, .istore_n 2, 1, [])] [] [(2, juX1_isPossible_2 (jfX1_isPossible_2 sy_F))] 3 [] 0 [.ref 6, .int a1, xe_no] [] M = jfX1_isPossible a1 M := rfl
theorem jtX1_isPossible : ∀ (a1 : Int32) (M : sy_M) (r : xe_R × sy_M), jfX1_isPossible a1 M = some r → sy_E (1) qX1_isPossible 0 [.ref 6, .int a1, xe_no] [] M r := by
  intro a1 M r h
  exact sy_run_by (d := 0) ((jrX1_isPossible _ M).trans h) hkX1 (by decide +kernel) sy_cs_nil (sy_us_cons (jwX1_isPossible_2 (jtX1_isPossible_2 sy_F)) sy_us_nil)
def jcX1_isPossible (as : List Value) (M : sy_M) (K : sy_O → sy_O) : sy_O := sy_xc 6 as fun l => sy_xi l fun a1 l => sy_xn l (K (jfX1_isPossible a1 M))
theorem jeX1_isPossible : sy_snd (1) 7 (jcX1_isPossible) := by
  intro as M K r h
  obtain ⟨l, e, h1⟩ := sy_xc_ok h; subst e
  obtain ⟨a1, l, e, h2⟩ := sy_xi_ok h1; subst e
  obtain ⟨e, h3⟩ := sy_xn_ok h2; subst e
  exact ⟨_, h3, fun r1 h0 => ⟨qX1_isPossible, rfl, rfl, jtX1_isPossible _ M r1 h0⟩⟩
/-! J6_bitCount_0f7a4 java/lang/Integer bitCount (I)I ['I'] -/
def jfJ6_bitCount_0f7a4 (a0 : Int32) (M : sy_M) : sy_O :=
  let v1 := (a0 - (((Int32.toUInt32 a0 >>> (Int32.toUInt32 1 &&& Int32.toUInt32 31)).toInt32) &&& 1431655765))
  let v2 := ((v1 &&& 858993459) + (((Int32.toUInt32 v1 >>> (Int32.toUInt32 2 &&& Int32.toUInt32 31)).toInt32) &&& 858993459))
  let v3 := ((v2 + ((Int32.toUInt32 v2 >>> (Int32.toUInt32 4 &&& Int32.toUInt32 31)).toInt32)) &&& 252645135)
  let v4 := (v3 + ((Int32.toUInt32 v3 >>> (Int32.toUInt32 8 &&& Int32.toUInt32 31)).toInt32))
  let v5 := (v4 + ((Int32.toUInt32 v4 >>> (Int32.toUInt32 16 &&& Int32.toUInt32 31)).toInt32))
  sy_ri (v5 &&& 63) M
set_option maxRecDepth 100000 in
theorem jrJ6_bitCount_0f7a4 (a0 : Int32) (M : sy_M) : sy_run (xe_lk (xe_link qJ6_bitCount_0f7a4)) qJ6_bitCount_0f7a4 [(0, .iload_n 0, 1, []), (1, .iload_n 0, 1, []), (2, .iconst 1, 1, []), (3, .iushr, 1, []), (4, .ldc_w 265, 3, []), (7, .iand, 1, []), (8, .isub, 1, []), (9, .istore_n 0, 1, []), (10, .iload_n 0, 1, []), (11, .ldc_w 266, 3, []), (14, .iand, 1, []), (15, .iload_n 0, 1, []), (16, .iconst 2, 1, []), (17, .iushr, 1, []), (18, .ldc_w 266, 3, []), (21, .iand, 1, []), (22, .iadd, 1, []), (23, .istore_n 0, 1, []), (24, .iload_n 0, 1, []), (25, .iload_n 0, 1, []), (26, .iconst 4, 1, []), (27, .iushr, 1, []), (28, .iadd, 1, []), (29, .ldc_w 267, 3, []), (32, .iand, 1, []), (33, .istore_n 0, 1, []), (34, .iload_n 0, 1, []), (35, .iload_n 0, 1, []), (36, .bipush 8, 2, []), (38, .iushr, 1, []), (39, .iadd, 1, []), (40, .istore_n 0, 1, []), (41, .iload_n 0, 1, []), (42, .iload_n 0, 1, []), (43, .bipush 16, 2, []), (45, .iushr, 1, []), (46, .iadd, 1, []), (47, .istore_n 0, 1, []), (48, .iload_n 0, 1, []), (49, .bipush 63, 2, []), (51, .iand, 1, []), (52, .ireturn, 1, [])] [] [] 43 [] 0 [.int a0] [] M = jfJ6_bitCount_0f7a4 a0 M := rfl
theorem jtJ6_bitCount_0f7a4 : ∀ (a0 : Int32) (M : sy_M) (r : xe_R × sy_M), jfJ6_bitCount_0f7a4 a0 M = some r → sy_E (1) qJ6_bitCount_0f7a4 0 [.int a0] [] M r := by
  intro a0 M r h
  exact sy_run_by (d := 0) ((jrJ6_bitCount_0f7a4 _ M).trans h) (fun _ => rfl) (by decide +kernel) sy_cs_nil sy_us_nil
def jcJ6_bitCount_0f7a4 (as : List Value) (M : sy_M) (K : sy_O → sy_O) : sy_O := sy_xi as fun a0 l => sy_xn l (K (jfJ6_bitCount_0f7a4 a0 M))
theorem jeJ6_bitCount_0f7a4 : sy_snd (1) 357 (jcJ6_bitCount_0f7a4) := by
  intro as M K r h
  obtain ⟨a0, l, e, h1⟩ := sy_xi_ok h; subst e
  obtain ⟨e, h2⟩ := sy_xn_ok h1; subst e
  exact ⟨_, h2, fun r1 h0 => ⟨qJ6_bitCount_0f7a4, rfl, rfl, jtJ6_bitCount_0f7a4 _ M r1 h0⟩⟩
/-! X11_culprit StairMeter culprit (Z)I [('R', 0), 'I'] -/
def juX11_culprit_69 (k : Int32 → Int32 → Int32 → Int32 → sy_M → sy_O) (ls st : List Value) (M : sy_M) : sy_O := sy_xc 0 ls fun l => sy_xi l fun a1 l => sy_xi l fun a2 l => sy_xi l fun a3 l => sy_xi l fun a4 l => sy_xn l (sy_xn st (k a1 a2 a3 a4 M))
theorem jwX11_culprit_69 {d : Nat} {k : Int32 → Int32 → Int32 → Int32 → sy_M → sy_O} (hk : ∀ (a1 : Int32) (a2 : Int32) (a3 : Int32) (a4 : Int32) (M : sy_M) (r : xe_R × sy_M), k a1 a2 a3 a4 M = some r → sy_E (d) qX11_culprit 69 [.ref 0, .int a1, .int a2, .int a3, .int a4] [] M r) : ∀ ls st M r, juX11_culprit_69 k ls st M = some r → sy_E d qX11_culprit 69 ls st M r := by
  intro ls st M r h
  obtain ⟨l, e, h1⟩ := sy_xc_ok h; subst e
  obtain ⟨a1, l, e, h2⟩ := sy_xi_ok h1; subst e
  obtain ⟨a2, l, e, h3⟩ := sy_xi_ok h2; subst e
  obtain ⟨a3, l, e, h4⟩ := sy_xi_ok h3; subst e
  obtain ⟨a4, l, e, h5⟩ := sy_xi_ok h4; subst e
  obtain ⟨e, h6⟩ := sy_xn_ok h5; subst e
  obtain ⟨e, h7⟩ := sy_xn_ok h6; subst e
  exact hk a1 a2 a3 a4 M r h7
def juX11_culprit_23 (k : Int32 → Int32 → Int32 → Int32 → sy_M → sy_O) (ls st : List Value) (M : sy_M) : sy_O := sy_xc 0 ls fun l => sy_xi l fun a1 l => sy_xi l fun a2 l => sy_xi l fun a3 l => sy_xi l fun a4 l => sy_xn l (sy_xn st (k a1 a2 a3 a4 M))
theorem jwX11_culprit_23 {d : Nat} {k : Int32 → Int32 → Int32 → Int32 → sy_M → sy_O} (hk : ∀ (a1 : Int32) (a2 : Int32) (a3 : Int32) (a4 : Int32) (M : sy_M) (r : xe_R × sy_M), k a1 a2 a3 a4 M = some r → sy_E (d) qX11_culprit 23 [.ref 0, .int a1, .int a2, .int a3, .int a4] [] M r) : ∀ ls st M r, juX11_culprit_23 k ls st M = some r → sy_E d qX11_culprit 23 ls st M r := by
  intro ls st M r h
  obtain ⟨l, e, h1⟩ := sy_xc_ok h; subst e
  obtain ⟨a1, l, e, h2⟩ := sy_xi_ok h1; subst e
  obtain ⟨a2, l, e, h3⟩ := sy_xi_ok h2; subst e
  obtain ⟨a3, l, e, h4⟩ := sy_xi_ok h3; subst e
  obtain ⟨a4, l, e, h5⟩ := sy_xi_ok h4; subst e
  obtain ⟨e, h6⟩ := sy_xn_ok h5; subst e
  obtain ⟨e, h7⟩ := sy_xn_ok h6; subst e
  exact hk a1 a2 a3 a4 M r h7
def jfX11_culprit_69 (k23 : Int32 → Int32 → Int32 → Int32 → sy_M → sy_O) (a1 : Int32) (a2 : Int32) (a3 : Int32) (a4 : Int32) (M : sy_M) : sy_O :=
  let v1 := a4 + 1
  k23 a1 a2 a3 v1 M
set_option maxRecDepth 100000 in
theorem jrX11_culprit_69 (k23 : Int32 → Int32 → Int32 → Int32 → sy_M → sy_O) (a1 : Int32) (a2 : Int32) (a3 : Int32) (a4 : Int32) (M : sy_M) : sy_run skX11 qX11_culprit [(69, .iinc 4 1, 3, []), (72, .goto (-49), 3, [])] [] [(23, juX11_culprit_23 k23)] 3 [] 69 [.ref 0, .int a1, .int a2, .int a3, .int a4] [] M = jfX11_culprit_69 k23 a1 a2 a3 a4 M := rfl
theorem jtX11_culprit_69 {k23 : Int32 → Int32 → Int32 → Int32 → sy_M → sy_O} (hk23 : ∀ (a1 : Int32) (a2 : Int32) (a3 : Int32) (a4 : Int32) (M : sy_M) (r : xe_R × sy_M), k23 a1 a2 a3 a4 M = some r → sy_E (4) qX11_culprit 23 [.ref 0, .int a1, .int a2, .int a3, .int a4] [] M r) : ∀ (a1 : Int32) (a2 : Int32) (a3 : Int32) (a4 : Int32) (M : sy_M) (r : xe_R × sy_M), jfX11_culprit_69 k23 a1 a2 a3 a4 M = some r → sy_E (4) qX11_culprit 69 [.ref 0, .int a1, .int a2, .int a3, .int a4] [] M r := by
  intro a1 a2 a3 a4 M r h
  exact sy_run_by (d := 3) ((jrX11_culprit_69 _ _ _ _ _ M).trans h) hkX11 (by decide +kernel) sy_cs_nil (sy_us_cons (jwX11_culprit_23 hk23) sy_us_nil)
def jgX11_culprit_23 (k23 : Int32 → Int32 → Int32 → Int32 → sy_M → sy_O) (a1 : Int32) (a2 : Int32) (a3 : Int32) (a4 : Int32) (M : sy_M) : sy_O :=
  if a4 < 48 then
    sy_bi (jfX1_isPossible a4 M) fun v2 M1 =>
    if v2 = 0 then
      jfX11_culprit_69 k23 a1 a2 a3 a4 M1
    else
      sy_bi (jfX8_presentAt a4 M1) fun v4 M3 =>
      sy_bi (jfJ6_bitCount_0f7a4 v4 M3) fun v6 M5 =>
      let v7 := (a2 + v6)
      sy_bi (jfX8_presentAt a4 M5) fun v9 M8 =>
      let v10 := (a3 ||| v9)
      jfX11_culprit_69 k23 a1 v7 v10 a4 M8
  else
    if a1 = 0 then
      sy_ri a2 M
    else
      sy_ri a3 M
def jfX11_culprit_23 : Nat → Int32 → Int32 → Int32 → Int32 → sy_M → sy_O
  | 0, _, _, _, _, _ => none
  | n + 1, a1, a2, a3, a4, M => jgX11_culprit_23 (jfX11_culprit_23 n) a1 a2 a3 a4 M
set_option maxRecDepth 100000 in
theorem jrX11_culprit_23 (k23 : Int32 → Int32 → Int32 → Int32 → sy_M → sy_O) (a1 : Int32) (a2 : Int32) (a3 : Int32) (a4 : Int32) (M : sy_M) : sy_run skX11 qX11_culprit [(23, .iload 4, 2, []), (25, .bipush 48, 2, []), (27, .if_icmp .ge 48, 3, []), (30, .aload_n 0, 1, []), (31, .getfield 19, 3, []), (34, .iload 4, 2, []), (36, .invokevirtual 337, 3, []), (39, .ifCond .eq 30, 3, []), (42, .iload_n 2, 1, []), (43, .aload_n 0, 1, []), (44, .getfield 75, 3, []), (47, .iload 4, 2, []), (49, .invokevirtual 245, 3, []), (52, .invokestatic 340, 3, []), (55, .iadd, 1, []), (56, .istore_n 2, 1, []), (57, .iload_n 3, 1, []), (58, .aload_n 0, 1, []), (59, .getfield 75, 3, []), (62, .iload 4, 2, []), (64, .invokevirtual 245, 3, []), (67, .ior, 1, []), (68, .istore_n 3, 1, []), (75, .iload_n 1, 1, [false, true, true, true, false]), (76, .ifCond .eq 7, 3, []), (79, .iload_n 3, 1, []), (80, .goto 4, 3, []), (83, .iload_n 2, 1, [false, false, true, false, false]), (84, .ireturn, 1, [false, false, false, false, false])] [(7, 0, jcX1_isPossible), (64, 0, jcX8_presentAt), (357, 0, jcJ6_bitCount_0f7a4)] [(69, juX11_culprit_69 (jfX11_culprit_69 k23))] 30 [] 23 [.ref 0, .int a1, .int a2, .int a3, .int a4] [] M = jgX11_culprit_23 k23 a1 a2 a3 a4 M := rfl
theorem jtX11_culprit_23 : ∀ n : Nat, ∀ (a1 : Int32) (a2 : Int32) (a3 : Int32) (a4 : Int32) (M : sy_M) (r : xe_R × sy_M), jfX11_culprit_23 n a1 a2 a3 a4 M = some r → sy_E (4) qX11_culprit 23 [.ref 0, .int a1, .int a2, .int a3, .int a4] [] M r := by
  intro n
  induction n with
  | zero => intro a1 a2 a3 a4 M r h; exact absurd (show (none : sy_O) = some r from h) (by simp)
  | succ n ih => intro a1 a2 a3 a4 M r h; exact sy_run_by (d := 3) ((jrX11_culprit_23 _ _ _ _ _ M).trans h) hkX11 (by decide +kernel) (sy_cs_cons (jeX1_isPossible.deep (by decide)) (sy_cs_cons (jeX8_presentAt.deep (by decide)) (sy_cs_cons (jeJ6_bitCount_0f7a4.deep (by decide)) sy_cs_nil))) (sy_us_cons (jwX11_culprit_69 (jtX11_culprit_69 ih)) sy_us_nil)
def jfX11_culprit (a1 : Int32) (M : sy_M) : sy_O :=
  sy_bv (jfX11_readClues 1 M) fun M1 =>
  sy_bv (jfX8_learn 9 M1) fun M2 =>
  jfX11_culprit_23 sy_F a1 0 0 0 M2
set_option maxRecDepth 100000 in
theorem jrX11_culprit (a1 : Int32) (M : sy_M) : sy_run skX11 qX11_culprit [(0, .aload_n 0, 1, []), (1, .iconst 1, 1, []), (2, .invokevirtual 334, 3, []), (5, .aload_n 0, 1, []), (6, .getfield 75, 3, []), (9, .aload_n 0, 1, []), (10, .getfield 28, 3, []), (13, .invokevirtual 181, 3, []), (16, .iconst 0, 1, []), (17, .istore_n 2, 1, []), (18, .iconst 0, 1, []), (19, .istore_n 3, 1, []), (20, .iconst 0, 1, []), (21, .istore 4, 2, [])] [(144, 1, jcX11_readClues), (63, 1, jcX8_learn)] [(23, juX11_culprit_23 (jfX11_culprit_23 sy_F))] 15 [] 0 [.ref 0, .int a1, xe_no, xe_no, xe_no] [] M = jfX11_culprit a1 M := rfl
theorem jtX11_culprit : ∀ (a1 : Int32) (M : sy_M) (r : xe_R × sy_M), jfX11_culprit a1 M = some r → sy_E (4) qX11_culprit 0 [.ref 0, .int a1, xe_no, xe_no, xe_no] [] M r := by
  intro a1 M r h
  exact sy_run_by (d := 3) ((jrX11_culprit _ M).trans h) hkX11 (by decide +kernel) (sy_cs_cons (jeX11_readClues.deep (by decide)) (sy_cs_cons (jeX8_learn.deep (by decide)) sy_cs_nil)) (sy_us_cons (jwX11_culprit_23 (jtX11_culprit_23 sy_F)) sy_us_nil)
def jcX11_culprit (as : List Value) (M : sy_M) (K : sy_O → sy_O) : sy_O := sy_xc 0 as fun l => sy_xi l fun a1 l => sy_xn l (K (jfX11_culprit a1 M))
theorem jeX11_culprit : sy_snd (4) 139 (jcX11_culprit) := by
  intro as M K r h
  obtain ⟨l, e, h1⟩ := sy_xc_ok h; subst e
  obtain ⟨a1, l, e, h2⟩ := sy_xi_ok h1; subst e
  obtain ⟨e, h3⟩ := sy_xn_ok h2; subst e
  exact ⟨_, h3, fun r1 h0 => ⟨qX11_culprit, rfl, rfl, jtX11_culprit _ M r1 h0⟩⟩
/-! L_culprit StairMeterLaw culprit (LStairMeter;Z[J)I [('R', 0), 'I', ('R', 132)] -/
def jfL_culprit (a1 : Int32) (M : sy_M) : sy_O :=
  sy_hi (jfX11_culprit a1 M) (fun v2 M1 =>
    let M5 := sy_wl M1 132 0 (Int32.toInt64 v2)
    sy_ri 0 M5)
  (fun c3 M4 => if c3 = 20 then sy_ri 1 M4 else none)
set_option maxRecDepth 100000 in
theorem jrL_culprit (a1 : Int32) (M : sy_M) : sy_run skL qL_culprit [(0, .aload_n 2, 1, []), (1, .iconst 0, 1, []), (2, .aload_n 0, 1, []), (3, .iload_n 1, 1, []), (4, .invokevirtual 91, 3, []), (7, .i2l, 1, []), (8, .lastore, 1, []), (9, .goto 6, 3, []), (12, .astore_n 3, 1, [false, false, false, false]), (13, .iconst 1, 1, []), (14, .ireturn, 1, []), (15, .iconst 0, 1, [false, false, false, false]), (16, .ireturn, 1, [])] [(139, 3, jcX11_culprit)] [] 14 [] 0 [.ref 0, .int a1, .ref 132, xe_no] [] M = jfL_culprit a1 M := rfl
theorem jtL_culprit : ∀ (a1 : Int32) (M : sy_M) (r : xe_R × sy_M), jfL_culprit a1 M = some r → sy_E (5) qL_culprit 0 [.ref 0, .int a1, .ref 132, xe_no] [] M r := by
  intro a1 M r h
  exact sy_run_by (d := 4) ((jrL_culprit _ M).trans h) hkL (by decide +kernel) (sy_cs_cons (jeX11_culprit.deep (by decide)) sy_cs_nil) sy_us_nil
def jcL_culprit (as : List Value) (M : sy_M) (K : sy_O → sy_O) : sy_O := sy_xc 0 as fun l => sy_xi l fun a1 l => sy_xc 132 l fun l => sy_xn l (K (jfL_culprit a1 M))
theorem jeL_culprit : sy_snd (5) 343 (jcL_culprit) := by
  intro as M K r h
  obtain ⟨l, e, h1⟩ := sy_xc_ok h; subst e
  obtain ⟨a1, l, e, h2⟩ := sy_xi_ok h1; subst e
  obtain ⟨l, e, h3⟩ := sy_xc_ok h2; subst e
  obtain ⟨e, h4⟩ := sy_xn_ok h3; subst e
  exact ⟨_, h4, fun r1 h0 => ⟨qL_culprit, rfl, rfl, jtL_culprit _ M r1 h0⟩⟩
end
