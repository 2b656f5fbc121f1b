/-! ===== functions of the methods (6); written by wip/whole/run_f.py ===== -/
noncomputable section
/-! X12_isDark StairMeterModel isDark (I)V [('R', 121), 'I'] -/
def juX12_isDark_168 (k : Int32 → Int32 → sy_M → sy_O) (ls st : List Value) (M : sy_M) : sy_O := sy_xc 121 ls fun l => sy_xi l fun a1 l => sy_xi l fun a2 l => sy_xv l fun _ l => sy_xn l (sy_xn st (k a1 a2 M))
theorem jwX12_isDark_168 {d : Nat} {k : Int32 → Int32 → sy_M → sy_O} (hk : ∀ (w3 : Value) (a1 : Int32) (a2 : Int32) (M : sy_M) (r : xe_R × sy_M), k a1 a2 M = some r → sy_E (d) qX12_isDark 168 [.ref 121, .int a1, .int a2, w3] [] M r) : ∀ ls st M r, juX12_isDark_168 k ls st M = some r → sy_E d qX12_isDark 168 ls st M r := by
  intro ls st M r h
  obtain ⟨l, e, h1⟩ := sy_xc_ok h; subst e
  obtain ⟨a1, l, e, h2⟩ := sy_xi_ok h1; subst e
  obtain ⟨a2, l, e, h3⟩ := sy_xi_ok h2; subst e
  obtain ⟨w3, l, e, h4⟩ := sy_xv_ok h3; subst e
  obtain ⟨e, h5⟩ := sy_xn_ok h4; subst e
  obtain ⟨e, h6⟩ := sy_xn_ok h5; subst e
  exact hk _ a1 a2 M r h6
def juX12_isDark_152 (k : Int32 → Int32 → Int32 → sy_M → sy_O) (ls st : List Value) (M : sy_M) : sy_O := sy_xc 121 ls fun l => sy_xi l fun a1 l => sy_xi l fun a2 l => sy_xi l fun a3 l => sy_xn l (sy_xn st (k a1 a2 a3 M))
theorem jwX12_isDark_152 {d : Nat} {k : Int32 → Int32 → Int32 → sy_M → sy_O} (hk : ∀ (a1 : Int32) (a2 : Int32) (a3 : Int32) (M : sy_M) (r : xe_R × sy_M), k a1 a2 a3 M = some r → sy_E (d) qX12_isDark 152 [.ref 121, .int a1, .int a2, .int a3] [] M r) : ∀ ls st M r, juX12_isDark_152 k ls st M = some r → sy_E d qX12_isDark 152 ls st M r := by
  intro ls st M r h
  obtain ⟨l, e, h1⟩ := sy_xc_ok h; subst e
  obtain ⟨a1, l, e, h2⟩ := sy_xi_ok h1; subst e
  obtain ⟨a2, l, e, h3⟩ := sy_xi_ok h2; subst e
  obtain ⟨a3, l, e, h4⟩ := sy_xi_ok h3; subst e
  obtain ⟨e, h5⟩ := sy_xn_ok h4; subst e
  obtain ⟨e, h6⟩ := sy_xn_ok h5; subst e
  exact hk a1 a2 a3 M r h6
def juX12_isDark_82 (k : Int32 → Int32 → Int32 → Int32 → Int32 → Int32 → sy_M → sy_O) (ls st : List Value) (M : sy_M) : sy_O := sy_xc 121 ls fun l => sy_xi l fun a1 l => sy_xi l fun a2 l => sy_xi l fun a3 l => sy_xn l (sy_xi st fun s0 l => sy_xi l fun s1 l => sy_xi l fun s2 l => sy_xc 121 l fun l => sy_xn l (k a1 a2 a3 s0 s1 s2 M))
theorem jwX12_isDark_82 {d : Nat} {k : Int32 → Int32 → Int32 → Int32 → Int32 → Int32 → sy_M → sy_O} (hk : ∀ (a1 : Int32) (a2 : Int32) (a3 : Int32) (s0 : Int32) (s1 : Int32) (s2 : Int32) (M : sy_M) (r : xe_R × sy_M), k a1 a2 a3 s0 s1 s2 M = some r → sy_E (d) qX12_isDark 82 [.ref 121, .int a1, .int a2, .int a3] [.int s0, .int s1, .int s2, .ref 121] M r) : ∀ ls st M r, juX12_isDark_82 k ls st M = some r → sy_E d qX12_isDark 82 ls st M r := by
  intro ls st M r h
  obtain ⟨l, e, h1⟩ := sy_xc_ok h; subst e
  obtain ⟨a1, l, e, h2⟩ := sy_xi_ok h1; subst e
  obtain ⟨a2, l, e, h3⟩ := sy_xi_ok h2; subst e
  obtain ⟨a3, l, e, h4⟩ := sy_xi_ok h3; subst e
  obtain ⟨e, h5⟩ := sy_xn_ok h4; subst e
  obtain ⟨s0, l, e, h6⟩ := sy_xi_ok h5; subst e
  obtain ⟨s1, l, e, h7⟩ := sy_xi_ok h6; subst e
  obtain ⟨s2, l, e, h8⟩ := sy_xi_ok h7; subst e
  obtain ⟨l, e, h9⟩ := sy_xc_ok h8; subst e
  obtain ⟨e, h10⟩ := sy_xn_ok h9; subst e
  exact hk a1 a2 a3 s0 s1 s2 M r h10
def juX12_isDark_40 (k : Int32 → Int32 → sy_M → sy_O) (ls st : List Value) (M : sy_M) : sy_O := sy_xc 121 ls fun l => sy_xi l fun a1 l => sy_xi l fun a2 l => sy_xv l fun _ l => sy_xn l (sy_xn st (k a1 a2 M))
theorem jwX12_isDark_40 {d : Nat} {k : Int32 → Int32 → sy_M → sy_O} (hk : ∀ (w3 : Value) (a1 : Int32) (a2 : Int32) (M : sy_M) (r : xe_R × sy_M), k a1 a2 M = some r → sy_E (d) qX12_isDark 40 [.ref 121, .int a1, .int a2, w3] [] M r) : ∀ ls st M r, juX12_isDark_40 k ls st M = some r → sy_E d qX12_isDark 40 ls st M r := by
  intro ls st M r h
  obtain ⟨l, e, h1⟩ := sy_xc_ok h; subst e
  obtain ⟨a1, l, e, h2⟩ := sy_xi_ok h1; subst e
  obtain ⟨a2, l, e, h3⟩ := sy_xi_ok h2; subst e
  obtain ⟨w3, l, e, h4⟩ := sy_xv_ok h3; subst e
  obtain ⟨e, h5⟩ := sy_xn_ok h4; subst e
  obtain ⟨e, h6⟩ := sy_xn_ok h5; subst e
  exact hk _ a1 a2 M r h6
def juX12_isDark_38 (k : Int32 → sy_M → sy_O) (ls st : List Value) (M : sy_M) : sy_O := sy_xc 121 ls fun l => sy_xi l fun a1 l => sy_xv l fun _ l => sy_xv l fun _ l => sy_xn l (sy_xn st (k a1 M))
theorem jwX12_isDark_38 {d : Nat} {k : Int32 → sy_M → sy_O} (hk : ∀ (w2 : Value) (w3 : Value) (a1 : Int32) (M : sy_M) (r : xe_R × sy_M), k a1 M = some r → sy_E (d) qX12_isDark 38 [.ref 121, .int a1, w2, w3] [] M r) : ∀ ls st M r, juX12_isDark_38 k ls st M = some r → sy_E d qX12_isDark 38 ls st M r := by
  intro ls st M r h
  obtain ⟨l, e, h1⟩ := sy_xc_ok h; subst e
  obtain ⟨a1, l, e, h2⟩ := sy_xi_ok h1; subst e
  obtain ⟨w2, l, e, h3⟩ := sy_xv_ok h2; subst e
  obtain ⟨w3, l, e, h4⟩ := sy_xv_ok h3; subst e
  obtain ⟨e, h5⟩ := sy_xn_ok h4; subst e
  obtain ⟨e, h6⟩ := sy_xn_ok h5; subst e
  exact hk _ _ a1 M r h6
def jfX12_isDark_168 (k40 : Int32 → Int32 → sy_M → sy_O) (a1 : Int32) (a2 : Int32) (M : sy_M) : sy_O :=
  let v1 := a2 + 1
  k40 a1 v1 M
set_option maxRecDepth 100000 in
theorem jrX12_isDark_168 (k40 : Int32 → Int32 → sy_M → sy_O) (w3 : Value) (a1 : Int32) (a2 : Int32) (M : sy_M) : sy_run skX12 qX12_isDark [(168, .iinc 2 1, 3, [true, true, true, false]), (171, .goto (-131), 3, [])] [] [(40, juX12_isDark_40 k40)] 3 [] 168 [.ref 121, .int a1, .int a2, w3] [] M = jfX12_isDark_168 k40 a1 a2 M := rfl
theorem jtX12_isDark_168 {k40 : Int32 → Int32 → sy_M → sy_O} (hk40 : ∀ (w3 : Value) (a1 : Int32) (a2 : Int32) (M : sy_M) (r : xe_R × sy_M), k40 a1 a2 M = some r → sy_E (3) qX12_isDark 40 [.ref 121, .int a1, .int a2, w3] [] M r) : ∀ (w3 : Value) (a1 : Int32) (a2 : Int32) (M : sy_M) (r : xe_R × sy_M), jfX12_isDark_168 k40 a1 a2 M = some r → sy_E (3) qX12_isDark 168 [.ref 121, .int a1, .int a2, w3] [] M r := by
  intro w3 a1 a2 M r h
  exact sy_run_by (d := 2) ((jrX12_isDark_168 _ _ _ _ M).trans h) hkX12 (by decide +kernel) sy_cs_nil (sy_us_cons (jwX12_isDark_40 hk40) sy_us_nil)
def jfX12_isDark_152 (k40 : Int32 → Int32 → sy_M → sy_O) (a1 : Int32) (a2 : Int32) (a3 : Int32) (M : sy_M) : sy_O :=
  sy_bi (jfX12_of a2 3 M) fun v2 M1 =>
  if v2 < a3 then
    jfX12_isDark_168 k40 a1 a2 M1
  else
    sy_bv (jfX12_logs 2 a2 M1) fun M3 =>
    jfX12_isDark_168 k40 a1 a2 M3
set_option maxRecDepth 100000 in
theorem jrX12_isDark_152 (k40 : Int32 → Int32 → sy_M → sy_O) (a1 : Int32) (a2 : Int32) (a3 : Int32) (M : sy_M) : sy_run skX12 qX12_isDark [(152, .iload_n 3, 1, []), (153, .aload_n 0, 1, []), (154, .iload_n 2, 1, []), (155, .iconst 3, 1, []), (156, .invokevirtual 52, 3, []), (159, .if_icmp .gt 9, 3, []), (162, .aload_n 0, 1, []), (163, .iconst 2, 1, []), (164, .iload_n 2, 1, []), (165, .invokevirtual 252, 3, [])] [(187, 0, jcX12_of), (229, 1, jcX12_logs)] [(168, juX12_isDark_168 (jfX12_isDark_168 k40))] 11 [] 152 [.ref 121, .int a1, .int a2, .int a3] [] M = jfX12_isDark_152 k40 a1 a2 a3 M := rfl
theorem jtX12_isDark_152 {k40 : Int32 → Int32 → sy_M → sy_O} (hk40 : ∀ (w3 : Value) (a1 : Int32) (a2 : Int32) (M : sy_M) (r : xe_R × sy_M), k40 a1 a2 M = some r → sy_E (3) qX12_isDark 40 [.ref 121, .int a1, .int a2, w3] [] M r) : ∀ (a1 : Int32) (a2 : Int32) (a3 : Int32) (M : sy_M) (r : xe_R × sy_M), jfX12_isDark_152 k40 a1 a2 a3 M = some r → sy_E (3) qX12_isDark 152 [.ref 121, .int a1, .int a2, .int a3] [] M r := by
  intro a1 a2 a3 M r h
  exact sy_run_by (d := 2) ((jrX12_isDark_152 _ _ _ _ M).trans h) hkX12 (by decide +kernel) (sy_cs_cons (jeX12_of.deep (by decide)) (sy_cs_cons (jeX12_logs.deep (by decide)) sy_cs_nil)) (sy_us_cons (jwX12_isDark_168 (jtX12_isDark_168 hk40)) sy_us_nil)
def jfX12_isDark_82 (k40 : Int32 → Int32 → sy_M → sy_O) (a1 : Int32) (a2 : Int32) (a3 : Int32) (s0 : Int32) (s1 : Int32) (s2 : Int32) (M : sy_M) : sy_O :=
  sy_bv (jfX12_lays s2 s1 s0 M) fun M1 =>
  sy_bi (jfX12_isOf a1 a2 M1) fun v3 M2 =>
  if v3 = 0 then
    jfX12_isDark_168 k40 a1 a2 M2
  else
    sy_bi (jfX12_of a2 6 M2) fun v5 M4 =>
    sy_bi (jfX12_of a2 3 M4) fun v7 M6 =>
    if v7 < v5 then
      sy_bi (jfX12_of a2 7 M6) fun v9 M8 =>
      sy_bi (jfX12_lesser 999 (v9 + 1) M8) fun v11 M10 =>
      sy_bv (jfX12_lays a2 7 v11 M10) fun M12 =>
      sy_bi (jfX12_of a2 6 M12) fun v14 M13 =>
      sy_bi (jfX12_of a2 3 M13) fun v16 M15 =>
      if v14 = (v16 + 1) then
        jfX12_isDark_152 k40 a1 a2 a3 M15
      else
        jfX12_isDark_168 k40 a1 a2 M15
    else
      jfX12_isDark_168 k40 a1 a2 M6
set_option maxRecDepth 100000 in
theorem jrX12_isDark_82 (k40 : Int32 → Int32 → sy_M → sy_O) (a1 : Int32) (a2 : Int32) (a3 : Int32) (s0 : Int32) (s1 : Int32) (s2 : Int32) (M : sy_M) : sy_run skX12 qX12_isDark [(82, .invokevirtual 132, 3, []), (85, .iload_n 1, 1, []), (86, .iload_n 2, 1, []), (87, .invokestatic 60, 3, []), (90, .ifCond .eq 78, 3, []), (93, .aload_n 0, 1, []), (94, .iload_n 2, 1, []), (95, .bipush 6, 2, []), (97, .invokevirtual 52, 3, []), (100, .aload_n 0, 1, []), (101, .iload_n 2, 1, []), (102, .iconst 3, 1, []), (103, .invokevirtual 52, 3, []), (106, .if_icmp .gt 6, 3, []), (109, .goto 59, 3, []), (112, .aload_n 0, 1, []), (113, .iload_n 2, 1, []), (114, .bipush 7, 2, []), (116, .sipush 999, 3, []), (119, .aload_n 0, 1, []), (120, .iload_n 2, 1, []), (121, .bipush 7, 2, []), (123, .invokevirtual 52, 3, []), (126, .iconst 1, 1, []), (127, .iadd, 1, []), (128, .invokestatic 244, 3, []), (131, .invokevirtual 132, 3, []), (134, .aload_n 0, 1, []), (135, .iload_n 2, 1, []), (136, .bipush 6, 2, []), (138, .invokevirtual 52, 3, []), (141, .aload_n 0, 1, []), (142, .iload_n 2, 1, []), (143, .iconst 3, 1, []), (144, .invokevirtual 52, 3, []), (147, .iconst 1, 1, []), (148, .iadd, 1, []), (149, .if_icmp .ne 19, 3, [])] [(188, 1, jcX12_lays), (185, 0, jcX12_isOf), (187, 0, jcX12_of), (183, 0, jcX12_lesser)] [(168, juX12_isDark_168 (jfX12_isDark_168 k40)), (152, juX12_isDark_152 (jfX12_isDark_152 k40))] 39 [] 82 [.ref 121, .int a1, .int a2, .int a3] [.int s0, .int s1, .int s2, .ref 121] M = jfX12_isDark_82 k40 a1 a2 a3 s0 s1 s2 M := rfl
theorem jtX12_isDark_82 {k40 : Int32 → Int32 → sy_M → sy_O} (hk40 : ∀ (w3 : Value) (a1 : Int32) (a2 : Int32) (M : sy_M) (r : xe_R × sy_M), k40 a1 a2 M = some r → sy_E (3) qX12_isDark 40 [.ref 121, .int a1, .int a2, w3] [] M r) : ∀ (a1 : Int32) (a2 : Int32) (a3 : Int32) (s0 : Int32) (s1 : Int32) (s2 : Int32) (M : sy_M) (r : xe_R × sy_M), jfX12_isDark_82 k40 a1 a2 a3 s0 s1 s2 M = some r → sy_E (3) qX12_isDark 82 [.ref 121, .int a1, .int a2, .int a3] [.int s0, .int s1, .int s2, .ref 121] M r := by
  intro a1 a2 a3 s0 s1 s2 M r h
  exact sy_run_by (d := 2) ((jrX12_isDark_82 _ _ _ _ _ _ _ M).trans h) hkX12 (by decide +kernel) (sy_cs_cons (jeX12_lays.deep (by decide)) (sy_cs_cons (jeX12_isOf.deep (by decide)) (sy_cs_cons (jeX12_of.deep (by decide)) (sy_cs_cons (jeX12_lesser.deep (by decide)) sy_cs_nil)))) (sy_us_cons (jwX12_isDark_168 (jtX12_isDark_168 hk40)) (sy_us_cons (jwX12_isDark_152 (jtX12_isDark_152 hk40)) sy_us_nil))
def jgX12_isDark_40 (k40 : Int32 → Int32 → sy_M → sy_O) (a1 : Int32) (a2 : Int32) (M : sy_M) : sy_O :=
  if a2 < (M 122 3) then
    sy_bi (jfX12_of a2 6 M) fun v2 M1 =>
    sy_bi (jfX12_isOf a1 a2 M1) fun v4 M3 =>
    if v4 = 0 then
      jfX12_isDark_82 k40 a1 a2 v2 0 6 a2 M3
    else
      sy_bi (jfX12_lesser 99 (v2 + 1) M3) fun v6 M5 =>
      jfX12_isDark_82 k40 a1 a2 v2 v6 6 a2 M5
  else
    sy_rv M
def jfX12_isDark_40 : Nat → Int32 → Int32 → sy_M → sy_O
  | 0, _, _, _ => none
  | n + 1, a1, a2, M => jgX12_isDark_40 (jfX12_isDark_40 n) a1 a2 M
set_option maxRecDepth 100000 in
theorem jrX12_isDark_40 (k40 : Int32 → Int32 → sy_M → sy_O) (w3 : Value) (a1 : Int32) (a2 : Int32) (M : sy_M) : sy_run skX12 qX12_isDark [(40, .iload_n 2, 1, [true, true, true, false]), (41, .aload_n 0, 1, []), (42, .getfield 7, 3, []), (45, .iconst 3, 1, []), (46, .iaload, 1, []), (47, .if_icmp .ge 127, 3, []), (50, .aload_n 0, 1, []), (51, .iload_n 2, 1, []), (52, .bipush 6, 2, []), (54, .invokevirtual 52, 3, []), (57, .istore_n 3, 1, []), (58, .aload_n 0, 1, []), (59, .iload_n 2, 1, []), (60, .bipush 6, 2, []), (62, .iload_n 1, 1, []), (63, .iload_n 2, 1, []), (64, .invokestatic 60, 3, []), (67, .ifCond .eq 14, 3, []), (70, .bipush 99, 2, []), (72, .iload_n 3, 1, []), (73, .iconst 1, 1, []), (74, .iadd, 1, []), (75, .invokestatic 244, 3, []), (78, .goto 4, 3, []), (81, .iconst 0, 1, []), (174, .return_, 1, [false, false, false, false])] [(187, 0, jcX12_of), (185, 0, jcX12_isOf), (183, 0, jcX12_lesser)] [(82, juX12_isDark_82 (jfX12_isDark_82 k40))] 27 [] 40 [.ref 121, .int a1, .int a2, w3] [] M = jgX12_isDark_40 k40 a1 a2 M := rfl
theorem jtX12_isDark_40 : ∀ n : Nat, ∀ (w3 : Value) (a1 : Int32) (a2 : Int32) (M : sy_M) (r : xe_R × sy_M), jfX12_isDark_40 n a1 a2 M = some r → sy_E (3) qX12_isDark 40 [.ref 121, .int a1, .int a2, w3] [] M r := by
  intro n
  induction n with
  | zero => intro w3 a1 a2 M r h; exact absurd (show (none : sy_O) = some r from h) (by simp)
  | succ n ih => intro w3 a1 a2 M r h; exact sy_run_by (d := 2) ((jrX12_isDark_40 _ _ _ _ M).trans h) hkX12 (by decide +kernel) (sy_cs_cons (jeX12_of.deep (by decide)) (sy_cs_cons (jeX12_isOf.deep (by decide)) (sy_cs_cons (jeX12_lesser.deep (by decide)) sy_cs_nil))) (sy_us_cons (jwX12_isDark_82 (jtX12_isDark_82 ih)) sy_us_nil)
def jfX12_isDark_38 (a1 : Int32) (M : sy_M) : sy_O :=
  jfX12_isDark_40 sy_F a1 0 M
set_option maxRecDepth 100000 in
theorem jrX12_isDark_38 (w2 : Value) (w3 : Value) (a1 : Int32) (M : sy_M) : sy_run skX12 qX12_isDark [(38, .iconst 0, 1, [true, true, false, false]), (39, .istore_n 2, 1, [])] [] [(40, juX12_isDark_40 (jfX12_isDark_40 sy_F))] 3 [] 38 [.ref 121, .int a1, w2, w3] [] M = jfX12_isDark_38 a1 M := rfl
theorem jtX12_isDark_38 : ∀ (w2 : Value) (w3 : Value) (a1 : Int32) (M : sy_M) (r : xe_R × sy_M), jfX12_isDark_38 a1 M = some r → sy_E (3) qX12_isDark 38 [.ref 121, .int a1, w2, w3] [] M r := by
  intro w2 w3 a1 M r h
  exact sy_run_by (d := 2) ((jrX12_isDark_38 _ _ _ M).trans h) hkX12 (by decide +kernel) sy_cs_nil (sy_us_cons (jwX12_isDark_40 (jtX12_isDark_40 sy_F)) sy_us_nil)
def jfX12_isDark (a1 : Int32) (M : sy_M) : sy_O :=
  sy_bi (jfX12_lesser 99 ((M 122 8) + 1) M) fun v2 M1 =>
  let M3 := sy_upd M1 122 8 v2
  if (M3 122 8) = 1 then
    sy_bv (jfX12_logs 0 (-1) M3) fun M4 =>
    jfX12_isDark_38 a1 M4
  else
    jfX12_isDark_38 a1 M3
set_option maxRecDepth 100000 in
theorem jrX12_isDark (a1 : Int32) (M : sy_M) : sy_run skX12 qX12_isDark [(0, .aload_n 0, 1, []), (1, .getfield 7, 3, []), (4, .bipush 8, 2, []), (6, .bipush 99, 2, []), (8, .aload_n 0, 1, []), (9, .getfield 7, 3, []), (12, .bipush 8, 2, []), (14, .iaload, 1, []), (15, .iconst 1, 1, []), (16, .iadd, 1, []), (17, .invokestatic 244, 3, []), (20, .iastore, 1, []), (21, .aload_n 0, 1, []), (22, .getfield 7, 3, []), (25, .bipush 8, 2, []), (27, .iaload, 1, []), (28, .iconst 1, 1, []), (29, .if_icmp .ne 9, 3, []), (32, .aload_n 0, 1, []), (33, .iconst 0, 1, []), (34, .iconst (-1), 1, []), (35, .invokevirtual 252, 3, [])] [(183, 0, jcX12_lesser), (229, 1, jcX12_logs)] [(38, juX12_isDark_38 (jfX12_isDark_38))] 23 [] 0 [.ref 121, .int a1, xe_no, xe_no] [] M = jfX12_isDark a1 M := rfl
theorem jtX12_isDark : ∀ (a1 : Int32) (M : sy_M) (r : xe_R × sy_M), jfX12_isDark a1 M = some r → sy_E (3) qX12_isDark 0 [.ref 121, .int a1, xe_no, xe_no] [] M r := by
  intro a1 M r h
  exact sy_run_by (d := 2) ((jrX12_isDark _ M).trans h) hkX12 (by decide +kernel) (sy_cs_cons (jeX12_lesser.deep (by decide)) (sy_cs_cons (jeX12_logs.deep (by decide)) sy_cs_nil)) (sy_us_cons (jwX12_isDark_38 (jtX12_isDark_38)) sy_us_nil)
def jcX12_isDark (as : List Value) (M : sy_M) (K : sy_O → sy_O) : sy_O := sy_xc 121 as fun l => sy_xi l fun a1 l => sy_xn l (K (jfX12_isDark a1 M))
theorem jeX12_isDark : sy_snd (3) 232 (jcX12_isDark) := by
  intro as M K r h
  obtain ⟨l, e, h1⟩ := sy_xc_ok h; subst e
  obtain ⟨a1, l, e, h2⟩ := sy_xi_ok h1; subst e
  obtain ⟨e, h3⟩ := sy_xn_ok h2; subst e
  exact ⟨_, h3, fun r1 h0 => ⟨qX12_isDark, rfl, rfl, jtX12_isDark _ M r1 h0⟩⟩
/-! X12_whoFeeds StairMeterModel whoFeeds (I)I [('R', 121), 'I'] -/
def juX12_whoFeeds_94 (k : Int32 → Int32 → Int32 → Int32 → sy_M → sy_O) (ls st : List Value) (M : sy_M) : sy_O := sy_xc 121 ls fun l => sy_xi l fun a1 l => sy_xi l fun a2 l => sy_xi l fun a3 l => sy_xi l fun a4 l => sy_xn l (sy_xn st (k a1 a2 a3 a4 M))
theorem jwX12_whoFeeds_94 {d : Nat} {k : Int32 → Int32 → Int32 → Int32 → sy_M → sy_O} (hk : ∀ (a1 : Int32) (a2 : Int32) (a3 : Int32) (a4 : Int32) (M : sy_M) (r : xe_R × sy_M), k a1 a2 a3 a4 M = some r → sy_E (d) qX12_whoFeeds 94 [.ref 121, .int a1, .int a2, .int a3, .int a4] [] M r) : ∀ ls st M r, juX12_whoFeeds_94 k ls st M = some r → sy_E d qX12_whoFeeds 94 ls st M r := by
  intro ls st M r h
  obtain ⟨l, e, h1⟩ := sy_xc_ok h; subst e
  obtain ⟨a1, l, e, h2⟩ := sy_xi_ok h1; subst e
  obtain ⟨a2, l, e, h3⟩ := sy_xi_ok h2; subst e
  obtain ⟨a3, l, e, h4⟩ := sy_xi_ok h3; subst e
  obtain ⟨a4, l, e, h5⟩ := sy_xi_ok h4; subst e
  obtain ⟨e, h6⟩ := sy_xn_ok h5; subst e
  obtain ⟨e, h7⟩ := sy_xn_ok h6; subst e
  exact hk a1 a2 a3 a4 M r h7
def juX12_whoFeeds_86 (k : Int32 → Int32 → sy_M → sy_O) (ls st : List Value) (M : sy_M) : sy_O := sy_xc 121 ls fun l => sy_xi l fun a1 l => sy_xv l fun _ l => sy_xv l fun _ l => sy_xi l fun a4 l => sy_xn l (sy_xn st (k a1 a4 M))
theorem jwX12_whoFeeds_86 {d : Nat} {k : Int32 → Int32 → sy_M → sy_O} (hk : ∀ (w2 : Value) (w3 : Value) (a1 : Int32) (a4 : Int32) (M : sy_M) (r : xe_R × sy_M), k a1 a4 M = some r → sy_E (d) qX12_whoFeeds 86 [.ref 121, .int a1, w2, w3, .int a4] [] M r) : ∀ ls st M r, juX12_whoFeeds_86 k ls st M = some r → sy_E d qX12_whoFeeds 86 ls st M r := by
  intro ls st M r h
  obtain ⟨l, e, h1⟩ := sy_xc_ok h; subst e
  obtain ⟨a1, l, e, h2⟩ := sy_xi_ok h1; subst e
  obtain ⟨w2, l, e, h3⟩ := sy_xv_ok h2; subst e
  obtain ⟨w3, l, e, h4⟩ := sy_xv_ok h3; subst e
  obtain ⟨a4, l, e, h5⟩ := sy_xi_ok h4; subst e
  obtain ⟨e, h6⟩ := sy_xn_ok h5; subst e
  obtain ⟨e, h7⟩ := sy_xn_ok h6; subst e
  exact hk _ _ a1 a4 M r h7
def juX12_whoFeeds_83 (k : Int32 → Int32 → Int32 → Int32 → sy_M → sy_O) (ls st : List Value) (M : sy_M) : sy_O := sy_xc 121 ls fun l => sy_xi l fun a1 l => sy_xi l fun a2 l => sy_xi l fun a3 l => sy_xi l fun a4 l => sy_xn l (sy_xn st (k a1 a2 a3 a4 M))
theorem jwX12_whoFeeds_83 {d : Nat} {k : Int32 → Int32 → Int32 → Int32 → sy_M → sy_O} (hk : ∀ (a1 : Int32) (a2 : Int32) (a3 : Int32) (a4 : Int32) (M : sy_M) (r : xe_R × sy_M), k a1 a2 a3 a4 M = some r → sy_E (d) qX12_whoFeeds 83 [.ref 121, .int a1, .int a2, .int a3, .int a4] [] M r) : ∀ ls st M r, juX12_whoFeeds_83 k ls st M = some r → sy_E d qX12_whoFeeds 83 ls st M r := by
  intro ls st M r h
  obtain ⟨l, e, h1⟩ := sy_xc_ok h; subst e
  obtain ⟨a1, l, e, h2⟩ := sy_xi_ok h1; subst e
  obtain ⟨a2, l, e, h3⟩ := sy_xi_ok h2; subst e
  obtain ⟨a3, l, e, h4⟩ := sy_xi_ok h3; subst e
  obtain ⟨a4, l, e, h5⟩ := sy_xi_ok h4; subst e
  obtain ⟨e, h6⟩ := sy_xn_ok h5; subst e
  obtain ⟨e, h7⟩ := sy_xn_ok h6; subst e
  exact hk a1 a2 a3 a4 M r h7
def juX12_whoFeeds_7 (k : Int32 → Int32 → Int32 → Int32 → sy_M → sy_O) (ls st : List Value) (M : sy_M) : sy_O := sy_xc 121 ls fun l => sy_xi l fun a1 l => sy_xi l fun a2 l => sy_xi l fun a3 l => sy_xi l fun a4 l => sy_xn l (sy_xn st (k a1 a2 a3 a4 M))
theorem jwX12_whoFeeds_7 {d : Nat} {k : Int32 → Int32 → Int32 → Int32 → sy_M → sy_O} (hk : ∀ (a1 : Int32) (a2 : Int32) (a3 : Int32) (a4 : Int32) (M : sy_M) (r : xe_R × sy_M), k a1 a2 a3 a4 M = some r → sy_E (d) qX12_whoFeeds 7 [.ref 121, .int a1, .int a2, .int a3, .int a4] [] M r) : ∀ ls st M r, juX12_whoFeeds_7 k ls st M = some r → sy_E d qX12_whoFeeds 7 ls st M r := by
  intro ls st M r h
  obtain ⟨l, e, h1⟩ := sy_xc_ok h; subst e
  obtain ⟨a1, l, e, h2⟩ := sy_xi_ok h1; subst e
  obtain ⟨a2, l, e, h3⟩ := sy_xi_ok h2; subst e
  obtain ⟨a3, l, e, h4⟩ := sy_xi_ok h3; subst e
  obtain ⟨a4, l, e, h5⟩ := sy_xi_ok h4; subst e
  obtain ⟨e, h6⟩ := sy_xn_ok h5; subst e
  obtain ⟨e, h7⟩ := sy_xn_ok h6; subst e
  exact hk a1 a2 a3 a4 M r h7
def jfX12_whoFeeds_94 (k7 : Int32 → Int32 → Int32 → Int32 → sy_M → sy_O) (a1 : Int32) (a2 : Int32) (a3 : Int32) (a4 : Int32) (M : sy_M) : sy_O :=
  let v1 := a4 + 1
  k7 a1 a2 a3 v1 M
set_option maxRecDepth 100000 in
theorem jrX12_whoFeeds_94 (k7 : Int32 → Int32 → Int32 → Int32 → sy_M → sy_O) (a1 : Int32) (a2 : Int32) (a3 : Int32) (a4 : Int32) (M : sy_M) : sy_run skX12 qX12_whoFeeds [(94, .iinc 4 1, 3, []), (97, .goto (-90), 3, [])] [] [(7, juX12_whoFeeds_7 k7)] 3 [] 94 [.ref 121, .int a1, .int a2, .int a3, .int a4] [] M = jfX12_whoFeeds_94 k7 a1 a2 a3 a4 M := rfl
theorem jtX12_whoFeeds_94 {k7 : Int32 → Int32 → Int32 → Int32 → sy_M → sy_O} (hk7 : ∀ (a1 : Int32) (a2 : Int32) (a3 : Int32) (a4 : Int32) (M : sy_M) (r : xe_R × sy_M), k7 a1 a2 a3 a4 M = some r → sy_E (49) qX12_whoFeeds 7 [.ref 121, .int a1, .int a2, .int a3, .int a4] [] M r) : ∀ (a1 : Int32) (a2 : Int32) (a3 : Int32) (a4 : Int32) (M : sy_M) (r : xe_R × sy_M), jfX12_whoFeeds_94 k7 a1 a2 a3 a4 M = some r → sy_E (49) qX12_whoFeeds 94 [.ref 121, .int a1, .int a2, .int a3, .int a4] [] M r := by
  intro a1 a2 a3 a4 M r h
  exact sy_run_by (d := 48) ((jrX12_whoFeeds_94 _ _ _ _ _ M).trans h) hkX12 (by decide +kernel) sy_cs_nil (sy_us_cons (jwX12_whoFeeds_7 hk7) sy_us_nil)
def jfX12_whoFeeds_86 (k7 : Int32 → Int32 → Int32 → Int32 → sy_M → sy_O) (a1 : Int32) (a4 : Int32) (M : sy_M) : sy_O :=
  let v1 := (M 121 17)
  jfX12_whoFeeds_94 k7 a1 a4 v1 a4 M
set_option maxRecDepth 100000 in
theorem jrX12_whoFeeds_86 (k7 : Int32 → Int32 → Int32 → Int32 → sy_M → sy_O) (w2 : Value) (w3 : Value) (a1 : Int32) (a4 : Int32) (M : sy_M) : sy_run skX12 qX12_whoFeeds [(86, .aload_n 0, 1, [true, true, false, false, true]), (87, .getfield 241, 3, []), (90, .istore_n 3, 1, []), (91, .iload 4, 2, []), (93, .istore_n 2, 1, [])] [] [(94, juX12_whoFeeds_94 (jfX12_whoFeeds_94 k7))] 6 [] 86 [.ref 121, .int a1, w2, w3, .int a4] [] M = jfX12_whoFeeds_86 k7 a1 a4 M := rfl
theorem jtX12_whoFeeds_86 {k7 : Int32 → Int32 → Int32 → Int32 → sy_M → sy_O} (hk7 : ∀ (a1 : Int32) (a2 : Int32) (a3 : Int32) (a4 : Int32) (M : sy_M) (r : xe_R × sy_M), k7 a1 a2 a3 a4 M = some r → sy_E (49) qX12_whoFeeds 7 [.ref 121, .int a1, .int a2, .int a3, .int a4] [] M r) : ∀ (w2 : Value) (w3 : Value) (a1 : Int32) (a4 : Int32) (M : sy_M) (r : xe_R × sy_M), jfX12_whoFeeds_86 k7 a1 a4 M = some r → sy_E (49) qX12_whoFeeds 86 [.ref 121, .int a1, w2, w3, .int a4] [] M r := by
  intro w2 w3 a1 a4 M r h
  exact sy_run_by (d := 48) ((jrX12_whoFeeds_86 _ _ _ _ _ M).trans h) hkX12 (by decide +kernel) sy_cs_nil (sy_us_cons (jwX12_whoFeeds_94 (jtX12_whoFeeds_94 hk7)) sy_us_nil)
def jfX12_whoFeeds_83 (k7 : Int32 → Int32 → Int32 → Int32 → sy_M → sy_O) (a1 : Int32) (a2 : Int32) (a3 : Int32) (a4 : Int32) (M : sy_M) : sy_O :=
  jfX12_whoFeeds_94 k7 a1 a2 a3 a4 M
set_option maxRecDepth 100000 in
theorem jrX12_whoFeeds_83 (k7 : Int32 → Int32 → Int32 → Int32 → sy_M → sy_O) (a1 : Int32) (a2 : Int32) (a3 : Int32) (a4 : Int32) (M : sy_M) : sy_run skX12 qX12_whoFeeds [(83, .goto 11, 3, [])] [] [(94, juX12_whoFeeds_94 (jfX12_whoFeeds_94 k7))] 2 [] 83 [.ref 121, .int a1, .int a2, .int a3, .int a4] [] M = jfX12_whoFeeds_83 k7 a1 a2 a3 a4 M := rfl
theorem jtX12_whoFeeds_83 {k7 : Int32 → Int32 → Int32 → Int32 → sy_M → sy_O} (hk7 : ∀ (a1 : Int32) (a2 : Int32) (a3 : Int32) (a4 : Int32) (M : sy_M) (r : xe_R × sy_M), k7 a1 a2 a3 a4 M = some r → sy_E (49) qX12_whoFeeds 7 [.ref 121, .int a1, .int a2, .int a3, .int a4] [] M r) : ∀ (a1 : Int32) (a2 : Int32) (a3 : Int32) (a4 : Int32) (M : sy_M) (r : xe_R × sy_M), jfX12_whoFeeds_83 k7 a1 a2 a3 a4 M = some r → sy_E (49) qX12_whoFeeds 83 [.ref 121, .int a1, .int a2, .int a3, .int a4] [] M r := by
  intro a1 a2 a3 a4 M r h
  exact sy_run_by (d := 48) ((jrX12_whoFeeds_83 _ _ _ _ _ M).trans h) hkX12 (by decide +kernel) sy_cs_nil (sy_us_cons (jwX12_whoFeeds_94 (jtX12_whoFeeds_94 hk7)) sy_us_nil)
def jgX12_whoFeeds_7 (k7 : Int32 → Int32 → Int32 → Int32 → sy_M → sy_O) (a1 : Int32) (a2 : Int32) (a3 : Int32) (a4 : Int32) (M : sy_M) : sy_O :=
  if a4 < (M 122 3) then
    sy_bi (jfX12_isOf a1 a4 M) fun v2 M1 =>
    if v2 = 0 then
      jfX12_whoFeeds_94 k7 a1 a2 a3 a4 M1
    else
      sy_bi (jfX12_of a4 5 M1) fun v4 M3 =>
      if v4 = 0 then
        jfX12_whoFeeds_94 k7 a1 a2 a3 a4 M3
      else
        sy_bi (jfX12_of a4 4 M3) fun v6 M5 =>
        if v6 < (M5 122 8) then
          sy_bv (jfX12_asks a4 M5) fun M7 =>
          if (M7 121 18) = 0 then
            if a2 = (-1) then
              jfX12_whoFeeds_86 k7 a1 a4 M7
            else
              if a3 < (M7 121 17) then
                jfX12_whoFeeds_86 k7 a1 a4 M7
              else
                jfX12_whoFeeds_83 k7 a1 a2 a3 a4 M7
          else
            jfX12_whoFeeds_94 k7 a1 a2 a3 a4 M7
        else
          jfX12_whoFeeds_94 k7 a1 a2 a3 a4 M5
  else
    sy_ri a2 M
def jfX12_whoFeeds_7 : Nat → Int32 → Int32 → Int32 → Int32 → sy_M → sy_O
  | 0, _, _, _, _, _ => none
  | n + 1, a1, a2, a3, a4, M => jgX12_whoFeeds_7 (jfX12_whoFeeds_7 n) a1 a2 a3 a4 M
set_option maxRecDepth 100000 in
theorem jrX12_whoFeeds_7 (k7 : Int32 → Int32 → Int32 → Int32 → sy_M → sy_O) (a1 : Int32) (a2 : Int32) (a3 : Int32) (a4 : Int32) (M : sy_M) : sy_run skX12 qX12_whoFeeds [(7, .iload 4, 2, []), (9, .aload_n 0, 1, []), (10, .getfield 7, 3, []), (13, .iconst 3, 1, []), (14, .iaload, 1, []), (15, .if_icmp .ge 85, 3, []), (18, .iload_n 1, 1, []), (19, .iload 4, 2, []), (21, .invokestatic 60, 3, []), (24, .ifCond .eq 70, 3, []), (27, .aload_n 0, 1, []), (28, .iload 4, 2, []), (30, .iconst 5, 1, []), (31, .invokevirtual 52, 3, []), (34, .ifCond .eq 60, 3, []), (37, .aload_n 0, 1, []), (38, .iload 4, 2, []), (40, .iconst 4, 1, []), (41, .invokevirtual 52, 3, []), (44, .aload_n 0, 1, []), (45, .getfield 7, 3, []), (48, .bipush 8, 2, []), (50, .iaload, 1, []), (51, .if_icmp .lt 6, 3, []), (54, .goto 40, 3, []), (57, .aload_n 0, 1, []), (58, .iload 4, 2, []), (60, .invokevirtual 256, 3, []), (63, .aload_n 0, 1, []), (64, .getfield 238, 3, []), (67, .ifCond .ne 27, 3, []), (70, .iload_n 2, 1, []), (71, .iconst (-1), 1, []), (72, .if_icmp .eq 14, 3, []), (75, .aload_n 0, 1, []), (76, .getfield 241, 3, []), (79, .iload_n 3, 1, []), (80, .if_icmp .gt 6, 3, []), (100, .iload_n 2, 1, [false, false, true, false, false]), (101, .ireturn, 1, [])] [(185, 0, jcX12_isOf), (187, 0, jcX12_of), (227, 1, jcX12_asks)] [(94, juX12_whoFeeds_94 (jfX12_whoFeeds_94 k7)), (86, juX12_whoFeeds_86 (jfX12_whoFeeds_86 k7)), (83, juX12_whoFeeds_83 (jfX12_whoFeeds_83 k7))] 41 [] 7 [.ref 121, .int a1, .int a2, .int a3, .int a4] [] M = jgX12_whoFeeds_7 k7 a1 a2 a3 a4 M := rfl
theorem jtX12_whoFeeds_7 : ∀ n : Nat, ∀ (a1 : Int32) (a2 : Int32) (a3 : Int32) (a4 : Int32) (M : sy_M) (r : xe_R × sy_M), jfX12_whoFeeds_7 n a1 a2 a3 a4 M = some r → sy_E (49) qX12_whoFeeds 7 [.ref 121, .int a1, .int a2, .int a3, .int a4] [] M r := by
  intro n
  induction n with
  | zero => intro a1 a2 a3 a4 M r h; exact absurd (show (none : sy_O) = some r from h) (by simp)
  | succ n ih => intro a1 a2 a3 a4 M r h; exact sy_run_by (d := 48) ((jrX12_whoFeeds_7 _ _ _ _ _ M).trans h) hkX12 (by decide +kernel) (sy_cs_cons (jeX12_isOf.deep (by decide)) (sy_cs_cons (jeX12_of.deep (by decide)) (sy_cs_cons (jeX12_asks.deep (by decide)) sy_cs_nil))) (sy_us_cons (jwX12_whoFeeds_94 (jtX12_whoFeeds_94 ih)) (sy_us_cons (jwX12_whoFeeds_86 (jtX12_whoFeeds_86 ih)) (sy_us_cons (jwX12_whoFeeds_83 (jtX12_whoFeeds_83 ih)) sy_us_nil)))
def jfX12_whoFeeds (a1 : Int32) (M : sy_M) : sy_O :=
  jfX12_whoFeeds_7 sy_F a1 (-1) 0 0 M
set_option maxRecDepth 100000 in
theorem jrX12_whoFeeds (a1 : Int32) (M : sy_M) : sy_run skX12 qX12_whoFeeds [(0, .iconst (-1), 1, []), (1, .istore_n 2, 1, []), (2, .iconst 0, 1, []), (3, .istore_n 3, 1, []), (4, .iconst 0, 1, []), (5, .istore 4, 2, [])] [] [(7, juX12_whoFeeds_7 (jfX12_whoFeeds_7 sy_F))] 7 [] 0 [.ref 121, .int a1, xe_no, xe_no, xe_no] [] M = jfX12_whoFeeds a1 M := rfl
theorem jtX12_whoFeeds : ∀ (a1 : Int32) (M : sy_M) (r : xe_R × sy_M), jfX12_whoFeeds a1 M = some r → sy_E (49) qX12_whoFeeds 0 [.ref 121, .int a1, xe_no, xe_no, xe_no] [] M r := by
  intro a1 M r h
  exact sy_run_by (d := 48) ((jrX12_whoFeeds _ M).trans h) hkX12 (by decide +kernel) sy_cs_nil (sy_us_cons (jwX12_whoFeeds_7 (jtX12_whoFeeds_7 sy_F)) sy_us_nil)
def jcX12_whoFeeds (as : List Value) (M : sy_M) (K : sy_O → sy_O) : sy_O := sy_xc 121 as fun l => sy_xi l fun a1 l => sy_xn l (K (jfX12_whoFeeds a1 M))
theorem jeX12_whoFeeds : sy_snd (49) 233 (jcX12_whoFeeds) := by
  intro as M K r h
  obtain ⟨l, e, h1⟩ := sy_xc_ok h; subst e
  obtain ⟨a1, l, e, h2⟩ := sy_xi_ok h1; subst e
  obtain ⟨e, h3⟩ := sy_xn_ok h2; subst e
  exact ⟨_, h3, fun r1 h0 => ⟨qX12_whoFeeds, rfl, rfl, jtX12_whoFeeds _ M r1 h0⟩⟩
/-! X12_feeds StairMeterModel feeds (I)V [('R', 121), 'I'] -/
def juX12_feeds_107 (k : Int32 → sy_M → sy_O) (ls st : List Value) (M : sy_M) : sy_O := sy_xc 121 ls fun l => sy_xi l fun a1 l => sy_xn l (sy_xn st (k a1 M))
theorem jwX12_feeds_107 {d : Nat} {k : Int32 → sy_M → sy_O} (hk : ∀ (a1 : Int32) (M : sy_M) (r : xe_R × sy_M), k a1 M = some r → sy_E (d) qX12_feeds 107 [.ref 121, .int a1] [] M r) : ∀ ls st M r, juX12_feeds_107 k ls st M = some r → sy_E d qX12_feeds 107 ls st M r := by
  intro ls st M r h
  obtain ⟨l, e, h1⟩ := sy_xc_ok h; subst e
  obtain ⟨a1, l, e, h2⟩ := sy_xi_ok h1; subst e
  obtain ⟨e, h3⟩ := sy_xn_ok h2; subst e
  obtain ⟨e, h4⟩ := sy_xn_ok h3; subst e
  exact hk a1 M r h4
def juX12_feeds_86 (k : Int32 → sy_M → sy_O) (ls st : List Value) (M : sy_M) : sy_O := sy_xc 121 ls fun l => sy_xi l fun a1 l => sy_xn l (sy_xn st (k a1 M))
theorem jwX12_feeds_86 {d : Nat} {k : Int32 → sy_M → sy_O} (hk : ∀ (a1 : Int32) (M : sy_M) (r : xe_R × sy_M), k a1 M = some r → sy_E (d) qX12_feeds 86 [.ref 121, .int a1] [] M r) : ∀ ls st M r, juX12_feeds_86 k ls st M = some r → sy_E d qX12_feeds 86 ls st M r := by
  intro ls st M r h
  obtain ⟨l, e, h1⟩ := sy_xc_ok h; subst e
  obtain ⟨a1, l, e, h2⟩ := sy_xi_ok h1; subst e
  obtain ⟨e, h3⟩ := sy_xn_ok h2; subst e
  obtain ⟨e, h4⟩ := sy_xn_ok h3; subst e
  exact hk a1 M r h4
def jfX12_feeds_107 (a1 : Int32) (M : sy_M) : sy_O :=
  let M1 := sy_upd M 121 20 ((M 121 20) + 1)
  sy_bv (jfX12_logs 1 a1 M1) fun M2 =>
  sy_rv M2
set_option maxRecDepth 100000 in
theorem jrX12_feeds_107 (a1 : Int32) (M : sy_M) : sy_run skX12 qX12_feeds [(107, .aload_n 0, 1, []), (108, .dup, 1, []), (109, .getfield 250, 3, []), (112, .iconst 1, 1, []), (113, .iadd, 1, []), (114, .putfield 250, 3, []), (117, .aload_n 0, 1, []), (118, .iconst 1, 1, []), (119, .iload_n 1, 1, []), (120, .invokevirtual 252, 3, []), (123, .return_, 1, [])] [(229, 1, jcX12_logs)] [] 12 [] 107 [.ref 121, .int a1] [] M = jfX12_feeds_107 a1 M := rfl
theorem jtX12_feeds_107 : ∀ (a1 : Int32) (M : sy_M) (r : xe_R × sy_M), jfX12_feeds_107 a1 M = some r → sy_E (3) qX12_feeds 107 [.ref 121, .int a1] [] M r := by
  intro a1 M r h
  exact sy_run_by (d := 2) ((jrX12_feeds_107 _ M).trans h) hkX12 (by decide +kernel) (sy_cs_cons (jeX12_logs.deep (by decide)) sy_cs_nil) sy_us_nil
def jfX12_feeds_86 (a1 : Int32) (M : sy_M) : sy_O :=
  let M1 := sy_upd M 122 11 a1
  if (M1 121 21) = (-1) then
    let M2 := sy_upd M1 121 21 a1
    jfX12_feeds_107 a1 M2
  else
    jfX12_feeds_107 a1 M1
set_option maxRecDepth 100000 in
theorem jrX12_feeds_86 (a1 : Int32) (M : sy_M) : sy_run skX12 qX12_feeds [(86, .aload_n 0, 1, []), (87, .getfield 7, 3, []), (90, .bipush 11, 2, []), (92, .iload_n 1, 1, []), (93, .iastore, 1, []), (94, .aload_n 0, 1, []), (95, .getfield 247, 3, []), (98, .iconst (-1), 1, []), (99, .if_icmp .ne 8, 3, []), (102, .aload_n 0, 1, []), (103, .iload_n 1, 1, []), (104, .putfield 247, 3, [])] [] [(107, juX12_feeds_107 (jfX12_feeds_107))] 13 [] 86 [.ref 121, .int a1] [] M = jfX12_feeds_86 a1 M := rfl
theorem jtX12_feeds_86 : ∀ (a1 : Int32) (M : sy_M) (r : xe_R × sy_M), jfX12_feeds_86 a1 M = some r → sy_E (3) qX12_feeds 86 [.ref 121, .int a1] [] M r := by
  intro a1 M r h
  exact sy_run_by (d := 2) ((jrX12_feeds_86 _ M).trans h) hkX12 (by decide +kernel) sy_cs_nil (sy_us_cons (jwX12_feeds_107 (jtX12_feeds_107)) sy_us_nil)
def jfX12_feeds (a1 : Int32) (M : sy_M) : sy_O :=
  sy_bi (jfX12_of a1 5 M) fun v2 M1 =>
  sy_bv (jfX12_lays a1 5 (v2 - 1) M1) fun M3 =>
  sy_bi (jfX12_of a1 8 M3) fun v5 M4 =>
  sy_bi (jfX12_lesser 999 (v5 + 1) M4) fun v7 M6 =>
  sy_bv (jfX12_lays a1 8 v7 M6) fun M8 =>
  sy_bi (jfX12_lesser 9999 ((M8 122 10) + 1) M8) fun v10 M9 =>
  let M11 := sy_upd M9 122 10 v10
  sy_bi (jfX12_lesser 9999 ((M11 122 6) + (M11 122 7)) M11) fun v13 M12 =>
  let M14 := sy_upd M12 122 6 v13
  jfX12_feeds_86 a1 M14
set_option maxRecDepth 100000 in
theorem jrX12_feeds (a1 : Int32) (M : sy_M) : sy_run skX12 qX12_feeds [(0, .aload_n 0, 1, []), (1, .iload_n 1, 1, []), (2, .iconst 5, 1, []), (3, .aload_n 0, 1, []), (4, .iload_n 1, 1, []), (5, .iconst 5, 1, []), (6, .invokevirtual 52, 3, []), (9, .iconst 1, 1, []), (10, .isub, 1, []), (11, .invokevirtual 132, 3, []), (14, .aload_n 0, 1, []), (15, .iload_n 1, 1, []), (16, .bipush 8, 2, []), (18, .sipush 999, 3, []), (21, .aload_n 0, 1, []), (22, .iload_n 1, 1, []), (23, .bipush 8, 2, []), (25, .invokevirtual 52, 3, []), (28, .iconst 1, 1, []), (29, .iadd, 1, []), (30, .invokestatic 244, 3, []), (33, .invokevirtual 132, 3, []), (36, .aload_n 0, 1, []), (37, .getfield 7, 3, []), (40, .bipush 10, 2, []), (42, .sipush 9999, 3, []), (45, .aload_n 0, 1, []), (46, .getfield 7, 3, []), (49, .bipush 10, 2, []), (51, .iaload, 1, []), (52, .iconst 1, 1, []), (53, .iadd, 1, []), (54, .invokestatic 244, 3, []), (57, .iastore, 1, []), (58, .aload_n 0, 1, []), (59, .getfield 7, 3, []), (62, .bipush 6, 2, []), (64, .sipush 9999, 3, []), (67, .aload_n 0, 1, []), (68, .getfield 7, 3, []), (71, .bipush 6, 2, []), (73, .iaload, 1, []), (74, .aload_n 0, 1, []), (75, .getfield 7, 3, []), (78, .bipush 7, 2, []), (80, .iaload, 1, []), (81, .iadd, 1, []), (82, .invokestatic 244, 3, []), (85, .iastore, 1, [])] [(187, 0, jcX12_of), (188, 1, jcX12_lays), (183, 0, jcX12_lesser)] [(86, juX12_feeds_86 (jfX12_feeds_86))] 50 [] 0 [.ref 121, .int a1] [] M = jfX12_feeds a1 M := rfl
theorem jtX12_feeds : ∀ (a1 : Int32) (M : sy_M) (r : xe_R × sy_M), jfX12_feeds a1 M = some r → sy_E (3) qX12_feeds 0 [.ref 121, .int a1] [] M r := by
  intro a1 M r h
  exact sy_run_by (d := 2) ((jrX12_feeds _ M).trans h) hkX12 (by decide +kernel) (sy_cs_cons (jeX12_of.deep (by decide)) (sy_cs_cons (jeX12_lays.deep (by decide)) (sy_cs_cons (jeX12_lesser.deep (by decide)) sy_cs_nil))) (sy_us_cons (jwX12_feeds_86 (jtX12_feeds_86)) sy_us_nil)
def jcX12_feeds (as : List Value) (M : sy_M) (K : sy_O → sy_O) : sy_O := sy_xc 121 as fun l => sy_xi l fun a1 l => sy_xn l (K (jfX12_feeds a1 M))
theorem jeX12_feeds : sy_snd (3) 230 (jcX12_feeds) := by
  intro as M K r h
  obtain ⟨l, e, h1⟩ := sy_xc_ok h; subst e
  obtain ⟨a1, l, e, h2⟩ := sy_xi_ok h1; subst e
  obtain ⟨e, h3⟩ := sy_xn_ok h2; subst e
  exact ⟨_, h3, fun r1 h0 => ⟨qX12_feeds, rfl, rfl, jtX12_feeds _ M r1 h0⟩⟩
/-! X12_isLit StairMeterModel isLit (I)V [('R', 121), 'I'] -/
def juX12_isLit_21 (k : Int32 → sy_M → sy_O) (ls st : List Value) (M : sy_M) : sy_O := sy_xc 121 ls fun l => sy_xv l fun _ l => sy_xi l fun a2 l => sy_xn l (sy_xn st (k a2 M))
theorem jwX12_isLit_21 {d : Nat} {k : Int32 → sy_M → sy_O} (hk : ∀ (w1 : Value) (a2 : Int32) (M : sy_M) (r : xe_R × sy_M), k a2 M = some r → sy_E (d) qX12_isLit 21 [.ref 121, w1, .int a2] [] M r) : ∀ ls st M r, juX12_isLit_21 k ls st M = some r → sy_E d qX12_isLit 21 ls st M r := by
  intro ls st M r h
  obtain ⟨l, e, h1⟩ := sy_xc_ok h; subst e
  obtain ⟨w1, l, e, h2⟩ := sy_xv_ok h1; subst e
  obtain ⟨a2, l, e, h3⟩ := sy_xi_ok h2; subst e
  obtain ⟨e, h4⟩ := sy_xn_ok h3; subst e
  obtain ⟨e, h5⟩ := sy_xn_ok h4; subst e
  exact hk _ a2 M r h5
def jgX12_isLit_21 (k21 : Int32 → sy_M → sy_O) (a2 : Int32) (M : sy_M) : sy_O :=
  if a2 < (M 122 3) then
    sy_bv (jfX12_lays a2 6 0 M) fun M1 =>
    let v2 := a2 + 1
    k21 v2 M1
  else
    sy_rv M
def jfX12_isLit_21 : Nat → Int32 → sy_M → sy_O
  | 0, _, _ => none
  | n + 1, a2, M => jgX12_isLit_21 (jfX12_isLit_21 n) a2 M
set_option maxRecDepth 100000 in
theorem jrX12_isLit_21 (k21 : Int32 → sy_M → sy_O) (w1 : Value) (a2 : Int32) (M : sy_M) : sy_run skX12 qX12_isLit [(21, .iload_n 2, 1, [true, false, true]), (22, .aload_n 0, 1, []), (23, .getfield 7, 3, []), (26, .iconst 3, 1, []), (27, .iaload, 1, []), (28, .if_icmp .ge 17, 3, []), (31, .aload_n 0, 1, []), (32, .iload_n 2, 1, []), (33, .bipush 6, 2, []), (35, .iconst 0, 1, []), (36, .invokevirtual 132, 3, []), (39, .iinc 2 1, 3, []), (42, .goto (-21), 3, []), (45, .return_, 1, [false, false, false])] [(188, 1, jcX12_lays)] [(21, juX12_isLit_21 k21)] 15 [] 21 [.ref 121, w1, .int a2] [] M = jgX12_isLit_21 k21 a2 M := rfl
theorem jtX12_isLit_21 : ∀ n : Nat, ∀ (w1 : Value) (a2 : Int32) (M : sy_M) (r : xe_R × sy_M), jfX12_isLit_21 n a2 M = some r → sy_E (2) qX12_isLit 21 [.ref 121, w1, .int a2] [] M r := by
  intro n
  induction n with
  | zero => intro w1 a2 M r h; exact absurd (show (none : sy_O) = some r from h) (by simp)
  | succ n ih => intro w1 a2 M r h; exact sy_run_by (d := 1) ((jrX12_isLit_21 _ _ _ M).trans h) hkX12 (by decide +kernel) (sy_cs_cons (jeX12_lays.deep (by decide)) sy_cs_nil) (sy_us_cons (jwX12_isLit_21 ih) sy_us_nil)
def jfX12_isLit (a1 : Int32) (M : sy_M) : sy_O :=
  let M1 := sy_upd M 122 6 ((M 122 6) - a1)
  let M2 := sy_upd M1 122 8 0
  jfX12_isLit_21 sy_F 0 M2
set_option maxRecDepth 100000 in
theorem jrX12_isLit (a1 : Int32) (M : sy_M) : sy_run skX12 qX12_isLit [(0, .aload_n 0, 1, []), (1, .getfield 7, 3, []), (4, .bipush 6, 2, []), (6, .dup2, 1, []), (7, .iaload, 1, []), (8, .iload_n 1, 1, []), (9, .isub, 1, []), (10, .iastore, 1, []), (11, .aload_n 0, 1, []), (12, .getfield 7, 3, []), (15, .bipush 8, 2, []), (17, .iconst 0, 1, []), (18, .iastore, 1, []), (19, .iconst 0, 1, []), (20, .istore_n 2, 1, [])] [] [(21, juX12_isLit_21 (jfX12_isLit_21 sy_F))] 16 [] 0 [.ref 121, .int a1, xe_no] [] M = jfX12_isLit a1 M := rfl
theorem jtX12_isLit : ∀ (a1 : Int32) (M : sy_M) (r : xe_R × sy_M), jfX12_isLit a1 M = some r → sy_E (2) qX12_isLit 0 [.ref 121, .int a1, xe_no] [] M r := by
  intro a1 M r h
  exact sy_run_by (d := 1) ((jrX12_isLit _ M).trans h) hkX12 (by decide +kernel) sy_cs_nil (sy_us_cons (jwX12_isLit_21 (jtX12_isLit_21 sy_F)) sy_us_nil)
def jcX12_isLit (as : List Value) (M : sy_M) (K : sy_O → sy_O) : sy_O := sy_xc 121 as fun l => sy_xi l fun a1 l => sy_xn l (K (jfX12_isLit a1 M))
theorem jeX12_isLit : sy_snd (2) 231 (jcX12_isLit) := by
  intro as M K r h
  obtain ⟨l, e, h1⟩ := sy_xc_ok h; subst e
  obtain ⟨a1, l, e, h2⟩ := sy_xi_ok h1; subst e
  obtain ⟨e, h3⟩ := sy_xn_ok h2; subst e
  exact ⟨_, h3, fun r1 h0 => ⟨qX12_isLit, rfl, rfl, jtX12_isLit _ M r1 h0⟩⟩
/-! X12_draw StairMeterModel draw (I)I [('R', 121), 'I'] -/
def jfX12_draw (a1 : Int32) (M : sy_M) : sy_O :=
  let M1 := sy_upd M 122 13 ((1103515245 * (M 122 13)) + 12345)
  if a1 = 0 then none else
  sy_ri ((((Int32.toUInt32 (M1 122 13) >>> (Int32.toUInt32 16 &&& Int32.toUInt32 31)).toInt32) &&& 32767) - (((Int32.toUInt32 (M1 122 13) >>> (Int32.toUInt32 16 &&& Int32.toUInt32 31)).toInt32) &&& 32767) / a1 * a1) M1
set_option maxRecDepth 100000 in
theorem jrX12_draw (a1 : Int32) (M : sy_M) : sy_run skX12 qX12_draw [(0, .aload_n 0, 1, []), (1, .getfield 7, 3, []), (4, .bipush 13, 2, []), (6, .ldc 243, 2, []), (8, .aload_n 0, 1, []), (9, .getfield 7, 3, []), (12, .bipush 13, 2, []), (14, .iaload, 1, []), (15, .imul, 1, []), (16, .sipush 12345, 3, []), (19, .iadd, 1, []), (20, .iastore, 1, []), (21, .aload_n 0, 1, []), (22, .getfield 7, 3, []), (25, .bipush 13, 2, []), (27, .iaload, 1, []), (28, .bipush 16, 2, []), (30, .iushr, 1, []), (31, .sipush 32767, 3, []), (34, .iand, 1, []), (35, .iload_n 1, 1, []), (36, .irem, 1, []), (37, .ireturn, 1, [])] [] [] 24 [] 0 [.ref 121, .int a1] [] M = jfX12_draw a1 M := rfl
theorem jtX12_draw : ∀ (a1 : Int32) (M : sy_M) (r : xe_R × sy_M), jfX12_draw a1 M = some r → sy_E (1) qX12_draw 0 [.ref 121, .int a1] [] M r := by
  intro a1 M r h
  exact sy_run_by (d := 0) ((jrX12_draw _ M).trans h) hkX12 (by decide +kernel) sy_cs_nil sy_us_nil
def jcX12_draw (as : List Value) (M : sy_M) (K : sy_O → sy_O) : sy_O := sy_xc 121 as fun l => sy_xi l fun a1 l => sy_xn l (K (jfX12_draw a1 M))
theorem jeX12_draw : sy_snd (1) 228 (jcX12_draw) := by
  intro as M K r h
  obtain ⟨l, e, h1⟩ := sy_xc_ok h; subst e
  obtain ⟨a1, l, e, h2⟩ := sy_xi_ok h1; subst e
  obtain ⟨e, h3⟩ := sy_xn_ok h2; subst e
  exact ⟨_, h3, fun r1 h0 => ⟨qX12_draw, rfl, rfl, jtX12_draw _ M r1 h0⟩⟩
/-! X12_passes StairMeterModel passes (Z)Z [('R', 121), 'I'] -/
def juX12_passes_107 (k : Int32 → sy_M → sy_O) (ls st : List Value) (M : sy_M) : sy_O := sy_xc 121 ls fun l => sy_xv l fun _ l => sy_xv l fun _ l => sy_xv l fun _ l => sy_xi l fun a4 l => sy_xv l fun _ l => sy_xn l (sy_xn st (k a4 M))
theorem jwX12_passes_107 {d : Nat} {k : Int32 → sy_M → sy_O} (hk : ∀ (w1 : Value) (w2 : Value) (w3 : Value) (w5 : Value) (a4 : Int32) (M : sy_M) (r : xe_R × sy_M), k a4 M = some r → sy_E (d) qX12_passes 107 [.ref 121, w1, w2, w3, .int a4, w5] [] M r) : ∀ ls st M r, juX12_passes_107 k ls st M = some r → sy_E d qX12_passes 107 ls st M r := by
  intro ls st M r h
  obtain ⟨l, e, h1⟩ := sy_xc_ok h; subst e
  obtain ⟨w1, l, e, h2⟩ := sy_xv_ok h1; subst e
  obtain ⟨w2, l, e, h3⟩ := sy_xv_ok h2; subst e
  obtain ⟨w3, l, e, h4⟩ := sy_xv_ok h3; subst e
  obtain ⟨a4, l, e, h5⟩ := sy_xi_ok h4; subst e
  obtain ⟨w5, l, e, h6⟩ := sy_xv_ok h5; subst e
  obtain ⟨e, h7⟩ := sy_xn_ok h6; subst e
  obtain ⟨e, h8⟩ := sy_xn_ok h7; subst e
  exact hk _ _ _ _ a4 M r h8
def juX12_passes_93 (k : Int32 → Int32 → sy_M → sy_O) (ls st : List Value) (M : sy_M) : sy_O := sy_xc 121 ls fun l => sy_xv l fun _ l => sy_xv l fun _ l => sy_xv l fun _ l => sy_xi l fun a4 l => sy_xv l fun _ l => sy_xn l (sy_xi st fun s0 l => sy_xn l (k a4 s0 M))
theorem jwX12_passes_93 {d : Nat} {k : Int32 → Int32 → sy_M → sy_O} (hk : ∀ (w1 : Value) (w2 : Value) (w3 : Value) (w5 : Value) (a4 : Int32) (s0 : Int32) (M : sy_M) (r : xe_R × sy_M), k a4 s0 M = some r → sy_E (d) qX12_passes 93 [.ref 121, w1, w2, w3, .int a4, w5] [.int s0] M r) : ∀ ls st M r, juX12_passes_93 k ls st M = some r → sy_E d qX12_passes 93 ls st M r := by
  intro ls st M r h
  obtain ⟨l, e, h1⟩ := sy_xc_ok h; subst e
  obtain ⟨w1, l, e, h2⟩ := sy_xv_ok h1; subst e
  obtain ⟨w2, l, e, h3⟩ := sy_xv_ok h2; subst e
  obtain ⟨w3, l, e, h4⟩ := sy_xv_ok h3; subst e
  obtain ⟨a4, l, e, h5⟩ := sy_xi_ok h4; subst e
  obtain ⟨w5, l, e, h6⟩ := sy_xv_ok h5; subst e
  obtain ⟨e, h7⟩ := sy_xn_ok h6; subst e
  obtain ⟨s0, l, e, h8⟩ := sy_xi_ok h7; subst e
  obtain ⟨e, h9⟩ := sy_xn_ok h8; subst e
  exact hk _ _ _ _ a4 s0 M r h9
def juX12_passes_57 (k : Int32 → Int32 → Int32 → sy_M → sy_O) (ls st : List Value) (M : sy_M) : sy_O := sy_xc 121 ls fun l => sy_xv l fun _ l => sy_xi l fun a2 l => sy_xi l fun a3 l => sy_xv l fun _ l => sy_xv l fun _ l => sy_xn l (sy_xi st fun s0 l => sy_xn l (k a2 a3 s0 M))
theorem jwX12_passes_57 {d : Nat} {k : Int32 → Int32 → Int32 → sy_M → sy_O} (hk : ∀ (w1 : Value) (w4 : Value) (w5 : Value) (a2 : Int32) (a3 : Int32) (s0 : Int32) (M : sy_M) (r : xe_R × sy_M), k a2 a3 s0 M = some r → sy_E (d) qX12_passes 57 [.ref 121, w1, .int a2, .int a3, w4, w5] [.int s0] M r) : ∀ ls st M r, juX12_passes_57 k ls st M = some r → sy_E d qX12_passes 57 ls st M r := by
  intro ls st M r h
  obtain ⟨l, e, h1⟩ := sy_xc_ok h; subst e
  obtain ⟨w1, l, e, h2⟩ := sy_xv_ok h1; subst e
  obtain ⟨a2, l, e, h3⟩ := sy_xi_ok h2; subst e
  obtain ⟨a3, l, e, h4⟩ := sy_xi_ok h3; subst e
  obtain ⟨w4, l, e, h5⟩ := sy_xv_ok h4; subst e
  obtain ⟨w5, l, e, h6⟩ := sy_xv_ok h5; subst e
  obtain ⟨e, h7⟩ := sy_xn_ok h6; subst e
  obtain ⟨s0, l, e, h8⟩ := sy_xi_ok h7; subst e
  obtain ⟨e, h9⟩ := sy_xn_ok h8; subst e
  exact hk _ _ _ a2 a3 s0 M r h9
def juX12_passes_41 (k : Int32 → Int32 → sy_M → sy_O) (ls st : List Value) (M : sy_M) : sy_O := sy_xc 121 ls fun l => sy_xv l fun _ l => sy_xi l fun a2 l => sy_xi l fun a3 l => sy_xv l fun _ l => sy_xv l fun _ l => sy_xn l (sy_xn st (k a2 a3 M))
theorem jwX12_passes_41 {d : Nat} {k : Int32 → Int32 → sy_M → sy_O} (hk : ∀ (w1 : Value) (w4 : Value) (w5 : Value) (a2 : Int32) (a3 : Int32) (M : sy_M) (r : xe_R × sy_M), k a2 a3 M = some r → sy_E (d) qX12_passes 41 [.ref 121, w1, .int a2, .int a3, w4, w5] [] M r) : ∀ ls st M r, juX12_passes_41 k ls st M = some r → sy_E d qX12_passes 41 ls st M r := by
  intro ls st M r h
  obtain ⟨l, e, h1⟩ := sy_xc_ok h; subst e
  obtain ⟨w1, l, e, h2⟩ := sy_xv_ok h1; subst e
  obtain ⟨a2, l, e, h3⟩ := sy_xi_ok h2; subst e
  obtain ⟨a3, l, e, h4⟩ := sy_xi_ok h3; subst e
  obtain ⟨w4, l, e, h5⟩ := sy_xv_ok h4; subst e
  obtain ⟨w5, l, e, h6⟩ := sy_xv_ok h5; subst e
  obtain ⟨e, h7⟩ := sy_xn_ok h6; subst e
  obtain ⟨e, h8⟩ := sy_xn_ok h7; subst e
  exact hk _ _ _ a2 a3 M r h8
def jfX12_passes_107 (a4 : Int32) (M : sy_M) : sy_O :=
  let M1 := sy_upd M 122 4 ((M 122 4) + 1)
  if (M1 122 4) = 48 then
    let M2 := sy_upd M1 122 4 0
    sy_bi (jfX12_lesser 9999 ((M2 122 5) + 1) M2) fun v4 M3 =>
    let M5 := sy_upd M3 122 5 v4
    sy_bb (sy_bo a4) <| sy_ri a4 M5
  else
    sy_bb (sy_bo a4) <| sy_ri a4 M1
set_option maxRecDepth 100000 in
theorem jrX12_passes_107 (w1 : Value) (w2 : Value) (w3 : Value) (w5 : Value) (a4 : Int32) (M : sy_M) : sy_run skX12 qX12_passes [(107, .aload_n 0, 1, [true, false, false, false, true, false]), (108, .getfield 7, 3, []), (111, .iconst 4, 1, []), (112, .dup2, 1, []), (113, .iaload, 1, []), (114, .iconst 1, 1, []), (115, .iadd, 1, []), (116, .iastore, 1, []), (117, .aload_n 0, 1, []), (118, .getfield 7, 3, []), (121, .iconst 4, 1, []), (122, .iaload, 1, []), (123, .bipush 48, 2, []), (125, .if_icmp .ne 30, 3, []), (128, .aload_n 0, 1, []), (129, .getfield 7, 3, []), (132, .iconst 4, 1, []), (133, .iconst 0, 1, []), (134, .iastore, 1, []), (135, .aload_n 0, 1, []), (136, .getfield 7, 3, []), (139, .iconst 5, 1, []), (140, .sipush 9999, 3, []), (143, .aload_n 0, 1, []), (144, .getfield 7, 3, []), (147, .iconst 5, 1, []), (148, .iaload, 1, []), (149, .iconst 1, 1, []), (150, .iadd, 1, []), (151, .invokestatic 244, 3, []), (154, .iastore, 1, []), (155, .iload 4, 2, [false, false, false, false, true, false]), (157, .ireturn, 1, [])] [(183, 0, jcX12_lesser)] [] 34 [] 107 [.ref 121, w1, w2, w3, .int a4, w5] [] M = jfX12_passes_107 a4 M := rfl
theorem jtX12_passes_107 : ∀ (w1 : Value) (w2 : Value) (w3 : Value) (w5 : Value) (a4 : Int32) (M : sy_M) (r : xe_R × sy_M), jfX12_passes_107 a4 M = some r → sy_E (50) qX12_passes 107 [.ref 121, w1, w2, w3, .int a4, w5] [] M r := by
  intro w1 w2 w3 w5 a4 M r h
  exact sy_run_by (d := 49) ((jrX12_passes_107 _ _ _ _ _ M).trans h) hkX12 (by decide +kernel) (sy_cs_cons (jeX12_lesser.deep (by decide)) sy_cs_nil) sy_us_nil
def jfX12_passes_93 (a4 : Int32) (s0 : Int32) (M : sy_M) : sy_O :=
  if s0 = (-1) then
    jfX12_passes_107 a4 M
  else
    sy_bv (jfX12_feeds s0 M) fun M1 =>
    jfX12_passes_107 a4 M1
set_option maxRecDepth 100000 in
theorem jrX12_passes_93 (w1 : Value) (w2 : Value) (w3 : Value) (w5 : Value) (a4 : Int32) (s0 : Int32) (M : sy_M) : sy_run skX12 qX12_passes [(93, .istore 5, 2, [true, false, false, false, true, false]), (95, .iload 5, 2, []), (97, .iconst (-1), 1, []), (98, .if_icmp .eq 9, 3, []), (101, .aload_n 0, 1, []), (102, .iload 5, 2, []), (104, .invokevirtual 274, 3, [])] [(230, 1, jcX12_feeds)] [(107, juX12_passes_107 (jfX12_passes_107))] 8 [] 93 [.ref 121, w1, w2, w3, .int a4, w5] [.int s0] M = jfX12_passes_93 a4 s0 M := rfl
theorem jtX12_passes_93 : ∀ (w1 : Value) (w2 : Value) (w3 : Value) (w5 : Value) (a4 : Int32) (s0 : Int32) (M : sy_M) (r : xe_R × sy_M), jfX12_passes_93 a4 s0 M = some r → sy_E (50) qX12_passes 93 [.ref 121, w1, w2, w3, .int a4, w5] [.int s0] M r := by
  intro w1 w2 w3 w5 a4 s0 M r h
  exact sy_run_by (d := 49) ((jrX12_passes_93 _ _ _ _ _ _ M).trans h) hkX12 (by decide +kernel) (sy_cs_cons (jeX12_feeds.deep (by decide)) sy_cs_nil) (sy_us_cons (jwX12_passes_107 (jtX12_passes_107)) sy_us_nil)
def jfX12_passes_57 (a2 : Int32) (a3 : Int32) (s0 : Int32) (M : sy_M) : sy_O :=
  if s0 = 0 then
    sy_bv (jfX12_isLit a3 M) fun M4 =>
    jfX12_passes_107 s0 M4
  else
    sy_bv (jfX12_isDark a2 M) fun M1 =>
    if (M1 121 19) = 0 then
      sy_bi (jfX12_whoFeeds a2 M1) fun v3 M2 =>
      jfX12_passes_93 s0 v3 M2
    else
      jfX12_passes_93 s0 (-1) M1
set_option maxRecDepth 100000 in
theorem jrX12_passes_57 (w1 : Value) (w4 : Value) (w5 : Value) (a2 : Int32) (a3 : Int32) (s0 : Int32) (M : sy_M) : sy_run skX12 qX12_passes [(57, .istore 4, 2, [true, false, true, true, false, false]), (59, .iload 4, 2, []), (61, .ifCond .ne 11, 3, []), (64, .aload_n 0, 1, []), (65, .iload_n 3, 1, []), (66, .invokevirtual 262, 3, []), (69, .goto 38, 3, []), (72, .aload_n 0, 1, [true, false, true, false, true, false]), (73, .iload_n 2, 1, []), (74, .invokevirtual 265, 3, []), (77, .aload_n 0, 1, []), (78, .getfield 268, 3, []), (81, .ifCond .eq 7, 3, []), (84, .iconst (-1), 1, []), (85, .goto 8, 3, []), (88, .aload_n 0, 1, [true, false, true, false, true, false]), (89, .iload_n 2, 1, []), (90, .invokevirtual 271, 3, [])] [(232, 1, jcX12_isDark), (233, 0, jcX12_whoFeeds), (231, 1, jcX12_isLit)] [(93, juX12_passes_93 (jfX12_passes_93)), (107, juX12_passes_107 (jfX12_passes_107))] 19 [] 57 [.ref 121, w1, .int a2, .int a3, w4, w5] [.int s0] M = jfX12_passes_57 a2 a3 s0 M := rfl
theorem jtX12_passes_57 : ∀ (w1 : Value) (w4 : Value) (w5 : Value) (a2 : Int32) (a3 : Int32) (s0 : Int32) (M : sy_M) (r : xe_R × sy_M), jfX12_passes_57 a2 a3 s0 M = some r → sy_E (50) qX12_passes 57 [.ref 121, w1, .int a2, .int a3, w4, w5] [.int s0] M r := by
  intro w1 w4 w5 a2 a3 s0 M r h
  exact sy_run_by (d := 49) ((jrX12_passes_57 _ _ _ _ _ _ M).trans h) hkX12 (by decide +kernel) (sy_cs_cons (jeX12_isDark.deep (by decide)) (sy_cs_cons (jeX12_whoFeeds.deep (by decide)) (sy_cs_cons (jeX12_isLit.deep (by decide)) sy_cs_nil))) (sy_us_cons (jwX12_passes_93 (jtX12_passes_93)) (sy_us_cons (jwX12_passes_107 (jtX12_passes_107)) sy_us_nil))
def jfX12_passes_41 (a2 : Int32) (a3 : Int32) (M : sy_M) : sy_O :=
  if (M 122 6) < a3 then
    jfX12_passes_57 a2 a3 1 M
  else
    jfX12_passes_57 a2 a3 0 M
set_option maxRecDepth 100000 in
theorem jrX12_passes_41 (w1 : Value) (w4 : Value) (w5 : Value) (a2 : Int32) (a3 : Int32) (M : sy_M) : sy_run skX12 qX12_passes [(41, .aload_n 0, 1, [true, false, true, true, false, false]), (42, .getfield 7, 3, []), (45, .bipush 6, 2, []), (47, .iaload, 1, []), (48, .iload_n 3, 1, []), (49, .if_icmp .ge 7, 3, []), (52, .iconst 1, 1, []), (53, .goto 4, 3, []), (56, .iconst 0, 1, [true, false, true, true, false, false])] [] [(57, juX12_passes_57 (jfX12_passes_57))] 10 [] 41 [.ref 121, w1, .int a2, .int a3, w4, w5] [] M = jfX12_passes_41 a2 a3 M := rfl
theorem jtX12_passes_41 : ∀ (w1 : Value) (w4 : Value) (w5 : Value) (a2 : Int32) (a3 : Int32) (M : sy_M) (r : xe_R × sy_M), jfX12_passes_41 a2 a3 M = some r → sy_E (50) qX12_passes 41 [.ref 121, w1, .int a2, .int a3, w4, w5] [] M r := by
  intro w1 w4 w5 a2 a3 M r h
  exact sy_run_by (d := 49) ((jrX12_passes_41 _ _ _ _ _ M).trans h) hkX12 (by decide +kernel) sy_cs_nil (sy_us_cons (jwX12_passes_57 (jtX12_passes_57)) sy_us_nil)
def jfX12_passes (a1 : Int32) (M : sy_M) : sy_O :=
  sy_bi (jfX12_homeIn (M 122 4) M) fun v2 M1 =>
  sy_bi (jfX12_burnsOf v2 M1) fun v4 M3 =>
  if a1 = 0 then
    jfX12_passes_41 v2 v4 M3
  else
    sy_bi (jfX12_draw 100 M3) fun v6 M5 =>
    if v6 < (M5 122 9) then
      let v7 := (v4 * 2)
      jfX12_passes_41 v2 v7 M5
    else
      jfX12_passes_41 v2 v4 M5
set_option maxRecDepth 100000 in
theorem jrX12_passes (a1 : Int32) (M : sy_M) : sy_run skX12 qX12_passes [(0, .aload_n 0, 1, []), (1, .aload_n 0, 1, []), (2, .getfield 7, 3, []), (5, .iconst 4, 1, []), (6, .iaload, 1, []), (7, .invokevirtual 63, 3, []), (10, .istore_n 2, 1, []), (11, .aload_n 0, 1, []), (12, .iload_n 2, 1, []), (13, .invokevirtual 67, 3, []), (16, .istore_n 3, 1, []), (17, .iload_n 1, 1, []), (18, .ifCond .eq 23, 3, []), (21, .aload_n 0, 1, []), (22, .bipush 100, 2, []), (24, .invokevirtual 259, 3, []), (27, .aload_n 0, 1, []), (28, .getfield 7, 3, []), (31, .bipush 9, 2, []), (33, .iaload, 1, []), (34, .if_icmp .ge 7, 3, []), (37, .iload_n 3, 1, []), (38, .iconst 2, 1, []), (39, .imul, 1, []), (40, .istore_n 3, 1, [])] [(193, 0, jcX12_homeIn), (194, 0, jcX12_burnsOf), (228, 0, jcX12_draw)] [(41, juX12_passes_41 (jfX12_passes_41))] 26 [] 0 [.ref 121, .int a1, xe_no, xe_no, xe_no, xe_no] [] M = jfX12_passes a1 M := rfl
theorem jtX12_passes : ∀ (a1 : Int32) (M : sy_M) (r : xe_R × sy_M), jfX12_passes a1 M = some r → sy_E (50) qX12_passes 0 [.ref 121, .int a1, xe_no, xe_no, xe_no, xe_no] [] M r := by
  intro a1 M r h
  exact sy_run_by (d := 49) ((jrX12_passes _ M).trans h) hkX12 (by decide +kernel) (sy_cs_cons (jeX12_homeIn.deep (by decide)) (sy_cs_cons (jeX12_burnsOf.deep (by decide)) (sy_cs_cons (jeX12_draw.deep (by decide)) sy_cs_nil))) (sy_us_cons (jwX12_passes_41 (jtX12_passes_41)) sy_us_nil)
def jcX12_passes (as : List Value) (M : sy_M) (K : sy_O → sy_O) : sy_O := sy_xc 121 as fun l => sy_xi l fun a1 l => sy_xn l (K (jfX12_passes a1 M))
theorem jeX12_passes : sy_snd (50) 234 (jcX12_passes) := by
  intro as M K r h
  obtain ⟨l, e, h1⟩ := sy_xc_ok h; subst e
  obtain ⟨a1, l, e, h2⟩ := sy_xi_ok h1; subst e
  obtain ⟨e, h3⟩ := sy_xn_ok h2; subst e
  exact ⟨_, h3, fun r1 h0 => ⟨qX12_passes, rfl, rfl, jtX12_passes _ M r1 h0⟩⟩
/-! X12_goes StairMeterModel goes (IZ)I [('R', 121), 'I', 'I'] -/
def juX12_goes_35 (k : Int32 → Int32 → Int32 → Int32 → Int32 → sy_M → sy_O) (ls st : List Value) (M : sy_M) : sy_O := sy_xc 121 ls fun l => sy_xi l fun a1 l => sy_xi l fun a2 l => sy_xv l fun _ l => sy_xi l fun a4 l => sy_xn l (sy_xi st fun s0 l => sy_xi l fun s1 l => sy_xn l (k a1 a2 a4 s0 s1 M))
theorem jwX12_goes_35 {d : Nat} {k : Int32 → Int32 → Int32 → Int32 → Int32 → sy_M → sy_O} (hk : ∀ (w3 : Value) (a1 : Int32) (a2 : Int32) (a4 : Int32) (s0 : Int32) (s1 : Int32) (M : sy_M) (r : xe_R × sy_M), k a1 a2 a4 s0 s1 M = some r → sy_E (d) qX12_goes 35 [.ref 121, .int a1, .int a2, w3, .int a4] [.int s0, .int s1] M r) : ∀ ls st M r, juX12_goes_35 k ls st M = some r → sy_E d qX12_goes 35 ls st M r := by
  intro ls st M r h
  obtain ⟨l, e, h1⟩ := sy_xc_ok h; subst e
  obtain ⟨a1, l, e, h2⟩ := sy_xi_ok h1; subst e
  obtain ⟨a2, l, e, h3⟩ := sy_xi_ok h2; subst e
  obtain ⟨w3, l, e, h4⟩ := sy_xv_ok h3; subst e
  obtain ⟨a4, l, e, h5⟩ := sy_xi_ok h4; subst e
  obtain ⟨e, h6⟩ := sy_xn_ok h5; subst e
  obtain ⟨s0, l, e, h7⟩ := sy_xi_ok h6; subst e
  obtain ⟨s1, l, e, h8⟩ := sy_xi_ok h7; subst e
  obtain ⟨e, h9⟩ := sy_xn_ok h8; subst e
  exact hk _ a1 a2 a4 s0 s1 M r h9
def juX12_goes_15 (k : Int32 → Int32 → Int32 → Int32 → sy_M → sy_O) (ls st : List Value) (M : sy_M) : sy_O := sy_xc 121 ls fun l => sy_xi l fun a1 l => sy_xi l fun a2 l => sy_xi l fun a3 l => sy_xi l fun a4 l => sy_xn l (sy_xn st (k a1 a2 a3 a4 M))
theorem jwX12_goes_15 {d : Nat} {k : Int32 → Int32 → Int32 → Int32 → sy_M → sy_O} (hk : ∀ (a1 : Int32) (a2 : Int32) (a3 : Int32) (a4 : Int32) (M : sy_M) (r : xe_R × sy_M), k a1 a2 a3 a4 M = some r → sy_E (d) qX12_goes 15 [.ref 121, .int a1, .int a2, .int a3, .int a4] [] M r) : ∀ ls st M r, juX12_goes_15 k ls st M = some r → sy_E d qX12_goes 15 ls st M r := by
  intro ls st M r h
  obtain ⟨l, e, h1⟩ := sy_xc_ok h; subst e
  obtain ⟨a1, l, e, h2⟩ := sy_xi_ok h1; subst e
  obtain ⟨a2, l, e, h3⟩ := sy_xi_ok h2; subst e
  obtain ⟨a3, l, e, h4⟩ := sy_xi_ok h3; subst e
  obtain ⟨a4, l, e, h5⟩ := sy_xi_ok h4; subst e
  obtain ⟨e, h6⟩ := sy_xn_ok h5; subst e
  obtain ⟨e, h7⟩ := sy_xn_ok h6; subst e
  exact hk a1 a2 a3 a4 M r h7
def jfX12_goes_35 (k15 : Int32 → Int32 → Int32 → Int32 → sy_M → sy_O) (a1 : Int32) (a2 : Int32) (a4 : Int32) (s0 : Int32) (s1 : Int32) (M : sy_M) : sy_O :=
  let v1 := (s1 + s0)
  let v2 := a4 + 1
  k15 a1 a2 v1 v2 M
set_option maxRecDepth 100000 in
theorem jrX12_goes_35 (k15 : Int32 → Int32 → Int32 → Int32 → sy_M → sy_O) (w3 : Value) (a1 : Int32) (a2 : Int32) (a4 : Int32) (s0 : Int32) (s1 : Int32) (M : sy_M) : sy_run skX12 qX12_goes [(35, .iadd, 1, [true, true, true, false, true]), (36, .istore_n 3, 1, []), (37, .iinc 4 1, 3, []), (40, .goto (-25), 3, [])] [] [(15, juX12_goes_15 k15)] 5 [] 35 [.ref 121, .int a1, .int a2, w3, .int a4] [.int s0, .int s1] M = jfX12_goes_35 k15 a1 a2 a4 s0 s1 M := rfl
theorem jtX12_goes_35 {k15 : Int32 → Int32 → Int32 → Int32 → sy_M → sy_O} (hk15 : ∀ (a1 : Int32) (a2 : Int32) (a3 : Int32) (a4 : Int32) (M : sy_M) (r : xe_R × sy_M), k15 a1 a2 a3 a4 M = some r → sy_E (51) qX12_goes 15 [.ref 121, .int a1, .int a2, .int a3, .int a4] [] M r) : ∀ (w3 : Value) (a1 : Int32) (a2 : Int32) (a4 : Int32) (s0 : Int32) (s1 : Int32) (M : sy_M) (r : xe_R × sy_M), jfX12_goes_35 k15 a1 a2 a4 s0 s1 M = some r → sy_E (51) qX12_goes 35 [.ref 121, .int a1, .int a2, w3, .int a4] [.int s0, .int s1] M r := by
  intro w3 a1 a2 a4 s0 s1 M r h
  exact sy_run_by (d := 50) ((jrX12_goes_35 _ _ _ _ _ _ _ M).trans h) hkX12 (by decide +kernel) sy_cs_nil (sy_us_cons (jwX12_goes_15 hk15) sy_us_nil)
def jgX12_goes_15 (k15 : Int32 → Int32 → Int32 → Int32 → sy_M → sy_O) (a1 : Int32) (a2 : Int32) (a3 : Int32) (a4 : Int32) (M : sy_M) : sy_O :=
  if a4 < a1 then
    sy_bi (jfX12_passes a2 M) fun v2 M1 =>
    if v2 = 0 then
      jfX12_goes_35 k15 a1 a2 a4 0 a3 M1
    else
      jfX12_goes_35 k15 a1 a2 a4 1 a3 M1
  else
    sy_ri a3 M
def jfX12_goes_15 : Nat → Int32 → Int32 → Int32 → Int32 → sy_M → sy_O
  | 0, _, _, _, _, _ => none
  | n + 1, a1, a2, a3, a4, M => jgX12_goes_15 (jfX12_goes_15 n) a1 a2 a3 a4 M
set_option maxRecDepth 100000 in
theorem jrX12_goes_15 (k15 : Int32 → Int32 → Int32 → Int32 → sy_M → sy_O) (a1 : Int32) (a2 : Int32) (a3 : Int32) (a4 : Int32) (M : sy_M) : sy_run skX12 qX12_goes [(15, .iload 4, 2, []), (17, .iload_n 1, 1, []), (18, .if_icmp .ge 25, 3, []), (21, .iload_n 3, 1, []), (22, .aload_n 0, 1, []), (23, .iload_n 2, 1, []), (24, .invokevirtual 277, 3, []), (27, .ifCond .eq 7, 3, []), (30, .iconst 1, 1, []), (31, .goto 4, 3, []), (34, .iconst 0, 1, [true, true, true, false, true]), (43, .iload_n 3, 1, [false, false, false, true, false]), (44, .ireturn, 1, [])] [(234, 0, jcX12_passes)] [(35, juX12_goes_35 (jfX12_goes_35 k15))] 14 [] 15 [.ref 121, .int a1, .int a2, .int a3, .int a4] [] M = jgX12_goes_15 k15 a1 a2 a3 a4 M := rfl
theorem jtX12_goes_15 : ∀ n : Nat, ∀ (a1 : Int32) (a2 : Int32) (a3 : Int32) (a4 : Int32) (M : sy_M) (r : xe_R × sy_M), jfX12_goes_15 n a1 a2 a3 a4 M = some r → sy_E (51) qX12_goes 15 [.ref 121, .int a1, .int a2, .int a3, .int a4] [] M r := by
  intro n
  induction n with
  | zero => intro a1 a2 a3 a4 M r h; exact absurd (show (none : sy_O) = some r from h) (by simp)
  | succ n ih => intro a1 a2 a3 a4 M r h; exact sy_run_by (d := 50) ((jrX12_goes_15 _ _ _ _ _ M).trans h) hkX12 (by decide +kernel) (sy_cs_cons (jeX12_passes.deep (by decide)) sy_cs_nil) (sy_us_cons (jwX12_goes_35 (jtX12_goes_35 ih)) sy_us_nil)
def jfX12_goes (a1 : Int32) (a2 : Int32) (M : sy_M) : sy_O :=
  let M1 := sy_upd M 121 20 0
  let M2 := sy_upd M1 121 21 (-1)
  jfX12_goes_15 sy_F a1 a2 0 0 M2
set_option maxRecDepth 100000 in
theorem jrX12_goes (a1 : Int32) (a2 : Int32) (M : sy_M) : sy_run skX12 qX12_goes [(0, .iconst 0, 1, []), (1, .istore_n 3, 1, []), (2, .aload_n 0, 1, []), (3, .iconst 0, 1, []), (4, .putfield 250, 3, []), (7, .aload_n 0, 1, []), (8, .iconst (-1), 1, []), (9, .putfield 247, 3, []), (12, .iconst 0, 1, []), (13, .istore 4, 2, [])] [] [(15, juX12_goes_15 (jfX12_goes_15 sy_F))] 11 [] 0 [.ref 121, .int a1, .int a2, xe_no, xe_no] [] M = jfX12_goes a1 a2 M := rfl
theorem jtX12_goes : ∀ (a1 : Int32) (a2 : Int32) (M : sy_M) (r : xe_R × sy_M), jfX12_goes a1 a2 M = some r → sy_E (51) qX12_goes 0 [.ref 121, .int a1, .int a2, xe_no, xe_no] [] M r := by
  intro a1 a2 M r h
  exact sy_run_by (d := 50) ((jrX12_goes _ _ M).trans h) hkX12 (by decide +kernel) sy_cs_nil (sy_us_cons (jwX12_goes_15 (jtX12_goes_15 sy_F)) sy_us_nil)
def jcX12_goes (as : List Value) (M : sy_M) (K : sy_O → sy_O) : sy_O := sy_xc 121 as fun l => sy_xi l fun a1 l => sy_xi l fun a2 l => sy_xn l (K (jfX12_goes a1 a2 M))
theorem jeX12_goes : sy_snd (51) 235 (jcX12_goes) := by
  intro as M K r h
  obtain ⟨l, e, h1⟩ := sy_xc_ok h; subst e
  obtain ⟨a1, l, e, h2⟩ := sy_xi_ok h1; subst e
  obtain ⟨a2, l, e, h3⟩ := sy_xi_ok h2; subst e
  obtain ⟨e, h4⟩ := sy_xn_ok h3; subst e
  exact ⟨_, h4, fun r1 h0 => ⟨qX12_goes, rfl, rfl, jtX12_goes _ _ M r1 h0⟩⟩
/-! X12_grieves StairMeterModel grieves ()V [('R', 121)] -/
def juX12_grieves_56 (k : Int32 → sy_M → sy_O) (ls st : List Value) (M : sy_M) : sy_O := sy_xc 121 ls fun l => sy_xv l fun _ l => sy_xi l fun a2 l => sy_xn l (sy_xn st (k a2 M))
theorem jwX12_grieves_56 {d : Nat} {k : Int32 → sy_M → sy_O} (hk : ∀ (w1 : Value) (a2 : Int32) (M : sy_M) (r : xe_R × sy_M), k a2 M = some r → sy_E (d) qX12_grieves 56 [.ref 121, w1, .int a2] [] M r) : ∀ ls st M r, juX12_grieves_56 k ls st M = some r → sy_E d qX12_grieves 56 ls st M r := by
  intro ls st M r h
  obtain ⟨l, e, h1⟩ := sy_xc_ok h; subst e
  obtain ⟨w1, l, e, h2⟩ := sy_xv_ok h1; subst e
  obtain ⟨a2, l, e, h3⟩ := sy_xi_ok h2; subst e
  obtain ⟨e, h4⟩ := sy_xn_ok h3; subst e
  obtain ⟨e, h5⟩ := sy_xn_ok h4; subst e
  exact hk _ a2 M r h5
def juX12_grieves_2 (k : Int32 → sy_M → sy_O) (ls st : List Value) (M : sy_M) : sy_O := sy_xc 121 ls fun l => sy_xi l fun a1 l => sy_xv l fun _ l => sy_xn l (sy_xn st (k a1 M))
theorem jwX12_grieves_2 {d : Nat} {k : Int32 → sy_M → sy_O} (hk : ∀ (w2 : Value) (a1 : Int32) (M : sy_M) (r : xe_R × sy_M), k a1 M = some r → sy_E (d) qX12_grieves 2 [.ref 121, .int a1, w2] [] M r) : ∀ ls st M r, juX12_grieves_2 k ls st M = some r → sy_E d qX12_grieves 2 ls st M r := by
  intro ls st M r h
  obtain ⟨l, e, h1⟩ := sy_xc_ok h; subst e
  obtain ⟨a1, l, e, h2⟩ := sy_xi_ok h1; subst e
  obtain ⟨w2, l, e, h3⟩ := sy_xv_ok h2; subst e
  obtain ⟨e, h4⟩ := sy_xn_ok h3; subst e
  obtain ⟨e, h5⟩ := sy_xn_ok h4; subst e
  exact hk _ a1 M r h5
def jgX12_grieves_56 (k56 : Int32 → sy_M → sy_O) (a2 : Int32) (M : sy_M) : sy_O :=
  if a2 < (M 122 3) then
    sy_bx (xe_in a2 7) <|
    sy_bi (jfX12_of a2 7 M) fun v3 M2 =>
    sy_bi (jfX12_of a2 8 M2) fun v5 M4 =>
    sy_bx (xe_in a2 7) <|
    let M6 := sy_upd M4 129 (Int32.toNatClampNeg a2) ((M 129 (Int32.toNatClampNeg a2)) + (v3 + (3 * v5)))
    let v7 := a2 + 1
    k56 v7 M6
  else
    sy_bv (jfX12_comesBack M) fun M1 =>
    sy_rv M1
def jfX12_grieves_56 : Nat → Int32 → sy_M → sy_O
  | 0, _, _ => none
  | n + 1, a2, M => jgX12_grieves_56 (jfX12_grieves_56 n) a2 M
set_option maxRecDepth 100000 in
theorem jrX12_grieves_56 (k56 : Int32 → sy_M → sy_O) (w1 : Value) (a2 : Int32) (M : sy_M) : sy_run skX12 qX12_grieves [(56, .iload_n 2, 1, [true, false, true]), (57, .aload_n 0, 1, []), (58, .getfield 7, 3, []), (61, .iconst 3, 1, []), (62, .iaload, 1, []), (63, .if_icmp .ge 35, 3, []), (66, .aload_n 0, 1, []), (67, .getfield 35, 3, []), (70, .iload_n 2, 1, []), (71, .dup2, 1, []), (72, .iaload, 1, []), (73, .aload_n 0, 1, []), (74, .iload_n 2, 1, []), (75, .bipush 7, 2, []), (77, .invokevirtual 52, 3, []), (80, .iconst 3, 1, []), (81, .aload_n 0, 1, []), (82, .iload_n 2, 1, []), (83, .bipush 8, 2, []), (85, .invokevirtual 52, 3, []), (88, .imul, 1, []), (89, .iadd, 1, []), (90, .iadd, 1, []), (91, .iastore, 1, []), (92, .iinc 2 1, 3, []), (95, .goto (-39), 3, []), (98, .aload_n 0, 1, [true, false, false]), (99, .invokevirtual 182, 3, []), (102, .return_, 1, [])] [(216, 1, jcX12_comesBack), (187, 0, jcX12_of)] [(56, juX12_grieves_56 k56)] 30 [] 56 [.ref 121, w1, .int a2] [] M = jgX12_grieves_56 k56 a2 M := rfl
theorem jtX12_grieves_56 : ∀ n : Nat, ∀ (w1 : Value) (a2 : Int32) (M : sy_M) (r : xe_R × sy_M), jfX12_grieves_56 n a2 M = some r → sy_E (52) qX12_grieves 56 [.ref 121, w1, .int a2] [] M r := by
  intro n
  induction n with
  | zero => intro w1 a2 M r h; exact absurd (show (none : sy_O) = some r from h) (by simp)
  | succ n ih => intro w1 a2 M r h; exact sy_run_by (d := 51) ((jrX12_grieves_56 _ _ _ M).trans h) hkX12 (by decide +kernel) (sy_cs_cons (jeX12_comesBack.deep (by decide)) (sy_cs_cons (jeX12_of.deep (by decide)) sy_cs_nil)) (sy_us_cons (jwX12_grieves_56 ih) sy_us_nil)
def jgX12_grieves_2 (k2 : Int32 → sy_M → sy_O) (a1 : Int32) (M : sy_M) : sy_O :=
  if a1 < (M 122 3) then
    sy_bi (jfX12_of a1 7 M) fun v5 M4 =>
    sy_bi (jfX12_of a1 8 M4) fun v7 M6 =>
    sy_bx (xe_in a1 7) <|
    let M8 := sy_upd M6 129 (Int32.toNatClampNeg a1) ((-v5) - (3 * v7))
    let v9 := a1 + 1
    k2 v9 M8
  else
    sy_bv (jfX12_putsAside M) fun M1 =>
    sy_bi (jfX12_goes 48 0 M1) fun v3 M2 =>
    jfX12_grieves_56 sy_F 0 M2
def jfX12_grieves_2 : Nat → Int32 → sy_M → sy_O
  | 0, _, _ => none
  | n + 1, a1, M => jgX12_grieves_2 (jfX12_grieves_2 n) a1 M
set_option maxRecDepth 100000 in
theorem jrX12_grieves_2 (k2 : Int32 → sy_M → sy_O) (w2 : Value) (a1 : Int32) (M : sy_M) : sy_run skX12 qX12_grieves [(2, .iload_n 1, 1, [true, true, false]), (3, .aload_n 0, 1, []), (4, .getfield 7, 3, []), (7, .iconst 3, 1, []), (8, .iaload, 1, []), (9, .if_icmp .ge 33, 3, []), (12, .aload_n 0, 1, []), (13, .getfield 35, 3, []), (16, .iload_n 1, 1, []), (17, .aload_n 0, 1, []), (18, .iload_n 1, 1, []), (19, .bipush 7, 2, []), (21, .invokevirtual 52, 3, []), (24, .ineg, 1, []), (25, .iconst 3, 1, []), (26, .aload_n 0, 1, []), (27, .iload_n 1, 1, []), (28, .bipush 8, 2, []), (30, .invokevirtual 52, 3, []), (33, .imul, 1, []), (34, .isub, 1, []), (35, .iastore, 1, []), (36, .iinc 1 1, 3, []), (39, .goto (-37), 3, []), (42, .aload_n 0, 1, [true, false, false]), (43, .invokevirtual 172, 3, []), (46, .aload_n 0, 1, []), (47, .bipush 48, 2, []), (49, .iconst 0, 1, []), (50, .invokevirtual 314, 3, []), (53, .istore_n 1, 1, []), (54, .iconst 0, 1, []), (55, .istore_n 2, 1, [])] [(215, 1, jcX12_putsAside), (235, 0, jcX12_goes), (187, 0, jcX12_of)] [(56, juX12_grieves_56 (jfX12_grieves_56 sy_F)), (2, juX12_grieves_2 k2)] 34 [] 2 [.ref 121, .int a1, w2] [] M = jgX12_grieves_2 k2 a1 M := rfl
theorem jtX12_grieves_2 : ∀ n : Nat, ∀ (w2 : Value) (a1 : Int32) (M : sy_M) (r : xe_R × sy_M), jfX12_grieves_2 n a1 M = some r → sy_E (52) qX12_grieves 2 [.ref 121, .int a1, w2] [] M r := by
  intro n
  induction n with
  | zero => intro w2 a1 M r h; exact absurd (show (none : sy_O) = some r from h) (by simp)
  | succ n ih => intro w2 a1 M r h; exact sy_run_by (d := 51) ((jrX12_grieves_2 _ _ _ M).trans h) hkX12 (by decide +kernel) (sy_cs_cons (jeX12_putsAside.deep (by decide)) (sy_cs_cons (jeX12_goes.deep (by decide)) (sy_cs_cons (jeX12_of.deep (by decide)) sy_cs_nil))) (sy_us_cons (jwX12_grieves_56 (jtX12_grieves_56 sy_F)) (sy_us_cons (jwX12_grieves_2 ih) sy_us_nil))
def jfX12_grieves (M : sy_M) : sy_O :=
  jfX12_grieves_2 sy_F 0 M
set_option maxRecDepth 100000 in
theorem jrX12_grieves (M : sy_M) : sy_run skX12 qX12_grieves [(0, .iconst 0, 1, []), (1, .istore_n 1, 1, [])] [] [(2, juX12_grieves_2 (jfX12_grieves_2 sy_F))] 3 [] 0 [.ref 121, xe_no, xe_no] [] M = jfX12_grieves M := rfl
theorem jtX12_grieves : ∀ (M : sy_M) (r : xe_R × sy_M), jfX12_grieves M = some r → sy_E (52) qX12_grieves 0 [.ref 121, xe_no, xe_no] [] M r := by
  intro  M r h
  exact sy_run_by (d := 51) ((jrX12_grieves M).trans h) hkX12 (by decide +kernel) sy_cs_nil (sy_us_cons (jwX12_grieves_2 (jtX12_grieves_2 sy_F)) sy_us_nil)
def jcX12_grieves (as : List Value) (M : sy_M) (K : sy_O → sy_O) : sy_O := sy_xc 121 as fun l => sy_xn l (K (jfX12_grieves M))
theorem jeX12_grieves : sy_snd (52) 267 (jcX12_grieves) := by
  intro as M K r h
  obtain ⟨l, e, h1⟩ := sy_xc_ok h; subst e
  obtain ⟨e, h2⟩ := sy_xn_ok h1; subst e
  exact ⟨_, h2, fun r1 h0 => ⟨qX12_grieves, rfl, rfl, jtX12_grieves  M r1 h0⟩⟩
/-! X12_griefOf StairMeterModel griefOf (II)I [('R', 121), 'I', 'I'] -/
def jfX12_griefOf (a1 : Int32) (a2 : Int32) (M : sy_M) : sy_O :=
  sy_bi (jfX12_of a1 4 M) fun v2 M1 =>
  sy_bv (jfX12_lays a1 4 a2 M1) fun M3 =>
  sy_bv (jfX12_grieves M3) fun M4 =>
  sy_bv (jfX12_lays a1 4 v2 M4) fun M5 =>
  sy_bx (xe_in a1 7) <|
  sy_ri (M5 129 (Int32.toNatClampNeg a1)) M5
set_option maxRecDepth 100000 in
theorem jrX12_griefOf (a1 : Int32) (a2 : Int32) (M : sy_M) : sy_run skX12 qX12_griefOf [(0, .aload_n 0, 1, []), (1, .iload_n 1, 1, []), (2, .iconst 4, 1, []), (3, .invokevirtual 52, 3, []), (6, .istore_n 3, 1, []), (7, .aload_n 0, 1, []), (8, .iload_n 1, 1, []), (9, .iconst 4, 1, []), (10, .iload_n 2, 1, []), (11, .invokevirtual 132, 3, []), (14, .aload_n 0, 1, []), (15, .invokevirtual 336, 3, []), (18, .aload_n 0, 1, []), (19, .iload_n 1, 1, []), (20, .iconst 4, 1, []), (21, .iload_n 3, 1, []), (22, .invokevirtual 132, 3, []), (25, .aload_n 0, 1, []), (26, .getfield 35, 3, []), (29, .iload_n 1, 1, []), (30, .iaload, 1, []), (31, .ireturn, 1, [])] [(187, 0, jcX12_of), (188, 1, jcX12_lays), (267, 1, jcX12_grieves)] [] 23 [] 0 [.ref 121, .int a1, .int a2, xe_no] [] M = jfX12_griefOf a1 a2 M := rfl
theorem jtX12_griefOf : ∀ (a1 : Int32) (a2 : Int32) (M : sy_M) (r : xe_R × sy_M), jfX12_griefOf a1 a2 M = some r → sy_E (53) qX12_griefOf 0 [.ref 121, .int a1, .int a2, xe_no] [] M r := by
  intro a1 a2 M r h
  exact sy_run_by (d := 52) ((jrX12_griefOf _ _ M).trans h) hkX12 (by decide +kernel) (sy_cs_cons (jeX12_of.deep (by decide)) (sy_cs_cons (jeX12_lays.deep (by decide)) (sy_cs_cons (jeX12_grieves.deep (by decide)) sy_cs_nil))) sy_us_nil
def jcX12_griefOf (as : List Value) (M : sy_M) (K : sy_O → sy_O) : sy_O := sy_xc 121 as fun l => sy_xi l fun a1 l => sy_xi l fun a2 l => sy_xn l (K (jfX12_griefOf a1 a2 M))
theorem jeX12_griefOf : sy_snd (53) 268 (jcX12_griefOf) := by
  intro as M K r h
  obtain ⟨l, e, h1⟩ := sy_xc_ok h; subst e
  obtain ⟨a1, l, e, h2⟩ := sy_xi_ok h1; subst e
  obtain ⟨a2, l, e, h3⟩ := sy_xi_ok h2; subst e
  obtain ⟨e, h4⟩ := sy_xn_ok h3; subst e
  exact ⟨_, h4, fun r1 h0 => ⟨qX12_griefOf, rfl, rfl, jtX12_griefOf _ _ M r1 h0⟩⟩
/-! X12_bestOf StairMeterModel bestOf (I)I [('R', 121), 'I'] -/
def juX12_bestOf_40 (k : Int32 → Int32 → Int32 → Int32 → sy_M → sy_O) (ls st : List Value) (M : sy_M) : sy_O := sy_xc 121 ls fun l => sy_xi l fun a1 l => sy_xi l fun a2 l => sy_xi l fun a3 l => sy_xi l fun a4 l => sy_xv l fun _ l => sy_xn l (sy_xn st (k a1 a2 a3 a4 M))
theorem jwX12_bestOf_40 {d : Nat} {k : Int32 → Int32 → Int32 → Int32 → sy_M → sy_O} (hk : ∀ (w5 : Value) (a1 : Int32) (a2 : Int32) (a3 : Int32) (a4 : Int32) (M : sy_M) (r : xe_R × sy_M), k a1 a2 a3 a4 M = some r → sy_E (d) qX12_bestOf 40 [.ref 121, .int a1, .int a2, .int a3, .int a4, w5] [] M r) : ∀ ls st M r, juX12_bestOf_40 k ls st M = some r → sy_E d qX12_bestOf 40 ls st M r := by
  intro ls st M r h
  obtain ⟨l, e, h1⟩ := sy_xc_ok h; subst e
  obtain ⟨a1, l, e, h2⟩ := sy_xi_ok h1; subst e
  obtain ⟨a2, l, e, h3⟩ := sy_xi_ok h2; subst e
  obtain ⟨a3, l, e, h4⟩ := sy_xi_ok h3; subst e
  obtain ⟨a4, l, e, h5⟩ := sy_xi_ok h4; subst e
  obtain ⟨w5, l, e, h6⟩ := sy_xv_ok h5; subst e
  obtain ⟨e, h7⟩ := sy_xn_ok h6; subst e
  obtain ⟨e, h8⟩ := sy_xn_ok h7; subst e
  exact hk _ a1 a2 a3 a4 M r h8
def juX12_bestOf_9 (k : Int32 → Int32 → Int32 → Int32 → sy_M → sy_O) (ls st : List Value) (M : sy_M) : sy_O := sy_xc 121 ls fun l => sy_xi l fun a1 l => sy_xi l fun a2 l => sy_xi l fun a3 l => sy_xi l fun a4 l => sy_xv l fun _ l => sy_xn l (sy_xn st (k a1 a2 a3 a4 M))
theorem jwX12_bestOf_9 {d : Nat} {k : Int32 → Int32 → Int32 → Int32 → sy_M → sy_O} (hk : ∀ (w5 : Value) (a1 : Int32) (a2 : Int32) (a3 : Int32) (a4 : Int32) (M : sy_M) (r : xe_R × sy_M), k a1 a2 a3 a4 M = some r → sy_E (d) qX12_bestOf 9 [.ref 121, .int a1, .int a2, .int a3, .int a4, w5] [] M r) : ∀ ls st M r, juX12_bestOf_9 k ls st M = some r → sy_E d qX12_bestOf 9 ls st M r := by
  intro ls st M r h
  obtain ⟨l, e, h1⟩ := sy_xc_ok h; subst e
  obtain ⟨a1, l, e, h2⟩ := sy_xi_ok h1; subst e
  obtain ⟨a2, l, e, h3⟩ := sy_xi_ok h2; subst e
  obtain ⟨a3, l, e, h4⟩ := sy_xi_ok h3; subst e
  obtain ⟨a4, l, e, h5⟩ := sy_xi_ok h4; subst e
  obtain ⟨w5, l, e, h6⟩ := sy_xv_ok h5; subst e
  obtain ⟨e, h7⟩ := sy_xn_ok h6; subst e
  obtain ⟨e, h8⟩ := sy_xn_ok h7; subst e
  exact hk _ a1 a2 a3 a4 M r h8
def jfX12_bestOf_40 (k9 : Int32 → Int32 → Int32 → Int32 → sy_M → sy_O) (a1 : Int32) (a2 : Int32) (a3 : Int32) (a4 : Int32) (M : sy_M) : sy_O :=
  let v1 := a4 + 1
  k9 a1 a2 a3 v1 M
set_option maxRecDepth 100000 in
theorem jrX12_bestOf_40 (k9 : Int32 → Int32 → Int32 → Int32 → sy_M → sy_O) (w5 : Value) (a1 : Int32) (a2 : Int32) (a3 : Int32) (a4 : Int32) (M : sy_M) : sy_run skX12 qX12_bestOf [(40, .iinc 4 1, 3, [true, true, true, true, true, false]), (43, .goto (-34), 3, [])] [] [(9, juX12_bestOf_9 k9)] 3 [] 40 [.ref 121, .int a1, .int a2, .int a3, .int a4, w5] [] M = jfX12_bestOf_40 k9 a1 a2 a3 a4 M := rfl
theorem jtX12_bestOf_40 {k9 : Int32 → Int32 → Int32 → Int32 → sy_M → sy_O} (hk9 : ∀ (w5 : Value) (a1 : Int32) (a2 : Int32) (a3 : Int32) (a4 : Int32) (M : sy_M) (r : xe_R × sy_M), k9 a1 a2 a3 a4 M = some r → sy_E (54) qX12_bestOf 9 [.ref 121, .int a1, .int a2, .int a3, .int a4, w5] [] M r) : ∀ (w5 : Value) (a1 : Int32) (a2 : Int32) (a3 : Int32) (a4 : Int32) (M : sy_M) (r : xe_R × sy_M), jfX12_bestOf_40 k9 a1 a2 a3 a4 M = some r → sy_E (54) qX12_bestOf 40 [.ref 121, .int a1, .int a2, .int a3, .int a4, w5] [] M r := by
  intro w5 a1 a2 a3 a4 M r h
  exact sy_run_by (d := 53) ((jrX12_bestOf_40 _ _ _ _ _ _ M).trans h) hkX12 (by decide +kernel) sy_cs_nil (sy_us_cons (jwX12_bestOf_9 hk9) sy_us_nil)
def jgX12_bestOf_9 (k9 : Int32 → Int32 → Int32 → Int32 → sy_M → sy_O) (a1 : Int32) (a2 : Int32) (a3 : Int32) (a4 : Int32) (M : sy_M) : sy_O :=
  if 20 < a4 then
    sy_ri a2 M
  else
    sy_bi (jfX12_griefOf a1 a4 M) fun v2 M1 =>
    if v2 < a3 then
      jfX12_bestOf_40 k9 a1 a4 v2 a4 M1
    else
      jfX12_bestOf_40 k9 a1 a2 a3 a4 M1
def jfX12_bestOf_9 : Nat → Int32 → Int32 → Int32 → Int32 → sy_M → sy_O
  | 0, _, _, _, _, _ => none
  | n + 1, a1, a2, a3, a4, M => jgX12_bestOf_9 (jfX12_bestOf_9 n) a1 a2 a3 a4 M
set_option maxRecDepth 100000 in
theorem jrX12_bestOf_9 (k9 : Int32 → Int32 → Int32 → Int32 → sy_M → sy_O) (w5 : Value) (a1 : Int32) (a2 : Int32) (a3 : Int32) (a4 : Int32) (M : sy_M) : sy_run skX12 qX12_bestOf [(9, .iload 4, 2, [true, true, true, true, true, false]), (11, .bipush 20, 2, []), (13, .if_icmp .gt 33, 3, []), (16, .aload_n 0, 1, []), (17, .iload_n 1, 1, []), (18, .iload 4, 2, []), (20, .invokevirtual 340, 3, []), (23, .istore 5, 2, []), (25, .iload 5, 2, []), (27, .iload_n 3, 1, []), (28, .if_icmp .lt 6, 3, []), (31, .goto 9, 3, []), (34, .iload 5, 2, [true, true, false, false, true, true]), (36, .istore_n 3, 1, []), (37, .iload 4, 2, []), (39, .istore_n 2, 1, []), (46, .iload_n 2, 1, [false, false, true, false, false, false]), (47, .ireturn, 1, [])] [(268, 0, jcX12_griefOf)] [(40, juX12_bestOf_40 (jfX12_bestOf_40 k9))] 19 [] 9 [.ref 121, .int a1, .int a2, .int a3, .int a4, w5] [] M = jgX12_bestOf_9 k9 a1 a2 a3 a4 M := rfl
theorem jtX12_bestOf_9 : ∀ n : Nat, ∀ (w5 : Value) (a1 : Int32) (a2 : Int32) (a3 : Int32) (a4 : Int32) (M : sy_M) (r : xe_R × sy_M), jfX12_bestOf_9 n a1 a2 a3 a4 M = some r → sy_E (54) qX12_bestOf 9 [.ref 121, .int a1, .int a2, .int a3, .int a4, w5] [] M r := by
  intro n
  induction n with
  | zero => intro w5 a1 a2 a3 a4 M r h; exact absurd (show (none : sy_O) = some r from h) (by simp)
  | succ n ih => intro w5 a1 a2 a3 a4 M r h; exact sy_run_by (d := 53) ((jrX12_bestOf_9 _ _ _ _ _ _ M).trans h) hkX12 (by decide +kernel) (sy_cs_cons (jeX12_griefOf.deep (by decide)) sy_cs_nil) (sy_us_cons (jwX12_bestOf_40 (jtX12_bestOf_40 ih)) sy_us_nil)
def jfX12_bestOf (a1 : Int32) (M : sy_M) : sy_O :=
  jfX12_bestOf_9 sy_F a1 0 2000000000 0 M
set_option maxRecDepth 100000 in
theorem jrX12_bestOf (a1 : Int32) (M : sy_M) : sy_run skX12 qX12_bestOf [(0, .iconst 0, 1, []), (1, .istore_n 2, 1, []), (2, .ldc_w 339, 3, []), (5, .istore_n 3, 1, []), (6, .iconst 0, 1, []), (7, .istore 4, 2, [])] [] [(9, juX12_bestOf_9 (jfX12_bestOf_9 sy_F))] 7 [] 0 [.ref 121, .int a1, xe_no, xe_no, xe_no, xe_no] [] M = jfX12_bestOf a1 M := rfl
theorem jtX12_bestOf : ∀ (a1 : Int32) (M : sy_M) (r : xe_R × sy_M), jfX12_bestOf a1 M = some r → sy_E (54) qX12_bestOf 0 [.ref 121, .int a1, xe_no, xe_no, xe_no, xe_no] [] M r := by
  intro a1 M r h
  exact sy_run_by (d := 53) ((jrX12_bestOf _ M).trans h) hkX12 (by decide +kernel) sy_cs_nil (sy_us_cons (jwX12_bestOf_9 (jtX12_bestOf_9 sy_F)) sy_us_nil)
def jcX12_bestOf (as : List Value) (M : sy_M) (K : sy_O → sy_O) : sy_O := sy_xc 121 as fun l => sy_xi l fun a1 l => sy_xn l (K (jfX12_bestOf a1 M))
theorem jeX12_bestOf : sy_snd (54) 269 (jcX12_bestOf) := by
  intro as M K r h
  obtain ⟨l, e, h1⟩ := sy_xc_ok h; subst e
  obtain ⟨a1, l, e, h2⟩ := sy_xi_ok h1; subst e
  obtain ⟨e, h3⟩ := sy_xn_ok h2; subst e
  exact ⟨_, h3, fun r1 h0 => ⟨qX12_bestOf, rfl, rfl, jtX12_bestOf _ M r1 h0⟩⟩
/-! X12_hoursOf StairMeterModel hoursOf (I)I [('R', 121), 'I'] -/
def juX12_hoursOf_25 (k : Int32 → Int32 → Int32 → Int32 → sy_M → sy_O) (ls st : List Value) (M : sy_M) : sy_O := sy_xc 121 ls fun l => sy_xi l fun a1 l => sy_xv l fun _ l => sy_xi l fun a3 l => sy_xn l (sy_xi st fun s0 l => sy_xi l fun s1 l => sy_xn l (k a1 a3 s0 s1 M))
theorem jwX12_hoursOf_25 {d : Nat} {k : Int32 → Int32 → Int32 → Int32 → sy_M → sy_O} (hk : ∀ (w2 : Value) (a1 : Int32) (a3 : Int32) (s0 : Int32) (s1 : Int32) (M : sy_M) (r : xe_R × sy_M), k a1 a3 s0 s1 M = some r → sy_E (d) qX12_hoursOf 25 [.ref 121, .int a1, w2, .int a3] [.int s0, .int s1] M r) : ∀ ls st M r, juX12_hoursOf_25 k ls st M = some r → sy_E d qX12_hoursOf 25 ls st M r := by
  intro ls st M r h
  obtain ⟨l, e, h1⟩ := sy_xc_ok h; subst e
  obtain ⟨a1, l, e, h2⟩ := sy_xi_ok h1; subst e
  obtain ⟨w2, l, e, h3⟩ := sy_xv_ok h2; subst e
  obtain ⟨a3, l, e, h4⟩ := sy_xi_ok h3; subst e
  obtain ⟨e, h5⟩ := sy_xn_ok h4; subst e
  obtain ⟨s0, l, e, h6⟩ := sy_xi_ok h5; subst e
  obtain ⟨s1, l, e, h7⟩ := sy_xi_ok h6; subst e
  obtain ⟨e, h8⟩ := sy_xn_ok h7; subst e
  exact hk _ a1 a3 s0 s1 M r h8
def juX12_hoursOf_4 (k : Int32 → Int32 → Int32 → sy_M → sy_O) (ls st : List Value) (M : sy_M) : sy_O := sy_xc 121 ls fun l => sy_xi l fun a1 l => sy_xi l fun a2 l => sy_xi l fun a3 l => sy_xn l (sy_xn st (k a1 a2 a3 M))
theorem jwX12_hoursOf_4 {d : Nat} {k : Int32 → Int32 → Int32 → sy_M → sy_O} (hk : ∀ (a1 : Int32) (a2 : Int32) (a3 : Int32) (M : sy_M) (r : xe_R × sy_M), k a1 a2 a3 M = some r → sy_E (d) qX12_hoursOf 4 [.ref 121, .int a1, .int a2, .int a3] [] M r) : ∀ ls st M r, juX12_hoursOf_4 k ls st M = some r → sy_E d qX12_hoursOf 4 ls st M r := by
  intro ls st M r h
  obtain ⟨l, e, h1⟩ := sy_xc_ok h; subst e
  obtain ⟨a1, l, e, h2⟩ := sy_xi_ok h1; subst e
  obtain ⟨a2, l, e, h3⟩ := sy_xi_ok h2; subst e
  obtain ⟨a3, l, e, h4⟩ := sy_xi_ok h3; subst e
  obtain ⟨e, h5⟩ := sy_xn_ok h4; subst e
  obtain ⟨e, h6⟩ := sy_xn_ok h5; subst e
  exact hk a1 a2 a3 M r h6
def jfX12_hoursOf_25 (k4 : Int32 → Int32 → Int32 → sy_M → sy_O) (a1 : Int32) (a3 : Int32) (s0 : Int32) (s1 : Int32) (M : sy_M) : sy_O :=
  let v1 := (s1 + s0)
  let v2 := a3 + 1
  k4 a1 v1 v2 M
set_option maxRecDepth 100000 in
theorem jrX12_hoursOf_25 (k4 : Int32 → Int32 → Int32 → sy_M → sy_O) (w2 : Value) (a1 : Int32) (a3 : Int32) (s0 : Int32) (s1 : Int32) (M : sy_M) : sy_run skX12 qX12_hoursOf [(25, .iadd, 1, [true, true, false, true]), (26, .istore_n 2, 1, []), (27, .iinc 3 1, 3, []), (30, .goto (-26), 3, [])] [] [(4, juX12_hoursOf_4 k4)] 5 [] 25 [.ref 121, .int a1, w2, .int a3] [.int s0, .int s1] M = jfX12_hoursOf_25 k4 a1 a3 s0 s1 M := rfl
theorem jtX12_hoursOf_25 {k4 : Int32 → Int32 → Int32 → sy_M → sy_O} (hk4 : ∀ (a1 : Int32) (a2 : Int32) (a3 : Int32) (M : sy_M) (r : xe_R × sy_M), k4 a1 a2 a3 M = some r → sy_E (3) qX12_hoursOf 4 [.ref 121, .int a1, .int a2, .int a3] [] M r) : ∀ (w2 : Value) (a1 : Int32) (a3 : Int32) (s0 : Int32) (s1 : Int32) (M : sy_M) (r : xe_R × sy_M), jfX12_hoursOf_25 k4 a1 a3 s0 s1 M = some r → sy_E (3) qX12_hoursOf 25 [.ref 121, .int a1, w2, .int a3] [.int s0, .int s1] M r := by
  intro w2 a1 a3 s0 s1 M r h
  exact sy_run_by (d := 2) ((jrX12_hoursOf_25 _ _ _ _ _ _ M).trans h) hkX12 (by decide +kernel) sy_cs_nil (sy_us_cons (jwX12_hoursOf_4 hk4) sy_us_nil)
def jgX12_hoursOf_4 (k4 : Int32 → Int32 → Int32 → sy_M → sy_O) (a1 : Int32) (a2 : Int32) (a3 : Int32) (M : sy_M) : sy_O :=
  if a3 < 48 then
    sy_bi (jfX12_atHome a1 a3 M) fun v2 M1 =>
    if v2 = 0 then
      jfX12_hoursOf_25 k4 a1 a3 0 a2 M1
    else
      jfX12_hoursOf_25 k4 a1 a3 1 a2 M1
  else
    sy_ri a2 M
def jfX12_hoursOf_4 : Nat → Int32 → Int32 → Int32 → sy_M → sy_O
  | 0, _, _, _, _ => none
  | n + 1, a1, a2, a3, M => jgX12_hoursOf_4 (jfX12_hoursOf_4 n) a1 a2 a3 M
set_option maxRecDepth 100000 in
theorem jrX12_hoursOf_4 (k4 : Int32 → Int32 → Int32 → sy_M → sy_O) (a1 : Int32) (a2 : Int32) (a3 : Int32) (M : sy_M) : sy_run skX12 qX12_hoursOf [(4, .iload_n 3, 1, []), (5, .bipush 48, 2, []), (7, .if_icmp .ge 26, 3, []), (10, .iload_n 2, 1, []), (11, .aload_n 0, 1, []), (12, .iload_n 1, 1, []), (13, .iload_n 3, 1, []), (14, .invokevirtual 56, 3, []), (17, .ifCond .eq 7, 3, []), (20, .iconst 1, 1, []), (21, .goto 4, 3, []), (24, .iconst 0, 1, [true, true, false, true]), (33, .iload_n 2, 1, [false, false, true, false]), (34, .ireturn, 1, [])] [(192, 0, jcX12_atHome)] [(25, juX12_hoursOf_25 (jfX12_hoursOf_25 k4))] 15 [] 4 [.ref 121, .int a1, .int a2, .int a3] [] M = jgX12_hoursOf_4 k4 a1 a2 a3 M := rfl
theorem jtX12_hoursOf_4 : ∀ n : Nat, ∀ (a1 : Int32) (a2 : Int32) (a3 : Int32) (M : sy_M) (r : xe_R × sy_M), jfX12_hoursOf_4 n a1 a2 a3 M = some r → sy_E (3) qX12_hoursOf 4 [.ref 121, .int a1, .int a2, .int a3] [] M r := by
  intro n
  induction n with
  | zero => intro a1 a2 a3 M r h; exact absurd (show (none : sy_O) = some r from h) (by simp)
  | succ n ih => intro a1 a2 a3 M r h; exact sy_run_by (d := 2) ((jrX12_hoursOf_4 _ _ _ _ M).trans h) hkX12 (by decide +kernel) (sy_cs_cons (jeX12_atHome.deep (by decide)) sy_cs_nil) (sy_us_cons (jwX12_hoursOf_25 (jtX12_hoursOf_25 ih)) sy_us_nil)
def jfX12_hoursOf (a1 : Int32) (M : sy_M) : sy_O :=
  jfX12_hoursOf_4 sy_F a1 0 0 M
set_option maxRecDepth 100000 in
theorem jrX12_hoursOf (a1 : Int32) (M : sy_M) : sy_run skX12 qX12_hoursOf [(0, .iconst 0, 1, []), (1, .istore_n 2, 1, []), (2, .iconst 0, 1, []), (3, .istore_n 3, 1, [])] [] [(4, juX12_hoursOf_4 (jfX12_hoursOf_4 sy_F))] 5 [] 0 [.ref 121, .int a1, xe_no, xe_no] [] M = jfX12_hoursOf a1 M := rfl
theorem jtX12_hoursOf : ∀ (a1 : Int32) (M : sy_M) (r : xe_R × sy_M), jfX12_hoursOf a1 M = some r → sy_E (3) qX12_hoursOf 0 [.ref 121, .int a1, xe_no, xe_no] [] M r := by
  intro a1 M r h
  exact sy_run_by (d := 2) ((jrX12_hoursOf _ M).trans h) hkX12 (by decide +kernel) sy_cs_nil (sy_us_cons (jwX12_hoursOf_4 (jtX12_hoursOf_4 sy_F)) sy_us_nil)
def jcX12_hoursOf (as : List Value) (M : sy_M) (K : sy_O → sy_O) : sy_O := sy_xc 121 as fun l => sy_xi l fun a1 l => sy_xn l (K (jfX12_hoursOf a1 M))
theorem jeX12_hoursOf : sy_snd (3) 196 (jcX12_hoursOf) := by
  intro as M K r h
  obtain ⟨l, e, h1⟩ := sy_xc_ok h; subst e
  obtain ⟨a1, l, e, h2⟩ := sy_xi_ok h1; subst e
  obtain ⟨e, h3⟩ := sy_xn_ok h2; subst e
  exact ⟨_, h3, fun r1 h0 => ⟨qX12_hoursOf, rfl, rfl, jtX12_hoursOf _ M r1 h0⟩⟩
/-! X12_metered StairMeterModel metered (I)I [('R', 121), 'I'] -/
def jfX12_metered (a1 : Int32) (M : sy_M) : sy_O :=
  sy_bi (jfX12_of a1 0 M) fun v2 M1 =>
  sy_bi (jfX12_hoursOf a1 M1) fun v4 M3 =>
  sy_ri (v2 * v4) M3
set_option maxRecDepth 100000 in
theorem jrX12_metered (a1 : Int32) (M : sy_M) : sy_run skX12 qX12_metered [(0, .aload_n 0, 1, []), (1, .iload_n 1, 1, []), (2, .iconst 0, 1, []), (3, .invokevirtual 52, 3, []), (6, .aload_n 0, 1, []), (7, .iload_n 1, 1, []), (8, .invokevirtual 281, 3, []), (11, .imul, 1, []), (12, .ireturn, 1, [])] [(187, 0, jcX12_of), (196, 0, jcX12_hoursOf)] [] 10 [] 0 [.ref 121, .int a1] [] M = jfX12_metered a1 M := rfl
theorem jtX12_metered : ∀ (a1 : Int32) (M : sy_M) (r : xe_R × sy_M), jfX12_metered a1 M = some r → sy_E (4) qX12_metered 0 [.ref 121, .int a1] [] M r := by
  intro a1 M r h
  exact sy_run_by (d := 3) ((jrX12_metered _ M).trans h) hkX12 (by decide +kernel) (sy_cs_cons (jeX12_of.deep (by decide)) (sy_cs_cons (jeX12_hoursOf.deep (by decide)) sy_cs_nil)) sy_us_nil
def jcX12_metered (as : List Value) (M : sy_M) (K : sy_O → sy_O) : sy_O := sy_xc 121 as fun l => sy_xi l fun a1 l => sy_xn l (K (jfX12_metered a1 M))
theorem jeX12_metered : sy_snd (4) 238 (jcX12_metered) := by
  intro as M K r h
  obtain ⟨l, e, h1⟩ := sy_xc_ok h; subst e
  obtain ⟨a1, l, e, h2⟩ := sy_xi_ok h1; subst e
  obtain ⟨e, h3⟩ := sy_xn_ok h2; subst e
  exact ⟨_, h3, fun r1 h0 => ⟨qX12_metered, rfl, rfl, jtX12_metered _ M r1 h0⟩⟩
/-! X12_all StairMeterModel all ()I [('R', 121)] -/
def jfX12_all (M : sy_M) : sy_O :=
  sy_ri ((1 <<< ((M 122 3) &&& 31)) - 1) M
set_option maxRecDepth 100000 in
theorem jrX12_all (M : sy_M) : sy_run skX12 qX12_all [(0, .iconst 1, 1, []), (1, .aload_n 0, 1, []), (2, .getfield 7, 3, []), (5, .iconst 3, 1, []), (6, .iaload, 1, []), (7, .ishl, 1, []), (8, .iconst 1, 1, []), (9, .isub, 1, []), (10, .ireturn, 1, [])] [] [] 10 [] 0 [.ref 121] [] M = jfX12_all M := rfl
theorem jtX12_all : ∀ (M : sy_M) (r : xe_R × sy_M), jfX12_all M = some r → sy_E (1) qX12_all 0 [.ref 121] [] M r := by
  intro  M r h
  exact sy_run_by (d := 0) ((jrX12_all M).trans h) hkX12 (by decide +kernel) sy_cs_nil sy_us_nil
def jcX12_all (as : List Value) (M : sy_M) (K : sy_O → sy_O) : sy_O := sy_xc 121 as fun l => sy_xn l (K (jfX12_all M))
theorem jeX12_all : sy_snd (1) 197 (jcX12_all) := by
  intro as M K r h
  obtain ⟨l, e, h1⟩ := sy_xc_ok h; subst e
  obtain ⟨e, h2⟩ := sy_xn_ok h1; subst e
  exact ⟨_, h2, fun r1 h0 => ⟨qX12_all, rfl, rfl, jtX12_all  M r1 h0⟩⟩
/-! X12_fedOf StairMeterModel fedOf (I)I [('R', 121), 'I'] -/
def juX12_fedOf_34 (k : Int32 → Int32 → Int32 → Int32 → sy_M → sy_O) (ls st : List Value) (M : sy_M) : sy_O := sy_xc 121 ls fun l => sy_xi l fun a1 l => sy_xv l fun _ l => sy_xi l fun a3 l => sy_xn l (sy_xi st fun s0 l => sy_xi l fun s1 l => sy_xn l (k a1 a3 s0 s1 M))
theorem jwX12_fedOf_34 {d : Nat} {k : Int32 → Int32 → Int32 → Int32 → sy_M → sy_O} (hk : ∀ (w2 : Value) (a1 : Int32) (a3 : Int32) (s0 : Int32) (s1 : Int32) (M : sy_M) (r : xe_R × sy_M), k a1 a3 s0 s1 M = some r → sy_E (d) qX12_fedOf 34 [.ref 121, .int a1, w2, .int a3] [.int s0, .int s1] M r) : ∀ ls st M r, juX12_fedOf_34 k ls st M = some r → sy_E d qX12_fedOf 34 ls st M r := by
  intro ls st M r h
  obtain ⟨l, e, h1⟩ := sy_xc_ok h; subst e
  obtain ⟨a1, l, e, h2⟩ := sy_xi_ok h1; subst e
  obtain ⟨w2, l, e, h3⟩ := sy_xv_ok h2; subst e
  obtain ⟨a3, l, e, h4⟩ := sy_xi_ok h3; subst e
  obtain ⟨e, h5⟩ := sy_xn_ok h4; subst e
  obtain ⟨s0, l, e, h6⟩ := sy_xi_ok h5; subst e
  obtain ⟨s1, l, e, h7⟩ := sy_xi_ok h6; subst e
  obtain ⟨e, h8⟩ := sy_xn_ok h7; subst e
  exact hk _ a1 a3 s0 s1 M r h8
def juX12_fedOf_4 (k : Int32 → Int32 → Int32 → sy_M → sy_O) (ls st : List Value) (M : sy_M) : sy_O := sy_xc 121 ls fun l => sy_xi l fun a1 l => sy_xi l fun a2 l => sy_xi l fun a3 l => sy_xn l (sy_xn st (k a1 a2 a3 M))
theorem jwX12_fedOf_4 {d : Nat} {k : Int32 → Int32 → Int32 → sy_M → sy_O} (hk : ∀ (a1 : Int32) (a2 : Int32) (a3 : Int32) (M : sy_M) (r : xe_R × sy_M), k a1 a2 a3 M = some r → sy_E (d) qX12_fedOf 4 [.ref 121, .int a1, .int a2, .int a3] [] M r) : ∀ ls st M r, juX12_fedOf_4 k ls st M = some r → sy_E d qX12_fedOf 4 ls st M r := by
  intro ls st M r h
  obtain ⟨l, e, h1⟩ := sy_xc_ok h; subst e
  obtain ⟨a1, l, e, h2⟩ := sy_xi_ok h1; subst e
  obtain ⟨a2, l, e, h3⟩ := sy_xi_ok h2; subst e
  obtain ⟨a3, l, e, h4⟩ := sy_xi_ok h3; subst e
  obtain ⟨e, h5⟩ := sy_xn_ok h4; subst e
  obtain ⟨e, h6⟩ := sy_xn_ok h5; subst e
  exact hk a1 a2 a3 M r h6
def jfX12_fedOf_34 (k4 : Int32 → Int32 → Int32 → sy_M → sy_O) (a1 : Int32) (a3 : Int32) (s0 : Int32) (s1 : Int32) (M : sy_M) : sy_O :=
  let v1 := (s1 + s0)
  let v2 := a3 + 1
  k4 a1 v1 v2 M
set_option maxRecDepth 100000 in
theorem jrX12_fedOf_34 (k4 : Int32 → Int32 → Int32 → sy_M → sy_O) (w2 : Value) (a1 : Int32) (a3 : Int32) (s0 : Int32) (s1 : Int32) (M : sy_M) : sy_run skX12 qX12_fedOf [(34, .iadd, 1, [true, true, false, true]), (35, .istore_n 2, 1, []), (36, .iinc 3 1, 3, []), (39, .goto (-35), 3, [])] [] [(4, juX12_fedOf_4 k4)] 5 [] 34 [.ref 121, .int a1, w2, .int a3] [.int s0, .int s1] M = jfX12_fedOf_34 k4 a1 a3 s0 s1 M := rfl
theorem jtX12_fedOf_34 {k4 : Int32 → Int32 → Int32 → sy_M → sy_O} (hk4 : ∀ (a1 : Int32) (a2 : Int32) (a3 : Int32) (M : sy_M) (r : xe_R × sy_M), k4 a1 a2 a3 M = some r → sy_E (2) qX12_fedOf 4 [.ref 121, .int a1, .int a2, .int a3] [] M r) : ∀ (w2 : Value) (a1 : Int32) (a3 : Int32) (s0 : Int32) (s1 : Int32) (M : sy_M) (r : xe_R × sy_M), jfX12_fedOf_34 k4 a1 a3 s0 s1 M = some r → sy_E (2) qX12_fedOf 34 [.ref 121, .int a1, w2, .int a3] [.int s0, .int s1] M r := by
  intro w2 a1 a3 s0 s1 M r h
  exact sy_run_by (d := 1) ((jrX12_fedOf_34 _ _ _ _ _ _ M).trans h) hkX12 (by decide +kernel) sy_cs_nil (sy_us_cons (jwX12_fedOf_4 hk4) sy_us_nil)
def jgX12_fedOf_4 (k4 : Int32 → Int32 → Int32 → sy_M → sy_O) (a1 : Int32) (a2 : Int32) (a3 : Int32) (M : sy_M) : sy_O :=
  if a3 < (M 122 3) then
    sy_bi (jfX12_isOf a1 a3 M) fun v2 M1 =>
    if v2 = 0 then
      jfX12_fedOf_34 k4 a1 a3 0 a2 M1
    else
      sy_bi (jfX12_of a3 8 M1) fun v4 M3 =>
      jfX12_fedOf_34 k4 a1 a3 v4 a2 M3
  else
    sy_ri a2 M
def jfX12_fedOf_4 : Nat → Int32 → Int32 → Int32 → sy_M → sy_O
  | 0, _, _, _, _ => none
  | n + 1, a1, a2, a3, M => jgX12_fedOf_4 (jfX12_fedOf_4 n) a1 a2 a3 M
set_option maxRecDepth 100000 in
theorem jrX12_fedOf_4 (k4 : Int32 → Int32 → Int32 → sy_M → sy_O) (a1 : Int32) (a2 : Int32) (a3 : Int32) (M : sy_M) : sy_run skX12 qX12_fedOf [(4, .iload_n 3, 1, []), (5, .aload_n 0, 1, []), (6, .getfield 7, 3, []), (9, .iconst 3, 1, []), (10, .iaload, 1, []), (11, .if_icmp .ge 31, 3, []), (14, .iload_n 2, 1, []), (15, .iload_n 1, 1, []), (16, .iload_n 3, 1, []), (17, .invokestatic 60, 3, []), (20, .ifCond .eq 13, 3, []), (23, .aload_n 0, 1, []), (24, .iload_n 3, 1, []), (25, .bipush 8, 2, []), (27, .invokevirtual 52, 3, []), (30, .goto 4, 3, []), (33, .iconst 0, 1, [true, true, false, true]), (42, .iload_n 2, 1, [false, false, true, false]), (43, .ireturn, 1, [])] [(185, 0, jcX12_isOf), (187, 0, jcX12_of)] [(34, juX12_fedOf_34 (jfX12_fedOf_34 k4))] 20 [] 4 [.ref 121, .int a1, .int a2, .int a3] [] M = jgX12_fedOf_4 k4 a1 a2 a3 M := rfl
theorem jtX12_fedOf_4 : ∀ n : Nat, ∀ (a1 : Int32) (a2 : Int32) (a3 : Int32) (M : sy_M) (r : xe_R × sy_M), jfX12_fedOf_4 n a1 a2 a3 M = some r → sy_E (2) qX12_fedOf 4 [.ref 121, .int a1, .int a2, .int a3] [] M r := by
  intro n
  induction n with
  | zero => intro a1 a2 a3 M r h; exact absurd (show (none : sy_O) = some r from h) (by simp)
  | succ n ih => intro a1 a2 a3 M r h; exact sy_run_by (d := 1) ((jrX12_fedOf_4 _ _ _ _ M).trans h) hkX12 (by decide +kernel) (sy_cs_cons (jeX12_isOf.deep (by decide)) (sy_cs_cons (jeX12_of.deep (by decide)) sy_cs_nil)) (sy_us_cons (jwX12_fedOf_34 (jtX12_fedOf_34 ih)) sy_us_nil)
def jfX12_fedOf (a1 : Int32) (M : sy_M) : sy_O :=
  jfX12_fedOf_4 sy_F a1 0 0 M
set_option maxRecDepth 100000 in
theorem jrX12_fedOf (a1 : Int32) (M : sy_M) : sy_run skX12 qX12_fedOf [(0, .iconst 0, 1, []), (1, .istore_n 2, 1, []), (2, .iconst 0, 1, []), (3, .istore_n 3, 1, [])] [] [(4, juX12_fedOf_4 (jfX12_fedOf_4 sy_F))] 5 [] 0 [.ref 121, .int a1, xe_no, xe_no] [] M = jfX12_fedOf a1 M := rfl
theorem jtX12_fedOf : ∀ (a1 : Int32) (M : sy_M) (r : xe_R × sy_M), jfX12_fedOf a1 M = some r → sy_E (2) qX12_fedOf 0 [.ref 121, .int a1, xe_no, xe_no] [] M r := by
  intro a1 M r h
  exact sy_run_by (d := 1) ((jrX12_fedOf _ M).trans h) hkX12 (by decide +kernel) sy_cs_nil (sy_us_cons (jwX12_fedOf_4 (jtX12_fedOf_4 sy_F)) sy_us_nil)
def jcX12_fedOf (as : List Value) (M : sy_M) (K : sy_O → sy_O) : sy_O := sy_xc 121 as fun l => sy_xi l fun a1 l => sy_xn l (K (jfX12_fedOf a1 M))
theorem jeX12_fedOf : sy_snd (2) 236 (jcX12_fedOf) := by
  intro as M K r h
  obtain ⟨l, e, h1⟩ := sy_xc_ok h; subst e
  obtain ⟨a1, l, e, h2⟩ := sy_xi_ok h1; subst e
  obtain ⟨e, h3⟩ := sy_xn_ok h2; subst e
  exact ⟨_, h3, fun r1 h0 => ⟨qX12_fedOf, rfl, rfl, jtX12_fedOf _ M r1 h0⟩⟩
/-! X12_lodger StairMeterModel lodger (II)I [('R', 121), 'I', 'I'] -/
def juX12_lodger_28 (k : Int32 → Int32 → Int32 → sy_M → sy_O) (ls st : List Value) (M : sy_M) : sy_O := sy_xc 121 ls fun l => sy_xi l fun a1 l => sy_xi l fun a2 l => sy_xn l (sy_xi st fun s0 l => sy_xc 121 l fun l => sy_xn l (k a1 a2 s0 M))
theorem jwX12_lodger_28 {d : Nat} {k : Int32 → Int32 → Int32 → sy_M → sy_O} (hk : ∀ (a1 : Int32) (a2 : Int32) (s0 : Int32) (M : sy_M) (r : xe_R × sy_M), k a1 a2 s0 M = some r → sy_E (d) qX12_lodger 28 [.ref 121, .int a1, .int a2] [.int s0, .ref 121] M r) : ∀ ls st M r, juX12_lodger_28 k ls st M = some r → sy_E d qX12_lodger 28 ls st M r := by
  intro ls st M r h
  obtain ⟨l, e, h1⟩ := sy_xc_ok h; subst e
  obtain ⟨a1, l, e, h2⟩ := sy_xi_ok h1; subst e
  obtain ⟨a2, l, e, h3⟩ := sy_xi_ok h2; subst e
  obtain ⟨e, h4⟩ := sy_xn_ok h3; subst e
  obtain ⟨s0, l, e, h5⟩ := sy_xi_ok h4; subst e
  obtain ⟨l, e, h6⟩ := sy_xc_ok h5; subst e
  obtain ⟨e, h7⟩ := sy_xn_ok h6; subst e
  exact hk a1 a2 s0 M r h7
def jfX12_lodger_28 (a1 : Int32) (a2 : Int32) (s0 : Int32) (M : sy_M) : sy_O :=
  let M1 := sy_upd M 121 0 s0
  if 0 < (M1 121 0) then
    sy_ri 0 M1
  else
    if a2 < 9 then
      sy_bi (jfX12_of a1 a2 M1) fun v18 M17 =>
      sy_ri v18 M17
    else
      sy_bv (jfX12_asks a1 M1) fun M2 =>
      if a2 = 9 then
        sy_ri (M2 121 17) M2
      else
        if a2 = 10 then
          if (M2 121 18) = 0 then
            sy_ri 0 M2
          else
            sy_ri 1 M2
        else
          if a2 = 11 then
            sy_bi (jfX12_all M2) fun v8 M7 =>
            sy_bi (jfX12_fedOf v8 M7) fun v10 M9 =>
            if v10 = 0 then
              sy_ri 0 M9
            else
              sy_bi (jfX12_of a1 8 M9) fun v12 M11 =>
              sy_bi (jfX12_all M11) fun v14 M13 =>
              sy_bi (jfX12_fedOf v14 M13) fun v16 M15 =>
              if v16 = 0 then none else
              sy_ri ((100 * v12) / v16) M15
          else
            if a2 = 12 then
              sy_bi (jfX12_metered a1 M2) fun v6 M5 =>
              sy_ri v6 M5
            else
              sy_bi (jfX12_bestOf a1 M2) fun v4 M3 =>
              sy_ri v4 M3
set_option maxRecDepth 100000 in
theorem jrX12_lodger_28 (a1 : Int32) (a2 : Int32) (s0 : Int32) (M : sy_M) : sy_run skX12 qX12_lodger [(28, .putfield 45, 3, []), (31, .aload_n 0, 1, []), (32, .getfield 45, 3, []), (35, .ifCond .le 5, 3, []), (38, .iconst 0, 1, []), (39, .ireturn, 1, []), (40, .iload_n 2, 1, []), (41, .bipush 9, 2, []), (43, .if_icmp .ge 10, 3, []), (46, .aload_n 0, 1, []), (47, .iload_n 1, 1, []), (48, .iload_n 2, 1, []), (49, .invokevirtual 52, 3, []), (52, .ireturn, 1, []), (53, .aload_n 0, 1, []), (54, .iload_n 1, 1, []), (55, .invokevirtual 256, 3, []), (58, .iload_n 2, 1, []), (59, .bipush 9, 2, []), (61, .if_icmp .ne 8, 3, []), (64, .aload_n 0, 1, []), (65, .getfield 241, 3, []), (68, .ireturn, 1, []), (69, .iload_n 2, 1, []), (70, .bipush 10, 2, []), (72, .if_icmp .ne 16, 3, []), (75, .aload_n 0, 1, []), (76, .getfield 238, 3, []), (79, .ifCond .eq 7, 3, []), (82, .iconst 1, 1, []), (83, .goto 4, 3, []), (86, .iconst 0, 1, [false, false, false]), (87, .ireturn, 1, [false, false, false]), (88, .iload_n 2, 1, []), (89, .bipush 11, 2, []), (91, .if_icmp .ne 38, 3, []), (94, .aload_n 0, 1, []), (95, .aload_n 0, 1, []), (96, .invokevirtual 287, 3, []), (99, .invokevirtual 290, 3, []), (102, .ifCond .ne 7, 3, []), (105, .iconst 0, 1, []), (106, .goto 22, 3, []), (109, .bipush 100, 2, [true, true, false]), (111, .aload_n 0, 1, []), (112, .iload_n 1, 1, []), (113, .bipush 8, 2, []), (115, .invokevirtual 52, 3, []), (118, .imul, 1, []), (119, .aload_n 0, 1, []), (120, .aload_n 0, 1, []), (121, .invokevirtual 287, 3, []), (124, .invokevirtual 290, 3, []), (127, .idiv, 1, []), (128, .ireturn, 1, [false, false, false]), (129, .iload_n 2, 1, []), (130, .bipush 12, 2, []), (132, .if_icmp .ne 11, 3, []), (135, .aload_n 0, 1, []), (136, .iload_n 1, 1, []), (137, .invokevirtual 293, 3, []), (140, .goto 8, 3, []), (143, .aload_n 0, 1, [true, true, false]), (144, .iload_n 1, 1, []), (145, .invokevirtual 296, 3, []), (148, .ireturn, 1, [false, false, false])] [(227, 1, jcX12_asks), (269, 0, jcX12_bestOf), (238, 0, jcX12_metered), (197, 0, jcX12_all), (236, 0, jcX12_fedOf), (187, 0, jcX12_of)] [] 67 [] 28 [.ref 121, .int a1, .int a2] [.int s0, .ref 121] M = jfX12_lodger_28 a1 a2 s0 M := rfl
theorem jtX12_lodger_28 : ∀ (a1 : Int32) (a2 : Int32) (s0 : Int32) (M : sy_M) (r : xe_R × sy_M), jfX12_lodger_28 a1 a2 s0 M = some r → sy_E (55) qX12_lodger 28 [.ref 121, .int a1, .int a2] [.int s0, .ref 121] M r := by
  intro a1 a2 s0 M r h
  exact sy_run_by (d := 54) ((jrX12_lodger_28 _ _ _ M).trans h) hkX12 (by decide +kernel) (sy_cs_cons (jeX12_asks.deep (by decide)) (sy_cs_cons (jeX12_bestOf.deep (by decide)) (sy_cs_cons (jeX12_metered.deep (by decide)) (sy_cs_cons (jeX12_all.deep (by decide)) (sy_cs_cons (jeX12_fedOf.deep (by decide)) (sy_cs_cons (jeX12_of.deep (by decide)) sy_cs_nil)))))) sy_us_nil
def jfX12_lodger (a1 : Int32) (a2 : Int32) (M : sy_M) : sy_O :=
  sy_bi (jfX12_isLodger a1 M) fun v2 M1 =>
  if v2 = 0 then
    jfX12_lodger_28 a1 a2 1 M1
  else
    sy_bi (jfX12_isIn a2 0 13 M1) fun v4 M3 =>
    if v4 = 0 then
      jfX12_lodger_28 a1 a2 2 M3
    else
      jfX12_lodger_28 a1 a2 0 M3
set_option maxRecDepth 100000 in
theorem jrX12_lodger (a1 : Int32) (a2 : Int32) (M : sy_M) : sy_run skX12 qX12_lodger [(0, .aload_n 0, 1, []), (1, .aload_n 0, 1, []), (2, .iload_n 1, 1, []), (3, .invokevirtual 284, 3, []), (6, .ifCond .ne 7, 3, []), (9, .iconst 1, 1, []), (10, .goto 18, 3, []), (13, .iload_n 2, 1, []), (14, .iconst 0, 1, []), (15, .bipush 13, 2, []), (17, .invokestatic 48, 3, []), (20, .ifCond .ne 7, 3, []), (23, .iconst 2, 1, []), (24, .goto 4, 3, []), (27, .iconst 0, 1, [])] [(190, 0, jcX12_isLodger), (182, 0, jcX12_isIn)] [(28, juX12_lodger_28 (jfX12_lodger_28))] 16 [] 0 [.ref 121, .int a1, .int a2] [] M = jfX12_lodger a1 a2 M := rfl
theorem jtX12_lodger : ∀ (a1 : Int32) (a2 : Int32) (M : sy_M) (r : xe_R × sy_M), jfX12_lodger a1 a2 M = some r → sy_E (55) qX12_lodger 0 [.ref 121, .int a1, .int a2] [] M r := by
  intro a1 a2 M r h
  exact sy_run_by (d := 54) ((jrX12_lodger _ _ M).trans h) hkX12 (by decide +kernel) (sy_cs_cons (jeX12_isLodger.deep (by decide)) (sy_cs_cons (jeX12_isIn.deep (by decide)) sy_cs_nil)) (sy_us_cons (jwX12_lodger_28 (jtX12_lodger_28)) sy_us_nil)
def jcX12_lodger (as : List Value) (M : sy_M) (K : sy_O → sy_O) : sy_O := sy_xc 121 as fun l => sy_xi l fun a1 l => sy_xi l fun a2 l => sy_xn l (K (jfX12_lodger a1 a2 M))
theorem jeX12_lodger : sy_snd (55) 239 (jcX12_lodger) := by
  intro as M K r h
  obtain ⟨l, e, h1⟩ := sy_xc_ok h; subst e
  obtain ⟨a1, l, e, h2⟩ := sy_xi_ok h1; subst e
  obtain ⟨a2, l, e, h3⟩ := sy_xi_ok h2; subst e
  obtain ⟨e, h4⟩ := sy_xn_ok h3; subst e
  exact ⟨_, h4, fun r1 h0 => ⟨qX12_lodger, rfl, rfl, jtX12_lodger _ _ M r1 h0⟩⟩
/-! X11_checkTwo StairMeter checkTwo (II)V [('R', 0), 'I', 'I'] -/
def jfX11_checkTwo (a1 : Int32) (a2 : Int32) (M : sy_M) : sy_O :=
  sy_bv (jfX11_checkLodger a1 M) fun M1 =>
  sy_bv (jfX11_checkLodger a2 M1) fun M2 =>
  if a1 = a2 then
    sy_bx (xe_in (M2 133 0) 100000) <|
    sy_rt 20 (sy_upd M2 133 0 (M2 133 0 + 1))
  else
    sy_rv M2
set_option maxRecDepth 100000 in
theorem jrX11_checkTwo (a1 : Int32) (a2 : Int32) (M : sy_M) : sy_run skX11 qX11_checkTwo [(0, .aload_n 0, 1, []), (1, .iload_n 1, 1, []), (2, .invokevirtual 149, 3, []), (5, .aload_n 0, 1, []), (6, .iload_n 2, 1, []), (7, .invokevirtual 149, 3, []), (10, .iload_n 1, 1, []), (11, .iload_n 2, 1, []), (12, .if_icmp .ne 11, 3, []), (15, .new 127, 3, []), (23, .return_, 1, [false, false, false])] [(176, 1, jcX11_checkLodger)] [] 12 [] 0 [.ref 0, .int a1, .int a2] [] M = jfX11_checkTwo a1 a2 M := rfl
theorem jtX11_checkTwo : ∀ (a1 : Int32) (a2 : Int32) (M : sy_M) (r : xe_R × sy_M), jfX11_checkTwo a1 a2 M = some r → sy_E (2) qX11_checkTwo 0 [.ref 0, .int a1, .int a2] [] M r := by
  intro a1 a2 M r h
  exact sy_run_by (d := 1) ((jrX11_checkTwo _ _ M).trans h) hkX11 (by decide +kernel) (sy_cs_cons (jeX11_checkLodger.deep (by decide)) sy_cs_nil) sy_us_nil
def jcX11_checkTwo (as : List Value) (M : sy_M) (K : sy_O → sy_O) : sy_O := sy_xc 0 as fun l => sy_xi l fun a1 l => sy_xi l fun a2 l => sy_xn l (K (jfX11_checkTwo a1 a2 M))
theorem jeX11_checkTwo : sy_snd (2) 177 (jcX11_checkTwo) := by
  intro as M K r h
  obtain ⟨l, e, h1⟩ := sy_xc_ok h; subst e
  obtain ⟨a1, l, e, h2⟩ := sy_xi_ok h1; subst e
  obtain ⟨a2, l, e, h3⟩ := sy_xi_ok h2; subst e
  obtain ⟨e, h4⟩ := sy_xn_ok h3; subst e
  exact ⟨_, h4, fun r1 h0 => ⟨qX11_checkTwo, rfl, rfl, jtX11_checkTwo _ _ M r1 h0⟩⟩
/-! X2_owed StairMeter$House owed (II)I ['A', 'I', 'I'] -/
def jfX2_owed (r0 : Nat) (a1 : Int32) (a2 : Int32) (M : sy_M) : sy_O :=
  sy_bi (jfX2_isDebt a1 a2 M) fun v2 M1 =>
  if v2 = 0 then
    sy_ri 0 M1
  else
    sy_bs (sy_is 2 r0) <|
    sy_bx (xe_in ((a1 * 7) + a2) (sy_len M1 (r0 + 2))) <|
    sy_ri (M1 (r0 + 2) (Int32.toNatClampNeg ((a1 * 7) + a2))) M1
set_option maxRecDepth 100000 in
theorem jrX2_owed (r0 : Nat) (a1 : Int32) (a2 : Int32) (M : sy_M) : sy_run skX2 qX2_owed [(0, .iload_n 1, 1, []), (1, .iload_n 2, 1, []), (2, .invokestatic 88, 3, []), (5, .ifCond .eq 17, 3, []), (8, .aload_n 0, 1, []), (9, .getfield 15, 3, []), (12, .iload_n 1, 1, []), (13, .bipush 7, 2, []), (15, .imul, 1, []), (16, .iload_n 2, 1, []), (17, .iadd, 1, []), (18, .iaload, 1, []), (19, .goto 4, 3, []), (22, .iconst 0, 1, [false, false, false]), (23, .ireturn, 1, [false, false, false])] [(21, 0, jcX2_isDebt)] [] 16 [] 0 [.ref r0, .int a1, .int a2] [] M = jfX2_owed r0 a1 a2 M := rfl
theorem jtX2_owed : ∀ (r0 : Nat) (a1 : Int32) (a2 : Int32) (M : sy_M) (r : xe_R × sy_M), jfX2_owed r0 a1 a2 M = some r → sy_E (2) qX2_owed 0 [.ref r0, .int a1, .int a2] [] M r := by
  intro r0 a1 a2 M r h
  exact sy_run_by (d := 1) ((jrX2_owed _ _ _ M).trans h) hkX2 (by decide +kernel) (sy_cs_cons (jeX2_isDebt.deep (by decide)) sy_cs_nil) sy_us_nil
def jcX2_owed (as : List Value) (M : sy_M) (K : sy_O → sy_O) : sy_O := sy_xa as fun r0 l => sy_xi l fun a1 l => sy_xi l fun a2 l => sy_xn l (K (jfX2_owed r0 a1 a2 M))
theorem jeX2_owed : sy_snd (2) 19 (jcX2_owed) := by
  intro as M K r h
  obtain ⟨r0, l, e, h1⟩ := sy_xa_ok h; subst e
  obtain ⟨a1, l, e, h2⟩ := sy_xi_ok h1; subst e
  obtain ⟨a2, l, e, h3⟩ := sy_xi_ok h2; subst e
  obtain ⟨e, h4⟩ := sy_xn_ok h3; subst e
  exact ⟨_, h4, fun r1 h0 => ⟨qX2_owed, rfl, rfl, jtX2_owed _ _ _ M r1 h0⟩⟩
/-! X11_owes StairMeter owes (II)I [('R', 0), 'I', 'I'] -/
def jfX11_owes (a1 : Int32) (a2 : Int32) (M : sy_M) : sy_O :=
  sy_bv (jfX11_checkTwo a1 a2 M) fun M1 =>
  sy_bi (jfX2_owed 9 a1 a2 M1) fun v3 M2 =>
  sy_ri v3 M2
set_option maxRecDepth 100000 in
theorem jrX11_owes (a1 : Int32) (a2 : Int32) (M : sy_M) : sy_run skX11 qX11_owes [(0, .aload_n 0, 1, []), (1, .iload_n 1, 1, []), (2, .iload_n 2, 1, []), (3, .invokevirtual 190, 3, []), (6, .aload_n 0, 1, []), (7, .getfield 28, 3, []), (10, .iload_n 1, 1, []), (11, .iload_n 2, 1, []), (12, .invokevirtual 194, 3, []), (15, .ireturn, 1, [])] [(177, 1, jcX11_checkTwo), (19, 0, jcX2_owed)] [] 11 [] 0 [.ref 0, .int a1, .int a2] [] M = jfX11_owes a1 a2 M := rfl
theorem jtX11_owes : ∀ (a1 : Int32) (a2 : Int32) (M : sy_M) (r : xe_R × sy_M), jfX11_owes a1 a2 M = some r → sy_E (3) qX11_owes 0 [.ref 0, .int a1, .int a2] [] M r := by
  intro a1 a2 M r h
  exact sy_run_by (d := 2) ((jrX11_owes _ _ M).trans h) hkX11 (by decide +kernel) (sy_cs_cons (jeX11_checkTwo.deep (by decide)) (sy_cs_cons (jeX2_owed.deep (by decide)) sy_cs_nil)) sy_us_nil
def jcX11_owes (as : List Value) (M : sy_M) (K : sy_O → sy_O) : sy_O := sy_xc 0 as fun l => sy_xi l fun a1 l => sy_xi l fun a2 l => sy_xn l (K (jfX11_owes a1 a2 M))
theorem jeX11_owes : sy_snd (3) 96 (jcX11_owes) := by
  intro as M K r h
  obtain ⟨l, e, h1⟩ := sy_xc_ok h; subst e
  obtain ⟨a1, l, e, h2⟩ := sy_xi_ok h1; subst e
  obtain ⟨a2, l, e, h3⟩ := sy_xi_ok h2; subst e
  obtain ⟨e, h4⟩ := sy_xn_ok h3; subst e
  exact ⟨_, h4, fun r1 h0 => ⟨qX11_owes, rfl, rfl, jtX11_owes _ _ M r1 h0⟩⟩
/-! L_owes StairMeterLaw owes (LStairMeter;II[J)I [('R', 0), 'I', 'I', ('R', 132)] -/
def jfL_owes (a1 : Int32) (a2 : Int32) (M : sy_M) : sy_O :=
  sy_hi (jfX11_owes a1 a2 M) (fun v2 M1 =>
    let M5 := sy_wl M1 132 0 (Int32.toInt64 v2)
    sy_ri 0 M5)
  (fun c3 M4 => if c3 = 22 then sy_ri 1 M4 else if c3 = 20 then sy_ri 2 M4 else none)
set_option maxRecDepth 100000 in
theorem jrL_owes (a1 : Int32) (a2 : Int32) (M : sy_M) : sy_run skL qL_owes [(0, .aload_n 3, 1, []), (1, .iconst 0, 1, []), (2, .aload_n 0, 1, []), (3, .iload_n 1, 1, []), (4, .iload_n 2, 1, []), (5, .invokevirtual 28, 3, []), (8, .i2l, 1, []), (9, .lastore, 1, []), (10, .goto 11, 3, []), (13, .astore 4, 2, [false, false, false, false, false]), (15, .iconst 1, 1, []), (16, .ireturn, 1, []), (17, .astore 4, 2, [false, false, false, false, false]), (19, .iconst 2, 1, []), (20, .ireturn, 1, []), (21, .iconst 0, 1, [false, false, false, false, false]), (22, .ireturn, 1, [])] [(96, 3, jcX11_owes)] [] 18 [] 0 [.ref 0, .int a1, .int a2, .ref 132, xe_no] [] M = jfL_owes a1 a2 M := rfl
theorem jtL_owes : ∀ (a1 : Int32) (a2 : Int32) (M : sy_M) (r : xe_R × sy_M), jfL_owes a1 a2 M = some r → sy_E (4) qL_owes 0 [.ref 0, .int a1, .int a2, .ref 132, xe_no] [] M r := by
  intro a1 a2 M r h
  exact sy_run_by (d := 3) ((jrL_owes _ _ M).trans h) hkL (by decide +kernel) (sy_cs_cons (jeX11_owes.deep (by decide)) sy_cs_nil) sy_us_nil
def jcL_owes (as : List Value) (M : sy_M) (K : sy_O → sy_O) : sy_O := sy_xc 0 as fun l => sy_xi l fun a1 l => sy_xi l fun a2 l => sy_xc 132 l fun l => sy_xn l (K (jfL_owes a1 a2 M))
theorem jeL_owes : sy_snd (4) 324 (jcL_owes) := by
  intro as M K r h
  obtain ⟨l, e, h1⟩ := sy_xc_ok h; subst e
  obtain ⟨a1, l, e, h2⟩ := sy_xi_ok h1; subst e
  obtain ⟨a2, l, e, h3⟩ := sy_xi_ok h2; subst e
  obtain ⟨l, e, h4⟩ := sy_xc_ok h3; subst e
  obtain ⟨e, h5⟩ := sy_xn_ok h4; subst e
  exact ⟨_, h5, fun r1 h0 => ⟨qL_owes, rfl, rfl, jtL_owes _ _ M r1 h0⟩⟩
/-! X12_areTwo StairMeterModel areTwo (II)V [('R', 121), 'I', 'I'] -/
def juX12_areTwo_17 (k : sy_M → sy_O) (ls st : List Value) (M : sy_M) : sy_O := sy_xv ls fun _ l => sy_xv l fun _ l => sy_xv l fun _ l => sy_xn l (sy_xc 121 st fun l => sy_xn l (k M))
theorem jwX12_areTwo_17 {d : Nat} {k : sy_M → sy_O} (hk : ∀ (w0 : Value) (w1 : Value) (w2 : Value) (M : sy_M) (r : xe_R × sy_M), k M = some r → sy_E (d) qX12_areTwo 17 [w0, w1, w2] [.ref 121] M r) : ∀ ls st M r, juX12_areTwo_17 k ls st M = some r → sy_E d qX12_areTwo 17 ls st M r := by
  intro ls st M r h
  obtain ⟨w0, l, e, h1⟩ := sy_xv_ok h; subst e
  obtain ⟨w1, l, e, h2⟩ := sy_xv_ok h1; subst e
  obtain ⟨w2, l, e, h3⟩ := sy_xv_ok h2; subst e
  obtain ⟨e, h4⟩ := sy_xn_ok h3; subst e
  obtain ⟨l, e, h5⟩ := sy_xc_ok h4; subst e
  obtain ⟨e, h6⟩ := sy_xn_ok h5; subst e
  exact hk _ _ _ M r h6
def jfX12_areTwo_17 (M : sy_M) : sy_O :=
  let M1 := sy_upd M 121 0 1
  sy_rv M1
set_option maxRecDepth 100000 in
theorem jrX12_areTwo_17 (w0 : Value) (w1 : Value) (w2 : Value) (M : sy_M) : sy_run skX12 qX12_areTwo [(17, .iconst 1, 1, [false, false, false]), (18, .goto 13, 3, []), (31, .putfield 45, 3, [false, false, false]), (34, .return_, 1, [])] [] [] 5 [] 17 [w0, w1, w2] [.ref 121] M = jfX12_areTwo_17 M := rfl
theorem jtX12_areTwo_17 : ∀ (w0 : Value) (w1 : Value) (w2 : Value) (M : sy_M) (r : xe_R × sy_M), jfX12_areTwo_17 M = some r → sy_E (3) qX12_areTwo 17 [w0, w1, w2] [.ref 121] M r := by
  intro w0 w1 w2 M r h
  exact sy_run_by (d := 2) ((jrX12_areTwo_17 _ _ _ M).trans h) hkX12 (by decide +kernel) sy_cs_nil sy_us_nil
def jfX12_areTwo (a1 : Int32) (a2 : Int32) (M : sy_M) : sy_O :=
  sy_bi (jfX12_isLodger a1 M) fun v2 M1 =>
  if v2 = 0 then
    jfX12_areTwo_17 M1
  else
    sy_bi (jfX12_isLodger a2 M1) fun v4 M3 =>
    if v4 = 0 then
      jfX12_areTwo_17 M3
    else
      if a1 = a2 then
        let M6 := sy_upd M3 121 0 2
        sy_rv M6
      else
        let M5 := sy_upd M3 121 0 0
        sy_rv M5
set_option maxRecDepth 100000 in
theorem jrX12_areTwo (a1 : Int32) (a2 : Int32) (M : sy_M) : sy_run skX12 qX12_areTwo [(0, .aload_n 0, 1, []), (1, .aload_n 0, 1, []), (2, .iload_n 1, 1, []), (3, .invokevirtual 284, 3, []), (6, .ifCond .eq 11, 3, []), (9, .aload_n 0, 1, []), (10, .iload_n 2, 1, []), (11, .invokevirtual 284, 3, []), (14, .ifCond .ne 7, 3, []), (21, .iload_n 1, 1, [false, true, true]), (22, .iload_n 2, 1, []), (23, .if_icmp .ne 7, 3, []), (26, .iconst 2, 1, []), (27, .goto 4, 3, []), (30, .iconst 0, 1, [false, false, false]), (31, .putfield 45, 3, [false, false, false]), (34, .return_, 1, [])] [(190, 0, jcX12_isLodger)] [(17, juX12_areTwo_17 (jfX12_areTwo_17))] 18 [] 0 [.ref 121, .int a1, .int a2] [] M = jfX12_areTwo a1 a2 M := rfl
theorem jtX12_areTwo : ∀ (a1 : Int32) (a2 : Int32) (M : sy_M) (r : xe_R × sy_M), jfX12_areTwo a1 a2 M = some r → sy_E (3) qX12_areTwo 0 [.ref 121, .int a1, .int a2] [] M r := by
  intro a1 a2 M r h
  exact sy_run_by (d := 2) ((jrX12_areTwo _ _ M).trans h) hkX12 (by decide +kernel) (sy_cs_cons (jeX12_isLodger.deep (by decide)) sy_cs_nil) (sy_us_cons (jwX12_areTwo_17 (jtX12_areTwo_17)) sy_us_nil)
def jcX12_areTwo (as : List Value) (M : sy_M) (K : sy_O → sy_O) : sy_O := sy_xc 121 as fun l => sy_xi l fun a1 l => sy_xi l fun a2 l => sy_xn l (K (jfX12_areTwo a1 a2 M))
theorem jeX12_areTwo : sy_snd (3) 240 (jcX12_areTwo) := by
  intro as M K r h
  obtain ⟨l, e, h1⟩ := sy_xc_ok h; subst e
  obtain ⟨a1, l, e, h2⟩ := sy_xi_ok h1; subst e
  obtain ⟨a2, l, e, h3⟩ := sy_xi_ok h2; subst e
  obtain ⟨e, h4⟩ := sy_xn_ok h3; subst e
  exact ⟨_, h4, fun r1 h0 => ⟨qX12_areTwo, rfl, rfl, jtX12_areTwo _ _ M r1 h0⟩⟩
/-! X12_owed StairMeterModel owed (II)I [('R', 121), 'I', 'I'] -/
def jfX12_owed (a1 : Int32) (a2 : Int32) (M : sy_M) : sy_O :=
  sy_bx (xe_in ((77 + (7 * a1)) + a2) 826) <|
  sy_ri (M 122 (Int32.toNatClampNeg ((77 + (7 * a1)) + a2))) M
set_option maxRecDepth 100000 in
theorem jrX12_owed (a1 : Int32) (a2 : Int32) (M : sy_M) : sy_run skX12 qX12_owed [(0, .aload_n 0, 1, []), (1, .getfield 7, 3, []), (4, .bipush 77, 2, []), (6, .bipush 7, 2, []), (8, .iload_n 1, 1, []), (9, .imul, 1, []), (10, .iadd, 1, []), (11, .iload_n 2, 1, []), (12, .iadd, 1, []), (13, .iaload, 1, []), (14, .ireturn, 1, [])] [] [] 12 [] 0 [.ref 121, .int a1, .int a2] [] M = jfX12_owed a1 a2 M := rfl
theorem jtX12_owed : ∀ (a1 : Int32) (a2 : Int32) (M : sy_M) (r : xe_R × sy_M), jfX12_owed a1 a2 M = some r → sy_E (1) qX12_owed 0 [.ref 121, .int a1, .int a2] [] M r := by
  intro a1 a2 M r h
  exact sy_run_by (d := 0) ((jrX12_owed _ _ M).trans h) hkX12 (by decide +kernel) sy_cs_nil sy_us_nil
def jcX12_owed (as : List Value) (M : sy_M) (K : sy_O → sy_O) : sy_O := sy_xc 121 as fun l => sy_xi l fun a1 l => sy_xi l fun a2 l => sy_xn l (K (jfX12_owed a1 a2 M))
theorem jeX12_owed : sy_snd (1) 189 (jcX12_owed) := by
  intro as M K r h
  obtain ⟨l, e, h1⟩ := sy_xc_ok h; subst e
  obtain ⟨a1, l, e, h2⟩ := sy_xi_ok h1; subst e
  obtain ⟨a2, l, e, h3⟩ := sy_xi_ok h2; subst e
  obtain ⟨e, h4⟩ := sy_xn_ok h3; subst e
  exact ⟨_, h4, fun r1 h0 => ⟨qX12_owed, rfl, rfl, jtX12_owed _ _ M r1 h0⟩⟩
/-! X12_owes StairMeterModel owes (II)I [('R', 121), 'I', 'I'] -/
def jfX12_owes (a1 : Int32) (a2 : Int32) (M : sy_M) : sy_O :=
  sy_bv (jfX12_areTwo a1 a2 M) fun M1 =>
  if 0 < (M1 121 0) then
    sy_ri 0 M1
  else
    sy_bi (jfX12_owed a1 a2 M1) fun v3 M2 =>
    sy_ri v3 M2
set_option maxRecDepth 100000 in
theorem jrX12_owes (a1 : Int32) (a2 : Int32) (M : sy_M) : sy_run skX12 qX12_owes [(0, .aload_n 0, 1, []), (1, .iload_n 1, 1, []), (2, .iload_n 2, 1, []), (3, .invokevirtual 299, 3, []), (6, .aload_n 0, 1, []), (7, .getfield 45, 3, []), (10, .ifCond .le 7, 3, []), (13, .iconst 0, 1, []), (14, .goto 9, 3, []), (17, .aload_n 0, 1, []), (18, .iload_n 1, 1, []), (19, .iload_n 2, 1, []), (20, .invokevirtual 302, 3, []), (23, .ireturn, 1, [false, false, false])] [(240, 1, jcX12_areTwo), (189, 0, jcX12_owed)] [] 15 [] 0 [.ref 121, .int a1, .int a2] [] M = jfX12_owes a1 a2 M := rfl
theorem jtX12_owes : ∀ (a1 : Int32) (a2 : Int32) (M : sy_M) (r : xe_R × sy_M), jfX12_owes a1 a2 M = some r → sy_E (4) qX12_owes 0 [.ref 121, .int a1, .int a2] [] M r := by
  intro a1 a2 M r h
  exact sy_run_by (d := 3) ((jrX12_owes _ _ M).trans h) hkX12 (by decide +kernel) (sy_cs_cons (jeX12_areTwo.deep (by decide)) (sy_cs_cons (jeX12_owed.deep (by decide)) sy_cs_nil)) sy_us_nil
def jcX12_owes (as : List Value) (M : sy_M) (K : sy_O → sy_O) : sy_O := sy_xc 121 as fun l => sy_xi l fun a1 l => sy_xi l fun a2 l => sy_xn l (K (jfX12_owes a1 a2 M))
theorem jeX12_owes : sy_snd (4) 241 (jcX12_owes) := by
  intro as M K r h
  obtain ⟨l, e, h1⟩ := sy_xc_ok h; subst e
  obtain ⟨a1, l, e, h2⟩ := sy_xi_ok h1; subst e
  obtain ⟨a2, l, e, h3⟩ := sy_xi_ok h2; subst e
  obtain ⟨e, h4⟩ := sy_xn_ok h3; subst e
  exact ⟨_, h4, fun r1 h0 => ⟨qX12_owes, rfl, rfl, jtX12_owes _ _ M r1 h0⟩⟩
/-! X11_checkTick StairMeter checkTick (I)V ['I'] -/
def jfX11_checkTick (a0 : Int32) (M : sy_M) : sy_O :=
  if a0 < 0 then
    sy_bx (xe_in (M 133 0) 100000) <|
    sy_rt 22 (sy_upd M 133 0 (M 133 0 + 1))
  else
    if a0 < 48 then
      sy_rv M
    else
      sy_bx (xe_in (M 133 0) 100000) <|
      sy_rt 22 (sy_upd M 133 0 (M 133 0 + 1))
set_option maxRecDepth 100000 in
theorem jrX11_checkTick (a0 : Int32) (M : sy_M) : sy_run skX11 qX11_checkTick [(0, .iload_n 0, 1, []), (1, .ifCond .lt 9, 3, []), (4, .iload_n 0, 1, []), (5, .bipush 48, 2, []), (7, .if_icmp .lt 11, 3, []), (10, .new 413, 3, [false]), (18, .return_, 1, [false])] [] [] 8 [] 0 [.int a0] [] M = jfX11_checkTick a0 M := rfl
theorem jtX11_checkTick : ∀ (a0 : Int32) (M : sy_M) (r : xe_R × sy_M), jfX11_checkTick a0 M = some r → sy_E (1) qX11_checkTick 0 [.int a0] [] M r := by
  intro a0 M r h
  exact sy_run_by (d := 0) ((jrX11_checkTick _ M).trans h) hkX11 (by decide +kernel) sy_cs_nil sy_us_nil
def jcX11_checkTick (as : List Value) (M : sy_M) (K : sy_O → sy_O) : sy_O := sy_xi as fun a0 l => sy_xn l (K (jfX11_checkTick a0 M))
theorem jeX11_checkTick : sy_snd (1) 178 (jcX11_checkTick) := by
  intro as M K r h
  obtain ⟨a0, l, e, h1⟩ := sy_xi_ok h; subst e
  obtain ⟨e, h2⟩ := sy_xn_ok h1; subst e
  exact ⟨_, h2, fun r1 h0 => ⟨qX11_checkTick, rfl, rfl, jtX11_checkTick _ M r1 h0⟩⟩
/-! X11_isHome StairMeter isHome (II)Z [('R', 0), 'I', 'I'] -/
def jfX11_isHome (a1 : Int32) (a2 : Int32) (M : sy_M) : sy_O :=
  sy_bv (jfX11_checkLodger a1 M) fun M1 =>
  sy_bv (jfX11_checkTick a2 M1) fun M2 =>
  sy_bi (jfX2_isIn 9 a1 a2 M2) fun v4 M3 =>
  sy_bb (sy_bo v4) <| sy_ri v4 M3
set_option maxRecDepth 100000 in
theorem jrX11_isHome (a1 : Int32) (a2 : Int32) (M : sy_M) : sy_run skX11 qX11_isHome [(0, .aload_n 0, 1, []), (1, .iload_n 1, 1, []), (2, .invokevirtual 149, 3, []), (5, .iload_n 2, 1, []), (6, .invokestatic 197, 3, []), (9, .aload_n 0, 1, []), (10, .getfield 28, 3, []), (13, .iload_n 1, 1, []), (14, .iload_n 2, 1, []), (15, .invokevirtual 200, 3, []), (18, .ireturn, 1, [])] [(176, 1, jcX11_checkLodger), (178, 1, jcX11_checkTick), (13, 0, jcX2_isIn)] [] 12 [] 0 [.ref 0, .int a1, .int a2] [] M = jfX11_isHome a1 a2 M := rfl
theorem jtX11_isHome : ∀ (a1 : Int32) (a2 : Int32) (M : sy_M) (r : xe_R × sy_M), jfX11_isHome a1 a2 M = some r → sy_E (3) qX11_isHome 0 [.ref 0, .int a1, .int a2] [] M r := by
  intro a1 a2 M r h
  exact sy_run_by (d := 2) ((jrX11_isHome _ _ M).trans h) hkX11 (by decide +kernel) (sy_cs_cons (jeX11_checkLodger.deep (by decide)) (sy_cs_cons (jeX11_checkTick.deep (by decide)) (sy_cs_cons (jeX2_isIn.deep (by decide)) sy_cs_nil))) sy_us_nil
def jcX11_isHome (as : List Value) (M : sy_M) (K : sy_O → sy_O) : sy_O := sy_xc 0 as fun l => sy_xi l fun a1 l => sy_xi l fun a2 l => sy_xn l (K (jfX11_isHome a1 a2 M))
theorem jeX11_isHome : sy_snd (3) 97 (jcX11_isHome) := by
  intro as M K r h
  obtain ⟨l, e, h1⟩ := sy_xc_ok h; subst e
  obtain ⟨a1, l, e, h2⟩ := sy_xi_ok h1; subst e
  obtain ⟨a2, l, e, h3⟩ := sy_xi_ok h2; subst e
  obtain ⟨e, h4⟩ := sy_xn_ok h3; subst e
  exact ⟨_, h4, fun r1 h0 => ⟨qX11_isHome, rfl, rfl, jtX11_isHome _ _ M r1 h0⟩⟩
/-! L_isHome StairMeterLaw isHome (LStairMeter;II[J)I [('R', 0), 'I', 'I', ('R', 132)] -/
def juL_isHome_16 (k : Int64 → Int32 → sy_M → sy_O) (ls st : List Value) (M : sy_M) : sy_O := sy_xv ls fun _ l => sy_xv l fun _ l => sy_xv l fun _ l => sy_xv l fun _ l => sy_xv l fun _ l => sy_xn l (sy_xl st fun s0 l => sy_xi l fun s1 l => sy_xc 132 l fun l => sy_xn l (k s0 s1 M))
theorem jwL_isHome_16 {d : Nat} {k : Int64 → Int32 → sy_M → sy_O} (hk : ∀ (w0 : Value) (w1 : Value) (w2 : Value) (w3 : Value) (w4 : Value) (s0 : Int64) (s1 : Int32) (M : sy_M) (r : xe_R × sy_M), k s0 s1 M = some r → sy_E (d) qL_isHome 16 [w0, w1, w2, w3, w4] [.long s0, .int s1, .ref 132] M r) : ∀ ls st M r, juL_isHome_16 k ls st M = some r → sy_E d qL_isHome 16 ls st M r := by
  intro ls st M r h
  obtain ⟨w0, l, e, h1⟩ := sy_xv_ok h; subst e
  obtain ⟨w1, l, e, h2⟩ := sy_xv_ok h1; subst e
  obtain ⟨w2, l, e, h3⟩ := sy_xv_ok h2; subst e
  obtain ⟨w3, l, e, h4⟩ := sy_xv_ok h3; subst e
  obtain ⟨w4, l, e, h5⟩ := sy_xv_ok h4; subst e
  obtain ⟨e, h6⟩ := sy_xn_ok h5; subst e
  obtain ⟨s0, l, e, h7⟩ := sy_xl_ok h6; subst e
  obtain ⟨s1, l, e, h8⟩ := sy_xi_ok h7; subst e
  obtain ⟨l, e, h9⟩ := sy_xc_ok h8; subst e
  obtain ⟨e, h10⟩ := sy_xn_ok h9; subst e
  exact hk _ _ _ _ _ s0 s1 M r h10
def jfL_isHome_16 (s0 : Int64) (s1 : Int32) (M : sy_M) : sy_O :=
  sy_bx (xe_in s1 1) <|
  let M1 := sy_wl M 132 (Int32.toNatClampNeg s1) s0
  sy_ri 0 M1
set_option maxRecDepth 100000 in
theorem jrL_isHome_16 (w0 : Value) (w1 : Value) (w2 : Value) (w3 : Value) (w4 : Value) (s0 : Int64) (s1 : Int32) (M : sy_M) : sy_run skL qL_isHome [(16, .lastore, 1, [false, false, false, false, false]), (17, .goto 7, 3, []), (24, .iconst 0, 1, [false, false, false, false, false]), (25, .ireturn, 1, [])] [] [] 5 [] 16 [w0, w1, w2, w3, w4] [.long s0, .int s1, .ref 132] M = jfL_isHome_16 s0 s1 M := rfl
theorem jtL_isHome_16 : ∀ (w0 : Value) (w1 : Value) (w2 : Value) (w3 : Value) (w4 : Value) (s0 : Int64) (s1 : Int32) (M : sy_M) (r : xe_R × sy_M), jfL_isHome_16 s0 s1 M = some r → sy_E (4) qL_isHome 16 [w0, w1, w2, w3, w4] [.long s0, .int s1, .ref 132] M r := by
  intro w0 w1 w2 w3 w4 s0 s1 M r h
  exact sy_run_by (d := 3) ((jrL_isHome_16 _ _ _ _ _ _ _ M).trans h) hkL (by decide +kernel) sy_cs_nil sy_us_nil
def jfL_isHome (a1 : Int32) (a2 : Int32) (M : sy_M) : sy_O :=
  sy_hi (jfX11_isHome a1 a2 M) (fun v2 M1 =>
    if v2 = 0 then
      jfL_isHome_16 (Int64.ofNat 0) 0 M1
    else
      jfL_isHome_16 (Int64.ofNat 1) 0 M1)
  (fun c3 M4 => if c3 = 22 then sy_ri 1 M4 else none)
set_option maxRecDepth 100000 in
theorem jrL_isHome (a1 : Int32) (a2 : Int32) (M : sy_M) : sy_run skL qL_isHome [(0, .aload_n 3, 1, []), (1, .iconst 0, 1, []), (2, .aload_n 0, 1, []), (3, .iload_n 1, 1, []), (4, .iload_n 2, 1, []), (5, .invokevirtual 31, 3, []), (8, .ifCond .eq 7, 3, []), (11, .lconst 1, 1, []), (12, .goto 4, 3, []), (15, .lconst 0, 1, [false, false, false, false, false]), (20, .astore 4, 2, [false, false, false, false, false]), (22, .iconst 1, 1, []), (23, .ireturn, 1, [])] [(97, 3, jcX11_isHome)] [(16, juL_isHome_16 (jfL_isHome_16))] 14 [] 0 [.ref 0, .int a1, .int a2, .ref 132, xe_no] [] M = jfL_isHome a1 a2 M := rfl
theorem jtL_isHome : ∀ (a1 : Int32) (a2 : Int32) (M : sy_M) (r : xe_R × sy_M), jfL_isHome a1 a2 M = some r → sy_E (4) qL_isHome 0 [.ref 0, .int a1, .int a2, .ref 132, xe_no] [] M r := by
  intro a1 a2 M r h
  exact sy_run_by (d := 3) ((jrL_isHome _ _ M).trans h) hkL (by decide +kernel) (sy_cs_cons (jeX11_isHome.deep (by decide)) sy_cs_nil) (sy_us_cons (jwL_isHome_16 (jtL_isHome_16)) sy_us_nil)
def jcL_isHome (as : List Value) (M : sy_M) (K : sy_O → sy_O) : sy_O := sy_xc 0 as fun l => sy_xi l fun a1 l => sy_xi l fun a2 l => sy_xc 132 l fun l => sy_xn l (K (jfL_isHome a1 a2 M))
theorem jeL_isHome : sy_snd (4) 325 (jcL_isHome) := by
  intro as M K r h
  obtain ⟨l, e, h1⟩ := sy_xc_ok h; subst e
  obtain ⟨a1, l, e, h2⟩ := sy_xi_ok h1; subst e
  obtain ⟨a2, l, e, h3⟩ := sy_xi_ok h2; subst e
  obtain ⟨l, e, h4⟩ := sy_xc_ok h3; subst e
  obtain ⟨e, h5⟩ := sy_xn_ok h4; subst e
  exact ⟨_, h5, fun r1 h0 => ⟨qL_isHome, rfl, rfl, jtL_isHome _ _ M r1 h0⟩⟩
/-! X12_isTick StairMeterModel isTick (I)Z ['I'] -/
def jfX12_isTick (a0 : Int32) (M : sy_M) : sy_O :=
  sy_bi (jfX12_isIn a0 0 47 M) fun v2 M1 =>
  sy_bb (sy_bo v2) <| sy_ri v2 M1
set_option maxRecDepth 100000 in
theorem jrX12_isTick (a0 : Int32) (M : sy_M) : sy_run skX12 qX12_isTick [(0, .iload_n 0, 1, []), (1, .iconst 0, 1, []), (2, .bipush 47, 2, []), (4, .invokestatic 48, 3, []), (7, .ireturn, 1, [])] [(182, 0, jcX12_isIn)] [] 6 [] 0 [.int a0] [] M = jfX12_isTick a0 M := rfl
theorem jtX12_isTick : ∀ (a0 : Int32) (M : sy_M) (r : xe_R × sy_M), jfX12_isTick a0 M = some r → sy_E (2) qX12_isTick 0 [.int a0] [] M r := by
  intro a0 M r h
  exact sy_run_by (d := 1) ((jrX12_isTick _ M).trans h) hkX12 (by decide +kernel) (sy_cs_cons (jeX12_isIn.deep (by decide)) sy_cs_nil) sy_us_nil
def jcX12_isTick (as : List Value) (M : sy_M) (K : sy_O → sy_O) : sy_O := sy_xi as fun a0 l => sy_xn l (K (jfX12_isTick a0 M))
theorem jeX12_isTick : sy_snd (2) 191 (jcX12_isTick) := by
  intro as M K r h
  obtain ⟨a0, l, e, h1⟩ := sy_xi_ok h; subst e
  obtain ⟨e, h2⟩ := sy_xn_ok h1; subst e
  exact ⟨_, h2, fun r1 h0 => ⟨qX12_isTick, rfl, rfl, jtX12_isTick _ M r1 h0⟩⟩
/-! X12_isHome StairMeterModel isHome (II)Z [('R', 121), 'I', 'I'] -/
def juX12_isHome_21 (k : Int32 → Int32 → Int32 → sy_M → sy_O) (ls st : List Value) (M : sy_M) : sy_O := sy_xc 121 ls fun l => sy_xi l fun a1 l => sy_xi l fun a2 l => sy_xn l (sy_xi st fun s0 l => sy_xc 121 l fun l => sy_xn l (k a1 a2 s0 M))
theorem jwX12_isHome_21 {d : Nat} {k : Int32 → Int32 → Int32 → sy_M → sy_O} (hk : ∀ (a1 : Int32) (a2 : Int32) (s0 : Int32) (M : sy_M) (r : xe_R × sy_M), k a1 a2 s0 M = some r → sy_E (d) qX12_isHome 21 [.ref 121, .int a1, .int a2] [.int s0, .ref 121] M r) : ∀ ls st M r, juX12_isHome_21 k ls st M = some r → sy_E d qX12_isHome 21 ls st M r := by
  intro ls st M r h
  obtain ⟨l, e, h1⟩ := sy_xc_ok h; subst e
  obtain ⟨a1, l, e, h2⟩ := sy_xi_ok h1; subst e
  obtain ⟨a2, l, e, h3⟩ := sy_xi_ok h2; subst e
  obtain ⟨e, h4⟩ := sy_xn_ok h3; subst e
  obtain ⟨s0, l, e, h5⟩ := sy_xi_ok h4; subst e
  obtain ⟨l, e, h6⟩ := sy_xc_ok h5; subst e
  obtain ⟨e, h7⟩ := sy_xn_ok h6; subst e
  exact hk a1 a2 s0 M r h7
def juX12_isHome_16 (k : Int32 → Int32 → sy_M → sy_O) (ls st : List Value) (M : sy_M) : sy_O := sy_xc 121 ls fun l => sy_xi l fun a1 l => sy_xi l fun a2 l => sy_xn l (sy_xc 121 st fun l => sy_xn l (k a1 a2 M))
theorem jwX12_isHome_16 {d : Nat} {k : Int32 → Int32 → sy_M → sy_O} (hk : ∀ (a1 : Int32) (a2 : Int32) (M : sy_M) (r : xe_R × sy_M), k a1 a2 M = some r → sy_E (d) qX12_isHome 16 [.ref 121, .int a1, .int a2] [.ref 121] M r) : ∀ ls st M r, juX12_isHome_16 k ls st M = some r → sy_E d qX12_isHome 16 ls st M r := by
  intro ls st M r h
  obtain ⟨l, e, h1⟩ := sy_xc_ok h; subst e
  obtain ⟨a1, l, e, h2⟩ := sy_xi_ok h1; subst e
  obtain ⟨a2, l, e, h3⟩ := sy_xi_ok h2; subst e
  obtain ⟨e, h4⟩ := sy_xn_ok h3; subst e
  obtain ⟨l, e, h5⟩ := sy_xc_ok h4; subst e
  obtain ⟨e, h6⟩ := sy_xn_ok h5; subst e
  exact hk a1 a2 M r h6
def jfX12_isHome_21 (a1 : Int32) (a2 : Int32) (s0 : Int32) (M : sy_M) : sy_O :=
  let M1 := sy_upd M 121 0 s0
  if (M1 121 0) = 0 then
    sy_bi (jfX12_atHome a1 a2 M1) fun v3 M2 =>
    if v3 = 0 then
      sy_ri 0 M2
    else
      sy_ri 1 M2
  else
    sy_ri 0 M1
set_option maxRecDepth 100000 in
theorem jrX12_isHome_21 (a1 : Int32) (a2 : Int32) (s0 : Int32) (M : sy_M) : sy_run skX12 qX12_isHome [(21, .putfield 45, 3, []), (24, .aload_n 0, 1, []), (25, .getfield 45, 3, []), (28, .ifCond .ne 16, 3, []), (31, .aload_n 0, 1, []), (32, .iload_n 1, 1, []), (33, .iload_n 2, 1, []), (34, .invokevirtual 56, 3, []), (37, .ifCond .eq 7, 3, []), (40, .iconst 1, 1, []), (41, .goto 4, 3, []), (44, .iconst 0, 1, [false, false, false]), (45, .ireturn, 1, [false, false, false])] [(192, 0, jcX12_atHome)] [] 14 [] 21 [.ref 121, .int a1, .int a2] [.int s0, .ref 121] M = jfX12_isHome_21 a1 a2 s0 M := rfl
theorem jtX12_isHome_21 : ∀ (a1 : Int32) (a2 : Int32) (s0 : Int32) (M : sy_M) (r : xe_R × sy_M), jfX12_isHome_21 a1 a2 s0 M = some r → sy_E (3) qX12_isHome 21 [.ref 121, .int a1, .int a2] [.int s0, .ref 121] M r := by
  intro a1 a2 s0 M r h
  exact sy_run_by (d := 2) ((jrX12_isHome_21 _ _ _ M).trans h) hkX12 (by decide +kernel) (sy_cs_cons (jeX12_atHome.deep (by decide)) sy_cs_nil) sy_us_nil
def jfX12_isHome_16 (a1 : Int32) (a2 : Int32) (M : sy_M) : sy_O :=
  jfX12_isHome_21 a1 a2 1 M
set_option maxRecDepth 100000 in
theorem jrX12_isHome_16 (a1 : Int32) (a2 : Int32) (M : sy_M) : sy_run skX12 qX12_isHome [(16, .iconst 1, 1, []), (17, .goto 4, 3, [])] [] [(21, juX12_isHome_21 (jfX12_isHome_21))] 3 [] 16 [.ref 121, .int a1, .int a2] [.ref 121] M = jfX12_isHome_16 a1 a2 M := rfl
theorem jtX12_isHome_16 : ∀ (a1 : Int32) (a2 : Int32) (M : sy_M) (r : xe_R × sy_M), jfX12_isHome_16 a1 a2 M = some r → sy_E (3) qX12_isHome 16 [.ref 121, .int a1, .int a2] [.ref 121] M r := by
  intro a1 a2 M r h
  exact sy_run_by (d := 2) ((jrX12_isHome_16 _ _ M).trans h) hkX12 (by decide +kernel) sy_cs_nil (sy_us_cons (jwX12_isHome_21 (jtX12_isHome_21)) sy_us_nil)
def jfX12_isHome (a1 : Int32) (a2 : Int32) (M : sy_M) : sy_O :=
  sy_bi (jfX12_isLodger a1 M) fun v2 M1 =>
  if v2 = 0 then
    jfX12_isHome_16 a1 a2 M1
  else
    sy_bi (jfX12_isTick a2 M1) fun v4 M3 =>
    if v4 = 0 then
      jfX12_isHome_16 a1 a2 M3
    else
      jfX12_isHome_21 a1 a2 0 M3
set_option maxRecDepth 100000 in
theorem jrX12_isHome (a1 : Int32) (a2 : Int32) (M : sy_M) : sy_run skX12 qX12_isHome [(0, .aload_n 0, 1, []), (1, .aload_n 0, 1, []), (2, .iload_n 1, 1, []), (3, .invokevirtual 284, 3, []), (6, .ifCond .eq 10, 3, []), (9, .iload_n 2, 1, []), (10, .invokestatic 305, 3, []), (13, .ifCond .ne 7, 3, []), (20, .iconst 0, 1, [])] [(190, 0, jcX12_isLodger), (191, 0, jcX12_isTick)] [(16, juX12_isHome_16 (jfX12_isHome_16)), (21, juX12_isHome_21 (jfX12_isHome_21))] 10 [] 0 [.ref 121, .int a1, .int a2] [] M = jfX12_isHome a1 a2 M := rfl
theorem jtX12_isHome : ∀ (a1 : Int32) (a2 : Int32) (M : sy_M) (r : xe_R × sy_M), jfX12_isHome a1 a2 M = some r → sy_E (3) qX12_isHome 0 [.ref 121, .int a1, .int a2] [] M r := by
  intro a1 a2 M r h
  exact sy_run_by (d := 2) ((jrX12_isHome _ _ M).trans h) hkX12 (by decide +kernel) (sy_cs_cons (jeX12_isLodger.deep (by decide)) (sy_cs_cons (jeX12_isTick.deep (by decide)) sy_cs_nil)) (sy_us_cons (jwX12_isHome_16 (jtX12_isHome_16)) (sy_us_cons (jwX12_isHome_21 (jtX12_isHome_21)) sy_us_nil))
def jcX12_isHome (as : List Value) (M : sy_M) (K : sy_O → sy_O) : sy_O := sy_xc 121 as fun l => sy_xi l fun a1 l => sy_xi l fun a2 l => sy_xn l (K (jfX12_isHome a1 a2 M))
theorem jeX12_isHome : sy_snd (3) 242 (jcX12_isHome) := by
  intro as M K r h
  obtain ⟨l, e, h1⟩ := sy_xc_ok h; subst e
  obtain ⟨a1, l, e, h2⟩ := sy_xi_ok h1; subst e
  obtain ⟨a2, l, e, h3⟩ := sy_xi_ok h2; subst e
  obtain ⟨e, h4⟩ := sy_xn_ok h3; subst e
  exact ⟨_, h4, fun r1 h0 => ⟨qX12_isHome, rfl, rfl, jtX12_isHome _ _ M r1 h0⟩⟩
/-! X11_needs StairMeter needs (I)I [('R', 0), 'I'] -/
def jfX11_needs (a1 : Int32) (M : sy_M) : sy_O :=
  sy_bv (jfX11_checkTick a1 M) fun M1 =>
  sy_bv (jfX8_learn 9 M1) fun M2 =>
  sy_bi (jfX8_needsAt a1 M2) fun v4 M3 =>
  sy_ri v4 M3
set_option maxRecDepth 100000 in
theorem jrX11_needs (a1 : Int32) (M : sy_M) : sy_run skX11 qX11_needs [(0, .iload_n 1, 1, []), (1, .invokestatic 197, 3, []), (4, .aload_n 0, 1, []), (5, .getfield 75, 3, []), (8, .aload_n 0, 1, []), (9, .getfield 28, 3, []), (12, .invokevirtual 181, 3, []), (15, .aload_n 0, 1, []), (16, .getfield 75, 3, []), (19, .iload_n 1, 1, []), (20, .invokevirtual 204, 3, []), (23, .ireturn, 1, [])] [(178, 1, jcX11_checkTick), (63, 1, jcX8_learn), (65, 0, jcX8_needsAt)] [] 13 [] 0 [.ref 0, .int a1] [] M = jfX11_needs a1 M := rfl
theorem jtX11_needs : ∀ (a1 : Int32) (M : sy_M) (r : xe_R × sy_M), jfX11_needs a1 M = some r → sy_E (4) qX11_needs 0 [.ref 0, .int a1] [] M r := by
  intro a1 M r h
  exact sy_run_by (d := 3) ((jrX11_needs _ M).trans h) hkX11 (by decide +kernel) (sy_cs_cons (jeX11_checkTick.deep (by decide)) (sy_cs_cons (jeX8_learn.deep (by decide)) (sy_cs_cons (jeX8_needsAt.deep (by decide)) sy_cs_nil))) sy_us_nil
def jcX11_needs (as : List Value) (M : sy_M) (K : sy_O → sy_O) : sy_O := sy_xc 0 as fun l => sy_xi l fun a1 l => sy_xn l (K (jfX11_needs a1 M))
theorem jeX11_needs : sy_snd (4) 98 (jcX11_needs) := by
  intro as M K r h
  obtain ⟨l, e, h1⟩ := sy_xc_ok h; subst e
  obtain ⟨a1, l, e, h2⟩ := sy_xi_ok h1; subst e
  obtain ⟨e, h3⟩ := sy_xn_ok h2; subst e
  exact ⟨_, h3, fun r1 h0 => ⟨qX11_needs, rfl, rfl, jtX11_needs _ M r1 h0⟩⟩
/-! L_needs StairMeterLaw needs (LStairMeter;I[J)I [('R', 0), 'I', ('R', 132)] -/
def jfL_needs (a1 : Int32) (M : sy_M) : sy_O :=
  sy_hi (jfX11_needs a1 M) (fun v2 M1 =>
    let M5 := sy_wl M1 132 0 (Int32.toInt64 v2)
    sy_ri 0 M5)
  (fun c3 M4 => if c3 = 22 then sy_ri 1 M4 else none)
set_option maxRecDepth 100000 in
theorem jrL_needs (a1 : Int32) (M : sy_M) : sy_run skL qL_needs [(0, .aload_n 2, 1, []), (1, .iconst 0, 1, []), (2, .aload_n 0, 1, []), (3, .iload_n 1, 1, []), (4, .invokevirtual 35, 3, []), (7, .i2l, 1, []), (8, .lastore, 1, []), (9, .goto 6, 3, []), (12, .astore_n 3, 1, [false, false, false, false]), (13, .iconst 1, 1, []), (14, .ireturn, 1, []), (15, .iconst 0, 1, [false, false, false, false]), (16, .ireturn, 1, [])] [(98, 3, jcX11_needs)] [] 14 [] 0 [.ref 0, .int a1, .ref 132, xe_no] [] M = jfL_needs a1 M := rfl
theorem jtL_needs : ∀ (a1 : Int32) (M : sy_M) (r : xe_R × sy_M), jfL_needs a1 M = some r → sy_E (5) qL_needs 0 [.ref 0, .int a1, .ref 132, xe_no] [] M r := by
  intro a1 M r h
  exact sy_run_by (d := 4) ((jrL_needs _ M).trans h) hkL (by decide +kernel) (sy_cs_cons (jeX11_needs.deep (by decide)) sy_cs_nil) sy_us_nil
def jcL_needs (as : List Value) (M : sy_M) (K : sy_O → sy_O) : sy_O := sy_xc 0 as fun l => sy_xi l fun a1 l => sy_xc 132 l fun l => sy_xn l (K (jfL_needs a1 M))
theorem jeL_needs : sy_snd (5) 326 (jcL_needs) := by
  intro as M K r h
  obtain ⟨l, e, h1⟩ := sy_xc_ok h; subst e
  obtain ⟨a1, l, e, h2⟩ := sy_xi_ok h1; subst e
  obtain ⟨l, e, h3⟩ := sy_xc_ok h2; subst e
  obtain ⟨e, h4⟩ := sy_xn_ok h3; subst e
  exact ⟨_, h4, fun r1 h0 => ⟨qL_needs, rfl, rfl, jtL_needs _ M r1 h0⟩⟩
/-! X12_needsIn StairMeterModel needsIn (I)I [('R', 121), 'I'] -/
def jfX12_needsIn (a1 : Int32) (M : sy_M) : sy_O :=
  sy_bi (jfX12_homeIn a1 M) fun v2 M1 =>
  sy_bi (jfX12_burnsOf v2 M1) fun v4 M3 =>
  sy_ri v4 M3
set_option maxRecDepth 100000 in
theorem jrX12_needsIn (a1 : Int32) (M : sy_M) : sy_run skX12 qX12_needsIn [(0, .aload_n 0, 1, []), (1, .aload_n 0, 1, []), (2, .iload_n 1, 1, []), (3, .invokevirtual 63, 3, []), (6, .invokevirtual 67, 3, []), (9, .ireturn, 1, [])] [(193, 0, jcX12_homeIn), (194, 0, jcX12_burnsOf)] [] 7 [] 0 [.ref 121, .int a1] [] M = jfX12_needsIn a1 M := rfl
theorem jtX12_needsIn : ∀ (a1 : Int32) (M : sy_M) (r : xe_R × sy_M), jfX12_needsIn a1 M = some r → sy_E (4) qX12_needsIn 0 [.ref 121, .int a1] [] M r := by
  intro a1 M r h
  exact sy_run_by (d := 3) ((jrX12_needsIn _ M).trans h) hkX12 (by decide +kernel) (sy_cs_cons (jeX12_homeIn.deep (by decide)) (sy_cs_cons (jeX12_burnsOf.deep (by decide)) sy_cs_nil)) sy_us_nil
def jcX12_needsIn (as : List Value) (M : sy_M) (K : sy_O → sy_O) : sy_O := sy_xc 121 as fun l => sy_xi l fun a1 l => sy_xn l (K (jfX12_needsIn a1 M))
theorem jeX12_needsIn : sy_snd (4) 195 (jcX12_needsIn) := by
  intro as M K r h
  obtain ⟨l, e, h1⟩ := sy_xc_ok h; subst e
  obtain ⟨a1, l, e, h2⟩ := sy_xi_ok h1; subst e
  obtain ⟨e, h3⟩ := sy_xn_ok h2; subst e
  exact ⟨_, h3, fun r1 h0 => ⟨qX12_needsIn, rfl, rfl, jtX12_needsIn _ M r1 h0⟩⟩
/-! X12_needs StairMeterModel needs (I)I [('R', 121), 'I'] -/
def juX12_needs_13 (k : Int32 → Int32 → sy_M → sy_O) (ls st : List Value) (M : sy_M) : sy_O := sy_xc 121 ls fun l => sy_xi l fun a1 l => sy_xn l (sy_xi st fun s0 l => sy_xc 121 l fun l => sy_xn l (k a1 s0 M))
theorem jwX12_needs_13 {d : Nat} {k : Int32 → Int32 → sy_M → sy_O} (hk : ∀ (a1 : Int32) (s0 : Int32) (M : sy_M) (r : xe_R × sy_M), k a1 s0 M = some r → sy_E (d) qX12_needs 13 [.ref 121, .int a1] [.int s0, .ref 121] M r) : ∀ ls st M r, juX12_needs_13 k ls st M = some r → sy_E d qX12_needs 13 ls st M r := by
  intro ls st M r h
  obtain ⟨l, e, h1⟩ := sy_xc_ok h; subst e
  obtain ⟨a1, l, e, h2⟩ := sy_xi_ok h1; subst e
  obtain ⟨e, h3⟩ := sy_xn_ok h2; subst e
  obtain ⟨s0, l, e, h4⟩ := sy_xi_ok h3; subst e
  obtain ⟨l, e, h5⟩ := sy_xc_ok h4; subst e
  obtain ⟨e, h6⟩ := sy_xn_ok h5; subst e
  exact hk a1 s0 M r h6
def jfX12_needs_13 (a1 : Int32) (s0 : Int32) (M : sy_M) : sy_O :=
  let M1 := sy_upd M 121 0 s0
  if 0 < (M1 121 0) then
    sy_ri 0 M1
  else
    sy_bi (jfX12_needsIn a1 M1) fun v3 M2 =>
    sy_ri v3 M2
set_option maxRecDepth 100000 in
theorem jrX12_needs_13 (a1 : Int32) (s0 : Int32) (M : sy_M) : sy_run skX12 qX12_needs [(13, .putfield 45, 3, []), (16, .aload_n 0, 1, []), (17, .getfield 45, 3, []), (20, .ifCond .le 7, 3, []), (23, .iconst 0, 1, []), (24, .goto 8, 3, []), (27, .aload_n 0, 1, []), (28, .iload_n 1, 1, []), (29, .invokevirtual 308, 3, []), (32, .ireturn, 1, [false, false])] [(195, 0, jcX12_needsIn)] [] 11 [] 13 [.ref 121, .int a1] [.int s0, .ref 121] M = jfX12_needs_13 a1 s0 M := rfl
theorem jtX12_needs_13 : ∀ (a1 : Int32) (s0 : Int32) (M : sy_M) (r : xe_R × sy_M), jfX12_needs_13 a1 s0 M = some r → sy_E (5) qX12_needs 13 [.ref 121, .int a1] [.int s0, .ref 121] M r := by
  intro a1 s0 M r h
  exact sy_run_by (d := 4) ((jrX12_needs_13 _ _ M).trans h) hkX12 (by decide +kernel) (sy_cs_cons (jeX12_needsIn.deep (by decide)) sy_cs_nil) sy_us_nil
def jfX12_needs (a1 : Int32) (M : sy_M) : sy_O :=
  sy_bi (jfX12_isTick a1 M) fun v2 M1 =>
  if v2 = 0 then
    jfX12_needs_13 a1 1 M1
  else
    jfX12_needs_13 a1 0 M1
set_option maxRecDepth 100000 in
theorem jrX12_needs (a1 : Int32) (M : sy_M) : sy_run skX12 qX12_needs [(0, .aload_n 0, 1, []), (1, .iload_n 1, 1, []), (2, .invokestatic 305, 3, []), (5, .ifCond .ne 7, 3, []), (8, .iconst 1, 1, []), (9, .goto 4, 3, []), (12, .iconst 0, 1, [])] [(191, 0, jcX12_isTick)] [(13, juX12_needs_13 (jfX12_needs_13))] 8 [] 0 [.ref 121, .int a1] [] M = jfX12_needs a1 M := rfl
theorem jtX12_needs : ∀ (a1 : Int32) (M : sy_M) (r : xe_R × sy_M), jfX12_needs a1 M = some r → sy_E (5) qX12_needs 0 [.ref 121, .int a1] [] M r := by
  intro a1 M r h
  exact sy_run_by (d := 4) ((jrX12_needs _ M).trans h) hkX12 (by decide +kernel) (sy_cs_cons (jeX12_isTick.deep (by decide)) sy_cs_nil) (sy_us_cons (jwX12_needs_13 (jtX12_needs_13)) sy_us_nil)
def jcX12_needs (as : List Value) (M : sy_M) (K : sy_O → sy_O) : sy_O := sy_xc 121 as fun l => sy_xi l fun a1 l => sy_xn l (K (jfX12_needs a1 M))
theorem jeX12_needs : sy_snd (5) 243 (jcX12_needs) := by
  intro as M K r h
  obtain ⟨l, e, h1⟩ := sy_xc_ok h; subst e
  obtain ⟨a1, l, e, h2⟩ := sy_xi_ok h1; subst e
  obtain ⟨e, h3⟩ := sy_xn_ok h2; subst e
  exact ⟨_, h3, fun r1 h0 => ⟨qX12_needs, rfl, rfl, jtX12_needs _ M r1 h0⟩⟩
/-! X11_checkRange StairMeter checkRange (III)V ['I', 'I', 'I'] -/
def jfX11_checkRange (a0 : Int32) (a1 : Int32) (a2 : Int32) (M : sy_M) : sy_O :=
  if a0 < a1 then
    sy_bx (xe_in (M 133 0) 100000) <|
    sy_rt 20 (sy_upd M 133 0 (M 133 0 + 1))
  else
    if a2 < a0 then
      sy_bx (xe_in (M 133 0) 100000) <|
      sy_rt 20 (sy_upd M 133 0 (M 133 0 + 1))
    else
      sy_rv M
set_option maxRecDepth 100000 in
theorem jrX11_checkRange (a0 : Int32) (a1 : Int32) (a2 : Int32) (M : sy_M) : sy_run skX11 qX11_checkRange [(0, .iload_n 0, 1, []), (1, .iload_n 1, 1, []), (2, .if_icmp .lt 8, 3, []), (5, .iload_n 0, 1, []), (6, .iload_n 2, 1, []), (7, .if_icmp .le 11, 3, []), (10, .new 127, 3, [false, false, false]), (18, .return_, 1, [false, false, false])] [] [] 9 [] 0 [.int a0, .int a1, .int a2] [] M = jfX11_checkRange a0 a1 a2 M := rfl
theorem jtX11_checkRange : ∀ (a0 : Int32) (a1 : Int32) (a2 : Int32) (M : sy_M) (r : xe_R × sy_M), jfX11_checkRange a0 a1 a2 M = some r → sy_E (1) qX11_checkRange 0 [.int a0, .int a1, .int a2] [] M r := by
  intro a0 a1 a2 M r h
  exact sy_run_by (d := 0) ((jrX11_checkRange _ _ _ M).trans h) hkX11 (by decide +kernel) sy_cs_nil sy_us_nil
def jcX11_checkRange (as : List Value) (M : sy_M) (K : sy_O → sy_O) : sy_O := sy_xi as fun a0 l => sy_xi l fun a1 l => sy_xi l fun a2 l => sy_xn l (K (jfX11_checkRange a0 a1 a2 M))
theorem jeX11_checkRange : sy_snd (1) 179 (jcX11_checkRange) := by
  intro as M K r h
  obtain ⟨a0, l, e, h1⟩ := sy_xi_ok h; subst e
  obtain ⟨a1, l, e, h2⟩ := sy_xi_ok h1; subst e
  obtain ⟨a2, l, e, h3⟩ := sy_xi_ok h2; subst e
  obtain ⟨e, h4⟩ := sy_xn_ok h3; subst e
  exact ⟨_, h4, fun r1 h0 => ⟨qX11_checkRange, rfl, rfl, jtX11_checkRange _ _ _ M r1 h0⟩⟩
/-! X0_slot StairMeter$Acts slot (I)LStairMeter$House; [('R', 57), 'I'] -/
def jfX0_slot (a1 : Int32) (M : sy_M) : sy_O :=
  if a1 < 0 then
    sy_rn M
  else
    if a1 < 12 then
      sy_bx (xe_in a1 12) <|
      sy_rr (59 + 5 * (Int32.toNatClampNeg a1)) M
    else
      sy_rn M
set_option maxRecDepth 100000 in
theorem jrX0_slot (a1 : Int32) (M : sy_M) : sy_run skX0 qX0_slot [(0, .iload_n 1, 1, []), (1, .ifCond .lt 18, 3, []), (4, .iload_n 1, 1, []), (5, .bipush 12, 2, []), (7, .if_icmp .ge 12, 3, []), (10, .aload_n 0, 1, []), (11, .getfield 11, 3, []), (14, .iload_n 1, 1, []), (15, .aaload, 1, []), (16, .goto 4, 3, []), (19, .aconst_null, 1, [false, false]), (20, .areturn, 1, [false, false])] [] [] 13 [] 0 [.ref 57, .int a1] [] M = jfX0_slot a1 M := rfl
theorem jtX0_slot : ∀ (a1 : Int32) (M : sy_M) (r : xe_R × sy_M), jfX0_slot a1 M = some r → sy_E (1) qX0_slot 0 [.ref 57, .int a1] [] M r := by
  intro a1 M r h
  exact sy_run_by (d := 0) ((jrX0_slot _ M).trans h) hkX0 (by decide +kernel) sy_cs_nil sy_us_nil
def jcX0_slot (as : List Value) (M : sy_M) (K : sy_O → sy_O) : sy_O := sy_xc 57 as fun l => sy_xi l fun a1 l => sy_xn l (K (jfX0_slot a1 M))
theorem jeX0_slot : sy_snd (1) 1 (jcX0_slot) := by
  intro as M K r h
  obtain ⟨l, e, h1⟩ := sy_xc_ok h; subst e
  obtain ⟨a1, l, e, h2⟩ := sy_xi_ok h1; subst e
  obtain ⟨e, h3⟩ := sy_xn_ok h2; subst e
  exact ⟨_, h3, fun r1 h0 => ⟨qX0_slot, rfl, rfl, jtX0_slot _ M r1 h0⟩⟩
end
