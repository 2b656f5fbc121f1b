/-! ===== functions of the methods (1); written by wip/whole/run_f.py ===== -/
noncomputable section
/-! X10_append StairMeter$Tape append (I)V [('R', 1), 'I'] -/
def juX10_append_50 (k : Int32 → Int32 → sy_M → sy_O) (ls st : List Value) (M : sy_M) : sy_O := sy_xc 1 ls fun l => sy_xi l fun a1 l => sy_xi l fun a2 l => sy_xn l (sy_xn st (k a1 a2 M))
theorem jwX10_append_50 {d : Nat} {k : Int32 → Int32 → sy_M → sy_O} (hk : ∀ (a1 : Int32) (a2 : Int32) (M : sy_M) (r : xe_R × sy_M), k a1 a2 M = some r → sy_E (d) qX10_append 50 [.ref 1, .int a1, .int a2] [] M r) : ∀ ls st M r, juX10_append_50 k ls st M = some r → sy_E d qX10_append 50 ls st M r := by
  intro ls st M r h
  obtain ⟨l, e, h1⟩ := sy_xc_ok h; subst e
  obtain ⟨a1, l, e, h2⟩ := sy_xi_ok h1; subst e
  obtain ⟨a2, l, e, h3⟩ := sy_xi_ok h2; subst e
  obtain ⟨e, h4⟩ := sy_xn_ok h3; subst e
  obtain ⟨e, h5⟩ := sy_xn_ok h4; subst e
  exact hk a1 a2 M r h5
def juX10_append_3 (k : Int32 → Int32 → sy_M → sy_O) (ls st : List Value) (M : sy_M) : sy_O := sy_xc 1 ls fun l => sy_xi l fun a1 l => sy_xi l fun a2 l => sy_xn l (sy_xn st (k a1 a2 M))
theorem jwX10_append_3 {d : Nat} {k : Int32 → Int32 → sy_M → sy_O} (hk : ∀ (a1 : Int32) (a2 : Int32) (M : sy_M) (r : xe_R × sy_M), k a1 a2 M = some r → sy_E (d) qX10_append 3 [.ref 1, .int a1, .int a2] [] M r) : ∀ ls st M r, juX10_append_3 k ls st M = some r → sy_E d qX10_append 3 ls st M r := by
  intro ls st M r h
  obtain ⟨l, e, h1⟩ := sy_xc_ok h; subst e
  obtain ⟨a1, l, e, h2⟩ := sy_xi_ok h1; subst e
  obtain ⟨a2, l, e, h3⟩ := sy_xi_ok h2; subst e
  obtain ⟨e, h4⟩ := sy_xn_ok h3; subst e
  obtain ⟨e, h5⟩ := sy_xn_ok h4; subst e
  exact hk a1 a2 M r h5
def jfX10_append_50 (k3 : Int32 → Int32 → sy_M → sy_O) (a1 : Int32) (a2 : Int32) (M : sy_M) : sy_O :=
  let v1 := a2 + (-8)
  k3 a1 v1 M
set_option maxRecDepth 100000 in
theorem jrX10_append_50 (k3 : Int32 → Int32 → sy_M → sy_O) (a1 : Int32) (a2 : Int32) (M : sy_M) : sy_run skX10 qX10_append [(50, .iinc 2 (-8), 3, []), (53, .goto (-50), 3, [])] [] [(3, juX10_append_3 k3)] 3 [] 50 [.ref 1, .int a1, .int a2] [] M = jfX10_append_50 k3 a1 a2 M := rfl
theorem jtX10_append_50 {k3 : Int32 → Int32 → sy_M → sy_O} (hk3 : ∀ (a1 : Int32) (a2 : Int32) (M : sy_M) (r : xe_R × sy_M), k3 a1 a2 M = some r → sy_E (1) qX10_append 3 [.ref 1, .int a1, .int a2] [] M r) : ∀ (a1 : Int32) (a2 : Int32) (M : sy_M) (r : xe_R × sy_M), jfX10_append_50 k3 a1 a2 M = some r → sy_E (1) qX10_append 50 [.ref 1, .int a1, .int a2] [] M r := by
  intro a1 a2 M r h
  exact sy_run_by (d := 0) ((jrX10_append_50 _ _ _ M).trans h) hkX10 (by decide +kernel) sy_cs_nil (sy_us_cons (jwX10_append_3 hk3) sy_us_nil)
def jgX10_append_3 (k3 : Int32 → Int32 → sy_M → sy_O) (a1 : Int32) (a2 : Int32) (M : sy_M) : sy_O :=
  if a2 < 0 then
    sy_rv M
  else
    if (M 1 4) < 0 then
      jfX10_append_50 k3 a1 a2 M
    else
      if (M 1 4) < 400 then
        sy_bx (xe_in (M 1 4) 400) <|
        let M1 := sy_upd M 2 (Int32.toNatClampNeg (M 1 4)) (((Int32.toUInt32 a1 >>> (Int32.toUInt32 a2 &&& Int32.toUInt32 31)).toInt32) &&& 255)
        let M2 := sy_upd M1 1 4 ((M1 1 4) + 1)
        jfX10_append_50 k3 a1 a2 M2
      else
        jfX10_append_50 k3 a1 a2 M
def jfX10_append_3 : Nat → Int32 → Int32 → sy_M → sy_O
  | 0, _, _, _ => none
  | n + 1, a1, a2, M => jgX10_append_3 (jfX10_append_3 n) a1 a2 M
set_option maxRecDepth 100000 in
theorem jrX10_append_3 (k3 : Int32 → Int32 → sy_M → sy_O) (a1 : Int32) (a2 : Int32) (M : sy_M) : sy_run skX10 qX10_append [(3, .iload_n 2, 1, []), (4, .ifCond .lt 52, 3, []), (7, .aload_n 0, 1, []), (8, .getfield 24, 3, []), (11, .ifCond .lt 39, 3, []), (14, .aload_n 0, 1, []), (15, .getfield 24, 3, []), (18, .sipush 400, 3, []), (21, .if_icmp .ge 29, 3, []), (24, .aload_n 0, 1, []), (25, .getfield 9, 3, []), (28, .aload_n 0, 1, []), (29, .getfield 24, 3, []), (32, .iload_n 1, 1, []), (33, .iload_n 2, 1, []), (34, .iushr, 1, []), (35, .sipush 255, 3, []), (38, .iand, 1, []), (39, .iastore, 1, []), (40, .aload_n 0, 1, []), (41, .dup, 1, []), (42, .getfield 24, 3, []), (45, .iconst 1, 1, []), (46, .iadd, 1, []), (47, .putfield 24, 3, []), (56, .return_, 1, [false, false, false])] [] [(50, juX10_append_50 (jfX10_append_50 k3))] 27 [] 3 [.ref 1, .int a1, .int a2] [] M = jgX10_append_3 k3 a1 a2 M := rfl
theorem jtX10_append_3 : ∀ n : Nat, ∀ (a1 : Int32) (a2 : Int32) (M : sy_M) (r : xe_R × sy_M), jfX10_append_3 n a1 a2 M = some r → sy_E (1) qX10_append 3 [.ref 1, .int a1, .int a2] [] M r := by
  intro n
  induction n with
  | zero => intro a1 a2 M r h; exact absurd (show (none : sy_O) = some r from h) (by simp)
  | succ n ih => intro a1 a2 M r h; exact sy_run_by (d := 0) ((jrX10_append_3 _ _ _ M).trans h) hkX10 (by decide +kernel) sy_cs_nil (sy_us_cons (jwX10_append_50 (jtX10_append_50 ih)) sy_us_nil)
def jfX10_append (a1 : Int32) (M : sy_M) : sy_O :=
  jfX10_append_3 sy_F a1 24 M
set_option maxRecDepth 100000 in
theorem jrX10_append (a1 : Int32) (M : sy_M) : sy_run skX10 qX10_append [(0, .bipush 24, 2, []), (2, .istore_n 2, 1, [])] [] [(3, juX10_append_3 (jfX10_append_3 sy_F))] 3 [] 0 [.ref 1, .int a1, xe_no] [] M = jfX10_append a1 M := rfl
theorem jtX10_append : ∀ (a1 : Int32) (M : sy_M) (r : xe_R × sy_M), jfX10_append a1 M = some r → sy_E (1) qX10_append 0 [.ref 1, .int a1, xe_no] [] M r := by
  intro a1 M r h
  exact sy_run_by (d := 0) ((jrX10_append _ M).trans h) hkX10 (by decide +kernel) sy_cs_nil (sy_us_cons (jwX10_append_3 (jtX10_append_3 sy_F)) sy_us_nil)
def jcX10_append (as : List Value) (M : sy_M) (K : sy_O → sy_O) : sy_O := sy_xc 1 as fun l => sy_xi l fun a1 l => sy_xn l (K (jfX10_append a1 M))
theorem jeX10_append : sy_snd (1) 76 (jcX10_append) := by
  intro as M K r h
  obtain ⟨l, e, h1⟩ := sy_xc_ok h; subst e
  obtain ⟨a1, l, e, h2⟩ := sy_xi_ok h1; subst e
  obtain ⟨e, h3⟩ := sy_xn_ok h2; subst e
  exact ⟨_, h3, fun r1 h0 => ⟨qX10_append, rfl, rfl, jtX10_append _ M r1 h0⟩⟩
/-! X11_feed StairMeter feed (IIIII)I [('R', 0), 'I', 'I', 'I', 'I', 'I'] -/
def jfX11_feed (a1 : Int32) (a2 : Int32) (a3 : Int32) (a4 : Int32) (a5 : Int32) (M : sy_M) : sy_O :=
  if 400 < ((M 1 4) + 20) then
    sy_ri (-1) M
  else
    sy_bv (jfX10_append a1 M) fun M1 =>
    sy_bv (jfX10_append a2 M1) fun M2 =>
    sy_bv (jfX10_append a3 M2) fun M3 =>
    sy_bv (jfX10_append a4 M3) fun M4 =>
    sy_bv (jfX10_append a5 M4) fun M5 =>
    sy_ri (M5 1 4) M5
set_option maxRecDepth 100000 in
theorem jrX11_feed (a1 : Int32) (a2 : Int32) (a3 : Int32) (a4 : Int32) (a5 : Int32) (M : sy_M) : sy_run skX11 qX11_feed [(0, .aload_n 0, 1, []), (1, .getfield 10, 3, []), (4, .getfield 109, 3, []), (7, .bipush 20, 2, []), (9, .iadd, 1, []), (10, .sipush 400, 3, []), (13, .if_icmp .le 5, 3, []), (16, .iconst (-1), 1, []), (17, .ireturn, 1, []), (18, .aload_n 0, 1, []), (19, .getfield 10, 3, []), (22, .iload_n 1, 1, []), (23, .invokevirtual 112, 3, []), (26, .aload_n 0, 1, []), (27, .getfield 10, 3, []), (30, .iload_n 2, 1, []), (31, .invokevirtual 112, 3, []), (34, .aload_n 0, 1, []), (35, .getfield 10, 3, []), (38, .iload_n 3, 1, []), (39, .invokevirtual 112, 3, []), (42, .aload_n 0, 1, []), (43, .getfield 10, 3, []), (46, .iload 4, 2, []), (48, .invokevirtual 112, 3, []), (51, .aload_n 0, 1, []), (52, .getfield 10, 3, []), (55, .iload 5, 2, []), (57, .invokevirtual 112, 3, []), (60, .aload_n 0, 1, []), (61, .getfield 10, 3, []), (64, .getfield 109, 3, []), (67, .ireturn, 1, [])] [(76, 1, jcX10_append)] [] 34 [] 0 [.ref 0, .int a1, .int a2, .int a3, .int a4, .int a5] [] M = jfX11_feed a1 a2 a3 a4 a5 M := rfl
theorem jtX11_feed : ∀ (a1 : Int32) (a2 : Int32) (a3 : Int32) (a4 : Int32) (a5 : Int32) (M : sy_M) (r : xe_R × sy_M), jfX11_feed a1 a2 a3 a4 a5 M = some r → sy_E (2) qX11_feed 0 [.ref 0, .int a1, .int a2, .int a3, .int a4, .int a5] [] M r := by
  intro a1 a2 a3 a4 a5 M r h
  exact sy_run_by (d := 1) ((jrX11_feed _ _ _ _ _ M).trans h) hkX11 (by decide +kernel) (sy_cs_cons (jeX10_append.deep (by decide)) sy_cs_nil) sy_us_nil
def jcX11_feed (as : List Value) (M : sy_M) (K : sy_O → sy_O) : sy_O := sy_xc 0 as fun l => sy_xi l fun a1 l => sy_xi l fun a2 l => sy_xi l fun a3 l => sy_xi l fun a4 l => sy_xi l fun a5 l => sy_xn l (K (jfX11_feed a1 a2 a3 a4 a5 M))
theorem jeX11_feed : sy_snd (2) 90 (jcX11_feed) := by
  intro as M K r h
  obtain ⟨l, e, h1⟩ := sy_xc_ok h; subst e
  obtain ⟨a1, l, e, h2⟩ := sy_xi_ok h1; subst e
  obtain ⟨a2, l, e, h3⟩ := sy_xi_ok h2; subst e
  obtain ⟨a3, l, e, h4⟩ := sy_xi_ok h3; subst e
  obtain ⟨a4, l, e, h5⟩ := sy_xi_ok h4; subst e
  obtain ⟨a5, l, e, h6⟩ := sy_xi_ok h5; subst e
  obtain ⟨e, h7⟩ := sy_xn_ok h6; subst e
  exact ⟨_, h7, fun r1 h0 => ⟨qX11_feed, rfl, rfl, jtX11_feed _ _ _ _ _ M r1 h0⟩⟩
/-! X12_feed StairMeterModel feed (IIIII)I [('R', 121), 'I', 'I', 'I', 'I', 'I'] -/
def juX12_feed_76 (k : Int32 → Int32 → Int32 → Int32 → Int32 → Int32 → Int32 → sy_M → sy_O) (ls st : List Value) (M : sy_M) : sy_O := sy_xc 121 ls fun l => sy_xi l fun a1 l => sy_xi l fun a2 l => sy_xi l fun a3 l => sy_xi l fun a4 l => sy_xi l fun a5 l => sy_xi l fun a6 l => sy_xv l fun _ l => sy_xn l (sy_xi st fun s0 l => sy_xn l (k a1 a2 a3 a4 a5 a6 s0 M))
theorem jwX12_feed_76 {d : Nat} {k : Int32 → Int32 → Int32 → Int32 → Int32 → Int32 → Int32 → sy_M → sy_O} (hk : ∀ (w7 : Value) (a1 : Int32) (a2 : Int32) (a3 : Int32) (a4 : Int32) (a5 : Int32) (a6 : Int32) (s0 : Int32) (M : sy_M) (r : xe_R × sy_M), k a1 a2 a3 a4 a5 a6 s0 M = some r → sy_E (d) qX12_feed 76 [.ref 121, .int a1, .int a2, .int a3, .int a4, .int a5, .int a6, w7] [.int s0] M r) : ∀ ls st M r, juX12_feed_76 k ls st M = some r → sy_E d qX12_feed 76 ls st M r := by
  intro ls st M r h
  obtain ⟨l, e, h1⟩ := sy_xc_ok h; subst e
  obtain ⟨a1, l, e, h2⟩ := sy_xi_ok h1; subst e
  obtain ⟨a2, l, e, h3⟩ := sy_xi_ok h2; subst e
  obtain ⟨a3, l, e, h4⟩ := sy_xi_ok h3; subst e
  obtain ⟨a4, l, e, h5⟩ := sy_xi_ok h4; subst e
  obtain ⟨a5, l, e, h6⟩ := sy_xi_ok h5; subst e
  obtain ⟨a6, l, e, h7⟩ := sy_xi_ok h6; subst e
  obtain ⟨w7, l, e, h8⟩ := sy_xv_ok h7; subst e
  obtain ⟨e, h9⟩ := sy_xn_ok h8; subst e
  obtain ⟨s0, l, e, h10⟩ := sy_xi_ok h9; subst e
  obtain ⟨e, h11⟩ := sy_xn_ok h10; subst e
  exact hk _ a1 a2 a3 a4 a5 a6 s0 M r h11
def juX12_feed_23 (k : Int32 → Int32 → Int32 → Int32 → Int32 → Int32 → sy_M → sy_O) (ls st : List Value) (M : sy_M) : sy_O := sy_xc 121 ls fun l => sy_xi l fun a1 l => sy_xi l fun a2 l => sy_xi l fun a3 l => sy_xi l fun a4 l => sy_xi l fun a5 l => sy_xi l fun a6 l => sy_xv l fun _ l => sy_xn l (sy_xn st (k a1 a2 a3 a4 a5 a6 M))
theorem jwX12_feed_23 {d : Nat} {k : Int32 → Int32 → Int32 → Int32 → Int32 → Int32 → sy_M → sy_O} (hk : ∀ (w7 : Value) (a1 : Int32) (a2 : Int32) (a3 : Int32) (a4 : Int32) (a5 : Int32) (a6 : Int32) (M : sy_M) (r : xe_R × sy_M), k a1 a2 a3 a4 a5 a6 M = some r → sy_E (d) qX12_feed 23 [.ref 121, .int a1, .int a2, .int a3, .int a4, .int a5, .int a6, w7] [] M r) : ∀ ls st M r, juX12_feed_23 k ls st M = some r → sy_E d qX12_feed 23 ls st M r := by
  intro ls st M r h
  obtain ⟨l, e, h1⟩ := sy_xc_ok h; subst e
  obtain ⟨a1, l, e, h2⟩ := sy_xi_ok h1; subst e
  obtain ⟨a2, l, e, h3⟩ := sy_xi_ok h2; subst e
  obtain ⟨a3, l, e, h4⟩ := sy_xi_ok h3; subst e
  obtain ⟨a4, l, e, h5⟩ := sy_xi_ok h4; subst e
  obtain ⟨a5, l, e, h6⟩ := sy_xi_ok h5; subst e
  obtain ⟨a6, l, e, h7⟩ := sy_xi_ok h6; subst e
  obtain ⟨w7, l, e, h8⟩ := sy_xv_ok h7; subst e
  obtain ⟨e, h9⟩ := sy_xn_ok h8; subst e
  obtain ⟨e, h10⟩ := sy_xn_ok h9; subst e
  exact hk _ a1 a2 a3 a4 a5 a6 M r h10
def jfX12_feed_76 (k23 : Int32 → Int32 → Int32 → Int32 → Int32 → Int32 → sy_M → sy_O) (a1 : Int32) (a2 : Int32) (a3 : Int32) (a4 : Int32) (a5 : Int32) (a6 : Int32) (s0 : Int32) (M : sy_M) : sy_O :=
  sy_bx (xe_in (M 121 8) 400) <|
  let M1 := sy_upd M 126 (Int32.toNatClampNeg (M 121 8)) (((Int32.toUInt32 s0 >>> (Int32.toUInt32 (24 - (8 * (a6 - a6 / 4 * 4))) &&& Int32.toUInt32 31)).toInt32) &&& 255)
  let M2 := sy_upd M1 121 8 ((M1 121 8) + 1)
  let v3 := a6 + 1
  k23 a1 a2 a3 a4 a5 v3 M2
set_option maxRecDepth 100000 in
theorem jrX12_feed_76 (k23 : Int32 → Int32 → Int32 → Int32 → Int32 → Int32 → sy_M → sy_O) (w7 : Value) (a1 : Int32) (a2 : Int32) (a3 : Int32) (a4 : Int32) (a5 : Int32) (a6 : Int32) (s0 : Int32) (M : sy_M) : sy_run skX12 qX12_feed [(76, .istore 7, 2, [true, true, true, true, true, true, true, false]), (78, .aload_n 0, 1, []), (79, .getfield 22, 3, []), (82, .aload_n 0, 1, []), (83, .getfield 70, 3, []), (86, .iload 7, 2, []), (88, .bipush 24, 2, []), (90, .bipush 8, 2, []), (92, .iload 6, 2, []), (94, .iconst 4, 1, []), (95, .irem, 1, []), (96, .imul, 1, []), (97, .isub, 1, []), (98, .iushr, 1, []), (99, .sipush 255, 3, []), (102, .iand, 1, []), (103, .iastore, 1, []), (104, .aload_n 0, 1, []), (105, .dup, 1, []), (106, .getfield 70, 3, []), (109, .iconst 1, 1, []), (110, .iadd, 1, []), (111, .putfield 70, 3, []), (114, .iinc 6 1, 3, []), (117, .goto (-94), 3, [])] [] [(23, juX12_feed_23 k23)] 26 [] 76 [.ref 121, .int a1, .int a2, .int a3, .int a4, .int a5, .int a6, w7] [.int s0] M = jfX12_feed_76 k23 a1 a2 a3 a4 a5 a6 s0 M := rfl
theorem jtX12_feed_76 {k23 : Int32 → Int32 → Int32 → Int32 → Int32 → Int32 → sy_M → sy_O} (hk23 : ∀ (w7 : Value) (a1 : Int32) (a2 : Int32) (a3 : Int32) (a4 : Int32) (a5 : Int32) (a6 : Int32) (M : sy_M) (r : xe_R × sy_M), k23 a1 a2 a3 a4 a5 a6 M = some r → sy_E (1) qX12_feed 23 [.ref 121, .int a1, .int a2, .int a3, .int a4, .int a5, .int a6, w7] [] M r) : ∀ (w7 : Value) (a1 : Int32) (a2 : Int32) (a3 : Int32) (a4 : Int32) (a5 : Int32) (a6 : Int32) (s0 : Int32) (M : sy_M) (r : xe_R × sy_M), jfX12_feed_76 k23 a1 a2 a3 a4 a5 a6 s0 M = some r → sy_E (1) qX12_feed 76 [.ref 121, .int a1, .int a2, .int a3, .int a4, .int a5, .int a6, w7] [.int s0] M r := by
  intro w7 a1 a2 a3 a4 a5 a6 s0 M r h
  exact sy_run_by (d := 0) ((jrX12_feed_76 _ _ _ _ _ _ _ _ _ M).trans h) hkX12 (by decide +kernel) sy_cs_nil (sy_us_cons (jwX12_feed_23 hk23) sy_us_nil)
def jgX12_feed_23 (k23 : Int32 → Int32 → Int32 → Int32 → Int32 → Int32 → sy_M → sy_O) (a1 : Int32) (a2 : Int32) (a3 : Int32) (a4 : Int32) (a5 : Int32) (a6 : Int32) (M : sy_M) : sy_O :=
  if a6 < 20 then
    if a6 < 4 then
      jfX12_feed_76 k23 a1 a2 a3 a4 a5 a6 a1 M
    else
      if a6 < 8 then
        jfX12_feed_76 k23 a1 a2 a3 a4 a5 a6 a2 M
      else
        if a6 < 12 then
          jfX12_feed_76 k23 a1 a2 a3 a4 a5 a6 a3 M
        else
          if a6 < 16 then
            jfX12_feed_76 k23 a1 a2 a3 a4 a5 a6 a4 M
          else
            jfX12_feed_76 k23 a1 a2 a3 a4 a5 a6 a5 M
  else
    sy_ri (M 121 8) M
def jfX12_feed_23 : Nat → Int32 → Int32 → Int32 → Int32 → Int32 → Int32 → sy_M → sy_O
  | 0, _, _, _, _, _, _, _ => none
  | n + 1, a1, a2, a3, a4, a5, a6, M => jgX12_feed_23 (jfX12_feed_23 n) a1 a2 a3 a4 a5 a6 M
set_option maxRecDepth 100000 in
theorem jrX12_feed_23 (k23 : Int32 → Int32 → Int32 → Int32 → Int32 → Int32 → sy_M → sy_O) (w7 : Value) (a1 : Int32) (a2 : Int32) (a3 : Int32) (a4 : Int32) (a5 : Int32) (a6 : Int32) (M : sy_M) : sy_run skX12 qX12_feed [(23, .iload 6, 2, [true, true, true, true, true, true, true, false]), (25, .bipush 20, 2, []), (27, .if_icmp .ge 93, 3, []), (30, .iload 6, 2, []), (32, .iconst 4, 1, []), (33, .if_icmp .ge 7, 3, []), (36, .iload_n 1, 1, []), (37, .goto 39, 3, []), (40, .iload 6, 2, [true, true, true, true, true, true, true, false]), (42, .bipush 8, 2, []), (44, .if_icmp .ge 7, 3, []), (47, .iload_n 2, 1, []), (48, .goto 28, 3, []), (51, .iload 6, 2, [true, true, true, true, true, true, true, false]), (53, .bipush 12, 2, []), (55, .if_icmp .ge 7, 3, []), (58, .iload_n 3, 1, []), (59, .goto 17, 3, []), (62, .iload 6, 2, [true, true, true, true, true, true, true, false]), (64, .bipush 16, 2, []), (66, .if_icmp .ge 8, 3, []), (69, .iload 4, 2, []), (71, .goto 5, 3, []), (74, .iload 5, 2, [true, true, true, true, true, true, true, false]), (120, .aload_n 0, 1, [true, false, false, false, false, false, false, false]), (121, .getfield 70, 3, []), (124, .ireturn, 1, [])] [] [(76, juX12_feed_76 (jfX12_feed_76 k23))] 28 [] 23 [.ref 121, .int a1, .int a2, .int a3, .int a4, .int a5, .int a6, w7] [] M = jgX12_feed_23 k23 a1 a2 a3 a4 a5 a6 M := rfl
theorem jtX12_feed_23 : ∀ n : Nat, ∀ (w7 : Value) (a1 : Int32) (a2 : Int32) (a3 : Int32) (a4 : Int32) (a5 : Int32) (a6 : Int32) (M : sy_M) (r : xe_R × sy_M), jfX12_feed_23 n a1 a2 a3 a4 a5 a6 M = some r → sy_E (1) qX12_feed 23 [.ref 121, .int a1, .int a2, .int a3, .int a4, .int a5, .int a6, w7] [] M r := by
  intro n
  induction n with
  | zero => intro w7 a1 a2 a3 a4 a5 a6 M r h; exact absurd (show (none : sy_O) = some r from h) (by simp)
  | succ n ih => intro w7 a1 a2 a3 a4 a5 a6 M r h; exact sy_run_by (d := 0) ((jrX12_feed_23 _ _ _ _ _ _ _ _ M).trans h) hkX12 (by decide +kernel) sy_cs_nil (sy_us_cons (jwX12_feed_76 (jtX12_feed_76 ih)) sy_us_nil)
def jfX12_feed (a1 : Int32) (a2 : Int32) (a3 : Int32) (a4 : Int32) (a5 : Int32) (M : sy_M) : sy_O :=
  let M1 := sy_upd M 121 0 0
  if 400 < ((M1 121 8) + 20) then
    sy_ri (-1) M1
  else
    jfX12_feed_23 sy_F a1 a2 a3 a4 a5 0 M1
set_option maxRecDepth 100000 in
theorem jrX12_feed (a1 : Int32) (a2 : Int32) (a3 : Int32) (a4 : Int32) (a5 : Int32) (M : sy_M) : sy_run skX12 qX12_feed [(0, .aload_n 0, 1, []), (1, .iconst 0, 1, []), (2, .putfield 45, 3, []), (5, .aload_n 0, 1, []), (6, .getfield 70, 3, []), (9, .bipush 20, 2, []), (11, .iadd, 1, []), (12, .sipush 400, 3, []), (15, .if_icmp .le 5, 3, []), (18, .iconst (-1), 1, []), (19, .ireturn, 1, []), (20, .iconst 0, 1, [true, true, true, true, true, true, false, false]), (21, .istore 6, 2, [])] [] [(23, juX12_feed_23 (jfX12_feed_23 sy_F))] 14 [] 0 [.ref 121, .int a1, .int a2, .int a3, .int a4, .int a5, xe_no, xe_no] [] M = jfX12_feed a1 a2 a3 a4 a5 M := rfl
theorem jtX12_feed : ∀ (a1 : Int32) (a2 : Int32) (a3 : Int32) (a4 : Int32) (a5 : Int32) (M : sy_M) (r : xe_R × sy_M), jfX12_feed a1 a2 a3 a4 a5 M = some r → sy_E (1) qX12_feed 0 [.ref 121, .int a1, .int a2, .int a3, .int a4, .int a5, xe_no, xe_no] [] M r := by
  intro a1 a2 a3 a4 a5 M r h
  exact sy_run_by (d := 0) ((jrX12_feed _ _ _ _ _ M).trans h) hkX12 (by decide +kernel) sy_cs_nil (sy_us_cons (jwX12_feed_23 (jtX12_feed_23 sy_F)) sy_us_nil)
def jcX12_feed (as : List Value) (M : sy_M) (K : sy_O → sy_O) : sy_O := sy_xc 121 as fun l => sy_xi l fun a1 l => sy_xi l fun a2 l => sy_xi l fun a3 l => sy_xi l fun a4 l => sy_xi l fun a5 l => sy_xn l (K (jfX12_feed a1 a2 a3 a4 a5 M))
theorem jeX12_feed : sy_snd (1) 198 (jcX12_feed) := by
  intro as M K r h
  obtain ⟨l, e, h1⟩ := sy_xc_ok h; subst e
  obtain ⟨a1, l, e, h2⟩ := sy_xi_ok h1; subst e
  obtain ⟨a2, l, e, h3⟩ := sy_xi_ok h2; subst e
  obtain ⟨a3, l, e, h4⟩ := sy_xi_ok h3; subst e
  obtain ⟨a4, l, e, h5⟩ := sy_xi_ok h4; subst e
  obtain ⟨a5, l, e, h6⟩ := sy_xi_ok h5; subst e
  obtain ⟨e, h7⟩ := sy_xn_ok h6; subst e
  exact ⟨_, h7, fun r1 h0 => ⟨qX12_feed, rfl, rfl, jtX12_feed _ _ _ _ _ M r1 h0⟩⟩
/-! X11_end StairMeter end (I)Z [('R', 0), 'I'] -/
def jfX11_end (a1 : Int32) (M : sy_M) : sy_O :=
  if a1 < 0 then
    sy_ri 0 M
  else
    if (M 1 4) < a1 then
      sy_ri 0 M
    else
      let M1 := sy_upd M 1 4 a1
      sy_ri 1 M1
set_option maxRecDepth 100000 in
theorem jrX11_end (a1 : Int32) (M : sy_M) : sy_run skX11 qX11_end [(0, .iload_n 1, 1, []), (1, .ifCond .lt 14, 3, []), (4, .iload_n 1, 1, []), (5, .aload_n 0, 1, []), (6, .getfield 10, 3, []), (9, .getfield 109, 3, []), (12, .if_icmp .le 5, 3, []), (15, .iconst 0, 1, [false, false]), (16, .ireturn, 1, []), (17, .aload_n 0, 1, []), (18, .getfield 10, 3, []), (21, .iload_n 1, 1, []), (22, .putfield 109, 3, []), (25, .iconst 1, 1, []), (26, .ireturn, 1, [])] [] [] 16 [] 0 [.ref 0, .int a1] [] M = jfX11_end a1 M := rfl
theorem jtX11_end : ∀ (a1 : Int32) (M : sy_M) (r : xe_R × sy_M), jfX11_end a1 M = some r → sy_E (1) qX11_end 0 [.ref 0, .int a1] [] M r := by
  intro a1 M r h
  exact sy_run_by (d := 0) ((jrX11_end _ M).trans h) hkX11 (by decide +kernel) sy_cs_nil sy_us_nil
def jcX11_end (as : List Value) (M : sy_M) (K : sy_O → sy_O) : sy_O := sy_xc 0 as fun l => sy_xi l fun a1 l => sy_xn l (K (jfX11_end a1 M))
theorem jeX11_end : sy_snd (1) 91 (jcX11_end) := by
  intro as M K r h
  obtain ⟨l, e, h1⟩ := sy_xc_ok h; subst e
  obtain ⟨a1, l, e, h2⟩ := sy_xi_ok h1; subst e
  obtain ⟨e, h3⟩ := sy_xn_ok h2; subst e
  exact ⟨_, h3, fun r1 h0 => ⟨qX11_end, rfl, rfl, jtX11_end _ M r1 h0⟩⟩
/-! X12_isIn StairMeterModel isIn (III)Z ['I', 'I', 'I'] -/
def jfX12_isIn (a0 : Int32) (a1 : Int32) (a2 : Int32) (M : sy_M) : sy_O :=
  if a0 < a1 then
    sy_ri 0 M
  else
    if a2 < a0 then
      sy_ri 0 M
    else
      sy_ri 1 M
set_option maxRecDepth 100000 in
theorem jrX12_isIn (a0 : Int32) (a1 : Int32) (a2 : Int32) (M : sy_M) : sy_run skX12 qX12_isIn [(0, .iload_n 0, 1, []), (1, .iload_n 1, 1, []), (2, .if_icmp .lt 12, 3, []), (5, .iload_n 0, 1, []), (6, .iload_n 2, 1, []), (7, .if_icmp .gt 7, 3, []), (10, .iconst 1, 1, []), (11, .goto 4, 3, []), (14, .iconst 0, 1, [false, false, false]), (15, .ireturn, 1, [false, false, false])] [] [] 11 [] 0 [.int a0, .int a1, .int a2] [] M = jfX12_isIn a0 a1 a2 M := rfl
theorem jtX12_isIn : ∀ (a0 : Int32) (a1 : Int32) (a2 : Int32) (M : sy_M) (r : xe_R × sy_M), jfX12_isIn a0 a1 a2 M = some r → sy_E (1) qX12_isIn 0 [.int a0, .int a1, .int a2] [] M r := by
  intro a0 a1 a2 M r h
  exact sy_run_by (d := 0) ((jrX12_isIn _ _ _ M).trans h) hkX12 (by decide +kernel) sy_cs_nil sy_us_nil
def jcX12_isIn (as : List Value) (M : sy_M) (K : sy_O → sy_O) : sy_O := sy_xi as fun a0 l => sy_xi l fun a1 l => sy_xi l fun a2 l => sy_xn l (K (jfX12_isIn a0 a1 a2 M))
theorem jeX12_isIn : sy_snd (1) 182 (jcX12_isIn) := by
  intro as M K r h
  obtain ⟨a0, l, e, h1⟩ := sy_xi_ok h; subst e
  obtain ⟨a1, l, e, h2⟩ := sy_xi_ok h1; subst e
  obtain ⟨a2, l, e, h3⟩ := sy_xi_ok h2; subst e
  obtain ⟨e, h4⟩ := sy_xn_ok h3; subst e
  exact ⟨_, h4, fun r1 h0 => ⟨qX12_isIn, rfl, rfl, jtX12_isIn _ _ _ M r1 h0⟩⟩
/-! X12_end StairMeterModel end (I)Z [('R', 121), 'I'] -/
def jfX12_end (a1 : Int32) (M : sy_M) : sy_O :=
  let M1 := sy_upd M 121 0 0
  sy_bi (jfX12_isIn a1 0 (M1 121 8) M1) fun v3 M2 =>
  if v3 = 0 then
    sy_ri 0 M2
  else
    let M4 := sy_upd M2 121 8 a1
    sy_ri 1 M4
set_option maxRecDepth 100000 in
theorem jrX12_end (a1 : Int32) (M : sy_M) : sy_run skX12 qX12_end [(0, .aload_n 0, 1, []), (1, .iconst 0, 1, []), (2, .putfield 45, 3, []), (5, .iload_n 1, 1, []), (6, .iconst 0, 1, []), (7, .aload_n 0, 1, []), (8, .getfield 70, 3, []), (11, .invokestatic 48, 3, []), (14, .ifCond .ne 5, 3, []), (17, .iconst 0, 1, []), (18, .ireturn, 1, []), (19, .aload_n 0, 1, []), (20, .iload_n 1, 1, []), (21, .putfield 70, 3, []), (24, .iconst 1, 1, []), (25, .ireturn, 1, [])] [(182, 0, jcX12_isIn)] [] 17 [] 0 [.ref 121, .int a1] [] M = jfX12_end a1 M := rfl
theorem jtX12_end : ∀ (a1 : Int32) (M : sy_M) (r : xe_R × sy_M), jfX12_end a1 M = some r → sy_E (2) qX12_end 0 [.ref 121, .int a1] [] M r := by
  intro a1 M r h
  exact sy_run_by (d := 1) ((jrX12_end _ M).trans h) hkX12 (by decide +kernel) (sy_cs_cons (jeX12_isIn.deep (by decide)) sy_cs_nil) sy_us_nil
def jcX12_end (as : List Value) (M : sy_M) (K : sy_O → sy_O) : sy_O := sy_xc 121 as fun l => sy_xi l fun a1 l => sy_xn l (K (jfX12_end a1 M))
theorem jeX12_end : sy_snd (2) 199 (jcX12_end) := by
  intro as M K r h
  obtain ⟨l, e, h1⟩ := sy_xc_ok h; subst e
  obtain ⟨a1, l, e, h2⟩ := sy_xi_ok h1; subst e
  obtain ⟨e, h3⟩ := sy_xn_ok h2; subst e
  exact ⟨_, h3, fun r1 h0 => ⟨qX12_end, rfl, rfl, jtX12_end _ M r1 h0⟩⟩
/-! X7_takeOver StairMeter$Log takeOver (LStairMeter$Log;)V ['A', 'A'] -/
def jfX7_takeOver (r0 : Nat) (r1 : Nat) (M : sy_M) : sy_O :=
  sy_bs (sy_is 6 r0) <|
  if (M r0 0) = 0 then
    sy_rv M
  else
    sy_bs (sy_is 6 r0) <|
    sy_bs (sy_is 6 r1) <|
    if (M r0 0) = (M r1 0) then
      sy_bs (sy_is 6 r1) <|
      sy_bs (sy_is 6 r0) <|
      sy_bs (sy_is 6 r0) <|
      sy_bb (sy_ia (r0 + 1) || Nat.beq (r0 + 1) 1000000) <|
      sy_bb (sy_cok (r1 + 1) (r0 + 1) 0 0 (Nat.toInt32 (sy_len M (r0 + 1)))) <|
      let M1 := sy_cpy M (r1 + 1) 0 (r0 + 1) 0 (Int32.toNatClampNeg (Nat.toInt32 (sy_len M (r0 + 1))))
      sy_bs (sy_is 6 r1) <|
      sy_bs (sy_is 6 r0) <|
      let M2 := sy_upd M1 r0 2 (M1 r1 2)
      sy_bs (sy_is 6 r1) <|
      sy_bs (sy_is 6 r0) <|
      let M3 := sy_upd M2 r0 3 (M2 r1 3)
      sy_rv M3
    else
      sy_rv M
set_option maxRecDepth 100000 in
theorem jrX7_takeOver (r0 : Nat) (r1 : Nat) (M : sy_M) : sy_run skX7 qX7_takeOver [(0, .aload_n 0, 1, []), (1, .getfield 18, 3, []), (4, .ifCond .eq 14, 3, []), (7, .aload_n 0, 1, []), (8, .getfield 18, 3, []), (11, .aload_n 1, 1, []), (12, .getfield 18, 3, []), (15, .if_icmp .eq 4, 3, []), (18, .return_, 1, [false, false]), (19, .aload_n 1, 1, []), (20, .getfield 24, 3, []), (23, .iconst 0, 1, []), (24, .aload_n 0, 1, []), (25, .getfield 24, 3, []), (28, .iconst 0, 1, []), (29, .aload_n 0, 1, []), (30, .getfield 24, 3, []), (33, .arraylength, 1, []), (34, .invokestatic 34, 3, []), (37, .aload_n 0, 1, []), (38, .aload_n 1, 1, []), (39, .getfield 28, 3, []), (42, .putfield 28, 3, []), (45, .aload_n 0, 1, []), (46, .aload_n 1, 1, []), (47, .getfield 31, 3, []), (50, .putfield 31, 3, []), (53, .return_, 1, [])] [] [] 29 [] 0 [.ref r0, .ref r1] [] M = jfX7_takeOver r0 r1 M := rfl
theorem jtX7_takeOver : ∀ (r0 : Nat) (r1 : Nat) (M : sy_M) (r : xe_R × sy_M), jfX7_takeOver r0 r1 M = some r → sy_E (1) qX7_takeOver 0 [.ref r0, .ref r1] [] M r := by
  intro r0 r1 M r h
  exact sy_run_by (d := 0) ((jrX7_takeOver _ _ M).trans h) hkX7 (by decide +kernel) sy_cs_nil sy_us_nil
def jcX7_takeOver (as : List Value) (M : sy_M) (K : sy_O → sy_O) : sy_O := sy_xa as fun r0 l => sy_xa l fun r1 l => sy_xn l (K (jfX7_takeOver r0 r1 M))
theorem jeX7_takeOver : sy_snd (1) 59 (jcX7_takeOver) := by
  intro as M K r h
  obtain ⟨r0, l, e, h1⟩ := sy_xa_ok h; subst e
  obtain ⟨r1, l, e, h2⟩ := sy_xa_ok h1; subst e
  obtain ⟨e, h3⟩ := sy_xn_ok h2; subst e
  exact ⟨_, h3, fun r1 h0 => ⟨qX7_takeOver, rfl, rfl, jtX7_takeOver _ _ M r1 h0⟩⟩
/-! X2_takeOver StairMeter$House takeOver (LStairMeter$House;)V ['A', 'A'] -/
def juX2_takeOver_73 (k : Nat → Nat → sy_M → sy_O) (ls st : List Value) (M : sy_M) : sy_O := sy_xa ls fun r0 l => sy_xa l fun r1 l => sy_xn l (sy_xn st (k r0 r1 M))
theorem jwX2_takeOver_73 {d : Nat} {k : Nat → Nat → sy_M → sy_O} (hk : ∀ (r0 : Nat) (r1 : Nat) (M : sy_M) (r : xe_R × sy_M), k r0 r1 M = some r → sy_E (d) qX2_takeOver 73 [.ref r0, .ref r1] [] M r) : ∀ ls st M r, juX2_takeOver_73 k ls st M = some r → sy_E d qX2_takeOver 73 ls st M r := by
  intro ls st M r h
  obtain ⟨r0, l, e, h1⟩ := sy_xa_ok h; subst e
  obtain ⟨r1, l, e, h2⟩ := sy_xa_ok h1; subst e
  obtain ⟨e, h3⟩ := sy_xn_ok h2; subst e
  obtain ⟨e, h4⟩ := sy_xn_ok h3; subst e
  exact hk r0 r1 M r h4
def jfX2_takeOver_73 (r0 : Nat) (r1 : Nat) (M : sy_M) : sy_O :=
  sy_bs (sy_is 2 r1) <|
  sy_bs (sy_is 2 r0) <|
  let M1 := sy_upd M r0 7 (M r1 7)
  sy_bs (sy_is 2 r1) <|
  sy_bs (sy_is 2 r0) <|
  let M2 := sy_upd M1 r0 8 (M1 r1 8)
  sy_bs (sy_is 2 r1) <|
  sy_bs (sy_is 2 r0) <|
  let M3 := sy_upd M2 r0 9 (M2 r1 9)
  sy_bs (sy_is 2 r1) <|
  sy_bs (sy_is 2 r0) <|
  let M4 := sy_upd M3 r0 10 (M3 r1 10)
  sy_bs (sy_is 2 r1) <|
  sy_bs (sy_is 2 r0) <|
  let M5 := sy_upd M4 r0 11 (M4 r1 11)
  sy_bs (sy_is 2 r1) <|
  sy_bs (sy_is 2 r0) <|
  let M6 := sy_upd M5 r0 12 (M5 r1 12)
  sy_bs (sy_is 2 r1) <|
  sy_bs (sy_is 2 r0) <|
  let M7 := sy_upd M6 r0 13 (M6 r1 13)
  sy_rv M7
set_option maxRecDepth 100000 in
theorem jrX2_takeOver_73 (r0 : Nat) (r1 : Nat) (M : sy_M) : sy_run skX2 qX2_takeOver [(73, .aload_n 0, 1, []), (74, .aload_n 1, 1, []), (75, .getfield 40, 3, []), (78, .putfield 40, 3, []), (81, .aload_n 0, 1, []), (82, .aload_n 1, 1, []), (83, .getfield 43, 3, []), (86, .putfield 43, 3, []), (89, .aload_n 0, 1, []), (90, .aload_n 1, 1, []), (91, .getfield 46, 3, []), (94, .putfield 46, 3, []), (97, .aload_n 0, 1, []), (98, .aload_n 1, 1, []), (99, .getfield 49, 3, []), (102, .putfield 49, 3, []), (105, .aload_n 0, 1, []), (106, .aload_n 1, 1, []), (107, .getfield 52, 3, []), (110, .putfield 52, 3, []), (113, .aload_n 0, 1, []), (114, .aload_n 1, 1, []), (115, .getfield 55, 3, []), (118, .putfield 55, 3, []), (121, .aload_n 0, 1, []), (122, .aload_n 1, 1, []), (123, .getfield 58, 3, []), (126, .putfield 58, 3, []), (129, .return_, 1, [])] [] [] 30 [] 73 [.ref r0, .ref r1] [] M = jfX2_takeOver_73 r0 r1 M := rfl
theorem jtX2_takeOver_73 : ∀ (r0 : Nat) (r1 : Nat) (M : sy_M) (r : xe_R × sy_M), jfX2_takeOver_73 r0 r1 M = some r → sy_E (2) qX2_takeOver 73 [.ref r0, .ref r1] [] M r := by
  intro r0 r1 M r h
  exact sy_run_by (d := 1) ((jrX2_takeOver_73 _ _ M).trans h) hkX2 (by decide +kernel) sy_cs_nil sy_us_nil
def jfX2_takeOver (r0 : Nat) (r1 : Nat) (M : sy_M) : sy_O :=
  sy_bs (sy_is 2 r1) <|
  sy_bs (sy_is 2 r0) <|
  sy_bb (sy_cok (r1 + 1) (r0 + 1) 0 0 63) <|
  let M1 := sy_cpy M (r1 + 1) 0 (r0 + 1) 0 63
  sy_bs (sy_is 2 r1) <|
  sy_bs (sy_is 2 r0) <|
  sy_bb (sy_cok (r1 + 2) (r0 + 2) 0 0 49) <|
  let M2 := sy_cpy M1 (r1 + 2) 0 (r0 + 2) 0 49
  sy_bs (sy_is 2 r0) <|
  sy_bs (sy_is 2 r1) <|
  sy_bs (sy_is 6 (r0 + 3)) <|
  sy_bv (jfX7_takeOver (r0 + 3) (r1 + 3) M2) fun M3 =>
  sy_bs (sy_is 2 r1) <|
  sy_bs (sy_is 2 r0) <|
  let M4 := sy_upd M3 r0 3 (M3 r1 3)
  sy_bs (sy_is 2 r1) <|
  sy_bs (sy_is 2 r0) <|
  let M5 := sy_upd M4 r0 4 (M4 r1 4)
  sy_bs (sy_is 2 r1) <|
  sy_bs (sy_is 2 r0) <|
  let M6 := sy_upd M5 r0 5 (M5 r1 5)
  sy_bs (sy_is 2 r1) <|
  sy_bs (sy_is 2 r0) <|
  let M7 := sy_upd M6 r0 6 (M6 r1 6)
  jfX2_takeOver_73 r0 r1 M7
set_option maxRecDepth 100000 in
theorem jrX2_takeOver (r0 : Nat) (r1 : Nat) (M : sy_M) : sy_run skX2 qX2_takeOver [(0, .aload_n 1, 1, []), (1, .getfield 9, 3, []), (4, .iconst 0, 1, []), (5, .aload_n 0, 1, []), (6, .getfield 9, 3, []), (9, .iconst 0, 1, []), (10, .bipush 63, 2, []), (12, .invokestatic 61, 3, []), (15, .aload_n 1, 1, []), (16, .getfield 15, 3, []), (19, .iconst 0, 1, []), (20, .aload_n 0, 1, []), (21, .getfield 15, 3, []), (24, .iconst 0, 1, []), (25, .bipush 49, 2, []), (27, .invokestatic 61, 3, []), (30, .aload_n 0, 1, []), (31, .getfield 23, 3, []), (34, .aload_n 1, 1, []), (35, .getfield 23, 3, []), (38, .invokevirtual 67, 3, []), (41, .aload_n 0, 1, []), (42, .aload_n 1, 1, []), (43, .getfield 27, 3, []), (46, .putfield 27, 3, []), (49, .aload_n 0, 1, []), (50, .aload_n 1, 1, []), (51, .getfield 31, 3, []), (54, .putfield 31, 3, []), (57, .aload_n 0, 1, []), (58, .aload_n 1, 1, []), (59, .getfield 34, 3, []), (62, .putfield 34, 3, []), (65, .aload_n 0, 1, []), (66, .aload_n 1, 1, []), (67, .getfield 37, 3, []), (70, .putfield 37, 3, [])] [(59, 1, jcX7_takeOver)] [(73, juX2_takeOver_73 (jfX2_takeOver_73))] 38 [] 0 [.ref r0, .ref r1] [] M = jfX2_takeOver r0 r1 M := rfl
theorem jtX2_takeOver : ∀ (r0 : Nat) (r1 : Nat) (M : sy_M) (r : xe_R × sy_M), jfX2_takeOver r0 r1 M = some r → sy_E (2) qX2_takeOver 0 [.ref r0, .ref r1] [] M r := by
  intro r0 r1 M r h
  exact sy_run_by (d := 1) ((jrX2_takeOver _ _ M).trans h) hkX2 (by decide +kernel) (sy_cs_cons (jeX7_takeOver.deep (by decide)) sy_cs_nil) (sy_us_cons (jwX2_takeOver_73 (jtX2_takeOver_73)) sy_us_nil)
def jcX2_takeOver (as : List Value) (M : sy_M) (K : sy_O → sy_O) : sy_O := sy_xa as fun r0 l => sy_xa l fun r1 l => sy_xn l (K (jfX2_takeOver r0 r1 M))
theorem jeX2_takeOver : sy_snd (2) 9 (jcX2_takeOver) := by
  intro as M K r h
  obtain ⟨r0, l, e, h1⟩ := sy_xa_ok h; subst e
  obtain ⟨r1, l, e, h2⟩ := sy_xa_ok h1; subst e
  obtain ⟨e, h3⟩ := sy_xn_ok h2; subst e
  exact ⟨_, h3, fun r1 h0 => ⟨qX2_takeOver, rfl, rfl, jtX2_takeOver _ _ M r1 h0⟩⟩
/-! X10_byteAt StairMeter$Tape byteAt (I)I [('R', 1), 'I'] -/
def jfX10_byteAt (a1 : Int32) (M : sy_M) : sy_O :=
  if a1 < 0 then
    sy_ri 0 M
  else
    if a1 < 400 then
      sy_bx (xe_in a1 400) <|
      sy_ri (M 2 (Int32.toNatClampNeg a1)) M
    else
      sy_ri 0 M
set_option maxRecDepth 100000 in
theorem jrX10_byteAt (a1 : Int32) (M : sy_M) : sy_run skX10 qX10_byteAt [(0, .iload_n 1, 1, []), (1, .ifCond .lt 19, 3, []), (4, .iload_n 1, 1, []), (5, .sipush 400, 3, []), (8, .if_icmp .ge 12, 3, []), (11, .aload_n 0, 1, []), (12, .getfield 9, 3, []), (15, .iload_n 1, 1, []), (16, .iaload, 1, []), (17, .goto 4, 3, []), (20, .iconst 0, 1, [false, false]), (21, .ireturn, 1, [false, false])] [] [] 13 [] 0 [.ref 1, .int a1] [] M = jfX10_byteAt a1 M := rfl
theorem jtX10_byteAt : ∀ (a1 : Int32) (M : sy_M) (r : xe_R × sy_M), jfX10_byteAt a1 M = some r → sy_E (1) qX10_byteAt 0 [.ref 1, .int a1] [] M r := by
  intro a1 M r h
  exact sy_run_by (d := 0) ((jrX10_byteAt _ M).trans h) hkX10 (by decide +kernel) sy_cs_nil sy_us_nil
def jcX10_byteAt (as : List Value) (M : sy_M) (K : sy_O → sy_O) : sy_O := sy_xc 1 as fun l => sy_xi l fun a1 l => sy_xn l (K (jfX10_byteAt a1 M))
theorem jeX10_byteAt : sy_snd (1) 77 (jcX10_byteAt) := by
  intro as M K r h
  obtain ⟨l, e, h1⟩ := sy_xc_ok h; subst e
  obtain ⟨a1, l, e, h2⟩ := sy_xi_ok h1; subst e
  obtain ⟨e, h3⟩ := sy_xn_ok h2; subst e
  exact ⟨_, h3, fun r1 h0 => ⟨qX10_byteAt, rfl, rfl, jtX10_byteAt _ M r1 h0⟩⟩
/-! X10_numberAt StairMeter$Tape numberAt (II)I [('R', 1), 'I', 'I'] -/
def juX10_numberAt_5 (k : Int32 → Int32 → Int32 → Int32 → sy_M → sy_O) (ls st : List Value) (M : sy_M) : sy_O := sy_xc 1 ls fun l => sy_xi l fun a1 l => sy_xi l fun a2 l => sy_xi l fun a3 l => sy_xi l fun a4 l => sy_xn l (sy_xn st (k a1 a2 a3 a4 M))
theorem jwX10_numberAt_5 {d : Nat} {k : Int32 → Int32 → Int32 → Int32 → sy_M → sy_O} (hk : ∀ (a1 : Int32) (a2 : Int32) (a3 : Int32) (a4 : Int32) (M : sy_M) (r : xe_R × sy_M), k a1 a2 a3 a4 M = some r → sy_E (d) qX10_numberAt 5 [.ref 1, .int a1, .int a2, .int a3, .int a4] [] M r) : ∀ ls st M r, juX10_numberAt_5 k ls st M = some r → sy_E d qX10_numberAt 5 ls st M r := by
  intro ls st M r h
  obtain ⟨l, e, h1⟩ := sy_xc_ok h; subst e
  obtain ⟨a1, l, e, h2⟩ := sy_xi_ok h1; subst e
  obtain ⟨a2, l, e, h3⟩ := sy_xi_ok h2; subst e
  obtain ⟨a3, l, e, h4⟩ := sy_xi_ok h3; subst e
  obtain ⟨a4, l, e, h5⟩ := sy_xi_ok h4; subst e
  obtain ⟨e, h6⟩ := sy_xn_ok h5; subst e
  obtain ⟨e, h7⟩ := sy_xn_ok h6; subst e
  exact hk a1 a2 a3 a4 M r h7
def jgX10_numberAt_5 (k5 : Int32 → Int32 → Int32 → Int32 → sy_M → sy_O) (a1 : Int32) (a2 : Int32) (a3 : Int32) (a4 : Int32) (M : sy_M) : sy_O :=
  if a4 < a2 then
    if a4 < (a1 + 3) then
      sy_bi (jfX10_byteAt a4 M) fun v2 M1 =>
      let v3 := (((10 * a3) + v2) - 48)
      let v4 := a4 + 1
      k5 a1 a2 v3 v4 M1
    else
      sy_ri a3 M
  else
    sy_ri a3 M
def jfX10_numberAt_5 : Nat → Int32 → Int32 → Int32 → Int32 → sy_M → sy_O
  | 0, _, _, _, _, _ => none
  | n + 1, a1, a2, a3, a4, M => jgX10_numberAt_5 (jfX10_numberAt_5 n) a1 a2 a3 a4 M
set_option maxRecDepth 100000 in
theorem jrX10_numberAt_5 (k5 : Int32 → Int32 → Int32 → Int32 → sy_M → sy_O) (a1 : Int32) (a2 : Int32) (a3 : Int32) (a4 : Int32) (M : sy_M) : sy_run skX10 qX10_numberAt [(5, .iload 4, 2, []), (7, .iload_n 2, 1, []), (8, .if_icmp .ge 32, 3, []), (11, .iload 4, 2, []), (13, .iload_n 1, 1, []), (14, .iconst 3, 1, []), (15, .iadd, 1, []), (16, .if_icmp .ge 24, 3, []), (19, .bipush 10, 2, []), (21, .iload_n 3, 1, []), (22, .imul, 1, []), (23, .aload_n 0, 1, []), (24, .iload 4, 2, []), (26, .invokevirtual 41, 3, []), (29, .iadd, 1, []), (30, .bipush 48, 2, []), (32, .isub, 1, []), (33, .istore_n 3, 1, []), (34, .iinc 4 1, 3, []), (37, .goto (-32), 3, []), (40, .iload_n 3, 1, [false, false, false, true, false]), (41, .ireturn, 1, [])] [(77, 0, jcX10_byteAt)] [(5, juX10_numberAt_5 k5)] 23 [] 5 [.ref 1, .int a1, .int a2, .int a3, .int a4] [] M = jgX10_numberAt_5 k5 a1 a2 a3 a4 M := rfl
theorem jtX10_numberAt_5 : ∀ n : Nat, ∀ (a1 : Int32) (a2 : Int32) (a3 : Int32) (a4 : Int32) (M : sy_M) (r : xe_R × sy_M), jfX10_numberAt_5 n a1 a2 a3 a4 M = some r → sy_E (2) qX10_numberAt 5 [.ref 1, .int a1, .int a2, .int a3, .int a4] [] M r := by
  intro n
  induction n with
  | zero => intro a1 a2 a3 a4 M r h; exact absurd (show (none : sy_O) = some r from h) (by simp)
  | succ n ih => intro a1 a2 a3 a4 M r h; exact sy_run_by (d := 1) ((jrX10_numberAt_5 _ _ _ _ _ M).trans h) hkX10 (by decide +kernel) (sy_cs_cons (jeX10_byteAt.deep (by decide)) sy_cs_nil) (sy_us_cons (jwX10_numberAt_5 ih) sy_us_nil)
def jfX10_numberAt (a1 : Int32) (a2 : Int32) (M : sy_M) : sy_O :=
  jfX10_numberAt_5 sy_F a1 a2 0 a1 M
set_option maxRecDepth 100000 in
theorem jrX10_numberAt (a1 : Int32) (a2 : Int32) (M : sy_M) : sy_run skX10 qX10_numberAt [(0, .iconst 0, 1, []), (1, .istore_n 3, 1, []), (2, .iload_n 1, 1, []), (3, .istore 4, 2, [])] [] [(5, juX10_numberAt_5 (jfX10_numberAt_5 sy_F))] 5 [] 0 [.ref 1, .int a1, .int a2, xe_no, xe_no] [] M = jfX10_numberAt a1 a2 M := rfl
theorem jtX10_numberAt : ∀ (a1 : Int32) (a2 : Int32) (M : sy_M) (r : xe_R × sy_M), jfX10_numberAt a1 a2 M = some r → sy_E (2) qX10_numberAt 0 [.ref 1, .int a1, .int a2, xe_no, xe_no] [] M r := by
  intro a1 a2 M r h
  exact sy_run_by (d := 1) ((jrX10_numberAt _ _ M).trans h) hkX10 (by decide +kernel) sy_cs_nil (sy_us_cons (jwX10_numberAt_5 (jtX10_numberAt_5 sy_F)) sy_us_nil)
def jcX10_numberAt (as : List Value) (M : sy_M) (K : sy_O → sy_O) : sy_O := sy_xc 1 as fun l => sy_xi l fun a1 l => sy_xi l fun a2 l => sy_xn l (K (jfX10_numberAt a1 a2 M))
theorem jeX10_numberAt : sy_snd (2) 83 (jcX10_numberAt) := by
  intro as M K r h
  obtain ⟨l, e, h1⟩ := sy_xc_ok h; subst e
  obtain ⟨a1, l, e, h2⟩ := sy_xi_ok h1; subst e
  obtain ⟨a2, l, e, h3⟩ := sy_xi_ok h2; subst e
  obtain ⟨e, h4⟩ := sy_xn_ok h3; subst e
  exact ⟨_, h4, fun r1 h0 => ⟨qX10_numberAt, rfl, rfl, jtX10_numberAt _ _ M r1 h0⟩⟩
/-! X10_kindOf StairMeter$Tape kindOf (I)I ['I'] -/
def juX10_kindOf_16 (k : Int32 → sy_M → sy_O) (ls st : List Value) (M : sy_M) : sy_O := sy_xi ls fun a0 l => sy_xn l (sy_xn st (k a0 M))
theorem jwX10_kindOf_16 {d : Nat} {k : Int32 → sy_M → sy_O} (hk : ∀ (a0 : Int32) (M : sy_M) (r : xe_R × sy_M), k a0 M = some r → sy_E (d) qX10_kindOf 16 [.int a0] [] M r) : ∀ ls st M r, juX10_kindOf_16 k ls st M = some r → sy_E d qX10_kindOf 16 ls st M r := by
  intro ls st M r h
  obtain ⟨a0, l, e, h1⟩ := sy_xi_ok h; subst e
  obtain ⟨e, h2⟩ := sy_xn_ok h1; subst e
  obtain ⟨e, h3⟩ := sy_xn_ok h2; subst e
  exact hk a0 M r h3
def jfX10_kindOf_16 (a0 : Int32) (M : sy_M) : sy_O :=
  if a0 < 48 then
    sy_ri (-1) M
  else
    if 57 < a0 then
      sy_ri (-1) M
    else
      sy_ri 257 M
set_option maxRecDepth 100000 in
theorem jrX10_kindOf_16 (a0 : Int32) (M : sy_M) : sy_run skX10 qX10_kindOf [(16, .iload_n 0, 1, []), (17, .bipush 48, 2, []), (19, .if_icmp .lt 15, 3, []), (22, .iload_n 0, 1, []), (23, .bipush 57, 2, []), (25, .if_icmp .gt 9, 3, []), (28, .sipush 257, 3, []), (31, .goto 4, 3, []), (34, .iconst (-1), 1, [false]), (35, .ireturn, 1, [false])] [] [] 11 [] 16 [.int a0] [] M = jfX10_kindOf_16 a0 M := rfl
theorem jtX10_kindOf_16 : ∀ (a0 : Int32) (M : sy_M) (r : xe_R × sy_M), jfX10_kindOf_16 a0 M = some r → sy_E (1) qX10_kindOf 16 [.int a0] [] M r := by
  intro a0 M r h
  exact sy_run_by (d := 0) ((jrX10_kindOf_16 _ M).trans h) hkX10 (by decide +kernel) sy_cs_nil sy_us_nil
def jfX10_kindOf (a0 : Int32) (M : sy_M) : sy_O :=
  if a0 < 97 then
    jfX10_kindOf_16 a0 M
  else
    if 122 < a0 then
      jfX10_kindOf_16 a0 M
    else
      sy_ri 259 M
set_option maxRecDepth 100000 in
theorem jrX10_kindOf (a0 : Int32) (M : sy_M) : sy_run skX10 qX10_kindOf [(0, .iload_n 0, 1, []), (1, .bipush 97, 2, []), (3, .if_icmp .lt 13, 3, []), (6, .iload_n 0, 1, []), (7, .bipush 122, 2, []), (9, .if_icmp .gt 7, 3, []), (12, .sipush 259, 3, []), (15, .ireturn, 1, [])] [] [(16, juX10_kindOf_16 (jfX10_kindOf_16))] 9 [] 0 [.int a0] [] M = jfX10_kindOf a0 M := rfl
theorem jtX10_kindOf : ∀ (a0 : Int32) (M : sy_M) (r : xe_R × sy_M), jfX10_kindOf a0 M = some r → sy_E (1) qX10_kindOf 0 [.int a0] [] M r := by
  intro a0 M r h
  exact sy_run_by (d := 0) ((jrX10_kindOf _ M).trans h) hkX10 (by decide +kernel) sy_cs_nil (sy_us_cons (jwX10_kindOf_16 (jtX10_kindOf_16)) sy_us_nil)
def jcX10_kindOf (as : List Value) (M : sy_M) (K : sy_O → sy_O) : sy_O := sy_xi as fun a0 l => sy_xn l (K (jfX10_kindOf a0 M))
theorem jeX10_kindOf : sy_snd (1) 80 (jcX10_kindOf) := by
  intro as M K r h
  obtain ⟨a0, l, e, h1⟩ := sy_xi_ok h; subst e
  obtain ⟨e, h2⟩ := sy_xn_ok h1; subst e
  exact ⟨_, h2, fun r1 h0 => ⟨qX10_kindOf, rfl, rfl, jtX10_kindOf _ M r1 h0⟩⟩
/-! X10_wordAt StairMeter$Tape wordAt (II)I [('R', 1), 'I', 'I'] -/
def juX10_wordAt_104 (k : Int32 → Int32 → Int32 → Int32 → Int32 → sy_M → sy_O) (ls st : List Value) (M : sy_M) : sy_O := sy_xc 1 ls fun l => sy_xi l fun a1 l => sy_xi l fun a2 l => sy_xi l fun a3 l => sy_xi l fun a4 l => sy_xi l fun a5 l => sy_xv l fun _ l => sy_xn l (sy_xn st (k a1 a2 a3 a4 a5 M))
theorem jwX10_wordAt_104 {d : Nat} {k : Int32 → Int32 → Int32 → Int32 → Int32 → sy_M → sy_O} (hk : ∀ (w6 : Value) (a1 : Int32) (a2 : Int32) (a3 : Int32) (a4 : Int32) (a5 : Int32) (M : sy_M) (r : xe_R × sy_M), k a1 a2 a3 a4 a5 M = some r → sy_E (d) qX10_wordAt 104 [.ref 1, .int a1, .int a2, .int a3, .int a4, .int a5, w6] [] M r) : ∀ ls st M r, juX10_wordAt_104 k ls st M = some r → sy_E d qX10_wordAt 104 ls st M r := by
  intro ls st M r h
  obtain ⟨l, e, h1⟩ := sy_xc_ok h; subst e
  obtain ⟨a1, l, e, h2⟩ := sy_xi_ok h1; subst e
  obtain ⟨a2, l, e, h3⟩ := sy_xi_ok h2; subst e
  obtain ⟨a3, l, e, h4⟩ := sy_xi_ok h3; subst e
  obtain ⟨a4, l, e, h5⟩ := sy_xi_ok h4; subst e
  obtain ⟨a5, l, e, h6⟩ := sy_xi_ok h5; subst e
  obtain ⟨w6, l, e, h7⟩ := sy_xv_ok h6; subst e
  obtain ⟨e, h8⟩ := sy_xn_ok h7; subst e
  obtain ⟨e, h9⟩ := sy_xn_ok h8; subst e
  exact hk _ a1 a2 a3 a4 a5 M r h9
def juX10_wordAt_102 (k : Int32 → Int32 → Int32 → Int32 → Int32 → sy_M → sy_O) (ls st : List Value) (M : sy_M) : sy_O := sy_xc 1 ls fun l => sy_xi l fun a1 l => sy_xi l fun a2 l => sy_xi l fun a3 l => sy_xv l fun _ l => sy_xi l fun a5 l => sy_xv l fun _ l => sy_xn l (sy_xi st fun s0 l => sy_xn l (k a1 a2 a3 a5 s0 M))
theorem jwX10_wordAt_102 {d : Nat} {k : Int32 → Int32 → Int32 → Int32 → Int32 → sy_M → sy_O} (hk : ∀ (w4 : Value) (w6 : Value) (a1 : Int32) (a2 : Int32) (a3 : Int32) (a5 : Int32) (s0 : Int32) (M : sy_M) (r : xe_R × sy_M), k a1 a2 a3 a5 s0 M = some r → sy_E (d) qX10_wordAt 102 [.ref 1, .int a1, .int a2, .int a3, w4, .int a5, w6] [.int s0] M r) : ∀ ls st M r, juX10_wordAt_102 k ls st M = some r → sy_E d qX10_wordAt 102 ls st M r := by
  intro ls st M r h
  obtain ⟨l, e, h1⟩ := sy_xc_ok h; subst e
  obtain ⟨a1, l, e, h2⟩ := sy_xi_ok h1; subst e
  obtain ⟨a2, l, e, h3⟩ := sy_xi_ok h2; subst e
  obtain ⟨a3, l, e, h4⟩ := sy_xi_ok h3; subst e
  obtain ⟨w4, l, e, h5⟩ := sy_xv_ok h4; subst e
  obtain ⟨a5, l, e, h6⟩ := sy_xi_ok h5; subst e
  obtain ⟨w6, l, e, h7⟩ := sy_xv_ok h6; subst e
  obtain ⟨e, h8⟩ := sy_xn_ok h7; subst e
  obtain ⟨s0, l, e, h9⟩ := sy_xi_ok h8; subst e
  obtain ⟨e, h10⟩ := sy_xn_ok h9; subst e
  exact hk _ _ a1 a2 a3 a5 s0 M r h10
def juX10_wordAt_87 (k : Int32 → Int32 → Int32 → Int32 → Int32 → Int32 → sy_M → sy_O) (ls st : List Value) (M : sy_M) : sy_O := sy_xc 1 ls fun l => sy_xi l fun a1 l => sy_xi l fun a2 l => sy_xi l fun a3 l => sy_xi l fun a4 l => sy_xi l fun a5 l => sy_xv l fun _ l => sy_xn l (sy_xi st fun s0 l => sy_xn l (k a1 a2 a3 a4 a5 s0 M))
theorem jwX10_wordAt_87 {d : Nat} {k : Int32 → Int32 → Int32 → Int32 → Int32 → Int32 → sy_M → sy_O} (hk : ∀ (w6 : Value) (a1 : Int32) (a2 : Int32) (a3 : Int32) (a4 : Int32) (a5 : Int32) (s0 : Int32) (M : sy_M) (r : xe_R × sy_M), k a1 a2 a3 a4 a5 s0 M = some r → sy_E (d) qX10_wordAt 87 [.ref 1, .int a1, .int a2, .int a3, .int a4, .int a5, w6] [.int s0] M r) : ∀ ls st M r, juX10_wordAt_87 k ls st M = some r → sy_E d qX10_wordAt 87 ls st M r := by
  intro ls st M r h
  obtain ⟨l, e, h1⟩ := sy_xc_ok h; subst e
  obtain ⟨a1, l, e, h2⟩ := sy_xi_ok h1; subst e
  obtain ⟨a2, l, e, h3⟩ := sy_xi_ok h2; subst e
  obtain ⟨a3, l, e, h4⟩ := sy_xi_ok h3; subst e
  obtain ⟨a4, l, e, h5⟩ := sy_xi_ok h4; subst e
  obtain ⟨a5, l, e, h6⟩ := sy_xi_ok h5; subst e
  obtain ⟨w6, l, e, h7⟩ := sy_xv_ok h6; subst e
  obtain ⟨e, h8⟩ := sy_xn_ok h7; subst e
  obtain ⟨s0, l, e, h9⟩ := sy_xi_ok h8; subst e
  obtain ⟨e, h10⟩ := sy_xn_ok h9; subst e
  exact hk _ a1 a2 a3 a4 a5 s0 M r h10
def juX10_wordAt_86 (k : Int32 → Int32 → Int32 → Int32 → Int32 → sy_M → sy_O) (ls st : List Value) (M : sy_M) : sy_O := sy_xc 1 ls fun l => sy_xi l fun a1 l => sy_xi l fun a2 l => sy_xi l fun a3 l => sy_xi l fun a4 l => sy_xi l fun a5 l => sy_xv l fun _ l => sy_xn l (sy_xn st (k a1 a2 a3 a4 a5 M))
theorem jwX10_wordAt_86 {d : Nat} {k : Int32 → Int32 → Int32 → Int32 → Int32 → sy_M → sy_O} (hk : ∀ (w6 : Value) (a1 : Int32) (a2 : Int32) (a3 : Int32) (a4 : Int32) (a5 : Int32) (M : sy_M) (r : xe_R × sy_M), k a1 a2 a3 a4 a5 M = some r → sy_E (d) qX10_wordAt 86 [.ref 1, .int a1, .int a2, .int a3, .int a4, .int a5, w6] [] M r) : ∀ ls st M r, juX10_wordAt_86 k ls st M = some r → sy_E d qX10_wordAt 86 ls st M r := by
  intro ls st M r h
  obtain ⟨l, e, h1⟩ := sy_xc_ok h; subst e
  obtain ⟨a1, l, e, h2⟩ := sy_xi_ok h1; subst e
  obtain ⟨a2, l, e, h3⟩ := sy_xi_ok h2; subst e
  obtain ⟨a3, l, e, h4⟩ := sy_xi_ok h3; subst e
  obtain ⟨a4, l, e, h5⟩ := sy_xi_ok h4; subst e
  obtain ⟨a5, l, e, h6⟩ := sy_xi_ok h5; subst e
  obtain ⟨w6, l, e, h7⟩ := sy_xv_ok h6; subst e
  obtain ⟨e, h8⟩ := sy_xn_ok h7; subst e
  obtain ⟨e, h9⟩ := sy_xn_ok h8; subst e
  exact hk _ a1 a2 a3 a4 a5 M r h9
def juX10_wordAt_10 (k : Int32 → Int32 → Int32 → Int32 → Int32 → sy_M → sy_O) (ls st : List Value) (M : sy_M) : sy_O := sy_xc 1 ls fun l => sy_xi l fun a1 l => sy_xi l fun a2 l => sy_xi l fun a3 l => sy_xi l fun a4 l => sy_xi l fun a5 l => sy_xv l fun _ l => sy_xn l (sy_xn st (k a1 a2 a3 a4 a5 M))
theorem jwX10_wordAt_10 {d : Nat} {k : Int32 → Int32 → Int32 → Int32 → Int32 → sy_M → sy_O} (hk : ∀ (w6 : Value) (a1 : Int32) (a2 : Int32) (a3 : Int32) (a4 : Int32) (a5 : Int32) (M : sy_M) (r : xe_R × sy_M), k a1 a2 a3 a4 a5 M = some r → sy_E (d) qX10_wordAt 10 [.ref 1, .int a1, .int a2, .int a3, .int a4, .int a5, w6] [] M r) : ∀ ls st M r, juX10_wordAt_10 k ls st M = some r → sy_E d qX10_wordAt 10 ls st M r := by
  intro ls st M r h
  obtain ⟨l, e, h1⟩ := sy_xc_ok h; subst e
  obtain ⟨a1, l, e, h2⟩ := sy_xi_ok h1; subst e
  obtain ⟨a2, l, e, h3⟩ := sy_xi_ok h2; subst e
  obtain ⟨a3, l, e, h4⟩ := sy_xi_ok h3; subst e
  obtain ⟨a4, l, e, h5⟩ := sy_xi_ok h4; subst e
  obtain ⟨a5, l, e, h6⟩ := sy_xi_ok h5; subst e
  obtain ⟨w6, l, e, h7⟩ := sy_xv_ok h6; subst e
  obtain ⟨e, h8⟩ := sy_xn_ok h7; subst e
  obtain ⟨e, h9⟩ := sy_xn_ok h8; subst e
  exact hk _ a1 a2 a3 a4 a5 M r h9
def jfX10_wordAt_104 (k10 : Int32 → Int32 → Int32 → Int32 → Int32 → sy_M → sy_O) (a1 : Int32) (a2 : Int32) (a3 : Int32) (a4 : Int32) (a5 : Int32) (M : sy_M) : sy_O :=
  let v1 := a5 + 1
  k10 a1 a2 a3 a4 v1 M
set_option maxRecDepth 100000 in
theorem jrX10_wordAt_104 (k10 : Int32 → Int32 → Int32 → Int32 → Int32 → sy_M → sy_O) (w6 : Value) (a1 : Int32) (a2 : Int32) (a3 : Int32) (a4 : Int32) (a5 : Int32) (M : sy_M) : sy_run skX10 qX10_wordAt [(104, .iinc 5 1, 3, [true, true, true, true, true, true, false]), (107, .goto (-97), 3, [])] [] [(10, juX10_wordAt_10 k10)] 3 [] 104 [.ref 1, .int a1, .int a2, .int a3, .int a4, .int a5, w6] [] M = jfX10_wordAt_104 k10 a1 a2 a3 a4 a5 M := rfl
theorem jtX10_wordAt_104 {k10 : Int32 → Int32 → Int32 → Int32 → Int32 → sy_M → sy_O} (hk10 : ∀ (w6 : Value) (a1 : Int32) (a2 : Int32) (a3 : Int32) (a4 : Int32) (a5 : Int32) (M : sy_M) (r : xe_R × sy_M), k10 a1 a2 a3 a4 a5 M = some r → sy_E (2) qX10_wordAt 10 [.ref 1, .int a1, .int a2, .int a3, .int a4, .int a5, w6] [] M r) : ∀ (w6 : Value) (a1 : Int32) (a2 : Int32) (a3 : Int32) (a4 : Int32) (a5 : Int32) (M : sy_M) (r : xe_R × sy_M), jfX10_wordAt_104 k10 a1 a2 a3 a4 a5 M = some r → sy_E (2) qX10_wordAt 104 [.ref 1, .int a1, .int a2, .int a3, .int a4, .int a5, w6] [] M r := by
  intro w6 a1 a2 a3 a4 a5 M r h
  exact sy_run_by (d := 1) ((jrX10_wordAt_104 _ _ _ _ _ _ _ M).trans h) hkX10 (by decide +kernel) sy_cs_nil (sy_us_cons (jwX10_wordAt_10 hk10) sy_us_nil)
def jfX10_wordAt_102 (k10 : Int32 → Int32 → Int32 → Int32 → Int32 → sy_M → sy_O) (a1 : Int32) (a2 : Int32) (a3 : Int32) (a5 : Int32) (s0 : Int32) (M : sy_M) : sy_O :=
  jfX10_wordAt_104 k10 a1 a2 a3 s0 a5 M
set_option maxRecDepth 100000 in
theorem jrX10_wordAt_102 (k10 : Int32 → Int32 → Int32 → Int32 → Int32 → sy_M → sy_O) (w4 : Value) (w6 : Value) (a1 : Int32) (a2 : Int32) (a3 : Int32) (a5 : Int32) (s0 : Int32) (M : sy_M) : sy_run skX10 qX10_wordAt [(102, .istore 4, 2, [true, true, true, true, false, true, false])] [] [(104, juX10_wordAt_104 (jfX10_wordAt_104 k10))] 2 [] 102 [.ref 1, .int a1, .int a2, .int a3, w4, .int a5, w6] [.int s0] M = jfX10_wordAt_102 k10 a1 a2 a3 a5 s0 M := rfl
theorem jtX10_wordAt_102 {k10 : Int32 → Int32 → Int32 → Int32 → Int32 → sy_M → sy_O} (hk10 : ∀ (w6 : Value) (a1 : Int32) (a2 : Int32) (a3 : Int32) (a4 : Int32) (a5 : Int32) (M : sy_M) (r : xe_R × sy_M), k10 a1 a2 a3 a4 a5 M = some r → sy_E (2) qX10_wordAt 10 [.ref 1, .int a1, .int a2, .int a3, .int a4, .int a5, w6] [] M r) : ∀ (w4 : Value) (w6 : Value) (a1 : Int32) (a2 : Int32) (a3 : Int32) (a5 : Int32) (s0 : Int32) (M : sy_M) (r : xe_R × sy_M), jfX10_wordAt_102 k10 a1 a2 a3 a5 s0 M = some r → sy_E (2) qX10_wordAt 102 [.ref 1, .int a1, .int a2, .int a3, w4, .int a5, w6] [.int s0] M r := by
  intro w4 w6 a1 a2 a3 a5 s0 M r h
  exact sy_run_by (d := 1) ((jrX10_wordAt_102 _ _ _ _ _ _ _ _ M).trans h) hkX10 (by decide +kernel) sy_cs_nil (sy_us_cons (jwX10_wordAt_104 (jtX10_wordAt_104 hk10)) sy_us_nil)
def jfX10_wordAt_87 (k10 : Int32 → Int32 → Int32 → Int32 → Int32 → sy_M → sy_O) (a1 : Int32) (a2 : Int32) (a3 : Int32) (a4 : Int32) (a5 : Int32) (s0 : Int32) (M : sy_M) : sy_O :=
  if s0 = 0 then
    jfX10_wordAt_102 k10 a1 a2 a3 a5 (-1) M
  else
    jfX10_wordAt_102 k10 a1 a2 a3 a5 (a4 + 1) M
set_option maxRecDepth 100000 in
theorem jrX10_wordAt_87 (k10 : Int32 → Int32 → Int32 → Int32 → Int32 → sy_M → sy_O) (w6 : Value) (a1 : Int32) (a2 : Int32) (a3 : Int32) (a4 : Int32) (a5 : Int32) (s0 : Int32) (M : sy_M) : sy_run skX10 qX10_wordAt [(87, .istore 6, 2, [true, true, true, true, true, true, false]), (89, .iload 6, 2, []), (91, .ifCond .eq 10, 3, []), (94, .iload 4, 2, []), (96, .iconst 1, 1, []), (97, .iadd, 1, []), (98, .goto 4, 3, []), (101, .iconst (-1), 1, [true, true, true, true, false, true, false])] [] [(102, juX10_wordAt_102 (jfX10_wordAt_102 k10))] 9 [] 87 [.ref 1, .int a1, .int a2, .int a3, .int a4, .int a5, w6] [.int s0] M = jfX10_wordAt_87 k10 a1 a2 a3 a4 a5 s0 M := rfl
theorem jtX10_wordAt_87 {k10 : Int32 → Int32 → Int32 → Int32 → Int32 → sy_M → sy_O} (hk10 : ∀ (w6 : Value) (a1 : Int32) (a2 : Int32) (a3 : Int32) (a4 : Int32) (a5 : Int32) (M : sy_M) (r : xe_R × sy_M), k10 a1 a2 a3 a4 a5 M = some r → sy_E (2) qX10_wordAt 10 [.ref 1, .int a1, .int a2, .int a3, .int a4, .int a5, w6] [] M r) : ∀ (w6 : Value) (a1 : Int32) (a2 : Int32) (a3 : Int32) (a4 : Int32) (a5 : Int32) (s0 : Int32) (M : sy_M) (r : xe_R × sy_M), jfX10_wordAt_87 k10 a1 a2 a3 a4 a5 s0 M = some r → sy_E (2) qX10_wordAt 87 [.ref 1, .int a1, .int a2, .int a3, .int a4, .int a5, w6] [.int s0] M r := by
  intro w6 a1 a2 a3 a4 a5 s0 M r h
  exact sy_run_by (d := 1) ((jrX10_wordAt_87 _ _ _ _ _ _ _ _ M).trans h) hkX10 (by decide +kernel) sy_cs_nil (sy_us_cons (jwX10_wordAt_102 (jtX10_wordAt_102 hk10)) sy_us_nil)
def jfX10_wordAt_86 (k10 : Int32 → Int32 → Int32 → Int32 → Int32 → sy_M → sy_O) (a1 : Int32) (a2 : Int32) (a3 : Int32) (a4 : Int32) (a5 : Int32) (M : sy_M) : sy_O :=
  jfX10_wordAt_87 k10 a1 a2 a3 a4 a5 0 M
set_option maxRecDepth 100000 in
theorem jrX10_wordAt_86 (k10 : Int32 → Int32 → Int32 → Int32 → Int32 → sy_M → sy_O) (w6 : Value) (a1 : Int32) (a2 : Int32) (a3 : Int32) (a4 : Int32) (a5 : Int32) (M : sy_M) : sy_run skX10 qX10_wordAt [(86, .iconst 0, 1, [true, true, true, true, true, true, false])] [] [(87, juX10_wordAt_87 (jfX10_wordAt_87 k10))] 2 [] 86 [.ref 1, .int a1, .int a2, .int a3, .int a4, .int a5, w6] [] M = jfX10_wordAt_86 k10 a1 a2 a3 a4 a5 M := rfl
theorem jtX10_wordAt_86 {k10 : Int32 → Int32 → Int32 → Int32 → Int32 → sy_M → sy_O} (hk10 : ∀ (w6 : Value) (a1 : Int32) (a2 : Int32) (a3 : Int32) (a4 : Int32) (a5 : Int32) (M : sy_M) (r : xe_R × sy_M), k10 a1 a2 a3 a4 a5 M = some r → sy_E (2) qX10_wordAt 10 [.ref 1, .int a1, .int a2, .int a3, .int a4, .int a5, w6] [] M r) : ∀ (w6 : Value) (a1 : Int32) (a2 : Int32) (a3 : Int32) (a4 : Int32) (a5 : Int32) (M : sy_M) (r : xe_R × sy_M), jfX10_wordAt_86 k10 a1 a2 a3 a4 a5 M = some r → sy_E (2) qX10_wordAt 86 [.ref 1, .int a1, .int a2, .int a3, .int a4, .int a5, w6] [] M r := by
  intro w6 a1 a2 a3 a4 a5 M r h
  exact sy_run_by (d := 1) ((jrX10_wordAt_86 _ _ _ _ _ _ _ M).trans h) hkX10 (by decide +kernel) sy_cs_nil (sy_us_cons (jwX10_wordAt_87 (jtX10_wordAt_87 hk10)) sy_us_nil)
def jgX10_wordAt_10 (k10 : Int32 → Int32 → Int32 → Int32 → Int32 → sy_M → sy_O) (a1 : Int32) (a2 : Int32) (a3 : Int32) (a4 : Int32) (a5 : Int32) (M : sy_M) : sy_O :=
  if a5 < (Nat.toInt32 128) then
    sy_bx (xe_in a5 128) <|
    if (sy_sc 1500000 (Int32.toNatClampNeg a5)) = 32 then
      if a4 = (a2 - a1) then
        sy_ri a3 M
      else
        let v3 := a3 + 1
        jfX10_wordAt_104 k10 a1 a2 v3 0 a5 M
    else
      if a4 < 0 then
        jfX10_wordAt_86 k10 a1 a2 a3 a4 a5 M
      else
        if (a1 + a4) < a2 then
          sy_bi (jfX10_byteAt (a1 + a4) M) fun v2 M1 =>
          sy_bx (xe_in a5 128) <|
          if v2 = (sy_sc 1500000 (Int32.toNatClampNeg a5)) then
            jfX10_wordAt_87 k10 a1 a2 a3 a4 a5 1 M1
          else
            jfX10_wordAt_86 k10 a1 a2 a3 a4 a5 M1
        else
          jfX10_wordAt_86 k10 a1 a2 a3 a4 a5 M
  else
    sy_ri 258 M
def jfX10_wordAt_10 : Nat → Int32 → Int32 → Int32 → Int32 → Int32 → sy_M → sy_O
  | 0, _, _, _, _, _, _ => none
  | n + 1, a1, a2, a3, a4, a5, M => jgX10_wordAt_10 (jfX10_wordAt_10 n) a1 a2 a3 a4 a5 M
set_option maxRecDepth 100000 in
theorem jrX10_wordAt_10 (k10 : Int32 → Int32 → Int32 → Int32 → Int32 → sy_M → sy_O) (w6 : Value) (a1 : Int32) (a2 : Int32) (a3 : Int32) (a4 : Int32) (a5 : Int32) (M : sy_M) : sy_run skX10 qX10_wordAt [(10, .iload 5, 2, [true, true, true, true, true, true, false]), (12, .ldc 61, 2, []), (14, .invokevirtual 63, 3, []), (17, .if_icmp .ge 93, 3, []), (20, .ldc 61, 2, []), (22, .iload 5, 2, []), (24, .invokevirtual 68, 3, []), (27, .bipush 32, 2, []), (29, .if_icmp .ne 22, 3, []), (32, .iload 4, 2, []), (34, .iload_n 2, 1, []), (35, .iload_n 1, 1, []), (36, .isub, 1, []), (37, .if_icmp .ne 5, 3, []), (40, .iload_n 3, 1, []), (41, .ireturn, 1, []), (42, .iinc 3 1, 3, [true, true, true, true, false, true, false]), (45, .iconst 0, 1, []), (46, .istore 4, 2, []), (48, .goto 56, 3, []), (51, .iload 4, 2, [true, true, true, true, true, true, false]), (53, .ifCond .lt 33, 3, []), (56, .iload_n 1, 1, []), (57, .iload 4, 2, []), (59, .iadd, 1, []), (60, .iload_n 2, 1, []), (61, .if_icmp .ge 25, 3, []), (64, .aload_n 0, 1, []), (65, .iload_n 1, 1, []), (66, .iload 4, 2, []), (68, .iadd, 1, []), (69, .invokevirtual 41, 3, []), (72, .ldc 61, 2, []), (74, .iload 5, 2, []), (76, .invokevirtual 68, 3, []), (79, .if_icmp .ne 7, 3, []), (82, .iconst 1, 1, []), (83, .goto 4, 3, []), (110, .sipush 258, 3, [false, false, false, false, false, false, false]), (113, .ireturn, 1, [])] [(77, 0, jcX10_byteAt)] [(86, juX10_wordAt_86 (jfX10_wordAt_86 k10)), (87, juX10_wordAt_87 (jfX10_wordAt_87 k10)), (104, juX10_wordAt_104 (jfX10_wordAt_104 k10))] 41 [] 10 [.ref 1, .int a1, .int a2, .int a3, .int a4, .int a5, w6] [] M = jgX10_wordAt_10 k10 a1 a2 a3 a4 a5 M := rfl
theorem jtX10_wordAt_10 : ∀ n : Nat, ∀ (w6 : Value) (a1 : Int32) (a2 : Int32) (a3 : Int32) (a4 : Int32) (a5 : Int32) (M : sy_M) (r : xe_R × sy_M), jfX10_wordAt_10 n a1 a2 a3 a4 a5 M = some r → sy_E (2) qX10_wordAt 10 [.ref 1, .int a1, .int a2, .int a3, .int a4, .int a5, w6] [] M r := by
  intro n
  induction n with
  | zero => intro w6 a1 a2 a3 a4 a5 M r h; exact absurd (show (none : sy_O) = some r from h) (by simp)
  | succ n ih => intro w6 a1 a2 a3 a4 a5 M r h; exact sy_run_by (d := 1) ((jrX10_wordAt_10 _ _ _ _ _ _ _ M).trans h) hkX10 (by decide +kernel) (sy_cs_cons (jeX10_byteAt.deep (by decide)) sy_cs_nil) (sy_us_cons (jwX10_wordAt_86 (jtX10_wordAt_86 ih)) (sy_us_cons (jwX10_wordAt_87 (jtX10_wordAt_87 ih)) (sy_us_cons (jwX10_wordAt_104 (jtX10_wordAt_104 ih)) sy_us_nil)))
def jfX10_wordAt (a1 : Int32) (a2 : Int32) (M : sy_M) : sy_O :=
  jfX10_wordAt_10 sy_F a1 a2 260 0 0 M
set_option maxRecDepth 100000 in
theorem jrX10_wordAt (a1 : Int32) (a2 : Int32) (M : sy_M) : sy_run skX10 qX10_wordAt [(0, .sipush 260, 3, []), (3, .istore_n 3, 1, []), (4, .iconst 0, 1, []), (5, .istore 4, 2, []), (7, .iconst 0, 1, []), (8, .istore 5, 2, [])] [] [(10, juX10_wordAt_10 (jfX10_wordAt_10 sy_F))] 7 [] 0 [.ref 1, .int a1, .int a2, xe_no, xe_no, xe_no, xe_no] [] M = jfX10_wordAt a1 a2 M := rfl
theorem jtX10_wordAt : ∀ (a1 : Int32) (a2 : Int32) (M : sy_M) (r : xe_R × sy_M), jfX10_wordAt a1 a2 M = some r → sy_E (2) qX10_wordAt 0 [.ref 1, .int a1, .int a2, xe_no, xe_no, xe_no, xe_no] [] M r := by
  intro a1 a2 M r h
  exact sy_run_by (d := 1) ((jrX10_wordAt _ _ M).trans h) hkX10 (by decide +kernel) sy_cs_nil (sy_us_cons (jwX10_wordAt_10 (jtX10_wordAt_10 sy_F)) sy_us_nil)
def jcX10_wordAt (as : List Value) (M : sy_M) (K : sy_O → sy_O) : sy_O := sy_xc 1 as fun l => sy_xi l fun a1 l => sy_xi l fun a2 l => sy_xn l (K (jfX10_wordAt a1 a2 M))
theorem jeX10_wordAt : sy_snd (2) 84 (jcX10_wordAt) := by
  intro as M K r h
  obtain ⟨l, e, h1⟩ := sy_xc_ok h; subst e
  obtain ⟨a1, l, e, h2⟩ := sy_xi_ok h1; subst e
  obtain ⟨a2, l, e, h3⟩ := sy_xi_ok h2; subst e
  obtain ⟨e, h4⟩ := sy_xn_ok h3; subst e
  exact ⟨_, h4, fun r1 h0 => ⟨qX10_wordAt, rfl, rfl, jtX10_wordAt _ _ M r1 h0⟩⟩
/-! X10_thingAt StairMeter$Tape thingAt (II)I [('R', 1), 'I', 'I'] -/
def jfX10_thingAt (a1 : Int32) (a2 : Int32) (M : sy_M) : sy_O :=
  if a1 < a2 then
    sy_bi (jfX10_byteAt a1 M) fun v2 M1 =>
    sy_bi (jfX10_kindOf v2 M1) fun v4 M3 =>
    if v4 = 257 then
      if 3 < (a2 - a1) then
        sy_ri 258 M3
      else
        sy_ri 257 M3
    else
      if v4 = (-1) then
        sy_bi (jfX10_byteAt a1 M3) fun v8 M7 =>
        sy_ri v8 M7
      else
        sy_bi (jfX10_wordAt a1 a2 M3) fun v6 M5 =>
        sy_ri v6 M5
  else
    sy_ri 256 M
set_option maxRecDepth 100000 in
theorem jrX10_thingAt (a1 : Int32) (a2 : Int32) (M : sy_M) : sy_run skX10 qX10_thingAt [(0, .iload_n 1, 1, []), (1, .iload_n 2, 1, []), (2, .if_icmp .lt 7, 3, []), (5, .sipush 256, 3, []), (8, .ireturn, 1, []), (9, .aload_n 0, 1, [true, true, true, false]), (10, .iload_n 1, 1, []), (11, .invokevirtual 41, 3, []), (14, .invokestatic 49, 3, []), (17, .istore_n 3, 1, []), (18, .iload_n 3, 1, []), (19, .sipush 257, 3, []), (22, .if_icmp .ne 20, 3, []), (25, .iload_n 2, 1, []), (26, .iload_n 1, 1, []), (27, .isub, 1, []), (28, .iconst 3, 1, []), (29, .if_icmp .gt 9, 3, []), (32, .sipush 257, 3, []), (35, .goto 6, 3, []), (38, .sipush 258, 3, [false, false, false, false]), (41, .ireturn, 1, [false, false, false, false]), (42, .iload_n 3, 1, []), (43, .iconst (-1), 1, []), (44, .if_icmp .ne 11, 3, []), (47, .aload_n 0, 1, []), (48, .iload_n 1, 1, []), (49, .invokevirtual 41, 3, []), (52, .goto 9, 3, []), (55, .aload_n 0, 1, [true, true, true, false]), (56, .iload_n 1, 1, []), (57, .iload_n 2, 1, []), (58, .invokevirtual 58, 3, []), (61, .ireturn, 1, [false, false, false, false])] [(77, 0, jcX10_byteAt), (80, 0, jcX10_kindOf), (84, 0, jcX10_wordAt)] [] 35 [] 0 [.ref 1, .int a1, .int a2, xe_no] [] M = jfX10_thingAt a1 a2 M := rfl
theorem jtX10_thingAt : ∀ (a1 : Int32) (a2 : Int32) (M : sy_M) (r : xe_R × sy_M), jfX10_thingAt a1 a2 M = some r → sy_E (3) qX10_thingAt 0 [.ref 1, .int a1, .int a2, xe_no] [] M r := by
  intro a1 a2 M r h
  exact sy_run_by (d := 2) ((jrX10_thingAt _ _ M).trans h) hkX10 (by decide +kernel) (sy_cs_cons (jeX10_byteAt.deep (by decide)) (sy_cs_cons (jeX10_kindOf.deep (by decide)) (sy_cs_cons (jeX10_wordAt.deep (by decide)) sy_cs_nil))) sy_us_nil
def jcX10_thingAt (as : List Value) (M : sy_M) (K : sy_O → sy_O) : sy_O := sy_xc 1 as fun l => sy_xi l fun a1 l => sy_xi l fun a2 l => sy_xn l (K (jfX10_thingAt a1 a2 M))
theorem jeX10_thingAt : sy_snd (3) 82 (jcX10_thingAt) := by
  intro as M K r h
  obtain ⟨l, e, h1⟩ := sy_xc_ok h; subst e
  obtain ⟨a1, l, e, h2⟩ := sy_xi_ok h1; subst e
  obtain ⟨a2, l, e, h3⟩ := sy_xi_ok h2; subst e
  obtain ⟨e, h4⟩ := sy_xn_ok h3; subst e
  exact ⟨_, h4, fun r1 h0 => ⟨qX10_thingAt, rfl, rfl, jtX10_thingAt _ _ M r1 h0⟩⟩
/-! X10_addThing StairMeter$Tape addThing (II)V [('R', 1), 'I', 'I'] -/
def jfX10_addThing (a1 : Int32) (a2 : Int32) (M : sy_M) : sy_O :=
  if (M 1 5) < 0 then
    sy_rv M
  else
    if 400 < (M 1 5) then
      sy_rv M
    else
      sy_bx (xe_in (M 1 5) 401) <|
      let M1 := sy_upd M 4 (Int32.toNatClampNeg (M 1 5)) a1
      sy_bi (jfX10_numberAt a1 a2 M1) fun v3 M2 =>
      sy_bx (xe_in (M1 1 5) 401) <|
      let M4 := sy_upd M2 5 (Int32.toNatClampNeg (M1 1 5)) v3
      sy_bi (jfX10_thingAt a1 a2 M4) fun v6 M5 =>
      sy_bx (xe_in (M4 1 5) 401) <|
      let M7 := sy_upd M5 3 (Int32.toNatClampNeg (M4 1 5)) v6
      let M8 := sy_upd M7 1 5 ((M7 1 5) + 1)
      sy_rv M8
set_option maxRecDepth 100000 in
theorem jrX10_addThing (a1 : Int32) (a2 : Int32) (M : sy_M) : sy_run skX10 qX10_addThing [(0, .aload_n 0, 1, []), (1, .getfield 28, 3, []), (4, .ifCond .lt 13, 3, []), (7, .aload_n 0, 1, []), (8, .getfield 28, 3, []), (11, .sipush 400, 3, []), (14, .if_icmp .le 4, 3, []), (17, .return_, 1, [false, false, false]), (18, .aload_n 0, 1, []), (19, .getfield 18, 3, []), (22, .aload_n 0, 1, []), (23, .getfield 28, 3, []), (26, .iload_n 1, 1, []), (27, .iastore, 1, []), (28, .aload_n 0, 1, []), (29, .getfield 21, 3, []), (32, .aload_n 0, 1, []), (33, .getfield 28, 3, []), (36, .aload_n 0, 1, []), (37, .iload_n 1, 1, []), (38, .iload_n 2, 1, []), (39, .invokevirtual 52, 3, []), (42, .iastore, 1, []), (43, .aload_n 0, 1, []), (44, .getfield 15, 3, []), (47, .aload_n 0, 1, []), (48, .getfield 28, 3, []), (51, .aload_n 0, 1, []), (52, .iload_n 1, 1, []), (53, .iload_n 2, 1, []), (54, .invokevirtual 55, 3, []), (57, .iastore, 1, []), (58, .aload_n 0, 1, []), (59, .dup, 1, []), (60, .getfield 28, 3, []), (63, .iconst 1, 1, []), (64, .iadd, 1, []), (65, .putfield 28, 3, []), (68, .return_, 1, [])] [(83, 0, jcX10_numberAt), (82, 0, jcX10_thingAt)] [] 40 [] 0 [.ref 1, .int a1, .int a2] [] M = jfX10_addThing a1 a2 M := rfl
theorem jtX10_addThing : ∀ (a1 : Int32) (a2 : Int32) (M : sy_M) (r : xe_R × sy_M), jfX10_addThing a1 a2 M = some r → sy_E (4) qX10_addThing 0 [.ref 1, .int a1, .int a2] [] M r := by
  intro a1 a2 M r h
  exact sy_run_by (d := 3) ((jrX10_addThing _ _ M).trans h) hkX10 (by decide +kernel) (sy_cs_cons (jeX10_numberAt.deep (by decide)) (sy_cs_cons (jeX10_thingAt.deep (by decide)) sy_cs_nil)) sy_us_nil
def jcX10_addThing (as : List Value) (M : sy_M) (K : sy_O → sy_O) : sy_O := sy_xc 1 as fun l => sy_xi l fun a1 l => sy_xi l fun a2 l => sy_xn l (K (jfX10_addThing a1 a2 M))
theorem jeX10_addThing : sy_snd (4) 81 (jcX10_addThing) := by
  intro as M K r h
  obtain ⟨l, e, h1⟩ := sy_xc_ok h; subst e
  obtain ⟨a1, l, e, h2⟩ := sy_xi_ok h1; subst e
  obtain ⟨a2, l, e, h3⟩ := sy_xi_ok h2; subst e
  obtain ⟨e, h4⟩ := sy_xn_ok h3; subst e
  exact ⟨_, h4, fun r1 h0 => ⟨qX10_addThing, rfl, rfl, jtX10_addThing _ _ M r1 h0⟩⟩
/-! X10_behindThing StairMeter$Tape behindThing (II)I [('R', 1), 'I', 'I'] -/
def juX10_behindThing_14 (k : Int32 → Int32 → Int32 → sy_M → sy_O) (ls st : List Value) (M : sy_M) : sy_O := sy_xc 1 ls fun l => sy_xv l fun _ l => sy_xi l fun a2 l => sy_xi l fun a3 l => sy_xi l fun a4 l => sy_xn l (sy_xn st (k a2 a3 a4 M))
theorem jwX10_behindThing_14 {d : Nat} {k : Int32 → Int32 → Int32 → sy_M → sy_O} (hk : ∀ (w1 : Value) (a2 : Int32) (a3 : Int32) (a4 : Int32) (M : sy_M) (r : xe_R × sy_M), k a2 a3 a4 M = some r → sy_E (d) qX10_behindThing 14 [.ref 1, w1, .int a2, .int a3, .int a4] [] M r) : ∀ ls st M r, juX10_behindThing_14 k ls st M = some r → sy_E d qX10_behindThing 14 ls st M r := by
  intro ls st M r h
  obtain ⟨l, e, h1⟩ := sy_xc_ok h; subst e
  obtain ⟨w1, l, e, h2⟩ := sy_xv_ok h1; subst e
  obtain ⟨a2, l, e, h3⟩ := sy_xi_ok h2; subst e
  obtain ⟨a3, l, e, h4⟩ := sy_xi_ok h3; subst e
  obtain ⟨a4, l, e, h5⟩ := sy_xi_ok h4; subst e
  obtain ⟨e, h6⟩ := sy_xn_ok h5; subst e
  obtain ⟨e, h7⟩ := sy_xn_ok h6; subst e
  exact hk _ a2 a3 a4 M r h7
def jgX10_behindThing_14 (k14 : Int32 → Int32 → Int32 → sy_M → sy_O) (a2 : Int32) (a3 : Int32) (a4 : Int32) (M : sy_M) : sy_O :=
  if a3 = (-1) then
    sy_ri a4 M
  else
    if a4 < a2 then
      sy_bi (jfX10_byteAt a4 M) fun v2 M1 =>
      sy_bi (jfX10_kindOf v2 M1) fun v4 M3 =>
      if v4 = a3 then
        let v5 := a4 + 1
        k14 a2 a3 v5 M3
      else
        sy_ri a4 M3
    else
      sy_ri a4 M
def jfX10_behindThing_14 : Nat → Int32 → Int32 → Int32 → sy_M → sy_O
  | 0, _, _, _, _ => none
  | n + 1, a2, a3, a4, M => jgX10_behindThing_14 (jfX10_behindThing_14 n) a2 a3 a4 M
set_option maxRecDepth 100000 in
theorem jrX10_behindThing_14 (k14 : Int32 → Int32 → Int32 → sy_M → sy_O) (w1 : Value) (a2 : Int32) (a3 : Int32) (a4 : Int32) (M : sy_M) : sy_run skX10 qX10_behindThing [(14, .iload_n 3, 1, [true, false, true, true, true]), (15, .iconst (-1), 1, []), (16, .if_icmp .eq 28, 3, []), (19, .iload 4, 2, []), (21, .iload_n 2, 1, []), (22, .if_icmp .ge 22, 3, []), (25, .aload_n 0, 1, []), (26, .iload 4, 2, []), (28, .invokevirtual 41, 3, []), (31, .invokestatic 49, 3, []), (34, .iload_n 3, 1, []), (35, .if_icmp .ne 9, 3, []), (38, .iinc 4 1, 3, []), (41, .goto (-27), 3, []), (44, .iload 4, 2, [false, false, false, false, true]), (46, .ireturn, 1, [])] [(77, 0, jcX10_byteAt), (80, 0, jcX10_kindOf)] [(14, juX10_behindThing_14 k14)] 17 [] 14 [.ref 1, w1, .int a2, .int a3, .int a4] [] M = jgX10_behindThing_14 k14 a2 a3 a4 M := rfl
theorem jtX10_behindThing_14 : ∀ n : Nat, ∀ (w1 : Value) (a2 : Int32) (a3 : Int32) (a4 : Int32) (M : sy_M) (r : xe_R × sy_M), jfX10_behindThing_14 n a2 a3 a4 M = some r → sy_E (2) qX10_behindThing 14 [.ref 1, w1, .int a2, .int a3, .int a4] [] M r := by
  intro n
  induction n with
  | zero => intro w1 a2 a3 a4 M r h; exact absurd (show (none : sy_O) = some r from h) (by simp)
  | succ n ih => intro w1 a2 a3 a4 M r h; exact sy_run_by (d := 1) ((jrX10_behindThing_14 _ _ _ _ _ M).trans h) hkX10 (by decide +kernel) (sy_cs_cons (jeX10_byteAt.deep (by decide)) (sy_cs_cons (jeX10_kindOf.deep (by decide)) sy_cs_nil)) (sy_us_cons (jwX10_behindThing_14 ih) sy_us_nil)
def jfX10_behindThing (a1 : Int32) (a2 : Int32) (M : sy_M) : sy_O :=
  sy_bi (jfX10_byteAt a1 M) fun v2 M1 =>
  sy_bi (jfX10_kindOf v2 M1) fun v4 M3 =>
  let v5 := (a1 + 1)
  jfX10_behindThing_14 sy_F a2 v4 v5 M3
set_option maxRecDepth 100000 in
theorem jrX10_behindThing (a1 : Int32) (a2 : Int32) (M : sy_M) : sy_run skX10 qX10_behindThing [(0, .aload_n 0, 1, []), (1, .iload_n 1, 1, []), (2, .invokevirtual 41, 3, []), (5, .invokestatic 49, 3, []), (8, .istore_n 3, 1, []), (9, .iload_n 1, 1, []), (10, .iconst 1, 1, []), (11, .iadd, 1, []), (12, .istore 4, 2, [])] [(77, 0, jcX10_byteAt), (80, 0, jcX10_kindOf)] [(14, juX10_behindThing_14 (jfX10_behindThing_14 sy_F))] 10 [] 0 [.ref 1, .int a1, .int a2, xe_no, xe_no] [] M = jfX10_behindThing a1 a2 M := rfl
theorem jtX10_behindThing : ∀ (a1 : Int32) (a2 : Int32) (M : sy_M) (r : xe_R × sy_M), jfX10_behindThing a1 a2 M = some r → sy_E (2) qX10_behindThing 0 [.ref 1, .int a1, .int a2, xe_no, xe_no] [] M r := by
  intro a1 a2 M r h
  exact sy_run_by (d := 1) ((jrX10_behindThing _ _ M).trans h) hkX10 (by decide +kernel) (sy_cs_cons (jeX10_byteAt.deep (by decide)) (sy_cs_cons (jeX10_kindOf.deep (by decide)) sy_cs_nil)) (sy_us_cons (jwX10_behindThing_14 (jtX10_behindThing_14 sy_F)) sy_us_nil)
def jcX10_behindThing (as : List Value) (M : sy_M) (K : sy_O → sy_O) : sy_O := sy_xc 1 as fun l => sy_xi l fun a1 l => sy_xi l fun a2 l => sy_xn l (K (jfX10_behindThing a1 a2 M))
theorem jeX10_behindThing : sy_snd (2) 79 (jcX10_behindThing) := by
  intro as M K r h
  obtain ⟨l, e, h1⟩ := sy_xc_ok h; subst e
  obtain ⟨a1, l, e, h2⟩ := sy_xi_ok h1; subst e
  obtain ⟨a2, l, e, h3⟩ := sy_xi_ok h2; subst e
  obtain ⟨e, h4⟩ := sy_xn_ok h3; subst e
  exact ⟨_, h4, fun r1 h0 => ⟨qX10_behindThing, rfl, rfl, jtX10_behindThing _ _ M r1 h0⟩⟩
/-! X10_open StairMeter$Tape open ()V [('R', 1)] -/
def juX10_open_75 (k : Int32 → sy_M → sy_O) (ls st : List Value) (M : sy_M) : sy_O := sy_xc 1 ls fun l => sy_xi l fun a1 l => sy_xv l fun _ l => sy_xv l fun _ l => sy_xv l fun _ l => sy_xn l (sy_xn st (k a1 M))
theorem jwX10_open_75 {d : Nat} {k : Int32 → sy_M → sy_O} (hk : ∀ (w2 : Value) (w3 : Value) (w4 : Value) (a1 : Int32) (M : sy_M) (r : xe_R × sy_M), k a1 M = some r → sy_E (d) qX10_open 75 [.ref 1, .int a1, w2, w3, w4] [] M r) : ∀ ls st M r, juX10_open_75 k ls st M = some r → sy_E d qX10_open 75 ls st M r := by
  intro ls st M r h
  obtain ⟨l, e, h1⟩ := sy_xc_ok h; subst e
  obtain ⟨a1, l, e, h2⟩ := sy_xi_ok h1; subst e
  obtain ⟨w2, l, e, h3⟩ := sy_xv_ok h2; subst e
  obtain ⟨w3, l, e, h4⟩ := sy_xv_ok h3; subst e
  obtain ⟨w4, l, e, h5⟩ := sy_xv_ok h4; subst e
  obtain ⟨e, h6⟩ := sy_xn_ok h5; subst e
  obtain ⟨e, h7⟩ := sy_xn_ok h6; subst e
  exact hk _ _ _ a1 M r h7
def juX10_open_66 (k : Int32 → Int32 → Int32 → sy_M → sy_O) (ls st : List Value) (M : sy_M) : sy_O := sy_xc 1 ls fun l => sy_xi l fun a1 l => sy_xv l fun _ l => sy_xi l fun a3 l => sy_xi l fun a4 l => sy_xn l (sy_xn st (k a1 a3 a4 M))
theorem jwX10_open_66 {d : Nat} {k : Int32 → Int32 → Int32 → sy_M → sy_O} (hk : ∀ (w2 : Value) (a1 : Int32) (a3 : Int32) (a4 : Int32) (M : sy_M) (r : xe_R × sy_M), k a1 a3 a4 M = some r → sy_E (d) qX10_open 66 [.ref 1, .int a1, w2, .int a3, .int a4] [] M r) : ∀ ls st M r, juX10_open_66 k ls st M = some r → sy_E d qX10_open 66 ls st M r := by
  intro ls st M r h
  obtain ⟨l, e, h1⟩ := sy_xc_ok h; subst e
  obtain ⟨a1, l, e, h2⟩ := sy_xi_ok h1; subst e
  obtain ⟨w2, l, e, h3⟩ := sy_xv_ok h2; subst e
  obtain ⟨a3, l, e, h4⟩ := sy_xi_ok h3; subst e
  obtain ⟨a4, l, e, h5⟩ := sy_xi_ok h4; subst e
  obtain ⟨e, h6⟩ := sy_xn_ok h5; subst e
  obtain ⟨e, h7⟩ := sy_xn_ok h6; subst e
  exact hk _ a1 a3 a4 M r h7
def juX10_open_29 (k : Int32 → Int32 → Int32 → sy_M → sy_O) (ls st : List Value) (M : sy_M) : sy_O := sy_xc 1 ls fun l => sy_xi l fun a1 l => sy_xi l fun a2 l => sy_xi l fun a3 l => sy_xv l fun _ l => sy_xn l (sy_xn st (k a1 a2 a3 M))
theorem jwX10_open_29 {d : Nat} {k : Int32 → Int32 → Int32 → sy_M → sy_O} (hk : ∀ (w4 : Value) (a1 : Int32) (a2 : Int32) (a3 : Int32) (M : sy_M) (r : xe_R × sy_M), k a1 a2 a3 M = some r → sy_E (d) qX10_open 29 [.ref 1, .int a1, .int a2, .int a3, w4] [] M r) : ∀ ls st M r, juX10_open_29 k ls st M = some r → sy_E d qX10_open 29 ls st M r := by
  intro ls st M r h
  obtain ⟨l, e, h1⟩ := sy_xc_ok h; subst e
  obtain ⟨a1, l, e, h2⟩ := sy_xi_ok h1; subst e
  obtain ⟨a2, l, e, h3⟩ := sy_xi_ok h2; subst e
  obtain ⟨a3, l, e, h4⟩ := sy_xi_ok h3; subst e
  obtain ⟨w4, l, e, h5⟩ := sy_xv_ok h4; subst e
  obtain ⟨e, h6⟩ := sy_xn_ok h5; subst e
  obtain ⟨e, h7⟩ := sy_xn_ok h6; subst e
  exact hk _ a1 a2 a3 M r h7
def jfX10_open_75 (a1 : Int32) (M : sy_M) : sy_O :=
  sy_bv (jfX10_addThing a1 a1 M) fun M1 =>
  sy_rv M1
set_option maxRecDepth 100000 in
theorem jrX10_open_75 (w2 : Value) (w3 : Value) (w4 : Value) (a1 : Int32) (M : sy_M) : sy_run skX10 qX10_open [(75, .aload_n 0, 1, [true, true, false, false, false]), (76, .iload_n 1, 1, []), (77, .iload_n 1, 1, []), (78, .invokevirtual 45, 3, []), (81, .return_, 1, [])] [(81, 1, jcX10_addThing)] [] 6 [] 75 [.ref 1, .int a1, w2, w3, w4] [] M = jfX10_open_75 a1 M := rfl
theorem jtX10_open_75 : ∀ (w2 : Value) (w3 : Value) (w4 : Value) (a1 : Int32) (M : sy_M) (r : xe_R × sy_M), jfX10_open_75 a1 M = some r → sy_E (5) qX10_open 75 [.ref 1, .int a1, w2, w3, w4] [] M r := by
  intro w2 w3 w4 a1 M r h
  exact sy_run_by (d := 4) ((jrX10_open_75 _ _ _ _ M).trans h) hkX10 (by decide +kernel) (sy_cs_cons (jeX10_addThing.deep (by decide)) sy_cs_nil) sy_us_nil
def jfX10_open_66 (k29 : Int32 → Int32 → Int32 → sy_M → sy_O) (a1 : Int32) (a3 : Int32) (a4 : Int32) (M : sy_M) : sy_O :=
  let v1 := a3 + 1
  k29 a1 a4 v1 M
set_option maxRecDepth 100000 in
theorem jrX10_open_66 (k29 : Int32 → Int32 → Int32 → sy_M → sy_O) (w2 : Value) (a1 : Int32) (a3 : Int32) (a4 : Int32) (M : sy_M) : sy_run skX10 qX10_open [(66, .iload 4, 2, [true, true, false, true, true]), (68, .istore_n 2, 1, []), (69, .iinc 3 1, 3, []), (72, .goto (-43), 3, [])] [] [(29, juX10_open_29 k29)] 5 [] 66 [.ref 1, .int a1, w2, .int a3, .int a4] [] M = jfX10_open_66 k29 a1 a3 a4 M := rfl
theorem jtX10_open_66 {k29 : Int32 → Int32 → Int32 → sy_M → sy_O} (hk29 : ∀ (w4 : Value) (a1 : Int32) (a2 : Int32) (a3 : Int32) (M : sy_M) (r : xe_R × sy_M), k29 a1 a2 a3 M = some r → sy_E (5) qX10_open 29 [.ref 1, .int a1, .int a2, .int a3, w4] [] M r) : ∀ (w2 : Value) (a1 : Int32) (a3 : Int32) (a4 : Int32) (M : sy_M) (r : xe_R × sy_M), jfX10_open_66 k29 a1 a3 a4 M = some r → sy_E (5) qX10_open 66 [.ref 1, .int a1, w2, .int a3, .int a4] [] M r := by
  intro w2 a1 a3 a4 M r h
  exact sy_run_by (d := 4) ((jrX10_open_66 _ _ _ _ _ M).trans h) hkX10 (by decide +kernel) sy_cs_nil (sy_us_cons (jwX10_open_29 hk29) sy_us_nil)
def jgX10_open_29 (k29 : Int32 → Int32 → Int32 → sy_M → sy_O) (a1 : Int32) (a2 : Int32) (a3 : Int32) (M : sy_M) : sy_O :=
  if a3 < 400 then
    if a2 < a1 then
      sy_bi (jfX10_behindThing a2 a1 M) fun v2 M1 =>
      sy_bi (jfX10_byteAt a2 M1) fun v4 M3 =>
      if v4 = 32 then
        jfX10_open_66 k29 a1 a3 v2 M3
      else
        sy_bv (jfX10_addThing a2 v2 M3) fun M5 =>
        jfX10_open_66 k29 a1 a3 v2 M5
    else
      jfX10_open_75 a1 M
  else
    jfX10_open_75 a1 M
def jfX10_open_29 : Nat → Int32 → Int32 → Int32 → sy_M → sy_O
  | 0, _, _, _, _ => none
  | n + 1, a1, a2, a3, M => jgX10_open_29 (jfX10_open_29 n) a1 a2 a3 M
set_option maxRecDepth 100000 in
theorem jrX10_open_29 (k29 : Int32 → Int32 → Int32 → sy_M → sy_O) (w4 : Value) (a1 : Int32) (a2 : Int32) (a3 : Int32) (M : sy_M) : sy_run skX10 qX10_open [(29, .iload_n 3, 1, [true, true, true, true, false]), (30, .sipush 400, 3, []), (33, .if_icmp .ge 42, 3, []), (36, .iload_n 2, 1, []), (37, .iload_n 1, 1, []), (38, .if_icmp .ge 37, 3, []), (41, .aload_n 0, 1, []), (42, .iload_n 2, 1, []), (43, .iload_n 1, 1, []), (44, .invokevirtual 37, 3, []), (47, .istore 4, 2, []), (49, .aload_n 0, 1, []), (50, .iload_n 2, 1, []), (51, .invokevirtual 41, 3, []), (54, .bipush 32, 2, []), (56, .if_icmp .eq 10, 3, []), (59, .aload_n 0, 1, []), (60, .iload_n 2, 1, []), (61, .iload 4, 2, []), (63, .invokevirtual 45, 3, [])] [(79, 0, jcX10_behindThing), (77, 0, jcX10_byteAt), (81, 1, jcX10_addThing)] [(75, juX10_open_75 (jfX10_open_75)), (66, juX10_open_66 (jfX10_open_66 k29))] 21 [] 29 [.ref 1, .int a1, .int a2, .int a3, w4] [] M = jgX10_open_29 k29 a1 a2 a3 M := rfl
theorem jtX10_open_29 : ∀ n : Nat, ∀ (w4 : Value) (a1 : Int32) (a2 : Int32) (a3 : Int32) (M : sy_M) (r : xe_R × sy_M), jfX10_open_29 n a1 a2 a3 M = some r → sy_E (5) qX10_open 29 [.ref 1, .int a1, .int a2, .int a3, w4] [] M r := by
  intro n
  induction n with
  | zero => intro w4 a1 a2 a3 M r h; exact absurd (show (none : sy_O) = some r from h) (by simp)
  | succ n ih => intro w4 a1 a2 a3 M r h; exact sy_run_by (d := 4) ((jrX10_open_29 _ _ _ _ _ M).trans h) hkX10 (by decide +kernel) (sy_cs_cons (jeX10_behindThing.deep (by decide)) (sy_cs_cons (jeX10_byteAt.deep (by decide)) (sy_cs_cons (jeX10_addThing.deep (by decide)) sy_cs_nil))) (sy_us_cons (jwX10_open_75 (jtX10_open_75)) (sy_us_cons (jwX10_open_66 (jtX10_open_66 ih)) sy_us_nil))
def jfX10_open (M : sy_M) : sy_O :=
  let v1 := (M 1 4)
  let M2 := sy_upd M 1 4 0
  let M3 := sy_upd M2 1 5 0
  let M4 := sy_upd M3 1 6 0
  let M5 := sy_upd M4 1 7 (-1)
  jfX10_open_29 sy_F v1 0 0 M5
set_option maxRecDepth 100000 in
theorem jrX10_open (M : sy_M) : sy_run skX10 qX10_open [(0, .aload_n 0, 1, []), (1, .getfield 24, 3, []), (4, .istore_n 1, 1, []), (5, .aload_n 0, 1, []), (6, .iconst 0, 1, []), (7, .putfield 24, 3, []), (10, .aload_n 0, 1, []), (11, .iconst 0, 1, []), (12, .putfield 28, 3, []), (15, .aload_n 0, 1, []), (16, .iconst 0, 1, []), (17, .putfield 31, 3, []), (20, .aload_n 0, 1, []), (21, .iconst (-1), 1, []), (22, .putfield 34, 3, []), (25, .iconst 0, 1, []), (26, .istore_n 2, 1, []), (27, .iconst 0, 1, []), (28, .istore_n 3, 1, [])] [] [(29, juX10_open_29 (jfX10_open_29 sy_F))] 20 [] 0 [.ref 1, xe_no, xe_no, xe_no, xe_no] [] M = jfX10_open M := rfl
theorem jtX10_open : ∀ (M : sy_M) (r : xe_R × sy_M), jfX10_open M = some r → sy_E (5) qX10_open 0 [.ref 1, xe_no, xe_no, xe_no, xe_no] [] M r := by
  intro  M r h
  exact sy_run_by (d := 4) ((jrX10_open M).trans h) hkX10 (by decide +kernel) sy_cs_nil (sy_us_cons (jwX10_open_29 (jtX10_open_29 sy_F)) sy_us_nil)
def jcX10_open (as : List Value) (M : sy_M) (K : sy_O → sy_O) : sy_O := sy_xc 1 as fun l => sy_xn l (K (jfX10_open M))
theorem jeX10_open : sy_snd (5) 78 (jcX10_open) := by
  intro as M K r h
  obtain ⟨l, e, h1⟩ := sy_xc_ok h; subst e
  obtain ⟨e, h2⟩ := sy_xn_ok h1; subst e
  exact ⟨_, h2, fun r1 h0 => ⟨qX10_open, rfl, rfl, jtX10_open  M r1 h0⟩⟩
/-! X10_thing StairMeter$Tape thing ()I [('R', 1)] -/
def jfX10_thing (M : sy_M) : sy_O :=
  if (M 1 6) < 0 then
    sy_ri 256 M
  else
    if 400 < (M 1 6) then
      sy_ri 256 M
    else
      if (M 1 6) < (M 1 5) then
        sy_bx (xe_in (M 1 6) 401) <|
        sy_ri (M 3 (Int32.toNatClampNeg (M 1 6))) M
      else
        sy_ri 256 M
set_option maxRecDepth 100000 in
theorem jrX10_thing (M : sy_M) : sy_run skX10 qX10_thing [(0, .aload_n 0, 1, []), (1, .getfield 31, 3, []), (4, .ifCond .lt 36, 3, []), (7, .aload_n 0, 1, []), (8, .getfield 31, 3, []), (11, .sipush 400, 3, []), (14, .if_icmp .gt 26, 3, []), (17, .aload_n 0, 1, []), (18, .getfield 31, 3, []), (21, .aload_n 0, 1, []), (22, .getfield 28, 3, []), (25, .if_icmp .ge 15, 3, []), (28, .aload_n 0, 1, []), (29, .getfield 15, 3, []), (32, .aload_n 0, 1, []), (33, .getfield 31, 3, []), (36, .iaload, 1, []), (37, .goto 6, 3, []), (40, .sipush 256, 3, [false]), (43, .ireturn, 1, [false])] [] [] 21 [] 0 [.ref 1] [] M = jfX10_thing M := rfl
theorem jtX10_thing : ∀ (M : sy_M) (r : xe_R × sy_M), jfX10_thing M = some r → sy_E (1) qX10_thing 0 [.ref 1] [] M r := by
  intro  M r h
  exact sy_run_by (d := 0) ((jrX10_thing M).trans h) hkX10 (by decide +kernel) sy_cs_nil sy_us_nil
def jcX10_thing (as : List Value) (M : sy_M) (K : sy_O → sy_O) : sy_O := sy_xc 1 as fun l => sy_xn l (K (jfX10_thing M))
theorem jeX10_thing : sy_snd (1) 85 (jcX10_thing) := by
  intro as M K r h
  obtain ⟨l, e, h1⟩ := sy_xc_ok h; subst e
  obtain ⟨e, h2⟩ := sy_xn_ok h1; subst e
  exact ⟨_, h2, fun r1 h0 => ⟨qX10_thing, rfl, rfl, jtX10_thing  M r1 h0⟩⟩
/-! X10_fails StairMeter$Tape fails ()Z [('R', 1)] -/
def jfX10_fails (M : sy_M) : sy_O :=
  if (M 1 6) < 0 then
    let M1 := sy_upd M 1 7 0
    sy_ri 0 M1
  else
    if 400 < (M 1 6) then
      let M2 := sy_upd M 1 7 0
      sy_ri 0 M2
    else
      sy_bx (xe_in (M 1 6) 401) <|
      let M3 := sy_upd M 1 7 (M 4 (Int32.toNatClampNeg (M 1 6)))
      sy_ri 0 M3
set_option maxRecDepth 100000 in
theorem jrX10_fails (M : sy_M) : sy_run skX10 qX10_fails [(0, .aload_n 0, 1, []), (1, .aload_n 0, 1, []), (2, .getfield 31, 3, []), (5, .ifCond .lt 25, 3, []), (8, .aload_n 0, 1, []), (9, .getfield 31, 3, []), (12, .sipush 400, 3, []), (15, .if_icmp .gt 15, 3, []), (18, .aload_n 0, 1, []), (19, .getfield 18, 3, []), (22, .aload_n 0, 1, []), (23, .getfield 31, 3, []), (26, .iaload, 1, []), (27, .goto 4, 3, []), (30, .iconst 0, 1, [false]), (31, .putfield 34, 3, [false]), (34, .iconst 0, 1, []), (35, .ireturn, 1, [])] [] [] 19 [] 0 [.ref 1] [] M = jfX10_fails M := rfl
theorem jtX10_fails : ∀ (M : sy_M) (r : xe_R × sy_M), jfX10_fails M = some r → sy_E (1) qX10_fails 0 [.ref 1] [] M r := by
  intro  M r h
  exact sy_run_by (d := 0) ((jrX10_fails M).trans h) hkX10 (by decide +kernel) sy_cs_nil sy_us_nil
def jcX10_fails (as : List Value) (M : sy_M) (K : sy_O → sy_O) : sy_O := sy_xc 1 as fun l => sy_xn l (K (jfX10_fails M))
theorem jeX10_fails : sy_snd (1) 88 (jcX10_fails) := by
  intro as M K r h
  obtain ⟨l, e, h1⟩ := sy_xc_ok h; subst e
  obtain ⟨e, h2⟩ := sy_xn_ok h1; subst e
  exact ⟨_, h2, fun r1 h0 => ⟨qX10_fails, rfl, rfl, jtX10_fails  M r1 h0⟩⟩
/-! X10_takes StairMeter$Tape takes (I)Z [('R', 1), 'I'] -/
def jfX10_takes (a1 : Int32) (M : sy_M) : sy_O :=
  if (M 1 6) < 0 then
    sy_ri 0 M
  else
    if 400 < (M 1 6) then
      sy_ri 0 M
    else
      if (M 1 6) < (M 1 5) then
        sy_bx (xe_in (M 1 6) 401) <|
        if (M 3 (Int32.toNatClampNeg (M 1 6))) = a1 then
          let M1 := sy_upd M 1 6 ((M 1 6) + 1)
          sy_ri 1 M1
        else
          sy_ri 0 M
      else
        sy_ri 0 M
set_option maxRecDepth 100000 in
theorem jrX10_takes (a1 : Int32) (M : sy_M) : sy_run skX10 qX10_takes [(0, .aload_n 0, 1, []), (1, .getfield 31, 3, []), (4, .ifCond .lt 37, 3, []), (7, .aload_n 0, 1, []), (8, .getfield 31, 3, []), (11, .sipush 400, 3, []), (14, .if_icmp .gt 27, 3, []), (17, .aload_n 0, 1, []), (18, .getfield 31, 3, []), (21, .aload_n 0, 1, []), (22, .getfield 28, 3, []), (25, .if_icmp .ge 16, 3, []), (28, .aload_n 0, 1, []), (29, .getfield 15, 3, []), (32, .aload_n 0, 1, []), (33, .getfield 31, 3, []), (36, .iaload, 1, []), (37, .iload_n 1, 1, []), (38, .if_icmp .eq 5, 3, []), (41, .iconst 0, 1, [false, false]), (42, .ireturn, 1, []), (43, .aload_n 0, 1, [true, false]), (44, .dup, 1, []), (45, .getfield 31, 3, []), (48, .iconst 1, 1, []), (49, .iadd, 1, []), (50, .putfield 31, 3, []), (53, .iconst 1, 1, []), (54, .ireturn, 1, [])] [] [] 30 [] 0 [.ref 1, .int a1] [] M = jfX10_takes a1 M := rfl
theorem jtX10_takes : ∀ (a1 : Int32) (M : sy_M) (r : xe_R × sy_M), jfX10_takes a1 M = some r → sy_E (1) qX10_takes 0 [.ref 1, .int a1] [] M r := by
  intro a1 M r h
  exact sy_run_by (d := 0) ((jrX10_takes _ M).trans h) hkX10 (by decide +kernel) sy_cs_nil sy_us_nil
def jcX10_takes (as : List Value) (M : sy_M) (K : sy_O → sy_O) : sy_O := sy_xc 1 as fun l => sy_xi l fun a1 l => sy_xn l (K (jfX10_takes a1 M))
theorem jeX10_takes : sy_snd (1) 86 (jcX10_takes) := by
  intro as M K r h
  obtain ⟨l, e, h1⟩ := sy_xc_ok h; subst e
  obtain ⟨a1, l, e, h2⟩ := sy_xi_ok h1; subst e
  obtain ⟨e, h3⟩ := sy_xn_ok h2; subst e
  exact ⟨_, h3, fun r1 h0 => ⟨qX10_takes, rfl, rfl, jtX10_takes _ M r1 h0⟩⟩
/-! X10_takesNumber StairMeter$Tape takesNumber (II)I [('R', 1), 'I', 'I'] -/
def juX10_takesNumber_58 (k : sy_M → sy_O) (ls st : List Value) (M : sy_M) : sy_O := sy_xc 1 ls fun l => sy_xv l fun _ l => sy_xv l fun _ l => sy_xv l fun _ l => sy_xn l (sy_xn st (k M))
theorem jwX10_takesNumber_58 {d : Nat} {k : sy_M → sy_O} (hk : ∀ (w1 : Value) (w2 : Value) (w3 : Value) (M : sy_M) (r : xe_R × sy_M), k M = some r → sy_E (d) qX10_takesNumber 58 [.ref 1, w1, w2, w3] [] M r) : ∀ ls st M r, juX10_takesNumber_58 k ls st M = some r → sy_E d qX10_takesNumber 58 ls st M r := by
  intro ls st M r h
  obtain ⟨l, e, h1⟩ := sy_xc_ok h; subst e
  obtain ⟨w1, l, e, h2⟩ := sy_xv_ok h1; subst e
  obtain ⟨w2, l, e, h3⟩ := sy_xv_ok h2; subst e
  obtain ⟨w3, l, e, h4⟩ := sy_xv_ok h3; subst e
  obtain ⟨e, h5⟩ := sy_xn_ok h4; subst e
  obtain ⟨e, h6⟩ := sy_xn_ok h5; subst e
  exact hk _ _ _ M r h6
def juX10_takesNumber_47 (k : Int32 → Int32 → Int32 → sy_M → sy_O) (ls st : List Value) (M : sy_M) : sy_O := sy_xc 1 ls fun l => sy_xi l fun a1 l => sy_xi l fun a2 l => sy_xv l fun _ l => sy_xn l (sy_xi st fun s0 l => sy_xn l (k a1 a2 s0 M))
theorem jwX10_takesNumber_47 {d : Nat} {k : Int32 → Int32 → Int32 → sy_M → sy_O} (hk : ∀ (w3 : Value) (a1 : Int32) (a2 : Int32) (s0 : Int32) (M : sy_M) (r : xe_R × sy_M), k a1 a2 s0 M = some r → sy_E (d) qX10_takesNumber 47 [.ref 1, .int a1, .int a2, w3] [.int s0] M r) : ∀ ls st M r, juX10_takesNumber_47 k ls st M = some r → sy_E d qX10_takesNumber 47 ls st M r := by
  intro ls st M r h
  obtain ⟨l, e, h1⟩ := sy_xc_ok h; subst e
  obtain ⟨a1, l, e, h2⟩ := sy_xi_ok h1; subst e
  obtain ⟨a2, l, e, h3⟩ := sy_xi_ok h2; subst e
  obtain ⟨w3, l, e, h4⟩ := sy_xv_ok h3; subst e
  obtain ⟨e, h5⟩ := sy_xn_ok h4; subst e
  obtain ⟨s0, l, e, h6⟩ := sy_xi_ok h5; subst e
  obtain ⟨e, h7⟩ := sy_xn_ok h6; subst e
  exact hk _ a1 a2 s0 M r h7
def jfX10_takesNumber_58 (M : sy_M) : sy_O :=
  sy_bx (xe_in (M 1 6) 401) <|
  let M1 := sy_upd M 1 7 (M 4 (Int32.toNatClampNeg (M 1 6)))
  sy_ri (-1) M1
set_option maxRecDepth 100000 in
theorem jrX10_takesNumber_58 (w1 : Value) (w2 : Value) (w3 : Value) (M : sy_M) : sy_run skX10 qX10_takesNumber [(58, .aload_n 0, 1, [true, false, false, false]), (59, .aload_n 0, 1, []), (60, .getfield 18, 3, []), (63, .aload_n 0, 1, []), (64, .getfield 31, 3, []), (67, .iaload, 1, []), (68, .putfield 34, 3, []), (71, .iconst (-1), 1, []), (72, .ireturn, 1, [])] [] [] 10 [] 58 [.ref 1, w1, w2, w3] [] M = jfX10_takesNumber_58 M := rfl
theorem jtX10_takesNumber_58 : ∀ (w1 : Value) (w2 : Value) (w3 : Value) (M : sy_M) (r : xe_R × sy_M), jfX10_takesNumber_58 M = some r → sy_E (1) qX10_takesNumber 58 [.ref 1, w1, w2, w3] [] M r := by
  intro w1 w2 w3 M r h
  exact sy_run_by (d := 0) ((jrX10_takesNumber_58 _ _ _ M).trans h) hkX10 (by decide +kernel) sy_cs_nil sy_us_nil
def jfX10_takesNumber_47 (a1 : Int32) (a2 : Int32) (s0 : Int32) (M : sy_M) : sy_O :=
  if s0 < a1 then
    jfX10_takesNumber_58 M
  else
    if a2 < s0 then
      jfX10_takesNumber_58 M
    else
      let M1 := sy_upd M 1 6 ((M 1 6) + 1)
      sy_ri s0 M1
set_option maxRecDepth 100000 in
theorem jrX10_takesNumber_47 (w3 : Value) (a1 : Int32) (a2 : Int32) (s0 : Int32) (M : sy_M) : sy_run skX10 qX10_takesNumber [(47, .istore_n 3, 1, [true, true, true, false]), (48, .iload_n 3, 1, []), (49, .iload_n 1, 1, []), (50, .if_icmp .lt 8, 3, []), (53, .iload_n 3, 1, []), (54, .iload_n 2, 1, []), (55, .if_icmp .le 18, 3, []), (73, .aload_n 0, 1, [true, false, false, true]), (74, .dup, 1, []), (75, .getfield 31, 3, []), (78, .iconst 1, 1, []), (79, .iadd, 1, []), (80, .putfield 31, 3, []), (83, .iload_n 3, 1, []), (84, .ireturn, 1, [])] [] [(58, juX10_takesNumber_58 (jfX10_takesNumber_58))] 16 [] 47 [.ref 1, .int a1, .int a2, w3] [.int s0] M = jfX10_takesNumber_47 a1 a2 s0 M := rfl
theorem jtX10_takesNumber_47 : ∀ (w3 : Value) (a1 : Int32) (a2 : Int32) (s0 : Int32) (M : sy_M) (r : xe_R × sy_M), jfX10_takesNumber_47 a1 a2 s0 M = some r → sy_E (1) qX10_takesNumber 47 [.ref 1, .int a1, .int a2, w3] [.int s0] M r := by
  intro w3 a1 a2 s0 M r h
  exact sy_run_by (d := 0) ((jrX10_takesNumber_47 _ _ _ _ M).trans h) hkX10 (by decide +kernel) sy_cs_nil (sy_us_cons (jwX10_takesNumber_58 (jtX10_takesNumber_58)) sy_us_nil)
def jfX10_takesNumber (a1 : Int32) (a2 : Int32) (M : sy_M) : sy_O :=
  if (M 1 6) < 0 then
    sy_ri (-1) M
  else
    if 400 < (M 1 6) then
      sy_ri (-1) M
    else
      sy_bx (xe_in (M 1 6) 401) <|
      if (M 3 (Int32.toNatClampNeg (M 1 6))) = 257 then
        sy_bx (xe_in (M 1 6) 401) <|
        jfX10_takesNumber_47 a1 a2 (M 5 (Int32.toNatClampNeg (M 1 6))) M
      else
        jfX10_takesNumber_47 a1 a2 (-1) M
set_option maxRecDepth 100000 in
theorem jrX10_takesNumber (a1 : Int32) (a2 : Int32) (M : sy_M) : sy_run skX10 qX10_takesNumber [(0, .aload_n 0, 1, []), (1, .getfield 31, 3, []), (4, .ifCond .lt 13, 3, []), (7, .aload_n 0, 1, []), (8, .getfield 31, 3, []), (11, .sipush 400, 3, []), (14, .if_icmp .le 5, 3, []), (17, .iconst (-1), 1, [false, false, false, false]), (18, .ireturn, 1, []), (19, .aload_n 0, 1, [true, true, true, false]), (20, .getfield 15, 3, []), (23, .aload_n 0, 1, []), (24, .getfield 31, 3, []), (27, .iaload, 1, []), (28, .sipush 257, 3, []), (31, .if_icmp .ne 15, 3, []), (34, .aload_n 0, 1, []), (35, .getfield 21, 3, []), (38, .aload_n 0, 1, []), (39, .getfield 31, 3, []), (42, .iaload, 1, []), (43, .goto 4, 3, []), (46, .iconst (-1), 1, [true, true, true, false])] [] [(47, juX10_takesNumber_47 (jfX10_takesNumber_47))] 24 [] 0 [.ref 1, .int a1, .int a2, xe_no] [] M = jfX10_takesNumber a1 a2 M := rfl
theorem jtX10_takesNumber : ∀ (a1 : Int32) (a2 : Int32) (M : sy_M) (r : xe_R × sy_M), jfX10_takesNumber a1 a2 M = some r → sy_E (1) qX10_takesNumber 0 [.ref 1, .int a1, .int a2, xe_no] [] M r := by
  intro a1 a2 M r h
  exact sy_run_by (d := 0) ((jrX10_takesNumber _ _ M).trans h) hkX10 (by decide +kernel) sy_cs_nil (sy_us_cons (jwX10_takesNumber_47 (jtX10_takesNumber_47)) sy_us_nil)
def jcX10_takesNumber (as : List Value) (M : sy_M) (K : sy_O → sy_O) : sy_O := sy_xc 1 as fun l => sy_xi l fun a1 l => sy_xi l fun a2 l => sy_xn l (K (jfX10_takesNumber a1 a2 M))
theorem jeX10_takesNumber : sy_snd (1) 87 (jcX10_takesNumber) := by
  intro as M K r h
  obtain ⟨l, e, h1⟩ := sy_xc_ok h; subst e
  obtain ⟨a1, l, e, h2⟩ := sy_xi_ok h1; subst e
  obtain ⟨a2, l, e, h3⟩ := sy_xi_ok h2; subst e
  obtain ⟨e, h4⟩ := sy_xn_ok h3; subst e
  exact ⟨_, h4, fun r1 h0 => ⟨qX10_takesNumber, rfl, rfl, jtX10_takesNumber _ _ M r1 h0⟩⟩
/-! X2_isDebt StairMeter$House isDebt (II)Z ['I', 'I'] -/
def jfX2_isDebt (a0 : Int32) (a1 : Int32) (M : sy_M) : sy_O :=
  if a0 < 0 then
    sy_ri 0 M
  else
    if a0 < 7 then
      if a1 < 0 then
        sy_ri 0 M
      else
        if a1 < 7 then
          sy_ri 1 M
        else
          sy_ri 0 M
    else
      sy_ri 0 M
set_option maxRecDepth 100000 in
theorem jrX2_isDebt (a0 : Int32) (a1 : Int32) (M : sy_M) : sy_run skX2 qX2_isDebt [(0, .iload_n 0, 1, []), (1, .ifCond .lt 23, 3, []), (4, .iload_n 0, 1, []), (5, .bipush 7, 2, []), (7, .if_icmp .ge 17, 3, []), (10, .iload_n 1, 1, []), (11, .ifCond .lt 13, 3, []), (14, .iload_n 1, 1, []), (15, .bipush 7, 2, []), (17, .if_icmp .ge 7, 3, []), (20, .iconst 1, 1, []), (21, .goto 4, 3, []), (24, .iconst 0, 1, [false, false]), (25, .ireturn, 1, [false, false])] [] [] 15 [] 0 [.int a0, .int a1] [] M = jfX2_isDebt a0 a1 M := rfl
theorem jtX2_isDebt : ∀ (a0 : Int32) (a1 : Int32) (M : sy_M) (r : xe_R × sy_M), jfX2_isDebt a0 a1 M = some r → sy_E (1) qX2_isDebt 0 [.int a0, .int a1] [] M r := by
  intro a0 a1 M r h
  exact sy_run_by (d := 0) ((jrX2_isDebt _ _ M).trans h) hkX2 (by decide +kernel) sy_cs_nil sy_us_nil
def jcX2_isDebt (as : List Value) (M : sy_M) (K : sy_O → sy_O) : sy_O := sy_xi as fun a0 l => sy_xi l fun a1 l => sy_xn l (K (jfX2_isDebt a0 a1 M))
theorem jeX2_isDebt : sy_snd (1) 21 (jcX2_isDebt) := by
  intro as M K r h
  obtain ⟨a0, l, e, h1⟩ := sy_xi_ok h; subst e
  obtain ⟨a1, l, e, h2⟩ := sy_xi_ok h1; subst e
  obtain ⟨e, h3⟩ := sy_xn_ok h2; subst e
  exact ⟨_, h3, fun r1 h0 => ⟨qX2_isDebt, rfl, rfl, jtX2_isDebt _ _ M r1 h0⟩⟩
/-! X2_setOwed StairMeter$House setOwed (III)V ['A', 'I', 'I', 'I'] -/
def jfX2_setOwed (r0 : Nat) (a1 : Int32) (a2 : Int32) (a3 : Int32) (M : sy_M) : sy_O :=
  sy_bi (jfX2_isDebt a1 a2 M) fun v2 M1 =>
  if v2 = 0 then
    sy_rv M1
  else
    sy_bs (sy_is 2 r0) <|
    sy_bx (xe_in ((a1 * 7) + a2) (sy_li (r0 + 2))) <|
    let M3 := sy_upd M1 (r0 + 2) (Int32.toNatClampNeg ((a1 * 7) + a2)) a3
    sy_rv M3
set_option maxRecDepth 100000 in
theorem jrX2_setOwed (r0 : Nat) (a1 : Int32) (a2 : Int32) (a3 : Int32) (M : sy_M) : sy_run skX2 qX2_setOwed [(0, .iload_n 1, 1, []), (1, .iload_n 2, 1, []), (2, .invokestatic 88, 3, []), (5, .ifCond .eq 15, 3, []), (8, .aload_n 0, 1, []), (9, .getfield 15, 3, []), (12, .iload_n 1, 1, []), (13, .bipush 7, 2, []), (15, .imul, 1, []), (16, .iload_n 2, 1, []), (17, .iadd, 1, []), (18, .iload_n 3, 1, []), (19, .iastore, 1, []), (20, .return_, 1, [false, false, false, false])] [(21, 0, jcX2_isDebt)] [] 15 [] 0 [.ref r0, .int a1, .int a2, .int a3] [] M = jfX2_setOwed r0 a1 a2 a3 M := rfl
theorem jtX2_setOwed : ∀ (r0 : Nat) (a1 : Int32) (a2 : Int32) (a3 : Int32) (M : sy_M) (r : xe_R × sy_M), jfX2_setOwed r0 a1 a2 a3 M = some r → sy_E (2) qX2_setOwed 0 [.ref r0, .int a1, .int a2, .int a3] [] M r := by
  intro r0 a1 a2 a3 M r h
  exact sy_run_by (d := 1) ((jrX2_setOwed _ _ _ _ M).trans h) hkX2 (by decide +kernel) (sy_cs_cons (jeX2_isDebt.deep (by decide)) sy_cs_nil) sy_us_nil
def jcX2_setOwed (as : List Value) (M : sy_M) (K : sy_O → sy_O) : sy_O := sy_xa as fun r0 l => sy_xi l fun a1 l => sy_xi l fun a2 l => sy_xi l fun a3 l => sy_xn l (K (jfX2_setOwed r0 a1 a2 a3 M))
theorem jeX2_setOwed : sy_snd (2) 20 (jcX2_setOwed) := by
  intro as M K r h
  obtain ⟨r0, l, e, h1⟩ := sy_xa_ok h; subst e
  obtain ⟨a1, l, e, h2⟩ := sy_xi_ok h1; subst e
  obtain ⟨a2, l, e, h3⟩ := sy_xi_ok h2; subst e
  obtain ⟨a3, l, e, h4⟩ := sy_xi_ok h3; subst e
  obtain ⟨e, h5⟩ := sy_xn_ok h4; subst e
  exact ⟨_, h5, fun r1 h0 => ⟨qX2_setOwed, rfl, rfl, jtX2_setOwed _ _ _ _ M r1 h0⟩⟩
/-! X3_readDebt StairMeter$HouseLines readDebt ()Z [('R', 47)] -/
def juX3_readDebt_91 (k : Int32 → Int32 → Int32 → sy_M → sy_O) (ls st : List Value) (M : sy_M) : sy_O := sy_xc 47 ls fun l => sy_xi l fun a1 l => sy_xo l fun l => sy_xi l fun a3 l => sy_xi l fun a4 l => sy_xn l (sy_xn st (k a1 a3 a4 M))
theorem jwX3_readDebt_91 {d : Nat} {k : Int32 → Int32 → Int32 → sy_M → sy_O} (hk : ∀ (a1 : Int32) (a3 : Int32) (a4 : Int32) (M : sy_M) (r : xe_R × sy_M), k a1 a3 a4 M = some r → sy_E (d) qX3_readDebt 91 [.ref 47, .int a1, xe_no, .int a3, .int a4] [] M r) : ∀ ls st M r, juX3_readDebt_91 k ls st M = some r → sy_E d qX3_readDebt 91 ls st M r := by
  intro ls st M r h
  obtain ⟨l, e, h1⟩ := sy_xc_ok h; subst e
  obtain ⟨a1, l, e, h2⟩ := sy_xi_ok h1; subst e
  obtain ⟨l, e, h3⟩ := sy_xo_ok h2; subst e
  obtain ⟨a3, l, e, h4⟩ := sy_xi_ok h3; subst e
  obtain ⟨a4, l, e, h5⟩ := sy_xi_ok h4; subst e
  obtain ⟨e, h6⟩ := sy_xn_ok h5; subst e
  obtain ⟨e, h7⟩ := sy_xn_ok h6; subst e
  exact hk a1 a3 a4 M r h7
def juX3_readDebt_71 (k : sy_M → sy_O) (ls st : List Value) (M : sy_M) : sy_O := sy_xc 47 ls fun l => sy_xi l fun w1 l => sy_xi l fun w2 l => sy_xi l fun w3 l => sy_xo l fun l => sy_xn l (sy_xn st (k M))
theorem jwX3_readDebt_71 {d : Nat} {k : sy_M → sy_O} (hk : ∀ (w1 : Int32) (w2 : Int32) (w3 : Int32) (M : sy_M) (r : xe_R × sy_M), k M = some r → sy_E (d) qX3_readDebt 71 [.ref 47, .int w1, .int w2, .int w3, xe_no] [] M r) : ∀ ls st M r, juX3_readDebt_71 k ls st M = some r → sy_E d qX3_readDebt 71 ls st M r := by
  intro ls st M r h
  obtain ⟨l, e, h1⟩ := sy_xc_ok h; subst e
  obtain ⟨w1, l, e, h2⟩ := sy_xi_ok h1; subst e
  obtain ⟨w2, l, e, h3⟩ := sy_xi_ok h2; subst e
  obtain ⟨w3, l, e, h4⟩ := sy_xi_ok h3; subst e
  obtain ⟨l, e, h5⟩ := sy_xo_ok h4; subst e
  obtain ⟨e, h6⟩ := sy_xn_ok h5; subst e
  obtain ⟨e, h7⟩ := sy_xn_ok h6; subst e
  exact hk _ _ _ M r h7
def jfX3_readDebt_91 (a1 : Int32) (a3 : Int32) (a4 : Int32) (M : sy_M) : sy_O :=
  sy_bv (jfX2_setOwed 14 a1 a3 a4 M) fun M1 =>
  if a4 = (-1) then
    sy_ri 0 M1
  else
    sy_ri 1 M1
set_option maxRecDepth 100000 in
theorem jrX3_readDebt_91 (a1 : Int32) (a3 : Int32) (a4 : Int32) (M : sy_M) : sy_run skX3 qX3_readDebt [(91, .aload_n 0, 1, []), (92, .getfield 9, 3, []), (95, .iload_n 1, 1, []), (96, .iload_n 3, 1, []), (97, .iload 4, 2, []), (99, .invokevirtual 78, 3, []), (102, .iload 4, 2, []), (104, .iconst (-1), 1, []), (105, .if_icmp .eq 7, 3, []), (108, .iconst 1, 1, []), (109, .goto 4, 3, []), (112, .iconst 0, 1, [false, false, false, false, false]), (113, .ireturn, 1, [false, false, false, false, false])] [(20, 1, jcX2_setOwed)] [] 14 [] 91 [.ref 47, .int a1, xe_no, .int a3, .int a4] [] M = jfX3_readDebt_91 a1 a3 a4 M := rfl
theorem jtX3_readDebt_91 : ∀ (a1 : Int32) (a3 : Int32) (a4 : Int32) (M : sy_M) (r : xe_R × sy_M), jfX3_readDebt_91 a1 a3 a4 M = some r → sy_E (3) qX3_readDebt 91 [.ref 47, .int a1, xe_no, .int a3, .int a4] [] M r := by
  intro a1 a3 a4 M r h
  exact sy_run_by (d := 2) ((jrX3_readDebt_91 _ _ _ M).trans h) hkX3 (by decide +kernel) (sy_cs_cons (jeX2_setOwed.deep (by decide)) sy_cs_nil) sy_us_nil
def jfX3_readDebt_71 (M : sy_M) : sy_O :=
  sy_bi (jfX10_fails M) fun v2 M1 =>
  sy_bb (sy_bo v2) <| sy_ri v2 M1
set_option maxRecDepth 100000 in
theorem jrX3_readDebt_71 (w1 : Int32) (w2 : Int32) (w3 : Int32) (M : sy_M) : sy_run skX3 qX3_readDebt [(71, .aload_n 0, 1, []), (72, .getfield 15, 3, []), (75, .invokevirtual 58, 3, []), (78, .ireturn, 1, [])] [(88, 0, jcX10_fails)] [] 5 [] 71 [.ref 47, .int w1, .int w2, .int w3, xe_no] [] M = jfX3_readDebt_71 M := rfl
theorem jtX3_readDebt_71 : ∀ (w1 : Int32) (w2 : Int32) (w3 : Int32) (M : sy_M) (r : xe_R × sy_M), jfX3_readDebt_71 M = some r → sy_E (3) qX3_readDebt 71 [.ref 47, .int w1, .int w2, .int w3, xe_no] [] M r := by
  intro w1 w2 w3 M r h
  exact sy_run_by (d := 2) ((jrX3_readDebt_71 _ _ _ M).trans h) hkX3 (by decide +kernel) (sy_cs_cons (jeX10_fails.deep (by decide)) sy_cs_nil) sy_us_nil
def jfX3_readDebt (M : sy_M) : sy_O :=
  sy_bi (jfX10_takesNumber 0 ((M 14 3) - 1) M) fun v2 M1 =>
  if v2 = (-1) then
    sy_ri 0 M1
  else
    let v3 := (M1 1 6)
    sy_bi (jfX10_takesNumber 0 ((M1 14 3) - 1) M1) fun v5 M4 =>
    if v5 = (-1) then
      sy_ri 0 M4
    else
      if v5 = v2 then
        let M8 := sy_upd M4 1 6 v3
        jfX3_readDebt_71 M8
      else
        sy_bi (jfX10_takesNumber 0 99 M4) fun v7 M6 =>
        jfX3_readDebt_91 v2 v5 v7 M6
set_option maxRecDepth 100000 in
theorem jrX3_readDebt (M : sy_M) : sy_run skX3 qX3_readDebt [(0, .aload_n 0, 1, []), (1, .getfield 15, 3, []), (4, .iconst 0, 1, []), (5, .aload_n 0, 1, []), (6, .getfield 9, 3, []), (9, .getfield 64, 3, []), (12, .iconst 1, 1, []), (13, .isub, 1, []), (14, .invokevirtual 36, 3, []), (17, .istore_n 1, 1, []), (18, .iload_n 1, 1, []), (19, .iconst (-1), 1, []), (20, .if_icmp .ne 5, 3, []), (23, .iconst 0, 1, []), (24, .ireturn, 1, []), (25, .aload_n 0, 1, [true, true, false, false, false]), (26, .getfield 15, 3, []), (29, .getfield 75, 3, []), (32, .istore_n 2, 1, []), (33, .aload_n 0, 1, []), (34, .getfield 15, 3, []), (37, .iconst 0, 1, []), (38, .aload_n 0, 1, []), (39, .getfield 9, 3, []), (42, .getfield 64, 3, []), (45, .iconst 1, 1, []), (46, .isub, 1, []), (47, .invokevirtual 36, 3, []), (50, .istore_n 3, 1, []), (51, .iload_n 3, 1, []), (52, .iconst (-1), 1, []), (53, .if_icmp .ne 5, 3, []), (56, .iconst 0, 1, []), (57, .ireturn, 1, []), (58, .iload_n 3, 1, [true, true, true, true, false]), (59, .iload_n 1, 1, []), (60, .if_icmp .ne 19, 3, []), (63, .aload_n 0, 1, []), (64, .getfield 15, 3, []), (67, .iload_n 2, 1, []), (68, .putfield 75, 3, []), (79, .aload_n 0, 1, [true, true, false, true, false]), (80, .getfield 15, 3, []), (83, .iconst 0, 1, []), (84, .bipush 99, 2, []), (86, .invokevirtual 36, 3, []), (89, .istore 4, 2, [])] [(87, 0, jcX10_takesNumber)] [(91, juX3_readDebt_91 (jfX3_readDebt_91)), (71, juX3_readDebt_71 (jfX3_readDebt_71))] 48 [] 0 [.ref 47, xe_no, xe_no, xe_no, xe_no] [] M = jfX3_readDebt M := rfl
theorem jtX3_readDebt : ∀ (M : sy_M) (r : xe_R × sy_M), jfX3_readDebt M = some r → sy_E (3) qX3_readDebt 0 [.ref 47, xe_no, xe_no, xe_no, xe_no] [] M r := by
  intro  M r h
  exact sy_run_by (d := 2) ((jrX3_readDebt M).trans h) hkX3 (by decide +kernel) (sy_cs_cons (jeX10_takesNumber.deep (by decide)) sy_cs_nil) (sy_us_cons (jwX3_readDebt_91 (jtX3_readDebt_91)) (sy_us_cons (jwX3_readDebt_71 (jtX3_readDebt_71)) sy_us_nil))
def jcX3_readDebt (as : List Value) (M : sy_M) (K : sy_O → sy_O) : sy_O := sy_xc 47 as fun l => sy_xn l (K (jfX3_readDebt M))
theorem jeX3_readDebt : sy_snd (3) 36 (jcX3_readDebt) := by
  intro as M K r h
  obtain ⟨l, e, h1⟩ := sy_xc_ok h; subst e
  obtain ⟨e, h2⟩ := sy_xn_ok h1; subst e
  exact ⟨_, h2, fun r1 h0 => ⟨qX3_readDebt, rfl, rfl, jtX3_readDebt  M r1 h0⟩⟩
/-! X2_set StairMeter$House set (III)V ['A', 'I', 'I', 'I'] -/
def jfX2_set (r0 : Nat) (a1 : Int32) (a2 : Int32) (a3 : Int32) (M : sy_M) : sy_O :=
  if a1 < 0 then
    sy_rv M
  else
    if a1 < 7 then
      if a2 < 0 then
        sy_rv M
      else
        if a2 < 9 then
          sy_bs (sy_is 2 r0) <|
          sy_bx (xe_in ((a1 * 9) + a2) (sy_li (r0 + 1))) <|
          let M1 := sy_upd M (r0 + 1) (Int32.toNatClampNeg ((a1 * 9) + a2)) a3
          sy_rv M1
        else
          sy_rv M
    else
      sy_rv M
set_option maxRecDepth 100000 in
theorem jrX2_set (r0 : Nat) (a1 : Int32) (a2 : Int32) (a3 : Int32) (M : sy_M) : sy_run skX2 qX2_set [(0, .iload_n 1, 1, []), (1, .ifCond .lt 31, 3, []), (4, .iload_n 1, 1, []), (5, .bipush 7, 2, []), (7, .if_icmp .ge 25, 3, []), (10, .iload_n 2, 1, []), (11, .ifCond .lt 21, 3, []), (14, .iload_n 2, 1, []), (15, .bipush 9, 2, []), (17, .if_icmp .ge 15, 3, []), (20, .aload_n 0, 1, []), (21, .getfield 9, 3, []), (24, .iload_n 1, 1, []), (25, .bipush 9, 2, []), (27, .imul, 1, []), (28, .iload_n 2, 1, []), (29, .iadd, 1, []), (30, .iload_n 3, 1, []), (31, .iastore, 1, []), (32, .return_, 1, [false, false, false, false])] [] [] 21 [] 0 [.ref r0, .int a1, .int a2, .int a3] [] M = jfX2_set r0 a1 a2 a3 M := rfl
theorem jtX2_set : ∀ (r0 : Nat) (a1 : Int32) (a2 : Int32) (a3 : Int32) (M : sy_M) (r : xe_R × sy_M), jfX2_set r0 a1 a2 a3 M = some r → sy_E (1) qX2_set 0 [.ref r0, .int a1, .int a2, .int a3] [] M r := by
  intro r0 a1 a2 a3 M r h
  exact sy_run_by (d := 0) ((jrX2_set _ _ _ _ M).trans h) hkX2 (by decide +kernel) sy_cs_nil sy_us_nil
def jcX2_set (as : List Value) (M : sy_M) (K : sy_O → sy_O) : sy_O := sy_xa as fun r0 l => sy_xi l fun a1 l => sy_xi l fun a2 l => sy_xi l fun a3 l => sy_xn l (K (jfX2_set r0 a1 a2 a3 M))
theorem jeX2_set : sy_snd (1) 11 (jcX2_set) := by
  intro as M K r h
  obtain ⟨r0, l, e, h1⟩ := sy_xa_ok h; subst e
  obtain ⟨a1, l, e, h2⟩ := sy_xi_ok h1; subst e
  obtain ⟨a2, l, e, h3⟩ := sy_xi_ok h2; subst e
  obtain ⟨a3, l, e, h4⟩ := sy_xi_ok h3; subst e
  obtain ⟨e, h5⟩ := sy_xn_ok h4; subst e
  exact ⟨_, h5, fun r1 h0 => ⟨qX2_set, rfl, rfl, jtX2_set _ _ _ _ M r1 h0⟩⟩
/-! X3_readFact StairMeter$HouseLines readFact (IIII)Z [('R', 47), 'I', 'I', 'I', 'I'] -/
def jfX3_readFact (a1 : Int32) (a2 : Int32) (a3 : Int32) (a4 : Int32) (M : sy_M) : sy_O :=
  sy_bi (jfX10_takes a1 M) fun v2 M1 =>
  if v2 = 0 then
    sy_bi (jfX10_fails M1) fun v7 M6 =>
    sy_bb (sy_bo v7) <| sy_ri v7 M6
  else
    sy_bi (jfX10_takesNumber a3 a4 M1) fun v4 M3 =>
    sy_bv (jfX2_set 14 ((M3 14 3) - 1) a2 v4 M3) fun M5 =>
    if v4 = (-1) then
      sy_ri 0 M5
    else
      sy_ri 1 M5
set_option maxRecDepth 100000 in
theorem jrX3_readFact (a1 : Int32) (a2 : Int32) (a3 : Int32) (a4 : Int32) (M : sy_M) : sy_run skX3 qX3_readFact [(0, .aload_n 0, 1, []), (1, .getfield 15, 3, []), (4, .iload_n 1, 1, []), (5, .invokevirtual 29, 3, []), (8, .ifCond .ne 11, 3, []), (11, .aload_n 0, 1, []), (12, .getfield 15, 3, []), (15, .invokevirtual 58, 3, []), (18, .ireturn, 1, []), (19, .aload_n 0, 1, [true, false, true, true, true, false]), (20, .getfield 15, 3, []), (23, .iload_n 3, 1, []), (24, .iload 4, 2, []), (26, .invokevirtual 36, 3, []), (29, .istore 5, 2, []), (31, .aload_n 0, 1, []), (32, .getfield 9, 3, []), (35, .aload_n 0, 1, []), (36, .getfield 9, 3, []), (39, .getfield 64, 3, []), (42, .iconst 1, 1, []), (43, .isub, 1, []), (44, .iload_n 2, 1, []), (45, .iload 5, 2, []), (47, .invokevirtual 67, 3, []), (50, .iload 5, 2, []), (52, .iconst (-1), 1, []), (53, .if_icmp .eq 7, 3, []), (56, .iconst 1, 1, []), (57, .goto 4, 3, []), (60, .iconst 0, 1, [false, false, false, false, false, false]), (61, .ireturn, 1, [false, false, false, false, false, false])] [(86, 0, jcX10_takes), (87, 0, jcX10_takesNumber), (11, 1, jcX2_set), (88, 0, jcX10_fails)] [] 33 [] 0 [.ref 47, .int a1, .int a2, .int a3, .int a4, xe_no] [] M = jfX3_readFact a1 a2 a3 a4 M := rfl
theorem jtX3_readFact : ∀ (a1 : Int32) (a2 : Int32) (a3 : Int32) (a4 : Int32) (M : sy_M) (r : xe_R × sy_M), jfX3_readFact a1 a2 a3 a4 M = some r → sy_E (2) qX3_readFact 0 [.ref 47, .int a1, .int a2, .int a3, .int a4, xe_no] [] M r := by
  intro a1 a2 a3 a4 M r h
  exact sy_run_by (d := 1) ((jrX3_readFact _ _ _ _ M).trans h) hkX3 (by decide +kernel) (sy_cs_cons (jeX10_takes.deep (by decide)) (sy_cs_cons (jeX10_takesNumber.deep (by decide)) (sy_cs_cons (jeX2_set.deep (by decide)) (sy_cs_cons (jeX10_fails.deep (by decide)) sy_cs_nil)))) sy_us_nil
def jcX3_readFact (as : List Value) (M : sy_M) (K : sy_O → sy_O) : sy_O := sy_xc 47 as fun l => sy_xi l fun a1 l => sy_xi l fun a2 l => sy_xi l fun a3 l => sy_xi l fun a4 l => sy_xn l (K (jfX3_readFact a1 a2 a3 a4 M))
theorem jeX3_readFact : sy_snd (2) 35 (jcX3_readFact) := by
  intro as M K r h
  obtain ⟨l, e, h1⟩ := sy_xc_ok h; subst e
  obtain ⟨a1, l, e, h2⟩ := sy_xi_ok h1; subst e
  obtain ⟨a2, l, e, h3⟩ := sy_xi_ok h2; subst e
  obtain ⟨a3, l, e, h4⟩ := sy_xi_ok h3; subst e
  obtain ⟨a4, l, e, h5⟩ := sy_xi_ok h4; subst e
  obtain ⟨e, h6⟩ := sy_xn_ok h5; subst e
  exact ⟨_, h6, fun r1 h0 => ⟨qX3_readFact, rfl, rfl, jtX3_readFact _ _ _ _ M r1 h0⟩⟩
/-! X3_readLodger StairMeter$HouseLines readLodger ()Z [('R', 47)] -/
def juX3_readLodger_175 (k : sy_M → sy_O) (ls st : List Value) (M : sy_M) : sy_O := sy_xv ls fun _ l => sy_xv l fun _ l => sy_xn l (sy_xn st (k M))
theorem jwX3_readLodger_175 {d : Nat} {k : sy_M → sy_O} (hk : ∀ (w0 : Value) (w1 : Value) (M : sy_M) (r : xe_R × sy_M), k M = some r → sy_E (d) qX3_readLodger 175 [w0, w1] [] M r) : ∀ ls st M r, juX3_readLodger_175 k ls st M = some r → sy_E d qX3_readLodger 175 ls st M r := by
  intro ls st M r h
  obtain ⟨w0, l, e, h1⟩ := sy_xv_ok h; subst e
  obtain ⟨w1, l, e, h2⟩ := sy_xv_ok h1; subst e
  obtain ⟨e, h3⟩ := sy_xn_ok h2; subst e
  obtain ⟨e, h4⟩ := sy_xn_ok h3; subst e
  exact hk _ _ M r h4
def juX3_readLodger_148 (k : sy_M → sy_O) (ls st : List Value) (M : sy_M) : sy_O := sy_xc 47 ls fun l => sy_xv l fun _ l => sy_xn l (sy_xn st (k M))
theorem jwX3_readLodger_148 {d : Nat} {k : sy_M → sy_O} (hk : ∀ (w1 : Value) (M : sy_M) (r : xe_R × sy_M), k M = some r → sy_E (d) qX3_readLodger 148 [.ref 47, w1] [] M r) : ∀ ls st M r, juX3_readLodger_148 k ls st M = some r → sy_E d qX3_readLodger 148 ls st M r := by
  intro ls st M r h
  obtain ⟨l, e, h1⟩ := sy_xc_ok h; subst e
  obtain ⟨w1, l, e, h2⟩ := sy_xv_ok h1; subst e
  obtain ⟨e, h3⟩ := sy_xn_ok h2; subst e
  obtain ⟨e, h4⟩ := sy_xn_ok h3; subst e
  exact hk _ M r h4
def juX3_readLodger_79 (k : sy_M → sy_O) (ls st : List Value) (M : sy_M) : sy_O := sy_xc 47 ls fun l => sy_xi l fun w1 l => sy_xn l (sy_xn st (k M))
theorem jwX3_readLodger_79 {d : Nat} {k : sy_M → sy_O} (hk : ∀ (w1 : Int32) (M : sy_M) (r : xe_R × sy_M), k M = some r → sy_E (d) qX3_readLodger 79 [.ref 47, .int w1] [] M r) : ∀ ls st M r, juX3_readLodger_79 k ls st M = some r → sy_E d qX3_readLodger 79 ls st M r := by
  intro ls st M r h
  obtain ⟨l, e, h1⟩ := sy_xc_ok h; subst e
  obtain ⟨w1, l, e, h2⟩ := sy_xi_ok h1; subst e
  obtain ⟨e, h3⟩ := sy_xn_ok h2; subst e
  obtain ⟨e, h4⟩ := sy_xn_ok h3; subst e
  exact hk _ M r h4
def jfX3_readLodger_175 (M : sy_M) : sy_O :=
  sy_ri 1 M
set_option maxRecDepth 100000 in
theorem jrX3_readLodger_175 (w0 : Value) (w1 : Value) (M : sy_M) : sy_run skX3 qX3_readLodger [(175, .iconst 1, 1, [false, false]), (176, .goto 4, 3, []), (180, .ireturn, 1, [false, false])] [] [] 4 [] 175 [w0, w1] [] M = jfX3_readLodger_175 M := rfl
theorem jtX3_readLodger_175 : ∀ (w0 : Value) (w1 : Value) (M : sy_M) (r : xe_R × sy_M), jfX3_readLodger_175 M = some r → sy_E (3) qX3_readLodger 175 [w0, w1] [] M r := by
  intro w0 w1 M r h
  exact sy_run_by (d := 2) ((jrX3_readLodger_175 _ _ M).trans h) hkX3 (by decide +kernel) sy_cs_nil sy_us_nil
def jfX3_readLodger_148 (M : sy_M) : sy_O :=
  sy_bi (jfX10_thing M) fun v2 M1 =>
  if v2 = 266 then
    sy_bi (jfX3_readFact 266 4 0 20 M1) fun v4 M3 =>
    if v4 = 0 then
      sy_ri 0 M3
    else
      jfX3_readLodger_175 M3
  else
    jfX3_readLodger_175 M1
set_option maxRecDepth 100000 in
theorem jrX3_readLodger_148 (w1 : Value) (M : sy_M) : sy_run skX3 qX3_readLodger [(148, .aload_n 0, 1, [true, false]), (149, .getfield 15, 3, []), (152, .invokevirtual 19, 3, []), (155, .sipush 266, 3, []), (158, .if_icmp .ne 17, 3, []), (161, .aload_n 0, 1, []), (162, .sipush 266, 3, []), (165, .iconst 4, 1, []), (166, .iconst 0, 1, []), (167, .bipush 20, 2, []), (169, .invokevirtual 71, 3, []), (172, .ifCond .eq 7, 3, []), (179, .iconst 0, 1, [false, false]), (180, .ireturn, 1, [false, false])] [(85, 0, jcX10_thing), (35, 0, jcX3_readFact)] [(175, juX3_readLodger_175 (jfX3_readLodger_175))] 15 [] 148 [.ref 47, w1] [] M = jfX3_readLodger_148 M := rfl
theorem jtX3_readLodger_148 : ∀ (w1 : Value) (M : sy_M) (r : xe_R × sy_M), jfX3_readLodger_148 M = some r → sy_E (3) qX3_readLodger 148 [.ref 47, w1] [] M r := by
  intro w1 M r h
  exact sy_run_by (d := 2) ((jrX3_readLodger_148 _ M).trans h) hkX3 (by decide +kernel) (sy_cs_cons (jeX10_thing.deep (by decide)) (sy_cs_cons (jeX3_readFact.deep (by decide)) sy_cs_nil)) (sy_us_cons (jwX3_readLodger_175 (jtX3_readLodger_175)) sy_us_nil)
def jfX3_readLodger_79 (M : sy_M) : sy_O :=
  sy_bi (jfX3_readFact 262 1 0 47 M) fun v2 M1 =>
  if v2 = 0 then
    sy_ri 0 M1
  else
    sy_bi (jfX3_readFact 263 2 0 47 M1) fun v4 M3 =>
    if v4 = 0 then
      sy_ri 0 M3
    else
      sy_bi (jfX3_readFact 264 5 0 99 M3) fun v6 M5 =>
      if v6 = 0 then
        sy_ri 0 M5
      else
        sy_bi (jfX10_thing M5) fun v8 M7 =>
        if v8 = 265 then
          sy_bi (jfX3_readFact 265 3 0 20 M7) fun v10 M9 =>
          if v10 = 0 then
            sy_ri 0 M9
          else
            jfX3_readLodger_148 M9
        else
          jfX3_readLodger_148 M7
set_option maxRecDepth 100000 in
theorem jrX3_readLodger_79 (w1 : Int32) (M : sy_M) : sy_run skX3 qX3_readLodger [(79, .aload_n 0, 1, []), (80, .sipush 262, 3, []), (83, .iconst 1, 1, []), (84, .iconst 0, 1, []), (85, .bipush 47, 2, []), (87, .invokevirtual 71, 3, []), (90, .ifCond .eq 89, 3, []), (93, .aload_n 0, 1, []), (94, .sipush 263, 3, []), (97, .iconst 2, 1, []), (98, .iconst 0, 1, []), (99, .bipush 47, 2, []), (101, .invokevirtual 71, 3, []), (104, .ifCond .eq 75, 3, []), (107, .aload_n 0, 1, []), (108, .sipush 264, 3, []), (111, .iconst 5, 1, []), (112, .iconst 0, 1, []), (113, .bipush 99, 2, []), (115, .invokevirtual 71, 3, []), (118, .ifCond .eq 61, 3, []), (121, .aload_n 0, 1, []), (122, .getfield 15, 3, []), (125, .invokevirtual 19, 3, []), (128, .sipush 265, 3, []), (131, .if_icmp .ne 17, 3, []), (134, .aload_n 0, 1, []), (135, .sipush 265, 3, []), (138, .iconst 3, 1, []), (139, .iconst 0, 1, []), (140, .bipush 20, 2, []), (142, .invokevirtual 71, 3, []), (145, .ifCond .eq 34, 3, []), (179, .iconst 0, 1, [false, false]), (180, .ireturn, 1, [false, false])] [(35, 0, jcX3_readFact), (85, 0, jcX10_thing)] [(148, juX3_readLodger_148 (jfX3_readLodger_148))] 36 [] 79 [.ref 47, .int w1] [] M = jfX3_readLodger_79 M := rfl
theorem jtX3_readLodger_79 : ∀ (w1 : Int32) (M : sy_M) (r : xe_R × sy_M), jfX3_readLodger_79 M = some r → sy_E (3) qX3_readLodger 79 [.ref 47, .int w1] [] M r := by
  intro w1 M r h
  exact sy_run_by (d := 2) ((jrX3_readLodger_79 _ M).trans h) hkX3 (by decide +kernel) (sy_cs_cons (jeX3_readFact.deep (by decide)) (sy_cs_cons (jeX10_thing.deep (by decide)) sy_cs_nil)) (sy_us_cons (jwX3_readLodger_148 (jtX3_readLodger_148)) sy_us_nil)
def jfX3_readLodger (M : sy_M) : sy_O :=
  let v1 := (M 14 3)
  if v1 < 7 then
    let M2 := sy_upd M 14 3 (v1 + 1)
    sy_bv (jfX2_set 14 v1 3 3 M2) fun M3 =>
    sy_bv (jfX2_set 14 v1 4 2 M3) fun M4 =>
    sy_bi (jfX10_takes 260 M4) fun v6 M5 =>
    if v6 = 0 then
      sy_ri 0 M5
    else
      sy_bi (jfX3_readFact 261 0 1 9 M5) fun v8 M7 =>
      if v8 = 0 then
        sy_ri 0 M7
      else
        jfX3_readLodger_79 M7
  else
    sy_bi (jfX10_fails M) fun v10 M9 =>
    sy_bb (sy_bo v10) <| sy_ri v10 M9
set_option maxRecDepth 100000 in
theorem jrX3_readLodger (M : sy_M) : sy_run skX3 qX3_readLodger [(0, .aload_n 0, 1, []), (1, .getfield 9, 3, []), (4, .getfield 64, 3, []), (7, .istore_n 1, 1, []), (8, .iload_n 1, 1, []), (9, .bipush 7, 2, []), (11, .if_icmp .lt 11, 3, []), (14, .aload_n 0, 1, []), (15, .getfield 15, 3, []), (18, .invokevirtual 58, 3, []), (21, .ireturn, 1, []), (22, .aload_n 0, 1, []), (23, .getfield 9, 3, []), (26, .iload_n 1, 1, []), (27, .iconst 1, 1, []), (28, .iadd, 1, []), (29, .putfield 64, 3, []), (32, .aload_n 0, 1, []), (33, .getfield 9, 3, []), (36, .iload_n 1, 1, []), (37, .iconst 3, 1, []), (38, .iconst 3, 1, []), (39, .invokevirtual 67, 3, []), (42, .aload_n 0, 1, []), (43, .getfield 9, 3, []), (46, .iload_n 1, 1, []), (47, .iconst 4, 1, []), (48, .iconst 2, 1, []), (49, .invokevirtual 67, 3, []), (52, .aload_n 0, 1, []), (53, .getfield 15, 3, []), (56, .sipush 260, 3, []), (59, .invokevirtual 29, 3, []), (62, .ifCond .eq 117, 3, []), (65, .aload_n 0, 1, []), (66, .sipush 261, 3, []), (69, .iconst 0, 1, []), (70, .iconst 1, 1, []), (71, .bipush 9, 2, []), (73, .invokevirtual 71, 3, []), (76, .ifCond .eq 103, 3, []), (179, .iconst 0, 1, [false, false]), (180, .ireturn, 1, [false, false])] [(11, 1, jcX2_set), (86, 0, jcX10_takes), (35, 0, jcX3_readFact), (88, 0, jcX10_fails)] [(79, juX3_readLodger_79 (jfX3_readLodger_79))] 44 [] 0 [.ref 47, xe_no] [] M = jfX3_readLodger M := rfl
theorem jtX3_readLodger : ∀ (M : sy_M) (r : xe_R × sy_M), jfX3_readLodger M = some r → sy_E (3) qX3_readLodger 0 [.ref 47, xe_no] [] M r := by
  intro  M r h
  exact sy_run_by (d := 2) ((jrX3_readLodger M).trans h) hkX3 (by decide +kernel) (sy_cs_cons (jeX2_set.deep (by decide)) (sy_cs_cons (jeX10_takes.deep (by decide)) (sy_cs_cons (jeX3_readFact.deep (by decide)) (sy_cs_cons (jeX10_fails.deep (by decide)) sy_cs_nil)))) (sy_us_cons (jwX3_readLodger_79 (jtX3_readLodger_79)) sy_us_nil)
def jcX3_readLodger (as : List Value) (M : sy_M) (K : sy_O → sy_O) : sy_O := sy_xc 47 as fun l => sy_xn l (K (jfX3_readLodger M))
theorem jeX3_readLodger : sy_snd (3) 34 (jcX3_readLodger) := by
  intro as M K r h
  obtain ⟨l, e, h1⟩ := sy_xc_ok h; subst e
  obtain ⟨e, h2⟩ := sy_xn_ok h1; subst e
  exact ⟨_, h2, fun r1 h0 => ⟨qX3_readLodger, rfl, rfl, jtX3_readLodger  M r1 h0⟩⟩
end
