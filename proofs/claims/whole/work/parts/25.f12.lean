/-! ===== functions of the methods (12); written by wip/whole/run_f.py ===== -/
noncomputable section
/-! X2_creditors StairMeter$House creditors (I)I ['A', 'I'] -/
def juX2_creditors_29 (k : Nat → Int32 → Int32 → Int32 → Int32 → sy_M → sy_O) (ls st : List Value) (M : sy_M) : sy_O := sy_xa ls fun r0 l => sy_xi l fun a1 l => sy_xv l fun _ l => sy_xi l fun a3 l => sy_xn l (sy_xi st fun s0 l => sy_xi l fun s1 l => sy_xn l (k r0 a1 a3 s0 s1 M))
theorem jwX2_creditors_29 {d : Nat} {k : Nat → Int32 → Int32 → Int32 → Int32 → sy_M → sy_O} (hk : ∀ (w2 : Value) (r0 : Nat) (a1 : Int32) (a3 : Int32) (s0 : Int32) (s1 : Int32) (M : sy_M) (r : xe_R × sy_M), k r0 a1 a3 s0 s1 M = some r → sy_E (d) qX2_creditors 29 [.ref r0, .int a1, w2, .int a3] [.int s0, .int s1] M r) : ∀ ls st M r, juX2_creditors_29 k ls st M = some r → sy_E d qX2_creditors 29 ls st M r := by
  intro ls st M r h
  obtain ⟨r0, l, e, h1⟩ := sy_xa_ok h; subst e
  obtain ⟨a1, l, e, h2⟩ := sy_xi_ok h1; subst e
  obtain ⟨w2, l, e, h3⟩ := sy_xv_ok h2; subst e
  obtain ⟨a3, l, e, h4⟩ := sy_xi_ok h3; subst e
  obtain ⟨e, h5⟩ := sy_xn_ok h4; subst e
  obtain ⟨s0, l, e, h6⟩ := sy_xi_ok h5; subst e
  obtain ⟨s1, l, e, h7⟩ := sy_xi_ok h6; subst e
  obtain ⟨e, h8⟩ := sy_xn_ok h7; subst e
  exact hk _ r0 a1 a3 s0 s1 M r h8
def juX2_creditors_4 (k : Nat → Int32 → Int32 → Int32 → sy_M → sy_O) (ls st : List Value) (M : sy_M) : sy_O := sy_xa ls fun r0 l => sy_xi l fun a1 l => sy_xi l fun a2 l => sy_xi l fun a3 l => sy_xn l (sy_xn st (k r0 a1 a2 a3 M))
theorem jwX2_creditors_4 {d : Nat} {k : Nat → Int32 → Int32 → Int32 → sy_M → sy_O} (hk : ∀ (r0 : Nat) (a1 : Int32) (a2 : Int32) (a3 : Int32) (M : sy_M) (r : xe_R × sy_M), k r0 a1 a2 a3 M = some r → sy_E (d) qX2_creditors 4 [.ref r0, .int a1, .int a2, .int a3] [] M r) : ∀ ls st M r, juX2_creditors_4 k ls st M = some r → sy_E d qX2_creditors 4 ls st M r := by
  intro ls st M r h
  obtain ⟨r0, l, e, h1⟩ := sy_xa_ok h; subst e
  obtain ⟨a1, l, e, h2⟩ := sy_xi_ok h1; subst e
  obtain ⟨a2, l, e, h3⟩ := sy_xi_ok h2; subst e
  obtain ⟨a3, l, e, h4⟩ := sy_xi_ok h3; subst e
  obtain ⟨e, h5⟩ := sy_xn_ok h4; subst e
  obtain ⟨e, h6⟩ := sy_xn_ok h5; subst e
  exact hk r0 a1 a2 a3 M r h6
def jfX2_creditors_29 (k4 : Nat → Int32 → Int32 → Int32 → sy_M → sy_O) (r0 : Nat) (a1 : Int32) (a3 : Int32) (s0 : Int32) (s1 : Int32) (M : sy_M) : sy_O :=
  let v1 := (s1 ||| s0)
  let v2 := a3 + 1
  k4 r0 a1 v1 v2 M
set_option maxRecDepth 100000 in
theorem jrX2_creditors_29 (k4 : Nat → Int32 → Int32 → Int32 → sy_M → sy_O) (w2 : Value) (r0 : Nat) (a1 : Int32) (a3 : Int32) (s0 : Int32) (s1 : Int32) (M : sy_M) : sy_run skX2 qX2_creditors [(29, .ior, 1, [true, true, false, true]), (30, .istore_n 2, 1, []), (31, .iinc 3 1, 3, []), (34, .goto (-30), 3, [])] [] [(4, juX2_creditors_4 k4)] 5 [] 29 [.ref r0, .int a1, w2, .int a3] [.int s0, .int s1] M = jfX2_creditors_29 k4 r0 a1 a3 s0 s1 M := rfl
theorem jtX2_creditors_29 {k4 : Nat → Int32 → Int32 → Int32 → sy_M → sy_O} (hk4 : ∀ (r0 : Nat) (a1 : Int32) (a2 : Int32) (a3 : Int32) (M : sy_M) (r : xe_R × sy_M), k4 r0 a1 a2 a3 M = some r → sy_E (3) qX2_creditors 4 [.ref r0, .int a1, .int a2, .int a3] [] M r) : ∀ (w2 : Value) (r0 : Nat) (a1 : Int32) (a3 : Int32) (s0 : Int32) (s1 : Int32) (M : sy_M) (r : xe_R × sy_M), jfX2_creditors_29 k4 r0 a1 a3 s0 s1 M = some r → sy_E (3) qX2_creditors 29 [.ref r0, .int a1, w2, .int a3] [.int s0, .int s1] M r := by
  intro w2 r0 a1 a3 s0 s1 M r h
  exact sy_run_by (d := 2) ((jrX2_creditors_29 _ _ _ _ _ _ _ M).trans h) hkX2 (by decide +kernel) sy_cs_nil (sy_us_cons (jwX2_creditors_4 hk4) sy_us_nil)
def jgX2_creditors_4 (k4 : Nat → Int32 → Int32 → Int32 → sy_M → sy_O) (r0 : Nat) (a1 : Int32) (a2 : Int32) (a3 : Int32) (M : sy_M) : sy_O :=
  sy_bs (sy_is 2 r0) <|
  if a3 < (M r0 3) then
    sy_bs (sy_is 2 r0) <|
    sy_bi (jfX2_owed r0 a1 a3 M) fun v2 M1 =>
    if 0 < v2 then
      jfX2_creditors_29 k4 r0 a1 a3 (1 <<< (a3 &&& 31)) a2 M1
    else
      jfX2_creditors_29 k4 r0 a1 a3 0 a2 M1
  else
    sy_ri a2 M
def jfX2_creditors_4 : Nat → Nat → Int32 → Int32 → Int32 → sy_M → sy_O
  | 0, _, _, _, _, _ => none
  | n + 1, r0, a1, a2, a3, M => jgX2_creditors_4 (jfX2_creditors_4 n) r0 a1 a2 a3 M
set_option maxRecDepth 100000 in
theorem jrX2_creditors_4 (k4 : Nat → Int32 → Int32 → Int32 → sy_M → sy_O) (r0 : Nat) (a1 : Int32) (a2 : Int32) (a3 : Int32) (M : sy_M) : sy_run skX2 qX2_creditors [(4, .iload_n 3, 1, []), (5, .aload_n 0, 1, []), (6, .getfield 27, 3, []), (9, .if_icmp .ge 28, 3, []), (12, .iload_n 2, 1, []), (13, .aload_n 0, 1, []), (14, .iload_n 1, 1, []), (15, .iload_n 3, 1, []), (16, .invokevirtual 92, 3, []), (19, .ifCond .le 9, 3, []), (22, .iconst 1, 1, []), (23, .iload_n 3, 1, []), (24, .ishl, 1, []), (25, .goto 4, 3, []), (28, .iconst 0, 1, [true, true, false, true]), (37, .iload_n 2, 1, [false, false, true, false]), (38, .ireturn, 1, [])] [(19, 0, jcX2_owed)] [(29, juX2_creditors_29 (jfX2_creditors_29 k4))] 18 [] 4 [.ref r0, .int a1, .int a2, .int a3] [] M = jgX2_creditors_4 k4 r0 a1 a2 a3 M := rfl
theorem jtX2_creditors_4 : ∀ n : Nat, ∀ (r0 : Nat) (a1 : Int32) (a2 : Int32) (a3 : Int32) (M : sy_M) (r : xe_R × sy_M), jfX2_creditors_4 n r0 a1 a2 a3 M = some r → sy_E (3) qX2_creditors 4 [.ref r0, .int a1, .int a2, .int a3] [] M r := by
  intro n
  induction n with
  | zero => intro r0 a1 a2 a3 M r h; exact absurd (show (none : sy_O) = some r from h) (by simp)
  | succ n ih => intro r0 a1 a2 a3 M r h; exact sy_run_by (d := 2) ((jrX2_creditors_4 _ _ _ _ _ M).trans h) hkX2 (by decide +kernel) (sy_cs_cons (jeX2_owed.deep (by decide)) sy_cs_nil) (sy_us_cons (jwX2_creditors_29 (jtX2_creditors_29 ih)) sy_us_nil)
def jfX2_creditors (r0 : Nat) (a1 : Int32) (M : sy_M) : sy_O :=
  jfX2_creditors_4 sy_F r0 a1 0 0 M
set_option maxRecDepth 100000 in
theorem jrX2_creditors (r0 : Nat) (a1 : Int32) (M : sy_M) : sy_run skX2 qX2_creditors [(0, .iconst 0, 1, []), (1, .istore_n 2, 1, []), (2, .iconst 0, 1, []), (3, .istore_n 3, 1, [])] [] [(4, juX2_creditors_4 (jfX2_creditors_4 sy_F))] 5 [] 0 [.ref r0, .int a1, xe_no, xe_no] [] M = jfX2_creditors r0 a1 M := rfl
theorem jtX2_creditors : ∀ (r0 : Nat) (a1 : Int32) (M : sy_M) (r : xe_R × sy_M), jfX2_creditors r0 a1 M = some r → sy_E (3) qX2_creditors 0 [.ref r0, .int a1, xe_no, xe_no] [] M r := by
  intro r0 a1 M r h
  exact sy_run_by (d := 2) ((jrX2_creditors _ _ M).trans h) hkX2 (by decide +kernel) sy_cs_nil (sy_us_cons (jwX2_creditors_4 (jtX2_creditors_4 sy_F)) sy_us_nil)
def jcX2_creditors (as : List Value) (M : sy_M) (K : sy_O → sy_O) : sy_O := sy_xa as fun r0 l => sy_xi l fun a1 l => sy_xn l (K (jfX2_creditors r0 a1 M))
theorem jeX2_creditors : sy_snd (3) 23 (jcX2_creditors) := by
  intro as M K r h
  obtain ⟨r0, l, e, h1⟩ := sy_xa_ok h; subst e
  obtain ⟨a1, l, e, h2⟩ := sy_xi_ok h1; subst e
  obtain ⟨e, h3⟩ := sy_xn_ok h2; subst e
  exact ⟨_, h3, fun r1 h0 => ⟨qX2_creditors, rfl, rfl, jtX2_creditors _ _ M r1 h0⟩⟩
/-! X11_ring StairMeter ring (I)Z [('R', 0), 'I'] -/
def juX11_ring_63 (k : Int32 → Int32 → Int32 → Int32 → sy_M → sy_O) (ls st : List Value) (M : sy_M) : sy_O := sy_xc 0 ls fun l => sy_xi l fun a1 l => sy_xi l fun a2 l => sy_xi l fun a3 l => sy_xi l fun a4 l => sy_xn l (sy_xn st (k a1 a2 a3 a4 M))
theorem jwX11_ring_63 {d : Nat} {k : Int32 → Int32 → Int32 → Int32 → sy_M → sy_O} (hk : ∀ (a1 : Int32) (a2 : Int32) (a3 : Int32) (a4 : Int32) (M : sy_M) (r : xe_R × sy_M), k a1 a2 a3 a4 M = some r → sy_E (d) qX11_ring 63 [.ref 0, .int a1, .int a2, .int a3, .int a4] [] M r) : ∀ ls st M r, juX11_ring_63 k ls st M = some r → sy_E d qX11_ring 63 ls st M r := by
  intro ls st M r h
  obtain ⟨l, e, h1⟩ := sy_xc_ok h; subst e
  obtain ⟨a1, l, e, h2⟩ := sy_xi_ok h1; subst e
  obtain ⟨a2, l, e, h3⟩ := sy_xi_ok h2; subst e
  obtain ⟨a3, l, e, h4⟩ := sy_xi_ok h3; subst e
  obtain ⟨a4, l, e, h5⟩ := sy_xi_ok h4; subst e
  obtain ⟨e, h6⟩ := sy_xn_ok h5; subst e
  obtain ⟨e, h7⟩ := sy_xn_ok h6; subst e
  exact hk a1 a2 a3 a4 M r h7
def juX11_ring_30 (k : Int32 → Int32 → Int32 → Int32 → sy_M → sy_O) (ls st : List Value) (M : sy_M) : sy_O := sy_xc 0 ls fun l => sy_xi l fun a1 l => sy_xi l fun a2 l => sy_xi l fun a3 l => sy_xi l fun a4 l => sy_xn l (sy_xn st (k a1 a2 a3 a4 M))
theorem jwX11_ring_30 {d : Nat} {k : Int32 → Int32 → Int32 → Int32 → sy_M → sy_O} (hk : ∀ (a1 : Int32) (a2 : Int32) (a3 : Int32) (a4 : Int32) (M : sy_M) (r : xe_R × sy_M), k a1 a2 a3 a4 M = some r → sy_E (d) qX11_ring 30 [.ref 0, .int a1, .int a2, .int a3, .int a4] [] M r) : ∀ ls st M r, juX11_ring_30 k ls st M = some r → sy_E d qX11_ring 30 ls st M r := by
  intro ls st M r h
  obtain ⟨l, e, h1⟩ := sy_xc_ok h; subst e
  obtain ⟨a1, l, e, h2⟩ := sy_xi_ok h1; subst e
  obtain ⟨a2, l, e, h3⟩ := sy_xi_ok h2; subst e
  obtain ⟨a3, l, e, h4⟩ := sy_xi_ok h3; subst e
  obtain ⟨a4, l, e, h5⟩ := sy_xi_ok h4; subst e
  obtain ⟨e, h6⟩ := sy_xn_ok h5; subst e
  obtain ⟨e, h7⟩ := sy_xn_ok h6; subst e
  exact hk a1 a2 a3 a4 M r h7
def juX11_ring_16 (k : Int32 → Int32 → Int32 → sy_M → sy_O) (ls st : List Value) (M : sy_M) : sy_O := sy_xc 0 ls fun l => sy_xi l fun a1 l => sy_xi l fun a2 l => sy_xi l fun a3 l => sy_xv l fun _ l => sy_xn l (sy_xn st (k a1 a2 a3 M))
theorem jwX11_ring_16 {d : Nat} {k : Int32 → Int32 → Int32 → sy_M → sy_O} (hk : ∀ (w4 : Value) (a1 : Int32) (a2 : Int32) (a3 : Int32) (M : sy_M) (r : xe_R × sy_M), k a1 a2 a3 M = some r → sy_E (d) qX11_ring 16 [.ref 0, .int a1, .int a2, .int a3, w4] [] M r) : ∀ ls st M r, juX11_ring_16 k ls st M = some r → sy_E d qX11_ring 16 ls st M r := by
  intro ls st M r h
  obtain ⟨l, e, h1⟩ := sy_xc_ok h; subst e
  obtain ⟨a1, l, e, h2⟩ := sy_xi_ok h1; subst e
  obtain ⟨a2, l, e, h3⟩ := sy_xi_ok h2; subst e
  obtain ⟨a3, l, e, h4⟩ := sy_xi_ok h3; subst e
  obtain ⟨w4, l, e, h5⟩ := sy_xv_ok h4; subst e
  obtain ⟨e, h6⟩ := sy_xn_ok h5; subst e
  obtain ⟨e, h7⟩ := sy_xn_ok h6; subst e
  exact hk _ a1 a2 a3 M r h7
def jfX11_ring_63 (k16 : Int32 → Int32 → Int32 → sy_M → sy_O) (k30 : Int32 → Int32 → Int32 → Int32 → sy_M → sy_O) (a1 : Int32) (a2 : Int32) (a3 : Int32) (a4 : Int32) (M : sy_M) : sy_O :=
  let v1 := a4 + 1
  k30 a1 a2 a3 v1 M
set_option maxRecDepth 100000 in
theorem jrX11_ring_63 (k16 : Int32 → Int32 → Int32 → sy_M → sy_O) (k30 : Int32 → Int32 → Int32 → Int32 → sy_M → sy_O) (a1 : Int32) (a2 : Int32) (a3 : Int32) (a4 : Int32) (M : sy_M) : sy_run skX11 qX11_ring [(63, .iinc 4 1, 3, []), (66, .goto (-36), 3, [])] [] [(30, juX11_ring_30 k30)] 3 [] 63 [.ref 0, .int a1, .int a2, .int a3, .int a4] [] M = jfX11_ring_63 k16 k30 a1 a2 a3 a4 M := rfl
theorem jtX11_ring_63 {k16 : Int32 → Int32 → Int32 → sy_M → sy_O} (hk16 : ∀ (w4 : Value) (a1 : Int32) (a2 : Int32) (a3 : Int32) (M : sy_M) (r : xe_R × sy_M), k16 a1 a2 a3 M = some r → sy_E (4) qX11_ring 16 [.ref 0, .int a1, .int a2, .int a3, w4] [] M r) {k30 : Int32 → Int32 → Int32 → Int32 → sy_M → sy_O} (hk30 : ∀ (a1 : Int32) (a2 : Int32) (a3 : Int32) (a4 : Int32) (M : sy_M) (r : xe_R × sy_M), k30 a1 a2 a3 a4 M = some r → sy_E (4) qX11_ring 30 [.ref 0, .int a1, .int a2, .int a3, .int a4] [] M r) : ∀ (a1 : Int32) (a2 : Int32) (a3 : Int32) (a4 : Int32) (M : sy_M) (r : xe_R × sy_M), jfX11_ring_63 k16 k30 a1 a2 a3 a4 M = some r → sy_E (4) qX11_ring 63 [.ref 0, .int a1, .int a2, .int a3, .int a4] [] M r := by
  intro a1 a2 a3 a4 M r h
  exact sy_run_by (d := 3) ((jrX11_ring_63 _ _ _ _ _ _ M).trans h) hkX11 (by decide +kernel) sy_cs_nil (sy_us_cons (jwX11_ring_30 hk30) sy_us_nil)
def jgX11_ring_30 (k16 : Int32 → Int32 → Int32 → sy_M → sy_O) (k30 : Int32 → Int32 → Int32 → Int32 → sy_M → sy_O) (a1 : Int32) (a2 : Int32) (a3 : Int32) (a4 : Int32) (M : sy_M) : sy_O :=
  if a4 < (M 9 3) then
    if ((a2 >>> (a4 &&& 31)) &&& 1) = 0 then
      jfX11_ring_63 k16 k30 a1 a2 a3 a4 M
    else
      sy_bi (jfX2_creditors 9 a4 M) fun v3 M2 =>
      let v4 := (a2 ||| v3)
      jfX11_ring_63 k16 k30 a1 v4 a3 a4 M2
  else
    let v1 := a3 + 1
    k16 a1 a2 v1 M
def jfX11_ring_30 (k16 : Int32 → Int32 → Int32 → sy_M → sy_O) : Nat → Int32 → Int32 → Int32 → Int32 → sy_M → sy_O
  | 0, _, _, _, _, _ => none
  | n + 1, a1, a2, a3, a4, M => jgX11_ring_30 k16 (jfX11_ring_30 k16 n) a1 a2 a3 a4 M
set_option maxRecDepth 100000 in
theorem jrX11_ring_30 (k16 : Int32 → Int32 → Int32 → sy_M → sy_O) (k30 : Int32 → Int32 → Int32 → Int32 → sy_M → sy_O) (a1 : Int32) (a2 : Int32) (a3 : Int32) (a4 : Int32) (M : sy_M) : sy_run skX11 qX11_ring [(30, .iload 4, 2, []), (32, .aload_n 0, 1, []), (33, .getfield 28, 3, []), (36, .getfield 207, 3, []), (39, .if_icmp .ge 30, 3, []), (42, .iload_n 2, 1, []), (43, .iload 4, 2, []), (45, .ishr, 1, []), (46, .iconst 1, 1, []), (47, .iand, 1, []), (48, .ifCond .eq 15, 3, []), (51, .iload_n 2, 1, []), (52, .aload_n 0, 1, []), (53, .getfield 28, 3, []), (56, .iload 4, 2, []), (58, .invokevirtual 389, 3, []), (61, .ior, 1, []), (62, .istore_n 2, 1, []), (69, .iinc 3 1, 3, [true, true, true, true, false]), (72, .goto (-56), 3, [])] [(23, 0, jcX2_creditors)] [(16, juX11_ring_16 k16), (63, juX11_ring_63 (jfX11_ring_63 k16 k30))] 21 [] 30 [.ref 0, .int a1, .int a2, .int a3, .int a4] [] M = jgX11_ring_30 k16 k30 a1 a2 a3 a4 M := rfl
theorem jtX11_ring_30 {k16 : Int32 → Int32 → Int32 → sy_M → sy_O} (hk16 : ∀ (w4 : Value) (a1 : Int32) (a2 : Int32) (a3 : Int32) (M : sy_M) (r : xe_R × sy_M), k16 a1 a2 a3 M = some r → sy_E (4) qX11_ring 16 [.ref 0, .int a1, .int a2, .int a3, w4] [] M r) : ∀ n : Nat, ∀ (a1 : Int32) (a2 : Int32) (a3 : Int32) (a4 : Int32) (M : sy_M) (r : xe_R × sy_M), jfX11_ring_30 k16 n a1 a2 a3 a4 M = some r → sy_E (4) qX11_ring 30 [.ref 0, .int a1, .int a2, .int a3, .int a4] [] M r := by
  intro n
  induction n with
  | zero => intro a1 a2 a3 a4 M r h; exact absurd (show (none : sy_O) = some r from h) (by simp)
  | succ n ih => intro a1 a2 a3 a4 M r h; exact sy_run_by (d := 3) ((jrX11_ring_30 _ _ _ _ _ _ M).trans h) hkX11 (by decide +kernel) (sy_cs_cons (jeX2_creditors.deep (by decide)) sy_cs_nil) (sy_us_cons (jwX11_ring_16 hk16) (sy_us_cons (jwX11_ring_63 (jtX11_ring_63 hk16 ih)) sy_us_nil))
def jgX11_ring_16 (k16 : Int32 → Int32 → Int32 → sy_M → sy_O) (a1 : Int32) (a2 : Int32) (a3 : Int32) (M : sy_M) : sy_O :=
  if a3 < (M 9 3) then
    jfX11_ring_30 k16 sy_F a1 a2 a3 0 M
  else
    if ((a2 >>> (a1 &&& 31)) &&& 1) = 0 then
      sy_ri 0 M
    else
      sy_ri 1 M
def jfX11_ring_16 : Nat → Int32 → Int32 → Int32 → sy_M → sy_O
  | 0, _, _, _, _ => none
  | n + 1, a1, a2, a3, M => jgX11_ring_16 (jfX11_ring_16 n) a1 a2 a3 M
set_option maxRecDepth 100000 in
theorem jrX11_ring_16 (k16 : Int32 → Int32 → Int32 → sy_M → sy_O) (w4 : Value) (a1 : Int32) (a2 : Int32) (a3 : Int32) (M : sy_M) : sy_run skX11 qX11_ring [(16, .iload_n 3, 1, [true, true, true, true, false]), (17, .aload_n 0, 1, []), (18, .getfield 28, 3, []), (21, .getfield 207, 3, []), (24, .if_icmp .ge 51, 3, []), (27, .iconst 0, 1, []), (28, .istore 4, 2, []), (75, .iload_n 2, 1, [false, true, true, false, false]), (76, .iload_n 1, 1, []), (77, .ishr, 1, []), (78, .iconst 1, 1, []), (79, .iand, 1, []), (80, .ifCond .eq 7, 3, []), (83, .iconst 1, 1, []), (84, .goto 4, 3, []), (87, .iconst 0, 1, [false, false, false, false, false]), (88, .ireturn, 1, [false, false, false, false, false])] [] [(30, juX11_ring_30 (jfX11_ring_30 k16 sy_F))] 18 [] 16 [.ref 0, .int a1, .int a2, .int a3, w4] [] M = jgX11_ring_16 k16 a1 a2 a3 M := rfl
theorem jtX11_ring_16 : ∀ n : Nat, ∀ (w4 : Value) (a1 : Int32) (a2 : Int32) (a3 : Int32) (M : sy_M) (r : xe_R × sy_M), jfX11_ring_16 n a1 a2 a3 M = some r → sy_E (4) qX11_ring 16 [.ref 0, .int a1, .int a2, .int a3, w4] [] M r := by
  intro n
  induction n with
  | zero => intro w4 a1 a2 a3 M r h; exact absurd (show (none : sy_O) = some r from h) (by simp)
  | succ n ih => intro w4 a1 a2 a3 M r h; exact sy_run_by (d := 3) ((jrX11_ring_16 _ _ _ _ _ M).trans h) hkX11 (by decide +kernel) sy_cs_nil (sy_us_cons (jwX11_ring_30 (jtX11_ring_30 ih sy_F)) sy_us_nil)
def jfX11_ring (a1 : Int32) (M : sy_M) : sy_O :=
  sy_bv (jfX11_checkLodger a1 M) fun M1 =>
  sy_bi (jfX2_creditors 9 a1 M1) fun v3 M2 =>
  jfX11_ring_16 sy_F a1 v3 0 M2
set_option maxRecDepth 100000 in
theorem jrX11_ring (a1 : Int32) (M : sy_M) : sy_run skX11 qX11_ring [(0, .aload_n 0, 1, []), (1, .iload_n 1, 1, []), (2, .invokevirtual 149, 3, []), (5, .aload_n 0, 1, []), (6, .getfield 28, 3, []), (9, .iload_n 1, 1, []), (10, .invokevirtual 389, 3, []), (13, .istore_n 2, 1, []), (14, .iconst 0, 1, []), (15, .istore_n 3, 1, [])] [(176, 1, jcX11_checkLodger), (23, 0, jcX2_creditors)] [(16, juX11_ring_16 (jfX11_ring_16 sy_F))] 11 [] 0 [.ref 0, .int a1, xe_no, xe_no, xe_no] [] M = jfX11_ring a1 M := rfl
theorem jtX11_ring : ∀ (a1 : Int32) (M : sy_M) (r : xe_R × sy_M), jfX11_ring a1 M = some r → sy_E (4) qX11_ring 0 [.ref 0, .int a1, xe_no, xe_no, xe_no] [] M r := by
  intro a1 M r h
  exact sy_run_by (d := 3) ((jrX11_ring _ M).trans h) hkX11 (by decide +kernel) (sy_cs_cons (jeX11_checkLodger.deep (by decide)) (sy_cs_cons (jeX2_creditors.deep (by decide)) sy_cs_nil)) (sy_us_cons (jwX11_ring_16 (jtX11_ring_16 sy_F)) sy_us_nil)
def jcX11_ring (as : List Value) (M : sy_M) (K : sy_O → sy_O) : sy_O := sy_xc 0 as fun l => sy_xi l fun a1 l => sy_xn l (K (jfX11_ring a1 M))
theorem jeX11_ring : sy_snd (4) 158 (jcX11_ring) := by
  intro as M K r h
  obtain ⟨l, e, h1⟩ := sy_xc_ok h; subst e
  obtain ⟨a1, l, e, h2⟩ := sy_xi_ok h1; subst e
  obtain ⟨e, h3⟩ := sy_xn_ok h2; subst e
  exact ⟨_, h3, fun r1 h0 => ⟨qX11_ring, rfl, rfl, jtX11_ring _ M r1 h0⟩⟩
/-! L_ring StairMeterLaw ring (LStairMeter;I[J)I [('R', 0), 'I', ('R', 132)] -/
def juL_ring_15 (k : Int64 → Int32 → sy_M → sy_O) (ls st : List Value) (M : sy_M) : sy_O := sy_xv ls fun _ l => sy_xv l fun _ l => sy_xv l fun _ l => sy_xv l fun _ l => sy_xn l (sy_xl st fun s0 l => sy_xi l fun s1 l => sy_xc 132 l fun l => sy_xn l (k s0 s1 M))
theorem jwL_ring_15 {d : Nat} {k : Int64 → Int32 → sy_M → sy_O} (hk : ∀ (w0 : Value) (w1 : Value) (w2 : Value) (w3 : Value) (s0 : Int64) (s1 : Int32) (M : sy_M) (r : xe_R × sy_M), k s0 s1 M = some r → sy_E (d) qL_ring 15 [w0, w1, w2, w3] [.long s0, .int s1, .ref 132] M r) : ∀ ls st M r, juL_ring_15 k ls st M = some r → sy_E d qL_ring 15 ls st M r := by
  intro ls st M r h
  obtain ⟨w0, l, e, h1⟩ := sy_xv_ok h; subst e
  obtain ⟨w1, l, e, h2⟩ := sy_xv_ok h1; subst e
  obtain ⟨w2, l, e, h3⟩ := sy_xv_ok h2; subst e
  obtain ⟨w3, l, e, h4⟩ := sy_xv_ok h3; subst e
  obtain ⟨e, h5⟩ := sy_xn_ok h4; subst e
  obtain ⟨s0, l, e, h6⟩ := sy_xl_ok h5; subst e
  obtain ⟨s1, l, e, h7⟩ := sy_xi_ok h6; subst e
  obtain ⟨l, e, h8⟩ := sy_xc_ok h7; subst e
  obtain ⟨e, h9⟩ := sy_xn_ok h8; subst e
  exact hk _ _ _ _ s0 s1 M r h9
def jfL_ring_15 (s0 : Int64) (s1 : Int32) (M : sy_M) : sy_O :=
  sy_bx (xe_in s1 1) <|
  let M1 := sy_wl M 132 (Int32.toNatClampNeg s1) s0
  sy_ri 0 M1
set_option maxRecDepth 100000 in
theorem jrL_ring_15 (w0 : Value) (w1 : Value) (w2 : Value) (w3 : Value) (s0 : Int64) (s1 : Int32) (M : sy_M) : sy_run skL qL_ring [(15, .lastore, 1, [false, false, false, false]), (16, .goto 6, 3, []), (22, .iconst 0, 1, [false, false, false, false]), (23, .ireturn, 1, [])] [] [] 5 [] 15 [w0, w1, w2, w3] [.long s0, .int s1, .ref 132] M = jfL_ring_15 s0 s1 M := rfl
theorem jtL_ring_15 : ∀ (w0 : Value) (w1 : Value) (w2 : Value) (w3 : Value) (s0 : Int64) (s1 : Int32) (M : sy_M) (r : xe_R × sy_M), jfL_ring_15 s0 s1 M = some r → sy_E (5) qL_ring 15 [w0, w1, w2, w3] [.long s0, .int s1, .ref 132] M r := by
  intro w0 w1 w2 w3 s0 s1 M r h
  exact sy_run_by (d := 4) ((jrL_ring_15 _ _ _ _ _ _ M).trans h) hkL (by decide +kernel) sy_cs_nil sy_us_nil
def jfL_ring (a1 : Int32) (M : sy_M) : sy_O :=
  sy_hi (jfX11_ring a1 M) (fun v2 M1 =>
    if v2 = 0 then
      jfL_ring_15 (Int64.ofNat 0) 0 M1
    else
      jfL_ring_15 (Int64.ofNat 1) 0 M1)
  (fun c3 M4 => if c3 = 22 then sy_ri 1 M4 else none)
set_option maxRecDepth 100000 in
theorem jrL_ring (a1 : Int32) (M : sy_M) : sy_run skL qL_ring [(0, .aload_n 2, 1, []), (1, .iconst 0, 1, []), (2, .aload_n 0, 1, []), (3, .iload_n 1, 1, []), (4, .invokevirtual 113, 3, []), (7, .ifCond .eq 7, 3, []), (10, .lconst 1, 1, []), (11, .goto 4, 3, []), (14, .lconst 0, 1, [false, false, false, false]), (19, .astore_n 3, 1, [false, false, false, false]), (20, .iconst 1, 1, []), (21, .ireturn, 1, [])] [(158, 3, jcX11_ring)] [(15, juL_ring_15 (jfL_ring_15))] 13 [] 0 [.ref 0, .int a1, .ref 132, xe_no] [] M = jfL_ring a1 M := rfl
theorem jtL_ring : ∀ (a1 : Int32) (M : sy_M) (r : xe_R × sy_M), jfL_ring a1 M = some r → sy_E (5) qL_ring 0 [.ref 0, .int a1, .ref 132, xe_no] [] M r := by
  intro a1 M r h
  exact sy_run_by (d := 4) ((jrL_ring _ M).trans h) hkL (by decide +kernel) (sy_cs_cons (jeX11_ring.deep (by decide)) sy_cs_nil) (sy_us_cons (jwL_ring_15 (jtL_ring_15)) sy_us_nil)
def jcL_ring (as : List Value) (M : sy_M) (K : sy_O → sy_O) : sy_O := sy_xc 0 as fun l => sy_xi l fun a1 l => sy_xc 132 l fun l => sy_xn l (K (jfL_ring a1 M))
theorem jeL_ring : sy_snd (5) 350 (jcL_ring) := by
  intro as M K r h
  obtain ⟨l, e, h1⟩ := sy_xc_ok h; subst e
  obtain ⟨a1, l, e, h2⟩ := sy_xi_ok h1; subst e
  obtain ⟨l, e, h3⟩ := sy_xc_ok h2; subst e
  obtain ⟨e, h4⟩ := sy_xn_ok h3; subst e
  exact ⟨_, h4, fun r1 h0 => ⟨qL_ring, rfl, rfl, jtL_ring _ M r1 h0⟩⟩
/-! X12_ring StairMeterModel ring (I)Z [('R', 121), 'I'] -/
def juX12_ring_97 (k : Int32 → Int32 → Int32 → Int32 → Int32 → Int32 → sy_M → sy_O) (ls st : List Value) (M : sy_M) : sy_O := sy_xc 121 ls fun l => sy_xi l fun a1 l => sy_xi l fun a2 l => sy_xi l fun a3 l => sy_xi l fun a4 l => sy_xi l fun a5 l => sy_xi l fun a6 l => sy_xn l (sy_xn st (k a1 a2 a3 a4 a5 a6 M))
theorem jwX12_ring_97 {d : Nat} {k : Int32 → Int32 → Int32 → Int32 → Int32 → Int32 → sy_M → sy_O} (hk : ∀ (a1 : Int32) (a2 : Int32) (a3 : Int32) (a4 : Int32) (a5 : Int32) (a6 : Int32) (M : sy_M) (r : xe_R × sy_M), k a1 a2 a3 a4 a5 a6 M = some r → sy_E (d) qX12_ring 97 [.ref 121, .int a1, .int a2, .int a3, .int a4, .int a5, .int a6] [] M r) : ∀ ls st M r, juX12_ring_97 k ls st M = some r → sy_E d qX12_ring 97 ls st M r := by
  intro ls st M r h
  obtain ⟨l, e, h1⟩ := sy_xc_ok h; subst e
  obtain ⟨a1, l, e, h2⟩ := sy_xi_ok h1; subst e
  obtain ⟨a2, l, e, h3⟩ := sy_xi_ok h2; subst e
  obtain ⟨a3, l, e, h4⟩ := sy_xi_ok h3; subst e
  obtain ⟨a4, l, e, h5⟩ := sy_xi_ok h4; subst e
  obtain ⟨a5, l, e, h6⟩ := sy_xi_ok h5; subst e
  obtain ⟨a6, l, e, h7⟩ := sy_xi_ok h6; subst e
  obtain ⟨e, h8⟩ := sy_xn_ok h7; subst e
  obtain ⟨e, h9⟩ := sy_xn_ok h8; subst e
  exact hk a1 a2 a3 a4 a5 a6 M r h9
def juX12_ring_59 (k : Int32 → Int32 → Int32 → Int32 → Int32 → Int32 → sy_M → sy_O) (ls st : List Value) (M : sy_M) : sy_O := sy_xc 121 ls fun l => sy_xi l fun a1 l => sy_xi l fun a2 l => sy_xi l fun a3 l => sy_xi l fun a4 l => sy_xi l fun a5 l => sy_xi l fun a6 l => sy_xn l (sy_xn st (k a1 a2 a3 a4 a5 a6 M))
theorem jwX12_ring_59 {d : Nat} {k : Int32 → Int32 → Int32 → Int32 → Int32 → Int32 → sy_M → sy_O} (hk : ∀ (a1 : Int32) (a2 : Int32) (a3 : Int32) (a4 : Int32) (a5 : Int32) (a6 : Int32) (M : sy_M) (r : xe_R × sy_M), k a1 a2 a3 a4 a5 a6 M = some r → sy_E (d) qX12_ring 59 [.ref 121, .int a1, .int a2, .int a3, .int a4, .int a5, .int a6] [] M r) : ∀ ls st M r, juX12_ring_59 k ls st M = some r → sy_E d qX12_ring 59 ls st M r := by
  intro ls st M r h
  obtain ⟨l, e, h1⟩ := sy_xc_ok h; subst e
  obtain ⟨a1, l, e, h2⟩ := sy_xi_ok h1; subst e
  obtain ⟨a2, l, e, h3⟩ := sy_xi_ok h2; subst e
  obtain ⟨a3, l, e, h4⟩ := sy_xi_ok h3; subst e
  obtain ⟨a4, l, e, h5⟩ := sy_xi_ok h4; subst e
  obtain ⟨a5, l, e, h6⟩ := sy_xi_ok h5; subst e
  obtain ⟨a6, l, e, h7⟩ := sy_xi_ok h6; subst e
  obtain ⟨e, h8⟩ := sy_xn_ok h7; subst e
  obtain ⟨e, h9⟩ := sy_xn_ok h8; subst e
  exact hk a1 a2 a3 a4 a5 a6 M r h9
def juX12_ring_45 (k : Int32 → Int32 → Int32 → Int32 → Int32 → sy_M → sy_O) (ls st : List Value) (M : sy_M) : sy_O := sy_xc 121 ls fun l => sy_xi l fun a1 l => sy_xi l fun a2 l => sy_xi l fun a3 l => sy_xi l fun a4 l => sy_xi l fun a5 l => sy_xv l fun _ l => sy_xn l (sy_xn st (k a1 a2 a3 a4 a5 M))
theorem jwX12_ring_45 {d : Nat} {k : Int32 → Int32 → Int32 → Int32 → Int32 → sy_M → sy_O} (hk : ∀ (w6 : Value) (a1 : Int32) (a2 : Int32) (a3 : Int32) (a4 : Int32) (a5 : Int32) (M : sy_M) (r : xe_R × sy_M), k a1 a2 a3 a4 a5 M = some r → sy_E (d) qX12_ring 45 [.ref 121, .int a1, .int a2, .int a3, .int a4, .int a5, w6] [] M r) : ∀ ls st M r, juX12_ring_45 k ls st M = some r → sy_E d qX12_ring 45 ls st M r := by
  intro ls st M r h
  obtain ⟨l, e, h1⟩ := sy_xc_ok h; subst e
  obtain ⟨a1, l, e, h2⟩ := sy_xi_ok h1; subst e
  obtain ⟨a2, l, e, h3⟩ := sy_xi_ok h2; subst e
  obtain ⟨a3, l, e, h4⟩ := sy_xi_ok h3; subst e
  obtain ⟨a4, l, e, h5⟩ := sy_xi_ok h4; subst e
  obtain ⟨a5, l, e, h6⟩ := sy_xi_ok h5; subst e
  obtain ⟨w6, l, e, h7⟩ := sy_xv_ok h6; subst e
  obtain ⟨e, h8⟩ := sy_xn_ok h7; subst e
  obtain ⟨e, h9⟩ := sy_xn_ok h8; subst e
  exact hk _ a1 a2 a3 a4 a5 M r h9
def juX12_ring_35 (k : Int32 → Int32 → Int32 → Int32 → sy_M → sy_O) (ls st : List Value) (M : sy_M) : sy_O := sy_xc 121 ls fun l => sy_xi l fun a1 l => sy_xi l fun a2 l => sy_xi l fun a3 l => sy_xi l fun a4 l => sy_xv l fun _ l => sy_xv l fun _ l => sy_xn l (sy_xn st (k a1 a2 a3 a4 M))
theorem jwX12_ring_35 {d : Nat} {k : Int32 → Int32 → Int32 → Int32 → sy_M → sy_O} (hk : ∀ (w5 : Value) (w6 : Value) (a1 : Int32) (a2 : Int32) (a3 : Int32) (a4 : Int32) (M : sy_M) (r : xe_R × sy_M), k a1 a2 a3 a4 M = some r → sy_E (d) qX12_ring 35 [.ref 121, .int a1, .int a2, .int a3, .int a4, w5, w6] [] M r) : ∀ ls st M r, juX12_ring_35 k ls st M = some r → sy_E d qX12_ring 35 ls st M r := by
  intro ls st M r h
  obtain ⟨l, e, h1⟩ := sy_xc_ok h; subst e
  obtain ⟨a1, l, e, h2⟩ := sy_xi_ok h1; subst e
  obtain ⟨a2, l, e, h3⟩ := sy_xi_ok h2; subst e
  obtain ⟨a3, l, e, h4⟩ := sy_xi_ok h3; subst e
  obtain ⟨a4, l, e, h5⟩ := sy_xi_ok h4; subst e
  obtain ⟨w5, l, e, h6⟩ := sy_xv_ok h5; subst e
  obtain ⟨w6, l, e, h7⟩ := sy_xv_ok h6; subst e
  obtain ⟨e, h8⟩ := sy_xn_ok h7; subst e
  obtain ⟨e, h9⟩ := sy_xn_ok h8; subst e
  exact hk _ _ a1 a2 a3 a4 M r h9
def juX12_ring_14 (k : Int32 → Int32 → sy_M → sy_O) (ls st : List Value) (M : sy_M) : sy_O := sy_xc 121 ls fun l => sy_xi l fun a1 l => sy_xv l fun _ l => sy_xv l fun _ l => sy_xv l fun _ l => sy_xv l fun _ l => sy_xv l fun _ l => sy_xn l (sy_xi st fun s0 l => sy_xc 121 l fun l => sy_xn l (k a1 s0 M))
theorem jwX12_ring_14 {d : Nat} {k : Int32 → Int32 → sy_M → sy_O} (hk : ∀ (w2 : Value) (w3 : Value) (w4 : Value) (w5 : Value) (w6 : Value) (a1 : Int32) (s0 : Int32) (M : sy_M) (r : xe_R × sy_M), k a1 s0 M = some r → sy_E (d) qX12_ring 14 [.ref 121, .int a1, w2, w3, w4, w5, w6] [.int s0, .ref 121] M r) : ∀ ls st M r, juX12_ring_14 k ls st M = some r → sy_E d qX12_ring 14 ls st M r := by
  intro ls st M r h
  obtain ⟨l, e, h1⟩ := sy_xc_ok h; subst e
  obtain ⟨a1, l, e, h2⟩ := sy_xi_ok h1; subst e
  obtain ⟨w2, l, e, h3⟩ := sy_xv_ok h2; subst e
  obtain ⟨w3, l, e, h4⟩ := sy_xv_ok h3; subst e
  obtain ⟨w4, l, e, h5⟩ := sy_xv_ok h4; subst e
  obtain ⟨w5, l, e, h6⟩ := sy_xv_ok h5; subst e
  obtain ⟨w6, l, e, h7⟩ := sy_xv_ok h6; subst e
  obtain ⟨e, h8⟩ := sy_xn_ok h7; subst e
  obtain ⟨s0, l, e, h9⟩ := sy_xi_ok h8; subst e
  obtain ⟨l, e, h10⟩ := sy_xc_ok h9; subst e
  obtain ⟨e, h11⟩ := sy_xn_ok h10; subst e
  exact hk _ _ _ _ _ a1 s0 M r h11
def jfX12_ring_97 (k35 : Int32 → Int32 → Int32 → Int32 → sy_M → sy_O) (k45 : Int32 → Int32 → Int32 → Int32 → Int32 → sy_M → sy_O) (k59 : Int32 → Int32 → Int32 → Int32 → Int32 → Int32 → sy_M → sy_O) (a1 : Int32) (a2 : Int32) (a3 : Int32) (a4 : Int32) (a5 : Int32) (a6 : Int32) (M : sy_M) : sy_O :=
  let v1 := a6 + 1
  k59 a1 a2 a3 a4 a5 v1 M
set_option maxRecDepth 100000 in
theorem jrX12_ring_97 (k35 : Int32 → Int32 → Int32 → Int32 → sy_M → sy_O) (k45 : Int32 → Int32 → Int32 → Int32 → Int32 → sy_M → sy_O) (k59 : Int32 → Int32 → Int32 → Int32 → Int32 → Int32 → sy_M → sy_O) (a1 : Int32) (a2 : Int32) (a3 : Int32) (a4 : Int32) (a5 : Int32) (a6 : Int32) (M : sy_M) : sy_run skX12 qX12_ring [(97, .iinc 6 1, 3, []), (100, .goto (-41), 3, [])] [] [(59, juX12_ring_59 k59)] 3 [] 97 [.ref 121, .int a1, .int a2, .int a3, .int a4, .int a5, .int a6] [] M = jfX12_ring_97 k35 k45 k59 a1 a2 a3 a4 a5 a6 M := rfl
theorem jtX12_ring_97 {k35 : Int32 → Int32 → Int32 → Int32 → sy_M → sy_O} (hk35 : ∀ (w5 : Value) (w6 : Value) (a1 : Int32) (a2 : Int32) (a3 : Int32) (a4 : Int32) (M : sy_M) (r : xe_R × sy_M), k35 a1 a2 a3 a4 M = some r → sy_E (3) qX12_ring 35 [.ref 121, .int a1, .int a2, .int a3, .int a4, w5, w6] [] M r) {k45 : Int32 → Int32 → Int32 → Int32 → Int32 → sy_M → sy_O} (hk45 : ∀ (w6 : Value) (a1 : Int32) (a2 : Int32) (a3 : Int32) (a4 : Int32) (a5 : Int32) (M : sy_M) (r : xe_R × sy_M), k45 a1 a2 a3 a4 a5 M = some r → sy_E (3) qX12_ring 45 [.ref 121, .int a1, .int a2, .int a3, .int a4, .int a5, w6] [] M r) {k59 : Int32 → Int32 → Int32 → Int32 → Int32 → Int32 → sy_M → sy_O} (hk59 : ∀ (a1 : Int32) (a2 : Int32) (a3 : Int32) (a4 : Int32) (a5 : Int32) (a6 : Int32) (M : sy_M) (r : xe_R × sy_M), k59 a1 a2 a3 a4 a5 a6 M = some r → sy_E (3) qX12_ring 59 [.ref 121, .int a1, .int a2, .int a3, .int a4, .int a5, .int a6] [] M r) : ∀ (a1 : Int32) (a2 : Int32) (a3 : Int32) (a4 : Int32) (a5 : Int32) (a6 : Int32) (M : sy_M) (r : xe_R × sy_M), jfX12_ring_97 k35 k45 k59 a1 a2 a3 a4 a5 a6 M = some r → sy_E (3) qX12_ring 97 [.ref 121, .int a1, .int a2, .int a3, .int a4, .int a5, .int a6] [] M r := by
  intro a1 a2 a3 a4 a5 a6 M r h
  exact sy_run_by (d := 2) ((jrX12_ring_97 _ _ _ _ _ _ _ _ _ M).trans h) hkX12 (by decide +kernel) sy_cs_nil (sy_us_cons (jwX12_ring_59 hk59) sy_us_nil)
def jgX12_ring_59 (k35 : Int32 → Int32 → Int32 → Int32 → sy_M → sy_O) (k45 : Int32 → Int32 → Int32 → Int32 → Int32 → sy_M → sy_O) (k59 : Int32 → Int32 → Int32 → Int32 → Int32 → Int32 → sy_M → sy_O) (a1 : Int32) (a2 : Int32) (a3 : Int32) (a4 : Int32) (a5 : Int32) (a6 : Int32) (M : sy_M) : sy_O :=
  if a6 < (M 122 3) then
    sy_bi (jfX12_isOf a3 a5 M) fun v3 M2 =>
    if v3 = 0 then
      jfX12_ring_97 k35 k45 k59 a1 a2 a3 a4 a5 a6 M2
    else
      sy_bi (jfX12_owed a5 a6 M2) fun v5 M4 =>
      if 0 < v5 then
        let v6 := (a2 ||| (1 <<< (a6 &&& 31)))
        jfX12_ring_97 k35 k45 k59 a1 v6 a3 a4 a5 a6 M4
      else
        jfX12_ring_97 k35 k45 k59 a1 a2 a3 a4 a5 a6 M4
  else
    let v1 := a5 + 1
    k45 a1 a2 a3 a4 v1 M
def jfX12_ring_59 (k35 : Int32 → Int32 → Int32 → Int32 → sy_M → sy_O) (k45 : Int32 → Int32 → Int32 → Int32 → Int32 → sy_M → sy_O) : Nat → Int32 → Int32 → Int32 → Int32 → Int32 → Int32 → sy_M → sy_O
  | 0, _, _, _, _, _, _, _ => none
  | n + 1, a1, a2, a3, a4, a5, a6, M => jgX12_ring_59 k35 k45 (jfX12_ring_59 k35 k45 n) a1 a2 a3 a4 a5 a6 M
set_option maxRecDepth 100000 in
theorem jrX12_ring_59 (k35 : Int32 → Int32 → Int32 → Int32 → sy_M → sy_O) (k45 : Int32 → Int32 → Int32 → Int32 → Int32 → sy_M → sy_O) (k59 : Int32 → Int32 → Int32 → Int32 → Int32 → Int32 → sy_M → sy_O) (a1 : Int32) (a2 : Int32) (a3 : Int32) (a4 : Int32) (a5 : Int32) (a6 : Int32) (M : sy_M) : sy_run skX12 qX12_ring [(59, .iload 6, 2, []), (61, .aload_n 0, 1, []), (62, .getfield 7, 3, []), (65, .iconst 3, 1, []), (66, .iaload, 1, []), (67, .if_icmp .ge 36, 3, []), (70, .iload_n 3, 1, []), (71, .iload 5, 2, []), (73, .invokestatic 60, 3, []), (76, .ifCond .eq 21, 3, []), (79, .aload_n 0, 1, []), (80, .iload 5, 2, []), (82, .iload 6, 2, []), (84, .invokevirtual 302, 3, []), (87, .ifCond .le 10, 3, []), (90, .iload_n 2, 1, []), (91, .iconst 1, 1, []), (92, .iload 6, 2, []), (94, .ishl, 1, []), (95, .ior, 1, []), (96, .istore_n 2, 1, []), (103, .iinc 5 1, 3, [true, true, true, true, true, true, false]), (106, .goto (-61), 3, [])] [(185, 0, jcX12_isOf), (189, 0, jcX12_owed)] [(45, juX12_ring_45 k45), (97, juX12_ring_97 (jfX12_ring_97 k35 k45 k59))] 24 [] 59 [.ref 121, .int a1, .int a2, .int a3, .int a4, .int a5, .int a6] [] M = jgX12_ring_59 k35 k45 k59 a1 a2 a3 a4 a5 a6 M := rfl
theorem jtX12_ring_59 {k35 : Int32 → Int32 → Int32 → Int32 → sy_M → sy_O} (hk35 : ∀ (w5 : Value) (w6 : Value) (a1 : Int32) (a2 : Int32) (a3 : Int32) (a4 : Int32) (M : sy_M) (r : xe_R × sy_M), k35 a1 a2 a3 a4 M = some r → sy_E (3) qX12_ring 35 [.ref 121, .int a1, .int a2, .int a3, .int a4, w5, w6] [] M r) {k45 : Int32 → Int32 → Int32 → Int32 → Int32 → sy_M → sy_O} (hk45 : ∀ (w6 : Value) (a1 : Int32) (a2 : Int32) (a3 : Int32) (a4 : Int32) (a5 : Int32) (M : sy_M) (r : xe_R × sy_M), k45 a1 a2 a3 a4 a5 M = some r → sy_E (3) qX12_ring 45 [.ref 121, .int a1, .int a2, .int a3, .int a4, .int a5, w6] [] M r) : ∀ n : Nat, ∀ (a1 : Int32) (a2 : Int32) (a3 : Int32) (a4 : Int32) (a5 : Int32) (a6 : Int32) (M : sy_M) (r : xe_R × sy_M), jfX12_ring_59 k35 k45 n a1 a2 a3 a4 a5 a6 M = some r → sy_E (3) qX12_ring 59 [.ref 121, .int a1, .int a2, .int a3, .int a4, .int a5, .int a6] [] M r := by
  intro n
  induction n with
  | zero => intro a1 a2 a3 a4 a5 a6 M r h; exact absurd (show (none : sy_O) = some r from h) (by simp)
  | succ n ih => intro a1 a2 a3 a4 a5 a6 M r h; exact sy_run_by (d := 2) ((jrX12_ring_59 _ _ _ _ _ _ _ _ _ M).trans h) hkX12 (by decide +kernel) (sy_cs_cons (jeX12_isOf.deep (by decide)) (sy_cs_cons (jeX12_owed.deep (by decide)) sy_cs_nil)) (sy_us_cons (jwX12_ring_45 hk45) (sy_us_cons (jwX12_ring_97 (jtX12_ring_97 hk35 hk45 ih)) sy_us_nil))
def jgX12_ring_45 (k35 : Int32 → Int32 → Int32 → Int32 → sy_M → sy_O) (k45 : Int32 → Int32 → Int32 → Int32 → Int32 → sy_M → sy_O) (a1 : Int32) (a2 : Int32) (a3 : Int32) (a4 : Int32) (a5 : Int32) (M : sy_M) : sy_O :=
  if a5 < (M 122 3) then
    jfX12_ring_59 k35 k45 sy_F a1 a2 a3 a4 a5 0 M
  else
    let v1 := (a3 ||| a2)
    let v2 := a4 + 1
    k35 a1 a2 v1 v2 M
def jfX12_ring_45 (k35 : Int32 → Int32 → Int32 → Int32 → sy_M → sy_O) : Nat → Int32 → Int32 → Int32 → Int32 → Int32 → sy_M → sy_O
  | 0, _, _, _, _, _, _ => none
  | n + 1, a1, a2, a3, a4, a5, M => jgX12_ring_45 k35 (jfX12_ring_45 k35 n) a1 a2 a3 a4 a5 M
set_option maxRecDepth 100000 in
theorem jrX12_ring_45 (k35 : Int32 → Int32 → Int32 → Int32 → sy_M → sy_O) (k45 : Int32 → Int32 → Int32 → Int32 → Int32 → sy_M → sy_O) (w6 : Value) (a1 : Int32) (a2 : Int32) (a3 : Int32) (a4 : Int32) (a5 : Int32) (M : sy_M) : sy_run skX12 qX12_ring [(45, .iload 5, 2, [true, true, true, true, true, true, false]), (47, .aload_n 0, 1, []), (48, .getfield 7, 3, []), (51, .iconst 3, 1, []), (52, .iaload, 1, []), (53, .if_icmp .ge 56, 3, []), (56, .iconst 0, 1, []), (57, .istore 6, 2, []), (109, .iload_n 3, 1, [true, true, true, true, true, false, false]), (110, .iload_n 2, 1, []), (111, .ior, 1, []), (112, .istore_n 3, 1, []), (113, .iinc 4 1, 3, []), (116, .goto (-81), 3, [])] [] [(35, juX12_ring_35 k35), (59, juX12_ring_59 (jfX12_ring_59 k35 k45 sy_F))] 15 [] 45 [.ref 121, .int a1, .int a2, .int a3, .int a4, .int a5, w6] [] M = jgX12_ring_45 k35 k45 a1 a2 a3 a4 a5 M := rfl
theorem jtX12_ring_45 {k35 : Int32 → Int32 → Int32 → Int32 → sy_M → sy_O} (hk35 : ∀ (w5 : Value) (w6 : Value) (a1 : Int32) (a2 : Int32) (a3 : Int32) (a4 : Int32) (M : sy_M) (r : xe_R × sy_M), k35 a1 a2 a3 a4 M = some r → sy_E (3) qX12_ring 35 [.ref 121, .int a1, .int a2, .int a3, .int a4, w5, w6] [] M r) : ∀ n : Nat, ∀ (w6 : Value) (a1 : Int32) (a2 : Int32) (a3 : Int32) (a4 : Int32) (a5 : Int32) (M : sy_M) (r : xe_R × sy_M), jfX12_ring_45 k35 n a1 a2 a3 a4 a5 M = some r → sy_E (3) qX12_ring 45 [.ref 121, .int a1, .int a2, .int a3, .int a4, .int a5, w6] [] M r := by
  intro n
  induction n with
  | zero => intro w6 a1 a2 a3 a4 a5 M r h; exact absurd (show (none : sy_O) = some r from h) (by simp)
  | succ n ih => intro w6 a1 a2 a3 a4 a5 M r h; exact sy_run_by (d := 2) ((jrX12_ring_45 _ _ _ _ _ _ _ _ M).trans h) hkX12 (by decide +kernel) sy_cs_nil (sy_us_cons (jwX12_ring_35 hk35) (sy_us_cons (jwX12_ring_59 (jtX12_ring_59 hk35 ih sy_F)) sy_us_nil))
def jgX12_ring_35 (k35 : Int32 → Int32 → Int32 → Int32 → sy_M → sy_O) (a1 : Int32) (a2 : Int32) (a3 : Int32) (a4 : Int32) (M : sy_M) : sy_O :=
  if a4 < 7 then
    jfX12_ring_45 k35 sy_F a1 a2 a3 a4 0 M
  else
    sy_bi (jfX12_isOf a2 a1 M) fun v2 M1 =>
    sy_bb (sy_bo v2) <| sy_ri v2 M1
def jfX12_ring_35 : Nat → Int32 → Int32 → Int32 → Int32 → sy_M → sy_O
  | 0, _, _, _, _, _ => none
  | n + 1, a1, a2, a3, a4, M => jgX12_ring_35 (jfX12_ring_35 n) a1 a2 a3 a4 M
set_option maxRecDepth 100000 in
theorem jrX12_ring_35 (k35 : Int32 → Int32 → Int32 → Int32 → sy_M → sy_O) (w5 : Value) (w6 : Value) (a1 : Int32) (a2 : Int32) (a3 : Int32) (a4 : Int32) (M : sy_M) : sy_run skX12 qX12_ring [(35, .iload 4, 2, [true, true, true, true, true, false, false]), (37, .bipush 7, 2, []), (39, .if_icmp .ge 80, 3, []), (42, .iconst 0, 1, []), (43, .istore 5, 2, []), (119, .iload_n 2, 1, [false, true, true, false, false, false, false]), (120, .iload_n 1, 1, []), (121, .invokestatic 60, 3, []), (124, .ireturn, 1, [])] [(185, 0, jcX12_isOf)] [(45, juX12_ring_45 (jfX12_ring_45 k35 sy_F))] 10 [] 35 [.ref 121, .int a1, .int a2, .int a3, .int a4, w5, w6] [] M = jgX12_ring_35 k35 a1 a2 a3 a4 M := rfl
theorem jtX12_ring_35 : ∀ n : Nat, ∀ (w5 : Value) (w6 : Value) (a1 : Int32) (a2 : Int32) (a3 : Int32) (a4 : Int32) (M : sy_M) (r : xe_R × sy_M), jfX12_ring_35 n a1 a2 a3 a4 M = some r → sy_E (3) qX12_ring 35 [.ref 121, .int a1, .int a2, .int a3, .int a4, w5, w6] [] M r := by
  intro n
  induction n with
  | zero => intro w5 w6 a1 a2 a3 a4 M r h; exact absurd (show (none : sy_O) = some r from h) (by simp)
  | succ n ih => intro w5 w6 a1 a2 a3 a4 M r h; exact sy_run_by (d := 2) ((jrX12_ring_35 _ _ _ _ _ _ _ M).trans h) hkX12 (by decide +kernel) (sy_cs_cons (jeX12_isOf.deep (by decide)) sy_cs_nil) (sy_us_cons (jwX12_ring_45 (jtX12_ring_45 ih sy_F)) sy_us_nil)
def jfX12_ring_14 (a1 : Int32) (s0 : Int32) (M : sy_M) : sy_O :=
  let M1 := sy_upd M 121 0 s0
  if 0 < (M1 121 0) then
    sy_ri 0 M1
  else
    let v2 := (1 <<< (a1 &&& 31))
    jfX12_ring_35 sy_F a1 0 v2 0 M1
set_option maxRecDepth 100000 in
theorem jrX12_ring_14 (w2 : Value) (w3 : Value) (w4 : Value) (w5 : Value) (w6 : Value) (a1 : Int32) (s0 : Int32) (M : sy_M) : sy_run skX12 qX12_ring [(14, .putfield 45, 3, [true, true, false, false, false, false, false]), (17, .aload_n 0, 1, []), (18, .getfield 45, 3, []), (21, .ifCond .le 5, 3, []), (24, .iconst 0, 1, []), (25, .ireturn, 1, []), (26, .iconst 0, 1, [true, true, false, false, false, false, false]), (27, .istore_n 2, 1, []), (28, .iconst 1, 1, []), (29, .iload_n 1, 1, []), (30, .ishl, 1, []), (31, .istore_n 3, 1, []), (32, .iconst 0, 1, []), (33, .istore 4, 2, [])] [] [(35, juX12_ring_35 (jfX12_ring_35 sy_F))] 15 [] 14 [.ref 121, .int a1, w2, w3, w4, w5, w6] [.int s0, .ref 121] M = jfX12_ring_14 a1 s0 M := rfl
theorem jtX12_ring_14 : ∀ (w2 : Value) (w3 : Value) (w4 : Value) (w5 : Value) (w6 : Value) (a1 : Int32) (s0 : Int32) (M : sy_M) (r : xe_R × sy_M), jfX12_ring_14 a1 s0 M = some r → sy_E (3) qX12_ring 14 [.ref 121, .int a1, w2, w3, w4, w5, w6] [.int s0, .ref 121] M r := by
  intro w2 w3 w4 w5 w6 a1 s0 M r h
  exact sy_run_by (d := 2) ((jrX12_ring_14 _ _ _ _ _ _ _ M).trans h) hkX12 (by decide +kernel) sy_cs_nil (sy_us_cons (jwX12_ring_35 (jtX12_ring_35 sy_F)) sy_us_nil)
def jfX12_ring (a1 : Int32) (M : sy_M) : sy_O :=
  sy_bi (jfX12_isLodger a1 M) fun v2 M1 =>
  if v2 = 0 then
    jfX12_ring_14 a1 1 M1
  else
    jfX12_ring_14 a1 0 M1
set_option maxRecDepth 100000 in
theorem jrX12_ring (a1 : Int32) (M : sy_M) : sy_run skX12 qX12_ring [(0, .aload_n 0, 1, []), (1, .aload_n 0, 1, []), (2, .iload_n 1, 1, []), (3, .invokevirtual 284, 3, []), (6, .ifCond .ne 7, 3, []), (9, .iconst 1, 1, []), (10, .goto 4, 3, []), (13, .iconst 0, 1, [true, true, false, false, false, false, false])] [(190, 0, jcX12_isLodger)] [(14, juX12_ring_14 (jfX12_ring_14))] 9 [] 0 [.ref 121, .int a1, xe_no, xe_no, xe_no, xe_no, xe_no] [] M = jfX12_ring a1 M := rfl
theorem jtX12_ring : ∀ (a1 : Int32) (M : sy_M) (r : xe_R × sy_M), jfX12_ring a1 M = some r → sy_E (3) qX12_ring 0 [.ref 121, .int a1, xe_no, xe_no, xe_no, xe_no, xe_no] [] M r := by
  intro a1 M r h
  exact sy_run_by (d := 2) ((jrX12_ring _ M).trans h) hkX12 (by decide +kernel) (sy_cs_cons (jeX12_isLodger.deep (by decide)) sy_cs_nil) (sy_us_cons (jwX12_ring_14 (jtX12_ring_14)) sy_us_nil)
def jcX12_ring (as : List Value) (M : sy_M) (K : sy_O → sy_O) : sy_O := sy_xc 121 as fun l => sy_xi l fun a1 l => sy_xn l (K (jfX12_ring a1 M))
theorem jeX12_ring : sy_snd (3) 302 (jcX12_ring) := by
  intro as M K r h
  obtain ⟨l, e, h1⟩ := sy_xc_ok h; subst e
  obtain ⟨a1, l, e, h2⟩ := sy_xi_ok h1; subst e
  obtain ⟨e, h3⟩ := sy_xn_ok h2; subst e
  exact ⟨_, h3, fun r1 h0 => ⟨qX12_ring, rfl, rfl, jtX12_ring _ M r1 h0⟩⟩
/-! X11_poorest StairMeter poorest ()I [('R', 0)] -/
def juX11_poorest_53 (k : Int32 → Int32 → Int32 → sy_M → sy_O) (ls st : List Value) (M : sy_M) : sy_O := sy_xc 0 ls fun l => sy_xi l fun a1 l => sy_xi l fun a2 l => sy_xi l fun a3 l => sy_xv l fun _ l => sy_xn l (sy_xn st (k a1 a2 a3 M))
theorem jwX11_poorest_53 {d : Nat} {k : Int32 → Int32 → Int32 → sy_M → sy_O} (hk : ∀ (w4 : Value) (a1 : Int32) (a2 : Int32) (a3 : Int32) (M : sy_M) (r : xe_R × sy_M), k a1 a2 a3 M = some r → sy_E (d) qX11_poorest 53 [.ref 0, .int a1, .int a2, .int a3, w4] [] M r) : ∀ ls st M r, juX11_poorest_53 k ls st M = some r → sy_E d qX11_poorest 53 ls st M r := by
  intro ls st M r h
  obtain ⟨l, e, h1⟩ := sy_xc_ok h; subst e
  obtain ⟨a1, l, e, h2⟩ := sy_xi_ok h1; subst e
  obtain ⟨a2, l, e, h3⟩ := sy_xi_ok h2; subst e
  obtain ⟨a3, l, e, h4⟩ := sy_xi_ok h3; subst e
  obtain ⟨w4, l, e, h5⟩ := sy_xv_ok h4; subst e
  obtain ⟨e, h6⟩ := sy_xn_ok h5; subst e
  obtain ⟨e, h7⟩ := sy_xn_ok h6; subst e
  exact hk _ a1 a2 a3 M r h7
def juX11_poorest_48 (k : Int32 → Int32 → sy_M → sy_O) (ls st : List Value) (M : sy_M) : sy_O := sy_xc 0 ls fun l => sy_xv l fun _ l => sy_xv l fun _ l => sy_xi l fun a3 l => sy_xi l fun a4 l => sy_xn l (sy_xn st (k a3 a4 M))
theorem jwX11_poorest_48 {d : Nat} {k : Int32 → Int32 → sy_M → sy_O} (hk : ∀ (w1 : Value) (w2 : Value) (a3 : Int32) (a4 : Int32) (M : sy_M) (r : xe_R × sy_M), k a3 a4 M = some r → sy_E (d) qX11_poorest 48 [.ref 0, w1, w2, .int a3, .int a4] [] M r) : ∀ ls st M r, juX11_poorest_48 k ls st M = some r → sy_E d qX11_poorest 48 ls st M r := by
  intro ls st M r h
  obtain ⟨l, e, h1⟩ := sy_xc_ok h; subst e
  obtain ⟨w1, l, e, h2⟩ := sy_xv_ok h1; subst e
  obtain ⟨w2, l, e, h3⟩ := sy_xv_ok h2; subst e
  obtain ⟨a3, l, e, h4⟩ := sy_xi_ok h3; subst e
  obtain ⟨a4, l, e, h5⟩ := sy_xi_ok h4; subst e
  obtain ⟨e, h6⟩ := sy_xn_ok h5; subst e
  obtain ⟨e, h7⟩ := sy_xn_ok h6; subst e
  exact hk _ _ a3 a4 M r h7
def juX11_poorest_6 (k : Int32 → Int32 → Int32 → sy_M → sy_O) (ls st : List Value) (M : sy_M) : sy_O := sy_xc 0 ls fun l => sy_xi l fun a1 l => sy_xi l fun a2 l => sy_xi l fun a3 l => sy_xv l fun _ l => sy_xn l (sy_xn st (k a1 a2 a3 M))
theorem jwX11_poorest_6 {d : Nat} {k : Int32 → Int32 → Int32 → sy_M → sy_O} (hk : ∀ (w4 : Value) (a1 : Int32) (a2 : Int32) (a3 : Int32) (M : sy_M) (r : xe_R × sy_M), k a1 a2 a3 M = some r → sy_E (d) qX11_poorest 6 [.ref 0, .int a1, .int a2, .int a3, w4] [] M r) : ∀ ls st M r, juX11_poorest_6 k ls st M = some r → sy_E d qX11_poorest 6 ls st M r := by
  intro ls st M r h
  obtain ⟨l, e, h1⟩ := sy_xc_ok h; subst e
  obtain ⟨a1, l, e, h2⟩ := sy_xi_ok h1; subst e
  obtain ⟨a2, l, e, h3⟩ := sy_xi_ok h2; subst e
  obtain ⟨a3, l, e, h4⟩ := sy_xi_ok h3; subst e
  obtain ⟨w4, l, e, h5⟩ := sy_xv_ok h4; subst e
  obtain ⟨e, h6⟩ := sy_xn_ok h5; subst e
  obtain ⟨e, h7⟩ := sy_xn_ok h6; subst e
  exact hk _ a1 a2 a3 M r h7
def jfX11_poorest_53 (k6 : Int32 → Int32 → Int32 → sy_M → sy_O) (a1 : Int32) (a2 : Int32) (a3 : Int32) (M : sy_M) : sy_O :=
  let v1 := a3 + 1
  k6 a1 a2 v1 M
set_option maxRecDepth 100000 in
theorem jrX11_poorest_53 (k6 : Int32 → Int32 → Int32 → sy_M → sy_O) (w4 : Value) (a1 : Int32) (a2 : Int32) (a3 : Int32) (M : sy_M) : sy_run skX11 qX11_poorest [(53, .iinc 3 1, 3, [true, true, true, true, false]), (56, .goto (-50), 3, [])] [] [(6, juX11_poorest_6 k6)] 3 [] 53 [.ref 0, .int a1, .int a2, .int a3, w4] [] M = jfX11_poorest_53 k6 a1 a2 a3 M := rfl
theorem jtX11_poorest_53 {k6 : Int32 → Int32 → Int32 → sy_M → sy_O} (hk6 : ∀ (w4 : Value) (a1 : Int32) (a2 : Int32) (a3 : Int32) (M : sy_M) (r : xe_R × sy_M), k6 a1 a2 a3 M = some r → sy_E (4) qX11_poorest 6 [.ref 0, .int a1, .int a2, .int a3, w4] [] M r) : ∀ (w4 : Value) (a1 : Int32) (a2 : Int32) (a3 : Int32) (M : sy_M) (r : xe_R × sy_M), jfX11_poorest_53 k6 a1 a2 a3 M = some r → sy_E (4) qX11_poorest 53 [.ref 0, .int a1, .int a2, .int a3, w4] [] M r := by
  intro w4 a1 a2 a3 M r h
  exact sy_run_by (d := 3) ((jrX11_poorest_53 _ _ _ _ _ M).trans h) hkX11 (by decide +kernel) sy_cs_nil (sy_us_cons (jwX11_poorest_6 hk6) sy_us_nil)
def jfX11_poorest_48 (k6 : Int32 → Int32 → Int32 → sy_M → sy_O) (a3 : Int32) (a4 : Int32) (M : sy_M) : sy_O :=
  jfX11_poorest_53 k6 a3 a4 a3 M
set_option maxRecDepth 100000 in
theorem jrX11_poorest_48 (k6 : Int32 → Int32 → Int32 → sy_M → sy_O) (w1 : Value) (w2 : Value) (a3 : Int32) (a4 : Int32) (M : sy_M) : sy_run skX11 qX11_poorest [(48, .iload 4, 2, [true, false, false, true, true]), (50, .istore_n 2, 1, []), (51, .iload_n 3, 1, []), (52, .istore_n 1, 1, [])] [] [(53, juX11_poorest_53 (jfX11_poorest_53 k6))] 5 [] 48 [.ref 0, w1, w2, .int a3, .int a4] [] M = jfX11_poorest_48 k6 a3 a4 M := rfl
theorem jtX11_poorest_48 {k6 : Int32 → Int32 → Int32 → sy_M → sy_O} (hk6 : ∀ (w4 : Value) (a1 : Int32) (a2 : Int32) (a3 : Int32) (M : sy_M) (r : xe_R × sy_M), k6 a1 a2 a3 M = some r → sy_E (4) qX11_poorest 6 [.ref 0, .int a1, .int a2, .int a3, w4] [] M r) : ∀ (w1 : Value) (w2 : Value) (a3 : Int32) (a4 : Int32) (M : sy_M) (r : xe_R × sy_M), jfX11_poorest_48 k6 a3 a4 M = some r → sy_E (4) qX11_poorest 48 [.ref 0, w1, w2, .int a3, .int a4] [] M r := by
  intro w1 w2 a3 a4 M r h
  exact sy_run_by (d := 3) ((jrX11_poorest_48 _ _ _ _ _ M).trans h) hkX11 (by decide +kernel) sy_cs_nil (sy_us_cons (jwX11_poorest_53 (jtX11_poorest_53 hk6)) sy_us_nil)
def jgX11_poorest_6 (k6 : Int32 → Int32 → Int32 → sy_M → sy_O) (a1 : Int32) (a2 : Int32) (a3 : Int32) (M : sy_M) : sy_O :=
  if a3 < (M 9 3) then
    sy_bi (jfX2_get 9 a3 5 M) fun v2 M1 =>
    sy_bi (jfX2_owesMore 9 a3 M1) fun v4 M3 =>
    let v5 := (v2 - v4)
    if a1 = (-1) then
      jfX11_poorest_48 k6 a3 v5 M3
    else
      if v5 < a2 then
        jfX11_poorest_48 k6 a3 v5 M3
      else
        jfX11_poorest_53 k6 a1 a2 a3 M3
  else
    sy_ri a1 M
def jfX11_poorest_6 : Nat → Int32 → Int32 → Int32 → sy_M → sy_O
  | 0, _, _, _, _ => none
  | n + 1, a1, a2, a3, M => jgX11_poorest_6 (jfX11_poorest_6 n) a1 a2 a3 M
set_option maxRecDepth 100000 in
theorem jrX11_poorest_6 (k6 : Int32 → Int32 → Int32 → sy_M → sy_O) (w4 : Value) (a1 : Int32) (a2 : Int32) (a3 : Int32) (M : sy_M) : sy_run skX11 qX11_poorest [(6, .iload_n 3, 1, [true, true, true, true, false]), (7, .aload_n 0, 1, []), (8, .getfield 28, 3, []), (11, .getfield 207, 3, []), (14, .if_icmp .ge 45, 3, []), (17, .aload_n 0, 1, []), (18, .getfield 28, 3, []), (21, .iload_n 3, 1, []), (22, .iconst 5, 1, []), (23, .invokevirtual 152, 3, []), (26, .aload_n 0, 1, []), (27, .getfield 28, 3, []), (30, .iload_n 3, 1, []), (31, .invokevirtual 386, 3, []), (34, .isub, 1, []), (35, .istore 4, 2, []), (37, .iload_n 1, 1, []), (38, .iconst (-1), 1, []), (39, .if_icmp .eq 9, 3, []), (42, .iload 4, 2, []), (44, .iload_n 2, 1, []), (45, .if_icmp .ge 8, 3, []), (59, .iload_n 1, 1, [false, true, false, false, false]), (60, .ireturn, 1, [])] [(10, 0, jcX2_get), (22, 0, jcX2_owesMore)] [(48, juX11_poorest_48 (jfX11_poorest_48 k6)), (53, juX11_poorest_53 (jfX11_poorest_53 k6))] 25 [] 6 [.ref 0, .int a1, .int a2, .int a3, w4] [] M = jgX11_poorest_6 k6 a1 a2 a3 M := rfl
theorem jtX11_poorest_6 : ∀ n : Nat, ∀ (w4 : Value) (a1 : Int32) (a2 : Int32) (a3 : Int32) (M : sy_M) (r : xe_R × sy_M), jfX11_poorest_6 n a1 a2 a3 M = some r → sy_E (4) qX11_poorest 6 [.ref 0, .int a1, .int a2, .int a3, w4] [] M r := by
  intro n
  induction n with
  | zero => intro w4 a1 a2 a3 M r h; exact absurd (show (none : sy_O) = some r from h) (by simp)
  | succ n ih => intro w4 a1 a2 a3 M r h; exact sy_run_by (d := 3) ((jrX11_poorest_6 _ _ _ _ _ M).trans h) hkX11 (by decide +kernel) (sy_cs_cons (jeX2_get.deep (by decide)) (sy_cs_cons (jeX2_owesMore.deep (by decide)) sy_cs_nil)) (sy_us_cons (jwX11_poorest_48 (jtX11_poorest_48 ih)) (sy_us_cons (jwX11_poorest_53 (jtX11_poorest_53 ih)) sy_us_nil))
def jfX11_poorest (M : sy_M) : sy_O :=
  jfX11_poorest_6 sy_F (-1) 0 0 M
set_option maxRecDepth 100000 in
theorem jrX11_poorest (M : sy_M) : sy_run skX11 qX11_poorest [(0, .iconst (-1), 1, []), (1, .istore_n 1, 1, []), (2, .iconst 0, 1, []), (3, .istore_n 2, 1, []), (4, .iconst 0, 1, []), (5, .istore_n 3, 1, [])] [] [(6, juX11_poorest_6 (jfX11_poorest_6 sy_F))] 7 [] 0 [.ref 0, xe_no, xe_no, xe_no, xe_no] [] M = jfX11_poorest M := rfl
theorem jtX11_poorest : ∀ (M : sy_M) (r : xe_R × sy_M), jfX11_poorest M = some r → sy_E (4) qX11_poorest 0 [.ref 0, xe_no, xe_no, xe_no, xe_no] [] M r := by
  intro  M r h
  exact sy_run_by (d := 3) ((jrX11_poorest M).trans h) hkX11 (by decide +kernel) sy_cs_nil (sy_us_cons (jwX11_poorest_6 (jtX11_poorest_6 sy_F)) sy_us_nil)
def jcX11_poorest (as : List Value) (M : sy_M) (K : sy_O → sy_O) : sy_O := sy_xc 0 as fun l => sy_xn l (K (jfX11_poorest M))
theorem jeX11_poorest : sy_snd (4) 159 (jcX11_poorest) := by
  intro as M K r h
  obtain ⟨l, e, h1⟩ := sy_xc_ok h; subst e
  obtain ⟨e, h2⟩ := sy_xn_ok h1; subst e
  exact ⟨_, h2, fun r1 h0 => ⟨qX11_poorest, rfl, rfl, jtX11_poorest  M r1 h0⟩⟩
/-! X12_poorest StairMeterModel poorest ()I [('R', 121)] -/
def juX12_poorest_51 (k : Int32 → Int32 → Int32 → sy_M → sy_O) (ls st : List Value) (M : sy_M) : sy_O := sy_xc 121 ls fun l => sy_xi l fun a1 l => sy_xi l fun a2 l => sy_xi l fun a3 l => sy_xv l fun _ l => sy_xn l (sy_xn st (k a1 a2 a3 M))
theorem jwX12_poorest_51 {d : Nat} {k : Int32 → Int32 → Int32 → sy_M → sy_O} (hk : ∀ (w4 : Value) (a1 : Int32) (a2 : Int32) (a3 : Int32) (M : sy_M) (r : xe_R × sy_M), k a1 a2 a3 M = some r → sy_E (d) qX12_poorest 51 [.ref 121, .int a1, .int a2, .int a3, w4] [] M r) : ∀ ls st M r, juX12_poorest_51 k ls st M = some r → sy_E d qX12_poorest 51 ls st M r := by
  intro ls st M r h
  obtain ⟨l, e, h1⟩ := sy_xc_ok h; subst e
  obtain ⟨a1, l, e, h2⟩ := sy_xi_ok h1; subst e
  obtain ⟨a2, l, e, h3⟩ := sy_xi_ok h2; subst e
  obtain ⟨a3, l, e, h4⟩ := sy_xi_ok h3; subst e
  obtain ⟨w4, l, e, h5⟩ := sy_xv_ok h4; subst e
  obtain ⟨e, h6⟩ := sy_xn_ok h5; subst e
  obtain ⟨e, h7⟩ := sy_xn_ok h6; subst e
  exact hk _ a1 a2 a3 M r h7
def juX12_poorest_13 (k : Int32 → Int32 → Int32 → sy_M → sy_O) (ls st : List Value) (M : sy_M) : sy_O := sy_xc 121 ls fun l => sy_xi l fun a1 l => sy_xi l fun a2 l => sy_xi l fun a3 l => sy_xv l fun _ l => sy_xn l (sy_xn st (k a1 a2 a3 M))
theorem jwX12_poorest_13 {d : Nat} {k : Int32 → Int32 → Int32 → sy_M → sy_O} (hk : ∀ (w4 : Value) (a1 : Int32) (a2 : Int32) (a3 : Int32) (M : sy_M) (r : xe_R × sy_M), k a1 a2 a3 M = some r → sy_E (d) qX12_poorest 13 [.ref 121, .int a1, .int a2, .int a3, w4] [] M r) : ∀ ls st M r, juX12_poorest_13 k ls st M = some r → sy_E d qX12_poorest 13 ls st M r := by
  intro ls st M r h
  obtain ⟨l, e, h1⟩ := sy_xc_ok h; subst e
  obtain ⟨a1, l, e, h2⟩ := sy_xi_ok h1; subst e
  obtain ⟨a2, l, e, h3⟩ := sy_xi_ok h2; subst e
  obtain ⟨a3, l, e, h4⟩ := sy_xi_ok h3; subst e
  obtain ⟨w4, l, e, h5⟩ := sy_xv_ok h4; subst e
  obtain ⟨e, h6⟩ := sy_xn_ok h5; subst e
  obtain ⟨e, h7⟩ := sy_xn_ok h6; subst e
  exact hk _ a1 a2 a3 M r h7
def jfX12_poorest_51 (k13 : Int32 → Int32 → Int32 → sy_M → sy_O) (a1 : Int32) (a2 : Int32) (a3 : Int32) (M : sy_M) : sy_O :=
  let v1 := a3 + 1
  k13 a1 a2 v1 M
set_option maxRecDepth 100000 in
theorem jrX12_poorest_51 (k13 : Int32 → Int32 → Int32 → sy_M → sy_O) (w4 : Value) (a1 : Int32) (a2 : Int32) (a3 : Int32) (M : sy_M) : sy_run skX12 qX12_poorest [(51, .iinc 3 1, 3, [true, true, true, true, false]), (54, .goto (-41), 3, [])] [] [(13, juX12_poorest_13 k13)] 3 [] 51 [.ref 121, .int a1, .int a2, .int a3, w4] [] M = jfX12_poorest_51 k13 a1 a2 a3 M := rfl
theorem jtX12_poorest_51 {k13 : Int32 → Int32 → Int32 → sy_M → sy_O} (hk13 : ∀ (w4 : Value) (a1 : Int32) (a2 : Int32) (a3 : Int32) (M : sy_M) (r : xe_R × sy_M), k13 a1 a2 a3 M = some r → sy_E (3) qX12_poorest 13 [.ref 121, .int a1, .int a2, .int a3, w4] [] M r) : ∀ (w4 : Value) (a1 : Int32) (a2 : Int32) (a3 : Int32) (M : sy_M) (r : xe_R × sy_M), jfX12_poorest_51 k13 a1 a2 a3 M = some r → sy_E (3) qX12_poorest 51 [.ref 121, .int a1, .int a2, .int a3, w4] [] M r := by
  intro w4 a1 a2 a3 M r h
  exact sy_run_by (d := 2) ((jrX12_poorest_51 _ _ _ _ _ M).trans h) hkX12 (by decide +kernel) sy_cs_nil (sy_us_cons (jwX12_poorest_13 hk13) sy_us_nil)
def jgX12_poorest_13 (k13 : Int32 → Int32 → Int32 → sy_M → sy_O) (a1 : Int32) (a2 : Int32) (a3 : Int32) (M : sy_M) : sy_O :=
  if a3 < (M 122 3) then
    sy_bi (jfX12_of a3 5 M) fun v2 M1 =>
    sy_bi (jfX12_owesOf a3 M1) fun v4 M3 =>
    let v5 := (v2 - v4)
    if v5 < a2 then
      jfX12_poorest_51 k13 a3 v5 a3 M3
    else
      jfX12_poorest_51 k13 a1 a2 a3 M3
  else
    sy_ri a1 M
def jfX12_poorest_13 : Nat → Int32 → Int32 → Int32 → sy_M → sy_O
  | 0, _, _, _, _ => none
  | n + 1, a1, a2, a3, M => jgX12_poorest_13 (jfX12_poorest_13 n) a1 a2 a3 M
set_option maxRecDepth 100000 in
theorem jrX12_poorest_13 (k13 : Int32 → Int32 → Int32 → sy_M → sy_O) (w4 : Value) (a1 : Int32) (a2 : Int32) (a3 : Int32) (M : sy_M) : sy_run skX12 qX12_poorest [(13, .iload_n 3, 1, [true, true, true, true, false]), (14, .aload_n 0, 1, []), (15, .getfield 7, 3, []), (18, .iconst 3, 1, []), (19, .iaload, 1, []), (20, .if_icmp .ge 37, 3, []), (23, .aload_n 0, 1, []), (24, .iload_n 3, 1, []), (25, .iconst 5, 1, []), (26, .invokevirtual 52, 3, []), (29, .aload_n 0, 1, []), (30, .iload_n 3, 1, []), (31, .invokevirtual 382, 3, []), (34, .isub, 1, []), (35, .istore 4, 2, []), (37, .iload 4, 2, []), (39, .iload_n 2, 1, []), (40, .if_icmp .lt 6, 3, []), (43, .goto 8, 3, []), (46, .iload 4, 2, [true, false, false, true, true]), (48, .istore_n 2, 1, []), (49, .iload_n 3, 1, []), (50, .istore_n 1, 1, []), (57, .iload_n 1, 1, [false, true, false, false, false]), (58, .ireturn, 1, [])] [(187, 0, jcX12_of), (300, 0, jcX12_owesOf)] [(51, juX12_poorest_51 (jfX12_poorest_51 k13))] 26 [] 13 [.ref 121, .int a1, .int a2, .int a3, w4] [] M = jgX12_poorest_13 k13 a1 a2 a3 M := rfl
theorem jtX12_poorest_13 : ∀ n : Nat, ∀ (w4 : Value) (a1 : Int32) (a2 : Int32) (a3 : Int32) (M : sy_M) (r : xe_R × sy_M), jfX12_poorest_13 n a1 a2 a3 M = some r → sy_E (3) qX12_poorest 13 [.ref 121, .int a1, .int a2, .int a3, w4] [] M r := by
  intro n
  induction n with
  | zero => intro w4 a1 a2 a3 M r h; exact absurd (show (none : sy_O) = some r from h) (by simp)
  | succ n ih => intro w4 a1 a2 a3 M r h; exact sy_run_by (d := 2) ((jrX12_poorest_13 _ _ _ _ _ M).trans h) hkX12 (by decide +kernel) (sy_cs_cons (jeX12_of.deep (by decide)) (sy_cs_cons (jeX12_owesOf.deep (by decide)) sy_cs_nil)) (sy_us_cons (jwX12_poorest_51 (jtX12_poorest_51 ih)) sy_us_nil)
def jfX12_poorest (M : sy_M) : sy_O :=
  let M1 := sy_upd M 121 0 0
  jfX12_poorest_13 sy_F (-1) 2000000000 0 M1
set_option maxRecDepth 100000 in
theorem jrX12_poorest (M : sy_M) : sy_run skX12 qX12_poorest [(0, .aload_n 0, 1, []), (1, .iconst 0, 1, []), (2, .putfield 45, 3, []), (5, .iconst (-1), 1, []), (6, .istore_n 1, 1, []), (7, .ldc_w 339, 3, []), (10, .istore_n 2, 1, []), (11, .iconst 0, 1, []), (12, .istore_n 3, 1, [])] [] [(13, juX12_poorest_13 (jfX12_poorest_13 sy_F))] 10 [] 0 [.ref 121, xe_no, xe_no, xe_no, xe_no] [] M = jfX12_poorest M := rfl
theorem jtX12_poorest : ∀ (M : sy_M) (r : xe_R × sy_M), jfX12_poorest M = some r → sy_E (3) qX12_poorest 0 [.ref 121, xe_no, xe_no, xe_no, xe_no] [] M r := by
  intro  M r h
  exact sy_run_by (d := 2) ((jrX12_poorest M).trans h) hkX12 (by decide +kernel) sy_cs_nil (sy_us_cons (jwX12_poorest_13 (jtX12_poorest_13 sy_F)) sy_us_nil)
def jcX12_poorest (as : List Value) (M : sy_M) (K : sy_O → sy_O) : sy_O := sy_xc 121 as fun l => sy_xn l (K (jfX12_poorest M))
theorem jeX12_poorest : sy_snd (3) 303 (jcX12_poorest) := by
  intro as M K r h
  obtain ⟨l, e, h1⟩ := sy_xc_ok h; subst e
  obtain ⟨e, h2⟩ := sy_xn_ok h1; subst e
  exact ⟨_, h2, fun r1 h0 => ⟨qX12_poorest, rfl, rfl, jtX12_poorest  M r1 h0⟩⟩
/-! X11_gain StairMeter gain (IIII)I [('R', 0), 'I', 'I', 'I', 'I'] -/
def jfX11_gain (a1 : Int32) (a2 : Int32) (a3 : Int32) (a4 : Int32) (M : sy_M) : sy_O :=
  if a2 = 0 then
    if a3 = 0 then
      sy_ri (a4 - 2) M
    else
      sy_ri (a4 - 4) M
  else
    if a3 = 0 then
      sy_ri a4 M
    else
      sy_bi (jfX2_get 9 a1 6 M) fun v2 M1 =>
      sy_ri (-(v2 + 1)) M1
set_option maxRecDepth 100000 in
theorem jrX11_gain (a1 : Int32) (a2 : Int32) (a3 : Int32) (a4 : Int32) (M : sy_M) : sy_run skX11 qX11_gain [(0, .iload_n 2, 1, []), (1, .ifCond .ne 19, 3, []), (4, .iload_n 3, 1, []), (5, .ifCond .ne 10, 3, []), (8, .iload 4, 2, []), (10, .iconst 2, 1, []), (11, .isub, 1, []), (12, .goto 7, 3, []), (15, .iload 4, 2, [false, false, false, false, true]), (17, .iconst 4, 1, []), (18, .isub, 1, []), (19, .ireturn, 1, [false, false, false, false, false]), (20, .iload_n 3, 1, [true, true, false, true, true]), (21, .ifCond .ne 8, 3, []), (24, .iload 4, 2, []), (26, .goto 16, 3, []), (29, .aload_n 0, 1, [true, true, false, false, false]), (30, .getfield 28, 3, []), (33, .iload_n 1, 1, []), (34, .bipush 6, 2, []), (36, .invokevirtual 152, 3, []), (39, .iconst 1, 1, []), (40, .iadd, 1, []), (41, .ineg, 1, []), (42, .ireturn, 1, [false, false, false, false, false])] [(10, 0, jcX2_get)] [] 26 [] 0 [.ref 0, .int a1, .int a2, .int a3, .int a4] [] M = jfX11_gain a1 a2 a3 a4 M := rfl
theorem jtX11_gain : ∀ (a1 : Int32) (a2 : Int32) (a3 : Int32) (a4 : Int32) (M : sy_M) (r : xe_R × sy_M), jfX11_gain a1 a2 a3 a4 M = some r → sy_E (2) qX11_gain 0 [.ref 0, .int a1, .int a2, .int a3, .int a4] [] M r := by
  intro a1 a2 a3 a4 M r h
  exact sy_run_by (d := 1) ((jrX11_gain _ _ _ _ M).trans h) hkX11 (by decide +kernel) (sy_cs_cons (jeX2_get.deep (by decide)) sy_cs_nil) sy_us_nil
def jcX11_gain (as : List Value) (M : sy_M) (K : sy_O → sy_O) : sy_O := sy_xc 0 as fun l => sy_xi l fun a1 l => sy_xi l fun a2 l => sy_xi l fun a3 l => sy_xi l fun a4 l => sy_xn l (K (jfX11_gain a1 a2 a3 a4 M))
theorem jeX11_gain : sy_snd (2) 162 (jcX11_gain) := by
  intro as M K r h
  obtain ⟨l, e, h1⟩ := sy_xc_ok h; subst e
  obtain ⟨a1, l, e, h2⟩ := sy_xi_ok h1; subst e
  obtain ⟨a2, l, e, h3⟩ := sy_xi_ok h2; subst e
  obtain ⟨a3, l, e, h4⟩ := sy_xi_ok h3; subst e
  obtain ⟨a4, l, e, h5⟩ := sy_xi_ok h4; subst e
  obtain ⟨e, h6⟩ := sy_xn_ok h5; subst e
  exact ⟨_, h6, fun r1 h0 => ⟨qX11_gain, rfl, rfl, jtX11_gain _ _ _ _ M r1 h0⟩⟩
/-! X11_isContent StairMeter isContent (IIII)Z [('R', 0), 'I', 'I', 'I', 'I'] -/
def jfX11_isContent (a1 : Int32) (a2 : Int32) (a3 : Int32) (a4 : Int32) (M : sy_M) : sy_O :=
  sy_bi (jfX11_gain a1 a2 a3 a4 M) fun v2 M1 =>
  sy_bi (jfX11_gain a1 (1 - a2) a3 a4 M1) fun v4 M3 =>
  if v2 < v4 then
    sy_ri 0 M3
  else
    sy_ri 1 M3
set_option maxRecDepth 100000 in
theorem jrX11_isContent (a1 : Int32) (a2 : Int32) (a3 : Int32) (a4 : Int32) (M : sy_M) : sy_run skX11 qX11_isContent [(0, .aload_n 0, 1, []), (1, .iload_n 1, 1, []), (2, .iload_n 2, 1, []), (3, .iload_n 3, 1, []), (4, .iload 4, 2, []), (6, .invokevirtual 396, 3, []), (9, .aload_n 0, 1, []), (10, .iload_n 1, 1, []), (11, .iconst 1, 1, []), (12, .iload_n 2, 1, []), (13, .isub, 1, []), (14, .iload_n 3, 1, []), (15, .iload 4, 2, []), (17, .invokevirtual 396, 3, []), (20, .if_icmp .lt 7, 3, []), (23, .iconst 1, 1, []), (24, .goto 4, 3, []), (27, .iconst 0, 1, [false, false, false, false, false]), (28, .ireturn, 1, [false, false, false, false, false])] [(162, 0, jcX11_gain)] [] 20 [] 0 [.ref 0, .int a1, .int a2, .int a3, .int a4] [] M = jfX11_isContent a1 a2 a3 a4 M := rfl
theorem jtX11_isContent : ∀ (a1 : Int32) (a2 : Int32) (a3 : Int32) (a4 : Int32) (M : sy_M) (r : xe_R × sy_M), jfX11_isContent a1 a2 a3 a4 M = some r → sy_E (3) qX11_isContent 0 [.ref 0, .int a1, .int a2, .int a3, .int a4] [] M r := by
  intro a1 a2 a3 a4 M r h
  exact sy_run_by (d := 2) ((jrX11_isContent _ _ _ _ M).trans h) hkX11 (by decide +kernel) (sy_cs_cons (jeX11_gain.deep (by decide)) sy_cs_nil) sy_us_nil
def jcX11_isContent (as : List Value) (M : sy_M) (K : sy_O → sy_O) : sy_O := sy_xc 0 as fun l => sy_xi l fun a1 l => sy_xi l fun a2 l => sy_xi l fun a3 l => sy_xi l fun a4 l => sy_xn l (K (jfX11_isContent a1 a2 a3 a4 M))
theorem jeX11_isContent : sy_snd (3) 161 (jcX11_isContent) := by
  intro as M K r h
  obtain ⟨l, e, h1⟩ := sy_xc_ok h; subst e
  obtain ⟨a1, l, e, h2⟩ := sy_xi_ok h1; subst e
  obtain ⟨a2, l, e, h3⟩ := sy_xi_ok h2; subst e
  obtain ⟨a3, l, e, h4⟩ := sy_xi_ok h3; subst e
  obtain ⟨a4, l, e, h5⟩ := sy_xi_ok h4; subst e
  obtain ⟨e, h6⟩ := sy_xn_ok h5; subst e
  exact ⟨_, h6, fun r1 h0 => ⟨qX11_isContent, rfl, rfl, jtX11_isContent _ _ _ _ M r1 h0⟩⟩
/-! X11_rests StairMeter rests (II)I [('R', 0), 'I', 'I'] -/
def juX11_rests_103 (k : Int32 → Int32 → Int32 → Int32 → Int32 → sy_M → sy_O) (ls st : List Value) (M : sy_M) : sy_O := sy_xc 0 ls fun l => sy_xi l fun a1 l => sy_xi l fun a2 l => sy_xi l fun a3 l => sy_xi l fun a4 l => sy_xi l fun a5 l => sy_xv l fun _ l => sy_xv l fun _ l => sy_xn l (sy_xn st (k a1 a2 a3 a4 a5 M))
theorem jwX11_rests_103 {d : Nat} {k : Int32 → Int32 → Int32 → Int32 → Int32 → sy_M → sy_O} (hk : ∀ (w6 : Value) (w7 : Value) (a1 : Int32) (a2 : Int32) (a3 : Int32) (a4 : Int32) (a5 : Int32) (M : sy_M) (r : xe_R × sy_M), k a1 a2 a3 a4 a5 M = some r → sy_E (d) qX11_rests 103 [.ref 0, .int a1, .int a2, .int a3, .int a4, .int a5, w6, w7] [] M r) : ∀ ls st M r, juX11_rests_103 k ls st M = some r → sy_E d qX11_rests 103 ls st M r := by
  intro ls st M r h
  obtain ⟨l, e, h1⟩ := sy_xc_ok h; subst e
  obtain ⟨a1, l, e, h2⟩ := sy_xi_ok h1; subst e
  obtain ⟨a2, l, e, h3⟩ := sy_xi_ok h2; subst e
  obtain ⟨a3, l, e, h4⟩ := sy_xi_ok h3; subst e
  obtain ⟨a4, l, e, h5⟩ := sy_xi_ok h4; subst e
  obtain ⟨a5, l, e, h6⟩ := sy_xi_ok h5; subst e
  obtain ⟨w6, l, e, h7⟩ := sy_xv_ok h6; subst e
  obtain ⟨w7, l, e, h8⟩ := sy_xv_ok h7; subst e
  obtain ⟨e, h9⟩ := sy_xn_ok h8; subst e
  obtain ⟨e, h10⟩ := sy_xn_ok h9; subst e
  exact hk _ _ a1 a2 a3 a4 a5 M r h10
def juX11_rests_50 (k : Int32 → Int32 → Int32 → Int32 → Int32 → sy_M → sy_O) (ls st : List Value) (M : sy_M) : sy_O := sy_xc 0 ls fun l => sy_xi l fun a1 l => sy_xi l fun a2 l => sy_xi l fun a3 l => sy_xi l fun a4 l => sy_xi l fun a5 l => sy_xv l fun _ l => sy_xv l fun _ l => sy_xn l (sy_xn st (k a1 a2 a3 a4 a5 M))
theorem jwX11_rests_50 {d : Nat} {k : Int32 → Int32 → Int32 → Int32 → Int32 → sy_M → sy_O} (hk : ∀ (w6 : Value) (w7 : Value) (a1 : Int32) (a2 : Int32) (a3 : Int32) (a4 : Int32) (a5 : Int32) (M : sy_M) (r : xe_R × sy_M), k a1 a2 a3 a4 a5 M = some r → sy_E (d) qX11_rests 50 [.ref 0, .int a1, .int a2, .int a3, .int a4, .int a5, w6, w7] [] M r) : ∀ ls st M r, juX11_rests_50 k ls st M = some r → sy_E d qX11_rests 50 ls st M r := by
  intro ls st M r h
  obtain ⟨l, e, h1⟩ := sy_xc_ok h; subst e
  obtain ⟨a1, l, e, h2⟩ := sy_xi_ok h1; subst e
  obtain ⟨a2, l, e, h3⟩ := sy_xi_ok h2; subst e
  obtain ⟨a3, l, e, h4⟩ := sy_xi_ok h3; subst e
  obtain ⟨a4, l, e, h5⟩ := sy_xi_ok h4; subst e
  obtain ⟨a5, l, e, h6⟩ := sy_xi_ok h5; subst e
  obtain ⟨w6, l, e, h7⟩ := sy_xv_ok h6; subst e
  obtain ⟨w7, l, e, h8⟩ := sy_xv_ok h7; subst e
  obtain ⟨e, h9⟩ := sy_xn_ok h8; subst e
  obtain ⟨e, h10⟩ := sy_xn_ok h9; subst e
  exact hk _ _ a1 a2 a3 a4 a5 M r h10
def jfX11_rests_103 (k50 : Int32 → Int32 → Int32 → Int32 → Int32 → sy_M → sy_O) (a1 : Int32) (a2 : Int32) (a3 : Int32) (a4 : Int32) (a5 : Int32) (M : sy_M) : sy_O :=
  let v1 := a5 + 1
  k50 a1 a2 a3 a4 v1 M
set_option maxRecDepth 100000 in
theorem jrX11_rests_103 (k50 : Int32 → Int32 → Int32 → Int32 → Int32 → sy_M → sy_O) (w6 : Value) (w7 : Value) (a1 : Int32) (a2 : Int32) (a3 : Int32) (a4 : Int32) (a5 : Int32) (M : sy_M) : sy_run skX11 qX11_rests [(103, .iinc 5 1, 3, [true, true, true, true, true, true, false, false]), (106, .goto (-56), 3, [])] [] [(50, juX11_rests_50 k50)] 3 [] 103 [.ref 0, .int a1, .int a2, .int a3, .int a4, .int a5, w6, w7] [] M = jfX11_rests_103 k50 a1 a2 a3 a4 a5 M := rfl
theorem jtX11_rests_103 {k50 : Int32 → Int32 → Int32 → Int32 → Int32 → sy_M → sy_O} (hk50 : ∀ (w6 : Value) (w7 : Value) (a1 : Int32) (a2 : Int32) (a3 : Int32) (a4 : Int32) (a5 : Int32) (M : sy_M) (r : xe_R × sy_M), k50 a1 a2 a3 a4 a5 M = some r → sy_E (4) qX11_rests 50 [.ref 0, .int a1, .int a2, .int a3, .int a4, .int a5, w6, w7] [] M r) : ∀ (w6 : Value) (w7 : Value) (a1 : Int32) (a2 : Int32) (a3 : Int32) (a4 : Int32) (a5 : Int32) (M : sy_M) (r : xe_R × sy_M), jfX11_rests_103 k50 a1 a2 a3 a4 a5 M = some r → sy_E (4) qX11_rests 103 [.ref 0, .int a1, .int a2, .int a3, .int a4, .int a5, w6, w7] [] M r := by
  intro w6 w7 a1 a2 a3 a4 a5 M r h
  exact sy_run_by (d := 3) ((jrX11_rests_103 _ _ _ _ _ _ _ _ M).trans h) hkX11 (by decide +kernel) sy_cs_nil (sy_us_cons (jwX11_rests_50 hk50) sy_us_nil)
def jgX11_rests_50 (k50 : Int32 → Int32 → Int32 → Int32 → Int32 → sy_M → sy_O) (a1 : Int32) (a2 : Int32) (a3 : Int32) (a4 : Int32) (a5 : Int32) (M : sy_M) : sy_O :=
  if a5 < 4 then
    let v1 := (a5 >>> (1 &&& 31))
    let v2 := (a5 &&& 1)
    sy_bi (jfX11_isContent a1 v1 v2 a3 M) fun v4 M3 =>
    if v4 = 0 then
      jfX11_rests_103 k50 a1 a2 a3 a4 a5 M3
    else
      sy_bi (jfX11_isContent a2 v2 v1 a3 M3) fun v6 M5 =>
      if v6 = 0 then
        jfX11_rests_103 k50 a1 a2 a3 a4 a5 M5
      else
        let v7 := (a4 ||| (1 <<< (a5 &&& 31)))
        jfX11_rests_103 k50 a1 a2 a3 v7 a5 M5
  else
    sy_ri a4 M
def jfX11_rests_50 : Nat → Int32 → Int32 → Int32 → Int32 → Int32 → sy_M → sy_O
  | 0, _, _, _, _, _, _ => none
  | n + 1, a1, a2, a3, a4, a5, M => jgX11_rests_50 (jfX11_rests_50 n) a1 a2 a3 a4 a5 M
set_option maxRecDepth 100000 in
theorem jrX11_rests_50 (k50 : Int32 → Int32 → Int32 → Int32 → Int32 → sy_M → sy_O) (w6 : Value) (w7 : Value) (a1 : Int32) (a2 : Int32) (a3 : Int32) (a4 : Int32) (a5 : Int32) (M : sy_M) : sy_run skX11 qX11_rests [(50, .iload 5, 2, [true, true, true, true, true, true, false, false]), (52, .iconst 4, 1, []), (53, .if_icmp .ge 56, 3, []), (56, .iload 5, 2, []), (58, .iconst 1, 1, []), (59, .ishr, 1, []), (60, .istore 6, 2, []), (62, .iload 5, 2, []), (64, .iconst 1, 1, []), (65, .iand, 1, []), (66, .istore 7, 2, []), (68, .aload_n 0, 1, []), (69, .iload_n 1, 1, []), (70, .iload 6, 2, []), (72, .iload 7, 2, []), (74, .iload_n 3, 1, []), (75, .invokevirtual 392, 3, []), (78, .ifCond .eq 25, 3, []), (81, .aload_n 0, 1, []), (82, .iload_n 2, 1, []), (83, .iload 7, 2, []), (85, .iload 6, 2, []), (87, .iload_n 3, 1, []), (88, .invokevirtual 392, 3, []), (91, .ifCond .eq 12, 3, []), (94, .iload 4, 2, []), (96, .iconst 1, 1, []), (97, .iload 5, 2, []), (99, .ishl, 1, []), (100, .ior, 1, []), (101, .istore 4, 2, []), (109, .iload 4, 2, [false, false, false, false, true, false, false, false]), (111, .ireturn, 1, [])] [(161, 0, jcX11_isContent)] [(103, juX11_rests_103 (jfX11_rests_103 k50))] 34 [] 50 [.ref 0, .int a1, .int a2, .int a3, .int a4, .int a5, w6, w7] [] M = jgX11_rests_50 k50 a1 a2 a3 a4 a5 M := rfl
theorem jtX11_rests_50 : ∀ n : Nat, ∀ (w6 : Value) (w7 : Value) (a1 : Int32) (a2 : Int32) (a3 : Int32) (a4 : Int32) (a5 : Int32) (M : sy_M) (r : xe_R × sy_M), jfX11_rests_50 n a1 a2 a3 a4 a5 M = some r → sy_E (4) qX11_rests 50 [.ref 0, .int a1, .int a2, .int a3, .int a4, .int a5, w6, w7] [] M r := by
  intro n
  induction n with
  | zero => intro w6 w7 a1 a2 a3 a4 a5 M r h; exact absurd (show (none : sy_O) = some r from h) (by simp)
  | succ n ih => intro w6 w7 a1 a2 a3 a4 a5 M r h; exact sy_run_by (d := 3) ((jrX11_rests_50 _ _ _ _ _ _ _ _ M).trans h) hkX11 (by decide +kernel) (sy_cs_cons (jeX11_isContent.deep (by decide)) sy_cs_nil) (sy_us_cons (jwX11_rests_103 (jtX11_rests_103 ih)) sy_us_nil)
def jfX11_rests (a1 : Int32) (a2 : Int32) (M : sy_M) : sy_O :=
  sy_bv (jfX11_checkTwo a1 a2 M) fun M1 =>
  sy_bv (jfX8_learn 9 M1) fun M2 =>
  sy_bi (jfX8_needsAt (M2 9 5) M2) fun v4 M3 =>
  sy_bi (jfJ9_max_7cf53 1 v4 M3) fun v6 M5 =>
  if v6 = 0 then none else
  let v7 := ((M2 9 8) / v6)
  jfX11_rests_50 sy_F a1 a2 v7 0 0 M5
set_option maxRecDepth 100000 in
theorem jrX11_rests (a1 : Int32) (a2 : Int32) (M : sy_M) : sy_run skX11 qX11_rests [(0, .aload_n 0, 1, []), (1, .iload_n 1, 1, []), (2, .iload_n 2, 1, []), (3, .invokevirtual 190, 3, []), (6, .aload_n 0, 1, []), (7, .getfield 75, 3, []), (10, .aload_n 0, 1, []), (11, .getfield 28, 3, []), (14, .invokevirtual 181, 3, []), (17, .aload_n 0, 1, []), (18, .getfield 28, 3, []), (21, .getfield 218, 3, []), (24, .iconst 1, 1, []), (25, .aload_n 0, 1, []), (26, .getfield 75, 3, []), (29, .aload_n 0, 1, []), (30, .getfield 28, 3, []), (33, .getfield 210, 3, []), (36, .invokevirtual 204, 3, []), (39, .invokestatic 324, 3, []), (42, .idiv, 1, []), (43, .istore_n 3, 1, []), (44, .iconst 0, 1, []), (45, .istore 4, 2, []), (47, .iconst 0, 1, []), (48, .istore 5, 2, [])] [(177, 1, jcX11_checkTwo), (63, 1, jcX8_learn), (65, 0, jcX8_needsAt), (359, 0, jcJ9_max_7cf53)] [(50, juX11_rests_50 (jfX11_rests_50 sy_F))] 27 [] 0 [.ref 0, .int a1, .int a2, xe_no, xe_no, xe_no, xe_no, xe_no] [] M = jfX11_rests a1 a2 M := rfl
theorem jtX11_rests : ∀ (a1 : Int32) (a2 : Int32) (M : sy_M) (r : xe_R × sy_M), jfX11_rests a1 a2 M = some r → sy_E (4) qX11_rests 0 [.ref 0, .int a1, .int a2, xe_no, xe_no, xe_no, xe_no, xe_no] [] M r := by
  intro a1 a2 M r h
  exact sy_run_by (d := 3) ((jrX11_rests _ _ M).trans h) hkX11 (by decide +kernel) (sy_cs_cons (jeX11_checkTwo.deep (by decide)) (sy_cs_cons (jeX8_learn.deep (by decide)) (sy_cs_cons (jeX8_needsAt.deep (by decide)) (sy_cs_cons (jeJ9_max_7cf53.deep (by decide)) sy_cs_nil)))) (sy_us_cons (jwX11_rests_50 (jtX11_rests_50 sy_F)) sy_us_nil)
def jcX11_rests (as : List Value) (M : sy_M) (K : sy_O → sy_O) : sy_O := sy_xc 0 as fun l => sy_xi l fun a1 l => sy_xi l fun a2 l => sy_xn l (K (jfX11_rests a1 a2 M))
theorem jeX11_rests : sy_snd (4) 160 (jcX11_rests) := by
  intro as M K r h
  obtain ⟨l, e, h1⟩ := sy_xc_ok h; subst e
  obtain ⟨a1, l, e, h2⟩ := sy_xi_ok h1; subst e
  obtain ⟨a2, l, e, h3⟩ := sy_xi_ok h2; subst e
  obtain ⟨e, h4⟩ := sy_xn_ok h3; subst e
  exact ⟨_, h4, fun r1 h0 => ⟨qX11_rests, rfl, rfl, jtX11_rests _ _ M r1 h0⟩⟩
/-! L_rests StairMeterLaw rests (LStairMeter;II[J)I [('R', 0), 'I', 'I', ('R', 132)] -/
def jfL_rests (a1 : Int32) (a2 : Int32) (M : sy_M) : sy_O :=
  sy_hi (jfX11_rests a1 a2 M) (fun v2 M1 =>
    let M5 := sy_wl M1 132 0 (Int32.toInt64 v2)
    sy_ri 0 M5)
  (fun c3 M4 => if c3 = 22 then sy_ri 1 M4 else if c3 = 20 then sy_ri 2 M4 else none)
set_option maxRecDepth 100000 in
theorem jrL_rests (a1 : Int32) (a2 : Int32) (M : sy_M) : sy_run skL qL_rests [(0, .aload_n 3, 1, []), (1, .iconst 0, 1, []), (2, .aload_n 0, 1, []), (3, .iload_n 1, 1, []), (4, .iload_n 2, 1, []), (5, .invokevirtual 117, 3, []), (8, .i2l, 1, []), (9, .lastore, 1, []), (10, .goto 11, 3, []), (13, .astore 4, 2, [false, false, false, false, false]), (15, .iconst 1, 1, []), (16, .ireturn, 1, []), (17, .astore 4, 2, [false, false, false, false, false]), (19, .iconst 2, 1, []), (20, .ireturn, 1, []), (21, .iconst 0, 1, [false, false, false, false, false]), (22, .ireturn, 1, [])] [(160, 3, jcX11_rests)] [] 18 [] 0 [.ref 0, .int a1, .int a2, .ref 132, xe_no] [] M = jfL_rests a1 a2 M := rfl
theorem jtL_rests : ∀ (a1 : Int32) (a2 : Int32) (M : sy_M) (r : xe_R × sy_M), jfL_rests a1 a2 M = some r → sy_E (5) qL_rests 0 [.ref 0, .int a1, .int a2, .ref 132, xe_no] [] M r := by
  intro a1 a2 M r h
  exact sy_run_by (d := 4) ((jrL_rests _ _ M).trans h) hkL (by decide +kernel) (sy_cs_cons (jeX11_rests.deep (by decide)) sy_cs_nil) sy_us_nil
def jcL_rests (as : List Value) (M : sy_M) (K : sy_O → sy_O) : sy_O := sy_xc 0 as fun l => sy_xi l fun a1 l => sy_xi l fun a2 l => sy_xc 132 l fun l => sy_xn l (K (jfL_rests a1 a2 M))
theorem jeL_rests : sy_snd (5) 351 (jcL_rests) := by
  intro as M K r h
  obtain ⟨l, e, h1⟩ := sy_xc_ok h; subst e
  obtain ⟨a1, l, e, h2⟩ := sy_xi_ok h1; subst e
  obtain ⟨a2, l, e, h3⟩ := sy_xi_ok h2; subst e
  obtain ⟨l, e, h4⟩ := sy_xc_ok h3; subst e
  obtain ⟨e, h5⟩ := sy_xn_ok h4; subst e
  exact ⟨_, h5, fun r1 h0 => ⟨qL_rests, rfl, rfl, jtL_rests _ _ M r1 h0⟩⟩
/-! X12_hasBy StairMeterModel hasBy (III)I [('R', 121), 'I', 'I', 'I'] -/
def jfX12_hasBy (a1 : Int32) (a2 : Int32) (a3 : Int32) (M : sy_M) : sy_O :=
  sy_bi (jfX12_needsIn (M 122 4) M) fun v2 M1 =>
  sy_bi (jfX12_greater 1 v2 M1) fun v4 M3 =>
  if v4 = 0 then none else
  let v5 := ((M 122 7) / v4)
  if a2 = 0 then
    if a3 = 0 then
      sy_ri (v5 - 2) M3
    else
      sy_ri (v5 - 4) M3
  else
    if a3 = 0 then
      sy_ri v5 M3
    else
      sy_bi (jfX12_of a1 6 M3) fun v7 M6 =>
      sy_ri ((-v7) - 1) M6
set_option maxRecDepth 100000 in
theorem jrX12_hasBy (a1 : Int32) (a2 : Int32) (a3 : Int32) (M : sy_M) : sy_run skX12 qX12_hasBy [(0, .aload_n 0, 1, []), (1, .getfield 7, 3, []), (4, .bipush 7, 2, []), (6, .iaload, 1, []), (7, .iconst 1, 1, []), (8, .aload_n 0, 1, []), (9, .aload_n 0, 1, []), (10, .getfield 7, 3, []), (13, .iconst 4, 1, []), (14, .iaload, 1, []), (15, .invokevirtual 308, 3, []), (18, .invokestatic 333, 3, []), (21, .idiv, 1, []), (22, .istore 4, 2, []), (24, .iload_n 2, 1, []), (25, .ifCond .ne 19, 3, []), (28, .iload_n 3, 1, []), (29, .ifCond .ne 10, 3, []), (32, .iload 4, 2, []), (34, .iconst 2, 1, []), (35, .isub, 1, []), (36, .goto 7, 3, []), (39, .iload 4, 2, [false, false, false, false, true]), (41, .iconst 4, 1, []), (42, .isub, 1, []), (43, .ireturn, 1, [false, false, false, false, false]), (44, .iload_n 3, 1, [true, true, false, true, true]), (45, .ifCond .ne 8, 3, []), (48, .iload 4, 2, []), (50, .goto 13, 3, []), (53, .aload_n 0, 1, [true, true, false, false, false]), (54, .iload_n 1, 1, []), (55, .bipush 6, 2, []), (57, .invokevirtual 52, 3, []), (60, .ineg, 1, []), (61, .iconst 1, 1, []), (62, .isub, 1, []), (63, .ireturn, 1, [false, false, false, false, false])] [(195, 0, jcX12_needsIn), (184, 0, jcX12_greater), (187, 0, jcX12_of)] [] 39 [] 0 [.ref 121, .int a1, .int a2, .int a3, xe_no] [] M = jfX12_hasBy a1 a2 a3 M := rfl
theorem jtX12_hasBy : ∀ (a1 : Int32) (a2 : Int32) (a3 : Int32) (M : sy_M) (r : xe_R × sy_M), jfX12_hasBy a1 a2 a3 M = some r → sy_E (5) qX12_hasBy 0 [.ref 121, .int a1, .int a2, .int a3, xe_no] [] M r := by
  intro a1 a2 a3 M r h
  exact sy_run_by (d := 4) ((jrX12_hasBy _ _ _ M).trans h) hkX12 (by decide +kernel) (sy_cs_cons (jeX12_needsIn.deep (by decide)) (sy_cs_cons (jeX12_greater.deep (by decide)) (sy_cs_cons (jeX12_of.deep (by decide)) sy_cs_nil))) sy_us_nil
def jcX12_hasBy (as : List Value) (M : sy_M) (K : sy_O → sy_O) : sy_O := sy_xc 121 as fun l => sy_xi l fun a1 l => sy_xi l fun a2 l => sy_xi l fun a3 l => sy_xn l (K (jfX12_hasBy a1 a2 a3 M))
theorem jeX12_hasBy : sy_snd (5) 304 (jcX12_hasBy) := by
  intro as M K r h
  obtain ⟨l, e, h1⟩ := sy_xc_ok h; subst e
  obtain ⟨a1, l, e, h2⟩ := sy_xi_ok h1; subst e
  obtain ⟨a2, l, e, h3⟩ := sy_xi_ok h2; subst e
  obtain ⟨a3, l, e, h4⟩ := sy_xi_ok h3; subst e
  obtain ⟨e, h5⟩ := sy_xn_ok h4; subst e
  exact ⟨_, h5, fun r1 h0 => ⟨qX12_hasBy, rfl, rfl, jtX12_hasBy _ _ _ M r1 h0⟩⟩
/-! X12_rests StairMeterModel rests (II)I [('R', 121), 'I', 'I'] -/
def juX12_rests_91 (k : Int32 → Int32 → Int32 → Int32 → sy_M → sy_O) (ls st : List Value) (M : sy_M) : sy_O := sy_xc 121 ls fun l => sy_xi l fun a1 l => sy_xi l fun a2 l => sy_xi l fun a3 l => sy_xi l fun a4 l => sy_xv l fun _ l => sy_xv l fun _ l => sy_xn l (sy_xn st (k a1 a2 a3 a4 M))
theorem jwX12_rests_91 {d : Nat} {k : Int32 → Int32 → Int32 → Int32 → sy_M → sy_O} (hk : ∀ (w5 : Value) (w6 : Value) (a1 : Int32) (a2 : Int32) (a3 : Int32) (a4 : Int32) (M : sy_M) (r : xe_R × sy_M), k a1 a2 a3 a4 M = some r → sy_E (d) qX12_rests 91 [.ref 121, .int a1, .int a2, .int a3, .int a4, w5, w6] [] M r) : ∀ ls st M r, juX12_rests_91 k ls st M = some r → sy_E d qX12_rests 91 ls st M r := by
  intro ls st M r h
  obtain ⟨l, e, h1⟩ := sy_xc_ok h; subst e
  obtain ⟨a1, l, e, h2⟩ := sy_xi_ok h1; subst e
  obtain ⟨a2, l, e, h3⟩ := sy_xi_ok h2; subst e
  obtain ⟨a3, l, e, h4⟩ := sy_xi_ok h3; subst e
  obtain ⟨a4, l, e, h5⟩ := sy_xi_ok h4; subst e
  obtain ⟨w5, l, e, h6⟩ := sy_xv_ok h5; subst e
  obtain ⟨w6, l, e, h7⟩ := sy_xv_ok h6; subst e
  obtain ⟨e, h8⟩ := sy_xn_ok h7; subst e
  obtain ⟨e, h9⟩ := sy_xn_ok h8; subst e
  exact hk _ _ a1 a2 a3 a4 M r h9
def juX12_rests_84 (k : Int32 → Int32 → Int32 → Int32 → sy_M → sy_O) (ls st : List Value) (M : sy_M) : sy_O := sy_xc 121 ls fun l => sy_xi l fun a1 l => sy_xi l fun a2 l => sy_xi l fun a3 l => sy_xi l fun a4 l => sy_xi l fun w5 l => sy_xi l fun w6 l => sy_xn l (sy_xn st (k a1 a2 a3 a4 M))
theorem jwX12_rests_84 {d : Nat} {k : Int32 → Int32 → Int32 → Int32 → sy_M → sy_O} (hk : ∀ (w5 : Int32) (w6 : Int32) (a1 : Int32) (a2 : Int32) (a3 : Int32) (a4 : Int32) (M : sy_M) (r : xe_R × sy_M), k a1 a2 a3 a4 M = some r → sy_E (d) qX12_rests 84 [.ref 121, .int a1, .int a2, .int a3, .int a4, .int w5, .int w6] [] M r) : ∀ ls st M r, juX12_rests_84 k ls st M = some r → sy_E d qX12_rests 84 ls st M r := by
  intro ls st M r h
  obtain ⟨l, e, h1⟩ := sy_xc_ok h; subst e
  obtain ⟨a1, l, e, h2⟩ := sy_xi_ok h1; subst e
  obtain ⟨a2, l, e, h3⟩ := sy_xi_ok h2; subst e
  obtain ⟨a3, l, e, h4⟩ := sy_xi_ok h3; subst e
  obtain ⟨a4, l, e, h5⟩ := sy_xi_ok h4; subst e
  obtain ⟨w5, l, e, h6⟩ := sy_xi_ok h5; subst e
  obtain ⟨w6, l, e, h7⟩ := sy_xi_ok h6; subst e
  obtain ⟨e, h8⟩ := sy_xn_ok h7; subst e
  obtain ⟨e, h9⟩ := sy_xn_ok h8; subst e
  exact hk _ _ a1 a2 a3 a4 M r h9
def juX12_rests_20 (k : Int32 → Int32 → Int32 → Int32 → sy_M → sy_O) (ls st : List Value) (M : sy_M) : sy_O := sy_xc 121 ls fun l => sy_xi l fun a1 l => sy_xi l fun a2 l => sy_xi l fun a3 l => sy_xi l fun a4 l => sy_xv l fun _ l => sy_xv l fun _ l => sy_xn l (sy_xn st (k a1 a2 a3 a4 M))
theorem jwX12_rests_20 {d : Nat} {k : Int32 → Int32 → Int32 → Int32 → sy_M → sy_O} (hk : ∀ (w5 : Value) (w6 : Value) (a1 : Int32) (a2 : Int32) (a3 : Int32) (a4 : Int32) (M : sy_M) (r : xe_R × sy_M), k a1 a2 a3 a4 M = some r → sy_E (d) qX12_rests 20 [.ref 121, .int a1, .int a2, .int a3, .int a4, w5, w6] [] M r) : ∀ ls st M r, juX12_rests_20 k ls st M = some r → sy_E d qX12_rests 20 ls st M r := by
  intro ls st M r h
  obtain ⟨l, e, h1⟩ := sy_xc_ok h; subst e
  obtain ⟨a1, l, e, h2⟩ := sy_xi_ok h1; subst e
  obtain ⟨a2, l, e, h3⟩ := sy_xi_ok h2; subst e
  obtain ⟨a3, l, e, h4⟩ := sy_xi_ok h3; subst e
  obtain ⟨a4, l, e, h5⟩ := sy_xi_ok h4; subst e
  obtain ⟨w5, l, e, h6⟩ := sy_xv_ok h5; subst e
  obtain ⟨w6, l, e, h7⟩ := sy_xv_ok h6; subst e
  obtain ⟨e, h8⟩ := sy_xn_ok h7; subst e
  obtain ⟨e, h9⟩ := sy_xn_ok h8; subst e
  exact hk _ _ a1 a2 a3 a4 M r h9
def jfX12_rests_91 (k20 : Int32 → Int32 → Int32 → Int32 → sy_M → sy_O) (a1 : Int32) (a2 : Int32) (a3 : Int32) (a4 : Int32) (M : sy_M) : sy_O :=
  let v1 := a4 + 1
  k20 a1 a2 a3 v1 M
set_option maxRecDepth 100000 in
theorem jrX12_rests_91 (k20 : Int32 → Int32 → Int32 → Int32 → sy_M → sy_O) (w5 : Value) (w6 : Value) (a1 : Int32) (a2 : Int32) (a3 : Int32) (a4 : Int32) (M : sy_M) : sy_run skX12 qX12_rests [(91, .iinc 4 1, 3, [true, true, true, true, true, false, false]), (94, .goto (-74), 3, [])] [] [(20, juX12_rests_20 k20)] 3 [] 91 [.ref 121, .int a1, .int a2, .int a3, .int a4, w5, w6] [] M = jfX12_rests_91 k20 a1 a2 a3 a4 M := rfl
theorem jtX12_rests_91 {k20 : Int32 → Int32 → Int32 → Int32 → sy_M → sy_O} (hk20 : ∀ (w5 : Value) (w6 : Value) (a1 : Int32) (a2 : Int32) (a3 : Int32) (a4 : Int32) (M : sy_M) (r : xe_R × sy_M), k20 a1 a2 a3 a4 M = some r → sy_E (6) qX12_rests 20 [.ref 121, .int a1, .int a2, .int a3, .int a4, w5, w6] [] M r) : ∀ (w5 : Value) (w6 : Value) (a1 : Int32) (a2 : Int32) (a3 : Int32) (a4 : Int32) (M : sy_M) (r : xe_R × sy_M), jfX12_rests_91 k20 a1 a2 a3 a4 M = some r → sy_E (6) qX12_rests 91 [.ref 121, .int a1, .int a2, .int a3, .int a4, w5, w6] [] M r := by
  intro w5 w6 a1 a2 a3 a4 M r h
  exact sy_run_by (d := 5) ((jrX12_rests_91 _ _ _ _ _ _ _ M).trans h) hkX12 (by decide +kernel) sy_cs_nil (sy_us_cons (jwX12_rests_20 hk20) sy_us_nil)
def jfX12_rests_84 (k20 : Int32 → Int32 → Int32 → Int32 → sy_M → sy_O) (a1 : Int32) (a2 : Int32) (a3 : Int32) (a4 : Int32) (M : sy_M) : sy_O :=
  let v1 := (a3 ||| (1 <<< (a4 &&& 31)))
  jfX12_rests_91 k20 a1 a2 v1 a4 M
set_option maxRecDepth 100000 in
theorem jrX12_rests_84 (k20 : Int32 → Int32 → Int32 → Int32 → sy_M → sy_O) (w5 : Int32) (w6 : Int32) (a1 : Int32) (a2 : Int32) (a3 : Int32) (a4 : Int32) (M : sy_M) : sy_run skX12 qX12_rests [(84, .iload_n 3, 1, []), (85, .iconst 1, 1, []), (86, .iload 4, 2, []), (88, .ishl, 1, []), (89, .ior, 1, []), (90, .istore_n 3, 1, [])] [] [(91, juX12_rests_91 (jfX12_rests_91 k20))] 7 [] 84 [.ref 121, .int a1, .int a2, .int a3, .int a4, .int w5, .int w6] [] M = jfX12_rests_84 k20 a1 a2 a3 a4 M := rfl
theorem jtX12_rests_84 {k20 : Int32 → Int32 → Int32 → Int32 → sy_M → sy_O} (hk20 : ∀ (w5 : Value) (w6 : Value) (a1 : Int32) (a2 : Int32) (a3 : Int32) (a4 : Int32) (M : sy_M) (r : xe_R × sy_M), k20 a1 a2 a3 a4 M = some r → sy_E (6) qX12_rests 20 [.ref 121, .int a1, .int a2, .int a3, .int a4, w5, w6] [] M r) : ∀ (w5 : Int32) (w6 : Int32) (a1 : Int32) (a2 : Int32) (a3 : Int32) (a4 : Int32) (M : sy_M) (r : xe_R × sy_M), jfX12_rests_84 k20 a1 a2 a3 a4 M = some r → sy_E (6) qX12_rests 84 [.ref 121, .int a1, .int a2, .int a3, .int a4, .int w5, .int w6] [] M r := by
  intro w5 w6 a1 a2 a3 a4 M r h
  exact sy_run_by (d := 5) ((jrX12_rests_84 _ _ _ _ _ _ _ M).trans h) hkX12 (by decide +kernel) sy_cs_nil (sy_us_cons (jwX12_rests_91 (jtX12_rests_91 hk20)) sy_us_nil)
def jgX12_rests_20 (k20 : Int32 → Int32 → Int32 → Int32 → sy_M → sy_O) (a1 : Int32) (a2 : Int32) (a3 : Int32) (a4 : Int32) (M : sy_M) : sy_O :=
  if a4 < 4 then
    let v1 := (a4 / 2)
    let v2 := (a4 - a4 / 2 * 2)
    sy_bi (jfX12_hasBy a1 (1 - v1) v2 M) fun v4 M3 =>
    sy_bi (jfX12_hasBy a1 v1 v2 M3) fun v6 M5 =>
    if v6 < v4 then
      jfX12_rests_91 k20 a1 a2 a3 a4 M5
    else
      sy_bi (jfX12_hasBy a2 (1 - v2) v1 M5) fun v8 M7 =>
      sy_bi (jfX12_hasBy a2 v2 v1 M7) fun v10 M9 =>
      if v10 < v8 then
        jfX12_rests_91 k20 a1 a2 a3 a4 M9
      else
        jfX12_rests_84 k20 a1 a2 a3 a4 M9
  else
    sy_ri a3 M
def jfX12_rests_20 : Nat → Int32 → Int32 → Int32 → Int32 → sy_M → sy_O
  | 0, _, _, _, _, _ => none
  | n + 1, a1, a2, a3, a4, M => jgX12_rests_20 (jfX12_rests_20 n) a1 a2 a3 a4 M
set_option maxRecDepth 100000 in
theorem jrX12_rests_20 (k20 : Int32 → Int32 → Int32 → Int32 → sy_M → sy_O) (w5 : Value) (w6 : Value) (a1 : Int32) (a2 : Int32) (a3 : Int32) (a4 : Int32) (M : sy_M) : sy_run skX12 qX12_rests [(20, .iload 4, 2, [true, true, true, true, true, false, false]), (22, .iconst 4, 1, []), (23, .if_icmp .ge 74, 3, []), (26, .iload 4, 2, []), (28, .iconst 2, 1, []), (29, .idiv, 1, []), (30, .istore 5, 2, []), (32, .iload 4, 2, []), (34, .iconst 2, 1, []), (35, .irem, 1, []), (36, .istore 6, 2, []), (38, .aload_n 0, 1, []), (39, .iload_n 1, 1, []), (40, .iconst 1, 1, []), (41, .iload 5, 2, []), (43, .isub, 1, []), (44, .iload 6, 2, []), (46, .invokevirtual 385, 3, []), (49, .aload_n 0, 1, []), (50, .iload_n 1, 1, []), (51, .iload 5, 2, []), (53, .iload 6, 2, []), (55, .invokevirtual 385, 3, []), (58, .if_icmp .gt 33, 3, []), (61, .aload_n 0, 1, []), (62, .iload_n 2, 1, []), (63, .iconst 1, 1, []), (64, .iload 6, 2, []), (66, .isub, 1, []), (67, .iload 5, 2, []), (69, .invokevirtual 385, 3, []), (72, .aload_n 0, 1, []), (73, .iload_n 2, 1, []), (74, .iload 6, 2, []), (76, .iload 5, 2, []), (78, .invokevirtual 385, 3, []), (81, .if_icmp .gt 10, 3, []), (97, .iload_n 3, 1, [false, false, false, true, false, false, false]), (98, .ireturn, 1, [])] [(304, 0, jcX12_hasBy)] [(91, juX12_rests_91 (jfX12_rests_91 k20)), (84, juX12_rests_84 (jfX12_rests_84 k20))] 40 [] 20 [.ref 121, .int a1, .int a2, .int a3, .int a4, w5, w6] [] M = jgX12_rests_20 k20 a1 a2 a3 a4 M := rfl
theorem jtX12_rests_20 : ∀ n : Nat, ∀ (w5 : Value) (w6 : Value) (a1 : Int32) (a2 : Int32) (a3 : Int32) (a4 : Int32) (M : sy_M) (r : xe_R × sy_M), jfX12_rests_20 n a1 a2 a3 a4 M = some r → sy_E (6) qX12_rests 20 [.ref 121, .int a1, .int a2, .int a3, .int a4, w5, w6] [] M r := by
  intro n
  induction n with
  | zero => intro w5 w6 a1 a2 a3 a4 M r h; exact absurd (show (none : sy_O) = some r from h) (by simp)
  | succ n ih => intro w5 w6 a1 a2 a3 a4 M r h; exact sy_run_by (d := 5) ((jrX12_rests_20 _ _ _ _ _ _ _ M).trans h) hkX12 (by decide +kernel) (sy_cs_cons (jeX12_hasBy.deep (by decide)) sy_cs_nil) (sy_us_cons (jwX12_rests_91 (jtX12_rests_91 ih)) (sy_us_cons (jwX12_rests_84 (jtX12_rests_84 ih)) sy_us_nil))
def jfX12_rests (a1 : Int32) (a2 : Int32) (M : sy_M) : sy_O :=
  sy_bv (jfX12_areTwo a1 a2 M) fun M1 =>
  if 0 < (M1 121 0) then
    sy_ri 0 M1
  else
    jfX12_rests_20 sy_F a1 a2 0 0 M1
set_option maxRecDepth 100000 in
theorem jrX12_rests (a1 : Int32) (a2 : Int32) (M : sy_M) : sy_run skX12 qX12_rests [(0, .aload_n 0, 1, []), (1, .iload_n 1, 1, []), (2, .iload_n 2, 1, []), (3, .invokevirtual 299, 3, []), (6, .aload_n 0, 1, []), (7, .getfield 45, 3, []), (10, .ifCond .le 5, 3, []), (13, .iconst 0, 1, []), (14, .ireturn, 1, []), (15, .iconst 0, 1, [true, true, true, false, false, false, false]), (16, .istore_n 3, 1, []), (17, .iconst 0, 1, []), (18, .istore 4, 2, [])] [(240, 1, jcX12_areTwo)] [(20, juX12_rests_20 (jfX12_rests_20 sy_F))] 14 [] 0 [.ref 121, .int a1, .int a2, xe_no, xe_no, xe_no, xe_no] [] M = jfX12_rests a1 a2 M := rfl
theorem jtX12_rests : ∀ (a1 : Int32) (a2 : Int32) (M : sy_M) (r : xe_R × sy_M), jfX12_rests a1 a2 M = some r → sy_E (6) qX12_rests 0 [.ref 121, .int a1, .int a2, xe_no, xe_no, xe_no, xe_no] [] M r := by
  intro a1 a2 M r h
  exact sy_run_by (d := 5) ((jrX12_rests _ _ M).trans h) hkX12 (by decide +kernel) (sy_cs_cons (jeX12_areTwo.deep (by decide)) sy_cs_nil) (sy_us_cons (jwX12_rests_20 (jtX12_rests_20 sy_F)) sy_us_nil)
def jcX12_rests (as : List Value) (M : sy_M) (K : sy_O → sy_O) : sy_O := sy_xc 121 as fun l => sy_xi l fun a1 l => sy_xi l fun a2 l => sy_xn l (K (jfX12_rests a1 a2 M))
theorem jeX12_rests : sy_snd (6) 305 (jcX12_rests) := by
  intro as M K r h
  obtain ⟨l, e, h1⟩ := sy_xc_ok h; subst e
  obtain ⟨a1, l, e, h2⟩ := sy_xi_ok h1; subst e
  obtain ⟨a2, l, e, h3⟩ := sy_xi_ok h2; subst e
  obtain ⟨e, h4⟩ := sy_xn_ok h3; subst e
  exact ⟨_, h4, fun r1 h0 => ⟨qX12_rests, rfl, rfl, jtX12_rests _ _ M r1 h0⟩⟩
/-! X11_odds StairMeter odds (II)I [('R', 0), 'I', 'I'] -/
def juX11_odds_149 (k : Int64 → Int64 → Int32 → sy_M → sy_O) (ls st : List Value) (M : sy_M) : sy_O := sy_xc 0 ls fun l => sy_xv l fun _ l => sy_xv l fun _ l => sy_xl l fun a3 l => sy_xv l fun _ l => sy_xl l fun a5 l => sy_xv l fun _ l => sy_xi l fun a7 l => sy_xv l fun _ l => sy_xn l (sy_xn st (k a3 a5 a7 M))
theorem jwX11_odds_149 {d : Nat} {k : Int64 → Int64 → Int32 → sy_M → sy_O} (hk : ∀ (w1 : Value) (w2 : Value) (w4 : Value) (w6 : Value) (w8 : Value) (a3 : Int64) (a5 : Int64) (a7 : Int32) (M : sy_M) (r : xe_R × sy_M), k a3 a5 a7 M = some r → sy_E (d) qX11_odds 149 [.ref 0, w1, w2, .long a3, w4, .long a5, w6, .int a7, w8] [] M r) : ∀ ls st M r, juX11_odds_149 k ls st M = some r → sy_E d qX11_odds 149 ls st M r := by
  intro ls st M r h
  obtain ⟨l, e, h1⟩ := sy_xc_ok h; subst e
  obtain ⟨w1, l, e, h2⟩ := sy_xv_ok h1; subst e
  obtain ⟨w2, l, e, h3⟩ := sy_xv_ok h2; subst e
  obtain ⟨a3, l, e, h4⟩ := sy_xl_ok h3; subst e
  obtain ⟨w4, l, e, h5⟩ := sy_xv_ok h4; subst e
  obtain ⟨a5, l, e, h6⟩ := sy_xl_ok h5; subst e
  obtain ⟨w6, l, e, h7⟩ := sy_xv_ok h6; subst e
  obtain ⟨a7, l, e, h8⟩ := sy_xi_ok h7; subst e
  obtain ⟨w8, l, e, h9⟩ := sy_xv_ok h8; subst e
  obtain ⟨e, h10⟩ := sy_xn_ok h9; subst e
  obtain ⟨e, h11⟩ := sy_xn_ok h10; subst e
  exact hk _ _ _ _ _ a3 a5 a7 M r h11
def juX11_odds_100 (k : Int32 → Int32 → Int64 → Int32 → Int32 → Int64 → sy_M → sy_O) (ls st : List Value) (M : sy_M) : sy_O := sy_xc 0 ls fun l => sy_xi l fun a1 l => sy_xi l fun a2 l => sy_xl l fun a3 l => sy_xv l fun _ l => sy_xi l fun a5 l => sy_xi l fun a6 l => sy_xv l fun _ l => sy_xv l fun _ l => sy_xn l (sy_xl st fun s0 l => sy_xn l (k a1 a2 a3 a5 a6 s0 M))
theorem jwX11_odds_100 {d : Nat} {k : Int32 → Int32 → Int64 → Int32 → Int32 → Int64 → sy_M → sy_O} (hk : ∀ (w4 : Value) (w7 : Value) (w8 : Value) (a1 : Int32) (a2 : Int32) (a3 : Int64) (a5 : Int32) (a6 : Int32) (s0 : Int64) (M : sy_M) (r : xe_R × sy_M), k a1 a2 a3 a5 a6 s0 M = some r → sy_E (d) qX11_odds 100 [.ref 0, .int a1, .int a2, .long a3, w4, .int a5, .int a6, w7, w8] [.long s0] M r) : ∀ ls st M r, juX11_odds_100 k ls st M = some r → sy_E d qX11_odds 100 ls st M r := by
  intro ls st M r h
  obtain ⟨l, e, h1⟩ := sy_xc_ok h; subst e
  obtain ⟨a1, l, e, h2⟩ := sy_xi_ok h1; subst e
  obtain ⟨a2, l, e, h3⟩ := sy_xi_ok h2; subst e
  obtain ⟨a3, l, e, h4⟩ := sy_xl_ok h3; subst e
  obtain ⟨w4, l, e, h5⟩ := sy_xv_ok h4; subst e
  obtain ⟨a5, l, e, h6⟩ := sy_xi_ok h5; subst e
  obtain ⟨a6, l, e, h7⟩ := sy_xi_ok h6; subst e
  obtain ⟨w7, l, e, h8⟩ := sy_xv_ok h7; subst e
  obtain ⟨w8, l, e, h9⟩ := sy_xv_ok h8; subst e
  obtain ⟨e, h10⟩ := sy_xn_ok h9; subst e
  obtain ⟨s0, l, e, h11⟩ := sy_xl_ok h10; subst e
  obtain ⟨e, h12⟩ := sy_xn_ok h11; subst e
  exact hk _ _ _ a1 a2 a3 a5 a6 s0 M r h12
def juX11_odds_68 (k : Int32 → Int32 → Int64 → Int32 → Int32 → sy_M → sy_O) (ls st : List Value) (M : sy_M) : sy_O := sy_xc 0 ls fun l => sy_xi l fun a1 l => sy_xi l fun a2 l => sy_xl l fun a3 l => sy_xv l fun _ l => sy_xi l fun a5 l => sy_xi l fun a6 l => sy_xv l fun _ l => sy_xv l fun _ l => sy_xn l (sy_xn st (k a1 a2 a3 a5 a6 M))
theorem jwX11_odds_68 {d : Nat} {k : Int32 → Int32 → Int64 → Int32 → Int32 → sy_M → sy_O} (hk : ∀ (w4 : Value) (w7 : Value) (w8 : Value) (a1 : Int32) (a2 : Int32) (a3 : Int64) (a5 : Int32) (a6 : Int32) (M : sy_M) (r : xe_R × sy_M), k a1 a2 a3 a5 a6 M = some r → sy_E (d) qX11_odds 68 [.ref 0, .int a1, .int a2, .long a3, w4, .int a5, .int a6, w7, w8] [] M r) : ∀ ls st M r, juX11_odds_68 k ls st M = some r → sy_E d qX11_odds 68 ls st M r := by
  intro ls st M r h
  obtain ⟨l, e, h1⟩ := sy_xc_ok h; subst e
  obtain ⟨a1, l, e, h2⟩ := sy_xi_ok h1; subst e
  obtain ⟨a2, l, e, h3⟩ := sy_xi_ok h2; subst e
  obtain ⟨a3, l, e, h4⟩ := sy_xl_ok h3; subst e
  obtain ⟨w4, l, e, h5⟩ := sy_xv_ok h4; subst e
  obtain ⟨a5, l, e, h6⟩ := sy_xi_ok h5; subst e
  obtain ⟨a6, l, e, h7⟩ := sy_xi_ok h6; subst e
  obtain ⟨w7, l, e, h8⟩ := sy_xv_ok h7; subst e
  obtain ⟨w8, l, e, h9⟩ := sy_xv_ok h8; subst e
  obtain ⟨e, h10⟩ := sy_xn_ok h9; subst e
  obtain ⟨e, h11⟩ := sy_xn_ok h10; subst e
  exact hk _ _ _ a1 a2 a3 a5 a6 M r h11
def juX11_odds_52 (k : Int32 → Int32 → Int64 → Int32 → sy_M → sy_O) (ls st : List Value) (M : sy_M) : sy_O := sy_xc 0 ls fun l => sy_xi l fun a1 l => sy_xi l fun a2 l => sy_xl l fun a3 l => sy_xv l fun _ l => sy_xi l fun a5 l => sy_xv l fun _ l => sy_xv l fun _ l => sy_xv l fun _ l => sy_xn l (sy_xn st (k a1 a2 a3 a5 M))
theorem jwX11_odds_52 {d : Nat} {k : Int32 → Int32 → Int64 → Int32 → sy_M → sy_O} (hk : ∀ (w4 : Value) (w6 : Value) (w7 : Value) (w8 : Value) (a1 : Int32) (a2 : Int32) (a3 : Int64) (a5 : Int32) (M : sy_M) (r : xe_R × sy_M), k a1 a2 a3 a5 M = some r → sy_E (d) qX11_odds 52 [.ref 0, .int a1, .int a2, .long a3, w4, .int a5, w6, w7, w8] [] M r) : ∀ ls st M r, juX11_odds_52 k ls st M = some r → sy_E d qX11_odds 52 ls st M r := by
  intro ls st M r h
  obtain ⟨l, e, h1⟩ := sy_xc_ok h; subst e
  obtain ⟨a1, l, e, h2⟩ := sy_xi_ok h1; subst e
  obtain ⟨a2, l, e, h3⟩ := sy_xi_ok h2; subst e
  obtain ⟨a3, l, e, h4⟩ := sy_xl_ok h3; subst e
  obtain ⟨w4, l, e, h5⟩ := sy_xv_ok h4; subst e
  obtain ⟨a5, l, e, h6⟩ := sy_xi_ok h5; subst e
  obtain ⟨w6, l, e, h7⟩ := sy_xv_ok h6; subst e
  obtain ⟨w7, l, e, h8⟩ := sy_xv_ok h7; subst e
  obtain ⟨w8, l, e, h9⟩ := sy_xv_ok h8; subst e
  obtain ⟨e, h10⟩ := sy_xn_ok h9; subst e
  obtain ⟨e, h11⟩ := sy_xn_ok h10; subst e
  exact hk _ _ _ _ a1 a2 a3 a5 M r h11
def juX11_odds_42 (k : Int32 → Int32 → Int64 → Int32 → Int64 → Int32 → sy_M → sy_O) (ls st : List Value) (M : sy_M) : sy_O := sy_xc 0 ls fun l => sy_xi l fun a1 l => sy_xi l fun a2 l => sy_xl l fun a3 l => sy_xv l fun _ l => sy_xi l fun a5 l => sy_xv l fun _ l => sy_xv l fun _ l => sy_xv l fun _ l => sy_xn l (sy_xl st fun s0 l => sy_xi l fun s1 l => sy_xc 119 l fun l => sy_xn l (k a1 a2 a3 a5 s0 s1 M))
theorem jwX11_odds_42 {d : Nat} {k : Int32 → Int32 → Int64 → Int32 → Int64 → Int32 → sy_M → sy_O} (hk : ∀ (w4 : Value) (w6 : Value) (w7 : Value) (w8 : Value) (a1 : Int32) (a2 : Int32) (a3 : Int64) (a5 : Int32) (s0 : Int64) (s1 : Int32) (M : sy_M) (r : xe_R × sy_M), k a1 a2 a3 a5 s0 s1 M = some r → sy_E (d) qX11_odds 42 [.ref 0, .int a1, .int a2, .long a3, w4, .int a5, w6, w7, w8] [.long s0, .int s1, .ref 119] M r) : ∀ ls st M r, juX11_odds_42 k ls st M = some r → sy_E d qX11_odds 42 ls st M r := by
  intro ls st M r h
  obtain ⟨l, e, h1⟩ := sy_xc_ok h; subst e
  obtain ⟨a1, l, e, h2⟩ := sy_xi_ok h1; subst e
  obtain ⟨a2, l, e, h3⟩ := sy_xi_ok h2; subst e
  obtain ⟨a3, l, e, h4⟩ := sy_xl_ok h3; subst e
  obtain ⟨w4, l, e, h5⟩ := sy_xv_ok h4; subst e
  obtain ⟨a5, l, e, h6⟩ := sy_xi_ok h5; subst e
  obtain ⟨w6, l, e, h7⟩ := sy_xv_ok h6; subst e
  obtain ⟨w7, l, e, h8⟩ := sy_xv_ok h7; subst e
  obtain ⟨w8, l, e, h9⟩ := sy_xv_ok h8; subst e
  obtain ⟨e, h10⟩ := sy_xn_ok h9; subst e
  obtain ⟨s0, l, e, h11⟩ := sy_xl_ok h10; subst e
  obtain ⟨s1, l, e, h12⟩ := sy_xi_ok h11; subst e
  obtain ⟨l, e, h13⟩ := sy_xc_ok h12; subst e
  obtain ⟨e, h14⟩ := sy_xn_ok h13; subst e
  exact hk _ _ _ _ a1 a2 a3 a5 s0 s1 M r h14
def juX11_odds_19 (k : Int32 → Int32 → Int64 → Int32 → sy_M → sy_O) (ls st : List Value) (M : sy_M) : sy_O := sy_xc 0 ls fun l => sy_xi l fun a1 l => sy_xi l fun a2 l => sy_xl l fun a3 l => sy_xv l fun _ l => sy_xi l fun a5 l => sy_xv l fun _ l => sy_xv l fun _ l => sy_xv l fun _ l => sy_xn l (sy_xn st (k a1 a2 a3 a5 M))
theorem jwX11_odds_19 {d : Nat} {k : Int32 → Int32 → Int64 → Int32 → sy_M → sy_O} (hk : ∀ (w4 : Value) (w6 : Value) (w7 : Value) (w8 : Value) (a1 : Int32) (a2 : Int32) (a3 : Int64) (a5 : Int32) (M : sy_M) (r : xe_R × sy_M), k a1 a2 a3 a5 M = some r → sy_E (d) qX11_odds 19 [.ref 0, .int a1, .int a2, .long a3, w4, .int a5, w6, w7, w8] [] M r) : ∀ ls st M r, juX11_odds_19 k ls st M = some r → sy_E d qX11_odds 19 ls st M r := by
  intro ls st M r h
  obtain ⟨l, e, h1⟩ := sy_xc_ok h; subst e
  obtain ⟨a1, l, e, h2⟩ := sy_xi_ok h1; subst e
  obtain ⟨a2, l, e, h3⟩ := sy_xi_ok h2; subst e
  obtain ⟨a3, l, e, h4⟩ := sy_xl_ok h3; subst e
  obtain ⟨w4, l, e, h5⟩ := sy_xv_ok h4; subst e
  obtain ⟨a5, l, e, h6⟩ := sy_xi_ok h5; subst e
  obtain ⟨w6, l, e, h7⟩ := sy_xv_ok h6; subst e
  obtain ⟨w7, l, e, h8⟩ := sy_xv_ok h7; subst e
  obtain ⟨w8, l, e, h9⟩ := sy_xv_ok h8; subst e
  obtain ⟨e, h10⟩ := sy_xn_ok h9; subst e
  obtain ⟨e, h11⟩ := sy_xn_ok h10; subst e
  exact hk _ _ _ _ a1 a2 a3 a5 M r h11
def jgX11_odds_149 (k149 : Int64 → Int64 → Int32 → sy_M → sy_O) (a3 : Int64) (a5 : Int64) (a7 : Int32) (M : sy_M) : sy_O :=
  if 6 < a7 then
    if 0 < (lg_cmp a3 (Int64.ofNat 0)) then
      if a3 = 0 then none else
      sy_ri (Int64.toInt32 ((a5 * (Int64.ofInt 10000)) / a3)) M
    else
      sy_ri 0 M
  else
    sy_bx (xe_in a7 7) <|
    let v1 := (a5 + (sy_rl M 119 (Int32.toNatClampNeg a7)))
    let v2 := a7 + 1
    k149 a3 v1 v2 M
def jfX11_odds_149 : Nat → Int64 → Int64 → Int32 → sy_M → sy_O
  | 0, _, _, _, _ => none
  | n + 1, a3, a5, a7, M => jgX11_odds_149 (jfX11_odds_149 n) a3 a5 a7 M
set_option maxRecDepth 100000 in
theorem jrX11_odds_149 (k149 : Int64 → Int64 → Int32 → sy_M → sy_O) (w1 : Value) (w2 : Value) (w4 : Value) (w6 : Value) (w8 : Value) (a3 : Int64) (a5 : Int64) (a7 : Int32) (M : sy_M) : sy_run skX11 qX11_odds [(149, .iload 7, 2, [true, false, false, true, false, true, false, true, false]), (151, .bipush 6, 2, []), (153, .if_icmp .gt 21, 3, []), (156, .lload 5, 2, []), (158, .aload_n 0, 1, []), (159, .getfield 93, 3, []), (162, .iload 7, 2, []), (164, .laload, 1, []), (165, .ladd, 1, []), (166, .lstore 5, 2, []), (168, .iinc 7 1, 3, []), (171, .goto (-22), 3, []), (174, .lload_n 3, 1, [false, false, false, true, false, true, false, false, false]), (175, .lconst 0, 1, []), (176, .lcmp, 1, []), (177, .ifCond .le 15, 3, []), (180, .lload 5, 2, []), (182, .ldc2_w 332, 3, []), (185, .lmul, 1, []), (186, .lload_n 3, 1, []), (187, .ldiv, 1, []), (188, .l2i, 1, []), (189, .goto 4, 3, []), (192, .iconst 0, 1, [false, false, false, false, false, false, false, false, false]), (193, .ireturn, 1, [false, false, false, false, false, false, false, false, false])] [] [(149, juX11_odds_149 k149)] 26 [] 149 [.ref 0, w1, w2, .long a3, w4, .long a5, w6, .int a7, w8] [] M = jgX11_odds_149 k149 a3 a5 a7 M := rfl
theorem jtX11_odds_149 : ∀ n : Nat, ∀ (w1 : Value) (w2 : Value) (w4 : Value) (w6 : Value) (w8 : Value) (a3 : Int64) (a5 : Int64) (a7 : Int32) (M : sy_M) (r : xe_R × sy_M), jfX11_odds_149 n a3 a5 a7 M = some r → sy_E (2) qX11_odds 149 [.ref 0, w1, w2, .long a3, w4, .long a5, w6, .int a7, w8] [] M r := by
  intro n
  induction n with
  | zero => intro w1 w2 w4 w6 w8 a3 a5 a7 M r h; exact absurd (show (none : sy_O) = some r from h) (by simp)
  | succ n ih => intro w1 w2 w4 w6 w8 a3 a5 a7 M r h; exact sy_run_by (d := 1) ((jrX11_odds_149 _ _ _ _ _ _ _ _ _ M).trans h) hkX11 (by decide +kernel) sy_cs_nil (sy_us_cons (jwX11_odds_149 ih) sy_us_nil)
def jfX11_odds_100 (k52 : Int32 → Int32 → Int64 → Int32 → sy_M → sy_O) (k68 : Int32 → Int32 → Int64 → Int32 → Int32 → sy_M → sy_O) (a1 : Int32) (a2 : Int32) (a3 : Int64) (a5 : Int32) (a6 : Int32) (s0 : Int64) (M : sy_M) : sy_O :=
  sy_bx (xe_in a6 7) <|
  sy_bx (xe_in a6 7) <|
  let M1 := sy_wl M 119 (Int32.toNatClampNeg a6) (((sy_rl M 119 (Int32.toNatClampNeg a6)) * (Int32.toInt64 (100 - (M 9 10)))) + s0)
  let v2 := a6 + (-1)
  k68 a1 a2 a3 a5 v2 M1
set_option maxRecDepth 100000 in
theorem jrX11_odds_100 (k52 : Int32 → Int32 → Int64 → Int32 → sy_M → sy_O) (k68 : Int32 → Int32 → Int64 → Int32 → Int32 → sy_M → sy_O) (w4 : Value) (w7 : Value) (w8 : Value) (a1 : Int32) (a2 : Int32) (a3 : Int64) (a5 : Int32) (a6 : Int32) (s0 : Int64) (M : sy_M) : sy_run skX11 qX11_odds [(100, .lstore 7, 2, [true, true, true, true, false, true, true, false, false]), (102, .aload_n 0, 1, []), (103, .getfield 93, 3, []), (106, .iload 6, 2, []), (108, .aload_n 0, 1, []), (109, .getfield 93, 3, []), (112, .iload 6, 2, []), (114, .laload, 1, []), (115, .bipush 100, 2, []), (117, .aload_n 0, 1, []), (118, .getfield 28, 3, []), (121, .getfield 224, 3, []), (124, .isub, 1, []), (125, .i2l, 1, []), (126, .lmul, 1, []), (127, .lload 7, 2, []), (129, .ladd, 1, []), (130, .lastore, 1, []), (131, .iinc 6 (-1), 3, []), (134, .goto (-66), 3, [])] [] [(68, juX11_odds_68 k68)] 21 [] 100 [.ref 0, .int a1, .int a2, .long a3, w4, .int a5, .int a6, w7, w8] [.long s0] M = jfX11_odds_100 k52 k68 a1 a2 a3 a5 a6 s0 M := rfl
theorem jtX11_odds_100 {k52 : Int32 → Int32 → Int64 → Int32 → sy_M → sy_O} (hk52 : ∀ (w4 : Value) (w6 : Value) (w7 : Value) (w8 : Value) (a1 : Int32) (a2 : Int32) (a3 : Int64) (a5 : Int32) (M : sy_M) (r : xe_R × sy_M), k52 a1 a2 a3 a5 M = some r → sy_E (2) qX11_odds 52 [.ref 0, .int a1, .int a2, .long a3, w4, .int a5, w6, w7, w8] [] M r) {k68 : Int32 → Int32 → Int64 → Int32 → Int32 → sy_M → sy_O} (hk68 : ∀ (w4 : Value) (w7 : Value) (w8 : Value) (a1 : Int32) (a2 : Int32) (a3 : Int64) (a5 : Int32) (a6 : Int32) (M : sy_M) (r : xe_R × sy_M), k68 a1 a2 a3 a5 a6 M = some r → sy_E (2) qX11_odds 68 [.ref 0, .int a1, .int a2, .long a3, w4, .int a5, .int a6, w7, w8] [] M r) : ∀ (w4 : Value) (w7 : Value) (w8 : Value) (a1 : Int32) (a2 : Int32) (a3 : Int64) (a5 : Int32) (a6 : Int32) (s0 : Int64) (M : sy_M) (r : xe_R × sy_M), jfX11_odds_100 k52 k68 a1 a2 a3 a5 a6 s0 M = some r → sy_E (2) qX11_odds 100 [.ref 0, .int a1, .int a2, .long a3, w4, .int a5, .int a6, w7, w8] [.long s0] M r := by
  intro w4 w7 w8 a1 a2 a3 a5 a6 s0 M r h
  exact sy_run_by (d := 1) ((jrX11_odds_100 _ _ _ _ _ _ _ _ _ _ _ M).trans h) hkX11 (by decide +kernel) sy_cs_nil (sy_us_cons (jwX11_odds_68 hk68) sy_us_nil)
def jgX11_odds_68 (k52 : Int32 → Int32 → Int64 → Int32 → sy_M → sy_O) (k68 : Int32 → Int32 → Int64 → Int32 → Int32 → sy_M → sy_O) (a1 : Int32) (a2 : Int32) (a3 : Int64) (a5 : Int32) (a6 : Int32) (M : sy_M) : sy_O :=
  if a6 < 0 then
    let v1 := a5 + 1
    k52 a1 a2 a3 v1 M
  else
    if 0 < a6 then
      sy_bx (xe_in (a6 - 1) 7) <|
      jfX11_odds_100 k52 k68 a1 a2 a3 a5 a6 ((sy_rl M 119 (Int32.toNatClampNeg (a6 - 1))) * (Int32.toInt64 (M 9 10))) M
    else
      jfX11_odds_100 k52 k68 a1 a2 a3 a5 a6 (Int64.ofNat 0) M
def jfX11_odds_68 (k52 : Int32 → Int32 → Int64 → Int32 → sy_M → sy_O) : Nat → Int32 → Int32 → Int64 → Int32 → Int32 → sy_M → sy_O
  | 0, _, _, _, _, _, _ => none
  | n + 1, a1, a2, a3, a5, a6, M => jgX11_odds_68 k52 (jfX11_odds_68 k52 n) a1 a2 a3 a5 a6 M
set_option maxRecDepth 100000 in
theorem jrX11_odds_68 (k52 : Int32 → Int32 → Int64 → Int32 → sy_M → sy_O) (k68 : Int32 → Int32 → Int64 → Int32 → Int32 → sy_M → sy_O) (w4 : Value) (w7 : Value) (w8 : Value) (a1 : Int32) (a2 : Int32) (a3 : Int64) (a5 : Int32) (a6 : Int32) (M : sy_M) : sy_run skX11 qX11_odds [(68, .iload 6, 2, [true, true, true, true, false, true, true, false, false]), (70, .ifCond .lt 67, 3, []), (73, .iload 6, 2, []), (75, .ifCond .le 24, 3, []), (78, .aload_n 0, 1, []), (79, .getfield 93, 3, []), (82, .iload 6, 2, []), (84, .iconst 1, 1, []), (85, .isub, 1, []), (86, .laload, 1, []), (87, .aload_n 0, 1, []), (88, .getfield 28, 3, []), (91, .getfield 224, 3, []), (94, .i2l, 1, []), (95, .lmul, 1, []), (96, .goto 4, 3, []), (99, .lconst 0, 1, [true, true, true, true, false, true, true, false, false]), (137, .iinc 5 1, 3, [true, true, true, true, false, true, false, false, false]), (140, .goto (-88), 3, [])] [] [(52, juX11_odds_52 k52), (100, juX11_odds_100 (jfX11_odds_100 k52 k68))] 20 [] 68 [.ref 0, .int a1, .int a2, .long a3, w4, .int a5, .int a6, w7, w8] [] M = jgX11_odds_68 k52 k68 a1 a2 a3 a5 a6 M := rfl
theorem jtX11_odds_68 {k52 : Int32 → Int32 → Int64 → Int32 → sy_M → sy_O} (hk52 : ∀ (w4 : Value) (w6 : Value) (w7 : Value) (w8 : Value) (a1 : Int32) (a2 : Int32) (a3 : Int64) (a5 : Int32) (M : sy_M) (r : xe_R × sy_M), k52 a1 a2 a3 a5 M = some r → sy_E (2) qX11_odds 52 [.ref 0, .int a1, .int a2, .long a3, w4, .int a5, w6, w7, w8] [] M r) : ∀ n : Nat, ∀ (w4 : Value) (w7 : Value) (w8 : Value) (a1 : Int32) (a2 : Int32) (a3 : Int64) (a5 : Int32) (a6 : Int32) (M : sy_M) (r : xe_R × sy_M), jfX11_odds_68 k52 n a1 a2 a3 a5 a6 M = some r → sy_E (2) qX11_odds 68 [.ref 0, .int a1, .int a2, .long a3, w4, .int a5, .int a6, w7, w8] [] M r := by
  intro n
  induction n with
  | zero => intro w4 w7 w8 a1 a2 a3 a5 a6 M r h; exact absurd (show (none : sy_O) = some r from h) (by simp)
  | succ n ih => intro w4 w7 w8 a1 a2 a3 a5 a6 M r h; exact sy_run_by (d := 1) ((jrX11_odds_68 _ _ _ _ _ _ _ _ _ _ M).trans h) hkX11 (by decide +kernel) sy_cs_nil (sy_us_cons (jwX11_odds_52 hk52) (sy_us_cons (jwX11_odds_100 (jtX11_odds_100 hk52 ih)) sy_us_nil))
def jgX11_odds_52 (k52 : Int32 → Int32 → Int64 → Int32 → sy_M → sy_O) (a1 : Int32) (a2 : Int32) (a3 : Int64) (a5 : Int32) (M : sy_M) : sy_O :=
  if a5 < a1 then
    let v2 := (a3 * (Int64.ofInt 100))
    jfX11_odds_68 k52 sy_F a1 a2 v2 a5 6 M
  else
    let v1 := (Int64.ofNat 0)
    jfX11_odds_149 sy_F a3 v1 a2 M
def jfX11_odds_52 : Nat → Int32 → Int32 → Int64 → Int32 → sy_M → sy_O
  | 0, _, _, _, _, _ => none
  | n + 1, a1, a2, a3, a5, M => jgX11_odds_52 (jfX11_odds_52 n) a1 a2 a3 a5 M
set_option maxRecDepth 100000 in
theorem jrX11_odds_52 (k52 : Int32 → Int32 → Int64 → Int32 → sy_M → sy_O) (w4 : Value) (w6 : Value) (w7 : Value) (w8 : Value) (a1 : Int32) (a2 : Int32) (a3 : Int64) (a5 : Int32) (M : sy_M) : sy_run skX11 qX11_odds [(52, .iload 5, 2, [true, true, true, true, false, true, false, false, false]), (54, .iload_n 1, 1, []), (55, .if_icmp .ge 88, 3, []), (58, .lload_n 3, 1, []), (59, .ldc2_w 330, 3, []), (62, .lmul, 1, []), (63, .lstore_n 3, 1, []), (64, .bipush 6, 2, []), (66, .istore 6, 2, []), (143, .lconst 0, 1, [true, false, true, true, false, false, false, false, false]), (144, .lstore 5, 2, []), (146, .iload_n 2, 1, []), (147, .istore 7, 2, [])] [] [(149, juX11_odds_149 (jfX11_odds_149 sy_F)), (68, juX11_odds_68 (jfX11_odds_68 k52 sy_F))] 14 [] 52 [.ref 0, .int a1, .int a2, .long a3, w4, .int a5, w6, w7, w8] [] M = jgX11_odds_52 k52 a1 a2 a3 a5 M := rfl
theorem jtX11_odds_52 : ∀ n : Nat, ∀ (w4 : Value) (w6 : Value) (w7 : Value) (w8 : Value) (a1 : Int32) (a2 : Int32) (a3 : Int64) (a5 : Int32) (M : sy_M) (r : xe_R × sy_M), jfX11_odds_52 n a1 a2 a3 a5 M = some r → sy_E (2) qX11_odds 52 [.ref 0, .int a1, .int a2, .long a3, w4, .int a5, w6, w7, w8] [] M r := by
  intro n
  induction n with
  | zero => intro w4 w6 w7 w8 a1 a2 a3 a5 M r h; exact absurd (show (none : sy_O) = some r from h) (by simp)
  | succ n ih => intro w4 w6 w7 w8 a1 a2 a3 a5 M r h; exact sy_run_by (d := 1) ((jrX11_odds_52 _ _ _ _ _ _ _ _ _ M).trans h) hkX11 (by decide +kernel) sy_cs_nil (sy_us_cons (jwX11_odds_149 (jtX11_odds_149 sy_F)) (sy_us_cons (jwX11_odds_68 (jtX11_odds_68 ih sy_F)) sy_us_nil))
def jfX11_odds_42 (k19 : Int32 → Int32 → Int64 → Int32 → sy_M → sy_O) (a1 : Int32) (a2 : Int32) (a3 : Int64) (a5 : Int32) (s0 : Int64) (s1 : Int32) (M : sy_M) : sy_O :=
  sy_bx (xe_in s1 7) <|
  let M1 := sy_wl M 119 (Int32.toNatClampNeg s1) s0
  let v2 := a5 + 1
  k19 a1 a2 a3 v2 M1
set_option maxRecDepth 100000 in
theorem jrX11_odds_42 (k19 : Int32 → Int32 → Int64 → Int32 → sy_M → sy_O) (w4 : Value) (w6 : Value) (w7 : Value) (w8 : Value) (a1 : Int32) (a2 : Int32) (a3 : Int64) (a5 : Int32) (s0 : Int64) (s1 : Int32) (M : sy_M) : sy_run skX11 qX11_odds [(42, .lastore, 1, [true, true, true, true, false, true, false, false, false]), (43, .iinc 5 1, 3, []), (46, .goto (-27), 3, [])] [] [(19, juX11_odds_19 k19)] 4 [] 42 [.ref 0, .int a1, .int a2, .long a3, w4, .int a5, w6, w7, w8] [.long s0, .int s1, .ref 119] M = jfX11_odds_42 k19 a1 a2 a3 a5 s0 s1 M := rfl
theorem jtX11_odds_42 {k19 : Int32 → Int32 → Int64 → Int32 → sy_M → sy_O} (hk19 : ∀ (w4 : Value) (w6 : Value) (w7 : Value) (w8 : Value) (a1 : Int32) (a2 : Int32) (a3 : Int64) (a5 : Int32) (M : sy_M) (r : xe_R × sy_M), k19 a1 a2 a3 a5 M = some r → sy_E (2) qX11_odds 19 [.ref 0, .int a1, .int a2, .long a3, w4, .int a5, w6, w7, w8] [] M r) : ∀ (w4 : Value) (w6 : Value) (w7 : Value) (w8 : Value) (a1 : Int32) (a2 : Int32) (a3 : Int64) (a5 : Int32) (s0 : Int64) (s1 : Int32) (M : sy_M) (r : xe_R × sy_M), jfX11_odds_42 k19 a1 a2 a3 a5 s0 s1 M = some r → sy_E (2) qX11_odds 42 [.ref 0, .int a1, .int a2, .long a3, w4, .int a5, w6, w7, w8] [.long s0, .int s1, .ref 119] M r := by
  intro w4 w6 w7 w8 a1 a2 a3 a5 s0 s1 M r h
  exact sy_run_by (d := 1) ((jrX11_odds_42 _ _ _ _ _ _ _ _ _ _ _ M).trans h) hkX11 (by decide +kernel) sy_cs_nil (sy_us_cons (jwX11_odds_19 hk19) sy_us_nil)
def jgX11_odds_19 (k19 : Int32 → Int32 → Int64 → Int32 → sy_M → sy_O) (a1 : Int32) (a2 : Int32) (a3 : Int64) (a5 : Int32) (M : sy_M) : sy_O :=
  if 6 < a5 then
    jfX11_odds_52 sy_F a1 a2 a3 0 M
  else
    if a5 = 0 then
      jfX11_odds_42 k19 a1 a2 a3 a5 (Int64.ofNat 1) a5 M
    else
      jfX11_odds_42 k19 a1 a2 a3 a5 (Int64.ofNat 0) a5 M
def jfX11_odds_19 : Nat → Int32 → Int32 → Int64 → Int32 → sy_M → sy_O
  | 0, _, _, _, _, _ => none
  | n + 1, a1, a2, a3, a5, M => jgX11_odds_19 (jfX11_odds_19 n) a1 a2 a3 a5 M
set_option maxRecDepth 100000 in
theorem jrX11_odds_19 (k19 : Int32 → Int32 → Int64 → Int32 → sy_M → sy_O) (w4 : Value) (w6 : Value) (w7 : Value) (w8 : Value) (a1 : Int32) (a2 : Int32) (a3 : Int64) (a5 : Int32) (M : sy_M) : sy_run skX11 qX11_odds [(19, .iload 5, 2, [true, true, true, true, false, true, false, false, false]), (21, .bipush 6, 2, []), (23, .if_icmp .gt 26, 3, []), (26, .aload_n 0, 1, []), (27, .getfield 93, 3, []), (30, .iload 5, 2, []), (32, .iload 5, 2, []), (34, .ifCond .ne 7, 3, []), (37, .lconst 1, 1, []), (38, .goto 4, 3, []), (41, .lconst 0, 1, [true, true, true, true, false, true, false, false, false]), (49, .iconst 0, 1, [true, true, true, true, false, false, false, false, false]), (50, .istore 5, 2, [])] [] [(52, juX11_odds_52 (jfX11_odds_52 sy_F)), (42, juX11_odds_42 (jfX11_odds_42 k19))] 14 [] 19 [.ref 0, .int a1, .int a2, .long a3, w4, .int a5, w6, w7, w8] [] M = jgX11_odds_19 k19 a1 a2 a3 a5 M := rfl
theorem jtX11_odds_19 : ∀ n : Nat, ∀ (w4 : Value) (w6 : Value) (w7 : Value) (w8 : Value) (a1 : Int32) (a2 : Int32) (a3 : Int64) (a5 : Int32) (M : sy_M) (r : xe_R × sy_M), jfX11_odds_19 n a1 a2 a3 a5 M = some r → sy_E (2) qX11_odds 19 [.ref 0, .int a1, .int a2, .long a3, w4, .int a5, w6, w7, w8] [] M r := by
  intro n
  induction n with
  | zero => intro w4 w6 w7 w8 a1 a2 a3 a5 M r h; exact absurd (show (none : sy_O) = some r from h) (by simp)
  | succ n ih => intro w4 w6 w7 w8 a1 a2 a3 a5 M r h; exact sy_run_by (d := 1) ((jrX11_odds_19 _ _ _ _ _ _ _ _ _ M).trans h) hkX11 (by decide +kernel) sy_cs_nil (sy_us_cons (jwX11_odds_52 (jtX11_odds_52 sy_F)) (sy_us_cons (jwX11_odds_42 (jtX11_odds_42 ih)) sy_us_nil))
def jfX11_odds (a1 : Int32) (a2 : Int32) (M : sy_M) : sy_O :=
  sy_bv (jfX11_checkRange a1 0 6 M) fun M1 =>
  sy_bv (jfX11_checkRange a2 0 6 M1) fun M2 =>
  let v3 := (Int64.ofNat 1)
  jfX11_odds_19 sy_F a1 a2 v3 0 M2
set_option maxRecDepth 100000 in
theorem jrX11_odds (a1 : Int32) (a2 : Int32) (M : sy_M) : sy_run skX11 qX11_odds [(0, .iload_n 1, 1, []), (1, .iconst 0, 1, []), (2, .bipush 6, 2, []), (4, .invokestatic 248, 3, []), (7, .iload_n 2, 1, []), (8, .iconst 0, 1, []), (9, .bipush 6, 2, []), (11, .invokestatic 248, 3, []), (14, .lconst 1, 1, []), (15, .lstore_n 3, 1, []), (16, .iconst 0, 1, []), (17, .istore 5, 2, [])] [(179, 1, jcX11_checkRange)] [(19, juX11_odds_19 (jfX11_odds_19 sy_F))] 13 [] 0 [.ref 0, .int a1, .int a2, xe_no, xe_no, xe_no, xe_no, xe_no, xe_no] [] M = jfX11_odds a1 a2 M := rfl
theorem jtX11_odds : ∀ (a1 : Int32) (a2 : Int32) (M : sy_M) (r : xe_R × sy_M), jfX11_odds a1 a2 M = some r → sy_E (2) qX11_odds 0 [.ref 0, .int a1, .int a2, xe_no, xe_no, xe_no, xe_no, xe_no, xe_no] [] M r := by
  intro a1 a2 M r h
  exact sy_run_by (d := 1) ((jrX11_odds _ _ M).trans h) hkX11 (by decide +kernel) (sy_cs_cons (jeX11_checkRange.deep (by decide)) sy_cs_nil) (sy_us_cons (jwX11_odds_19 (jtX11_odds_19 sy_F)) sy_us_nil)
def jcX11_odds (as : List Value) (M : sy_M) (K : sy_O → sy_O) : sy_O := sy_xc 0 as fun l => sy_xi l fun a1 l => sy_xi l fun a2 l => sy_xn l (K (jfX11_odds a1 a2 M))
theorem jeX11_odds : sy_snd (2) 138 (jcX11_odds) := by
  intro as M K r h
  obtain ⟨l, e, h1⟩ := sy_xc_ok h; subst e
  obtain ⟨a1, l, e, h2⟩ := sy_xi_ok h1; subst e
  obtain ⟨a2, l, e, h3⟩ := sy_xi_ok h2; subst e
  obtain ⟨e, h4⟩ := sy_xn_ok h3; subst e
  exact ⟨_, h4, fun r1 h0 => ⟨qX11_odds, rfl, rfl, jtX11_odds _ _ M r1 h0⟩⟩
/-! L_odds StairMeterLaw odds (LStairMeter;II[J)I [('R', 0), 'I', 'I', ('R', 132)] -/
def jfL_odds (a1 : Int32) (a2 : Int32) (M : sy_M) : sy_O :=
  sy_hi (jfX11_odds a1 a2 M) (fun v2 M1 =>
    let M5 := sy_wl M1 132 0 (Int32.toInt64 v2)
    sy_ri 0 M5)
  (fun c3 M4 => if c3 = 20 then sy_ri 1 M4 else none)
set_option maxRecDepth 100000 in
theorem jrL_odds (a1 : Int32) (a2 : Int32) (M : sy_M) : sy_run skL qL_odds [(0, .aload_n 3, 1, []), (1, .iconst 0, 1, []), (2, .aload_n 0, 1, []), (3, .iload_n 1, 1, []), (4, .iload_n 2, 1, []), (5, .invokevirtual 120, 3, []), (8, .i2l, 1, []), (9, .lastore, 1, []), (10, .goto 7, 3, []), (13, .astore 4, 2, [false, false, false, false, false]), (15, .iconst 1, 1, []), (16, .ireturn, 1, []), (17, .iconst 0, 1, [false, false, false, false, false]), (18, .ireturn, 1, [])] [(138, 3, jcX11_odds)] [] 15 [] 0 [.ref 0, .int a1, .int a2, .ref 132, xe_no] [] M = jfL_odds a1 a2 M := rfl
theorem jtL_odds : ∀ (a1 : Int32) (a2 : Int32) (M : sy_M) (r : xe_R × sy_M), jfL_odds a1 a2 M = some r → sy_E (3) qL_odds 0 [.ref 0, .int a1, .int a2, .ref 132, xe_no] [] M r := by
  intro a1 a2 M r h
  exact sy_run_by (d := 2) ((jrL_odds _ _ M).trans h) hkL (by decide +kernel) (sy_cs_cons (jeX11_odds.deep (by decide)) sy_cs_nil) sy_us_nil
def jcL_odds (as : List Value) (M : sy_M) (K : sy_O → sy_O) : sy_O := sy_xc 0 as fun l => sy_xi l fun a1 l => sy_xi l fun a2 l => sy_xc 132 l fun l => sy_xn l (K (jfL_odds a1 a2 M))
theorem jeL_odds : sy_snd (3) 352 (jcL_odds) := by
  intro as M K r h
  obtain ⟨l, e, h1⟩ := sy_xc_ok h; subst e
  obtain ⟨a1, l, e, h2⟩ := sy_xi_ok h1; subst e
  obtain ⟨a2, l, e, h3⟩ := sy_xi_ok h2; subst e
  obtain ⟨l, e, h4⟩ := sy_xc_ok h3; subst e
  obtain ⟨e, h5⟩ := sy_xn_ok h4; subst e
  exact ⟨_, h5, fun r1 h0 => ⟨qL_odds, rfl, rfl, jtL_odds _ _ M r1 h0⟩⟩
/-! X12_odds StairMeterModel odds (II)I [('R', 121), 'I', 'I'] -/
def juX12_odds_136 (k : Int32 → Int32 → Int64 → Int64 → Int32 → Int32 → Int64 → Int64 → sy_M → sy_O) (ls st : List Value) (M : sy_M) : sy_O := sy_xc 121 ls fun l => sy_xi l fun a1 l => sy_xi l fun a2 l => sy_xl l fun a3 l => sy_xv l fun _ l => sy_xl l fun a5 l => sy_xv l fun _ l => sy_xi l fun a7 l => sy_xv l fun _ l => sy_xv l fun _ l => sy_xi l fun a10 l => sy_xn l (sy_xl st fun s0 l => sy_xl l fun s1 l => sy_xn l (k a1 a2 a3 a5 a7 a10 s0 s1 M))
theorem jwX12_odds_136 {d : Nat} {k : Int32 → Int32 → Int64 → Int64 → Int32 → Int32 → Int64 → Int64 → sy_M → sy_O} (hk : ∀ (w4 : Value) (w6 : Value) (w8 : Value) (w9 : Value) (a1 : Int32) (a2 : Int32) (a3 : Int64) (a5 : Int64) (a7 : Int32) (a10 : Int32) (s0 : Int64) (s1 : Int64) (M : sy_M) (r : xe_R × sy_M), k a1 a2 a3 a5 a7 a10 s0 s1 M = some r → sy_E (d) qX12_odds 136 [.ref 121, .int a1, .int a2, .long a3, w4, .long a5, w6, .int a7, w8, w9, .int a10] [.long s0, .long s1] M r) : ∀ ls st M r, juX12_odds_136 k ls st M = some r → sy_E d qX12_odds 136 ls st M r := by
  intro ls st M r h
  obtain ⟨l, e, h1⟩ := sy_xc_ok h; subst e
  obtain ⟨a1, l, e, h2⟩ := sy_xi_ok h1; subst e
  obtain ⟨a2, l, e, h3⟩ := sy_xi_ok h2; subst e
  obtain ⟨a3, l, e, h4⟩ := sy_xl_ok h3; subst e
  obtain ⟨w4, l, e, h5⟩ := sy_xv_ok h4; subst e
  obtain ⟨a5, l, e, h6⟩ := sy_xl_ok h5; subst e
  obtain ⟨w6, l, e, h7⟩ := sy_xv_ok h6; subst e
  obtain ⟨a7, l, e, h8⟩ := sy_xi_ok h7; subst e
  obtain ⟨w8, l, e, h9⟩ := sy_xv_ok h8; subst e
  obtain ⟨w9, l, e, h10⟩ := sy_xv_ok h9; subst e
  obtain ⟨a10, l, e, h11⟩ := sy_xi_ok h10; subst e
  obtain ⟨e, h12⟩ := sy_xn_ok h11; subst e
  obtain ⟨s0, l, e, h13⟩ := sy_xl_ok h12; subst e
  obtain ⟨s1, l, e, h14⟩ := sy_xl_ok h13; subst e
  obtain ⟨e, h15⟩ := sy_xn_ok h14; subst e
  exact hk _ _ _ _ a1 a2 a3 a5 a7 a10 s0 s1 M r h15
def juX12_odds_96 (k : Int32 → Int32 → Int64 → Int64 → Int32 → Int64 → Int32 → sy_M → sy_O) (ls st : List Value) (M : sy_M) : sy_O := sy_xc 121 ls fun l => sy_xi l fun a1 l => sy_xi l fun a2 l => sy_xl l fun a3 l => sy_xv l fun _ l => sy_xl l fun a5 l => sy_xv l fun _ l => sy_xi l fun a7 l => sy_xl l fun a8 l => sy_xv l fun _ l => sy_xi l fun a10 l => sy_xn l (sy_xn st (k a1 a2 a3 a5 a7 a8 a10 M))
theorem jwX12_odds_96 {d : Nat} {k : Int32 → Int32 → Int64 → Int64 → Int32 → Int64 → Int32 → sy_M → sy_O} (hk : ∀ (w4 : Value) (w6 : Value) (w9 : Value) (a1 : Int32) (a2 : Int32) (a3 : Int64) (a5 : Int64) (a7 : Int32) (a8 : Int64) (a10 : Int32) (M : sy_M) (r : xe_R × sy_M), k a1 a2 a3 a5 a7 a8 a10 M = some r → sy_E (d) qX12_odds 96 [.ref 121, .int a1, .int a2, .long a3, w4, .long a5, w6, .int a7, .long a8, w9, .int a10] [] M r) : ∀ ls st M r, juX12_odds_96 k ls st M = some r → sy_E d qX12_odds 96 ls st M r := by
  intro ls st M r h
  obtain ⟨l, e, h1⟩ := sy_xc_ok h; subst e
  obtain ⟨a1, l, e, h2⟩ := sy_xi_ok h1; subst e
  obtain ⟨a2, l, e, h3⟩ := sy_xi_ok h2; subst e
  obtain ⟨a3, l, e, h4⟩ := sy_xl_ok h3; subst e
  obtain ⟨w4, l, e, h5⟩ := sy_xv_ok h4; subst e
  obtain ⟨a5, l, e, h6⟩ := sy_xl_ok h5; subst e
  obtain ⟨w6, l, e, h7⟩ := sy_xv_ok h6; subst e
  obtain ⟨a7, l, e, h8⟩ := sy_xi_ok h7; subst e
  obtain ⟨a8, l, e, h9⟩ := sy_xl_ok h8; subst e
  obtain ⟨w9, l, e, h10⟩ := sy_xv_ok h9; subst e
  obtain ⟨a10, l, e, h11⟩ := sy_xi_ok h10; subst e
  obtain ⟨e, h12⟩ := sy_xn_ok h11; subst e
  obtain ⟨e, h13⟩ := sy_xn_ok h12; subst e
  exact hk _ _ _ a1 a2 a3 a5 a7 a8 a10 M r h13
def juX12_odds_91 (k : Int32 → Int32 → Int64 → Int64 → Int32 → Int64 → sy_M → sy_O) (ls st : List Value) (M : sy_M) : sy_O := sy_xc 121 ls fun l => sy_xi l fun a1 l => sy_xi l fun a2 l => sy_xl l fun a3 l => sy_xv l fun _ l => sy_xl l fun a5 l => sy_xv l fun _ l => sy_xi l fun a7 l => sy_xv l fun _ l => sy_xv l fun _ l => sy_xv l fun _ l => sy_xn l (sy_xl st fun s0 l => sy_xn l (k a1 a2 a3 a5 a7 s0 M))
theorem jwX12_odds_91 {d : Nat} {k : Int32 → Int32 → Int64 → Int64 → Int32 → Int64 → sy_M → sy_O} (hk : ∀ (w4 : Value) (w6 : Value) (w8 : Value) (w9 : Value) (w10 : Value) (a1 : Int32) (a2 : Int32) (a3 : Int64) (a5 : Int64) (a7 : Int32) (s0 : Int64) (M : sy_M) (r : xe_R × sy_M), k a1 a2 a3 a5 a7 s0 M = some r → sy_E (d) qX12_odds 91 [.ref 121, .int a1, .int a2, .long a3, w4, .long a5, w6, .int a7, w8, w9, w10] [.long s0] M r) : ∀ ls st M r, juX12_odds_91 k ls st M = some r → sy_E d qX12_odds 91 ls st M r := by
  intro ls st M r h
  obtain ⟨l, e, h1⟩ := sy_xc_ok h; subst e
  obtain ⟨a1, l, e, h2⟩ := sy_xi_ok h1; subst e
  obtain ⟨a2, l, e, h3⟩ := sy_xi_ok h2; subst e
  obtain ⟨a3, l, e, h4⟩ := sy_xl_ok h3; subst e
  obtain ⟨w4, l, e, h5⟩ := sy_xv_ok h4; subst e
  obtain ⟨a5, l, e, h6⟩ := sy_xl_ok h5; subst e
  obtain ⟨w6, l, e, h7⟩ := sy_xv_ok h6; subst e
  obtain ⟨a7, l, e, h8⟩ := sy_xi_ok h7; subst e
  obtain ⟨w8, l, e, h9⟩ := sy_xv_ok h8; subst e
  obtain ⟨w9, l, e, h10⟩ := sy_xv_ok h9; subst e
  obtain ⟨w10, l, e, h11⟩ := sy_xv_ok h10; subst e
  obtain ⟨e, h12⟩ := sy_xn_ok h11; subst e
  obtain ⟨s0, l, e, h13⟩ := sy_xl_ok h12; subst e
  obtain ⟨e, h14⟩ := sy_xn_ok h13; subst e
  exact hk _ _ _ _ _ a1 a2 a3 a5 a7 s0 M r h14
def juX12_odds_69 (k : Int32 → Int32 → Int64 → Int64 → Int32 → sy_M → sy_O) (ls st : List Value) (M : sy_M) : sy_O := sy_xc 121 ls fun l => sy_xi l fun a1 l => sy_xi l fun a2 l => sy_xl l fun a3 l => sy_xv l fun _ l => sy_xl l fun a5 l => sy_xv l fun _ l => sy_xi l fun a7 l => sy_xv l fun _ l => sy_xv l fun _ l => sy_xv l fun _ l => sy_xn l (sy_xn st (k a1 a2 a3 a5 a7 M))
theorem jwX12_odds_69 {d : Nat} {k : Int32 → Int32 → Int64 → Int64 → Int32 → sy_M → sy_O} (hk : ∀ (w4 : Value) (w6 : Value) (w8 : Value) (w9 : Value) (w10 : Value) (a1 : Int32) (a2 : Int32) (a3 : Int64) (a5 : Int64) (a7 : Int32) (M : sy_M) (r : xe_R × sy_M), k a1 a2 a3 a5 a7 M = some r → sy_E (d) qX12_odds 69 [.ref 121, .int a1, .int a2, .long a3, w4, .long a5, w6, .int a7, w8, w9, w10] [] M r) : ∀ ls st M r, juX12_odds_69 k ls st M = some r → sy_E d qX12_odds 69 ls st M r := by
  intro ls st M r h
  obtain ⟨l, e, h1⟩ := sy_xc_ok h; subst e
  obtain ⟨a1, l, e, h2⟩ := sy_xi_ok h1; subst e
  obtain ⟨a2, l, e, h3⟩ := sy_xi_ok h2; subst e
  obtain ⟨a3, l, e, h4⟩ := sy_xl_ok h3; subst e
  obtain ⟨w4, l, e, h5⟩ := sy_xv_ok h4; subst e
  obtain ⟨a5, l, e, h6⟩ := sy_xl_ok h5; subst e
  obtain ⟨w6, l, e, h7⟩ := sy_xv_ok h6; subst e
  obtain ⟨a7, l, e, h8⟩ := sy_xi_ok h7; subst e
  obtain ⟨w8, l, e, h9⟩ := sy_xv_ok h8; subst e
  obtain ⟨w9, l, e, h10⟩ := sy_xv_ok h9; subst e
  obtain ⟨w10, l, e, h11⟩ := sy_xv_ok h10; subst e
  obtain ⟨e, h12⟩ := sy_xn_ok h11; subst e
  obtain ⟨e, h13⟩ := sy_xn_ok h12; subst e
  exact hk _ _ _ _ _ a1 a2 a3 a5 a7 M r h13
def juX12_odds_46 (k : Int32 → Int32 → Int64 → Int64 → Int32 → sy_M → sy_O) (ls st : List Value) (M : sy_M) : sy_O := sy_xc 121 ls fun l => sy_xi l fun a1 l => sy_xi l fun a2 l => sy_xl l fun a3 l => sy_xv l fun _ l => sy_xl l fun a5 l => sy_xv l fun _ l => sy_xi l fun a7 l => sy_xv l fun _ l => sy_xv l fun _ l => sy_xv l fun _ l => sy_xn l (sy_xn st (k a1 a2 a3 a5 a7 M))
theorem jwX12_odds_46 {d : Nat} {k : Int32 → Int32 → Int64 → Int64 → Int32 → sy_M → sy_O} (hk : ∀ (w4 : Value) (w6 : Value) (w8 : Value) (w9 : Value) (w10 : Value) (a1 : Int32) (a2 : Int32) (a3 : Int64) (a5 : Int64) (a7 : Int32) (M : sy_M) (r : xe_R × sy_M), k a1 a2 a3 a5 a7 M = some r → sy_E (d) qX12_odds 46 [.ref 121, .int a1, .int a2, .long a3, w4, .long a5, w6, .int a7, w8, w9, w10] [] M r) : ∀ ls st M r, juX12_odds_46 k ls st M = some r → sy_E d qX12_odds 46 ls st M r := by
  intro ls st M r h
  obtain ⟨l, e, h1⟩ := sy_xc_ok h; subst e
  obtain ⟨a1, l, e, h2⟩ := sy_xi_ok h1; subst e
  obtain ⟨a2, l, e, h3⟩ := sy_xi_ok h2; subst e
  obtain ⟨a3, l, e, h4⟩ := sy_xl_ok h3; subst e
  obtain ⟨w4, l, e, h5⟩ := sy_xv_ok h4; subst e
  obtain ⟨a5, l, e, h6⟩ := sy_xl_ok h5; subst e
  obtain ⟨w6, l, e, h7⟩ := sy_xv_ok h6; subst e
  obtain ⟨a7, l, e, h8⟩ := sy_xi_ok h7; subst e
  obtain ⟨w8, l, e, h9⟩ := sy_xv_ok h8; subst e
  obtain ⟨w9, l, e, h10⟩ := sy_xv_ok h9; subst e
  obtain ⟨w10, l, e, h11⟩ := sy_xv_ok h10; subst e
  obtain ⟨e, h12⟩ := sy_xn_ok h11; subst e
  obtain ⟨e, h13⟩ := sy_xn_ok h12; subst e
  exact hk _ _ _ _ _ a1 a2 a3 a5 a7 M r h13
def juX12_odds_26 (k : Int32 → Int32 → Int32 → sy_M → sy_O) (ls st : List Value) (M : sy_M) : sy_O := sy_xc 121 ls fun l => sy_xi l fun a1 l => sy_xi l fun a2 l => sy_xv l fun _ l => sy_xv l fun _ l => sy_xv l fun _ l => sy_xv l fun _ l => sy_xv l fun _ l => sy_xv l fun _ l => sy_xv l fun _ l => sy_xv l fun _ l => sy_xn l (sy_xi st fun s0 l => sy_xc 121 l fun l => sy_xn l (k a1 a2 s0 M))
theorem jwX12_odds_26 {d : Nat} {k : Int32 → Int32 → Int32 → sy_M → sy_O} (hk : ∀ (w3 : Value) (w4 : Value) (w5 : Value) (w6 : Value) (w7 : Value) (w8 : Value) (w9 : Value) (w10 : Value) (a1 : Int32) (a2 : Int32) (s0 : Int32) (M : sy_M) (r : xe_R × sy_M), k a1 a2 s0 M = some r → sy_E (d) qX12_odds 26 [.ref 121, .int a1, .int a2, w3, w4, w5, w6, w7, w8, w9, w10] [.int s0, .ref 121] M r) : ∀ ls st M r, juX12_odds_26 k ls st M = some r → sy_E d qX12_odds 26 ls st M r := by
  intro ls st M r h
  obtain ⟨l, e, h1⟩ := sy_xc_ok h; subst e
  obtain ⟨a1, l, e, h2⟩ := sy_xi_ok h1; subst e
  obtain ⟨a2, l, e, h3⟩ := sy_xi_ok h2; subst e
  obtain ⟨w3, l, e, h4⟩ := sy_xv_ok h3; subst e
  obtain ⟨w4, l, e, h5⟩ := sy_xv_ok h4; subst e
  obtain ⟨w5, l, e, h6⟩ := sy_xv_ok h5; subst e
  obtain ⟨w6, l, e, h7⟩ := sy_xv_ok h6; subst e
  obtain ⟨w7, l, e, h8⟩ := sy_xv_ok h7; subst e
  obtain ⟨w8, l, e, h9⟩ := sy_xv_ok h8; subst e
  obtain ⟨w9, l, e, h10⟩ := sy_xv_ok h9; subst e
  obtain ⟨w10, l, e, h11⟩ := sy_xv_ok h10; subst e
  obtain ⟨e, h12⟩ := sy_xn_ok h11; subst e
  obtain ⟨s0, l, e, h13⟩ := sy_xi_ok h12; subst e
  obtain ⟨l, e, h14⟩ := sy_xc_ok h13; subst e
  obtain ⟨e, h15⟩ := sy_xn_ok h14; subst e
  exact hk _ _ _ _ _ _ _ _ a1 a2 s0 M r h15
def juX12_odds_21 (k : Int32 → Int32 → sy_M → sy_O) (ls st : List Value) (M : sy_M) : sy_O := sy_xc 121 ls fun l => sy_xi l fun a1 l => sy_xi l fun a2 l => sy_xv l fun _ l => sy_xv l fun _ l => sy_xv l fun _ l => sy_xv l fun _ l => sy_xv l fun _ l => sy_xv l fun _ l => sy_xv l fun _ l => sy_xv l fun _ l => sy_xn l (sy_xc 121 st fun l => sy_xn l (k a1 a2 M))
theorem jwX12_odds_21 {d : Nat} {k : Int32 → Int32 → sy_M → sy_O} (hk : ∀ (w3 : Value) (w4 : Value) (w5 : Value) (w6 : Value) (w7 : Value) (w8 : Value) (w9 : Value) (w10 : Value) (a1 : Int32) (a2 : Int32) (M : sy_M) (r : xe_R × sy_M), k a1 a2 M = some r → sy_E (d) qX12_odds 21 [.ref 121, .int a1, .int a2, w3, w4, w5, w6, w7, w8, w9, w10] [.ref 121] M r) : ∀ ls st M r, juX12_odds_21 k ls st M = some r → sy_E d qX12_odds 21 ls st M r := by
  intro ls st M r h
  obtain ⟨l, e, h1⟩ := sy_xc_ok h; subst e
  obtain ⟨a1, l, e, h2⟩ := sy_xi_ok h1; subst e
  obtain ⟨a2, l, e, h3⟩ := sy_xi_ok h2; subst e
  obtain ⟨w3, l, e, h4⟩ := sy_xv_ok h3; subst e
  obtain ⟨w4, l, e, h5⟩ := sy_xv_ok h4; subst e
  obtain ⟨w5, l, e, h6⟩ := sy_xv_ok h5; subst e
  obtain ⟨w6, l, e, h7⟩ := sy_xv_ok h6; subst e
  obtain ⟨w7, l, e, h8⟩ := sy_xv_ok h7; subst e
  obtain ⟨w8, l, e, h9⟩ := sy_xv_ok h8; subst e
  obtain ⟨w9, l, e, h10⟩ := sy_xv_ok h9; subst e
  obtain ⟨w10, l, e, h11⟩ := sy_xv_ok h10; subst e
  obtain ⟨e, h12⟩ := sy_xn_ok h11; subst e
  obtain ⟨l, e, h13⟩ := sy_xc_ok h12; subst e
  obtain ⟨e, h14⟩ := sy_xn_ok h13; subst e
  exact hk _ _ _ _ _ _ _ _ a1 a2 M r h14
def jfX12_odds_136 (k69 : Int32 → Int32 → Int64 → Int64 → Int32 → sy_M → sy_O) (k96 : Int32 → Int32 → Int64 → Int64 → Int32 → Int64 → Int32 → sy_M → sy_O) (a1 : Int32) (a2 : Int32) (a3 : Int64) (a5 : Int64) (a7 : Int32) (a10 : Int32) (s0 : Int64) (s1 : Int64) (M : sy_M) : sy_O :=
  let v1 := (s1 * s0)
  let v2 := a10 + 1
  k96 a1 a2 a3 a5 a7 v1 v2 M
set_option maxRecDepth 100000 in
theorem jrX12_odds_136 (k69 : Int32 → Int32 → Int64 → Int64 → Int32 → sy_M → sy_O) (k96 : Int32 → Int32 → Int64 → Int64 → Int32 → Int64 → Int32 → sy_M → sy_O) (w4 : Value) (w6 : Value) (w8 : Value) (w9 : Value) (a1 : Int32) (a2 : Int32) (a3 : Int64) (a5 : Int64) (a7 : Int32) (a10 : Int32) (s0 : Int64) (s1 : Int64) (M : sy_M) : sy_run skX12 qX12_odds [(136, .lmul, 1, [true, true, true, true, false, true, false, true, false, false, true]), (137, .lstore 8, 2, []), (139, .iinc 10 1, 3, []), (142, .goto (-46), 3, [])] [] [(96, juX12_odds_96 k96)] 5 [] 136 [.ref 121, .int a1, .int a2, .long a3, w4, .long a5, w6, .int a7, w8, w9, .int a10] [.long s0, .long s1] M = jfX12_odds_136 k69 k96 a1 a2 a3 a5 a7 a10 s0 s1 M := rfl
theorem jtX12_odds_136 {k69 : Int32 → Int32 → Int64 → Int64 → Int32 → sy_M → sy_O} (hk69 : ∀ (w4 : Value) (w6 : Value) (w8 : Value) (w9 : Value) (w10 : Value) (a1 : Int32) (a2 : Int32) (a3 : Int64) (a5 : Int64) (a7 : Int32) (M : sy_M) (r : xe_R × sy_M), k69 a1 a2 a3 a5 a7 M = some r → sy_E (2) qX12_odds 69 [.ref 121, .int a1, .int a2, .long a3, w4, .long a5, w6, .int a7, w8, w9, w10] [] M r) {k96 : Int32 → Int32 → Int64 → Int64 → Int32 → Int64 → Int32 → sy_M → sy_O} (hk96 : ∀ (w4 : Value) (w6 : Value) (w9 : Value) (a1 : Int32) (a2 : Int32) (a3 : Int64) (a5 : Int64) (a7 : Int32) (a8 : Int64) (a10 : Int32) (M : sy_M) (r : xe_R × sy_M), k96 a1 a2 a3 a5 a7 a8 a10 M = some r → sy_E (2) qX12_odds 96 [.ref 121, .int a1, .int a2, .long a3, w4, .long a5, w6, .int a7, .long a8, w9, .int a10] [] M r) : ∀ (w4 : Value) (w6 : Value) (w8 : Value) (w9 : Value) (a1 : Int32) (a2 : Int32) (a3 : Int64) (a5 : Int64) (a7 : Int32) (a10 : Int32) (s0 : Int64) (s1 : Int64) (M : sy_M) (r : xe_R × sy_M), jfX12_odds_136 k69 k96 a1 a2 a3 a5 a7 a10 s0 s1 M = some r → sy_E (2) qX12_odds 136 [.ref 121, .int a1, .int a2, .long a3, w4, .long a5, w6, .int a7, w8, w9, .int a10] [.long s0, .long s1] M r := by
  intro w4 w6 w8 w9 a1 a2 a3 a5 a7 a10 s0 s1 M r h
  exact sy_run_by (d := 1) ((jrX12_odds_136 _ _ _ _ _ _ _ _ _ _ _ _ _ _ M).trans h) hkX12 (by decide +kernel) sy_cs_nil (sy_us_cons (jwX12_odds_96 hk96) sy_us_nil)
def jgX12_odds_96 (k69 : Int32 → Int32 → Int64 → Int64 → Int32 → sy_M → sy_O) (k96 : Int32 → Int32 → Int64 → Int64 → Int32 → Int64 → Int32 → sy_M → sy_O) (a1 : Int32) (a2 : Int32) (a3 : Int64) (a5 : Int64) (a7 : Int32) (a8 : Int64) (a10 : Int32) (M : sy_M) : sy_O :=
  if a10 < a1 then
    sy_bi (jfX12_isOf a7 a10 M) fun v4 M3 =>
    if v4 = 0 then
      jfX12_odds_136 k69 k96 a1 a2 a3 a5 a7 a10 (Int32.toInt64 (100 - (M3 122 9))) a8 M3
    else
      jfX12_odds_136 k69 k96 a1 a2 a3 a5 a7 a10 (Int32.toInt64 (M3 122 9)) a8 M3
  else
    let v1 := (a3 + a8)
    let v2 := a7 + 1
    k69 a1 a2 v1 a5 v2 M
def jfX12_odds_96 (k69 : Int32 → Int32 → Int64 → Int64 → Int32 → sy_M → sy_O) : Nat → Int32 → Int32 → Int64 → Int64 → Int32 → Int64 → Int32 → sy_M → sy_O
  | 0, _, _, _, _, _, _, _, _ => none
  | n + 1, a1, a2, a3, a5, a7, a8, a10, M => jgX12_odds_96 k69 (jfX12_odds_96 k69 n) a1 a2 a3 a5 a7 a8 a10 M
set_option maxRecDepth 100000 in
theorem jrX12_odds_96 (k69 : Int32 → Int32 → Int64 → Int64 → Int32 → sy_M → sy_O) (k96 : Int32 → Int32 → Int64 → Int64 → Int32 → Int64 → Int32 → sy_M → sy_O) (w4 : Value) (w6 : Value) (w9 : Value) (a1 : Int32) (a2 : Int32) (a3 : Int64) (a5 : Int64) (a7 : Int32) (a8 : Int64) (a10 : Int32) (M : sy_M) : sy_run skX12 qX12_odds [(96, .iload 10, 2, [true, true, true, true, false, true, false, true, true, false, true]), (98, .iload_n 1, 1, []), (99, .if_icmp .ge 46, 3, []), (102, .lload 8, 2, []), (104, .iload 7, 2, []), (106, .iload 10, 2, []), (108, .invokestatic 60, 3, []), (111, .ifCond .eq 14, 3, []), (114, .aload_n 0, 1, []), (115, .getfield 7, 3, []), (118, .bipush 9, 2, []), (120, .iaload, 1, []), (121, .i2l, 1, []), (122, .goto 14, 3, []), (125, .bipush 100, 2, [true, true, true, true, false, true, false, true, false, false, true]), (127, .aload_n 0, 1, []), (128, .getfield 7, 3, []), (131, .bipush 9, 2, []), (133, .iaload, 1, []), (134, .isub, 1, []), (135, .i2l, 1, []), (145, .lload_n 3, 1, [true, true, true, true, false, true, false, true, true, false, false]), (146, .lload 8, 2, []), (148, .ladd, 1, []), (149, .lstore_n 3, 1, []), (150, .iinc 7 1, 3, []), (153, .goto (-84), 3, [])] [(185, 0, jcX12_isOf)] [(69, juX12_odds_69 k69), (136, juX12_odds_136 (jfX12_odds_136 k69 k96))] 28 [] 96 [.ref 121, .int a1, .int a2, .long a3, w4, .long a5, w6, .int a7, .long a8, w9, .int a10] [] M = jgX12_odds_96 k69 k96 a1 a2 a3 a5 a7 a8 a10 M := rfl
theorem jtX12_odds_96 {k69 : Int32 → Int32 → Int64 → Int64 → Int32 → sy_M → sy_O} (hk69 : ∀ (w4 : Value) (w6 : Value) (w8 : Value) (w9 : Value) (w10 : Value) (a1 : Int32) (a2 : Int32) (a3 : Int64) (a5 : Int64) (a7 : Int32) (M : sy_M) (r : xe_R × sy_M), k69 a1 a2 a3 a5 a7 M = some r → sy_E (2) qX12_odds 69 [.ref 121, .int a1, .int a2, .long a3, w4, .long a5, w6, .int a7, w8, w9, w10] [] M r) : ∀ n : Nat, ∀ (w4 : Value) (w6 : Value) (w9 : Value) (a1 : Int32) (a2 : Int32) (a3 : Int64) (a5 : Int64) (a7 : Int32) (a8 : Int64) (a10 : Int32) (M : sy_M) (r : xe_R × sy_M), jfX12_odds_96 k69 n a1 a2 a3 a5 a7 a8 a10 M = some r → sy_E (2) qX12_odds 96 [.ref 121, .int a1, .int a2, .long a3, w4, .long a5, w6, .int a7, .long a8, w9, .int a10] [] M r := by
  intro n
  induction n with
  | zero => intro w4 w6 w9 a1 a2 a3 a5 a7 a8 a10 M r h; exact absurd (show (none : sy_O) = some r from h) (by simp)
  | succ n ih => intro w4 w6 w9 a1 a2 a3 a5 a7 a8 a10 M r h; exact sy_run_by (d := 1) ((jrX12_odds_96 _ _ _ _ _ _ _ _ _ _ _ _ M).trans h) hkX12 (by decide +kernel) (sy_cs_cons (jeX12_isOf.deep (by decide)) sy_cs_nil) (sy_us_cons (jwX12_odds_69 hk69) (sy_us_cons (jwX12_odds_136 (jtX12_odds_136 hk69 ih)) sy_us_nil))
def jfX12_odds_91 (k69 : Int32 → Int32 → Int64 → Int64 → Int32 → sy_M → sy_O) (a1 : Int32) (a2 : Int32) (a3 : Int64) (a5 : Int64) (a7 : Int32) (s0 : Int64) (M : sy_M) : sy_O :=
  jfX12_odds_96 k69 sy_F a1 a2 a3 a5 a7 s0 0 M
set_option maxRecDepth 100000 in
theorem jrX12_odds_91 (k69 : Int32 → Int32 → Int64 → Int64 → Int32 → sy_M → sy_O) (w4 : Value) (w6 : Value) (w8 : Value) (w9 : Value) (w10 : Value) (a1 : Int32) (a2 : Int32) (a3 : Int64) (a5 : Int64) (a7 : Int32) (s0 : Int64) (M : sy_M) : sy_run skX12 qX12_odds [(91, .lstore 8, 2, [true, true, true, true, false, true, false, true, false, false, false]), (93, .iconst 0, 1, []), (94, .istore 10, 2, [])] [] [(96, juX12_odds_96 (jfX12_odds_96 k69 sy_F))] 4 [] 91 [.ref 121, .int a1, .int a2, .long a3, w4, .long a5, w6, .int a7, w8, w9, w10] [.long s0] M = jfX12_odds_91 k69 a1 a2 a3 a5 a7 s0 M := rfl
theorem jtX12_odds_91 {k69 : Int32 → Int32 → Int64 → Int64 → Int32 → sy_M → sy_O} (hk69 : ∀ (w4 : Value) (w6 : Value) (w8 : Value) (w9 : Value) (w10 : Value) (a1 : Int32) (a2 : Int32) (a3 : Int64) (a5 : Int64) (a7 : Int32) (M : sy_M) (r : xe_R × sy_M), k69 a1 a2 a3 a5 a7 M = some r → sy_E (2) qX12_odds 69 [.ref 121, .int a1, .int a2, .long a3, w4, .long a5, w6, .int a7, w8, w9, w10] [] M r) : ∀ (w4 : Value) (w6 : Value) (w8 : Value) (w9 : Value) (w10 : Value) (a1 : Int32) (a2 : Int32) (a3 : Int64) (a5 : Int64) (a7 : Int32) (s0 : Int64) (M : sy_M) (r : xe_R × sy_M), jfX12_odds_91 k69 a1 a2 a3 a5 a7 s0 M = some r → sy_E (2) qX12_odds 91 [.ref 121, .int a1, .int a2, .long a3, w4, .long a5, w6, .int a7, w8, w9, w10] [.long s0] M r := by
  intro w4 w6 w8 w9 w10 a1 a2 a3 a5 a7 s0 M r h
  exact sy_run_by (d := 1) ((jrX12_odds_91 _ _ _ _ _ _ _ _ _ _ _ _ M).trans h) hkX12 (by decide +kernel) sy_cs_nil (sy_us_cons (jwX12_odds_96 (jtX12_odds_96 hk69 sy_F)) sy_us_nil)
def jgX12_odds_69 (k69 : Int32 → Int32 → Int64 → Int64 → Int32 → sy_M → sy_O) (a1 : Int32) (a2 : Int32) (a3 : Int64) (a5 : Int64) (a7 : Int32) (M : sy_M) : sy_O :=
  if a7 < (1 <<< (a1 &&& 31)) then
    sy_bi (jfX12_bits a7 M) fun v2 M1 =>
    if v2 < a2 then
      jfX12_odds_91 k69 a1 a2 a3 a5 a7 (Int64.ofNat 0) M1
    else
      jfX12_odds_91 k69 a1 a2 a3 a5 a7 (Int64.ofNat 1) M1
  else
    if a5 = 0 then none else
    sy_ri (Int64.toInt32 (((Int64.ofInt 10000) * a3) / a5)) M
def jfX12_odds_69 : Nat → Int32 → Int32 → Int64 → Int64 → Int32 → sy_M → sy_O
  | 0, _, _, _, _, _, _ => none
  | n + 1, a1, a2, a3, a5, a7, M => jgX12_odds_69 (jfX12_odds_69 n) a1 a2 a3 a5 a7 M
set_option maxRecDepth 100000 in
theorem jrX12_odds_69 (k69 : Int32 → Int32 → Int64 → Int64 → Int32 → sy_M → sy_O) (w4 : Value) (w6 : Value) (w8 : Value) (w9 : Value) (w10 : Value) (a1 : Int32) (a2 : Int32) (a3 : Int64) (a5 : Int64) (a7 : Int32) (M : sy_M) : sy_run skX12 qX12_odds [(69, .iload 7, 2, [true, true, true, true, false, true, false, true, false, false, false]), (71, .iconst 1, 1, []), (72, .iload_n 1, 1, []), (73, .ishl, 1, []), (74, .if_icmp .ge 82, 3, []), (77, .iload 7, 2, []), (79, .invokestatic 358, 3, []), (82, .iload_n 2, 1, []), (83, .if_icmp .ge 7, 3, []), (86, .lconst 0, 1, []), (87, .goto 4, 3, []), (90, .lconst 1, 1, [true, true, true, true, false, true, false, true, false, false, false]), (156, .ldc2_w 391, 3, [false, false, false, true, false, true, false, false, false, false, false]), (159, .lload_n 3, 1, []), (160, .lmul, 1, []), (161, .lload 5, 2, []), (163, .ldiv, 1, []), (164, .l2i, 1, []), (165, .ireturn, 1, [])] [(186, 0, jcX12_bits)] [(91, juX12_odds_91 (jfX12_odds_91 k69))] 20 [] 69 [.ref 121, .int a1, .int a2, .long a3, w4, .long a5, w6, .int a7, w8, w9, w10] [] M = jgX12_odds_69 k69 a1 a2 a3 a5 a7 M := rfl
theorem jtX12_odds_69 : ∀ n : Nat, ∀ (w4 : Value) (w6 : Value) (w8 : Value) (w9 : Value) (w10 : Value) (a1 : Int32) (a2 : Int32) (a3 : Int64) (a5 : Int64) (a7 : Int32) (M : sy_M) (r : xe_R × sy_M), jfX12_odds_69 n a1 a2 a3 a5 a7 M = some r → sy_E (2) qX12_odds 69 [.ref 121, .int a1, .int a2, .long a3, w4, .long a5, w6, .int a7, w8, w9, w10] [] M r := by
  intro n
  induction n with
  | zero => intro w4 w6 w8 w9 w10 a1 a2 a3 a5 a7 M r h; exact absurd (show (none : sy_O) = some r from h) (by simp)
  | succ n ih => intro w4 w6 w8 w9 w10 a1 a2 a3 a5 a7 M r h; exact sy_run_by (d := 1) ((jrX12_odds_69 _ _ _ _ _ _ _ _ _ _ _ M).trans h) hkX12 (by decide +kernel) (sy_cs_cons (jeX12_bits.deep (by decide)) sy_cs_nil) (sy_us_cons (jwX12_odds_91 (jtX12_odds_91 ih)) sy_us_nil)
def jgX12_odds_46 (k46 : Int32 → Int32 → Int64 → Int64 → Int32 → sy_M → sy_O) (a1 : Int32) (a2 : Int32) (a3 : Int64) (a5 : Int64) (a7 : Int32) (M : sy_M) : sy_O :=
  if a7 < a1 then
    let v1 := (a5 * (Int64.ofInt 100))
    let v2 := a7 + 1
    k46 a1 a2 a3 v1 v2 M
  else
    jfX12_odds_69 sy_F a1 a2 a3 a5 0 M
def jfX12_odds_46 : Nat → Int32 → Int32 → Int64 → Int64 → Int32 → sy_M → sy_O
  | 0, _, _, _, _, _, _ => none
  | n + 1, a1, a2, a3, a5, a7, M => jgX12_odds_46 (jfX12_odds_46 n) a1 a2 a3 a5 a7 M
set_option maxRecDepth 100000 in
theorem jrX12_odds_46 (k46 : Int32 → Int32 → Int64 → Int64 → Int32 → sy_M → sy_O) (w4 : Value) (w6 : Value) (w8 : Value) (w9 : Value) (w10 : Value) (a1 : Int32) (a2 : Int32) (a3 : Int64) (a5 : Int64) (a7 : Int32) (M : sy_M) : sy_run skX12 qX12_odds [(46, .iload 7, 2, [true, true, true, true, false, true, false, true, false, false, false]), (48, .iload_n 1, 1, []), (49, .if_icmp .ge 17, 3, []), (52, .lload 5, 2, []), (54, .ldc2_w 389, 3, []), (57, .lmul, 1, []), (58, .lstore 5, 2, []), (60, .iinc 7 1, 3, []), (63, .goto (-17), 3, []), (66, .iconst 0, 1, [true, true, true, true, false, true, false, false, false, false, false]), (67, .istore 7, 2, [])] [] [(69, juX12_odds_69 (jfX12_odds_69 sy_F)), (46, juX12_odds_46 k46)] 12 [] 46 [.ref 121, .int a1, .int a2, .long a3, w4, .long a5, w6, .int a7, w8, w9, w10] [] M = jgX12_odds_46 k46 a1 a2 a3 a5 a7 M := rfl
theorem jtX12_odds_46 : ∀ n : Nat, ∀ (w4 : Value) (w6 : Value) (w8 : Value) (w9 : Value) (w10 : Value) (a1 : Int32) (a2 : Int32) (a3 : Int64) (a5 : Int64) (a7 : Int32) (M : sy_M) (r : xe_R × sy_M), jfX12_odds_46 n a1 a2 a3 a5 a7 M = some r → sy_E (2) qX12_odds 46 [.ref 121, .int a1, .int a2, .long a3, w4, .long a5, w6, .int a7, w8, w9, w10] [] M r := by
  intro n
  induction n with
  | zero => intro w4 w6 w8 w9 w10 a1 a2 a3 a5 a7 M r h; exact absurd (show (none : sy_O) = some r from h) (by simp)
  | succ n ih => intro w4 w6 w8 w9 w10 a1 a2 a3 a5 a7 M r h; exact sy_run_by (d := 1) ((jrX12_odds_46 _ _ _ _ _ _ _ _ _ _ _ M).trans h) hkX12 (by decide +kernel) sy_cs_nil (sy_us_cons (jwX12_odds_69 (jtX12_odds_69 sy_F)) (sy_us_cons (jwX12_odds_46 ih) sy_us_nil))
def jfX12_odds_26 (a1 : Int32) (a2 : Int32) (s0 : Int32) (M : sy_M) : sy_O :=
  let M1 := sy_upd M 121 0 s0
  if 0 < (M1 121 0) then
    sy_ri 0 M1
  else
    let v2 := (Int64.ofNat 0)
    let v3 := (Int64.ofNat 1)
    jfX12_odds_46 sy_F a1 a2 v2 v3 0 M1
set_option maxRecDepth 100000 in
theorem jrX12_odds_26 (w3 : Value) (w4 : Value) (w5 : Value) (w6 : Value) (w7 : Value) (w8 : Value) (w9 : Value) (w10 : Value) (a1 : Int32) (a2 : Int32) (s0 : Int32) (M : sy_M) : sy_run skX12 qX12_odds [(26, .putfield 45, 3, [true, true, true, false, false, false, false, false, false, false, false]), (29, .aload_n 0, 1, []), (30, .getfield 45, 3, []), (33, .ifCond .le 5, 3, []), (36, .iconst 0, 1, []), (37, .ireturn, 1, []), (38, .lconst 0, 1, [true, true, true, false, false, false, false, false, false, false, false]), (39, .lstore_n 3, 1, []), (40, .lconst 1, 1, []), (41, .lstore 5, 2, []), (43, .iconst 0, 1, []), (44, .istore 7, 2, [])] [] [(46, juX12_odds_46 (jfX12_odds_46 sy_F))] 13 [] 26 [.ref 121, .int a1, .int a2, w3, w4, w5, w6, w7, w8, w9, w10] [.int s0, .ref 121] M = jfX12_odds_26 a1 a2 s0 M := rfl
theorem jtX12_odds_26 : ∀ (w3 : Value) (w4 : Value) (w5 : Value) (w6 : Value) (w7 : Value) (w8 : Value) (w9 : Value) (w10 : Value) (a1 : Int32) (a2 : Int32) (s0 : Int32) (M : sy_M) (r : xe_R × sy_M), jfX12_odds_26 a1 a2 s0 M = some r → sy_E (2) qX12_odds 26 [.ref 121, .int a1, .int a2, w3, w4, w5, w6, w7, w8, w9, w10] [.int s0, .ref 121] M r := by
  intro w3 w4 w5 w6 w7 w8 w9 w10 a1 a2 s0 M r h
  exact sy_run_by (d := 1) ((jrX12_odds_26 _ _ _ _ _ _ _ _ _ _ _ M).trans h) hkX12 (by decide +kernel) sy_cs_nil (sy_us_cons (jwX12_odds_46 (jtX12_odds_46 sy_F)) sy_us_nil)
def jfX12_odds_21 (a1 : Int32) (a2 : Int32) (M : sy_M) : sy_O :=
  jfX12_odds_26 a1 a2 1 M
set_option maxRecDepth 100000 in
theorem jrX12_odds_21 (w3 : Value) (w4 : Value) (w5 : Value) (w6 : Value) (w7 : Value) (w8 : Value) (w9 : Value) (w10 : Value) (a1 : Int32) (a2 : Int32) (M : sy_M) : sy_run skX12 qX12_odds [(21, .iconst 1, 1, [true, true, true, false, false, false, false, false, false, false, false]), (22, .goto 4, 3, [])] [] [(26, juX12_odds_26 (jfX12_odds_26))] 3 [] 21 [.ref 121, .int a1, .int a2, w3, w4, w5, w6, w7, w8, w9, w10] [.ref 121] M = jfX12_odds_21 a1 a2 M := rfl
theorem jtX12_odds_21 : ∀ (w3 : Value) (w4 : Value) (w5 : Value) (w6 : Value) (w7 : Value) (w8 : Value) (w9 : Value) (w10 : Value) (a1 : Int32) (a2 : Int32) (M : sy_M) (r : xe_R × sy_M), jfX12_odds_21 a1 a2 M = some r → sy_E (2) qX12_odds 21 [.ref 121, .int a1, .int a2, w3, w4, w5, w6, w7, w8, w9, w10] [.ref 121] M r := by
  intro w3 w4 w5 w6 w7 w8 w9 w10 a1 a2 M r h
  exact sy_run_by (d := 1) ((jrX12_odds_21 _ _ _ _ _ _ _ _ _ _ M).trans h) hkX12 (by decide +kernel) sy_cs_nil (sy_us_cons (jwX12_odds_26 (jtX12_odds_26)) sy_us_nil)
def jfX12_odds (a1 : Int32) (a2 : Int32) (M : sy_M) : sy_O :=
  sy_bi (jfX12_isIn a1 0 6 M) fun v2 M1 =>
  if v2 = 0 then
    jfX12_odds_21 a1 a2 M1
  else
    sy_bi (jfX12_isIn a2 0 6 M1) fun v4 M3 =>
    if v4 = 0 then
      jfX12_odds_21 a1 a2 M3
    else
      jfX12_odds_26 a1 a2 0 M3
set_option maxRecDepth 100000 in
theorem jrX12_odds (a1 : Int32) (a2 : Int32) (M : sy_M) : sy_run skX12 qX12_odds [(0, .aload_n 0, 1, []), (1, .iload_n 1, 1, []), (2, .iconst 0, 1, []), (3, .bipush 6, 2, []), (5, .invokestatic 48, 3, []), (8, .ifCond .eq 13, 3, []), (11, .iload_n 2, 1, []), (12, .iconst 0, 1, []), (13, .bipush 6, 2, []), (15, .invokestatic 48, 3, []), (18, .ifCond .ne 7, 3, []), (25, .iconst 0, 1, [true, true, true, false, false, false, false, false, false, false, false])] [(182, 0, jcX12_isIn)] [(21, juX12_odds_21 (jfX12_odds_21)), (26, juX12_odds_26 (jfX12_odds_26))] 13 [] 0 [.ref 121, .int a1, .int a2, xe_no, xe_no, xe_no, xe_no, xe_no, xe_no, xe_no, xe_no] [] M = jfX12_odds a1 a2 M := rfl
theorem jtX12_odds : ∀ (a1 : Int32) (a2 : Int32) (M : sy_M) (r : xe_R × sy_M), jfX12_odds a1 a2 M = some r → sy_E (2) qX12_odds 0 [.ref 121, .int a1, .int a2, xe_no, xe_no, xe_no, xe_no, xe_no, xe_no, xe_no, xe_no] [] M r := by
  intro a1 a2 M r h
  exact sy_run_by (d := 1) ((jrX12_odds _ _ M).trans h) hkX12 (by decide +kernel) (sy_cs_cons (jeX12_isIn.deep (by decide)) sy_cs_nil) (sy_us_cons (jwX12_odds_21 (jtX12_odds_21)) (sy_us_cons (jwX12_odds_26 (jtX12_odds_26)) sy_us_nil))
def jcX12_odds (as : List Value) (M : sy_M) (K : sy_O → sy_O) : sy_O := sy_xc 121 as fun l => sy_xi l fun a1 l => sy_xi l fun a2 l => sy_xn l (K (jfX12_odds a1 a2 M))
theorem jeX12_odds : sy_snd (2) 306 (jcX12_odds) := by
  intro as M K r h
  obtain ⟨l, e, h1⟩ := sy_xc_ok h; subst e
  obtain ⟨a1, l, e, h2⟩ := sy_xi_ok h1; subst e
  obtain ⟨a2, l, e, h3⟩ := sy_xi_ok h2; subst e
  obtain ⟨e, h4⟩ := sy_xn_ok h3; subst e
  exact ⟨_, h4, fun r1 h0 => ⟨qX12_odds, rfl, rfl, jtX12_odds _ _ M r1 h0⟩⟩
/-! X11_busy StairMeter busy ()I [('R', 0)] -/
def juX11_busy_42 (k : Int32 → Int32 → sy_M → sy_O) (ls st : List Value) (M : sy_M) : sy_O := sy_xc 0 ls fun l => sy_xi l fun a1 l => sy_xi l fun a2 l => sy_xn l (sy_xn st (k a1 a2 M))
theorem jwX11_busy_42 {d : Nat} {k : Int32 → Int32 → sy_M → sy_O} (hk : ∀ (a1 : Int32) (a2 : Int32) (M : sy_M) (r : xe_R × sy_M), k a1 a2 M = some r → sy_E (d) qX11_busy 42 [.ref 0, .int a1, .int a2] [] M r) : ∀ ls st M r, juX11_busy_42 k ls st M = some r → sy_E d qX11_busy 42 ls st M r := by
  intro ls st M r h
  obtain ⟨l, e, h1⟩ := sy_xc_ok h; subst e
  obtain ⟨a1, l, e, h2⟩ := sy_xi_ok h1; subst e
  obtain ⟨a2, l, e, h3⟩ := sy_xi_ok h2; subst e
  obtain ⟨e, h4⟩ := sy_xn_ok h3; subst e
  obtain ⟨e, h5⟩ := sy_xn_ok h4; subst e
  exact hk a1 a2 M r h5
def juX11_busy_15 (k : Int32 → Int32 → sy_M → sy_O) (ls st : List Value) (M : sy_M) : sy_O := sy_xc 0 ls fun l => sy_xi l fun a1 l => sy_xi l fun a2 l => sy_xn l (sy_xn st (k a1 a2 M))
theorem jwX11_busy_15 {d : Nat} {k : Int32 → Int32 → sy_M → sy_O} (hk : ∀ (a1 : Int32) (a2 : Int32) (M : sy_M) (r : xe_R × sy_M), k a1 a2 M = some r → sy_E (d) qX11_busy 15 [.ref 0, .int a1, .int a2] [] M r) : ∀ ls st M r, juX11_busy_15 k ls st M = some r → sy_E d qX11_busy 15 ls st M r := by
  intro ls st M r h
  obtain ⟨l, e, h1⟩ := sy_xc_ok h; subst e
  obtain ⟨a1, l, e, h2⟩ := sy_xi_ok h1; subst e
  obtain ⟨a2, l, e, h3⟩ := sy_xi_ok h2; subst e
  obtain ⟨e, h4⟩ := sy_xn_ok h3; subst e
  obtain ⟨e, h5⟩ := sy_xn_ok h4; subst e
  exact hk a1 a2 M r h5
def jfX11_busy_42 (k15 : Int32 → Int32 → sy_M → sy_O) (a1 : Int32) (a2 : Int32) (M : sy_M) : sy_O :=
  let v1 := a2 + 1
  k15 a1 v1 M
set_option maxRecDepth 100000 in
theorem jrX11_busy_42 (k15 : Int32 → Int32 → sy_M → sy_O) (a1 : Int32) (a2 : Int32) (M : sy_M) : sy_run skX11 qX11_busy [(42, .iinc 2 1, 3, []), (45, .goto (-30), 3, [])] [] [(15, juX11_busy_15 k15)] 3 [] 42 [.ref 0, .int a1, .int a2] [] M = jfX11_busy_42 k15 a1 a2 M := rfl
theorem jtX11_busy_42 {k15 : Int32 → Int32 → sy_M → sy_O} (hk15 : ∀ (a1 : Int32) (a2 : Int32) (M : sy_M) (r : xe_R × sy_M), k15 a1 a2 M = some r → sy_E (4) qX11_busy 15 [.ref 0, .int a1, .int a2] [] M r) : ∀ (a1 : Int32) (a2 : Int32) (M : sy_M) (r : xe_R × sy_M), jfX11_busy_42 k15 a1 a2 M = some r → sy_E (4) qX11_busy 42 [.ref 0, .int a1, .int a2] [] M r := by
  intro a1 a2 M r h
  exact sy_run_by (d := 3) ((jrX11_busy_42 _ _ _ M).trans h) hkX11 (by decide +kernel) sy_cs_nil (sy_us_cons (jwX11_busy_15 hk15) sy_us_nil)
def jgX11_busy_15 (k15 : Int32 → Int32 → sy_M → sy_O) (a1 : Int32) (a2 : Int32) (M : sy_M) : sy_O :=
  if a2 < 48 then
    sy_bi (jfX8_needsAt a2 M) fun v2 M1 =>
    sy_bi (jfX8_needsAt a1 M1) fun v4 M3 =>
    if v4 < v2 then
      jfX11_busy_42 k15 a2 a2 M3
    else
      jfX11_busy_42 k15 a1 a2 M3
  else
    sy_ri a1 M
def jfX11_busy_15 : Nat → Int32 → Int32 → sy_M → sy_O
  | 0, _, _, _ => none
  | n + 1, a1, a2, M => jgX11_busy_15 (jfX11_busy_15 n) a1 a2 M
set_option maxRecDepth 100000 in
theorem jrX11_busy_15 (k15 : Int32 → Int32 → sy_M → sy_O) (a1 : Int32) (a2 : Int32) (M : sy_M) : sy_run skX11 qX11_busy [(15, .iload_n 2, 1, []), (16, .bipush 48, 2, []), (18, .if_icmp .ge 30, 3, []), (21, .aload_n 0, 1, []), (22, .getfield 75, 3, []), (25, .iload_n 2, 1, []), (26, .invokevirtual 204, 3, []), (29, .aload_n 0, 1, []), (30, .getfield 75, 3, []), (33, .iload_n 1, 1, []), (34, .invokevirtual 204, 3, []), (37, .if_icmp .le 5, 3, []), (40, .iload_n 2, 1, []), (41, .istore_n 1, 1, []), (48, .iload_n 1, 1, [false, true, false]), (49, .ireturn, 1, [])] [(65, 0, jcX8_needsAt)] [(42, juX11_busy_42 (jfX11_busy_42 k15))] 17 [] 15 [.ref 0, .int a1, .int a2] [] M = jgX11_busy_15 k15 a1 a2 M := rfl
theorem jtX11_busy_15 : ∀ n : Nat, ∀ (a1 : Int32) (a2 : Int32) (M : sy_M) (r : xe_R × sy_M), jfX11_busy_15 n a1 a2 M = some r → sy_E (4) qX11_busy 15 [.ref 0, .int a1, .int a2] [] M r := by
  intro n
  induction n with
  | zero => intro a1 a2 M r h; exact absurd (show (none : sy_O) = some r from h) (by simp)
  | succ n ih => intro a1 a2 M r h; exact sy_run_by (d := 3) ((jrX11_busy_15 _ _ _ M).trans h) hkX11 (by decide +kernel) (sy_cs_cons (jeX8_needsAt.deep (by decide)) sy_cs_nil) (sy_us_cons (jwX11_busy_42 (jtX11_busy_42 ih)) sy_us_nil)
def jfX11_busy (M : sy_M) : sy_O :=
  sy_bv (jfX8_learn 9 M) fun M1 =>
  jfX11_busy_15 sy_F 0 1 M1
set_option maxRecDepth 100000 in
theorem jrX11_busy (M : sy_M) : sy_run skX11 qX11_busy [(0, .aload_n 0, 1, []), (1, .getfield 75, 3, []), (4, .aload_n 0, 1, []), (5, .getfield 28, 3, []), (8, .invokevirtual 181, 3, []), (11, .iconst 0, 1, []), (12, .istore_n 1, 1, []), (13, .iconst 1, 1, []), (14, .istore_n 2, 1, [])] [(63, 1, jcX8_learn)] [(15, juX11_busy_15 (jfX11_busy_15 sy_F))] 10 [] 0 [.ref 0, xe_no, xe_no] [] M = jfX11_busy M := rfl
theorem jtX11_busy : ∀ (M : sy_M) (r : xe_R × sy_M), jfX11_busy M = some r → sy_E (4) qX11_busy 0 [.ref 0, xe_no, xe_no] [] M r := by
  intro  M r h
  exact sy_run_by (d := 3) ((jrX11_busy M).trans h) hkX11 (by decide +kernel) (sy_cs_cons (jeX8_learn.deep (by decide)) sy_cs_nil) (sy_us_cons (jwX11_busy_15 (jtX11_busy_15 sy_F)) sy_us_nil)
def jcX11_busy (as : List Value) (M : sy_M) (K : sy_O → sy_O) : sy_O := sy_xc 0 as fun l => sy_xn l (K (jfX11_busy M))
theorem jeX11_busy : sy_snd (4) 163 (jcX11_busy) := by
  intro as M K r h
  obtain ⟨l, e, h1⟩ := sy_xc_ok h; subst e
  obtain ⟨e, h2⟩ := sy_xn_ok h1; subst e
  exact ⟨_, h2, fun r1 h0 => ⟨qX11_busy, rfl, rfl, jtX11_busy  M r1 h0⟩⟩
/-! X12_busy StairMeterModel busy ()I [('R', 121)] -/
def juX12_busy_30 (k : Int32 → Int32 → sy_M → sy_O) (ls st : List Value) (M : sy_M) : sy_O := sy_xc 121 ls fun l => sy_xi l fun a1 l => sy_xi l fun a2 l => sy_xn l (sy_xn st (k a1 a2 M))
theorem jwX12_busy_30 {d : Nat} {k : Int32 → Int32 → sy_M → sy_O} (hk : ∀ (a1 : Int32) (a2 : Int32) (M : sy_M) (r : xe_R × sy_M), k a1 a2 M = some r → sy_E (d) qX12_busy 30 [.ref 121, .int a1, .int a2] [] M r) : ∀ ls st M r, juX12_busy_30 k ls st M = some r → sy_E d qX12_busy 30 ls st M r := by
  intro ls st M r h
  obtain ⟨l, e, h1⟩ := sy_xc_ok h; subst e
  obtain ⟨a1, l, e, h2⟩ := sy_xi_ok h1; subst e
  obtain ⟨a2, l, e, h3⟩ := sy_xi_ok h2; subst e
  obtain ⟨e, h4⟩ := sy_xn_ok h3; subst e
  obtain ⟨e, h5⟩ := sy_xn_ok h4; subst e
  exact hk a1 a2 M r h5
def juX12_busy_9 (k : Int32 → Int32 → sy_M → sy_O) (ls st : List Value) (M : sy_M) : sy_O := sy_xc 121 ls fun l => sy_xi l fun a1 l => sy_xi l fun a2 l => sy_xn l (sy_xn st (k a1 a2 M))
theorem jwX12_busy_9 {d : Nat} {k : Int32 → Int32 → sy_M → sy_O} (hk : ∀ (a1 : Int32) (a2 : Int32) (M : sy_M) (r : xe_R × sy_M), k a1 a2 M = some r → sy_E (d) qX12_busy 9 [.ref 121, .int a1, .int a2] [] M r) : ∀ ls st M r, juX12_busy_9 k ls st M = some r → sy_E d qX12_busy 9 ls st M r := by
  intro ls st M r h
  obtain ⟨l, e, h1⟩ := sy_xc_ok h; subst e
  obtain ⟨a1, l, e, h2⟩ := sy_xi_ok h1; subst e
  obtain ⟨a2, l, e, h3⟩ := sy_xi_ok h2; subst e
  obtain ⟨e, h4⟩ := sy_xn_ok h3; subst e
  obtain ⟨e, h5⟩ := sy_xn_ok h4; subst e
  exact hk a1 a2 M r h5
def jfX12_busy_30 (k9 : Int32 → Int32 → sy_M → sy_O) (a1 : Int32) (a2 : Int32) (M : sy_M) : sy_O :=
  let v1 := a2 + 1
  k9 a1 v1 M
set_option maxRecDepth 100000 in
theorem jrX12_busy_30 (k9 : Int32 → Int32 → sy_M → sy_O) (a1 : Int32) (a2 : Int32) (M : sy_M) : sy_run skX12 qX12_busy [(30, .iinc 2 1, 3, []), (33, .goto (-24), 3, [])] [] [(9, juX12_busy_9 k9)] 3 [] 30 [.ref 121, .int a1, .int a2] [] M = jfX12_busy_30 k9 a1 a2 M := rfl
theorem jtX12_busy_30 {k9 : Int32 → Int32 → sy_M → sy_O} (hk9 : ∀ (a1 : Int32) (a2 : Int32) (M : sy_M) (r : xe_R × sy_M), k9 a1 a2 M = some r → sy_E (5) qX12_busy 9 [.ref 121, .int a1, .int a2] [] M r) : ∀ (a1 : Int32) (a2 : Int32) (M : sy_M) (r : xe_R × sy_M), jfX12_busy_30 k9 a1 a2 M = some r → sy_E (5) qX12_busy 30 [.ref 121, .int a1, .int a2] [] M r := by
  intro a1 a2 M r h
  exact sy_run_by (d := 4) ((jrX12_busy_30 _ _ _ M).trans h) hkX12 (by decide +kernel) sy_cs_nil (sy_us_cons (jwX12_busy_9 hk9) sy_us_nil)
def jgX12_busy_9 (k9 : Int32 → Int32 → sy_M → sy_O) (a1 : Int32) (a2 : Int32) (M : sy_M) : sy_O :=
  if a2 < 48 then
    sy_bi (jfX12_needsIn a2 M) fun v2 M1 =>
    sy_bi (jfX12_needsIn a1 M1) fun v4 M3 =>
    if v4 < v2 then
      jfX12_busy_30 k9 a2 a2 M3
    else
      jfX12_busy_30 k9 a1 a2 M3
  else
    sy_ri a1 M
def jfX12_busy_9 : Nat → Int32 → Int32 → sy_M → sy_O
  | 0, _, _, _ => none
  | n + 1, a1, a2, M => jgX12_busy_9 (jfX12_busy_9 n) a1 a2 M
set_option maxRecDepth 100000 in
theorem jrX12_busy_9 (k9 : Int32 → Int32 → sy_M → sy_O) (a1 : Int32) (a2 : Int32) (M : sy_M) : sy_run skX12 qX12_busy [(9, .iload_n 2, 1, []), (10, .bipush 48, 2, []), (12, .if_icmp .ge 24, 3, []), (15, .aload_n 0, 1, []), (16, .iload_n 2, 1, []), (17, .invokevirtual 308, 3, []), (20, .aload_n 0, 1, []), (21, .iload_n 1, 1, []), (22, .invokevirtual 308, 3, []), (25, .if_icmp .le 5, 3, []), (28, .iload_n 2, 1, []), (29, .istore_n 1, 1, []), (36, .iload_n 1, 1, [false, true, false]), (37, .ireturn, 1, [])] [(195, 0, jcX12_needsIn)] [(30, juX12_busy_30 (jfX12_busy_30 k9))] 15 [] 9 [.ref 121, .int a1, .int a2] [] M = jgX12_busy_9 k9 a1 a2 M := rfl
theorem jtX12_busy_9 : ∀ n : Nat, ∀ (a1 : Int32) (a2 : Int32) (M : sy_M) (r : xe_R × sy_M), jfX12_busy_9 n a1 a2 M = some r → sy_E (5) qX12_busy 9 [.ref 121, .int a1, .int a2] [] M r := by
  intro n
  induction n with
  | zero => intro a1 a2 M r h; exact absurd (show (none : sy_O) = some r from h) (by simp)
  | succ n ih => intro a1 a2 M r h; exact sy_run_by (d := 4) ((jrX12_busy_9 _ _ _ M).trans h) hkX12 (by decide +kernel) (sy_cs_cons (jeX12_needsIn.deep (by decide)) sy_cs_nil) (sy_us_cons (jwX12_busy_30 (jtX12_busy_30 ih)) sy_us_nil)
def jfX12_busy (M : sy_M) : sy_O :=
  let M1 := sy_upd M 121 0 0
  jfX12_busy_9 sy_F 0 1 M1
set_option maxRecDepth 100000 in
theorem jrX12_busy (M : sy_M) : sy_run skX12 qX12_busy [(0, .aload_n 0, 1, []), (1, .iconst 0, 1, []), (2, .putfield 45, 3, []), (5, .iconst 0, 1, []), (6, .istore_n 1, 1, []), (7, .iconst 1, 1, []), (8, .istore_n 2, 1, [])] [] [(9, juX12_busy_9 (jfX12_busy_9 sy_F))] 8 [] 0 [.ref 121, xe_no, xe_no] [] M = jfX12_busy M := rfl
theorem jtX12_busy : ∀ (M : sy_M) (r : xe_R × sy_M), jfX12_busy M = some r → sy_E (5) qX12_busy 0 [.ref 121, xe_no, xe_no] [] M r := by
  intro  M r h
  exact sy_run_by (d := 4) ((jrX12_busy M).trans h) hkX12 (by decide +kernel) sy_cs_nil (sy_us_cons (jwX12_busy_9 (jtX12_busy_9 sy_F)) sy_us_nil)
def jcX12_busy (as : List Value) (M : sy_M) (K : sy_O → sy_O) : sy_O := sy_xc 121 as fun l => sy_xn l (K (jfX12_busy M))
theorem jeX12_busy : sy_snd (5) 307 (jcX12_busy) := by
  intro as M K r h
  obtain ⟨l, e, h1⟩ := sy_xc_ok h; subst e
  obtain ⟨e, h2⟩ := sy_xn_ok h1; subst e
  exact ⟨_, h2, fun r1 h0 => ⟨qX12_busy, rfl, rfl, jtX12_busy  M r1 h0⟩⟩
/-! X11_alone StairMeter alone ()I [('R', 0)] -/
def juX11_alone_35 (k : Int32 → Int32 → sy_M → sy_O) (ls st : List Value) (M : sy_M) : sy_O := sy_xc 0 ls fun l => sy_xi l fun a1 l => sy_xi l fun a2 l => sy_xn l (sy_xn st (k a1 a2 M))
theorem jwX11_alone_35 {d : Nat} {k : Int32 → Int32 → sy_M → sy_O} (hk : ∀ (a1 : Int32) (a2 : Int32) (M : sy_M) (r : xe_R × sy_M), k a1 a2 M = some r → sy_E (d) qX11_alone 35 [.ref 0, .int a1, .int a2] [] M r) : ∀ ls st M r, juX11_alone_35 k ls st M = some r → sy_E d qX11_alone 35 ls st M r := by
  intro ls st M r h
  obtain ⟨l, e, h1⟩ := sy_xc_ok h; subst e
  obtain ⟨a1, l, e, h2⟩ := sy_xi_ok h1; subst e
  obtain ⟨a2, l, e, h3⟩ := sy_xi_ok h2; subst e
  obtain ⟨e, h4⟩ := sy_xn_ok h3; subst e
  obtain ⟨e, h5⟩ := sy_xn_ok h4; subst e
  exact hk a1 a2 M r h5
def juX11_alone_15 (k : Int32 → Int32 → sy_M → sy_O) (ls st : List Value) (M : sy_M) : sy_O := sy_xc 0 ls fun l => sy_xi l fun a1 l => sy_xi l fun a2 l => sy_xn l (sy_xn st (k a1 a2 M))
theorem jwX11_alone_15 {d : Nat} {k : Int32 → Int32 → sy_M → sy_O} (hk : ∀ (a1 : Int32) (a2 : Int32) (M : sy_M) (r : xe_R × sy_M), k a1 a2 M = some r → sy_E (d) qX11_alone 15 [.ref 0, .int a1, .int a2] [] M r) : ∀ ls st M r, juX11_alone_15 k ls st M = some r → sy_E d qX11_alone 15 ls st M r := by
  intro ls st M r h
  obtain ⟨l, e, h1⟩ := sy_xc_ok h; subst e
  obtain ⟨a1, l, e, h2⟩ := sy_xi_ok h1; subst e
  obtain ⟨a2, l, e, h3⟩ := sy_xi_ok h2; subst e
  obtain ⟨e, h4⟩ := sy_xn_ok h3; subst e
  obtain ⟨e, h5⟩ := sy_xn_ok h4; subst e
  exact hk a1 a2 M r h5
def jfX11_alone_35 (k15 : Int32 → Int32 → sy_M → sy_O) (a1 : Int32) (a2 : Int32) (M : sy_M) : sy_O :=
  let v1 := a2 + 1
  k15 a1 v1 M
set_option maxRecDepth 100000 in
theorem jrX11_alone_35 (k15 : Int32 → Int32 → sy_M → sy_O) (a1 : Int32) (a2 : Int32) (M : sy_M) : sy_run skX11 qX11_alone [(35, .iinc 2 1, 3, []), (38, .goto (-23), 3, [])] [] [(15, juX11_alone_15 k15)] 3 [] 35 [.ref 0, .int a1, .int a2] [] M = jfX11_alone_35 k15 a1 a2 M := rfl
theorem jtX11_alone_35 {k15 : Int32 → Int32 → sy_M → sy_O} (hk15 : ∀ (a1 : Int32) (a2 : Int32) (M : sy_M) (r : xe_R × sy_M), k15 a1 a2 M = some r → sy_E (4) qX11_alone 15 [.ref 0, .int a1, .int a2] [] M r) : ∀ (a1 : Int32) (a2 : Int32) (M : sy_M) (r : xe_R × sy_M), jfX11_alone_35 k15 a1 a2 M = some r → sy_E (4) qX11_alone 35 [.ref 0, .int a1, .int a2] [] M r := by
  intro a1 a2 M r h
  exact sy_run_by (d := 3) ((jrX11_alone_35 _ _ _ M).trans h) hkX11 (by decide +kernel) sy_cs_nil (sy_us_cons (jwX11_alone_15 hk15) sy_us_nil)
def jgX11_alone_15 (k15 : Int32 → Int32 → sy_M → sy_O) (a1 : Int32) (a2 : Int32) (M : sy_M) : sy_O :=
  if a2 < 48 then
    sy_bi (jfX8_presentAt a2 M) fun v2 M1 =>
    if v2 = 0 then
      let v3 := a1 + 1
      jfX11_alone_35 k15 v3 a2 M1
    else
      jfX11_alone_35 k15 a1 a2 M1
  else
    sy_ri a1 M
def jfX11_alone_15 : Nat → Int32 → Int32 → sy_M → sy_O
  | 0, _, _, _ => none
  | n + 1, a1, a2, M => jgX11_alone_15 (jfX11_alone_15 n) a1 a2 M
set_option maxRecDepth 100000 in
theorem jrX11_alone_15 (k15 : Int32 → Int32 → sy_M → sy_O) (a1 : Int32) (a2 : Int32) (M : sy_M) : sy_run skX11 qX11_alone [(15, .iload_n 2, 1, []), (16, .bipush 48, 2, []), (18, .if_icmp .ge 23, 3, []), (21, .aload_n 0, 1, []), (22, .getfield 75, 3, []), (25, .iload_n 2, 1, []), (26, .invokevirtual 245, 3, []), (29, .ifCond .ne 6, 3, []), (32, .iinc 1 1, 3, []), (41, .iload_n 1, 1, [false, true, false]), (42, .ireturn, 1, [])] [(64, 0, jcX8_presentAt)] [(35, juX11_alone_35 (jfX11_alone_35 k15))] 12 [] 15 [.ref 0, .int a1, .int a2] [] M = jgX11_alone_15 k15 a1 a2 M := rfl
theorem jtX11_alone_15 : ∀ n : Nat, ∀ (a1 : Int32) (a2 : Int32) (M : sy_M) (r : xe_R × sy_M), jfX11_alone_15 n a1 a2 M = some r → sy_E (4) qX11_alone 15 [.ref 0, .int a1, .int a2] [] M r := by
  intro n
  induction n with
  | zero => intro a1 a2 M r h; exact absurd (show (none : sy_O) = some r from h) (by simp)
  | succ n ih => intro a1 a2 M r h; exact sy_run_by (d := 3) ((jrX11_alone_15 _ _ _ M).trans h) hkX11 (by decide +kernel) (sy_cs_cons (jeX8_presentAt.deep (by decide)) sy_cs_nil) (sy_us_cons (jwX11_alone_35 (jtX11_alone_35 ih)) sy_us_nil)
def jfX11_alone (M : sy_M) : sy_O :=
  sy_bv (jfX8_learn 9 M) fun M1 =>
  jfX11_alone_15 sy_F 0 0 M1
set_option maxRecDepth 100000 in
theorem jrX11_alone (M : sy_M) : sy_run skX11 qX11_alone [(0, .aload_n 0, 1, []), (1, .getfield 75, 3, []), (4, .aload_n 0, 1, []), (5, .getfield 28, 3, []), (8, .invokevirtual 181, 3, []), (11, .iconst 0, 1, []), (12, .istore_n 1, 1, []), (13, .iconst 0, 1, []), (14, .istore_n 2, 1, [])] [(63, 1, jcX8_learn)] [(15, juX11_alone_15 (jfX11_alone_15 sy_F))] 10 [] 0 [.ref 0, xe_no, xe_no] [] M = jfX11_alone M := rfl
theorem jtX11_alone : ∀ (M : sy_M) (r : xe_R × sy_M), jfX11_alone M = some r → sy_E (4) qX11_alone 0 [.ref 0, xe_no, xe_no] [] M r := by
  intro  M r h
  exact sy_run_by (d := 3) ((jrX11_alone M).trans h) hkX11 (by decide +kernel) (sy_cs_cons (jeX8_learn.deep (by decide)) sy_cs_nil) (sy_us_cons (jwX11_alone_15 (jtX11_alone_15 sy_F)) sy_us_nil)
def jcX11_alone (as : List Value) (M : sy_M) (K : sy_O → sy_O) : sy_O := sy_xc 0 as fun l => sy_xn l (K (jfX11_alone M))
theorem jeX11_alone : sy_snd (4) 164 (jcX11_alone) := by
  intro as M K r h
  obtain ⟨l, e, h1⟩ := sy_xc_ok h; subst e
  obtain ⟨e, h2⟩ := sy_xn_ok h1; subst e
  exact ⟨_, h2, fun r1 h0 => ⟨qX11_alone, rfl, rfl, jtX11_alone  M r1 h0⟩⟩
/-! X12_alone StairMeterModel alone ()I [('R', 121)] -/
def juX12_alone_29 (k : Int32 → Int32 → Int32 → sy_M → sy_O) (ls st : List Value) (M : sy_M) : sy_O := sy_xc 121 ls fun l => sy_xv l fun _ l => sy_xi l fun a2 l => sy_xn l (sy_xi st fun s0 l => sy_xi l fun s1 l => sy_xn l (k a2 s0 s1 M))
theorem jwX12_alone_29 {d : Nat} {k : Int32 → Int32 → Int32 → sy_M → sy_O} (hk : ∀ (w1 : Value) (a2 : Int32) (s0 : Int32) (s1 : Int32) (M : sy_M) (r : xe_R × sy_M), k a2 s0 s1 M = some r → sy_E (d) qX12_alone 29 [.ref 121, w1, .int a2] [.int s0, .int s1] M r) : ∀ ls st M r, juX12_alone_29 k ls st M = some r → sy_E d qX12_alone 29 ls st M r := by
  intro ls st M r h
  obtain ⟨l, e, h1⟩ := sy_xc_ok h; subst e
  obtain ⟨w1, l, e, h2⟩ := sy_xv_ok h1; subst e
  obtain ⟨a2, l, e, h3⟩ := sy_xi_ok h2; subst e
  obtain ⟨e, h4⟩ := sy_xn_ok h3; subst e
  obtain ⟨s0, l, e, h5⟩ := sy_xi_ok h4; subst e
  obtain ⟨s1, l, e, h6⟩ := sy_xi_ok h5; subst e
  obtain ⟨e, h7⟩ := sy_xn_ok h6; subst e
  exact hk _ a2 s0 s1 M r h7
def juX12_alone_9 (k : Int32 → Int32 → sy_M → sy_O) (ls st : List Value) (M : sy_M) : sy_O := sy_xc 121 ls fun l => sy_xi l fun a1 l => sy_xi l fun a2 l => sy_xn l (sy_xn st (k a1 a2 M))
theorem jwX12_alone_9 {d : Nat} {k : Int32 → Int32 → sy_M → sy_O} (hk : ∀ (a1 : Int32) (a2 : Int32) (M : sy_M) (r : xe_R × sy_M), k a1 a2 M = some r → sy_E (d) qX12_alone 9 [.ref 121, .int a1, .int a2] [] M r) : ∀ ls st M r, juX12_alone_9 k ls st M = some r → sy_E d qX12_alone 9 ls st M r := by
  intro ls st M r h
  obtain ⟨l, e, h1⟩ := sy_xc_ok h; subst e
  obtain ⟨a1, l, e, h2⟩ := sy_xi_ok h1; subst e
  obtain ⟨a2, l, e, h3⟩ := sy_xi_ok h2; subst e
  obtain ⟨e, h4⟩ := sy_xn_ok h3; subst e
  obtain ⟨e, h5⟩ := sy_xn_ok h4; subst e
  exact hk a1 a2 M r h5
def jfX12_alone_29 (k9 : Int32 → Int32 → sy_M → sy_O) (a2 : Int32) (s0 : Int32) (s1 : Int32) (M : sy_M) : sy_O :=
  let v1 := (s1 + s0)
  let v2 := a2 + 1
  k9 v1 v2 M
set_option maxRecDepth 100000 in
theorem jrX12_alone_29 (k9 : Int32 → Int32 → sy_M → sy_O) (w1 : Value) (a2 : Int32) (s0 : Int32) (s1 : Int32) (M : sy_M) : sy_run skX12 qX12_alone [(29, .iadd, 1, [true, false, true]), (30, .istore_n 1, 1, []), (31, .iinc 2 1, 3, []), (34, .goto (-25), 3, [])] [] [(9, juX12_alone_9 k9)] 5 [] 29 [.ref 121, w1, .int a2] [.int s0, .int s1] M = jfX12_alone_29 k9 a2 s0 s1 M := rfl
theorem jtX12_alone_29 {k9 : Int32 → Int32 → sy_M → sy_O} (hk9 : ∀ (a1 : Int32) (a2 : Int32) (M : sy_M) (r : xe_R × sy_M), k9 a1 a2 M = some r → sy_E (4) qX12_alone 9 [.ref 121, .int a1, .int a2] [] M r) : ∀ (w1 : Value) (a2 : Int32) (s0 : Int32) (s1 : Int32) (M : sy_M) (r : xe_R × sy_M), jfX12_alone_29 k9 a2 s0 s1 M = some r → sy_E (4) qX12_alone 29 [.ref 121, w1, .int a2] [.int s0, .int s1] M r := by
  intro w1 a2 s0 s1 M r h
  exact sy_run_by (d := 3) ((jrX12_alone_29 _ _ _ _ _ M).trans h) hkX12 (by decide +kernel) sy_cs_nil (sy_us_cons (jwX12_alone_9 hk9) sy_us_nil)
def jgX12_alone_9 (k9 : Int32 → Int32 → sy_M → sy_O) (a1 : Int32) (a2 : Int32) (M : sy_M) : sy_O :=
  if a2 < 48 then
    sy_bi (jfX12_homeIn a2 M) fun v2 M1 =>
    if v2 = 0 then
      jfX12_alone_29 k9 a2 1 a1 M1
    else
      jfX12_alone_29 k9 a2 0 a1 M1
  else
    sy_ri a1 M
def jfX12_alone_9 : Nat → Int32 → Int32 → sy_M → sy_O
  | 0, _, _, _ => none
  | n + 1, a1, a2, M => jgX12_alone_9 (jfX12_alone_9 n) a1 a2 M
set_option maxRecDepth 100000 in
theorem jrX12_alone_9 (k9 : Int32 → Int32 → sy_M → sy_O) (a1 : Int32) (a2 : Int32) (M : sy_M) : sy_run skX12 qX12_alone [(9, .iload_n 2, 1, []), (10, .bipush 48, 2, []), (12, .if_icmp .ge 25, 3, []), (15, .iload_n 1, 1, []), (16, .aload_n 0, 1, []), (17, .iload_n 2, 1, []), (18, .invokevirtual 63, 3, []), (21, .ifCond .ne 7, 3, []), (24, .iconst 1, 1, []), (25, .goto 4, 3, []), (28, .iconst 0, 1, [true, false, true]), (37, .iload_n 1, 1, [false, true, false]), (38, .ireturn, 1, [])] [(193, 0, jcX12_homeIn)] [(29, juX12_alone_29 (jfX12_alone_29 k9))] 14 [] 9 [.ref 121, .int a1, .int a2] [] M = jgX12_alone_9 k9 a1 a2 M := rfl
theorem jtX12_alone_9 : ∀ n : Nat, ∀ (a1 : Int32) (a2 : Int32) (M : sy_M) (r : xe_R × sy_M), jfX12_alone_9 n a1 a2 M = some r → sy_E (4) qX12_alone 9 [.ref 121, .int a1, .int a2] [] M r := by
  intro n
  induction n with
  | zero => intro a1 a2 M r h; exact absurd (show (none : sy_O) = some r from h) (by simp)
  | succ n ih => intro a1 a2 M r h; exact sy_run_by (d := 3) ((jrX12_alone_9 _ _ _ M).trans h) hkX12 (by decide +kernel) (sy_cs_cons (jeX12_homeIn.deep (by decide)) sy_cs_nil) (sy_us_cons (jwX12_alone_29 (jtX12_alone_29 ih)) sy_us_nil)
def jfX12_alone (M : sy_M) : sy_O :=
  let M1 := sy_upd M 121 0 0
  jfX12_alone_9 sy_F 0 0 M1
set_option maxRecDepth 100000 in
theorem jrX12_alone (M : sy_M) : sy_run skX12 qX12_alone [(0, .aload_n 0, 1, []), (1, .iconst 0, 1, []), (2, .putfield 45, 3, []), (5, .iconst 0, 1, []), (6, .istore_n 1, 1, []), (7, .iconst 0, 1, []), (8, .istore_n 2, 1, [])] [] [(9, juX12_alone_9 (jfX12_alone_9 sy_F))] 8 [] 0 [.ref 121, xe_no, xe_no] [] M = jfX12_alone M := rfl
theorem jtX12_alone : ∀ (M : sy_M) (r : xe_R × sy_M), jfX12_alone M = some r → sy_E (4) qX12_alone 0 [.ref 121, xe_no, xe_no] [] M r := by
  intro  M r h
  exact sy_run_by (d := 3) ((jrX12_alone M).trans h) hkX12 (by decide +kernel) sy_cs_nil (sy_us_cons (jwX12_alone_9 (jtX12_alone_9 sy_F)) sy_us_nil)
def jcX12_alone (as : List Value) (M : sy_M) (K : sy_O → sy_O) : sy_O := sy_xc 121 as fun l => sy_xn l (K (jfX12_alone M))
theorem jeX12_alone : sy_snd (4) 308 (jcX12_alone) := by
  intro as M K r h
  obtain ⟨l, e, h1⟩ := sy_xc_ok h; subst e
  obtain ⟨e, h2⟩ := sy_xn_ok h1; subst e
  exact ⟨_, h2, fun r1 h0 => ⟨qX12_alone, rfl, rfl, jtX12_alone  M r1 h0⟩⟩
/-! X11_miser StairMeter miser ()I [('R', 0)] -/
def juX11_miser_77 (k : Int32 → Int32 → sy_M → sy_O) (ls st : List Value) (M : sy_M) : sy_O := sy_xc 0 ls fun l => sy_xi l fun a1 l => sy_xi l fun a2 l => sy_xn l (sy_xn st (k a1 a2 M))
theorem jwX11_miser_77 {d : Nat} {k : Int32 → Int32 → sy_M → sy_O} (hk : ∀ (a1 : Int32) (a2 : Int32) (M : sy_M) (r : xe_R × sy_M), k a1 a2 M = some r → sy_E (d) qX11_miser 77 [.ref 0, .int a1, .int a2] [] M r) : ∀ ls st M r, juX11_miser_77 k ls st M = some r → sy_E d qX11_miser 77 ls st M r := by
  intro ls st M r h
  obtain ⟨l, e, h1⟩ := sy_xc_ok h; subst e
  obtain ⟨a1, l, e, h2⟩ := sy_xi_ok h1; subst e
  obtain ⟨a2, l, e, h3⟩ := sy_xi_ok h2; subst e
  obtain ⟨e, h4⟩ := sy_xn_ok h3; subst e
  obtain ⟨e, h5⟩ := sy_xn_ok h4; subst e
  exact hk a1 a2 M r h5
def juX11_miser_75 (k : Int32 → sy_M → sy_O) (ls st : List Value) (M : sy_M) : sy_O := sy_xc 0 ls fun l => sy_xv l fun _ l => sy_xi l fun a2 l => sy_xn l (sy_xn st (k a2 M))
theorem jwX11_miser_75 {d : Nat} {k : Int32 → sy_M → sy_O} (hk : ∀ (w1 : Value) (a2 : Int32) (M : sy_M) (r : xe_R × sy_M), k a2 M = some r → sy_E (d) qX11_miser 75 [.ref 0, w1, .int a2] [] M r) : ∀ ls st M r, juX11_miser_75 k ls st M = some r → sy_E d qX11_miser 75 ls st M r := by
  intro ls st M r h
  obtain ⟨l, e, h1⟩ := sy_xc_ok h; subst e
  obtain ⟨w1, l, e, h2⟩ := sy_xv_ok h1; subst e
  obtain ⟨a2, l, e, h3⟩ := sy_xi_ok h2; subst e
  obtain ⟨e, h4⟩ := sy_xn_ok h3; subst e
  obtain ⟨e, h5⟩ := sy_xn_ok h4; subst e
  exact hk _ a2 M r h5
def juX11_miser_4 (k : Int32 → Int32 → sy_M → sy_O) (ls st : List Value) (M : sy_M) : sy_O := sy_xc 0 ls fun l => sy_xi l fun a1 l => sy_xi l fun a2 l => sy_xn l (sy_xn st (k a1 a2 M))
theorem jwX11_miser_4 {d : Nat} {k : Int32 → Int32 → sy_M → sy_O} (hk : ∀ (a1 : Int32) (a2 : Int32) (M : sy_M) (r : xe_R × sy_M), k a1 a2 M = some r → sy_E (d) qX11_miser 4 [.ref 0, .int a1, .int a2] [] M r) : ∀ ls st M r, juX11_miser_4 k ls st M = some r → sy_E d qX11_miser 4 ls st M r := by
  intro ls st M r h
  obtain ⟨l, e, h1⟩ := sy_xc_ok h; subst e
  obtain ⟨a1, l, e, h2⟩ := sy_xi_ok h1; subst e
  obtain ⟨a2, l, e, h3⟩ := sy_xi_ok h2; subst e
  obtain ⟨e, h4⟩ := sy_xn_ok h3; subst e
  obtain ⟨e, h5⟩ := sy_xn_ok h4; subst e
  exact hk a1 a2 M r h5
def jfX11_miser_77 (k4 : Int32 → Int32 → sy_M → sy_O) (a1 : Int32) (a2 : Int32) (M : sy_M) : sy_O :=
  let v1 := a2 + 1
  k4 a1 v1 M
set_option maxRecDepth 100000 in
theorem jrX11_miser_77 (k4 : Int32 → Int32 → sy_M → sy_O) (a1 : Int32) (a2 : Int32) (M : sy_M) : sy_run skX11 qX11_miser [(77, .iinc 2 1, 3, []), (80, .goto (-76), 3, [])] [] [(4, juX11_miser_4 k4)] 3 [] 77 [.ref 0, .int a1, .int a2] [] M = jfX11_miser_77 k4 a1 a2 M := rfl
theorem jtX11_miser_77 {k4 : Int32 → Int32 → sy_M → sy_O} (hk4 : ∀ (a1 : Int32) (a2 : Int32) (M : sy_M) (r : xe_R × sy_M), k4 a1 a2 M = some r → sy_E (3) qX11_miser 4 [.ref 0, .int a1, .int a2] [] M r) : ∀ (a1 : Int32) (a2 : Int32) (M : sy_M) (r : xe_R × sy_M), jfX11_miser_77 k4 a1 a2 M = some r → sy_E (3) qX11_miser 77 [.ref 0, .int a1, .int a2] [] M r := by
  intro a1 a2 M r h
  exact sy_run_by (d := 2) ((jrX11_miser_77 _ _ _ M).trans h) hkX11 (by decide +kernel) sy_cs_nil (sy_us_cons (jwX11_miser_4 hk4) sy_us_nil)
def jfX11_miser_75 (k4 : Int32 → Int32 → sy_M → sy_O) (a2 : Int32) (M : sy_M) : sy_O :=
  jfX11_miser_77 k4 a2 a2 M
set_option maxRecDepth 100000 in
theorem jrX11_miser_75 (k4 : Int32 → Int32 → sy_M → sy_O) (w1 : Value) (a2 : Int32) (M : sy_M) : sy_run skX11 qX11_miser [(75, .iload_n 2, 1, [true, false, true]), (76, .istore_n 1, 1, [])] [] [(77, juX11_miser_77 (jfX11_miser_77 k4))] 3 [] 75 [.ref 0, w1, .int a2] [] M = jfX11_miser_75 k4 a2 M := rfl
theorem jtX11_miser_75 {k4 : Int32 → Int32 → sy_M → sy_O} (hk4 : ∀ (a1 : Int32) (a2 : Int32) (M : sy_M) (r : xe_R × sy_M), k4 a1 a2 M = some r → sy_E (3) qX11_miser 4 [.ref 0, .int a1, .int a2] [] M r) : ∀ (w1 : Value) (a2 : Int32) (M : sy_M) (r : xe_R × sy_M), jfX11_miser_75 k4 a2 M = some r → sy_E (3) qX11_miser 75 [.ref 0, w1, .int a2] [] M r := by
  intro w1 a2 M r h
  exact sy_run_by (d := 2) ((jrX11_miser_75 _ _ _ M).trans h) hkX11 (by decide +kernel) sy_cs_nil (sy_us_cons (jwX11_miser_77 (jtX11_miser_77 hk4)) sy_us_nil)
def jgX11_miser_4 (k4 : Int32 → Int32 → sy_M → sy_O) (a1 : Int32) (a2 : Int32) (M : sy_M) : sy_O :=
  if a2 < (M 9 3) then
    sy_bi (jfX2_isIn 9 a2 (M 9 5) M) fun v2 M1 =>
    if v2 = 0 then
      jfX11_miser_77 k4 a1 a2 M1
    else
      sy_bi (jfX2_get 9 a2 5 M1) fun v4 M3 =>
      if v4 < 1 then
        jfX11_miser_77 k4 a1 a2 M3
      else
        if a1 = (-1) then
          jfX11_miser_75 k4 a2 M3
        else
          sy_bi (jfX2_get 9 a2 4 M3) fun v6 M5 =>
          sy_bi (jfX2_get 9 a1 4 M5) fun v8 M7 =>
          if v8 < v6 then
            jfX11_miser_75 k4 a2 M7
          else
            jfX11_miser_77 k4 a1 a2 M7
  else
    sy_ri a1 M
def jfX11_miser_4 : Nat → Int32 → Int32 → sy_M → sy_O
  | 0, _, _, _ => none
  | n + 1, a1, a2, M => jgX11_miser_4 (jfX11_miser_4 n) a1 a2 M
set_option maxRecDepth 100000 in
theorem jrX11_miser_4 (k4 : Int32 → Int32 → sy_M → sy_O) (a1 : Int32) (a2 : Int32) (M : sy_M) : sy_run skX11 qX11_miser [(4, .iload_n 2, 1, []), (5, .aload_n 0, 1, []), (6, .getfield 28, 3, []), (9, .getfield 207, 3, []), (12, .if_icmp .ge 71, 3, []), (15, .aload_n 0, 1, []), (16, .getfield 28, 3, []), (19, .iload_n 2, 1, []), (20, .aload_n 0, 1, []), (21, .getfield 28, 3, []), (24, .getfield 210, 3, []), (27, .invokevirtual 200, 3, []), (30, .ifCond .eq 47, 3, []), (33, .aload_n 0, 1, []), (34, .getfield 28, 3, []), (37, .iload_n 2, 1, []), (38, .iconst 5, 1, []), (39, .invokevirtual 152, 3, []), (42, .iconst 1, 1, []), (43, .if_icmp .ge 6, 3, []), (46, .goto 31, 3, []), (49, .iload_n 1, 1, []), (50, .iconst (-1), 1, []), (51, .if_icmp .eq 24, 3, []), (54, .aload_n 0, 1, []), (55, .getfield 28, 3, []), (58, .iload_n 2, 1, []), (59, .iconst 4, 1, []), (60, .invokevirtual 152, 3, []), (63, .aload_n 0, 1, []), (64, .getfield 28, 3, []), (67, .iload_n 1, 1, []), (68, .iconst 4, 1, []), (69, .invokevirtual 152, 3, []), (72, .if_icmp .le 5, 3, []), (83, .iload_n 1, 1, [false, true, false]), (84, .ireturn, 1, [])] [(13, 0, jcX2_isIn), (10, 0, jcX2_get)] [(77, juX11_miser_77 (jfX11_miser_77 k4)), (75, juX11_miser_75 (jfX11_miser_75 k4))] 38 [] 4 [.ref 0, .int a1, .int a2] [] M = jgX11_miser_4 k4 a1 a2 M := rfl
theorem jtX11_miser_4 : ∀ n : Nat, ∀ (a1 : Int32) (a2 : Int32) (M : sy_M) (r : xe_R × sy_M), jfX11_miser_4 n a1 a2 M = some r → sy_E (3) qX11_miser 4 [.ref 0, .int a1, .int a2] [] M r := by
  intro n
  induction n with
  | zero => intro a1 a2 M r h; exact absurd (show (none : sy_O) = some r from h) (by simp)
  | succ n ih => intro a1 a2 M r h; exact sy_run_by (d := 2) ((jrX11_miser_4 _ _ _ M).trans h) hkX11 (by decide +kernel) (sy_cs_cons (jeX2_isIn.deep (by decide)) (sy_cs_cons (jeX2_get.deep (by decide)) sy_cs_nil)) (sy_us_cons (jwX11_miser_77 (jtX11_miser_77 ih)) (sy_us_cons (jwX11_miser_75 (jtX11_miser_75 ih)) sy_us_nil))
def jfX11_miser (M : sy_M) : sy_O :=
  jfX11_miser_4 sy_F (-1) 0 M
set_option maxRecDepth 100000 in
theorem jrX11_miser (M : sy_M) : sy_run skX11 qX11_miser [(0, .iconst (-1), 1, []), (1, .istore_n 1, 1, []), (2, .iconst 0, 1, []), (3, .istore_n 2, 1, [])] [] [(4, juX11_miser_4 (jfX11_miser_4 sy_F))] 5 [] 0 [.ref 0, xe_no, xe_no] [] M = jfX11_miser M := rfl
theorem jtX11_miser : ∀ (M : sy_M) (r : xe_R × sy_M), jfX11_miser M = some r → sy_E (3) qX11_miser 0 [.ref 0, xe_no, xe_no] [] M r := by
  intro  M r h
  exact sy_run_by (d := 2) ((jrX11_miser M).trans h) hkX11 (by decide +kernel) sy_cs_nil (sy_us_cons (jwX11_miser_4 (jtX11_miser_4 sy_F)) sy_us_nil)
def jcX11_miser (as : List Value) (M : sy_M) (K : sy_O → sy_O) : sy_O := sy_xc 0 as fun l => sy_xn l (K (jfX11_miser M))
theorem jeX11_miser : sy_snd (3) 165 (jcX11_miser) := by
  intro as M K r h
  obtain ⟨l, e, h1⟩ := sy_xc_ok h; subst e
  obtain ⟨e, h2⟩ := sy_xn_ok h1; subst e
  exact ⟨_, h2, fun r1 h0 => ⟨qX11_miser, rfl, rfl, jtX11_miser  M r1 h0⟩⟩
/-! X12_miser StairMeterModel miser ()I [('R', 121)] -/
def juX12_miser_69 (k : Int32 → Int32 → Int32 → sy_M → sy_O) (ls st : List Value) (M : sy_M) : sy_O := sy_xc 121 ls fun l => sy_xi l fun a1 l => sy_xi l fun a2 l => sy_xi l fun a3 l => sy_xn l (sy_xn st (k a1 a2 a3 M))
theorem jwX12_miser_69 {d : Nat} {k : Int32 → Int32 → Int32 → sy_M → sy_O} (hk : ∀ (a1 : Int32) (a2 : Int32) (a3 : Int32) (M : sy_M) (r : xe_R × sy_M), k a1 a2 a3 M = some r → sy_E (d) qX12_miser 69 [.ref 121, .int a1, .int a2, .int a3] [] M r) : ∀ ls st M r, juX12_miser_69 k ls st M = some r → sy_E d qX12_miser 69 ls st M r := by
  intro ls st M r h
  obtain ⟨l, e, h1⟩ := sy_xc_ok h; subst e
  obtain ⟨a1, l, e, h2⟩ := sy_xi_ok h1; subst e
  obtain ⟨a2, l, e, h3⟩ := sy_xi_ok h2; subst e
  obtain ⟨a3, l, e, h4⟩ := sy_xi_ok h3; subst e
  obtain ⟨e, h5⟩ := sy_xn_ok h4; subst e
  obtain ⟨e, h6⟩ := sy_xn_ok h5; subst e
  exact hk a1 a2 a3 M r h6
def juX12_miser_67 (k : Int32 → Int32 → sy_M → sy_O) (ls st : List Value) (M : sy_M) : sy_O := sy_xc 121 ls fun l => sy_xi l fun a1 l => sy_xv l fun _ l => sy_xi l fun a3 l => sy_xn l (sy_xn st (k a1 a3 M))
theorem jwX12_miser_67 {d : Nat} {k : Int32 → Int32 → sy_M → sy_O} (hk : ∀ (w2 : Value) (a1 : Int32) (a3 : Int32) (M : sy_M) (r : xe_R × sy_M), k a1 a3 M = some r → sy_E (d) qX12_miser 67 [.ref 121, .int a1, w2, .int a3] [] M r) : ∀ ls st M r, juX12_miser_67 k ls st M = some r → sy_E d qX12_miser 67 ls st M r := by
  intro ls st M r h
  obtain ⟨l, e, h1⟩ := sy_xc_ok h; subst e
  obtain ⟨a1, l, e, h2⟩ := sy_xi_ok h1; subst e
  obtain ⟨w2, l, e, h3⟩ := sy_xv_ok h2; subst e
  obtain ⟨a3, l, e, h4⟩ := sy_xi_ok h3; subst e
  obtain ⟨e, h5⟩ := sy_xn_ok h4; subst e
  obtain ⟨e, h6⟩ := sy_xn_ok h5; subst e
  exact hk _ a1 a3 M r h6
def juX12_miser_20 (k : Int32 → Int32 → Int32 → sy_M → sy_O) (ls st : List Value) (M : sy_M) : sy_O := sy_xc 121 ls fun l => sy_xi l fun a1 l => sy_xi l fun a2 l => sy_xi l fun a3 l => sy_xn l (sy_xn st (k a1 a2 a3 M))
theorem jwX12_miser_20 {d : Nat} {k : Int32 → Int32 → Int32 → sy_M → sy_O} (hk : ∀ (a1 : Int32) (a2 : Int32) (a3 : Int32) (M : sy_M) (r : xe_R × sy_M), k a1 a2 a3 M = some r → sy_E (d) qX12_miser 20 [.ref 121, .int a1, .int a2, .int a3] [] M r) : ∀ ls st M r, juX12_miser_20 k ls st M = some r → sy_E d qX12_miser 20 ls st M r := by
  intro ls st M r h
  obtain ⟨l, e, h1⟩ := sy_xc_ok h; subst e
  obtain ⟨a1, l, e, h2⟩ := sy_xi_ok h1; subst e
  obtain ⟨a2, l, e, h3⟩ := sy_xi_ok h2; subst e
  obtain ⟨a3, l, e, h4⟩ := sy_xi_ok h3; subst e
  obtain ⟨e, h5⟩ := sy_xn_ok h4; subst e
  obtain ⟨e, h6⟩ := sy_xn_ok h5; subst e
  exact hk a1 a2 a3 M r h6
def jfX12_miser_69 (k20 : Int32 → Int32 → Int32 → sy_M → sy_O) (a1 : Int32) (a2 : Int32) (a3 : Int32) (M : sy_M) : sy_O :=
  let v1 := a3 + 1
  k20 a1 a2 v1 M
set_option maxRecDepth 100000 in
theorem jrX12_miser_69 (k20 : Int32 → Int32 → Int32 → sy_M → sy_O) (a1 : Int32) (a2 : Int32) (a3 : Int32) (M : sy_M) : sy_run skX12 qX12_miser [(69, .iinc 3 1, 3, []), (72, .goto (-52), 3, [])] [] [(20, juX12_miser_20 k20)] 3 [] 69 [.ref 121, .int a1, .int a2, .int a3] [] M = jfX12_miser_69 k20 a1 a2 a3 M := rfl
theorem jtX12_miser_69 {k20 : Int32 → Int32 → Int32 → sy_M → sy_O} (hk20 : ∀ (a1 : Int32) (a2 : Int32) (a3 : Int32) (M : sy_M) (r : xe_R × sy_M), k20 a1 a2 a3 M = some r → sy_E (4) qX12_miser 20 [.ref 121, .int a1, .int a2, .int a3] [] M r) : ∀ (a1 : Int32) (a2 : Int32) (a3 : Int32) (M : sy_M) (r : xe_R × sy_M), jfX12_miser_69 k20 a1 a2 a3 M = some r → sy_E (4) qX12_miser 69 [.ref 121, .int a1, .int a2, .int a3] [] M r := by
  intro a1 a2 a3 M r h
  exact sy_run_by (d := 3) ((jrX12_miser_69 _ _ _ _ M).trans h) hkX12 (by decide +kernel) sy_cs_nil (sy_us_cons (jwX12_miser_20 hk20) sy_us_nil)
def jfX12_miser_67 (k20 : Int32 → Int32 → Int32 → sy_M → sy_O) (a1 : Int32) (a3 : Int32) (M : sy_M) : sy_O :=
  jfX12_miser_69 k20 a1 a3 a3 M
set_option maxRecDepth 100000 in
theorem jrX12_miser_67 (k20 : Int32 → Int32 → Int32 → sy_M → sy_O) (w2 : Value) (a1 : Int32) (a3 : Int32) (M : sy_M) : sy_run skX12 qX12_miser [(67, .iload_n 3, 1, [true, true, false, true]), (68, .istore_n 2, 1, [])] [] [(69, juX12_miser_69 (jfX12_miser_69 k20))] 3 [] 67 [.ref 121, .int a1, w2, .int a3] [] M = jfX12_miser_67 k20 a1 a3 M := rfl
theorem jtX12_miser_67 {k20 : Int32 → Int32 → Int32 → sy_M → sy_O} (hk20 : ∀ (a1 : Int32) (a2 : Int32) (a3 : Int32) (M : sy_M) (r : xe_R × sy_M), k20 a1 a2 a3 M = some r → sy_E (4) qX12_miser 20 [.ref 121, .int a1, .int a2, .int a3] [] M r) : ∀ (w2 : Value) (a1 : Int32) (a3 : Int32) (M : sy_M) (r : xe_R × sy_M), jfX12_miser_67 k20 a1 a3 M = some r → sy_E (4) qX12_miser 67 [.ref 121, .int a1, w2, .int a3] [] M r := by
  intro w2 a1 a3 M r h
  exact sy_run_by (d := 3) ((jrX12_miser_67 _ _ _ _ M).trans h) hkX12 (by decide +kernel) sy_cs_nil (sy_us_cons (jwX12_miser_69 (jtX12_miser_69 hk20)) sy_us_nil)
def jgX12_miser_20 (k20 : Int32 → Int32 → Int32 → sy_M → sy_O) (a1 : Int32) (a2 : Int32) (a3 : Int32) (M : sy_M) : sy_O :=
  if a3 < (M 122 3) then
    sy_bi (jfX12_isOf a1 a3 M) fun v2 M1 =>
    if v2 = 0 then
      jfX12_miser_69 k20 a1 a2 a3 M1
    else
      sy_bi (jfX12_of a3 5 M1) fun v4 M3 =>
      if 0 < v4 then
        if a2 = (-1) then
          jfX12_miser_67 k20 a1 a3 M3
        else
          sy_bi (jfX12_of a3 4 M3) fun v6 M5 =>
          sy_bi (jfX12_of a2 4 M5) fun v8 M7 =>
          if v8 < v6 then
            jfX12_miser_67 k20 a1 a3 M7
          else
            jfX12_miser_69 k20 a1 a2 a3 M7
      else
        jfX12_miser_69 k20 a1 a2 a3 M3
  else
    sy_ri a2 M
def jfX12_miser_20 : Nat → Int32 → Int32 → Int32 → sy_M → sy_O
  | 0, _, _, _, _ => none
  | n + 1, a1, a2, a3, M => jgX12_miser_20 (jfX12_miser_20 n) a1 a2 a3 M
set_option maxRecDepth 100000 in
theorem jrX12_miser_20 (k20 : Int32 → Int32 → Int32 → sy_M → sy_O) (a1 : Int32) (a2 : Int32) (a3 : Int32) (M : sy_M) : sy_run skX12 qX12_miser [(20, .iload_n 3, 1, []), (21, .aload_n 0, 1, []), (22, .getfield 7, 3, []), (25, .iconst 3, 1, []), (26, .iaload, 1, []), (27, .if_icmp .ge 48, 3, []), (30, .iload_n 1, 1, []), (31, .iload_n 3, 1, []), (32, .invokestatic 60, 3, []), (35, .ifCond .eq 34, 3, []), (38, .aload_n 0, 1, []), (39, .iload_n 3, 1, []), (40, .iconst 5, 1, []), (41, .invokevirtual 52, 3, []), (44, .ifCond .le 25, 3, []), (47, .iload_n 2, 1, []), (48, .iconst (-1), 1, []), (49, .if_icmp .eq 18, 3, []), (52, .aload_n 0, 1, []), (53, .iload_n 3, 1, []), (54, .iconst 4, 1, []), (55, .invokevirtual 52, 3, []), (58, .aload_n 0, 1, []), (59, .iload_n 2, 1, []), (60, .iconst 4, 1, []), (61, .invokevirtual 52, 3, []), (64, .if_icmp .le 5, 3, []), (75, .iload_n 2, 1, [false, false, true, false]), (76, .ireturn, 1, [])] [(185, 0, jcX12_isOf), (187, 0, jcX12_of)] [(69, juX12_miser_69 (jfX12_miser_69 k20)), (67, juX12_miser_67 (jfX12_miser_67 k20))] 30 [] 20 [.ref 121, .int a1, .int a2, .int a3] [] M = jgX12_miser_20 k20 a1 a2 a3 M := rfl
theorem jtX12_miser_20 : ∀ n : Nat, ∀ (a1 : Int32) (a2 : Int32) (a3 : Int32) (M : sy_M) (r : xe_R × sy_M), jfX12_miser_20 n a1 a2 a3 M = some r → sy_E (4) qX12_miser 20 [.ref 121, .int a1, .int a2, .int a3] [] M r := by
  intro n
  induction n with
  | zero => intro a1 a2 a3 M r h; exact absurd (show (none : sy_O) = some r from h) (by simp)
  | succ n ih => intro a1 a2 a3 M r h; exact sy_run_by (d := 3) ((jrX12_miser_20 _ _ _ _ M).trans h) hkX12 (by decide +kernel) (sy_cs_cons (jeX12_isOf.deep (by decide)) (sy_cs_cons (jeX12_of.deep (by decide)) sy_cs_nil)) (sy_us_cons (jwX12_miser_69 (jtX12_miser_69 ih)) (sy_us_cons (jwX12_miser_67 (jtX12_miser_67 ih)) sy_us_nil))
def jfX12_miser (M : sy_M) : sy_O :=
  let M1 := sy_upd M 121 0 0
  sy_bi (jfX12_homeIn (M1 122 4) M1) fun v3 M2 =>
  jfX12_miser_20 sy_F v3 (-1) 0 M2
set_option maxRecDepth 100000 in
theorem jrX12_miser (M : sy_M) : sy_run skX12 qX12_miser [(0, .aload_n 0, 1, []), (1, .iconst 0, 1, []), (2, .putfield 45, 3, []), (5, .aload_n 0, 1, []), (6, .aload_n 0, 1, []), (7, .getfield 7, 3, []), (10, .iconst 4, 1, []), (11, .iaload, 1, []), (12, .invokevirtual 63, 3, []), (15, .istore_n 1, 1, []), (16, .iconst (-1), 1, []), (17, .istore_n 2, 1, []), (18, .iconst 0, 1, []), (19, .istore_n 3, 1, [])] [(193, 0, jcX12_homeIn)] [(20, juX12_miser_20 (jfX12_miser_20 sy_F))] 15 [] 0 [.ref 121, xe_no, xe_no, xe_no] [] M = jfX12_miser M := rfl
theorem jtX12_miser : ∀ (M : sy_M) (r : xe_R × sy_M), jfX12_miser M = some r → sy_E (4) qX12_miser 0 [.ref 121, xe_no, xe_no, xe_no] [] M r := by
  intro  M r h
  exact sy_run_by (d := 3) ((jrX12_miser M).trans h) hkX12 (by decide +kernel) (sy_cs_cons (jeX12_homeIn.deep (by decide)) sy_cs_nil) (sy_us_cons (jwX12_miser_20 (jtX12_miser_20 sy_F)) sy_us_nil)
def jcX12_miser (as : List Value) (M : sy_M) (K : sy_O → sy_O) : sy_O := sy_xc 121 as fun l => sy_xn l (K (jfX12_miser M))
theorem jeX12_miser : sy_snd (4) 309 (jcX12_miser) := by
  intro as M K r h
  obtain ⟨l, e, h1⟩ := sy_xc_ok h; subst e
  obtain ⟨e, h2⟩ := sy_xn_ok h1; subst e
  exact ⟨_, h2, fun r1 h0 => ⟨qX12_miser, rfl, rfl, jtX12_miser  M r1 h0⟩⟩
/-! X2_isLike StairMeter$House isLike (II)Z ['A', 'I', 'I'] -/
def jfX2_isLike (r0 : Nat) (a1 : Int32) (a2 : Int32) (M : sy_M) : sy_O :=
  sy_bs (sy_is 2 r0) <|
  sy_bi (jfX2_get r0 a1 0 M) fun v2 M1 =>
  sy_bs (sy_is 2 r0) <|
  sy_bi (jfX2_get r0 a2 0 M1) fun v4 M3 =>
  if v2 = v4 then
    sy_bs (sy_is 2 r0) <|
    sy_bi (jfX2_get r0 a1 3 M3) fun v6 M5 =>
    sy_bs (sy_is 2 r0) <|
    sy_bi (jfX2_get r0 a2 3 M5) fun v8 M7 =>
    if v6 = v8 then
      sy_bs (sy_is 2 r0) <|
      sy_bi (jfX2_get r0 a1 4 M7) fun v10 M9 =>
      sy_bs (sy_is 2 r0) <|
      sy_bi (jfX2_get r0 a2 4 M9) fun v12 M11 =>
      if v10 = v12 then
        sy_ri 1 M11
      else
        sy_ri 0 M11
    else
      sy_ri 0 M7
  else
    sy_ri 0 M3
set_option maxRecDepth 100000 in
theorem jrX2_isLike (r0 : Nat) (a1 : Int32) (a2 : Int32) (M : sy_M) : sy_run skX2 qX2_isLike [(0, .aload_n 0, 1, []), (1, .iload_n 1, 1, []), (2, .iconst 0, 1, []), (3, .invokevirtual 71, 3, []), (6, .aload_n 0, 1, []), (7, .iload_n 2, 1, []), (8, .iconst 0, 1, []), (9, .invokevirtual 71, 3, []), (12, .if_icmp .ne 37, 3, []), (15, .aload_n 0, 1, []), (16, .iload_n 1, 1, []), (17, .iconst 3, 1, []), (18, .invokevirtual 71, 3, []), (21, .aload_n 0, 1, []), (22, .iload_n 2, 1, []), (23, .iconst 3, 1, []), (24, .invokevirtual 71, 3, []), (27, .if_icmp .ne 22, 3, []), (30, .aload_n 0, 1, []), (31, .iload_n 1, 1, []), (32, .iconst 4, 1, []), (33, .invokevirtual 71, 3, []), (36, .aload_n 0, 1, []), (37, .iload_n 2, 1, []), (38, .iconst 4, 1, []), (39, .invokevirtual 71, 3, []), (42, .if_icmp .ne 7, 3, []), (45, .iconst 1, 1, []), (46, .goto 4, 3, []), (49, .iconst 0, 1, [false, false, false]), (50, .ireturn, 1, [false, false, false])] [(10, 0, jcX2_get)] [] 32 [] 0 [.ref r0, .int a1, .int a2] [] M = jfX2_isLike r0 a1 a2 M := rfl
theorem jtX2_isLike : ∀ (r0 : Nat) (a1 : Int32) (a2 : Int32) (M : sy_M) (r : xe_R × sy_M), jfX2_isLike r0 a1 a2 M = some r → sy_E (2) qX2_isLike 0 [.ref r0, .int a1, .int a2] [] M r := by
  intro r0 a1 a2 M r h
  exact sy_run_by (d := 1) ((jrX2_isLike _ _ _ M).trans h) hkX2 (by decide +kernel) (sy_cs_cons (jeX2_get.deep (by decide)) sy_cs_nil) sy_us_nil
def jcX2_isLike (as : List Value) (M : sy_M) (K : sy_O → sy_O) : sy_O := sy_xa as fun r0 l => sy_xi l fun a1 l => sy_xi l fun a2 l => sy_xn l (K (jfX2_isLike r0 a1 a2 M))
theorem jeX2_isLike : sy_snd (2) 17 (jcX2_isLike) := by
  intro as M K r h
  obtain ⟨r0, l, e, h1⟩ := sy_xa_ok h; subst e
  obtain ⟨a1, l, e, h2⟩ := sy_xi_ok h1; subst e
  obtain ⟨a2, l, e, h3⟩ := sy_xi_ok h2; subst e
  obtain ⟨e, h4⟩ := sy_xn_ok h3; subst e
  exact ⟨_, h4, fun r1 h0 => ⟨qX2_isLike, rfl, rfl, jtX2_isLike _ _ _ M r1 h0⟩⟩
end
