/-! ===== functions of the methods (10); written by wip/whole/run_f.py ===== -/
noncomputable section
/-! X12_areRows StairMeterModel areRows (II)Z [('R', 121), 'I', 'I'] -/
def juX12_areRows_59 (k : Int32 → Int32 → Int32 → Int32 → sy_M → sy_O) (ls st : List Value) (M : sy_M) : sy_O := sy_xc 121 ls fun l => sy_xi l fun a1 l => sy_xi l fun a2 l => sy_xv l fun _ l => sy_xi l fun a4 l => sy_xn l (sy_xi st fun s0 l => sy_xn l (k a1 a2 a4 s0 M))
theorem jwX12_areRows_59 {d : Nat} {k : Int32 → Int32 → Int32 → Int32 → sy_M → sy_O} (hk : ∀ (w3 : Value) (a1 : Int32) (a2 : Int32) (a4 : Int32) (s0 : Int32) (M : sy_M) (r : xe_R × sy_M), k a1 a2 a4 s0 M = some r → sy_E (d) qX12_areRows 59 [.ref 121, .int a1, .int a2, w3, .int a4] [.int s0] M r) : ∀ ls st M r, juX12_areRows_59 k ls st M = some r → sy_E d qX12_areRows 59 ls st M r := by
  intro ls st M r h
  obtain ⟨l, e, h1⟩ := sy_xc_ok h; subst e
  obtain ⟨a1, l, e, h2⟩ := sy_xi_ok h1; subst e
  obtain ⟨a2, l, e, h3⟩ := sy_xi_ok h2; subst e
  obtain ⟨w3, l, e, h4⟩ := sy_xv_ok h3; subst e
  obtain ⟨a4, l, e, h5⟩ := sy_xi_ok h4; subst e
  obtain ⟨e, h6⟩ := sy_xn_ok h5; subst e
  obtain ⟨s0, l, e, h7⟩ := sy_xi_ok h6; subst e
  obtain ⟨e, h8⟩ := sy_xn_ok h7; subst e
  exact hk _ a1 a2 a4 s0 M r h8
def juX12_areRows_51 (k : Int32 → Int32 → Int32 → Int32 → Int32 → sy_M → sy_O) (ls st : List Value) (M : sy_M) : sy_O := sy_xc 121 ls fun l => sy_xi l fun a1 l => sy_xi l fun a2 l => sy_xv l fun _ l => sy_xi l fun a4 l => sy_xn l (sy_xi st fun s0 l => sy_xi l fun s1 l => sy_xn l (k a1 a2 a4 s0 s1 M))
theorem jwX12_areRows_51 {d : Nat} {k : Int32 → Int32 → Int32 → Int32 → Int32 → sy_M → sy_O} (hk : ∀ (w3 : Value) (a1 : Int32) (a2 : Int32) (a4 : Int32) (s0 : Int32) (s1 : Int32) (M : sy_M) (r : xe_R × sy_M), k a1 a2 a4 s0 s1 M = some r → sy_E (d) qX12_areRows 51 [.ref 121, .int a1, .int a2, w3, .int a4] [.int s0, .int s1] M r) : ∀ ls st M r, juX12_areRows_51 k ls st M = some r → sy_E d qX12_areRows 51 ls st M r := by
  intro ls st M r h
  obtain ⟨l, e, h1⟩ := sy_xc_ok h; subst e
  obtain ⟨a1, l, e, h2⟩ := sy_xi_ok h1; subst e
  obtain ⟨a2, l, e, h3⟩ := sy_xi_ok h2; subst e
  obtain ⟨w3, l, e, h4⟩ := sy_xv_ok h3; subst e
  obtain ⟨a4, l, e, h5⟩ := sy_xi_ok h4; subst e
  obtain ⟨e, h6⟩ := sy_xn_ok h5; subst e
  obtain ⟨s0, l, e, h7⟩ := sy_xi_ok h6; subst e
  obtain ⟨s1, l, e, h8⟩ := sy_xi_ok h7; subst e
  obtain ⟨e, h9⟩ := sy_xn_ok h8; subst e
  exact hk _ a1 a2 a4 s0 s1 M r h9
def juX12_areRows_21 (k : Int32 → Int32 → Int32 → Int32 → sy_M → sy_O) (ls st : List Value) (M : sy_M) : sy_O := sy_xc 121 ls fun l => sy_xi l fun a1 l => sy_xi l fun a2 l => sy_xi l fun a3 l => sy_xi l fun a4 l => sy_xn l (sy_xn st (k a1 a2 a3 a4 M))
theorem jwX12_areRows_21 {d : Nat} {k : Int32 → Int32 → Int32 → Int32 → sy_M → sy_O} (hk : ∀ (a1 : Int32) (a2 : Int32) (a3 : Int32) (a4 : Int32) (M : sy_M) (r : xe_R × sy_M), k a1 a2 a3 a4 M = some r → sy_E (d) qX12_areRows 21 [.ref 121, .int a1, .int a2, .int a3, .int a4] [] M r) : ∀ ls st M r, juX12_areRows_21 k ls st M = some r → sy_E d qX12_areRows 21 ls st M r := by
  intro ls st M r h
  obtain ⟨l, e, h1⟩ := sy_xc_ok h; subst e
  obtain ⟨a1, l, e, h2⟩ := sy_xi_ok h1; subst e
  obtain ⟨a2, l, e, h3⟩ := sy_xi_ok h2; subst e
  obtain ⟨a3, l, e, h4⟩ := sy_xi_ok h3; subst e
  obtain ⟨a4, l, e, h5⟩ := sy_xi_ok h4; subst e
  obtain ⟨e, h6⟩ := sy_xn_ok h5; subst e
  obtain ⟨e, h7⟩ := sy_xn_ok h6; subst e
  exact hk a1 a2 a3 a4 M r h7
def juX12_areRows_17 (k : Int32 → Int32 → Int32 → sy_M → sy_O) (ls st : List Value) (M : sy_M) : sy_O := sy_xc 121 ls fun l => sy_xi l fun a1 l => sy_xi l fun a2 l => sy_xv l fun _ l => sy_xv l fun _ l => sy_xn l (sy_xi st fun s0 l => sy_xn l (k a1 a2 s0 M))
theorem jwX12_areRows_17 {d : Nat} {k : Int32 → Int32 → Int32 → sy_M → sy_O} (hk : ∀ (w3 : Value) (w4 : Value) (a1 : Int32) (a2 : Int32) (s0 : Int32) (M : sy_M) (r : xe_R × sy_M), k a1 a2 s0 M = some r → sy_E (d) qX12_areRows 17 [.ref 121, .int a1, .int a2, w3, w4] [.int s0] M r) : ∀ ls st M r, juX12_areRows_17 k ls st M = some r → sy_E d qX12_areRows 17 ls st M r := by
  intro ls st M r h
  obtain ⟨l, e, h1⟩ := sy_xc_ok h; subst e
  obtain ⟨a1, l, e, h2⟩ := sy_xi_ok h1; subst e
  obtain ⟨a2, l, e, h3⟩ := sy_xi_ok h2; subst e
  obtain ⟨w3, l, e, h4⟩ := sy_xv_ok h3; subst e
  obtain ⟨w4, l, e, h5⟩ := sy_xv_ok h4; subst e
  obtain ⟨e, h6⟩ := sy_xn_ok h5; subst e
  obtain ⟨s0, l, e, h7⟩ := sy_xi_ok h6; subst e
  obtain ⟨e, h8⟩ := sy_xn_ok h7; subst e
  exact hk _ _ a1 a2 s0 M r h8
def juX12_areRows_16 (k : Int32 → Int32 → sy_M → sy_O) (ls st : List Value) (M : sy_M) : sy_O := sy_xc 121 ls fun l => sy_xi l fun a1 l => sy_xi l fun a2 l => sy_xv l fun _ l => sy_xv l fun _ l => sy_xn l (sy_xn st (k a1 a2 M))
theorem jwX12_areRows_16 {d : Nat} {k : Int32 → Int32 → sy_M → sy_O} (hk : ∀ (w3 : Value) (w4 : Value) (a1 : Int32) (a2 : Int32) (M : sy_M) (r : xe_R × sy_M), k a1 a2 M = some r → sy_E (d) qX12_areRows 16 [.ref 121, .int a1, .int a2, w3, w4] [] M r) : ∀ ls st M r, juX12_areRows_16 k ls st M = some r → sy_E d qX12_areRows 16 ls st M r := by
  intro ls st M r h
  obtain ⟨l, e, h1⟩ := sy_xc_ok h; subst e
  obtain ⟨a1, l, e, h2⟩ := sy_xi_ok h1; subst e
  obtain ⟨a2, l, e, h3⟩ := sy_xi_ok h2; subst e
  obtain ⟨w3, l, e, h4⟩ := sy_xv_ok h3; subst e
  obtain ⟨w4, l, e, h5⟩ := sy_xv_ok h4; subst e
  obtain ⟨e, h6⟩ := sy_xn_ok h5; subst e
  obtain ⟨e, h7⟩ := sy_xn_ok h6; subst e
  exact hk _ _ a1 a2 M r h7
def jfX12_areRows_59 (k21 : Int32 → Int32 → Int32 → Int32 → sy_M → sy_O) (a1 : Int32) (a2 : Int32) (a4 : Int32) (s0 : Int32) (M : sy_M) : sy_O :=
  let v1 := a4 + 1
  k21 a1 a2 s0 v1 M
set_option maxRecDepth 100000 in
theorem jrX12_areRows_59 (k21 : Int32 → Int32 → Int32 → Int32 → sy_M → sy_O) (w3 : Value) (a1 : Int32) (a2 : Int32) (a4 : Int32) (s0 : Int32) (M : sy_M) : sy_run skX12 qX12_areRows [(59, .istore_n 3, 1, [true, true, true, false, true]), (60, .iinc 4 1, 3, []), (63, .goto (-42), 3, [])] [] [(21, juX12_areRows_21 k21)] 4 [] 59 [.ref 121, .int a1, .int a2, w3, .int a4] [.int s0] M = jfX12_areRows_59 k21 a1 a2 a4 s0 M := rfl
theorem jtX12_areRows_59 {k21 : Int32 → Int32 → Int32 → Int32 → sy_M → sy_O} (hk21 : ∀ (a1 : Int32) (a2 : Int32) (a3 : Int32) (a4 : Int32) (M : sy_M) (r : xe_R × sy_M), k21 a1 a2 a3 a4 M = some r → sy_E (1) qX12_areRows 21 [.ref 121, .int a1, .int a2, .int a3, .int a4] [] M r) : ∀ (w3 : Value) (a1 : Int32) (a2 : Int32) (a4 : Int32) (s0 : Int32) (M : sy_M) (r : xe_R × sy_M), jfX12_areRows_59 k21 a1 a2 a4 s0 M = some r → sy_E (1) qX12_areRows 59 [.ref 121, .int a1, .int a2, w3, .int a4] [.int s0] M r := by
  intro w3 a1 a2 a4 s0 M r h
  exact sy_run_by (d := 0) ((jrX12_areRows_59 _ _ _ _ _ _ M).trans h) hkX12 (by decide +kernel) sy_cs_nil (sy_us_cons (jwX12_areRows_21 hk21) sy_us_nil)
def jfX12_areRows_51 (k21 : Int32 → Int32 → Int32 → Int32 → sy_M → sy_O) (a1 : Int32) (a2 : Int32) (a4 : Int32) (s0 : Int32) (s1 : Int32) (M : sy_M) : sy_O :=
  if s0 < s1 then
    jfX12_areRows_59 k21 a1 a2 a4 0 M
  else
    jfX12_areRows_59 k21 a1 a2 a4 1 M
set_option maxRecDepth 100000 in
theorem jrX12_areRows_51 (k21 : Int32 → Int32 → Int32 → Int32 → sy_M → sy_O) (w3 : Value) (a1 : Int32) (a2 : Int32) (a4 : Int32) (s0 : Int32) (s1 : Int32) (M : sy_M) : sy_run skX12 qX12_areRows [(51, .if_icmp .gt 7, 3, [true, true, true, false, true]), (54, .iconst 1, 1, []), (55, .goto 4, 3, []), (58, .iconst 0, 1, [true, true, true, false, true])] [] [(59, juX12_areRows_59 (jfX12_areRows_59 k21))] 5 [] 51 [.ref 121, .int a1, .int a2, w3, .int a4] [.int s0, .int s1] M = jfX12_areRows_51 k21 a1 a2 a4 s0 s1 M := rfl
theorem jtX12_areRows_51 {k21 : Int32 → Int32 → Int32 → Int32 → sy_M → sy_O} (hk21 : ∀ (a1 : Int32) (a2 : Int32) (a3 : Int32) (a4 : Int32) (M : sy_M) (r : xe_R × sy_M), k21 a1 a2 a3 a4 M = some r → sy_E (1) qX12_areRows 21 [.ref 121, .int a1, .int a2, .int a3, .int a4] [] M r) : ∀ (w3 : Value) (a1 : Int32) (a2 : Int32) (a4 : Int32) (s0 : Int32) (s1 : Int32) (M : sy_M) (r : xe_R × sy_M), jfX12_areRows_51 k21 a1 a2 a4 s0 s1 M = some r → sy_E (1) qX12_areRows 51 [.ref 121, .int a1, .int a2, w3, .int a4] [.int s0, .int s1] M r := by
  intro w3 a1 a2 a4 s0 s1 M r h
  exact sy_run_by (d := 0) ((jrX12_areRows_51 _ _ _ _ _ _ _ M).trans h) hkX12 (by decide +kernel) sy_cs_nil (sy_us_cons (jwX12_areRows_59 (jtX12_areRows_59 hk21)) sy_us_nil)
def jgX12_areRows_21 (k21 : Int32 → Int32 → Int32 → Int32 → sy_M → sy_O) (a1 : Int32) (a2 : Int32) (a3 : Int32) (a4 : Int32) (M : sy_M) : sy_O :=
  if a4 < a1 then
    if a3 = 0 then
      sy_bb (sy_bo a3) <| sy_ri a3 M
    else
      sy_bx (xe_in a4 400) <|
      if (a4 - a4 / 2 * 2) = 0 then
        jfX12_areRows_51 k21 a1 a2 a4 47 (M 126 (Int32.toNatClampNeg a4)) M
      else
        jfX12_areRows_51 k21 a1 a2 a4 a2 (M 126 (Int32.toNatClampNeg a4)) M
  else
    sy_bb (sy_bo a3) <| sy_ri a3 M
def jfX12_areRows_21 : Nat → Int32 → Int32 → Int32 → Int32 → sy_M → sy_O
  | 0, _, _, _, _, _ => none
  | n + 1, a1, a2, a3, a4, M => jgX12_areRows_21 (jfX12_areRows_21 n) a1 a2 a3 a4 M
set_option maxRecDepth 100000 in
theorem jrX12_areRows_21 (k21 : Int32 → Int32 → Int32 → Int32 → sy_M → sy_O) (a1 : Int32) (a2 : Int32) (a3 : Int32) (a4 : Int32) (M : sy_M) : sy_run skX12 qX12_areRows [(21, .iload 4, 2, []), (23, .iload_n 1, 1, []), (24, .if_icmp .ge 42, 3, []), (27, .iload_n 3, 1, []), (28, .ifCond .eq 38, 3, []), (31, .aload_n 0, 1, []), (32, .getfield 22, 3, []), (35, .iload 4, 2, []), (37, .iaload, 1, []), (38, .iload 4, 2, []), (40, .iconst 2, 1, []), (41, .irem, 1, []), (42, .ifCond .ne 8, 3, []), (45, .bipush 47, 2, []), (47, .goto 4, 3, []), (50, .iload_n 2, 1, [true, true, true, false, true]), (66, .iload_n 3, 1, [false, false, false, true, false]), (67, .ireturn, 1, [])] [] [(51, juX12_areRows_51 (jfX12_areRows_51 k21))] 19 [] 21 [.ref 121, .int a1, .int a2, .int a3, .int a4] [] M = jgX12_areRows_21 k21 a1 a2 a3 a4 M := rfl
theorem jtX12_areRows_21 : ∀ n : Nat, ∀ (a1 : Int32) (a2 : Int32) (a3 : Int32) (a4 : Int32) (M : sy_M) (r : xe_R × sy_M), jfX12_areRows_21 n a1 a2 a3 a4 M = some r → sy_E (1) qX12_areRows 21 [.ref 121, .int a1, .int a2, .int a3, .int a4] [] M r := by
  intro n
  induction n with
  | zero => intro a1 a2 a3 a4 M r h; exact absurd (show (none : sy_O) = some r from h) (by simp)
  | succ n ih => intro a1 a2 a3 a4 M r h; exact sy_run_by (d := 0) ((jrX12_areRows_21 _ _ _ _ _ M).trans h) hkX12 (by decide +kernel) sy_cs_nil (sy_us_cons (jwX12_areRows_51 (jtX12_areRows_51 ih)) sy_us_nil)
def jfX12_areRows_17 (a1 : Int32) (a2 : Int32) (s0 : Int32) (M : sy_M) : sy_O :=
  jfX12_areRows_21 sy_F a1 a2 s0 0 M
set_option maxRecDepth 100000 in
theorem jrX12_areRows_17 (w3 : Value) (w4 : Value) (a1 : Int32) (a2 : Int32) (s0 : Int32) (M : sy_M) : sy_run skX12 qX12_areRows [(17, .istore_n 3, 1, [true, true, true, false, false]), (18, .iconst 0, 1, []), (19, .istore 4, 2, [])] [] [(21, juX12_areRows_21 (jfX12_areRows_21 sy_F))] 4 [] 17 [.ref 121, .int a1, .int a2, w3, w4] [.int s0] M = jfX12_areRows_17 a1 a2 s0 M := rfl
theorem jtX12_areRows_17 : ∀ (w3 : Value) (w4 : Value) (a1 : Int32) (a2 : Int32) (s0 : Int32) (M : sy_M) (r : xe_R × sy_M), jfX12_areRows_17 a1 a2 s0 M = some r → sy_E (1) qX12_areRows 17 [.ref 121, .int a1, .int a2, w3, w4] [.int s0] M r := by
  intro w3 w4 a1 a2 s0 M r h
  exact sy_run_by (d := 0) ((jrX12_areRows_17 _ _ _ _ _ M).trans h) hkX12 (by decide +kernel) sy_cs_nil (sy_us_cons (jwX12_areRows_21 (jtX12_areRows_21 sy_F)) sy_us_nil)
def jfX12_areRows_16 (a1 : Int32) (a2 : Int32) (M : sy_M) : sy_O :=
  jfX12_areRows_17 a1 a2 0 M
set_option maxRecDepth 100000 in
theorem jrX12_areRows_16 (w3 : Value) (w4 : Value) (a1 : Int32) (a2 : Int32) (M : sy_M) : sy_run skX12 qX12_areRows [(16, .iconst 0, 1, [true, true, true, false, false])] [] [(17, juX12_areRows_17 (jfX12_areRows_17))] 2 [] 16 [.ref 121, .int a1, .int a2, w3, w4] [] M = jfX12_areRows_16 a1 a2 M := rfl
theorem jtX12_areRows_16 : ∀ (w3 : Value) (w4 : Value) (a1 : Int32) (a2 : Int32) (M : sy_M) (r : xe_R × sy_M), jfX12_areRows_16 a1 a2 M = some r → sy_E (1) qX12_areRows 16 [.ref 121, .int a1, .int a2, w3, w4] [] M r := by
  intro w3 w4 a1 a2 M r h
  exact sy_run_by (d := 0) ((jrX12_areRows_16 _ _ _ _ M).trans h) hkX12 (by decide +kernel) sy_cs_nil (sy_us_cons (jwX12_areRows_17 (jtX12_areRows_17)) sy_us_nil)
def jfX12_areRows (a1 : Int32) (a2 : Int32) (M : sy_M) : sy_O :=
  if (a1 - a1 / 2 * 2) = 0 then
    if 40 < a1 then
      jfX12_areRows_16 a1 a2 M
    else
      jfX12_areRows_17 a1 a2 1 M
  else
    jfX12_areRows_16 a1 a2 M
set_option maxRecDepth 100000 in
theorem jrX12_areRows (a1 : Int32) (a2 : Int32) (M : sy_M) : sy_run skX12 qX12_areRows [(0, .iload_n 1, 1, []), (1, .iconst 2, 1, []), (2, .irem, 1, []), (3, .ifCond .ne 13, 3, []), (6, .iload_n 1, 1, []), (7, .bipush 40, 2, []), (9, .if_icmp .gt 7, 3, []), (12, .iconst 1, 1, []), (13, .goto 4, 3, [])] [] [(16, juX12_areRows_16 (jfX12_areRows_16)), (17, juX12_areRows_17 (jfX12_areRows_17))] 10 [] 0 [.ref 121, .int a1, .int a2, xe_no, xe_no] [] M = jfX12_areRows a1 a2 M := rfl
theorem jtX12_areRows : ∀ (a1 : Int32) (a2 : Int32) (M : sy_M) (r : xe_R × sy_M), jfX12_areRows a1 a2 M = some r → sy_E (1) qX12_areRows 0 [.ref 121, .int a1, .int a2, xe_no, xe_no] [] M r := by
  intro a1 a2 M r h
  exact sy_run_by (d := 0) ((jrX12_areRows _ _ M).trans h) hkX12 (by decide +kernel) sy_cs_nil (sy_us_cons (jwX12_areRows_16 (jtX12_areRows_16)) (sy_us_cons (jwX12_areRows_17 (jtX12_areRows_17)) sy_us_nil))
def jcX12_areRows (as : List Value) (M : sy_M) (K : sy_O → sy_O) : sy_O := sy_xc 121 as fun l => sy_xi l fun a1 l => sy_xi l fun a2 l => sy_xn l (K (jfX12_areRows a1 a2 M))
theorem jeX12_areRows : sy_snd (1) 280 (jcX12_areRows) := by
  intro as M K r h
  obtain ⟨l, e, h1⟩ := sy_xc_ok h; subst e
  obtain ⟨a1, l, e, h2⟩ := sy_xi_ok h1; subst e
  obtain ⟨a2, l, e, h3⟩ := sy_xi_ok h2; subst e
  obtain ⟨e, h4⟩ := sy_xn_ok h3; subst e
  exact ⟨_, h4, fun r1 h0 => ⟨qX12_areRows, rfl, rfl, jtX12_areRows _ _ M r1 h0⟩⟩
/-! X12_heard StairMeterModel heard ()I [('R', 121)] -/
def juX12_heard_146 (k : Int32 → Int32 → Int32 → Int32 → sy_M → sy_O) (ls st : List Value) (M : sy_M) : sy_O := sy_xc 121 ls fun l => sy_xi l fun a1 l => sy_xv l fun _ l => sy_xi l fun a3 l => sy_xv l fun _ l => sy_xn l (sy_xi st fun s0 l => sy_xi l fun s1 l => sy_xn l (k a1 a3 s0 s1 M))
theorem jwX12_heard_146 {d : Nat} {k : Int32 → Int32 → Int32 → Int32 → sy_M → sy_O} (hk : ∀ (w2 : Value) (w4 : Value) (a1 : Int32) (a3 : Int32) (s0 : Int32) (s1 : Int32) (M : sy_M) (r : xe_R × sy_M), k a1 a3 s0 s1 M = some r → sy_E (d) qX12_heard 146 [.ref 121, .int a1, w2, .int a3, w4] [.int s0, .int s1] M r) : ∀ ls st M r, juX12_heard_146 k ls st M = some r → sy_E d qX12_heard 146 ls st M r := by
  intro ls st M r h
  obtain ⟨l, e, h1⟩ := sy_xc_ok h; subst e
  obtain ⟨a1, l, e, h2⟩ := sy_xi_ok h1; subst e
  obtain ⟨w2, l, e, h3⟩ := sy_xv_ok h2; subst e
  obtain ⟨a3, l, e, h4⟩ := sy_xi_ok h3; subst e
  obtain ⟨w4, l, e, h5⟩ := sy_xv_ok h4; subst e
  obtain ⟨e, h6⟩ := sy_xn_ok h5; subst e
  obtain ⟨s0, l, e, h7⟩ := sy_xi_ok h6; subst e
  obtain ⟨s1, l, e, h8⟩ := sy_xi_ok h7; subst e
  obtain ⟨e, h9⟩ := sy_xn_ok h8; subst e
  exact hk _ _ a1 a3 s0 s1 M r h9
def juX12_heard_131 (k : Int32 → Int32 → Int32 → sy_M → sy_O) (ls st : List Value) (M : sy_M) : sy_O := sy_xc 121 ls fun l => sy_xi l fun a1 l => sy_xi l fun a2 l => sy_xi l fun a3 l => sy_xv l fun _ l => sy_xn l (sy_xn st (k a1 a2 a3 M))
theorem jwX12_heard_131 {d : Nat} {k : Int32 → Int32 → Int32 → sy_M → sy_O} (hk : ∀ (w4 : Value) (a1 : Int32) (a2 : Int32) (a3 : Int32) (M : sy_M) (r : xe_R × sy_M), k a1 a2 a3 M = some r → sy_E (d) qX12_heard 131 [.ref 121, .int a1, .int a2, .int a3, w4] [] M r) : ∀ ls st M r, juX12_heard_131 k ls st M = some r → sy_E d qX12_heard 131 ls st M r := by
  intro ls st M r h
  obtain ⟨l, e, h1⟩ := sy_xc_ok h; subst e
  obtain ⟨a1, l, e, h2⟩ := sy_xi_ok h1; subst e
  obtain ⟨a2, l, e, h3⟩ := sy_xi_ok h2; subst e
  obtain ⟨a3, l, e, h4⟩ := sy_xi_ok h3; subst e
  obtain ⟨w4, l, e, h5⟩ := sy_xv_ok h4; subst e
  obtain ⟨e, h6⟩ := sy_xn_ok h5; subst e
  obtain ⟨e, h7⟩ := sy_xn_ok h6; subst e
  exact hk _ a1 a2 a3 M r h7
def juX12_heard_124 (k : Int32 → Int32 → Int32 → Int32 → Int32 → Int32 → sy_M → sy_O) (ls st : List Value) (M : sy_M) : sy_O := sy_xc 121 ls fun l => sy_xi l fun a1 l => sy_xi l fun a2 l => sy_xi l fun a3 l => sy_xi l fun a4 l => sy_xn l (sy_xi st fun s0 l => sy_xi l fun s1 l => sy_xc 131 l fun l => sy_xn l (k a1 a2 a3 a4 s0 s1 M))
theorem jwX12_heard_124 {d : Nat} {k : Int32 → Int32 → Int32 → Int32 → Int32 → Int32 → sy_M → sy_O} (hk : ∀ (a1 : Int32) (a2 : Int32) (a3 : Int32) (a4 : Int32) (s0 : Int32) (s1 : Int32) (M : sy_M) (r : xe_R × sy_M), k a1 a2 a3 a4 s0 s1 M = some r → sy_E (d) qX12_heard 124 [.ref 121, .int a1, .int a2, .int a3, .int a4] [.int s0, .int s1, .ref 131] M r) : ∀ ls st M r, juX12_heard_124 k ls st M = some r → sy_E d qX12_heard 124 ls st M r := by
  intro ls st M r h
  obtain ⟨l, e, h1⟩ := sy_xc_ok h; subst e
  obtain ⟨a1, l, e, h2⟩ := sy_xi_ok h1; subst e
  obtain ⟨a2, l, e, h3⟩ := sy_xi_ok h2; subst e
  obtain ⟨a3, l, e, h4⟩ := sy_xi_ok h3; subst e
  obtain ⟨a4, l, e, h5⟩ := sy_xi_ok h4; subst e
  obtain ⟨e, h6⟩ := sy_xn_ok h5; subst e
  obtain ⟨s0, l, e, h7⟩ := sy_xi_ok h6; subst e
  obtain ⟨s1, l, e, h8⟩ := sy_xi_ok h7; subst e
  obtain ⟨l, e, h9⟩ := sy_xc_ok h8; subst e
  obtain ⟨e, h10⟩ := sy_xn_ok h9; subst e
  exact hk a1 a2 a3 a4 s0 s1 M r h10
def juX12_heard_116 (k : Int32 → Int32 → Int32 → Int32 → Int32 → Int32 → Int32 → sy_M → sy_O) (ls st : List Value) (M : sy_M) : sy_O := sy_xc 121 ls fun l => sy_xi l fun a1 l => sy_xi l fun a2 l => sy_xi l fun a3 l => sy_xi l fun a4 l => sy_xn l (sy_xi st fun s0 l => sy_xi l fun s1 l => sy_xi l fun s2 l => sy_xc 131 l fun l => sy_xn l (k a1 a2 a3 a4 s0 s1 s2 M))
theorem jwX12_heard_116 {d : Nat} {k : Int32 → Int32 → Int32 → Int32 → Int32 → Int32 → Int32 → sy_M → sy_O} (hk : ∀ (a1 : Int32) (a2 : Int32) (a3 : Int32) (a4 : Int32) (s0 : Int32) (s1 : Int32) (s2 : Int32) (M : sy_M) (r : xe_R × sy_M), k a1 a2 a3 a4 s0 s1 s2 M = some r → sy_E (d) qX12_heard 116 [.ref 121, .int a1, .int a2, .int a3, .int a4] [.int s0, .int s1, .int s2, .ref 131] M r) : ∀ ls st M r, juX12_heard_116 k ls st M = some r → sy_E d qX12_heard 116 ls st M r := by
  intro ls st M r h
  obtain ⟨l, e, h1⟩ := sy_xc_ok h; subst e
  obtain ⟨a1, l, e, h2⟩ := sy_xi_ok h1; subst e
  obtain ⟨a2, l, e, h3⟩ := sy_xi_ok h2; subst e
  obtain ⟨a3, l, e, h4⟩ := sy_xi_ok h3; subst e
  obtain ⟨a4, l, e, h5⟩ := sy_xi_ok h4; subst e
  obtain ⟨e, h6⟩ := sy_xn_ok h5; subst e
  obtain ⟨s0, l, e, h7⟩ := sy_xi_ok h6; subst e
  obtain ⟨s1, l, e, h8⟩ := sy_xi_ok h7; subst e
  obtain ⟨s2, l, e, h9⟩ := sy_xi_ok h8; subst e
  obtain ⟨l, e, h10⟩ := sy_xc_ok h9; subst e
  obtain ⟨e, h11⟩ := sy_xn_ok h10; subst e
  exact hk a1 a2 a3 a4 s0 s1 s2 M r h11
def juX12_heard_98 (k : Int32 → Int32 → Int32 → Int32 → Int32 → Int32 → sy_M → sy_O) (ls st : List Value) (M : sy_M) : sy_O := sy_xc 121 ls fun l => sy_xi l fun a1 l => sy_xi l fun a2 l => sy_xi l fun a3 l => sy_xi l fun a4 l => sy_xn l (sy_xi st fun s0 l => sy_xi l fun s1 l => sy_xc 131 l fun l => sy_xn l (k a1 a2 a3 a4 s0 s1 M))
theorem jwX12_heard_98 {d : Nat} {k : Int32 → Int32 → Int32 → Int32 → Int32 → Int32 → sy_M → sy_O} (hk : ∀ (a1 : Int32) (a2 : Int32) (a3 : Int32) (a4 : Int32) (s0 : Int32) (s1 : Int32) (M : sy_M) (r : xe_R × sy_M), k a1 a2 a3 a4 s0 s1 M = some r → sy_E (d) qX12_heard 98 [.ref 121, .int a1, .int a2, .int a3, .int a4] [.int s0, .int s1, .ref 131] M r) : ∀ ls st M r, juX12_heard_98 k ls st M = some r → sy_E d qX12_heard 98 ls st M r := by
  intro ls st M r h
  obtain ⟨l, e, h1⟩ := sy_xc_ok h; subst e
  obtain ⟨a1, l, e, h2⟩ := sy_xi_ok h1; subst e
  obtain ⟨a2, l, e, h3⟩ := sy_xi_ok h2; subst e
  obtain ⟨a3, l, e, h4⟩ := sy_xi_ok h3; subst e
  obtain ⟨a4, l, e, h5⟩ := sy_xi_ok h4; subst e
  obtain ⟨e, h6⟩ := sy_xn_ok h5; subst e
  obtain ⟨s0, l, e, h7⟩ := sy_xi_ok h6; subst e
  obtain ⟨s1, l, e, h8⟩ := sy_xi_ok h7; subst e
  obtain ⟨l, e, h9⟩ := sy_xc_ok h8; subst e
  obtain ⟨e, h10⟩ := sy_xn_ok h9; subst e
  exact hk a1 a2 a3 a4 s0 s1 M r h10
def juX12_heard_59 (k : Int32 → Int32 → Int32 → Int32 → sy_M → sy_O) (ls st : List Value) (M : sy_M) : sy_O := sy_xc 121 ls fun l => sy_xi l fun a1 l => sy_xi l fun a2 l => sy_xi l fun a3 l => sy_xi l fun a4 l => sy_xn l (sy_xn st (k a1 a2 a3 a4 M))
theorem jwX12_heard_59 {d : Nat} {k : Int32 → Int32 → Int32 → Int32 → sy_M → sy_O} (hk : ∀ (a1 : Int32) (a2 : Int32) (a3 : Int32) (a4 : Int32) (M : sy_M) (r : xe_R × sy_M), k a1 a2 a3 a4 M = some r → sy_E (d) qX12_heard 59 [.ref 121, .int a1, .int a2, .int a3, .int a4] [] M r) : ∀ ls st M r, juX12_heard_59 k ls st M = some r → sy_E d qX12_heard 59 ls st M r := by
  intro ls st M r h
  obtain ⟨l, e, h1⟩ := sy_xc_ok h; subst e
  obtain ⟨a1, l, e, h2⟩ := sy_xi_ok h1; subst e
  obtain ⟨a2, l, e, h3⟩ := sy_xi_ok h2; subst e
  obtain ⟨a3, l, e, h4⟩ := sy_xi_ok h3; subst e
  obtain ⟨a4, l, e, h5⟩ := sy_xi_ok h4; subst e
  obtain ⟨e, h6⟩ := sy_xn_ok h5; subst e
  obtain ⟨e, h7⟩ := sy_xn_ok h6; subst e
  exact hk a1 a2 a3 a4 M r h7
def juX12_heard_25 (k : Int32 → Int32 → Int32 → sy_M → sy_O) (ls st : List Value) (M : sy_M) : sy_O := sy_xc 121 ls fun l => sy_xi l fun a1 l => sy_xi l fun a2 l => sy_xi l fun a3 l => sy_xv l fun _ l => sy_xn l (sy_xn st (k a1 a2 a3 M))
theorem jwX12_heard_25 {d : Nat} {k : Int32 → Int32 → Int32 → sy_M → sy_O} (hk : ∀ (w4 : Value) (a1 : Int32) (a2 : Int32) (a3 : Int32) (M : sy_M) (r : xe_R × sy_M), k a1 a2 a3 M = some r → sy_E (d) qX12_heard 25 [.ref 121, .int a1, .int a2, .int a3, w4] [] M r) : ∀ ls st M r, juX12_heard_25 k ls st M = some r → sy_E d qX12_heard 25 ls st M r := by
  intro ls st M r h
  obtain ⟨l, e, h1⟩ := sy_xc_ok h; subst e
  obtain ⟨a1, l, e, h2⟩ := sy_xi_ok h1; subst e
  obtain ⟨a2, l, e, h3⟩ := sy_xi_ok h2; subst e
  obtain ⟨a3, l, e, h4⟩ := sy_xi_ok h3; subst e
  obtain ⟨w4, l, e, h5⟩ := sy_xv_ok h4; subst e
  obtain ⟨e, h6⟩ := sy_xn_ok h5; subst e
  obtain ⟨e, h7⟩ := sy_xn_ok h6; subst e
  exact hk _ a1 a2 a3 M r h7
def jfX12_heard_146 (k25 : Int32 → Int32 → Int32 → sy_M → sy_O) (a1 : Int32) (a3 : Int32) (s0 : Int32) (s1 : Int32) (M : sy_M) : sy_O :=
  let v1 := (s1 + s0)
  let v2 := a3 + 1
  k25 a1 v1 v2 M
set_option maxRecDepth 100000 in
theorem jrX12_heard_146 (k25 : Int32 → Int32 → Int32 → sy_M → sy_O) (w2 : Value) (w4 : Value) (a1 : Int32) (a3 : Int32) (s0 : Int32) (s1 : Int32) (M : sy_M) : sy_run skX12 qX12_heard [(146, .iadd, 1, [true, true, false, true, false]), (147, .istore_n 2, 1, []), (148, .iinc 3 1, 3, []), (151, .goto (-126), 3, [])] [] [(25, juX12_heard_25 k25)] 5 [] 146 [.ref 121, .int a1, w2, .int a3, w4] [.int s0, .int s1] M = jfX12_heard_146 k25 a1 a3 s0 s1 M := rfl
theorem jtX12_heard_146 {k25 : Int32 → Int32 → Int32 → sy_M → sy_O} (hk25 : ∀ (w4 : Value) (a1 : Int32) (a2 : Int32) (a3 : Int32) (M : sy_M) (r : xe_R × sy_M), k25 a1 a2 a3 M = some r → sy_E (3) qX12_heard 25 [.ref 121, .int a1, .int a2, .int a3, w4] [] M r) : ∀ (w2 : Value) (w4 : Value) (a1 : Int32) (a3 : Int32) (s0 : Int32) (s1 : Int32) (M : sy_M) (r : xe_R × sy_M), jfX12_heard_146 k25 a1 a3 s0 s1 M = some r → sy_E (3) qX12_heard 146 [.ref 121, .int a1, w2, .int a3, w4] [.int s0, .int s1] M r := by
  intro w2 w4 a1 a3 s0 s1 M r h
  exact sy_run_by (d := 2) ((jrX12_heard_146 _ _ _ _ _ _ _ M).trans h) hkX12 (by decide +kernel) sy_cs_nil (sy_us_cons (jwX12_heard_25 hk25) sy_us_nil)
def jfX12_heard_131 (k25 : Int32 → Int32 → Int32 → sy_M → sy_O) (a1 : Int32) (a2 : Int32) (a3 : Int32) (M : sy_M) : sy_O :=
  sy_bx (xe_in a3 336) <|
  if (M 131 (Int32.toNatClampNeg a3)) = 0 then
    jfX12_heard_146 k25 a1 a3 0 a2 M
  else
    jfX12_heard_146 k25 a1 a3 1 a2 M
set_option maxRecDepth 100000 in
theorem jrX12_heard_131 (k25 : Int32 → Int32 → Int32 → sy_M → sy_O) (w4 : Value) (a1 : Int32) (a2 : Int32) (a3 : Int32) (M : sy_M) : sy_run skX12 qX12_heard [(131, .iload_n 2, 1, [true, true, true, true, false]), (132, .aload_n 0, 1, []), (133, .getfield 41, 3, []), (136, .iload_n 3, 1, []), (137, .baload, 1, []), (138, .ifCond .eq 7, 3, []), (141, .iconst 1, 1, []), (142, .goto 4, 3, []), (145, .iconst 0, 1, [true, true, false, true, false])] [] [(146, juX12_heard_146 (jfX12_heard_146 k25))] 10 [] 131 [.ref 121, .int a1, .int a2, .int a3, w4] [] M = jfX12_heard_131 k25 a1 a2 a3 M := rfl
theorem jtX12_heard_131 {k25 : Int32 → Int32 → Int32 → sy_M → sy_O} (hk25 : ∀ (w4 : Value) (a1 : Int32) (a2 : Int32) (a3 : Int32) (M : sy_M) (r : xe_R × sy_M), k25 a1 a2 a3 M = some r → sy_E (3) qX12_heard 25 [.ref 121, .int a1, .int a2, .int a3, w4] [] M r) : ∀ (w4 : Value) (a1 : Int32) (a2 : Int32) (a3 : Int32) (M : sy_M) (r : xe_R × sy_M), jfX12_heard_131 k25 a1 a2 a3 M = some r → sy_E (3) qX12_heard 131 [.ref 121, .int a1, .int a2, .int a3, w4] [] M r := by
  intro w4 a1 a2 a3 M r h
  exact sy_run_by (d := 2) ((jrX12_heard_131 _ _ _ _ _ M).trans h) hkX12 (by decide +kernel) sy_cs_nil (sy_us_cons (jwX12_heard_146 (jtX12_heard_146 hk25)) sy_us_nil)
def jfX12_heard_124 (k25 : Int32 → Int32 → Int32 → sy_M → sy_O) (k59 : Int32 → Int32 → Int32 → Int32 → sy_M → sy_O) (a1 : Int32) (a2 : Int32) (a3 : Int32) (a4 : Int32) (s0 : Int32) (s1 : Int32) (M : sy_M) : sy_O :=
  sy_bx (xe_in s1 336) <|
  sy_bb (sy_bo s0) <|
  let M1 := sy_upd M 131 (Int32.toNatClampNeg s1) s0
  let v2 := a4 + 2
  k59 a1 a2 a3 v2 M1
set_option maxRecDepth 100000 in
theorem jrX12_heard_124 (k25 : Int32 → Int32 → Int32 → sy_M → sy_O) (k59 : Int32 → Int32 → Int32 → Int32 → sy_M → sy_O) (a1 : Int32) (a2 : Int32) (a3 : Int32) (a4 : Int32) (s0 : Int32) (s1 : Int32) (M : sy_M) : sy_run skX12 qX12_heard [(124, .bastore, 1, []), (125, .iinc 4 2, 3, []), (128, .goto (-69), 3, [])] [] [(59, juX12_heard_59 k59)] 4 [] 124 [.ref 121, .int a1, .int a2, .int a3, .int a4] [.int s0, .int s1, .ref 131] M = jfX12_heard_124 k25 k59 a1 a2 a3 a4 s0 s1 M := rfl
theorem jtX12_heard_124 {k25 : Int32 → Int32 → Int32 → sy_M → sy_O} (hk25 : ∀ (w4 : Value) (a1 : Int32) (a2 : Int32) (a3 : Int32) (M : sy_M) (r : xe_R × sy_M), k25 a1 a2 a3 M = some r → sy_E (3) qX12_heard 25 [.ref 121, .int a1, .int a2, .int a3, w4] [] M r) {k59 : Int32 → Int32 → Int32 → Int32 → sy_M → sy_O} (hk59 : ∀ (a1 : Int32) (a2 : Int32) (a3 : Int32) (a4 : Int32) (M : sy_M) (r : xe_R × sy_M), k59 a1 a2 a3 a4 M = some r → sy_E (3) qX12_heard 59 [.ref 121, .int a1, .int a2, .int a3, .int a4] [] M r) : ∀ (a1 : Int32) (a2 : Int32) (a3 : Int32) (a4 : Int32) (s0 : Int32) (s1 : Int32) (M : sy_M) (r : xe_R × sy_M), jfX12_heard_124 k25 k59 a1 a2 a3 a4 s0 s1 M = some r → sy_E (3) qX12_heard 124 [.ref 121, .int a1, .int a2, .int a3, .int a4] [.int s0, .int s1, .ref 131] M r := by
  intro a1 a2 a3 a4 s0 s1 M r h
  exact sy_run_by (d := 2) ((jrX12_heard_124 _ _ _ _ _ _ _ _ M).trans h) hkX12 (by decide +kernel) sy_cs_nil (sy_us_cons (jwX12_heard_59 hk59) sy_us_nil)
def jfX12_heard_116 (k25 : Int32 → Int32 → Int32 → sy_M → sy_O) (k59 : Int32 → Int32 → Int32 → Int32 → sy_M → sy_O) (a1 : Int32) (a2 : Int32) (a3 : Int32) (a4 : Int32) (s0 : Int32) (s1 : Int32) (s2 : Int32) (M : sy_M) : sy_O :=
  if s1 = s0 then
    jfX12_heard_124 k25 k59 a1 a2 a3 a4 1 s2 M
  else
    jfX12_heard_124 k25 k59 a1 a2 a3 a4 0 s2 M
set_option maxRecDepth 100000 in
theorem jrX12_heard_116 (k25 : Int32 → Int32 → Int32 → sy_M → sy_O) (k59 : Int32 → Int32 → Int32 → Int32 → sy_M → sy_O) (a1 : Int32) (a2 : Int32) (a3 : Int32) (a4 : Int32) (s0 : Int32) (s1 : Int32) (s2 : Int32) (M : sy_M) : sy_run skX12 qX12_heard [(116, .if_icmp .ne 7, 3, []), (119, .iconst 1, 1, []), (120, .goto 4, 3, []), (123, .iconst 0, 1, [])] [] [(124, juX12_heard_124 (jfX12_heard_124 k25 k59))] 5 [] 116 [.ref 121, .int a1, .int a2, .int a3, .int a4] [.int s0, .int s1, .int s2, .ref 131] M = jfX12_heard_116 k25 k59 a1 a2 a3 a4 s0 s1 s2 M := rfl
theorem jtX12_heard_116 {k25 : Int32 → Int32 → Int32 → sy_M → sy_O} (hk25 : ∀ (w4 : Value) (a1 : Int32) (a2 : Int32) (a3 : Int32) (M : sy_M) (r : xe_R × sy_M), k25 a1 a2 a3 M = some r → sy_E (3) qX12_heard 25 [.ref 121, .int a1, .int a2, .int a3, w4] [] M r) {k59 : Int32 → Int32 → Int32 → Int32 → sy_M → sy_O} (hk59 : ∀ (a1 : Int32) (a2 : Int32) (a3 : Int32) (a4 : Int32) (M : sy_M) (r : xe_R × sy_M), k59 a1 a2 a3 a4 M = some r → sy_E (3) qX12_heard 59 [.ref 121, .int a1, .int a2, .int a3, .int a4] [] M r) : ∀ (a1 : Int32) (a2 : Int32) (a3 : Int32) (a4 : Int32) (s0 : Int32) (s1 : Int32) (s2 : Int32) (M : sy_M) (r : xe_R × sy_M), jfX12_heard_116 k25 k59 a1 a2 a3 a4 s0 s1 s2 M = some r → sy_E (3) qX12_heard 116 [.ref 121, .int a1, .int a2, .int a3, .int a4] [.int s0, .int s1, .int s2, .ref 131] M r := by
  intro a1 a2 a3 a4 s0 s1 s2 M r h
  exact sy_run_by (d := 2) ((jrX12_heard_116 _ _ _ _ _ _ _ _ _ M).trans h) hkX12 (by decide +kernel) sy_cs_nil (sy_us_cons (jwX12_heard_124 (jtX12_heard_124 hk25 hk59)) sy_us_nil)
def jfX12_heard_98 (k25 : Int32 → Int32 → Int32 → sy_M → sy_O) (k59 : Int32 → Int32 → Int32 → Int32 → sy_M → sy_O) (a1 : Int32) (a2 : Int32) (a3 : Int32) (a4 : Int32) (s0 : Int32) (s1 : Int32) (M : sy_M) : sy_O :=
  sy_bx (xe_in (a4 + 1) 400) <|
  if (M 126 (Int32.toNatClampNeg (a4 + 1))) = 1 then
    jfX12_heard_116 k25 k59 a1 a2 a3 a4 1 s0 s1 M
  else
    jfX12_heard_116 k25 k59 a1 a2 a3 a4 0 s0 s1 M
set_option maxRecDepth 100000 in
theorem jrX12_heard_98 (k25 : Int32 → Int32 → Int32 → sy_M → sy_O) (k59 : Int32 → Int32 → Int32 → Int32 → sy_M → sy_O) (a1 : Int32) (a2 : Int32) (a3 : Int32) (a4 : Int32) (s0 : Int32) (s1 : Int32) (M : sy_M) : sy_run skX12 qX12_heard [(98, .aload_n 0, 1, []), (99, .getfield 22, 3, []), (102, .iload 4, 2, []), (104, .iconst 1, 1, []), (105, .iadd, 1, []), (106, .iaload, 1, []), (107, .iconst 1, 1, []), (108, .if_icmp .ne 7, 3, []), (111, .iconst 1, 1, []), (112, .goto 4, 3, []), (115, .iconst 0, 1, [])] [] [(116, juX12_heard_116 (jfX12_heard_116 k25 k59))] 12 [] 98 [.ref 121, .int a1, .int a2, .int a3, .int a4] [.int s0, .int s1, .ref 131] M = jfX12_heard_98 k25 k59 a1 a2 a3 a4 s0 s1 M := rfl
theorem jtX12_heard_98 {k25 : Int32 → Int32 → Int32 → sy_M → sy_O} (hk25 : ∀ (w4 : Value) (a1 : Int32) (a2 : Int32) (a3 : Int32) (M : sy_M) (r : xe_R × sy_M), k25 a1 a2 a3 M = some r → sy_E (3) qX12_heard 25 [.ref 121, .int a1, .int a2, .int a3, w4] [] M r) {k59 : Int32 → Int32 → Int32 → Int32 → sy_M → sy_O} (hk59 : ∀ (a1 : Int32) (a2 : Int32) (a3 : Int32) (a4 : Int32) (M : sy_M) (r : xe_R × sy_M), k59 a1 a2 a3 a4 M = some r → sy_E (3) qX12_heard 59 [.ref 121, .int a1, .int a2, .int a3, .int a4] [] M r) : ∀ (a1 : Int32) (a2 : Int32) (a3 : Int32) (a4 : Int32) (s0 : Int32) (s1 : Int32) (M : sy_M) (r : xe_R × sy_M), jfX12_heard_98 k25 k59 a1 a2 a3 a4 s0 s1 M = some r → sy_E (3) qX12_heard 98 [.ref 121, .int a1, .int a2, .int a3, .int a4] [.int s0, .int s1, .ref 131] M r := by
  intro a1 a2 a3 a4 s0 s1 M r h
  exact sy_run_by (d := 2) ((jrX12_heard_98 _ _ _ _ _ _ _ _ M).trans h) hkX12 (by decide +kernel) sy_cs_nil (sy_us_cons (jwX12_heard_116 (jtX12_heard_116 hk25 hk59)) sy_us_nil)
def jgX12_heard_59 (k25 : Int32 → Int32 → Int32 → sy_M → sy_O) (k59 : Int32 → Int32 → Int32 → Int32 → sy_M → sy_O) (a1 : Int32) (a2 : Int32) (a3 : Int32) (a4 : Int32) (M : sy_M) : sy_O :=
  if a4 < a1 then
    sy_bx (xe_in a3 336) <|
    if (M 131 (Int32.toNatClampNeg a3)) = 0 then
      jfX12_heard_131 k25 a1 a2 a3 M
    else
      sy_bx (xe_in a4 400) <|
      if (M 126 (Int32.toNatClampNeg a4)) < (a3 - a3 / 48 * 48) then
        jfX12_heard_98 k25 k59 a1 a2 a3 a4 0 a3 M
      else
        jfX12_heard_98 k25 k59 a1 a2 a3 a4 1 a3 M
  else
    jfX12_heard_131 k25 a1 a2 a3 M
def jfX12_heard_59 (k25 : Int32 → Int32 → Int32 → sy_M → sy_O) : Nat → Int32 → Int32 → Int32 → Int32 → sy_M → sy_O
  | 0, _, _, _, _, _ => none
  | n + 1, a1, a2, a3, a4, M => jgX12_heard_59 k25 (jfX12_heard_59 k25 n) a1 a2 a3 a4 M
set_option maxRecDepth 100000 in
theorem jrX12_heard_59 (k25 : Int32 → Int32 → Int32 → sy_M → sy_O) (k59 : Int32 → Int32 → Int32 → Int32 → sy_M → sy_O) (a1 : Int32) (a2 : Int32) (a3 : Int32) (a4 : Int32) (M : sy_M) : sy_run skX12 qX12_heard [(59, .iload 4, 2, []), (61, .iload_n 1, 1, []), (62, .if_icmp .ge 69, 3, []), (65, .aload_n 0, 1, []), (66, .getfield 41, 3, []), (69, .iload_n 3, 1, []), (70, .baload, 1, []), (71, .ifCond .eq 60, 3, []), (74, .aload_n 0, 1, []), (75, .getfield 41, 3, []), (78, .iload_n 3, 1, []), (79, .iload_n 3, 1, []), (80, .bipush 48, 2, []), (82, .irem, 1, []), (83, .aload_n 0, 1, []), (84, .getfield 22, 3, []), (87, .iload 4, 2, []), (89, .iaload, 1, []), (90, .if_icmp .gt 7, 3, []), (93, .iconst 1, 1, []), (94, .goto 4, 3, []), (97, .iconst 0, 1, [])] [] [(131, juX12_heard_131 (jfX12_heard_131 k25)), (98, juX12_heard_98 (jfX12_heard_98 k25 k59))] 23 [] 59 [.ref 121, .int a1, .int a2, .int a3, .int a4] [] M = jgX12_heard_59 k25 k59 a1 a2 a3 a4 M := rfl
theorem jtX12_heard_59 {k25 : Int32 → Int32 → Int32 → sy_M → sy_O} (hk25 : ∀ (w4 : Value) (a1 : Int32) (a2 : Int32) (a3 : Int32) (M : sy_M) (r : xe_R × sy_M), k25 a1 a2 a3 M = some r → sy_E (3) qX12_heard 25 [.ref 121, .int a1, .int a2, .int a3, w4] [] M r) : ∀ n : Nat, ∀ (a1 : Int32) (a2 : Int32) (a3 : Int32) (a4 : Int32) (M : sy_M) (r : xe_R × sy_M), jfX12_heard_59 k25 n a1 a2 a3 a4 M = some r → sy_E (3) qX12_heard 59 [.ref 121, .int a1, .int a2, .int a3, .int a4] [] M r := by
  intro n
  induction n with
  | zero => intro a1 a2 a3 a4 M r h; exact absurd (show (none : sy_O) = some r from h) (by simp)
  | succ n ih => intro a1 a2 a3 a4 M r h; exact sy_run_by (d := 2) ((jrX12_heard_59 _ _ _ _ _ _ M).trans h) hkX12 (by decide +kernel) sy_cs_nil (sy_us_cons (jwX12_heard_131 (jtX12_heard_131 hk25)) (sy_us_cons (jwX12_heard_98 (jtX12_heard_98 hk25 ih)) sy_us_nil))
def jgX12_heard_25 (k25 : Int32 → Int32 → Int32 → sy_M → sy_O) (a1 : Int32) (a2 : Int32) (a3 : Int32) (M : sy_M) : sy_O :=
  if a3 < (48 * (M 122 3)) then
    sy_bi (jfX12_atHome (a3 / 48) (a3 - a3 / 48 * 48) M) fun v2 M1 =>
    sy_bx (xe_in a3 336) <|
    sy_bb (sy_bo v2) <|
    let M3 := sy_upd M1 131 (Int32.toNatClampNeg a3) v2
    jfX12_heard_59 k25 sy_F a1 a2 a3 0 M3
  else
    sy_ri a2 M
def jfX12_heard_25 : Nat → Int32 → Int32 → Int32 → sy_M → sy_O
  | 0, _, _, _, _ => none
  | n + 1, a1, a2, a3, M => jgX12_heard_25 (jfX12_heard_25 n) a1 a2 a3 M
set_option maxRecDepth 100000 in
theorem jrX12_heard_25 (k25 : Int32 → Int32 → Int32 → sy_M → sy_O) (w4 : Value) (a1 : Int32) (a2 : Int32) (a3 : Int32) (M : sy_M) : sy_run skX12 qX12_heard [(25, .iload_n 3, 1, [true, true, true, true, false]), (26, .bipush 48, 2, []), (28, .aload_n 0, 1, []), (29, .getfield 7, 3, []), (32, .iconst 3, 1, []), (33, .iaload, 1, []), (34, .imul, 1, []), (35, .if_icmp .ge 119, 3, []), (38, .aload_n 0, 1, []), (39, .getfield 41, 3, []), (42, .iload_n 3, 1, []), (43, .aload_n 0, 1, []), (44, .iload_n 3, 1, []), (45, .bipush 48, 2, []), (47, .idiv, 1, []), (48, .iload_n 3, 1, []), (49, .bipush 48, 2, []), (51, .irem, 1, []), (52, .invokevirtual 56, 3, []), (55, .bastore, 1, []), (56, .iconst 0, 1, []), (57, .istore 4, 2, []), (154, .iload_n 2, 1, [false, false, true, false, false]), (155, .ireturn, 1, [])] [(192, 0, jcX12_atHome)] [(59, juX12_heard_59 (jfX12_heard_59 k25 sy_F))] 25 [] 25 [.ref 121, .int a1, .int a2, .int a3, w4] [] M = jgX12_heard_25 k25 a1 a2 a3 M := rfl
theorem jtX12_heard_25 : ∀ n : Nat, ∀ (w4 : Value) (a1 : Int32) (a2 : Int32) (a3 : Int32) (M : sy_M) (r : xe_R × sy_M), jfX12_heard_25 n a1 a2 a3 M = some r → sy_E (3) qX12_heard 25 [.ref 121, .int a1, .int a2, .int a3, w4] [] M r := by
  intro n
  induction n with
  | zero => intro w4 a1 a2 a3 M r h; exact absurd (show (none : sy_O) = some r from h) (by simp)
  | succ n ih => intro w4 a1 a2 a3 M r h; exact sy_run_by (d := 2) ((jrX12_heard_25 _ _ _ _ _ M).trans h) hkX12 (by decide +kernel) (sy_cs_cons (jeX12_atHome.deep (by decide)) sy_cs_nil) (sy_us_cons (jwX12_heard_59 (jtX12_heard_59 ih sy_F)) sy_us_nil)
def jfX12_heard (M : sy_M) : sy_O :=
  let v1 := (M 121 8)
  let M2 := sy_upd M 121 8 0
  sy_bi (jfX12_areRows v1 1 M2) fun v4 M3 =>
  if v4 = 0 then
    sy_ri (-1) M3
  else
    jfX12_heard_25 sy_F v1 0 0 M3
set_option maxRecDepth 100000 in
theorem jrX12_heard (M : sy_M) : sy_run skX12 qX12_heard [(0, .aload_n 0, 1, []), (1, .getfield 70, 3, []), (4, .istore_n 1, 1, []), (5, .aload_n 0, 1, []), (6, .iconst 0, 1, []), (7, .putfield 70, 3, []), (10, .aload_n 0, 1, []), (11, .iload_n 1, 1, []), (12, .iconst 1, 1, []), (13, .invokevirtual 352, 3, []), (16, .ifCond .ne 5, 3, []), (19, .iconst (-1), 1, []), (20, .ireturn, 1, []), (21, .iconst 0, 1, [true, true, false, false, false]), (22, .istore_n 2, 1, []), (23, .iconst 0, 1, []), (24, .istore_n 3, 1, [])] [(280, 0, jcX12_areRows)] [(25, juX12_heard_25 (jfX12_heard_25 sy_F))] 18 [] 0 [.ref 121, xe_no, xe_no, xe_no, xe_no] [] M = jfX12_heard M := rfl
theorem jtX12_heard : ∀ (M : sy_M) (r : xe_R × sy_M), jfX12_heard M = some r → sy_E (3) qX12_heard 0 [.ref 121, xe_no, xe_no, xe_no, xe_no] [] M r := by
  intro  M r h
  exact sy_run_by (d := 2) ((jrX12_heard M).trans h) hkX12 (by decide +kernel) (sy_cs_cons (jeX12_areRows.deep (by decide)) sy_cs_nil) (sy_us_cons (jwX12_heard_25 (jtX12_heard_25 sy_F)) sy_us_nil)
def jcX12_heard (as : List Value) (M : sy_M) (K : sy_O → sy_O) : sy_O := sy_xc 121 as fun l => sy_xn l (K (jfX12_heard M))
theorem jeX12_heard : sy_snd (3) 281 (jcX12_heard) := by
  intro as M K r h
  obtain ⟨l, e, h1⟩ := sy_xc_ok h; subst e
  obtain ⟨e, h2⟩ := sy_xn_ok h1; subst e
  exact ⟨_, h2, fun r1 h0 => ⟨qX12_heard, rfl, rfl, jtX12_heard  M r1 h0⟩⟩
/-! X12_culprit StairMeterModel culprit (Z)I [('R', 121), 'I'] -/
def juX12_culprit_30 (k : Int32 → sy_M → sy_O) (ls st : List Value) (M : sy_M) : sy_O := sy_xc 121 ls fun l => sy_xv l fun _ l => sy_xi l fun a2 l => sy_xv l fun _ l => sy_xv l fun _ l => sy_xn l (sy_xn st (k a2 M))
theorem jwX12_culprit_30 {d : Nat} {k : Int32 → sy_M → sy_O} (hk : ∀ (w1 : Value) (w3 : Value) (w4 : Value) (a2 : Int32) (M : sy_M) (r : xe_R × sy_M), k a2 M = some r → sy_E (d) qX12_culprit 30 [.ref 121, w1, .int a2, w3, w4] [] M r) : ∀ ls st M r, juX12_culprit_30 k ls st M = some r → sy_E d qX12_culprit 30 ls st M r := by
  intro ls st M r h
  obtain ⟨l, e, h1⟩ := sy_xc_ok h; subst e
  obtain ⟨w1, l, e, h2⟩ := sy_xv_ok h1; subst e
  obtain ⟨a2, l, e, h3⟩ := sy_xi_ok h2; subst e
  obtain ⟨w3, l, e, h4⟩ := sy_xv_ok h3; subst e
  obtain ⟨w4, l, e, h5⟩ := sy_xv_ok h4; subst e
  obtain ⟨e, h6⟩ := sy_xn_ok h5; subst e
  obtain ⟨e, h7⟩ := sy_xn_ok h6; subst e
  exact hk _ _ _ a2 M r h7
def juX12_culprit_84 (k : Int32 → Int32 → Int32 → sy_M → sy_O) (ls st : List Value) (M : sy_M) : sy_O := sy_xc 121 ls fun l => sy_xv l fun _ l => sy_xv l fun _ l => sy_xv l fun _ l => sy_xi l fun a4 l => sy_xn l (sy_xi st fun s0 l => sy_xi l fun s1 l => sy_xn l (k a4 s0 s1 M))
theorem jwX12_culprit_84 {d : Nat} {k : Int32 → Int32 → Int32 → sy_M → sy_O} (hk : ∀ (w1 : Value) (w2 : Value) (w3 : Value) (a4 : Int32) (s0 : Int32) (s1 : Int32) (M : sy_M) (r : xe_R × sy_M), k a4 s0 s1 M = some r → sy_E (d) qX12_culprit 84 [.ref 121, w1, w2, w3, .int a4] [.int s0, .int s1] M r) : ∀ ls st M r, juX12_culprit_84 k ls st M = some r → sy_E d qX12_culprit 84 ls st M r := by
  intro ls st M r h
  obtain ⟨l, e, h1⟩ := sy_xc_ok h; subst e
  obtain ⟨w1, l, e, h2⟩ := sy_xv_ok h1; subst e
  obtain ⟨w2, l, e, h3⟩ := sy_xv_ok h2; subst e
  obtain ⟨w3, l, e, h4⟩ := sy_xv_ok h3; subst e
  obtain ⟨a4, l, e, h5⟩ := sy_xi_ok h4; subst e
  obtain ⟨e, h6⟩ := sy_xn_ok h5; subst e
  obtain ⟨s0, l, e, h7⟩ := sy_xi_ok h6; subst e
  obtain ⟨s1, l, e, h8⟩ := sy_xi_ok h7; subst e
  obtain ⟨e, h9⟩ := sy_xn_ok h8; subst e
  exact hk _ _ _ a4 s0 s1 M r h9
def juX12_culprit_48 (k : Int32 → Int32 → sy_M → sy_O) (ls st : List Value) (M : sy_M) : sy_O := sy_xc 121 ls fun l => sy_xv l fun _ l => sy_xv l fun _ l => sy_xi l fun a3 l => sy_xi l fun a4 l => sy_xn l (sy_xn st (k a3 a4 M))
theorem jwX12_culprit_48 {d : Nat} {k : Int32 → Int32 → sy_M → sy_O} (hk : ∀ (w1 : Value) (w2 : Value) (a3 : Int32) (a4 : Int32) (M : sy_M) (r : xe_R × sy_M), k a3 a4 M = some r → sy_E (d) qX12_culprit 48 [.ref 121, w1, w2, .int a3, .int a4] [] M r) : ∀ ls st M r, juX12_culprit_48 k ls st M = some r → sy_E d qX12_culprit 48 ls st M r := by
  intro ls st M r h
  obtain ⟨l, e, h1⟩ := sy_xc_ok h; subst e
  obtain ⟨w1, l, e, h2⟩ := sy_xv_ok h1; subst e
  obtain ⟨w2, l, e, h3⟩ := sy_xv_ok h2; subst e
  obtain ⟨a3, l, e, h4⟩ := sy_xi_ok h3; subst e
  obtain ⟨a4, l, e, h5⟩ := sy_xi_ok h4; subst e
  obtain ⟨e, h6⟩ := sy_xn_ok h5; subst e
  obtain ⟨e, h7⟩ := sy_xn_ok h6; subst e
  exact hk _ _ a3 a4 M r h7
def juX12_culprit_16 (k : Int32 → Int32 → Int32 → sy_M → sy_O) (ls st : List Value) (M : sy_M) : sy_O := sy_xc 121 ls fun l => sy_xi l fun a1 l => sy_xi l fun a2 l => sy_xv l fun _ l => sy_xv l fun _ l => sy_xn l (sy_xi st fun s0 l => sy_xc 121 l fun l => sy_xn l (k a1 a2 s0 M))
theorem jwX12_culprit_16 {d : Nat} {k : Int32 → Int32 → Int32 → sy_M → sy_O} (hk : ∀ (w3 : Value) (w4 : Value) (a1 : Int32) (a2 : Int32) (s0 : Int32) (M : sy_M) (r : xe_R × sy_M), k a1 a2 s0 M = some r → sy_E (d) qX12_culprit 16 [.ref 121, .int a1, .int a2, w3, w4] [.int s0, .ref 121] M r) : ∀ ls st M r, juX12_culprit_16 k ls st M = some r → sy_E d qX12_culprit 16 ls st M r := by
  intro ls st M r h
  obtain ⟨l, e, h1⟩ := sy_xc_ok h; subst e
  obtain ⟨a1, l, e, h2⟩ := sy_xi_ok h1; subst e
  obtain ⟨a2, l, e, h3⟩ := sy_xi_ok h2; subst e
  obtain ⟨w3, l, e, h4⟩ := sy_xv_ok h3; subst e
  obtain ⟨w4, l, e, h5⟩ := sy_xv_ok h4; subst e
  obtain ⟨e, h6⟩ := sy_xn_ok h5; subst e
  obtain ⟨s0, l, e, h7⟩ := sy_xi_ok h6; subst e
  obtain ⟨l, e, h8⟩ := sy_xc_ok h7; subst e
  obtain ⟨e, h9⟩ := sy_xn_ok h8; subst e
  exact hk _ _ a1 a2 s0 M r h9
def jfX12_culprit_30 (a2 : Int32) (M : sy_M) : sy_O :=
  if 0 < (M 121 0) then
    sy_ri 0 M
  else
    sy_ri a2 M
set_option maxRecDepth 100000 in
theorem jrX12_culprit_30 (w1 : Value) (w3 : Value) (w4 : Value) (a2 : Int32) (M : sy_M) : sy_run skX12 qX12_culprit [(30, .aload_n 0, 1, [true, false, true, false, false]), (31, .getfield 45, 3, []), (34, .ifCond .le 7, 3, []), (37, .iconst 0, 1, []), (38, .goto 4, 3, []), (41, .iload_n 2, 1, [false, false, true, false, false]), (42, .ireturn, 1, [false, false, false, false, false])] [] [] 8 [] 30 [.ref 121, w1, .int a2, w3, w4] [] M = jfX12_culprit_30 a2 M := rfl
theorem jtX12_culprit_30 : ∀ (w1 : Value) (w3 : Value) (w4 : Value) (a2 : Int32) (M : sy_M) (r : xe_R × sy_M), jfX12_culprit_30 a2 M = some r → sy_E (4) qX12_culprit 30 [.ref 121, w1, .int a2, w3, w4] [] M r := by
  intro w1 w3 w4 a2 M r h
  exact sy_run_by (d := 3) ((jrX12_culprit_30 _ _ _ _ M).trans h) hkX12 (by decide +kernel) sy_cs_nil sy_us_nil
def jfX12_culprit_84 (k48 : Int32 → Int32 → sy_M → sy_O) (a4 : Int32) (s0 : Int32) (s1 : Int32) (M : sy_M) : sy_O :=
  let v1 := (s1 ||| s0)
  let v2 := a4 + 1
  k48 v1 v2 M
set_option maxRecDepth 100000 in
theorem jrX12_culprit_84 (k48 : Int32 → Int32 → sy_M → sy_O) (w1 : Value) (w2 : Value) (w3 : Value) (a4 : Int32) (s0 : Int32) (s1 : Int32) (M : sy_M) : sy_run skX12 qX12_culprit [(84, .ior, 1, [true, false, false, false, true]), (85, .istore_n 3, 1, []), (86, .iinc 4 1, 3, []), (89, .goto (-41), 3, [])] [] [(48, juX12_culprit_48 k48)] 5 [] 84 [.ref 121, w1, w2, w3, .int a4] [.int s0, .int s1] M = jfX12_culprit_84 k48 a4 s0 s1 M := rfl
theorem jtX12_culprit_84 {k48 : Int32 → Int32 → sy_M → sy_O} (hk48 : ∀ (w1 : Value) (w2 : Value) (a3 : Int32) (a4 : Int32) (M : sy_M) (r : xe_R × sy_M), k48 a3 a4 M = some r → sy_E (4) qX12_culprit 48 [.ref 121, w1, w2, .int a3, .int a4] [] M r) : ∀ (w1 : Value) (w2 : Value) (w3 : Value) (a4 : Int32) (s0 : Int32) (s1 : Int32) (M : sy_M) (r : xe_R × sy_M), jfX12_culprit_84 k48 a4 s0 s1 M = some r → sy_E (4) qX12_culprit 84 [.ref 121, w1, w2, w3, .int a4] [.int s0, .int s1] M r := by
  intro w1 w2 w3 a4 s0 s1 M r h
  exact sy_run_by (d := 3) ((jrX12_culprit_84 _ _ _ _ _ _ _ M).trans h) hkX12 (by decide +kernel) sy_cs_nil (sy_us_cons (jwX12_culprit_48 hk48) sy_us_nil)
def jgX12_culprit_48 (k48 : Int32 → Int32 → sy_M → sy_O) (a3 : Int32) (a4 : Int32) (M : sy_M) : sy_O :=
  if a4 < (48 * (M 122 3)) then
    sy_bx (xe_in a4 336) <|
    if (M 131 (Int32.toNatClampNeg a4)) = 0 then
      jfX12_culprit_84 k48 a4 0 a3 M
    else
      jfX12_culprit_84 k48 a4 (1 <<< ((a4 / 48) &&& 31)) a3 M
  else
    sy_ri a3 M
def jfX12_culprit_48 : Nat → Int32 → Int32 → sy_M → sy_O
  | 0, _, _, _ => none
  | n + 1, a3, a4, M => jgX12_culprit_48 (jfX12_culprit_48 n) a3 a4 M
set_option maxRecDepth 100000 in
theorem jrX12_culprit_48 (k48 : Int32 → Int32 → sy_M → sy_O) (w1 : Value) (w2 : Value) (a3 : Int32) (a4 : Int32) (M : sy_M) : sy_run skX12 qX12_culprit [(48, .iload 4, 2, [true, false, false, true, true]), (50, .bipush 48, 2, []), (52, .aload_n 0, 1, []), (53, .getfield 7, 3, []), (56, .iconst 3, 1, []), (57, .iaload, 1, []), (58, .imul, 1, []), (59, .if_icmp .ge 33, 3, []), (62, .iload_n 3, 1, []), (63, .aload_n 0, 1, []), (64, .getfield 41, 3, []), (67, .iload 4, 2, []), (69, .baload, 1, []), (70, .ifCond .eq 13, 3, []), (73, .iconst 1, 1, []), (74, .iload 4, 2, []), (76, .bipush 48, 2, []), (78, .idiv, 1, []), (79, .ishl, 1, []), (80, .goto 4, 3, []), (83, .iconst 0, 1, [true, false, false, false, true]), (92, .iload_n 3, 1, [false, false, false, true, false]), (93, .ireturn, 1, [])] [] [(84, juX12_culprit_84 (jfX12_culprit_84 k48))] 24 [] 48 [.ref 121, w1, w2, .int a3, .int a4] [] M = jgX12_culprit_48 k48 a3 a4 M := rfl
theorem jtX12_culprit_48 : ∀ n : Nat, ∀ (w1 : Value) (w2 : Value) (a3 : Int32) (a4 : Int32) (M : sy_M) (r : xe_R × sy_M), jfX12_culprit_48 n a3 a4 M = some r → sy_E (4) qX12_culprit 48 [.ref 121, w1, w2, .int a3, .int a4] [] M r := by
  intro n
  induction n with
  | zero => intro w1 w2 a3 a4 M r h; exact absurd (show (none : sy_O) = some r from h) (by simp)
  | succ n ih => intro w1 w2 a3 a4 M r h; exact sy_run_by (d := 3) ((jrX12_culprit_48 _ _ _ _ _ M).trans h) hkX12 (by decide +kernel) sy_cs_nil (sy_us_cons (jwX12_culprit_84 (jtX12_culprit_84 ih)) sy_us_nil)
def jfX12_culprit_16 (a1 : Int32) (a2 : Int32) (s0 : Int32) (M : sy_M) : sy_O :=
  let M1 := sy_upd M 121 0 s0
  if 0 < (M1 121 0) then
    jfX12_culprit_30 a2 M1
  else
    if a1 = 0 then
      jfX12_culprit_30 a2 M1
    else
      jfX12_culprit_48 sy_F 0 0 M1
set_option maxRecDepth 100000 in
theorem jrX12_culprit_16 (w3 : Value) (w4 : Value) (a1 : Int32) (a2 : Int32) (s0 : Int32) (M : sy_M) : sy_run skX12 qX12_culprit [(16, .putfield 45, 3, [true, true, true, false, false]), (19, .aload_n 0, 1, []), (20, .getfield 45, 3, []), (23, .ifCond .gt 7, 3, []), (26, .iload_n 1, 1, []), (27, .ifCond .ne 16, 3, []), (43, .iconst 0, 1, [true, false, false, false, false]), (44, .istore_n 3, 1, []), (45, .iconst 0, 1, []), (46, .istore 4, 2, [])] [] [(30, juX12_culprit_30 (jfX12_culprit_30)), (48, juX12_culprit_48 (jfX12_culprit_48 sy_F))] 11 [] 16 [.ref 121, .int a1, .int a2, w3, w4] [.int s0, .ref 121] M = jfX12_culprit_16 a1 a2 s0 M := rfl
theorem jtX12_culprit_16 : ∀ (w3 : Value) (w4 : Value) (a1 : Int32) (a2 : Int32) (s0 : Int32) (M : sy_M) (r : xe_R × sy_M), jfX12_culprit_16 a1 a2 s0 M = some r → sy_E (4) qX12_culprit 16 [.ref 121, .int a1, .int a2, w3, w4] [.int s0, .ref 121] M r := by
  intro w3 w4 a1 a2 s0 M r h
  exact sy_run_by (d := 3) ((jrX12_culprit_16 _ _ _ _ _ M).trans h) hkX12 (by decide +kernel) sy_cs_nil (sy_us_cons (jwX12_culprit_30 (jtX12_culprit_30)) (sy_us_cons (jwX12_culprit_48 (jtX12_culprit_48 sy_F)) sy_us_nil))
def jfX12_culprit (a1 : Int32) (M : sy_M) : sy_O :=
  sy_bi (jfX12_heard M) fun v2 M1 =>
  if v2 = (-1) then
    jfX12_culprit_16 a1 v2 1 M1
  else
    jfX12_culprit_16 a1 v2 0 M1
set_option maxRecDepth 100000 in
theorem jrX12_culprit (a1 : Int32) (M : sy_M) : sy_run skX12 qX12_culprit [(0, .aload_n 0, 1, []), (1, .invokevirtual 355, 3, []), (4, .istore_n 2, 1, []), (5, .aload_n 0, 1, []), (6, .iload_n 2, 1, []), (7, .iconst (-1), 1, []), (8, .if_icmp .ne 7, 3, []), (11, .iconst 1, 1, []), (12, .goto 4, 3, []), (15, .iconst 0, 1, [true, true, true, false, false])] [(281, 0, jcX12_heard)] [(16, juX12_culprit_16 (jfX12_culprit_16))] 11 [] 0 [.ref 121, .int a1, xe_no, xe_no, xe_no] [] M = jfX12_culprit a1 M := rfl
theorem jtX12_culprit : ∀ (a1 : Int32) (M : sy_M) (r : xe_R × sy_M), jfX12_culprit a1 M = some r → sy_E (4) qX12_culprit 0 [.ref 121, .int a1, xe_no, xe_no, xe_no] [] M r := by
  intro a1 M r h
  exact sy_run_by (d := 3) ((jrX12_culprit _ M).trans h) hkX12 (by decide +kernel) (sy_cs_cons (jeX12_heard.deep (by decide)) sy_cs_nil) (sy_us_cons (jwX12_culprit_16 (jtX12_culprit_16)) sy_us_nil)
def jcX12_culprit (as : List Value) (M : sy_M) (K : sy_O → sy_O) : sy_O := sy_xc 121 as fun l => sy_xi l fun a1 l => sy_xn l (K (jfX12_culprit a1 M))
theorem jeX12_culprit : sy_snd (4) 282 (jcX12_culprit) := by
  intro as M K r h
  obtain ⟨l, e, h1⟩ := sy_xc_ok h; subst e
  obtain ⟨a1, l, e, h2⟩ := sy_xi_ok h1; subst e
  obtain ⟨e, h3⟩ := sy_xn_ok h2; subst e
  exact ⟨_, h3, fun r1 h0 => ⟨qX12_culprit, rfl, rfl, jtX12_culprit _ M r1 h0⟩⟩
/-! X11_fitting StairMeter fitting (I)I [('R', 0), 'I'] -/
def juX11_fitting_34 (k : Int32 → Int32 → Int32 → sy_M → sy_O) (ls st : List Value) (M : sy_M) : sy_O := sy_xc 0 ls fun l => sy_xi l fun a1 l => sy_xi l fun a2 l => sy_xi l fun a3 l => sy_xn l (sy_xn st (k a1 a2 a3 M))
theorem jwX11_fitting_34 {d : Nat} {k : Int32 → Int32 → Int32 → sy_M → sy_O} (hk : ∀ (a1 : Int32) (a2 : Int32) (a3 : Int32) (M : sy_M) (r : xe_R × sy_M), k a1 a2 a3 M = some r → sy_E (d) qX11_fitting 34 [.ref 0, .int a1, .int a2, .int a3] [] M r) : ∀ ls st M r, juX11_fitting_34 k ls st M = some r → sy_E d qX11_fitting 34 ls st M r := by
  intro ls st M r h
  obtain ⟨l, e, h1⟩ := sy_xc_ok h; subst e
  obtain ⟨a1, l, e, h2⟩ := sy_xi_ok h1; subst e
  obtain ⟨a2, l, e, h3⟩ := sy_xi_ok h2; subst e
  obtain ⟨a3, l, e, h4⟩ := sy_xi_ok h3; subst e
  obtain ⟨e, h5⟩ := sy_xn_ok h4; subst e
  obtain ⟨e, h6⟩ := sy_xn_ok h5; subst e
  exact hk a1 a2 a3 M r h6
def juX11_fitting_4 (k : Int32 → Int32 → Int32 → sy_M → sy_O) (ls st : List Value) (M : sy_M) : sy_O := sy_xc 0 ls fun l => sy_xi l fun a1 l => sy_xi l fun a2 l => sy_xi l fun a3 l => sy_xn l (sy_xn st (k a1 a2 a3 M))
theorem jwX11_fitting_4 {d : Nat} {k : Int32 → Int32 → Int32 → sy_M → sy_O} (hk : ∀ (a1 : Int32) (a2 : Int32) (a3 : Int32) (M : sy_M) (r : xe_R × sy_M), k a1 a2 a3 M = some r → sy_E (d) qX11_fitting 4 [.ref 0, .int a1, .int a2, .int a3] [] M r) : ∀ ls st M r, juX11_fitting_4 k ls st M = some r → sy_E d qX11_fitting 4 ls st M r := by
  intro ls st M r h
  obtain ⟨l, e, h1⟩ := sy_xc_ok h; subst e
  obtain ⟨a1, l, e, h2⟩ := sy_xi_ok h1; subst e
  obtain ⟨a2, l, e, h3⟩ := sy_xi_ok h2; subst e
  obtain ⟨a3, l, e, h4⟩ := sy_xi_ok h3; subst e
  obtain ⟨e, h5⟩ := sy_xn_ok h4; subst e
  obtain ⟨e, h6⟩ := sy_xn_ok h5; subst e
  exact hk a1 a2 a3 M r h6
def jfX11_fitting_34 (k4 : Int32 → Int32 → Int32 → sy_M → sy_O) (a1 : Int32) (a2 : Int32) (a3 : Int32) (M : sy_M) : sy_O :=
  let v1 := a3 + 1
  k4 a1 a2 v1 M
set_option maxRecDepth 100000 in
theorem jrX11_fitting_34 (k4 : Int32 → Int32 → Int32 → sy_M → sy_O) (a1 : Int32) (a2 : Int32) (a3 : Int32) (M : sy_M) : sy_run skX11 qX11_fitting [(34, .iinc 3 1, 3, []), (37, .goto (-33), 3, [])] [] [(4, juX11_fitting_4 k4)] 3 [] 34 [.ref 0, .int a1, .int a2, .int a3] [] M = jfX11_fitting_34 k4 a1 a2 a3 M := rfl
theorem jtX11_fitting_34 {k4 : Int32 → Int32 → Int32 → sy_M → sy_O} (hk4 : ∀ (a1 : Int32) (a2 : Int32) (a3 : Int32) (M : sy_M) (r : xe_R × sy_M), k4 a1 a2 a3 M = some r → sy_E (2) qX11_fitting 4 [.ref 0, .int a1, .int a2, .int a3] [] M r) : ∀ (a1 : Int32) (a2 : Int32) (a3 : Int32) (M : sy_M) (r : xe_R × sy_M), jfX11_fitting_34 k4 a1 a2 a3 M = some r → sy_E (2) qX11_fitting 34 [.ref 0, .int a1, .int a2, .int a3] [] M r := by
  intro a1 a2 a3 M r h
  exact sy_run_by (d := 1) ((jrX11_fitting_34 _ _ _ _ M).trans h) hkX11 (by decide +kernel) sy_cs_nil (sy_us_cons (jwX11_fitting_4 hk4) sy_us_nil)
def jgX11_fitting_4 (k4 : Int32 → Int32 → Int32 → sy_M → sy_O) (a1 : Int32) (a2 : Int32) (a3 : Int32) (M : sy_M) : sy_O :=
  if a1 < a3 then
    sy_ri a2 M
  else
    sy_bi (jfX1_isPossible a3 M) fun v2 M1 =>
    if v2 = 0 then
      jfX11_fitting_34 k4 a1 a2 a3 M1
    else
      sy_bi (jfX8_presentAt a3 M1) fun v4 M3 =>
      sy_bi (jfJ6_bitCount_0f7a4 v4 M3) fun v6 M5 =>
      let v7 := (a2 + v6)
      jfX11_fitting_34 k4 a1 v7 a3 M5
def jfX11_fitting_4 : Nat → Int32 → Int32 → Int32 → sy_M → sy_O
  | 0, _, _, _, _ => none
  | n + 1, a1, a2, a3, M => jgX11_fitting_4 (jfX11_fitting_4 n) a1 a2 a3 M
set_option maxRecDepth 100000 in
theorem jrX11_fitting_4 (k4 : Int32 → Int32 → Int32 → sy_M → sy_O) (a1 : Int32) (a2 : Int32) (a3 : Int32) (M : sy_M) : sy_run skX11 qX11_fitting [(4, .iload_n 3, 1, []), (5, .iload_n 1, 1, []), (6, .if_icmp .gt 34, 3, []), (9, .aload_n 0, 1, []), (10, .getfield 19, 3, []), (13, .iload_n 3, 1, []), (14, .invokevirtual 337, 3, []), (17, .ifCond .eq 17, 3, []), (20, .iload_n 2, 1, []), (21, .aload_n 0, 1, []), (22, .getfield 75, 3, []), (25, .iload_n 3, 1, []), (26, .invokevirtual 245, 3, []), (29, .invokestatic 340, 3, []), (32, .iadd, 1, []), (33, .istore_n 2, 1, []), (40, .iload_n 2, 1, [false, false, true, false]), (41, .ireturn, 1, [])] [(7, 0, jcX1_isPossible), (64, 0, jcX8_presentAt), (357, 0, jcJ6_bitCount_0f7a4)] [(34, juX11_fitting_34 (jfX11_fitting_34 k4))] 19 [] 4 [.ref 0, .int a1, .int a2, .int a3] [] M = jgX11_fitting_4 k4 a1 a2 a3 M := rfl
theorem jtX11_fitting_4 : ∀ n : Nat, ∀ (a1 : Int32) (a2 : Int32) (a3 : Int32) (M : sy_M) (r : xe_R × sy_M), jfX11_fitting_4 n a1 a2 a3 M = some r → sy_E (2) qX11_fitting 4 [.ref 0, .int a1, .int a2, .int a3] [] M r := by
  intro n
  induction n with
  | zero => intro a1 a2 a3 M r h; exact absurd (show (none : sy_O) = some r from h) (by simp)
  | succ n ih => intro a1 a2 a3 M r h; exact sy_run_by (d := 1) ((jrX11_fitting_4 _ _ _ _ M).trans h) hkX11 (by decide +kernel) (sy_cs_cons (jeX1_isPossible.deep (by decide)) (sy_cs_cons (jeX8_presentAt.deep (by decide)) (sy_cs_cons (jeJ6_bitCount_0f7a4.deep (by decide)) sy_cs_nil))) (sy_us_cons (jwX11_fitting_34 (jtX11_fitting_34 ih)) sy_us_nil)
def jfX11_fitting (a1 : Int32) (M : sy_M) : sy_O :=
  jfX11_fitting_4 sy_F a1 0 0 M
set_option maxRecDepth 100000 in
theorem jrX11_fitting (a1 : Int32) (M : sy_M) : sy_run skX11 qX11_fitting [(0, .iconst 0, 1, []), (1, .istore_n 2, 1, []), (2, .iconst 0, 1, []), (3, .istore_n 3, 1, [])] [] [(4, juX11_fitting_4 (jfX11_fitting_4 sy_F))] 5 [] 0 [.ref 0, .int a1, xe_no, xe_no] [] M = jfX11_fitting a1 M := rfl
theorem jtX11_fitting : ∀ (a1 : Int32) (M : sy_M) (r : xe_R × sy_M), jfX11_fitting a1 M = some r → sy_E (2) qX11_fitting 0 [.ref 0, .int a1, xe_no, xe_no] [] M r := by
  intro a1 M r h
  exact sy_run_by (d := 1) ((jrX11_fitting _ M).trans h) hkX11 (by decide +kernel) sy_cs_nil (sy_us_cons (jwX11_fitting_4 (jtX11_fitting_4 sy_F)) sy_us_nil)
def jcX11_fitting (as : List Value) (M : sy_M) (K : sy_O → sy_O) : sy_O := sy_xc 0 as fun l => sy_xi l fun a1 l => sy_xn l (K (jfX11_fitting a1 M))
theorem jeX11_fitting : sy_snd (2) 141 (jcX11_fitting) := by
  intro as M K r h
  obtain ⟨l, e, h1⟩ := sy_xc_ok h; subst e
  obtain ⟨a1, l, e, h2⟩ := sy_xi_ok h1; subst e
  obtain ⟨e, h3⟩ := sy_xn_ok h2; subst e
  exact ⟨_, h3, fun r1 h0 => ⟨qX11_fitting, rfl, rfl, jtX11_fitting _ M r1 h0⟩⟩
/-! X11_ask StairMeter ask ()I [('R', 0)] -/
def juX11_ask_77 (k : Int32 → Int32 → Int32 → Int32 → sy_M → sy_O) (ls st : List Value) (M : sy_M) : sy_O := sy_xc 0 ls fun l => sy_xi l fun a1 l => sy_xi l fun a2 l => sy_xi l fun a3 l => sy_xi l fun a4 l => sy_xv l fun _ l => sy_xv l fun _ l => sy_xn l (sy_xn st (k a1 a2 a3 a4 M))
theorem jwX11_ask_77 {d : Nat} {k : Int32 → Int32 → Int32 → Int32 → sy_M → sy_O} (hk : ∀ (w5 : Value) (w6 : Value) (a1 : Int32) (a2 : Int32) (a3 : Int32) (a4 : Int32) (M : sy_M) (r : xe_R × sy_M), k a1 a2 a3 a4 M = some r → sy_E (d) qX11_ask 77 [.ref 0, .int a1, .int a2, .int a3, .int a4, w5, w6] [] M r) : ∀ ls st M r, juX11_ask_77 k ls st M = some r → sy_E d qX11_ask 77 ls st M r := by
  intro ls st M r h
  obtain ⟨l, e, h1⟩ := sy_xc_ok h; subst e
  obtain ⟨a1, l, e, h2⟩ := sy_xi_ok h1; subst e
  obtain ⟨a2, l, e, h3⟩ := sy_xi_ok h2; subst e
  obtain ⟨a3, l, e, h4⟩ := sy_xi_ok h3; subst e
  obtain ⟨a4, l, e, h5⟩ := sy_xi_ok h4; subst e
  obtain ⟨w5, l, e, h6⟩ := sy_xv_ok h5; subst e
  obtain ⟨w6, l, e, h7⟩ := sy_xv_ok h6; subst e
  obtain ⟨e, h8⟩ := sy_xn_ok h7; subst e
  obtain ⟨e, h9⟩ := sy_xn_ok h8; subst e
  exact hk _ _ a1 a2 a3 a4 M r h9
def juX11_ask_39 (k : Int32 → Int32 → Int32 → Int32 → sy_M → sy_O) (ls st : List Value) (M : sy_M) : sy_O := sy_xc 0 ls fun l => sy_xi l fun a1 l => sy_xi l fun a2 l => sy_xi l fun a3 l => sy_xi l fun a4 l => sy_xv l fun _ l => sy_xv l fun _ l => sy_xn l (sy_xn st (k a1 a2 a3 a4 M))
theorem jwX11_ask_39 {d : Nat} {k : Int32 → Int32 → Int32 → Int32 → sy_M → sy_O} (hk : ∀ (w5 : Value) (w6 : Value) (a1 : Int32) (a2 : Int32) (a3 : Int32) (a4 : Int32) (M : sy_M) (r : xe_R × sy_M), k a1 a2 a3 a4 M = some r → sy_E (d) qX11_ask 39 [.ref 0, .int a1, .int a2, .int a3, .int a4, w5, w6] [] M r) : ∀ ls st M r, juX11_ask_39 k ls st M = some r → sy_E d qX11_ask 39 ls st M r := by
  intro ls st M r h
  obtain ⟨l, e, h1⟩ := sy_xc_ok h; subst e
  obtain ⟨a1, l, e, h2⟩ := sy_xi_ok h1; subst e
  obtain ⟨a2, l, e, h3⟩ := sy_xi_ok h2; subst e
  obtain ⟨a3, l, e, h4⟩ := sy_xi_ok h3; subst e
  obtain ⟨a4, l, e, h5⟩ := sy_xi_ok h4; subst e
  obtain ⟨w5, l, e, h6⟩ := sy_xv_ok h5; subst e
  obtain ⟨w6, l, e, h7⟩ := sy_xv_ok h6; subst e
  obtain ⟨e, h8⟩ := sy_xn_ok h7; subst e
  obtain ⟨e, h9⟩ := sy_xn_ok h8; subst e
  exact hk _ _ a1 a2 a3 a4 M r h9
def jfX11_ask_77 (k39 : Int32 → Int32 → Int32 → Int32 → sy_M → sy_O) (a1 : Int32) (a2 : Int32) (a3 : Int32) (a4 : Int32) (M : sy_M) : sy_O :=
  let v1 := a4 + 1
  k39 a1 a2 a3 v1 M
set_option maxRecDepth 100000 in
theorem jrX11_ask_77 (k39 : Int32 → Int32 → Int32 → Int32 → sy_M → sy_O) (w5 : Value) (w6 : Value) (a1 : Int32) (a2 : Int32) (a3 : Int32) (a4 : Int32) (M : sy_M) : sy_run skX11 qX11_ask [(77, .iinc 4 1, 3, [true, true, true, true, true, false, false]), (80, .goto (-41), 3, [])] [] [(39, juX11_ask_39 k39)] 3 [] 77 [.ref 0, .int a1, .int a2, .int a3, .int a4, w5, w6] [] M = jfX11_ask_77 k39 a1 a2 a3 a4 M := rfl
theorem jtX11_ask_77 {k39 : Int32 → Int32 → Int32 → Int32 → sy_M → sy_O} (hk39 : ∀ (w5 : Value) (w6 : Value) (a1 : Int32) (a2 : Int32) (a3 : Int32) (a4 : Int32) (M : sy_M) (r : xe_R × sy_M), k39 a1 a2 a3 a4 M = some r → sy_E (4) qX11_ask 39 [.ref 0, .int a1, .int a2, .int a3, .int a4, w5, w6] [] M r) : ∀ (w5 : Value) (w6 : Value) (a1 : Int32) (a2 : Int32) (a3 : Int32) (a4 : Int32) (M : sy_M) (r : xe_R × sy_M), jfX11_ask_77 k39 a1 a2 a3 a4 M = some r → sy_E (4) qX11_ask 77 [.ref 0, .int a1, .int a2, .int a3, .int a4, w5, w6] [] M r := by
  intro w5 w6 a1 a2 a3 a4 M r h
  exact sy_run_by (d := 3) ((jrX11_ask_77 _ _ _ _ _ _ _ M).trans h) hkX11 (by decide +kernel) sy_cs_nil (sy_us_cons (jwX11_ask_39 hk39) sy_us_nil)
def jgX11_ask_39 (k39 : Int32 → Int32 → Int32 → Int32 → sy_M → sy_O) (a1 : Int32) (a2 : Int32) (a3 : Int32) (a4 : Int32) (M : sy_M) : sy_O :=
  if a4 < 48 then
    sy_bi (jfX11_fitting a4 M) fun v2 M1 =>
    sy_bi (jfJ9_max_7cf53 v2 (a1 - v2) M1) fun v4 M3 =>
    if v4 < a3 then
      jfX11_ask_77 k39 a1 a4 v4 a4 M3
    else
      jfX11_ask_77 k39 a1 a2 a3 a4 M3
  else
    sy_ri a2 M
def jfX11_ask_39 : Nat → Int32 → Int32 → Int32 → Int32 → sy_M → sy_O
  | 0, _, _, _, _, _ => none
  | n + 1, a1, a2, a3, a4, M => jgX11_ask_39 (jfX11_ask_39 n) a1 a2 a3 a4 M
set_option maxRecDepth 100000 in
theorem jrX11_ask_39 (k39 : Int32 → Int32 → Int32 → Int32 → sy_M → sy_O) (w5 : Value) (w6 : Value) (a1 : Int32) (a2 : Int32) (a3 : Int32) (a4 : Int32) (M : sy_M) : sy_run skX11 qX11_ask [(39, .iload 4, 2, [true, true, true, true, true, false, false]), (41, .bipush 48, 2, []), (43, .if_icmp .ge 40, 3, []), (46, .aload_n 0, 1, []), (47, .iload 4, 2, []), (49, .invokevirtual 345, 3, []), (52, .istore 5, 2, []), (54, .iload 5, 2, []), (56, .iload_n 1, 1, []), (57, .iload 5, 2, []), (59, .isub, 1, []), (60, .invokestatic 324, 3, []), (63, .istore 6, 2, []), (65, .iload 6, 2, []), (67, .iload_n 3, 1, []), (68, .if_icmp .ge 9, 3, []), (71, .iload 6, 2, []), (73, .istore_n 3, 1, []), (74, .iload 4, 2, []), (76, .istore_n 2, 1, []), (83, .iload_n 2, 1, [false, false, true, false, false, false, false]), (84, .ireturn, 1, [])] [(141, 0, jcX11_fitting), (359, 0, jcJ9_max_7cf53)] [(77, juX11_ask_77 (jfX11_ask_77 k39))] 23 [] 39 [.ref 0, .int a1, .int a2, .int a3, .int a4, w5, w6] [] M = jgX11_ask_39 k39 a1 a2 a3 a4 M := rfl
theorem jtX11_ask_39 : ∀ n : Nat, ∀ (w5 : Value) (w6 : Value) (a1 : Int32) (a2 : Int32) (a3 : Int32) (a4 : Int32) (M : sy_M) (r : xe_R × sy_M), jfX11_ask_39 n a1 a2 a3 a4 M = some r → sy_E (4) qX11_ask 39 [.ref 0, .int a1, .int a2, .int a3, .int a4, w5, w6] [] M r := by
  intro n
  induction n with
  | zero => intro w5 w6 a1 a2 a3 a4 M r h; exact absurd (show (none : sy_O) = some r from h) (by simp)
  | succ n ih => intro w5 w6 a1 a2 a3 a4 M r h; exact sy_run_by (d := 3) ((jrX11_ask_39 _ _ _ _ _ _ _ M).trans h) hkX11 (by decide +kernel) (sy_cs_cons (jeX11_fitting.deep (by decide)) (sy_cs_cons (jeJ9_max_7cf53.deep (by decide)) sy_cs_nil)) (sy_us_cons (jwX11_ask_77 (jtX11_ask_77 ih)) sy_us_nil)
def jfX11_ask (M : sy_M) : sy_O :=
  sy_bv (jfX11_readClues 1 M) fun M1 =>
  sy_bv (jfX8_learn 9 M1) fun M2 =>
  sy_bi (jfX11_fitting 47 M2) fun v4 M3 =>
  if v4 < 2 then
    sy_ri (-1) M3
  else
    let v5 := (v4 + 1)
    jfX11_ask_39 sy_F v4 0 v5 0 M3
set_option maxRecDepth 100000 in
theorem jrX11_ask (M : sy_M) : sy_run skX11 qX11_ask [(0, .aload_n 0, 1, []), (1, .iconst 1, 1, []), (2, .invokevirtual 334, 3, []), (5, .aload_n 0, 1, []), (6, .getfield 75, 3, []), (9, .aload_n 0, 1, []), (10, .getfield 28, 3, []), (13, .invokevirtual 181, 3, []), (16, .aload_n 0, 1, []), (17, .bipush 47, 2, []), (19, .invokevirtual 345, 3, []), (22, .istore_n 1, 1, []), (23, .iload_n 1, 1, []), (24, .iconst 2, 1, []), (25, .if_icmp .ge 5, 3, []), (28, .iconst (-1), 1, []), (29, .ireturn, 1, []), (30, .iconst 0, 1, [true, true, false, false, false, false, false]), (31, .istore_n 2, 1, []), (32, .iload_n 1, 1, []), (33, .iconst 1, 1, []), (34, .iadd, 1, []), (35, .istore_n 3, 1, []), (36, .iconst 0, 1, []), (37, .istore 4, 2, [])] [(144, 1, jcX11_readClues), (63, 1, jcX8_learn), (141, 0, jcX11_fitting)] [(39, juX11_ask_39 (jfX11_ask_39 sy_F))] 26 [] 0 [.ref 0, xe_no, xe_no, xe_no, xe_no, xe_no, xe_no] [] M = jfX11_ask M := rfl
theorem jtX11_ask : ∀ (M : sy_M) (r : xe_R × sy_M), jfX11_ask M = some r → sy_E (4) qX11_ask 0 [.ref 0, xe_no, xe_no, xe_no, xe_no, xe_no, xe_no] [] M r := by
  intro  M r h
  exact sy_run_by (d := 3) ((jrX11_ask M).trans h) hkX11 (by decide +kernel) (sy_cs_cons (jeX11_readClues.deep (by decide)) (sy_cs_cons (jeX8_learn.deep (by decide)) (sy_cs_cons (jeX11_fitting.deep (by decide)) sy_cs_nil))) (sy_us_cons (jwX11_ask_39 (jtX11_ask_39 sy_F)) sy_us_nil)
def jcX11_ask (as : List Value) (M : sy_M) (K : sy_O → sy_O) : sy_O := sy_xc 0 as fun l => sy_xn l (K (jfX11_ask M))
theorem jeX11_ask : sy_snd (4) 140 (jcX11_ask) := by
  intro as M K r h
  obtain ⟨l, e, h1⟩ := sy_xc_ok h; subst e
  obtain ⟨e, h2⟩ := sy_xn_ok h1; subst e
  exact ⟨_, h2, fun r1 h0 => ⟨qX11_ask, rfl, rfl, jtX11_ask  M r1 h0⟩⟩
/-! L_ask StairMeterLaw ask (LStairMeter;[J)I [('R', 0), ('R', 132)] -/
def jfL_ask (M : sy_M) : sy_O :=
  sy_hi (jfX11_ask M) (fun v2 M1 =>
    let M5 := sy_wl M1 132 0 (Int32.toInt64 v2)
    sy_ri 0 M5)
  (fun c3 M4 => if c3 = 20 then sy_ri 1 M4 else none)
set_option maxRecDepth 100000 in
theorem jrL_ask (M : sy_M) : sy_run skL qL_ask [(0, .aload_n 1, 1, []), (1, .iconst 0, 1, []), (2, .aload_n 0, 1, []), (3, .invokevirtual 95, 3, []), (6, .i2l, 1, []), (7, .lastore, 1, []), (8, .goto 6, 3, []), (11, .astore_n 2, 1, [false, false, false]), (12, .iconst 1, 1, []), (13, .ireturn, 1, []), (14, .iconst 0, 1, [false, false, false]), (15, .ireturn, 1, [])] [(140, 3, jcX11_ask)] [] 13 [] 0 [.ref 0, .ref 132, xe_no] [] M = jfL_ask M := rfl
theorem jtL_ask : ∀ (M : sy_M) (r : xe_R × sy_M), jfL_ask M = some r → sy_E (5) qL_ask 0 [.ref 0, .ref 132, xe_no] [] M r := by
  intro  M r h
  exact sy_run_by (d := 4) ((jrL_ask M).trans h) hkL (by decide +kernel) (sy_cs_cons (jeX11_ask.deep (by decide)) sy_cs_nil) sy_us_nil
def jcL_ask (as : List Value) (M : sy_M) (K : sy_O → sy_O) : sy_O := sy_xc 0 as fun l => sy_xc 132 l fun l => sy_xn l (K (jfL_ask M))
theorem jeL_ask : sy_snd (5) 344 (jcL_ask) := by
  intro as M K r h
  obtain ⟨l, e, h1⟩ := sy_xc_ok h; subst e
  obtain ⟨l, e, h2⟩ := sy_xc_ok h1; subst e
  obtain ⟨e, h3⟩ := sy_xn_ok h2; subst e
  exact ⟨_, h3, fun r1 h0 => ⟨qL_ask, rfl, rfl, jtL_ask  M r1 h0⟩⟩
/-! X12_ask StairMeterModel ask ()I [('R', 121)] -/
def juX12_ask_134 (k : Int32 → Int32 → Int32 → Int32 → sy_M → sy_O) (ls st : List Value) (M : sy_M) : sy_O := sy_xc 121 ls fun l => sy_xi l fun a1 l => sy_xi l fun a2 l => sy_xi l fun a3 l => sy_xi l fun a4 l => sy_xv l fun _ l => sy_xv l fun _ l => sy_xn l (sy_xn st (k a1 a2 a3 a4 M))
theorem jwX12_ask_134 {d : Nat} {k : Int32 → Int32 → Int32 → Int32 → sy_M → sy_O} (hk : ∀ (w5 : Value) (w6 : Value) (a1 : Int32) (a2 : Int32) (a3 : Int32) (a4 : Int32) (M : sy_M) (r : xe_R × sy_M), k a1 a2 a3 a4 M = some r → sy_E (d) qX12_ask 134 [.ref 121, .int a1, .int a2, .int a3, .int a4, w5, w6] [] M r) : ∀ ls st M r, juX12_ask_134 k ls st M = some r → sy_E d qX12_ask 134 ls st M r := by
  intro ls st M r h
  obtain ⟨l, e, h1⟩ := sy_xc_ok h; subst e
  obtain ⟨a1, l, e, h2⟩ := sy_xi_ok h1; subst e
  obtain ⟨a2, l, e, h3⟩ := sy_xi_ok h2; subst e
  obtain ⟨a3, l, e, h4⟩ := sy_xi_ok h3; subst e
  obtain ⟨a4, l, e, h5⟩ := sy_xi_ok h4; subst e
  obtain ⟨w5, l, e, h6⟩ := sy_xv_ok h5; subst e
  obtain ⟨w6, l, e, h7⟩ := sy_xv_ok h6; subst e
  obtain ⟨e, h8⟩ := sy_xn_ok h7; subst e
  obtain ⟨e, h9⟩ := sy_xn_ok h8; subst e
  exact hk _ _ a1 a2 a3 a4 M r h9
def juX12_ask_96 (k : Int32 → Int32 → Int32 → Int32 → Int32 → Int32 → Int32 → sy_M → sy_O) (ls st : List Value) (M : sy_M) : sy_O := sy_xc 121 ls fun l => sy_xi l fun a1 l => sy_xi l fun a2 l => sy_xi l fun a3 l => sy_xi l fun a4 l => sy_xv l fun _ l => sy_xi l fun a6 l => sy_xn l (sy_xi st fun s0 l => sy_xi l fun s1 l => sy_xn l (k a1 a2 a3 a4 a6 s0 s1 M))
theorem jwX12_ask_96 {d : Nat} {k : Int32 → Int32 → Int32 → Int32 → Int32 → Int32 → Int32 → sy_M → sy_O} (hk : ∀ (w5 : Value) (a1 : Int32) (a2 : Int32) (a3 : Int32) (a4 : Int32) (a6 : Int32) (s0 : Int32) (s1 : Int32) (M : sy_M) (r : xe_R × sy_M), k a1 a2 a3 a4 a6 s0 s1 M = some r → sy_E (d) qX12_ask 96 [.ref 121, .int a1, .int a2, .int a3, .int a4, w5, .int a6] [.int s0, .int s1] M r) : ∀ ls st M r, juX12_ask_96 k ls st M = some r → sy_E d qX12_ask 96 ls st M r := by
  intro ls st M r h
  obtain ⟨l, e, h1⟩ := sy_xc_ok h; subst e
  obtain ⟨a1, l, e, h2⟩ := sy_xi_ok h1; subst e
  obtain ⟨a2, l, e, h3⟩ := sy_xi_ok h2; subst e
  obtain ⟨a3, l, e, h4⟩ := sy_xi_ok h3; subst e
  obtain ⟨a4, l, e, h5⟩ := sy_xi_ok h4; subst e
  obtain ⟨w5, l, e, h6⟩ := sy_xv_ok h5; subst e
  obtain ⟨a6, l, e, h7⟩ := sy_xi_ok h6; subst e
  obtain ⟨e, h8⟩ := sy_xn_ok h7; subst e
  obtain ⟨s0, l, e, h9⟩ := sy_xi_ok h8; subst e
  obtain ⟨s1, l, e, h10⟩ := sy_xi_ok h9; subst e
  obtain ⟨e, h11⟩ := sy_xn_ok h10; subst e
  exact hk _ a1 a2 a3 a4 a6 s0 s1 M r h11
def juX12_ask_95 (k : Int32 → Int32 → Int32 → Int32 → Int32 → Int32 → sy_M → sy_O) (ls st : List Value) (M : sy_M) : sy_O := sy_xc 121 ls fun l => sy_xi l fun a1 l => sy_xi l fun a2 l => sy_xi l fun a3 l => sy_xi l fun a4 l => sy_xv l fun _ l => sy_xi l fun a6 l => sy_xn l (sy_xi st fun s0 l => sy_xn l (k a1 a2 a3 a4 a6 s0 M))
theorem jwX12_ask_95 {d : Nat} {k : Int32 → Int32 → Int32 → Int32 → Int32 → Int32 → sy_M → sy_O} (hk : ∀ (w5 : Value) (a1 : Int32) (a2 : Int32) (a3 : Int32) (a4 : Int32) (a6 : Int32) (s0 : Int32) (M : sy_M) (r : xe_R × sy_M), k a1 a2 a3 a4 a6 s0 M = some r → sy_E (d) qX12_ask 95 [.ref 121, .int a1, .int a2, .int a3, .int a4, w5, .int a6] [.int s0] M r) : ∀ ls st M r, juX12_ask_95 k ls st M = some r → sy_E d qX12_ask 95 ls st M r := by
  intro ls st M r h
  obtain ⟨l, e, h1⟩ := sy_xc_ok h; subst e
  obtain ⟨a1, l, e, h2⟩ := sy_xi_ok h1; subst e
  obtain ⟨a2, l, e, h3⟩ := sy_xi_ok h2; subst e
  obtain ⟨a3, l, e, h4⟩ := sy_xi_ok h3; subst e
  obtain ⟨a4, l, e, h5⟩ := sy_xi_ok h4; subst e
  obtain ⟨w5, l, e, h6⟩ := sy_xv_ok h5; subst e
  obtain ⟨a6, l, e, h7⟩ := sy_xi_ok h6; subst e
  obtain ⟨e, h8⟩ := sy_xn_ok h7; subst e
  obtain ⟨s0, l, e, h9⟩ := sy_xi_ok h8; subst e
  obtain ⟨e, h10⟩ := sy_xn_ok h9; subst e
  exact hk _ a1 a2 a3 a4 a6 s0 M r h10
def juX12_ask_55 (k : Int32 → Int32 → Int32 → Int32 → Int32 → Int32 → sy_M → sy_O) (ls st : List Value) (M : sy_M) : sy_O := sy_xc 121 ls fun l => sy_xi l fun a1 l => sy_xi l fun a2 l => sy_xi l fun a3 l => sy_xi l fun a4 l => sy_xi l fun a5 l => sy_xi l fun a6 l => sy_xn l (sy_xn st (k a1 a2 a3 a4 a5 a6 M))
theorem jwX12_ask_55 {d : Nat} {k : Int32 → Int32 → Int32 → Int32 → Int32 → Int32 → sy_M → sy_O} (hk : ∀ (a1 : Int32) (a2 : Int32) (a3 : Int32) (a4 : Int32) (a5 : Int32) (a6 : Int32) (M : sy_M) (r : xe_R × sy_M), k a1 a2 a3 a4 a5 a6 M = some r → sy_E (d) qX12_ask 55 [.ref 121, .int a1, .int a2, .int a3, .int a4, .int a5, .int a6] [] M r) : ∀ ls st M r, juX12_ask_55 k ls st M = some r → sy_E d qX12_ask 55 ls st M r := by
  intro ls st M r h
  obtain ⟨l, e, h1⟩ := sy_xc_ok h; subst e
  obtain ⟨a1, l, e, h2⟩ := sy_xi_ok h1; subst e
  obtain ⟨a2, l, e, h3⟩ := sy_xi_ok h2; subst e
  obtain ⟨a3, l, e, h4⟩ := sy_xi_ok h3; subst e
  obtain ⟨a4, l, e, h5⟩ := sy_xi_ok h4; subst e
  obtain ⟨a5, l, e, h6⟩ := sy_xi_ok h5; subst e
  obtain ⟨a6, l, e, h7⟩ := sy_xi_ok h6; subst e
  obtain ⟨e, h8⟩ := sy_xn_ok h7; subst e
  obtain ⟨e, h9⟩ := sy_xn_ok h8; subst e
  exact hk a1 a2 a3 a4 a5 a6 M r h9
def juX12_ask_37 (k : Int32 → Int32 → Int32 → Int32 → sy_M → sy_O) (ls st : List Value) (M : sy_M) : sy_O := sy_xc 121 ls fun l => sy_xi l fun a1 l => sy_xi l fun a2 l => sy_xi l fun a3 l => sy_xi l fun a4 l => sy_xv l fun _ l => sy_xv l fun _ l => sy_xn l (sy_xn st (k a1 a2 a3 a4 M))
theorem jwX12_ask_37 {d : Nat} {k : Int32 → Int32 → Int32 → Int32 → sy_M → sy_O} (hk : ∀ (w5 : Value) (w6 : Value) (a1 : Int32) (a2 : Int32) (a3 : Int32) (a4 : Int32) (M : sy_M) (r : xe_R × sy_M), k a1 a2 a3 a4 M = some r → sy_E (d) qX12_ask 37 [.ref 121, .int a1, .int a2, .int a3, .int a4, w5, w6] [] M r) : ∀ ls st M r, juX12_ask_37 k ls st M = some r → sy_E d qX12_ask 37 ls st M r := by
  intro ls st M r h
  obtain ⟨l, e, h1⟩ := sy_xc_ok h; subst e
  obtain ⟨a1, l, e, h2⟩ := sy_xi_ok h1; subst e
  obtain ⟨a2, l, e, h3⟩ := sy_xi_ok h2; subst e
  obtain ⟨a3, l, e, h4⟩ := sy_xi_ok h3; subst e
  obtain ⟨a4, l, e, h5⟩ := sy_xi_ok h4; subst e
  obtain ⟨w5, l, e, h6⟩ := sy_xv_ok h5; subst e
  obtain ⟨w6, l, e, h7⟩ := sy_xv_ok h6; subst e
  obtain ⟨e, h8⟩ := sy_xn_ok h7; subst e
  obtain ⟨e, h9⟩ := sy_xn_ok h8; subst e
  exact hk _ _ a1 a2 a3 a4 M r h9
def juX12_ask_16 (k : Int32 → Int32 → sy_M → sy_O) (ls st : List Value) (M : sy_M) : sy_O := sy_xc 121 ls fun l => sy_xi l fun a1 l => sy_xv l fun _ l => sy_xv l fun _ l => sy_xv l fun _ l => sy_xv l fun _ l => sy_xv l fun _ l => sy_xn l (sy_xi st fun s0 l => sy_xc 121 l fun l => sy_xn l (k a1 s0 M))
theorem jwX12_ask_16 {d : Nat} {k : Int32 → Int32 → sy_M → sy_O} (hk : ∀ (w2 : Value) (w3 : Value) (w4 : Value) (w5 : Value) (w6 : Value) (a1 : Int32) (s0 : Int32) (M : sy_M) (r : xe_R × sy_M), k a1 s0 M = some r → sy_E (d) qX12_ask 16 [.ref 121, .int a1, w2, w3, w4, w5, w6] [.int s0, .ref 121] M r) : ∀ ls st M r, juX12_ask_16 k ls st M = some r → sy_E d qX12_ask 16 ls st M r := by
  intro ls st M r h
  obtain ⟨l, e, h1⟩ := sy_xc_ok h; subst e
  obtain ⟨a1, l, e, h2⟩ := sy_xi_ok h1; subst e
  obtain ⟨w2, l, e, h3⟩ := sy_xv_ok h2; subst e
  obtain ⟨w3, l, e, h4⟩ := sy_xv_ok h3; subst e
  obtain ⟨w4, l, e, h5⟩ := sy_xv_ok h4; subst e
  obtain ⟨w5, l, e, h6⟩ := sy_xv_ok h5; subst e
  obtain ⟨w6, l, e, h7⟩ := sy_xv_ok h6; subst e
  obtain ⟨e, h8⟩ := sy_xn_ok h7; subst e
  obtain ⟨s0, l, e, h9⟩ := sy_xi_ok h8; subst e
  obtain ⟨l, e, h10⟩ := sy_xc_ok h9; subst e
  obtain ⟨e, h11⟩ := sy_xn_ok h10; subst e
  exact hk _ _ _ _ _ a1 s0 M r h11
def jfX12_ask_134 (k37 : Int32 → Int32 → Int32 → Int32 → sy_M → sy_O) (a1 : Int32) (a2 : Int32) (a3 : Int32) (a4 : Int32) (M : sy_M) : sy_O :=
  let v1 := a4 + 1
  k37 a1 a2 a3 v1 M
set_option maxRecDepth 100000 in
theorem jrX12_ask_134 (k37 : Int32 → Int32 → Int32 → Int32 → sy_M → sy_O) (w5 : Value) (w6 : Value) (a1 : Int32) (a2 : Int32) (a3 : Int32) (a4 : Int32) (M : sy_M) : sy_run skX12 qX12_ask [(134, .iinc 4 1, 3, [true, true, true, true, true, false, false]), (137, .goto (-100), 3, [])] [] [(37, juX12_ask_37 k37)] 3 [] 134 [.ref 121, .int a1, .int a2, .int a3, .int a4, w5, w6] [] M = jfX12_ask_134 k37 a1 a2 a3 a4 M := rfl
theorem jtX12_ask_134 {k37 : Int32 → Int32 → Int32 → Int32 → sy_M → sy_O} (hk37 : ∀ (w5 : Value) (w6 : Value) (a1 : Int32) (a2 : Int32) (a3 : Int32) (a4 : Int32) (M : sy_M) (r : xe_R × sy_M), k37 a1 a2 a3 a4 M = some r → sy_E (4) qX12_ask 37 [.ref 121, .int a1, .int a2, .int a3, .int a4, w5, w6] [] M r) : ∀ (w5 : Value) (w6 : Value) (a1 : Int32) (a2 : Int32) (a3 : Int32) (a4 : Int32) (M : sy_M) (r : xe_R × sy_M), jfX12_ask_134 k37 a1 a2 a3 a4 M = some r → sy_E (4) qX12_ask 134 [.ref 121, .int a1, .int a2, .int a3, .int a4, w5, w6] [] M r := by
  intro w5 w6 a1 a2 a3 a4 M r h
  exact sy_run_by (d := 3) ((jrX12_ask_134 _ _ _ _ _ _ _ M).trans h) hkX12 (by decide +kernel) sy_cs_nil (sy_us_cons (jwX12_ask_37 hk37) sy_us_nil)
def jfX12_ask_96 (k37 : Int32 → Int32 → Int32 → Int32 → sy_M → sy_O) (k55 : Int32 → Int32 → Int32 → Int32 → Int32 → Int32 → sy_M → sy_O) (a1 : Int32) (a2 : Int32) (a3 : Int32) (a4 : Int32) (a6 : Int32) (s0 : Int32) (s1 : Int32) (M : sy_M) : sy_O :=
  let v1 := (s1 + s0)
  let v2 := a6 + 1
  k55 a1 a2 a3 a4 v1 v2 M
set_option maxRecDepth 100000 in
theorem jrX12_ask_96 (k37 : Int32 → Int32 → Int32 → Int32 → sy_M → sy_O) (k55 : Int32 → Int32 → Int32 → Int32 → Int32 → Int32 → sy_M → sy_O) (w5 : Value) (a1 : Int32) (a2 : Int32) (a3 : Int32) (a4 : Int32) (a6 : Int32) (s0 : Int32) (s1 : Int32) (M : sy_M) : sy_run skX12 qX12_ask [(96, .iadd, 1, [true, true, true, true, true, false, true]), (97, .istore 5, 2, []), (99, .iinc 6 1, 3, []), (102, .goto (-47), 3, [])] [] [(55, juX12_ask_55 k55)] 5 [] 96 [.ref 121, .int a1, .int a2, .int a3, .int a4, w5, .int a6] [.int s0, .int s1] M = jfX12_ask_96 k37 k55 a1 a2 a3 a4 a6 s0 s1 M := rfl
theorem jtX12_ask_96 {k37 : Int32 → Int32 → Int32 → Int32 → sy_M → sy_O} (hk37 : ∀ (w5 : Value) (w6 : Value) (a1 : Int32) (a2 : Int32) (a3 : Int32) (a4 : Int32) (M : sy_M) (r : xe_R × sy_M), k37 a1 a2 a3 a4 M = some r → sy_E (4) qX12_ask 37 [.ref 121, .int a1, .int a2, .int a3, .int a4, w5, w6] [] M r) {k55 : Int32 → Int32 → Int32 → Int32 → Int32 → Int32 → sy_M → sy_O} (hk55 : ∀ (a1 : Int32) (a2 : Int32) (a3 : Int32) (a4 : Int32) (a5 : Int32) (a6 : Int32) (M : sy_M) (r : xe_R × sy_M), k55 a1 a2 a3 a4 a5 a6 M = some r → sy_E (4) qX12_ask 55 [.ref 121, .int a1, .int a2, .int a3, .int a4, .int a5, .int a6] [] M r) : ∀ (w5 : Value) (a1 : Int32) (a2 : Int32) (a3 : Int32) (a4 : Int32) (a6 : Int32) (s0 : Int32) (s1 : Int32) (M : sy_M) (r : xe_R × sy_M), jfX12_ask_96 k37 k55 a1 a2 a3 a4 a6 s0 s1 M = some r → sy_E (4) qX12_ask 96 [.ref 121, .int a1, .int a2, .int a3, .int a4, w5, .int a6] [.int s0, .int s1] M r := by
  intro w5 a1 a2 a3 a4 a6 s0 s1 M r h
  exact sy_run_by (d := 3) ((jrX12_ask_96 _ _ _ _ _ _ _ _ _ _ M).trans h) hkX12 (by decide +kernel) sy_cs_nil (sy_us_cons (jwX12_ask_55 hk55) sy_us_nil)
def jfX12_ask_95 (k37 : Int32 → Int32 → Int32 → Int32 → sy_M → sy_O) (k55 : Int32 → Int32 → Int32 → Int32 → Int32 → Int32 → sy_M → sy_O) (a1 : Int32) (a2 : Int32) (a3 : Int32) (a4 : Int32) (a6 : Int32) (s0 : Int32) (M : sy_M) : sy_O :=
  jfX12_ask_96 k37 k55 a1 a2 a3 a4 a6 0 s0 M
set_option maxRecDepth 100000 in
theorem jrX12_ask_95 (k37 : Int32 → Int32 → Int32 → Int32 → sy_M → sy_O) (k55 : Int32 → Int32 → Int32 → Int32 → Int32 → Int32 → sy_M → sy_O) (w5 : Value) (a1 : Int32) (a2 : Int32) (a3 : Int32) (a4 : Int32) (a6 : Int32) (s0 : Int32) (M : sy_M) : sy_run skX12 qX12_ask [(95, .iconst 0, 1, [true, true, true, true, true, false, true])] [] [(96, juX12_ask_96 (jfX12_ask_96 k37 k55))] 2 [] 95 [.ref 121, .int a1, .int a2, .int a3, .int a4, w5, .int a6] [.int s0] M = jfX12_ask_95 k37 k55 a1 a2 a3 a4 a6 s0 M := rfl
theorem jtX12_ask_95 {k37 : Int32 → Int32 → Int32 → Int32 → sy_M → sy_O} (hk37 : ∀ (w5 : Value) (w6 : Value) (a1 : Int32) (a2 : Int32) (a3 : Int32) (a4 : Int32) (M : sy_M) (r : xe_R × sy_M), k37 a1 a2 a3 a4 M = some r → sy_E (4) qX12_ask 37 [.ref 121, .int a1, .int a2, .int a3, .int a4, w5, w6] [] M r) {k55 : Int32 → Int32 → Int32 → Int32 → Int32 → Int32 → sy_M → sy_O} (hk55 : ∀ (a1 : Int32) (a2 : Int32) (a3 : Int32) (a4 : Int32) (a5 : Int32) (a6 : Int32) (M : sy_M) (r : xe_R × sy_M), k55 a1 a2 a3 a4 a5 a6 M = some r → sy_E (4) qX12_ask 55 [.ref 121, .int a1, .int a2, .int a3, .int a4, .int a5, .int a6] [] M r) : ∀ (w5 : Value) (a1 : Int32) (a2 : Int32) (a3 : Int32) (a4 : Int32) (a6 : Int32) (s0 : Int32) (M : sy_M) (r : xe_R × sy_M), jfX12_ask_95 k37 k55 a1 a2 a3 a4 a6 s0 M = some r → sy_E (4) qX12_ask 95 [.ref 121, .int a1, .int a2, .int a3, .int a4, w5, .int a6] [.int s0] M r := by
  intro w5 a1 a2 a3 a4 a6 s0 M r h
  exact sy_run_by (d := 3) ((jrX12_ask_95 _ _ _ _ _ _ _ _ _ M).trans h) hkX12 (by decide +kernel) sy_cs_nil (sy_us_cons (jwX12_ask_96 (jtX12_ask_96 hk37 hk55)) sy_us_nil)
def jgX12_ask_55 (k37 : Int32 → Int32 → Int32 → Int32 → sy_M → sy_O) (k55 : Int32 → Int32 → Int32 → Int32 → Int32 → Int32 → sy_M → sy_O) (a1 : Int32) (a2 : Int32) (a3 : Int32) (a4 : Int32) (a5 : Int32) (a6 : Int32) (M : sy_M) : sy_O :=
  if a6 < (48 * (M 122 3)) then
    sy_bx (xe_in a6 336) <|
    if (M 131 (Int32.toNatClampNeg a6)) = 0 then
      jfX12_ask_95 k37 k55 a1 a2 a3 a4 a6 a5 M
    else
      if a4 < (a6 - a6 / 48 * 48) then
        jfX12_ask_95 k37 k55 a1 a2 a3 a4 a6 a5 M
      else
        jfX12_ask_96 k37 k55 a1 a2 a3 a4 a6 1 a5 M
  else
    sy_bi (jfX12_greater a5 (a1 - a5) M) fun v2 M1 =>
    if v2 < a3 then
      sy_bi (jfX12_greater a5 (a1 - a5) M1) fun v4 M3 =>
      jfX12_ask_134 k37 a1 a4 v4 a4 M3
    else
      jfX12_ask_134 k37 a1 a2 a3 a4 M1
def jfX12_ask_55 (k37 : Int32 → Int32 → Int32 → Int32 → sy_M → sy_O) : Nat → Int32 → Int32 → Int32 → Int32 → Int32 → Int32 → sy_M → sy_O
  | 0, _, _, _, _, _, _, _ => none
  | n + 1, a1, a2, a3, a4, a5, a6, M => jgX12_ask_55 k37 (jfX12_ask_55 k37 n) a1 a2 a3 a4 a5 a6 M
set_option maxRecDepth 100000 in
theorem jrX12_ask_55 (k37 : Int32 → Int32 → Int32 → Int32 → sy_M → sy_O) (k55 : Int32 → Int32 → Int32 → Int32 → Int32 → Int32 → sy_M → sy_O) (a1 : Int32) (a2 : Int32) (a3 : Int32) (a4 : Int32) (a5 : Int32) (a6 : Int32) (M : sy_M) : sy_run skX12 qX12_ask [(55, .iload 6, 2, []), (57, .bipush 48, 2, []), (59, .aload_n 0, 1, []), (60, .getfield 7, 3, []), (63, .iconst 3, 1, []), (64, .iaload, 1, []), (65, .imul, 1, []), (66, .if_icmp .ge 39, 3, []), (69, .iload 5, 2, []), (71, .aload_n 0, 1, []), (72, .getfield 41, 3, []), (75, .iload 6, 2, []), (77, .baload, 1, []), (78, .ifCond .eq 17, 3, []), (81, .iload 6, 2, []), (83, .bipush 48, 2, []), (85, .irem, 1, []), (86, .iload 4, 2, []), (88, .if_icmp .gt 7, 3, []), (91, .iconst 1, 1, []), (92, .goto 4, 3, []), (105, .iload 5, 2, [true, true, true, true, true, true, false]), (107, .iload_n 1, 1, []), (108, .iload 5, 2, []), (110, .isub, 1, []), (111, .invokestatic 333, 3, []), (114, .iload_n 3, 1, []), (115, .if_icmp .lt 6, 3, []), (118, .goto 16, 3, []), (121, .iload 5, 2, [true, true, false, false, true, true, false]), (123, .iload_n 1, 1, []), (124, .iload 5, 2, []), (126, .isub, 1, []), (127, .invokestatic 333, 3, []), (130, .istore_n 3, 1, []), (131, .iload 4, 2, []), (133, .istore_n 2, 1, [])] [(184, 0, jcX12_greater)] [(134, juX12_ask_134 (jfX12_ask_134 k37)), (95, juX12_ask_95 (jfX12_ask_95 k37 k55)), (96, juX12_ask_96 (jfX12_ask_96 k37 k55))] 38 [] 55 [.ref 121, .int a1, .int a2, .int a3, .int a4, .int a5, .int a6] [] M = jgX12_ask_55 k37 k55 a1 a2 a3 a4 a5 a6 M := rfl
theorem jtX12_ask_55 {k37 : Int32 → Int32 → Int32 → Int32 → sy_M → sy_O} (hk37 : ∀ (w5 : Value) (w6 : Value) (a1 : Int32) (a2 : Int32) (a3 : Int32) (a4 : Int32) (M : sy_M) (r : xe_R × sy_M), k37 a1 a2 a3 a4 M = some r → sy_E (4) qX12_ask 37 [.ref 121, .int a1, .int a2, .int a3, .int a4, w5, w6] [] M r) : ∀ n : Nat, ∀ (a1 : Int32) (a2 : Int32) (a3 : Int32) (a4 : Int32) (a5 : Int32) (a6 : Int32) (M : sy_M) (r : xe_R × sy_M), jfX12_ask_55 k37 n a1 a2 a3 a4 a5 a6 M = some r → sy_E (4) qX12_ask 55 [.ref 121, .int a1, .int a2, .int a3, .int a4, .int a5, .int a6] [] M r := by
  intro n
  induction n with
  | zero => intro a1 a2 a3 a4 a5 a6 M r h; exact absurd (show (none : sy_O) = some r from h) (by simp)
  | succ n ih => intro a1 a2 a3 a4 a5 a6 M r h; exact sy_run_by (d := 3) ((jrX12_ask_55 _ _ _ _ _ _ _ _ M).trans h) hkX12 (by decide +kernel) (sy_cs_cons (jeX12_greater.deep (by decide)) sy_cs_nil) (sy_us_cons (jwX12_ask_134 (jtX12_ask_134 hk37)) (sy_us_cons (jwX12_ask_95 (jtX12_ask_95 hk37 ih)) (sy_us_cons (jwX12_ask_96 (jtX12_ask_96 hk37 ih)) sy_us_nil)))
def jgX12_ask_37 (k37 : Int32 → Int32 → Int32 → Int32 → sy_M → sy_O) (a1 : Int32) (a2 : Int32) (a3 : Int32) (a4 : Int32) (M : sy_M) : sy_O :=
  if a4 < 48 then
    if 1 < a1 then
      jfX12_ask_55 k37 sy_F a1 a2 a3 a4 0 0 M
    else
      sy_ri a2 M
  else
    sy_ri a2 M
def jfX12_ask_37 : Nat → Int32 → Int32 → Int32 → Int32 → sy_M → sy_O
  | 0, _, _, _, _, _ => none
  | n + 1, a1, a2, a3, a4, M => jgX12_ask_37 (jfX12_ask_37 n) a1 a2 a3 a4 M
set_option maxRecDepth 100000 in
theorem jrX12_ask_37 (k37 : Int32 → Int32 → Int32 → Int32 → sy_M → sy_O) (w5 : Value) (w6 : Value) (a1 : Int32) (a2 : Int32) (a3 : Int32) (a4 : Int32) (M : sy_M) : sy_run skX12 qX12_ask [(37, .iload 4, 2, [true, true, true, true, true, false, false]), (39, .bipush 48, 2, []), (41, .if_icmp .ge 99, 3, []), (44, .iload_n 1, 1, []), (45, .iconst 1, 1, []), (46, .if_icmp .le 94, 3, []), (49, .iconst 0, 1, []), (50, .istore 5, 2, []), (52, .iconst 0, 1, []), (53, .istore 6, 2, []), (140, .iload_n 2, 1, [false, false, true, false, false, false, false]), (141, .ireturn, 1, [])] [] [(55, juX12_ask_55 (jfX12_ask_55 k37 sy_F))] 13 [] 37 [.ref 121, .int a1, .int a2, .int a3, .int a4, w5, w6] [] M = jgX12_ask_37 k37 a1 a2 a3 a4 M := rfl
theorem jtX12_ask_37 : ∀ n : Nat, ∀ (w5 : Value) (w6 : Value) (a1 : Int32) (a2 : Int32) (a3 : Int32) (a4 : Int32) (M : sy_M) (r : xe_R × sy_M), jfX12_ask_37 n a1 a2 a3 a4 M = some r → sy_E (4) qX12_ask 37 [.ref 121, .int a1, .int a2, .int a3, .int a4, w5, w6] [] M r := by
  intro n
  induction n with
  | zero => intro w5 w6 a1 a2 a3 a4 M r h; exact absurd (show (none : sy_O) = some r from h) (by simp)
  | succ n ih => intro w5 w6 a1 a2 a3 a4 M r h; exact sy_run_by (d := 3) ((jrX12_ask_37 _ _ _ _ _ _ _ M).trans h) hkX12 (by decide +kernel) sy_cs_nil (sy_us_cons (jwX12_ask_55 (jtX12_ask_55 ih sy_F)) sy_us_nil)
def jfX12_ask_16 (a1 : Int32) (s0 : Int32) (M : sy_M) : sy_O :=
  let M1 := sy_upd M 121 0 s0
  if 0 < (M1 121 0) then
    sy_ri 0 M1
  else
    jfX12_ask_37 sy_F a1 (-1) 2000000000 0 M1
set_option maxRecDepth 100000 in
theorem jrX12_ask_16 (w2 : Value) (w3 : Value) (w4 : Value) (w5 : Value) (w6 : Value) (a1 : Int32) (s0 : Int32) (M : sy_M) : sy_run skX12 qX12_ask [(16, .putfield 45, 3, [true, true, false, false, false, false, false]), (19, .aload_n 0, 1, []), (20, .getfield 45, 3, []), (23, .ifCond .le 5, 3, []), (26, .iconst 0, 1, []), (27, .ireturn, 1, []), (28, .iconst (-1), 1, [true, true, false, false, false, false, false]), (29, .istore_n 2, 1, []), (30, .ldc_w 339, 3, []), (33, .istore_n 3, 1, []), (34, .iconst 0, 1, []), (35, .istore 4, 2, [])] [] [(37, juX12_ask_37 (jfX12_ask_37 sy_F))] 13 [] 16 [.ref 121, .int a1, w2, w3, w4, w5, w6] [.int s0, .ref 121] M = jfX12_ask_16 a1 s0 M := rfl
theorem jtX12_ask_16 : ∀ (w2 : Value) (w3 : Value) (w4 : Value) (w5 : Value) (w6 : Value) (a1 : Int32) (s0 : Int32) (M : sy_M) (r : xe_R × sy_M), jfX12_ask_16 a1 s0 M = some r → sy_E (4) qX12_ask 16 [.ref 121, .int a1, w2, w3, w4, w5, w6] [.int s0, .ref 121] M r := by
  intro w2 w3 w4 w5 w6 a1 s0 M r h
  exact sy_run_by (d := 3) ((jrX12_ask_16 _ _ _ _ _ _ _ M).trans h) hkX12 (by decide +kernel) sy_cs_nil (sy_us_cons (jwX12_ask_37 (jtX12_ask_37 sy_F)) sy_us_nil)
def jfX12_ask (M : sy_M) : sy_O :=
  sy_bi (jfX12_heard M) fun v2 M1 =>
  if v2 = (-1) then
    jfX12_ask_16 v2 1 M1
  else
    jfX12_ask_16 v2 0 M1
set_option maxRecDepth 100000 in
theorem jrX12_ask (M : sy_M) : sy_run skX12 qX12_ask [(0, .aload_n 0, 1, []), (1, .invokevirtual 355, 3, []), (4, .istore_n 1, 1, []), (5, .aload_n 0, 1, []), (6, .iload_n 1, 1, []), (7, .iconst (-1), 1, []), (8, .if_icmp .ne 7, 3, []), (11, .iconst 1, 1, []), (12, .goto 4, 3, []), (15, .iconst 0, 1, [true, true, false, false, false, false, false])] [(281, 0, jcX12_heard)] [(16, juX12_ask_16 (jfX12_ask_16))] 11 [] 0 [.ref 121, xe_no, xe_no, xe_no, xe_no, xe_no, xe_no] [] M = jfX12_ask M := rfl
theorem jtX12_ask : ∀ (M : sy_M) (r : xe_R × sy_M), jfX12_ask M = some r → sy_E (4) qX12_ask 0 [.ref 121, xe_no, xe_no, xe_no, xe_no, xe_no, xe_no] [] M r := by
  intro  M r h
  exact sy_run_by (d := 3) ((jrX12_ask M).trans h) hkX12 (by decide +kernel) (sy_cs_cons (jeX12_heard.deep (by decide)) sy_cs_nil) (sy_us_cons (jwX12_ask_16 (jtX12_ask_16)) sy_us_nil)
def jcX12_ask (as : List Value) (M : sy_M) (K : sy_O → sy_O) : sy_O := sy_xc 121 as fun l => sy_xn l (K (jfX12_ask M))
theorem jeX12_ask : sy_snd (4) 283 (jcX12_ask) := by
  intro as M K r h
  obtain ⟨l, e, h1⟩ := sy_xc_ok h; subst e
  obtain ⟨e, h2⟩ := sy_xn_ok h1; subst e
  exact ⟨_, h2, fun r1 h0 => ⟨qX12_ask, rfl, rfl, jtX12_ask  M r1 h0⟩⟩
/-! X11_isDrawn StairMeter isDrawn (I)Z [('R', 0), 'I'] -/
def juX11_isDrawn_2 (k : Int32 → Int32 → sy_M → sy_O) (ls st : List Value) (M : sy_M) : sy_O := sy_xc 0 ls fun l => sy_xi l fun a1 l => sy_xi l fun a2 l => sy_xn l (sy_xn st (k a1 a2 M))
theorem jwX11_isDrawn_2 {d : Nat} {k : Int32 → Int32 → sy_M → sy_O} (hk : ∀ (a1 : Int32) (a2 : Int32) (M : sy_M) (r : xe_R × sy_M), k a1 a2 M = some r → sy_E (d) qX11_isDrawn 2 [.ref 0, .int a1, .int a2] [] M r) : ∀ ls st M r, juX11_isDrawn_2 k ls st M = some r → sy_E d qX11_isDrawn 2 ls st M r := by
  intro ls st M r h
  obtain ⟨l, e, h1⟩ := sy_xc_ok h; subst e
  obtain ⟨a1, l, e, h2⟩ := sy_xi_ok h1; subst e
  obtain ⟨a2, l, e, h3⟩ := sy_xi_ok h2; subst e
  obtain ⟨e, h4⟩ := sy_xn_ok h3; subst e
  obtain ⟨e, h5⟩ := sy_xn_ok h4; subst e
  exact hk a1 a2 M r h5
def jgX11_isDrawn_2 (k2 : Int32 → Int32 → sy_M → sy_O) (a1 : Int32) (a2 : Int32) (M : sy_M) : sy_O :=
  if a2 < (M 6 2) then
    if a2 < 20 then
      sy_bx (xe_in a2 20) <|
      sy_bi (jfX8_presentAt (M 7 (Int32.toNatClampNeg a2)) M) fun v2 M1 =>
      sy_bi (jfX2_burnt 9 (a1 &&& v2) M1) fun v4 M3 =>
      sy_bx (xe_in a2 20) <|
      if v4 = (M3 8 (Int32.toNatClampNeg a2)) then
        let v5 := a2 + 1
        k2 a1 v5 M3
      else
        sy_ri 0 M3
    else
      sy_ri 1 M
  else
    sy_ri 1 M
def jfX11_isDrawn_2 : Nat → Int32 → Int32 → sy_M → sy_O
  | 0, _, _, _ => none
  | n + 1, a1, a2, M => jgX11_isDrawn_2 (jfX11_isDrawn_2 n) a1 a2 M
set_option maxRecDepth 100000 in
theorem jrX11_isDrawn_2 (k2 : Int32 → Int32 → sy_M → sy_O) (a1 : Int32) (a2 : Int32) (M : sy_M) : sy_run skX11 qX11_isDrawn [(2, .iload_n 2, 1, []), (3, .aload_n 0, 1, []), (4, .getfield 19, 3, []), (7, .getfield 354, 3, []), (10, .if_icmp .ge 54, 3, []), (13, .iload_n 2, 1, []), (14, .bipush 20, 2, []), (16, .if_icmp .ge 48, 3, []), (19, .aload_n 0, 1, []), (20, .getfield 28, 3, []), (23, .iload_n 1, 1, []), (24, .aload_n 0, 1, []), (25, .getfield 75, 3, []), (28, .aload_n 0, 1, []), (29, .getfield 19, 3, []), (32, .getfield 355, 3, []), (35, .iload_n 2, 1, []), (36, .iaload, 1, []), (37, .invokevirtual 245, 3, []), (40, .iand, 1, []), (41, .invokevirtual 321, 3, []), (44, .aload_n 0, 1, []), (45, .getfield 19, 3, []), (48, .getfield 357, 3, []), (51, .iload_n 2, 1, []), (52, .iaload, 1, []), (53, .if_icmp .eq 5, 3, []), (56, .iconst 0, 1, []), (57, .ireturn, 1, []), (58, .iinc 2 1, 3, []), (61, .goto (-59), 3, []), (64, .iconst 1, 1, [false, false, false]), (65, .ireturn, 1, [])] [(64, 0, jcX8_presentAt), (16, 0, jcX2_burnt)] [(2, juX11_isDrawn_2 k2)] 34 [] 2 [.ref 0, .int a1, .int a2] [] M = jgX11_isDrawn_2 k2 a1 a2 M := rfl
theorem jtX11_isDrawn_2 : ∀ n : Nat, ∀ (a1 : Int32) (a2 : Int32) (M : sy_M) (r : xe_R × sy_M), jfX11_isDrawn_2 n a1 a2 M = some r → sy_E (3) qX11_isDrawn 2 [.ref 0, .int a1, .int a2] [] M r := by
  intro n
  induction n with
  | zero => intro a1 a2 M r h; exact absurd (show (none : sy_O) = some r from h) (by simp)
  | succ n ih => intro a1 a2 M r h; exact sy_run_by (d := 2) ((jrX11_isDrawn_2 _ _ _ M).trans h) hkX11 (by decide +kernel) (sy_cs_cons (jeX8_presentAt.deep (by decide)) (sy_cs_cons (jeX2_burnt.deep (by decide)) sy_cs_nil)) (sy_us_cons (jwX11_isDrawn_2 ih) sy_us_nil)
def jfX11_isDrawn (a1 : Int32) (M : sy_M) : sy_O :=
  jfX11_isDrawn_2 sy_F a1 0 M
set_option maxRecDepth 100000 in
theorem jrX11_isDrawn (a1 : Int32) (M : sy_M) : sy_run skX11 qX11_isDrawn [(0, .iconst 0, 1, []), (1, .istore_n 2, 1, [])] [] [(2, juX11_isDrawn_2 (jfX11_isDrawn_2 sy_F))] 3 [] 0 [.ref 0, .int a1, xe_no] [] M = jfX11_isDrawn a1 M := rfl
theorem jtX11_isDrawn : ∀ (a1 : Int32) (M : sy_M) (r : xe_R × sy_M), jfX11_isDrawn a1 M = some r → sy_E (3) qX11_isDrawn 0 [.ref 0, .int a1, xe_no] [] M r := by
  intro a1 M r h
  exact sy_run_by (d := 2) ((jrX11_isDrawn _ M).trans h) hkX11 (by decide +kernel) sy_cs_nil (sy_us_cons (jwX11_isDrawn_2 (jtX11_isDrawn_2 sy_F)) sy_us_nil)
def jcX11_isDrawn (as : List Value) (M : sy_M) (K : sy_O → sy_O) : sy_O := sy_xc 0 as fun l => sy_xi l fun a1 l => sy_xn l (K (jfX11_isDrawn a1 M))
theorem jeX11_isDrawn : sy_snd (3) 143 (jcX11_isDrawn) := by
  intro as M K r h
  obtain ⟨l, e, h1⟩ := sy_xc_ok h; subst e
  obtain ⟨a1, l, e, h2⟩ := sy_xi_ok h1; subst e
  obtain ⟨e, h3⟩ := sy_xn_ok h2; subst e
  exact ⟨_, h3, fun r1 h0 => ⟨qX11_isDrawn, rfl, rfl, jtX11_isDrawn _ M r1 h0⟩⟩
/-! X11_fewer StairMeter fewer (II)I ['I', 'I'] -/
def juX11_fewer_16 (k : Int32 → sy_M → sy_O) (ls st : List Value) (M : sy_M) : sy_O := sy_xv ls fun _ l => sy_xi l fun a1 l => sy_xn l (sy_xn st (k a1 M))
theorem jwX11_fewer_16 {d : Nat} {k : Int32 → sy_M → sy_O} (hk : ∀ (w0 : Value) (a1 : Int32) (M : sy_M) (r : xe_R × sy_M), k a1 M = some r → sy_E (d) qX11_fewer 16 [w0, .int a1] [] M r) : ∀ ls st M r, juX11_fewer_16 k ls st M = some r → sy_E d qX11_fewer 16 ls st M r := by
  intro ls st M r h
  obtain ⟨w0, l, e, h1⟩ := sy_xv_ok h; subst e
  obtain ⟨a1, l, e, h2⟩ := sy_xi_ok h1; subst e
  obtain ⟨e, h3⟩ := sy_xn_ok h2; subst e
  obtain ⟨e, h4⟩ := sy_xn_ok h3; subst e
  exact hk _ a1 M r h4
def jfX11_fewer_16 (a1 : Int32) (M : sy_M) : sy_O :=
  sy_ri a1 M
set_option maxRecDepth 100000 in
theorem jrX11_fewer_16 (w0 : Value) (a1 : Int32) (M : sy_M) : sy_run skX11 qX11_fewer [(16, .iload_n 1, 1, [false, true]), (17, .goto 4, 3, []), (21, .ireturn, 1, [false, false])] [] [] 4 [] 16 [w0, .int a1] [] M = jfX11_fewer_16 a1 M := rfl
theorem jtX11_fewer_16 : ∀ (w0 : Value) (a1 : Int32) (M : sy_M) (r : xe_R × sy_M), jfX11_fewer_16 a1 M = some r → sy_E (2) qX11_fewer 16 [w0, .int a1] [] M r := by
  intro w0 a1 M r h
  exact sy_run_by (d := 1) ((jrX11_fewer_16 _ _ M).trans h) hkX11 (by decide +kernel) sy_cs_nil sy_us_nil
def jfX11_fewer (a0 : Int32) (a1 : Int32) (M : sy_M) : sy_O :=
  if a0 = (-1) then
    jfX11_fewer_16 a1 M
  else
    sy_bi (jfJ6_bitCount_0f7a4 a1 M) fun v2 M1 =>
    sy_bi (jfJ6_bitCount_0f7a4 a0 M1) fun v4 M3 =>
    if v2 < v4 then
      jfX11_fewer_16 a1 M3
    else
      sy_ri a0 M3
set_option maxRecDepth 100000 in
theorem jrX11_fewer (a0 : Int32) (a1 : Int32) (M : sy_M) : sy_run skX11 qX11_fewer [(0, .iload_n 0, 1, []), (1, .iconst (-1), 1, []), (2, .if_icmp .eq 14, 3, []), (5, .iload_n 1, 1, []), (6, .invokestatic 340, 3, []), (9, .iload_n 0, 1, []), (10, .invokestatic 340, 3, []), (13, .if_icmp .ge 7, 3, []), (20, .iload_n 0, 1, [true, false]), (21, .ireturn, 1, [false, false])] [(357, 0, jcJ6_bitCount_0f7a4)] [(16, juX11_fewer_16 (jfX11_fewer_16))] 11 [] 0 [.int a0, .int a1] [] M = jfX11_fewer a0 a1 M := rfl
theorem jtX11_fewer : ∀ (a0 : Int32) (a1 : Int32) (M : sy_M) (r : xe_R × sy_M), jfX11_fewer a0 a1 M = some r → sy_E (2) qX11_fewer 0 [.int a0, .int a1] [] M r := by
  intro a0 a1 M r h
  exact sy_run_by (d := 1) ((jrX11_fewer _ _ M).trans h) hkX11 (by decide +kernel) (sy_cs_cons (jeJ6_bitCount_0f7a4.deep (by decide)) sy_cs_nil) (sy_us_cons (jwX11_fewer_16 (jtX11_fewer_16)) sy_us_nil)
def jcX11_fewer (as : List Value) (M : sy_M) (K : sy_O → sy_O) : sy_O := sy_xi as fun a0 l => sy_xi l fun a1 l => sy_xn l (K (jfX11_fewer a0 a1 M))
theorem jeX11_fewer : sy_snd (2) 145 (jcX11_fewer) := by
  intro as M K r h
  obtain ⟨a0, l, e, h1⟩ := sy_xi_ok h; subst e
  obtain ⟨a1, l, e, h2⟩ := sy_xi_ok h1; subst e
  obtain ⟨e, h3⟩ := sy_xn_ok h2; subst e
  exact ⟨_, h3, fun r1 h0 => ⟨qX11_fewer, rfl, rfl, jtX11_fewer _ _ M r1 h0⟩⟩
/-! X11_drawn StairMeter drawn (I)I [('R', 0), 'I'] -/
def juX11_drawn_82 (k : Int32 → Int32 → Int32 → Int32 → Int32 → sy_M → sy_O) (ls st : List Value) (M : sy_M) : sy_O := sy_xc 0 ls fun l => sy_xi l fun a1 l => sy_xi l fun a2 l => sy_xi l fun a3 l => sy_xi l fun a4 l => sy_xi l fun a5 l => sy_xn l (sy_xn st (k a1 a2 a3 a4 a5 M))
theorem jwX11_drawn_82 {d : Nat} {k : Int32 → Int32 → Int32 → Int32 → Int32 → sy_M → sy_O} (hk : ∀ (a1 : Int32) (a2 : Int32) (a3 : Int32) (a4 : Int32) (a5 : Int32) (M : sy_M) (r : xe_R × sy_M), k a1 a2 a3 a4 a5 M = some r → sy_E (d) qX11_drawn 82 [.ref 0, .int a1, .int a2, .int a3, .int a4, .int a5] [] M r) : ∀ ls st M r, juX11_drawn_82 k ls st M = some r → sy_E d qX11_drawn 82 ls st M r := by
  intro ls st M r h
  obtain ⟨l, e, h1⟩ := sy_xc_ok h; subst e
  obtain ⟨a1, l, e, h2⟩ := sy_xi_ok h1; subst e
  obtain ⟨a2, l, e, h3⟩ := sy_xi_ok h2; subst e
  obtain ⟨a3, l, e, h4⟩ := sy_xi_ok h3; subst e
  obtain ⟨a4, l, e, h5⟩ := sy_xi_ok h4; subst e
  obtain ⟨a5, l, e, h6⟩ := sy_xi_ok h5; subst e
  obtain ⟨e, h7⟩ := sy_xn_ok h6; subst e
  obtain ⟨e, h8⟩ := sy_xn_ok h7; subst e
  exact hk a1 a2 a3 a4 a5 M r h8
def juX11_drawn_47 (k : Int32 → Int32 → Int32 → Int32 → Int32 → sy_M → sy_O) (ls st : List Value) (M : sy_M) : sy_O := sy_xc 0 ls fun l => sy_xi l fun a1 l => sy_xi l fun a2 l => sy_xi l fun a3 l => sy_xi l fun a4 l => sy_xi l fun a5 l => sy_xn l (sy_xn st (k a1 a2 a3 a4 a5 M))
theorem jwX11_drawn_47 {d : Nat} {k : Int32 → Int32 → Int32 → Int32 → Int32 → sy_M → sy_O} (hk : ∀ (a1 : Int32) (a2 : Int32) (a3 : Int32) (a4 : Int32) (a5 : Int32) (M : sy_M) (r : xe_R × sy_M), k a1 a2 a3 a4 a5 M = some r → sy_E (d) qX11_drawn 47 [.ref 0, .int a1, .int a2, .int a3, .int a4, .int a5] [] M r) : ∀ ls st M r, juX11_drawn_47 k ls st M = some r → sy_E d qX11_drawn 47 ls st M r := by
  intro ls st M r h
  obtain ⟨l, e, h1⟩ := sy_xc_ok h; subst e
  obtain ⟨a1, l, e, h2⟩ := sy_xi_ok h1; subst e
  obtain ⟨a2, l, e, h3⟩ := sy_xi_ok h2; subst e
  obtain ⟨a3, l, e, h4⟩ := sy_xi_ok h3; subst e
  obtain ⟨a4, l, e, h5⟩ := sy_xi_ok h4; subst e
  obtain ⟨a5, l, e, h6⟩ := sy_xi_ok h5; subst e
  obtain ⟨e, h7⟩ := sy_xn_ok h6; subst e
  obtain ⟨e, h8⟩ := sy_xn_ok h7; subst e
  exact hk a1 a2 a3 a4 a5 M r h8
def jfX11_drawn_82 (k47 : Int32 → Int32 → Int32 → Int32 → Int32 → sy_M → sy_O) (a1 : Int32) (a2 : Int32) (a3 : Int32) (a4 : Int32) (a5 : Int32) (M : sy_M) : sy_O :=
  let v1 := a5 + 1
  k47 a1 a2 a3 a4 v1 M
set_option maxRecDepth 100000 in
theorem jrX11_drawn_82 (k47 : Int32 → Int32 → Int32 → Int32 → Int32 → sy_M → sy_O) (a1 : Int32) (a2 : Int32) (a3 : Int32) (a4 : Int32) (a5 : Int32) (M : sy_M) : sy_run skX11 qX11_drawn [(82, .iinc 5 1, 3, []), (85, .goto (-38), 3, [])] [] [(47, juX11_drawn_47 k47)] 3 [] 82 [.ref 0, .int a1, .int a2, .int a3, .int a4, .int a5] [] M = jfX11_drawn_82 k47 a1 a2 a3 a4 a5 M := rfl
theorem jtX11_drawn_82 {k47 : Int32 → Int32 → Int32 → Int32 → Int32 → sy_M → sy_O} (hk47 : ∀ (a1 : Int32) (a2 : Int32) (a3 : Int32) (a4 : Int32) (a5 : Int32) (M : sy_M) (r : xe_R × sy_M), k47 a1 a2 a3 a4 a5 M = some r → sy_E (4) qX11_drawn 47 [.ref 0, .int a1, .int a2, .int a3, .int a4, .int a5] [] M r) : ∀ (a1 : Int32) (a2 : Int32) (a3 : Int32) (a4 : Int32) (a5 : Int32) (M : sy_M) (r : xe_R × sy_M), jfX11_drawn_82 k47 a1 a2 a3 a4 a5 M = some r → sy_E (4) qX11_drawn 82 [.ref 0, .int a1, .int a2, .int a3, .int a4, .int a5] [] M r := by
  intro a1 a2 a3 a4 a5 M r h
  exact sy_run_by (d := 3) ((jrX11_drawn_82 _ _ _ _ _ _ M).trans h) hkX11 (by decide +kernel) sy_cs_nil (sy_us_cons (jwX11_drawn_47 hk47) sy_us_nil)
def jgX11_drawn_47 (k47 : Int32 → Int32 → Int32 → Int32 → Int32 → sy_M → sy_O) (a1 : Int32) (a2 : Int32) (a3 : Int32) (a4 : Int32) (a5 : Int32) (M : sy_M) : sy_O :=
  sy_bi (jfX11_everybody M) fun v2 M1 =>
  if v2 < a5 then
    if a1 = 0 then
      sy_ri a2 M1
    else
      if a1 = 2 then
        sy_ri a4 M1
      else
        if 0 < a2 then
          sy_ri a3 M1
        else
          sy_ri 0 M1
  else
    sy_bi (jfX11_isDrawn a5 M1) fun v4 M3 =>
    if v4 = 0 then
      jfX11_drawn_82 k47 a1 a2 a3 a4 a5 M3
    else
      let v5 := a2 + 1
      let v6 := (a3 &&& a5)
      sy_bi (jfX11_fewer a4 a5 M3) fun v8 M7 =>
      jfX11_drawn_82 k47 a1 v5 v6 v8 a5 M7
def jfX11_drawn_47 : Nat → Int32 → Int32 → Int32 → Int32 → Int32 → sy_M → sy_O
  | 0, _, _, _, _, _, _ => none
  | n + 1, a1, a2, a3, a4, a5, M => jgX11_drawn_47 (jfX11_drawn_47 n) a1 a2 a3 a4 a5 M
set_option maxRecDepth 100000 in
theorem jrX11_drawn_47 (k47 : Int32 → Int32 → Int32 → Int32 → Int32 → sy_M → sy_O) (a1 : Int32) (a2 : Int32) (a3 : Int32) (a4 : Int32) (a5 : Int32) (M : sy_M) : sy_run skX11 qX11_drawn [(47, .iload 5, 2, []), (49, .aload_n 0, 1, []), (50, .invokevirtual 318, 3, []), (53, .if_icmp .gt 35, 3, []), (56, .aload_n 0, 1, []), (57, .iload 5, 2, []), (59, .invokevirtual 348, 3, []), (62, .ifCond .eq 20, 3, []), (65, .iinc 2 1, 3, []), (68, .iload_n 3, 1, []), (69, .iload 5, 2, []), (71, .iand, 1, []), (72, .istore_n 3, 1, []), (73, .iload 4, 2, []), (75, .iload 5, 2, []), (77, .invokestatic 351, 3, []), (80, .istore 4, 2, []), (88, .iload_n 1, 1, [false, true, true, true, true, false]), (89, .ifCond .ne 5, 3, []), (92, .iload_n 2, 1, []), (93, .ireturn, 1, []), (94, .iload_n 1, 1, [false, true, true, true, true, false]), (95, .iconst 2, 1, []), (96, .if_icmp .ne 8, 3, []), (99, .iload 4, 2, []), (101, .goto 12, 3, []), (104, .iload_n 2, 1, [false, false, true, true, false, false]), (105, .ifCond .le 7, 3, []), (108, .iload_n 3, 1, []), (109, .goto 4, 3, []), (112, .iconst 0, 1, [false, false, false, false, false, false]), (113, .ireturn, 1, [false, false, false, false, false, false])] [(175, 0, jcX11_everybody), (143, 0, jcX11_isDrawn), (145, 0, jcX11_fewer)] [(82, juX11_drawn_82 (jfX11_drawn_82 k47))] 33 [] 47 [.ref 0, .int a1, .int a2, .int a3, .int a4, .int a5] [] M = jgX11_drawn_47 k47 a1 a2 a3 a4 a5 M := rfl
theorem jtX11_drawn_47 : ∀ n : Nat, ∀ (a1 : Int32) (a2 : Int32) (a3 : Int32) (a4 : Int32) (a5 : Int32) (M : sy_M) (r : xe_R × sy_M), jfX11_drawn_47 n a1 a2 a3 a4 a5 M = some r → sy_E (4) qX11_drawn 47 [.ref 0, .int a1, .int a2, .int a3, .int a4, .int a5] [] M r := by
  intro n
  induction n with
  | zero => intro a1 a2 a3 a4 a5 M r h; exact absurd (show (none : sy_O) = some r from h) (by simp)
  | succ n ih => intro a1 a2 a3 a4 a5 M r h; exact sy_run_by (d := 3) ((jrX11_drawn_47 _ _ _ _ _ _ M).trans h) hkX11 (by decide +kernel) (sy_cs_cons (jeX11_everybody.deep (by decide)) (sy_cs_cons (jeX11_isDrawn.deep (by decide)) (sy_cs_cons (jeX11_fewer.deep (by decide)) sy_cs_nil))) (sy_us_cons (jwX11_drawn_82 (jtX11_drawn_82 ih)) sy_us_nil)
def jfX11_drawn (a1 : Int32) (M : sy_M) : sy_O :=
  sy_bv (jfX11_readClues 63 M) fun M1 =>
  if a1 < 0 then
    sy_bx (xe_in (M1 133 0) 100000) <|
    sy_rt 23 (sy_upd M1 133 0 (M1 133 0 + 1))
  else
    if 2 < a1 then
      sy_bx (xe_in (M1 133 0) 100000) <|
      sy_rt 23 (sy_upd M1 133 0 (M1 133 0 + 1))
    else
      sy_bv (jfX8_learn 9 M1) fun M2 =>
      sy_bi (jfX11_everybody M2) fun v4 M3 =>
      jfX11_drawn_47 sy_F a1 0 v4 (-1) 0 M3
set_option maxRecDepth 100000 in
theorem jrX11_drawn (a1 : Int32) (M : sy_M) : sy_run skX11 qX11_drawn [(0, .aload_n 0, 1, []), (1, .bipush 63, 2, []), (3, .invokevirtual 334, 3, []), (6, .iload_n 1, 1, []), (7, .ifCond .lt 8, 3, []), (10, .iload_n 1, 1, []), (11, .iconst 2, 1, []), (12, .if_icmp .le 11, 3, []), (15, .new 187, 3, [false, false, false, false, false, false]), (23, .aload_n 0, 1, [true, true, false, false, false, false]), (24, .getfield 75, 3, []), (27, .aload_n 0, 1, []), (28, .getfield 28, 3, []), (31, .invokevirtual 181, 3, []), (34, .iconst 0, 1, []), (35, .istore_n 2, 1, []), (36, .aload_n 0, 1, []), (37, .invokevirtual 318, 3, []), (40, .istore_n 3, 1, []), (41, .iconst (-1), 1, []), (42, .istore 4, 2, []), (44, .iconst 0, 1, []), (45, .istore 5, 2, [])] [(144, 1, jcX11_readClues), (63, 1, jcX8_learn), (175, 0, jcX11_everybody)] [(47, juX11_drawn_47 (jfX11_drawn_47 sy_F))] 24 [] 0 [.ref 0, .int a1, xe_no, xe_no, xe_no, xe_no] [] M = jfX11_drawn a1 M := rfl
theorem jtX11_drawn : ∀ (a1 : Int32) (M : sy_M) (r : xe_R × sy_M), jfX11_drawn a1 M = some r → sy_E (4) qX11_drawn 0 [.ref 0, .int a1, xe_no, xe_no, xe_no, xe_no] [] M r := by
  intro a1 M r h
  exact sy_run_by (d := 3) ((jrX11_drawn _ M).trans h) hkX11 (by decide +kernel) (sy_cs_cons (jeX11_readClues.deep (by decide)) (sy_cs_cons (jeX8_learn.deep (by decide)) (sy_cs_cons (jeX11_everybody.deep (by decide)) sy_cs_nil))) (sy_us_cons (jwX11_drawn_47 (jtX11_drawn_47 sy_F)) sy_us_nil)
def jcX11_drawn (as : List Value) (M : sy_M) (K : sy_O → sy_O) : sy_O := sy_xc 0 as fun l => sy_xi l fun a1 l => sy_xn l (K (jfX11_drawn a1 M))
theorem jeX11_drawn : sy_snd (4) 142 (jcX11_drawn) := by
  intro as M K r h
  obtain ⟨l, e, h1⟩ := sy_xc_ok h; subst e
  obtain ⟨a1, l, e, h2⟩ := sy_xi_ok h1; subst e
  obtain ⟨e, h3⟩ := sy_xn_ok h2; subst e
  exact ⟨_, h3, fun r1 h0 => ⟨qX11_drawn, rfl, rfl, jtX11_drawn _ M r1 h0⟩⟩
/-! L_drawn StairMeterLaw drawn (LStairMeter;I[J)I [('R', 0), 'I', ('R', 132)] -/
def jfL_drawn (a1 : Int32) (M : sy_M) : sy_O :=
  sy_hi (jfX11_drawn a1 M) (fun v2 M1 =>
    let M5 := sy_wl M1 132 0 (Int32.toInt64 v2)
    sy_ri 0 M5)
  (fun c3 M4 => if c3 = 20 then sy_ri 1 M4 else if c3 = 23 then sy_ri 2 M4 else none)
set_option maxRecDepth 100000 in
theorem jrL_drawn (a1 : Int32) (M : sy_M) : sy_run skL qL_drawn [(0, .aload_n 2, 1, []), (1, .iconst 0, 1, []), (2, .aload_n 0, 1, []), (3, .iload_n 1, 1, []), (4, .invokevirtual 98, 3, []), (7, .i2l, 1, []), (8, .lastore, 1, []), (9, .goto 9, 3, []), (12, .astore_n 3, 1, [false, false, false, false]), (13, .iconst 1, 1, []), (14, .ireturn, 1, []), (15, .astore_n 3, 1, [false, false, false, false]), (16, .iconst 2, 1, []), (17, .ireturn, 1, []), (18, .iconst 0, 1, [false, false, false, false]), (19, .ireturn, 1, [])] [(142, 3, jcX11_drawn)] [] 17 [] 0 [.ref 0, .int a1, .ref 132, xe_no] [] M = jfL_drawn a1 M := rfl
theorem jtL_drawn : ∀ (a1 : Int32) (M : sy_M) (r : xe_R × sy_M), jfL_drawn a1 M = some r → sy_E (5) qL_drawn 0 [.ref 0, .int a1, .ref 132, xe_no] [] M r := by
  intro a1 M r h
  exact sy_run_by (d := 4) ((jrL_drawn _ M).trans h) hkL (by decide +kernel) (sy_cs_cons (jeX11_drawn.deep (by decide)) sy_cs_nil) sy_us_nil
def jcL_drawn (as : List Value) (M : sy_M) (K : sy_O → sy_O) : sy_O := sy_xc 0 as fun l => sy_xi l fun a1 l => sy_xc 132 l fun l => sy_xn l (K (jfL_drawn a1 M))
theorem jeL_drawn : sy_snd (5) 345 (jcL_drawn) := by
  intro as M K r h
  obtain ⟨l, e, h1⟩ := sy_xc_ok h; subst e
  obtain ⟨a1, l, e, h2⟩ := sy_xi_ok h1; subst e
  obtain ⟨l, e, h3⟩ := sy_xc_ok h2; subst e
  obtain ⟨e, h4⟩ := sy_xn_ok h3; subst e
  exact ⟨_, h4, fun r1 h0 => ⟨qL_drawn, rfl, rfl, jtL_drawn _ M r1 h0⟩⟩
/-! X12_bits StairMeterModel bits (I)I ['I'] -/
def juX12_bits_4 (k : Int32 → Int32 → Int32 → sy_M → sy_O) (ls st : List Value) (M : sy_M) : sy_O := sy_xi ls fun a0 l => sy_xi l fun a1 l => sy_xi l fun a2 l => sy_xn l (sy_xn st (k a0 a1 a2 M))
theorem jwX12_bits_4 {d : Nat} {k : Int32 → Int32 → Int32 → sy_M → sy_O} (hk : ∀ (a0 : Int32) (a1 : Int32) (a2 : Int32) (M : sy_M) (r : xe_R × sy_M), k a0 a1 a2 M = some r → sy_E (d) qX12_bits 4 [.int a0, .int a1, .int a2] [] M r) : ∀ ls st M r, juX12_bits_4 k ls st M = some r → sy_E d qX12_bits 4 ls st M r := by
  intro ls st M r h
  obtain ⟨a0, l, e, h1⟩ := sy_xi_ok h; subst e
  obtain ⟨a1, l, e, h2⟩ := sy_xi_ok h1; subst e
  obtain ⟨a2, l, e, h3⟩ := sy_xi_ok h2; subst e
  obtain ⟨e, h4⟩ := sy_xn_ok h3; subst e
  obtain ⟨e, h5⟩ := sy_xn_ok h4; subst e
  exact hk a0 a1 a2 M r h5
def jgX12_bits_4 (k4 : Int32 → Int32 → Int32 → sy_M → sy_O) (a0 : Int32) (a1 : Int32) (a2 : Int32) (M : sy_M) : sy_O :=
  if a2 < 31 then
    let v1 := (a1 + ((a0 >>> (a2 &&& 31)) &&& 1))
    let v2 := a2 + 1
    k4 a0 v1 v2 M
  else
    sy_ri a1 M
def jfX12_bits_4 : Nat → Int32 → Int32 → Int32 → sy_M → sy_O
  | 0, _, _, _, _ => none
  | n + 1, a0, a1, a2, M => jgX12_bits_4 (jfX12_bits_4 n) a0 a1 a2 M
set_option maxRecDepth 100000 in
theorem jrX12_bits_4 (k4 : Int32 → Int32 → Int32 → sy_M → sy_O) (a0 : Int32) (a1 : Int32) (a2 : Int32) (M : sy_M) : sy_run skX12 qX12_bits [(4, .iload_n 2, 1, []), (5, .bipush 31, 2, []), (7, .if_icmp .ge 17, 3, []), (10, .iload_n 1, 1, []), (11, .iload_n 0, 1, []), (12, .iload_n 2, 1, []), (13, .ishr, 1, []), (14, .iconst 1, 1, []), (15, .iand, 1, []), (16, .iadd, 1, []), (17, .istore_n 1, 1, []), (18, .iinc 2 1, 3, []), (21, .goto (-17), 3, []), (24, .iload_n 1, 1, [false, true, false]), (25, .ireturn, 1, [])] [] [(4, juX12_bits_4 k4)] 16 [] 4 [.int a0, .int a1, .int a2] [] M = jgX12_bits_4 k4 a0 a1 a2 M := rfl
theorem jtX12_bits_4 : ∀ n : Nat, ∀ (a0 : Int32) (a1 : Int32) (a2 : Int32) (M : sy_M) (r : xe_R × sy_M), jfX12_bits_4 n a0 a1 a2 M = some r → sy_E (1) qX12_bits 4 [.int a0, .int a1, .int a2] [] M r := by
  intro n
  induction n with
  | zero => intro a0 a1 a2 M r h; exact absurd (show (none : sy_O) = some r from h) (by simp)
  | succ n ih => intro a0 a1 a2 M r h; exact sy_run_by (d := 0) ((jrX12_bits_4 _ _ _ _ M).trans h) hkX12 (by decide +kernel) sy_cs_nil (sy_us_cons (jwX12_bits_4 ih) sy_us_nil)
def jfX12_bits (a0 : Int32) (M : sy_M) : sy_O :=
  jfX12_bits_4 sy_F a0 0 0 M
set_option maxRecDepth 100000 in
theorem jrX12_bits (a0 : Int32) (M : sy_M) : sy_run skX12 qX12_bits [(0, .iconst 0, 1, []), (1, .istore_n 1, 1, []), (2, .iconst 0, 1, []), (3, .istore_n 2, 1, [])] [] [(4, juX12_bits_4 (jfX12_bits_4 sy_F))] 5 [] 0 [.int a0, xe_no, xe_no] [] M = jfX12_bits a0 M := rfl
theorem jtX12_bits : ∀ (a0 : Int32) (M : sy_M) (r : xe_R × sy_M), jfX12_bits a0 M = some r → sy_E (1) qX12_bits 0 [.int a0, xe_no, xe_no] [] M r := by
  intro a0 M r h
  exact sy_run_by (d := 0) ((jrX12_bits _ M).trans h) hkX12 (by decide +kernel) sy_cs_nil (sy_us_cons (jwX12_bits_4 (jtX12_bits_4 sy_F)) sy_us_nil)
def jcX12_bits (as : List Value) (M : sy_M) (K : sy_O → sy_O) : sy_O := sy_xi as fun a0 l => sy_xn l (K (jfX12_bits a0 M))
theorem jeX12_bits : sy_snd (1) 186 (jcX12_bits) := by
  intro as M K r h
  obtain ⟨a0, l, e, h1⟩ := sy_xi_ok h; subst e
  obtain ⟨e, h2⟩ := sy_xn_ok h1; subst e
  exact ⟨_, h2, fun r1 h0 => ⟨qX12_bits, rfl, rfl, jtX12_bits _ M r1 h0⟩⟩
/-! X12_drawn StairMeterModel drawn (I)I [('R', 121), 'I'] -/
def juX12_drawn_173 (k : Int32 → Int32 → Int32 → Int32 → Int32 → Int32 → sy_M → sy_O) (ls st : List Value) (M : sy_M) : sy_O := sy_xc 121 ls fun l => sy_xi l fun a1 l => sy_xi l fun a2 l => sy_xi l fun a3 l => sy_xi l fun a4 l => sy_xi l fun a5 l => sy_xi l fun a6 l => sy_xv l fun _ l => sy_xv l fun _ l => sy_xn l (sy_xn st (k a1 a2 a3 a4 a5 a6 M))
theorem jwX12_drawn_173 {d : Nat} {k : Int32 → Int32 → Int32 → Int32 → Int32 → Int32 → sy_M → sy_O} (hk : ∀ (w7 : Value) (w8 : Value) (a1 : Int32) (a2 : Int32) (a3 : Int32) (a4 : Int32) (a5 : Int32) (a6 : Int32) (M : sy_M) (r : xe_R × sy_M), k a1 a2 a3 a4 a5 a6 M = some r → sy_E (d) qX12_drawn 173 [.ref 121, .int a1, .int a2, .int a3, .int a4, .int a5, .int a6, w7, w8] [] M r) : ∀ ls st M r, juX12_drawn_173 k ls st M = some r → sy_E d qX12_drawn 173 ls st M r := by
  intro ls st M r h
  obtain ⟨l, e, h1⟩ := sy_xc_ok h; subst e
  obtain ⟨a1, l, e, h2⟩ := sy_xi_ok h1; subst e
  obtain ⟨a2, l, e, h3⟩ := sy_xi_ok h2; subst e
  obtain ⟨a3, l, e, h4⟩ := sy_xi_ok h3; subst e
  obtain ⟨a4, l, e, h5⟩ := sy_xi_ok h4; subst e
  obtain ⟨a5, l, e, h6⟩ := sy_xi_ok h5; subst e
  obtain ⟨a6, l, e, h7⟩ := sy_xi_ok h6; subst e
  obtain ⟨w7, l, e, h8⟩ := sy_xv_ok h7; subst e
  obtain ⟨w8, l, e, h9⟩ := sy_xv_ok h8; subst e
  obtain ⟨e, h10⟩ := sy_xn_ok h9; subst e
  obtain ⟨e, h11⟩ := sy_xn_ok h10; subst e
  exact hk _ _ a1 a2 a3 a4 a5 a6 M r h11
def juX12_drawn_169 (k : Int32 → Int32 → Int32 → Int32 → Int32 → sy_M → sy_O) (ls st : List Value) (M : sy_M) : sy_O := sy_xc 121 ls fun l => sy_xi l fun a1 l => sy_xi l fun a2 l => sy_xi l fun a3 l => sy_xi l fun a4 l => sy_xv l fun _ l => sy_xi l fun a6 l => sy_xv l fun _ l => sy_xv l fun _ l => sy_xn l (sy_xn st (k a1 a2 a3 a4 a6 M))
theorem jwX12_drawn_169 {d : Nat} {k : Int32 → Int32 → Int32 → Int32 → Int32 → sy_M → sy_O} (hk : ∀ (w5 : Value) (w7 : Value) (w8 : Value) (a1 : Int32) (a2 : Int32) (a3 : Int32) (a4 : Int32) (a6 : Int32) (M : sy_M) (r : xe_R × sy_M), k a1 a2 a3 a4 a6 M = some r → sy_E (d) qX12_drawn 169 [.ref 121, .int a1, .int a2, .int a3, .int a4, w5, .int a6, w7, w8] [] M r) : ∀ ls st M r, juX12_drawn_169 k ls st M = some r → sy_E d qX12_drawn 169 ls st M r := by
  intro ls st M r h
  obtain ⟨l, e, h1⟩ := sy_xc_ok h; subst e
  obtain ⟨a1, l, e, h2⟩ := sy_xi_ok h1; subst e
  obtain ⟨a2, l, e, h3⟩ := sy_xi_ok h2; subst e
  obtain ⟨a3, l, e, h4⟩ := sy_xi_ok h3; subst e
  obtain ⟨a4, l, e, h5⟩ := sy_xi_ok h4; subst e
  obtain ⟨w5, l, e, h6⟩ := sy_xv_ok h5; subst e
  obtain ⟨a6, l, e, h7⟩ := sy_xi_ok h6; subst e
  obtain ⟨w7, l, e, h8⟩ := sy_xv_ok h7; subst e
  obtain ⟨w8, l, e, h9⟩ := sy_xv_ok h8; subst e
  obtain ⟨e, h10⟩ := sy_xn_ok h9; subst e
  obtain ⟨e, h11⟩ := sy_xn_ok h10; subst e
  exact hk _ _ _ a1 a2 a3 a4 a6 M r h11
def juX12_drawn_132 (k : Int32 → Int32 → Int32 → Int32 → Int32 → Int32 → Int32 → sy_M → sy_O) (ls st : List Value) (M : sy_M) : sy_O := sy_xc 121 ls fun l => sy_xi l fun a1 l => sy_xi l fun a2 l => sy_xi l fun a3 l => sy_xi l fun a4 l => sy_xi l fun a5 l => sy_xi l fun a6 l => sy_xi l fun a7 l => sy_xv l fun _ l => sy_xn l (sy_xn st (k a1 a2 a3 a4 a5 a6 a7 M))
theorem jwX12_drawn_132 {d : Nat} {k : Int32 → Int32 → Int32 → Int32 → Int32 → Int32 → Int32 → sy_M → sy_O} (hk : ∀ (w8 : Value) (a1 : Int32) (a2 : Int32) (a3 : Int32) (a4 : Int32) (a5 : Int32) (a6 : Int32) (a7 : Int32) (M : sy_M) (r : xe_R × sy_M), k a1 a2 a3 a4 a5 a6 a7 M = some r → sy_E (d) qX12_drawn 132 [.ref 121, .int a1, .int a2, .int a3, .int a4, .int a5, .int a6, .int a7, w8] [] M r) : ∀ ls st M r, juX12_drawn_132 k ls st M = some r → sy_E d qX12_drawn 132 ls st M r := by
  intro ls st M r h
  obtain ⟨l, e, h1⟩ := sy_xc_ok h; subst e
  obtain ⟨a1, l, e, h2⟩ := sy_xi_ok h1; subst e
  obtain ⟨a2, l, e, h3⟩ := sy_xi_ok h2; subst e
  obtain ⟨a3, l, e, h4⟩ := sy_xi_ok h3; subst e
  obtain ⟨a4, l, e, h5⟩ := sy_xi_ok h4; subst e
  obtain ⟨a5, l, e, h6⟩ := sy_xi_ok h5; subst e
  obtain ⟨a6, l, e, h7⟩ := sy_xi_ok h6; subst e
  obtain ⟨a7, l, e, h8⟩ := sy_xi_ok h7; subst e
  obtain ⟨w8, l, e, h9⟩ := sy_xv_ok h8; subst e
  obtain ⟨e, h10⟩ := sy_xn_ok h9; subst e
  obtain ⟨e, h11⟩ := sy_xn_ok h10; subst e
  exact hk _ a1 a2 a3 a4 a5 a6 a7 M r h11
def juX12_drawn_124 (k : Int32 → Int32 → Int32 → Int32 → Int32 → Int32 → Int32 → Int32 → sy_M → sy_O) (ls st : List Value) (M : sy_M) : sy_O := sy_xc 121 ls fun l => sy_xi l fun a1 l => sy_xi l fun a2 l => sy_xi l fun a3 l => sy_xi l fun a4 l => sy_xi l fun a5 l => sy_xi l fun a6 l => sy_xv l fun _ l => sy_xi l fun a8 l => sy_xn l (sy_xi st fun s0 l => sy_xn l (k a1 a2 a3 a4 a5 a6 a8 s0 M))
theorem jwX12_drawn_124 {d : Nat} {k : Int32 → Int32 → Int32 → Int32 → Int32 → Int32 → Int32 → Int32 → sy_M → sy_O} (hk : ∀ (w7 : Value) (a1 : Int32) (a2 : Int32) (a3 : Int32) (a4 : Int32) (a5 : Int32) (a6 : Int32) (a8 : Int32) (s0 : Int32) (M : sy_M) (r : xe_R × sy_M), k a1 a2 a3 a4 a5 a6 a8 s0 M = some r → sy_E (d) qX12_drawn 124 [.ref 121, .int a1, .int a2, .int a3, .int a4, .int a5, .int a6, w7, .int a8] [.int s0] M r) : ∀ ls st M r, juX12_drawn_124 k ls st M = some r → sy_E d qX12_drawn 124 ls st M r := by
  intro ls st M r h
  obtain ⟨l, e, h1⟩ := sy_xc_ok h; subst e
  obtain ⟨a1, l, e, h2⟩ := sy_xi_ok h1; subst e
  obtain ⟨a2, l, e, h3⟩ := sy_xi_ok h2; subst e
  obtain ⟨a3, l, e, h4⟩ := sy_xi_ok h3; subst e
  obtain ⟨a4, l, e, h5⟩ := sy_xi_ok h4; subst e
  obtain ⟨a5, l, e, h6⟩ := sy_xi_ok h5; subst e
  obtain ⟨a6, l, e, h7⟩ := sy_xi_ok h6; subst e
  obtain ⟨w7, l, e, h8⟩ := sy_xv_ok h7; subst e
  obtain ⟨a8, l, e, h9⟩ := sy_xi_ok h8; subst e
  obtain ⟨e, h10⟩ := sy_xn_ok h9; subst e
  obtain ⟨s0, l, e, h11⟩ := sy_xi_ok h10; subst e
  obtain ⟨e, h12⟩ := sy_xn_ok h11; subst e
  exact hk _ a1 a2 a3 a4 a5 a6 a8 s0 M r h12
def juX12_drawn_78 (k : Int32 → Int32 → Int32 → Int32 → Int32 → Int32 → Int32 → Int32 → sy_M → sy_O) (ls st : List Value) (M : sy_M) : sy_O := sy_xc 121 ls fun l => sy_xi l fun a1 l => sy_xi l fun a2 l => sy_xi l fun a3 l => sy_xi l fun a4 l => sy_xi l fun a5 l => sy_xi l fun a6 l => sy_xi l fun a7 l => sy_xi l fun a8 l => sy_xn l (sy_xn st (k a1 a2 a3 a4 a5 a6 a7 a8 M))
theorem jwX12_drawn_78 {d : Nat} {k : Int32 → Int32 → Int32 → Int32 → Int32 → Int32 → Int32 → Int32 → sy_M → sy_O} (hk : ∀ (a1 : Int32) (a2 : Int32) (a3 : Int32) (a4 : Int32) (a5 : Int32) (a6 : Int32) (a7 : Int32) (a8 : Int32) (M : sy_M) (r : xe_R × sy_M), k a1 a2 a3 a4 a5 a6 a7 a8 M = some r → sy_E (d) qX12_drawn 78 [.ref 121, .int a1, .int a2, .int a3, .int a4, .int a5, .int a6, .int a7, .int a8] [] M r) : ∀ ls st M r, juX12_drawn_78 k ls st M = some r → sy_E d qX12_drawn 78 ls st M r := by
  intro ls st M r h
  obtain ⟨l, e, h1⟩ := sy_xc_ok h; subst e
  obtain ⟨a1, l, e, h2⟩ := sy_xi_ok h1; subst e
  obtain ⟨a2, l, e, h3⟩ := sy_xi_ok h2; subst e
  obtain ⟨a3, l, e, h4⟩ := sy_xi_ok h3; subst e
  obtain ⟨a4, l, e, h5⟩ := sy_xi_ok h4; subst e
  obtain ⟨a5, l, e, h6⟩ := sy_xi_ok h5; subst e
  obtain ⟨a6, l, e, h7⟩ := sy_xi_ok h6; subst e
  obtain ⟨a7, l, e, h8⟩ := sy_xi_ok h7; subst e
  obtain ⟨a8, l, e, h9⟩ := sy_xi_ok h8; subst e
  obtain ⟨e, h10⟩ := sy_xn_ok h9; subst e
  obtain ⟨e, h11⟩ := sy_xn_ok h10; subst e
  exact hk a1 a2 a3 a4 a5 a6 a7 a8 M r h11
def juX12_drawn_63 (k : Int32 → Int32 → Int32 → Int32 → Int32 → Int32 → sy_M → sy_O) (ls st : List Value) (M : sy_M) : sy_O := sy_xc 121 ls fun l => sy_xi l fun a1 l => sy_xi l fun a2 l => sy_xi l fun a3 l => sy_xi l fun a4 l => sy_xi l fun a5 l => sy_xi l fun a6 l => sy_xv l fun _ l => sy_xv l fun _ l => sy_xn l (sy_xn st (k a1 a2 a3 a4 a5 a6 M))
theorem jwX12_drawn_63 {d : Nat} {k : Int32 → Int32 → Int32 → Int32 → Int32 → Int32 → sy_M → sy_O} (hk : ∀ (w7 : Value) (w8 : Value) (a1 : Int32) (a2 : Int32) (a3 : Int32) (a4 : Int32) (a5 : Int32) (a6 : Int32) (M : sy_M) (r : xe_R × sy_M), k a1 a2 a3 a4 a5 a6 M = some r → sy_E (d) qX12_drawn 63 [.ref 121, .int a1, .int a2, .int a3, .int a4, .int a5, .int a6, w7, w8] [] M r) : ∀ ls st M r, juX12_drawn_63 k ls st M = some r → sy_E d qX12_drawn 63 ls st M r := by
  intro ls st M r h
  obtain ⟨l, e, h1⟩ := sy_xc_ok h; subst e
  obtain ⟨a1, l, e, h2⟩ := sy_xi_ok h1; subst e
  obtain ⟨a2, l, e, h3⟩ := sy_xi_ok h2; subst e
  obtain ⟨a3, l, e, h4⟩ := sy_xi_ok h3; subst e
  obtain ⟨a4, l, e, h5⟩ := sy_xi_ok h4; subst e
  obtain ⟨a5, l, e, h6⟩ := sy_xi_ok h5; subst e
  obtain ⟨a6, l, e, h7⟩ := sy_xi_ok h6; subst e
  obtain ⟨w7, l, e, h8⟩ := sy_xv_ok h7; subst e
  obtain ⟨w8, l, e, h9⟩ := sy_xv_ok h8; subst e
  obtain ⟨e, h10⟩ := sy_xn_ok h9; subst e
  obtain ⟨e, h11⟩ := sy_xn_ok h10; subst e
  exact hk _ _ a1 a2 a3 a4 a5 a6 M r h11
def juX12_drawn_39 (k : Int32 → Int32 → Int32 → sy_M → sy_O) (ls st : List Value) (M : sy_M) : sy_O := sy_xc 121 ls fun l => sy_xi l fun a1 l => sy_xi l fun a2 l => sy_xv l fun _ l => sy_xv l fun _ l => sy_xv l fun _ l => sy_xv l fun _ l => sy_xv l fun _ l => sy_xv l fun _ l => sy_xn l (sy_xi st fun s0 l => sy_xc 121 l fun l => sy_xn l (k a1 a2 s0 M))
theorem jwX12_drawn_39 {d : Nat} {k : Int32 → Int32 → Int32 → sy_M → sy_O} (hk : ∀ (w3 : Value) (w4 : Value) (w5 : Value) (w6 : Value) (w7 : Value) (w8 : Value) (a1 : Int32) (a2 : Int32) (s0 : Int32) (M : sy_M) (r : xe_R × sy_M), k a1 a2 s0 M = some r → sy_E (d) qX12_drawn 39 [.ref 121, .int a1, .int a2, w3, w4, w5, w6, w7, w8] [.int s0, .ref 121] M r) : ∀ ls st M r, juX12_drawn_39 k ls st M = some r → sy_E d qX12_drawn 39 ls st M r := by
  intro ls st M r h
  obtain ⟨l, e, h1⟩ := sy_xc_ok h; subst e
  obtain ⟨a1, l, e, h2⟩ := sy_xi_ok h1; subst e
  obtain ⟨a2, l, e, h3⟩ := sy_xi_ok h2; subst e
  obtain ⟨w3, l, e, h4⟩ := sy_xv_ok h3; subst e
  obtain ⟨w4, l, e, h5⟩ := sy_xv_ok h4; subst e
  obtain ⟨w5, l, e, h6⟩ := sy_xv_ok h5; subst e
  obtain ⟨w6, l, e, h7⟩ := sy_xv_ok h6; subst e
  obtain ⟨w7, l, e, h8⟩ := sy_xv_ok h7; subst e
  obtain ⟨w8, l, e, h9⟩ := sy_xv_ok h8; subst e
  obtain ⟨e, h10⟩ := sy_xn_ok h9; subst e
  obtain ⟨s0, l, e, h11⟩ := sy_xi_ok h10; subst e
  obtain ⟨l, e, h12⟩ := sy_xc_ok h11; subst e
  obtain ⟨e, h13⟩ := sy_xn_ok h12; subst e
  exact hk _ _ _ _ _ _ a1 a2 s0 M r h13
def jfX12_drawn_173 (k63 : Int32 → Int32 → Int32 → Int32 → Int32 → Int32 → sy_M → sy_O) (a1 : Int32) (a2 : Int32) (a3 : Int32) (a4 : Int32) (a5 : Int32) (a6 : Int32) (M : sy_M) : sy_O :=
  let v1 := a6 + 1
  k63 a1 a2 a3 a4 a5 v1 M
set_option maxRecDepth 100000 in
theorem jrX12_drawn_173 (k63 : Int32 → Int32 → Int32 → Int32 → Int32 → Int32 → sy_M → sy_O) (w7 : Value) (w8 : Value) (a1 : Int32) (a2 : Int32) (a3 : Int32) (a4 : Int32) (a5 : Int32) (a6 : Int32) (M : sy_M) : sy_run skX12 qX12_drawn [(173, .iinc 6 1, 3, [true, true, true, true, true, true, true, false, false]), (176, .goto (-113), 3, [])] [] [(63, juX12_drawn_63 k63)] 3 [] 173 [.ref 121, .int a1, .int a2, .int a3, .int a4, .int a5, .int a6, w7, w8] [] M = jfX12_drawn_173 k63 a1 a2 a3 a4 a5 a6 M := rfl
theorem jtX12_drawn_173 {k63 : Int32 → Int32 → Int32 → Int32 → Int32 → Int32 → sy_M → sy_O} (hk63 : ∀ (w7 : Value) (w8 : Value) (a1 : Int32) (a2 : Int32) (a3 : Int32) (a4 : Int32) (a5 : Int32) (a6 : Int32) (M : sy_M) (r : xe_R × sy_M), k63 a1 a2 a3 a4 a5 a6 M = some r → sy_E (4) qX12_drawn 63 [.ref 121, .int a1, .int a2, .int a3, .int a4, .int a5, .int a6, w7, w8] [] M r) : ∀ (w7 : Value) (w8 : Value) (a1 : Int32) (a2 : Int32) (a3 : Int32) (a4 : Int32) (a5 : Int32) (a6 : Int32) (M : sy_M) (r : xe_R × sy_M), jfX12_drawn_173 k63 a1 a2 a3 a4 a5 a6 M = some r → sy_E (4) qX12_drawn 173 [.ref 121, .int a1, .int a2, .int a3, .int a4, .int a5, .int a6, w7, w8] [] M r := by
  intro w7 w8 a1 a2 a3 a4 a5 a6 M r h
  exact sy_run_by (d := 3) ((jrX12_drawn_173 _ _ _ _ _ _ _ _ _ M).trans h) hkX12 (by decide +kernel) sy_cs_nil (sy_us_cons (jwX12_drawn_63 hk63) sy_us_nil)
def jfX12_drawn_169 (k63 : Int32 → Int32 → Int32 → Int32 → Int32 → Int32 → sy_M → sy_O) (a1 : Int32) (a2 : Int32) (a3 : Int32) (a4 : Int32) (a6 : Int32) (M : sy_M) : sy_O :=
  jfX12_drawn_173 k63 a1 a2 a3 a4 a6 a6 M
set_option maxRecDepth 100000 in
theorem jrX12_drawn_169 (k63 : Int32 → Int32 → Int32 → Int32 → Int32 → Int32 → sy_M → sy_O) (w5 : Value) (w7 : Value) (w8 : Value) (a1 : Int32) (a2 : Int32) (a3 : Int32) (a4 : Int32) (a6 : Int32) (M : sy_M) : sy_run skX12 qX12_drawn [(169, .iload 6, 2, [true, true, true, true, true, false, true, false, false]), (171, .istore 5, 2, [])] [] [(173, juX12_drawn_173 (jfX12_drawn_173 k63))] 3 [] 169 [.ref 121, .int a1, .int a2, .int a3, .int a4, w5, .int a6, w7, w8] [] M = jfX12_drawn_169 k63 a1 a2 a3 a4 a6 M := rfl
theorem jtX12_drawn_169 {k63 : Int32 → Int32 → Int32 → Int32 → Int32 → Int32 → sy_M → sy_O} (hk63 : ∀ (w7 : Value) (w8 : Value) (a1 : Int32) (a2 : Int32) (a3 : Int32) (a4 : Int32) (a5 : Int32) (a6 : Int32) (M : sy_M) (r : xe_R × sy_M), k63 a1 a2 a3 a4 a5 a6 M = some r → sy_E (4) qX12_drawn 63 [.ref 121, .int a1, .int a2, .int a3, .int a4, .int a5, .int a6, w7, w8] [] M r) : ∀ (w5 : Value) (w7 : Value) (w8 : Value) (a1 : Int32) (a2 : Int32) (a3 : Int32) (a4 : Int32) (a6 : Int32) (M : sy_M) (r : xe_R × sy_M), jfX12_drawn_169 k63 a1 a2 a3 a4 a6 M = some r → sy_E (4) qX12_drawn 169 [.ref 121, .int a1, .int a2, .int a3, .int a4, w5, .int a6, w7, w8] [] M r := by
  intro w5 w7 w8 a1 a2 a3 a4 a6 M r h
  exact sy_run_by (d := 3) ((jrX12_drawn_169 _ _ _ _ _ _ _ _ _ M).trans h) hkX12 (by decide +kernel) sy_cs_nil (sy_us_cons (jwX12_drawn_173 (jtX12_drawn_173 hk63)) sy_us_nil)
def jfX12_drawn_132 (k63 : Int32 → Int32 → Int32 → Int32 → Int32 → Int32 → sy_M → sy_O) (a1 : Int32) (a2 : Int32) (a3 : Int32) (a4 : Int32) (a5 : Int32) (a6 : Int32) (a7 : Int32) (M : sy_M) : sy_O :=
  if a7 = 0 then
    jfX12_drawn_173 k63 a1 a2 a3 a4 a5 a6 M
  else
    let v1 := a3 + 1
    let v2 := (a4 &&& a6)
    if a5 = (-1) then
      jfX12_drawn_169 k63 a1 a2 v1 v2 a6 M
    else
      sy_bi (jfX12_bits a6 M) fun v4 M3 =>
      sy_bi (jfX12_bits a5 M3) fun v6 M5 =>
      if v4 < v6 then
        jfX12_drawn_169 k63 a1 a2 v1 v2 a6 M5
      else
        jfX12_drawn_173 k63 a1 a2 v1 v2 a5 a6 M5
set_option maxRecDepth 100000 in
theorem jrX12_drawn_132 (k63 : Int32 → Int32 → Int32 → Int32 → Int32 → Int32 → sy_M → sy_O) (w8 : Value) (a1 : Int32) (a2 : Int32) (a3 : Int32) (a4 : Int32) (a5 : Int32) (a6 : Int32) (a7 : Int32) (M : sy_M) : sy_run skX12 qX12_drawn [(132, .iload 7, 2, [true, true, true, true, true, true, true, true, false]), (134, .ifCond .ne 6, 3, []), (137, .goto 36, 3, []), (140, .iinc 3 1, 3, [true, true, true, true, true, true, true, false, false]), (143, .iload 4, 2, []), (145, .iload 6, 2, []), (147, .iand, 1, []), (148, .istore 4, 2, []), (150, .iload 5, 2, []), (152, .iconst (-1), 1, []), (153, .if_icmp .eq 16, 3, []), (156, .iload 6, 2, []), (158, .invokestatic 358, 3, []), (161, .iload 5, 2, []), (163, .invokestatic 358, 3, []), (166, .if_icmp .ge 7, 3, [])] [(186, 0, jcX12_bits)] [(169, juX12_drawn_169 (jfX12_drawn_169 k63)), (173, juX12_drawn_173 (jfX12_drawn_173 k63))] 17 [] 132 [.ref 121, .int a1, .int a2, .int a3, .int a4, .int a5, .int a6, .int a7, w8] [] M = jfX12_drawn_132 k63 a1 a2 a3 a4 a5 a6 a7 M := rfl
theorem jtX12_drawn_132 {k63 : Int32 → Int32 → Int32 → Int32 → Int32 → Int32 → sy_M → sy_O} (hk63 : ∀ (w7 : Value) (w8 : Value) (a1 : Int32) (a2 : Int32) (a3 : Int32) (a4 : Int32) (a5 : Int32) (a6 : Int32) (M : sy_M) (r : xe_R × sy_M), k63 a1 a2 a3 a4 a5 a6 M = some r → sy_E (4) qX12_drawn 63 [.ref 121, .int a1, .int a2, .int a3, .int a4, .int a5, .int a6, w7, w8] [] M r) : ∀ (w8 : Value) (a1 : Int32) (a2 : Int32) (a3 : Int32) (a4 : Int32) (a5 : Int32) (a6 : Int32) (a7 : Int32) (M : sy_M) (r : xe_R × sy_M), jfX12_drawn_132 k63 a1 a2 a3 a4 a5 a6 a7 M = some r → sy_E (4) qX12_drawn 132 [.ref 121, .int a1, .int a2, .int a3, .int a4, .int a5, .int a6, .int a7, w8] [] M r := by
  intro w8 a1 a2 a3 a4 a5 a6 a7 M r h
  exact sy_run_by (d := 3) ((jrX12_drawn_132 _ _ _ _ _ _ _ _ _ M).trans h) hkX12 (by decide +kernel) (sy_cs_cons (jeX12_bits.deep (by decide)) sy_cs_nil) (sy_us_cons (jwX12_drawn_169 (jtX12_drawn_169 hk63)) (sy_us_cons (jwX12_drawn_173 (jtX12_drawn_173 hk63)) sy_us_nil))
def jfX12_drawn_124 (k63 : Int32 → Int32 → Int32 → Int32 → Int32 → Int32 → sy_M → sy_O) (k78 : Int32 → Int32 → Int32 → Int32 → Int32 → Int32 → Int32 → Int32 → sy_M → sy_O) (a1 : Int32) (a2 : Int32) (a3 : Int32) (a4 : Int32) (a5 : Int32) (a6 : Int32) (a8 : Int32) (s0 : Int32) (M : sy_M) : sy_O :=
  let v1 := a8 + 2
  k78 a1 a2 a3 a4 a5 a6 s0 v1 M
set_option maxRecDepth 100000 in
theorem jrX12_drawn_124 (k63 : Int32 → Int32 → Int32 → Int32 → Int32 → Int32 → sy_M → sy_O) (k78 : Int32 → Int32 → Int32 → Int32 → Int32 → Int32 → Int32 → Int32 → sy_M → sy_O) (w7 : Value) (a1 : Int32) (a2 : Int32) (a3 : Int32) (a4 : Int32) (a5 : Int32) (a6 : Int32) (a8 : Int32) (s0 : Int32) (M : sy_M) : sy_run skX12 qX12_drawn [(124, .istore 7, 2, [true, true, true, true, true, true, true, false, true]), (126, .iinc 8 2, 3, []), (129, .goto (-51), 3, [])] [] [(78, juX12_drawn_78 k78)] 4 [] 124 [.ref 121, .int a1, .int a2, .int a3, .int a4, .int a5, .int a6, w7, .int a8] [.int s0] M = jfX12_drawn_124 k63 k78 a1 a2 a3 a4 a5 a6 a8 s0 M := rfl
theorem jtX12_drawn_124 {k63 : Int32 → Int32 → Int32 → Int32 → Int32 → Int32 → sy_M → sy_O} (hk63 : ∀ (w7 : Value) (w8 : Value) (a1 : Int32) (a2 : Int32) (a3 : Int32) (a4 : Int32) (a5 : Int32) (a6 : Int32) (M : sy_M) (r : xe_R × sy_M), k63 a1 a2 a3 a4 a5 a6 M = some r → sy_E (4) qX12_drawn 63 [.ref 121, .int a1, .int a2, .int a3, .int a4, .int a5, .int a6, w7, w8] [] M r) {k78 : Int32 → Int32 → Int32 → Int32 → Int32 → Int32 → Int32 → Int32 → sy_M → sy_O} (hk78 : ∀ (a1 : Int32) (a2 : Int32) (a3 : Int32) (a4 : Int32) (a5 : Int32) (a6 : Int32) (a7 : Int32) (a8 : Int32) (M : sy_M) (r : xe_R × sy_M), k78 a1 a2 a3 a4 a5 a6 a7 a8 M = some r → sy_E (4) qX12_drawn 78 [.ref 121, .int a1, .int a2, .int a3, .int a4, .int a5, .int a6, .int a7, .int a8] [] M r) : ∀ (w7 : Value) (a1 : Int32) (a2 : Int32) (a3 : Int32) (a4 : Int32) (a5 : Int32) (a6 : Int32) (a8 : Int32) (s0 : Int32) (M : sy_M) (r : xe_R × sy_M), jfX12_drawn_124 k63 k78 a1 a2 a3 a4 a5 a6 a8 s0 M = some r → sy_E (4) qX12_drawn 124 [.ref 121, .int a1, .int a2, .int a3, .int a4, .int a5, .int a6, w7, .int a8] [.int s0] M r := by
  intro w7 a1 a2 a3 a4 a5 a6 a8 s0 M r h
  exact sy_run_by (d := 3) ((jrX12_drawn_124 _ _ _ _ _ _ _ _ _ _ _ M).trans h) hkX12 (by decide +kernel) sy_cs_nil (sy_us_cons (jwX12_drawn_78 hk78) sy_us_nil)
def jgX12_drawn_78 (k63 : Int32 → Int32 → Int32 → Int32 → Int32 → Int32 → sy_M → sy_O) (k78 : Int32 → Int32 → Int32 → Int32 → Int32 → Int32 → Int32 → Int32 → sy_M → sy_O) (a1 : Int32) (a2 : Int32) (a3 : Int32) (a4 : Int32) (a5 : Int32) (a6 : Int32) (a7 : Int32) (a8 : Int32) (M : sy_M) : sy_O :=
  if a8 < a2 then
    if a7 = 0 then
      jfX12_drawn_132 k63 a1 a2 a3 a4 a5 a6 a7 M
    else
      sy_bx (xe_in a8 400) <|
      sy_bi (jfX12_homeIn (M 126 (Int32.toNatClampNeg a8)) M) fun v2 M1 =>
      sy_bi (jfX12_burnsOf (a6 &&& v2) M1) fun v4 M3 =>
      sy_bx (xe_in (a8 + 1) 400) <|
      if v4 = (M3 126 (Int32.toNatClampNeg (a8 + 1))) then
        jfX12_drawn_124 k63 k78 a1 a2 a3 a4 a5 a6 a8 1 M3
      else
        jfX12_drawn_124 k63 k78 a1 a2 a3 a4 a5 a6 a8 0 M3
  else
    jfX12_drawn_132 k63 a1 a2 a3 a4 a5 a6 a7 M
def jfX12_drawn_78 (k63 : Int32 → Int32 → Int32 → Int32 → Int32 → Int32 → sy_M → sy_O) : Nat → Int32 → Int32 → Int32 → Int32 → Int32 → Int32 → Int32 → Int32 → sy_M → sy_O
  | 0, _, _, _, _, _, _, _, _, _ => none
  | n + 1, a1, a2, a3, a4, a5, a6, a7, a8, M => jgX12_drawn_78 k63 (jfX12_drawn_78 k63 n) a1 a2 a3 a4 a5 a6 a7 a8 M
set_option maxRecDepth 100000 in
theorem jrX12_drawn_78 (k63 : Int32 → Int32 → Int32 → Int32 → Int32 → Int32 → sy_M → sy_O) (k78 : Int32 → Int32 → Int32 → Int32 → Int32 → Int32 → Int32 → Int32 → sy_M → sy_O) (a1 : Int32) (a2 : Int32) (a3 : Int32) (a4 : Int32) (a5 : Int32) (a6 : Int32) (a7 : Int32) (a8 : Int32) (M : sy_M) : sy_run skX12 qX12_drawn [(78, .iload 8, 2, []), (80, .iload_n 2, 1, []), (81, .if_icmp .ge 51, 3, []), (84, .iload 7, 2, []), (86, .ifCond .eq 46, 3, []), (89, .aload_n 0, 1, []), (90, .iload 6, 2, []), (92, .aload_n 0, 1, []), (93, .aload_n 0, 1, []), (94, .getfield 22, 3, []), (97, .iload 8, 2, []), (99, .iaload, 1, []), (100, .invokevirtual 63, 3, []), (103, .iand, 1, []), (104, .invokevirtual 67, 3, []), (107, .aload_n 0, 1, []), (108, .getfield 22, 3, []), (111, .iload 8, 2, []), (113, .iconst 1, 1, []), (114, .iadd, 1, []), (115, .iaload, 1, []), (116, .if_icmp .ne 7, 3, []), (119, .iconst 1, 1, []), (120, .goto 4, 3, []), (123, .iconst 0, 1, [true, true, true, true, true, true, true, false, true])] [(193, 0, jcX12_homeIn), (194, 0, jcX12_burnsOf)] [(132, juX12_drawn_132 (jfX12_drawn_132 k63)), (124, juX12_drawn_124 (jfX12_drawn_124 k63 k78))] 26 [] 78 [.ref 121, .int a1, .int a2, .int a3, .int a4, .int a5, .int a6, .int a7, .int a8] [] M = jgX12_drawn_78 k63 k78 a1 a2 a3 a4 a5 a6 a7 a8 M := rfl
theorem jtX12_drawn_78 {k63 : Int32 → Int32 → Int32 → Int32 → Int32 → Int32 → sy_M → sy_O} (hk63 : ∀ (w7 : Value) (w8 : Value) (a1 : Int32) (a2 : Int32) (a3 : Int32) (a4 : Int32) (a5 : Int32) (a6 : Int32) (M : sy_M) (r : xe_R × sy_M), k63 a1 a2 a3 a4 a5 a6 M = some r → sy_E (4) qX12_drawn 63 [.ref 121, .int a1, .int a2, .int a3, .int a4, .int a5, .int a6, w7, w8] [] M r) : ∀ n : Nat, ∀ (a1 : Int32) (a2 : Int32) (a3 : Int32) (a4 : Int32) (a5 : Int32) (a6 : Int32) (a7 : Int32) (a8 : Int32) (M : sy_M) (r : xe_R × sy_M), jfX12_drawn_78 k63 n a1 a2 a3 a4 a5 a6 a7 a8 M = some r → sy_E (4) qX12_drawn 78 [.ref 121, .int a1, .int a2, .int a3, .int a4, .int a5, .int a6, .int a7, .int a8] [] M r := by
  intro n
  induction n with
  | zero => intro a1 a2 a3 a4 a5 a6 a7 a8 M r h; exact absurd (show (none : sy_O) = some r from h) (by simp)
  | succ n ih => intro a1 a2 a3 a4 a5 a6 a7 a8 M r h; exact sy_run_by (d := 3) ((jrX12_drawn_78 _ _ _ _ _ _ _ _ _ _ M).trans h) hkX12 (by decide +kernel) (sy_cs_cons (jeX12_homeIn.deep (by decide)) (sy_cs_cons (jeX12_burnsOf.deep (by decide)) sy_cs_nil)) (sy_us_cons (jwX12_drawn_132 (jtX12_drawn_132 hk63)) (sy_us_cons (jwX12_drawn_124 (jtX12_drawn_124 hk63 ih)) sy_us_nil))
def jgX12_drawn_63 (k63 : Int32 → Int32 → Int32 → Int32 → Int32 → Int32 → sy_M → sy_O) (a1 : Int32) (a2 : Int32) (a3 : Int32) (a4 : Int32) (a5 : Int32) (a6 : Int32) (M : sy_M) : sy_O :=
  sy_bi (jfX12_all M) fun v2 M1 =>
  if v2 < a6 then
    if a1 = 0 then
      sy_ri a3 M1
    else
      if a1 = 2 then
        sy_ri a5 M1
      else
        if a3 = 0 then
          sy_ri 0 M1
        else
          sy_ri a4 M1
  else
    jfX12_drawn_78 k63 sy_F a1 a2 a3 a4 a5 a6 1 0 M1
def jfX12_drawn_63 : Nat → Int32 → Int32 → Int32 → Int32 → Int32 → Int32 → sy_M → sy_O
  | 0, _, _, _, _, _, _, _ => none
  | n + 1, a1, a2, a3, a4, a5, a6, M => jgX12_drawn_63 (jfX12_drawn_63 n) a1 a2 a3 a4 a5 a6 M
set_option maxRecDepth 100000 in
theorem jrX12_drawn_63 (k63 : Int32 → Int32 → Int32 → Int32 → Int32 → Int32 → sy_M → sy_O) (w7 : Value) (w8 : Value) (a1 : Int32) (a2 : Int32) (a3 : Int32) (a4 : Int32) (a5 : Int32) (a6 : Int32) (M : sy_M) : sy_run skX12 qX12_drawn [(63, .iload 6, 2, [true, true, true, true, true, true, true, false, false]), (65, .aload_n 0, 1, []), (66, .invokevirtual 287, 3, []), (69, .if_icmp .gt 110, 3, []), (72, .iconst 1, 1, []), (73, .istore 7, 2, []), (75, .iconst 0, 1, []), (76, .istore 8, 2, []), (179, .iload_n 1, 1, [false, true, false, true, true, true, false, false, false]), (180, .ifCond .ne 5, 3, []), (183, .iload_n 3, 1, []), (184, .ireturn, 1, []), (185, .iload_n 1, 1, [false, true, false, true, true, true, false, false, false]), (186, .iconst 2, 1, []), (187, .if_icmp .ne 8, 3, []), (190, .iload 5, 2, []), (192, .goto 13, 3, []), (195, .iload_n 3, 1, [false, false, false, true, true, false, false, false, false]), (196, .ifCond .ne 7, 3, []), (199, .iconst 0, 1, []), (200, .goto 5, 3, []), (203, .iload 4, 2, [false, false, false, false, true, false, false, false, false]), (205, .ireturn, 1, [false, false, false, false, false, false, false, false, false])] [(197, 0, jcX12_all)] [(78, juX12_drawn_78 (jfX12_drawn_78 k63 sy_F))] 24 [] 63 [.ref 121, .int a1, .int a2, .int a3, .int a4, .int a5, .int a6, w7, w8] [] M = jgX12_drawn_63 k63 a1 a2 a3 a4 a5 a6 M := rfl
theorem jtX12_drawn_63 : ∀ n : Nat, ∀ (w7 : Value) (w8 : Value) (a1 : Int32) (a2 : Int32) (a3 : Int32) (a4 : Int32) (a5 : Int32) (a6 : Int32) (M : sy_M) (r : xe_R × sy_M), jfX12_drawn_63 n a1 a2 a3 a4 a5 a6 M = some r → sy_E (4) qX12_drawn 63 [.ref 121, .int a1, .int a2, .int a3, .int a4, .int a5, .int a6, w7, w8] [] M r := by
  intro n
  induction n with
  | zero => intro w7 w8 a1 a2 a3 a4 a5 a6 M r h; exact absurd (show (none : sy_O) = some r from h) (by simp)
  | succ n ih => intro w7 w8 a1 a2 a3 a4 a5 a6 M r h; exact sy_run_by (d := 3) ((jrX12_drawn_63 _ _ _ _ _ _ _ _ _ M).trans h) hkX12 (by decide +kernel) (sy_cs_cons (jeX12_all.deep (by decide)) sy_cs_nil) (sy_us_cons (jwX12_drawn_78 (jtX12_drawn_78 ih sy_F)) sy_us_nil)
def jfX12_drawn_39 (a1 : Int32) (a2 : Int32) (s0 : Int32) (M : sy_M) : sy_O :=
  let M1 := sy_upd M 121 0 s0
  if 0 < (M1 121 0) then
    sy_ri 0 M1
  else
    jfX12_drawn_63 sy_F a1 a2 0 127 (-1) 0 M1
set_option maxRecDepth 100000 in
theorem jrX12_drawn_39 (w3 : Value) (w4 : Value) (w5 : Value) (w6 : Value) (w7 : Value) (w8 : Value) (a1 : Int32) (a2 : Int32) (s0 : Int32) (M : sy_M) : sy_run skX12 qX12_drawn [(39, .putfield 45, 3, [true, true, true, false, false, false, false, false, false]), (42, .aload_n 0, 1, []), (43, .getfield 45, 3, []), (46, .ifCond .le 5, 3, []), (49, .iconst 0, 1, []), (50, .ireturn, 1, []), (51, .iconst 0, 1, [true, true, true, false, false, false, false, false, false]), (52, .istore_n 3, 1, []), (53, .bipush 127, 2, []), (55, .istore 4, 2, []), (57, .iconst (-1), 1, []), (58, .istore 5, 2, []), (60, .iconst 0, 1, []), (61, .istore 6, 2, [])] [] [(63, juX12_drawn_63 (jfX12_drawn_63 sy_F))] 15 [] 39 [.ref 121, .int a1, .int a2, w3, w4, w5, w6, w7, w8] [.int s0, .ref 121] M = jfX12_drawn_39 a1 a2 s0 M := rfl
theorem jtX12_drawn_39 : ∀ (w3 : Value) (w4 : Value) (w5 : Value) (w6 : Value) (w7 : Value) (w8 : Value) (a1 : Int32) (a2 : Int32) (s0 : Int32) (M : sy_M) (r : xe_R × sy_M), jfX12_drawn_39 a1 a2 s0 M = some r → sy_E (4) qX12_drawn 39 [.ref 121, .int a1, .int a2, w3, w4, w5, w6, w7, w8] [.int s0, .ref 121] M r := by
  intro w3 w4 w5 w6 w7 w8 a1 a2 s0 M r h
  exact sy_run_by (d := 3) ((jrX12_drawn_39 _ _ _ _ _ _ _ _ _ M).trans h) hkX12 (by decide +kernel) sy_cs_nil (sy_us_cons (jwX12_drawn_63 (jtX12_drawn_63 sy_F)) sy_us_nil)
def jfX12_drawn (a1 : Int32) (M : sy_M) : sy_O :=
  let v1 := (M 121 8)
  let M2 := sy_upd M 121 8 0
  sy_bi (jfX12_areRows v1 63 M2) fun v4 M3 =>
  if v4 = 0 then
    jfX12_drawn_39 a1 v1 1 M3
  else
    sy_bi (jfX12_isIn a1 0 2 M3) fun v6 M5 =>
    if v6 = 0 then
      jfX12_drawn_39 a1 v1 2 M5
    else
      jfX12_drawn_39 a1 v1 0 M5
set_option maxRecDepth 100000 in
theorem jrX12_drawn (a1 : Int32) (M : sy_M) : sy_run skX12 qX12_drawn [(0, .aload_n 0, 1, []), (1, .getfield 70, 3, []), (4, .istore_n 2, 1, []), (5, .aload_n 0, 1, []), (6, .iconst 0, 1, []), (7, .putfield 70, 3, []), (10, .aload_n 0, 1, []), (11, .aload_n 0, 1, []), (12, .iload_n 2, 1, []), (13, .bipush 63, 2, []), (15, .invokevirtual 352, 3, []), (18, .ifCond .ne 7, 3, []), (21, .iconst 1, 1, []), (22, .goto 17, 3, []), (25, .iload_n 1, 1, [true, true, true, false, false, false, false, false, false]), (26, .iconst 0, 1, []), (27, .iconst 2, 1, []), (28, .invokestatic 48, 3, []), (31, .ifCond .ne 7, 3, []), (34, .iconst 2, 1, []), (35, .goto 4, 3, []), (38, .iconst 0, 1, [true, true, true, false, false, false, false, false, false])] [(280, 0, jcX12_areRows), (182, 0, jcX12_isIn)] [(39, juX12_drawn_39 (jfX12_drawn_39))] 23 [] 0 [.ref 121, .int a1, xe_no, xe_no, xe_no, xe_no, xe_no, xe_no, xe_no] [] M = jfX12_drawn a1 M := rfl
theorem jtX12_drawn : ∀ (a1 : Int32) (M : sy_M) (r : xe_R × sy_M), jfX12_drawn a1 M = some r → sy_E (4) qX12_drawn 0 [.ref 121, .int a1, xe_no, xe_no, xe_no, xe_no, xe_no, xe_no, xe_no] [] M r := by
  intro a1 M r h
  exact sy_run_by (d := 3) ((jrX12_drawn _ M).trans h) hkX12 (by decide +kernel) (sy_cs_cons (jeX12_areRows.deep (by decide)) (sy_cs_cons (jeX12_isIn.deep (by decide)) sy_cs_nil)) (sy_us_cons (jwX12_drawn_39 (jtX12_drawn_39)) sy_us_nil)
def jcX12_drawn (as : List Value) (M : sy_M) (K : sy_O → sy_O) : sy_O := sy_xc 121 as fun l => sy_xi l fun a1 l => sy_xn l (K (jfX12_drawn a1 M))
theorem jeX12_drawn : sy_snd (4) 284 (jcX12_drawn) := by
  intro as M K r h
  obtain ⟨l, e, h1⟩ := sy_xc_ok h; subst e
  obtain ⟨a1, l, e, h2⟩ := sy_xi_ok h1; subst e
  obtain ⟨e, h3⟩ := sy_xn_ok h2; subst e
  exact ⟨_, h3, fun r1 h0 => ⟨qX12_drawn, rfl, rfl, jtX12_drawn _ M r1 h0⟩⟩
/-! X11_warmer StairMeter warmer (II)Z [('R', 0), 'I', 'I'] -/
def juX11_warmer_70 (k : Int32 → Int32 → Int32 → Int32 → sy_M → sy_O) (ls st : List Value) (M : sy_M) : sy_O := sy_xc 0 ls fun l => sy_xi l fun a1 l => sy_xi l fun a2 l => sy_xi l fun a3 l => sy_xi l fun a4 l => sy_xn l (sy_xn st (k a1 a2 a3 a4 M))
theorem jwX11_warmer_70 {d : Nat} {k : Int32 → Int32 → Int32 → Int32 → sy_M → sy_O} (hk : ∀ (a1 : Int32) (a2 : Int32) (a3 : Int32) (a4 : Int32) (M : sy_M) (r : xe_R × sy_M), k a1 a2 a3 a4 M = some r → sy_E (d) qX11_warmer 70 [.ref 0, .int a1, .int a2, .int a3, .int a4] [] M r) : ∀ ls st M r, juX11_warmer_70 k ls st M = some r → sy_E d qX11_warmer 70 ls st M r := by
  intro ls st M r h
  obtain ⟨l, e, h1⟩ := sy_xc_ok h; subst e
  obtain ⟨a1, l, e, h2⟩ := sy_xi_ok h1; subst e
  obtain ⟨a2, l, e, h3⟩ := sy_xi_ok h2; subst e
  obtain ⟨a3, l, e, h4⟩ := sy_xi_ok h3; subst e
  obtain ⟨a4, l, e, h5⟩ := sy_xi_ok h4; subst e
  obtain ⟨e, h6⟩ := sy_xn_ok h5; subst e
  obtain ⟨e, h7⟩ := sy_xn_ok h6; subst e
  exact hk a1 a2 a3 a4 M r h7
def jfX11_warmer_70 (a1 : Int32) (a2 : Int32) (a3 : Int32) (a4 : Int32) (M : sy_M) : sy_O :=
  sy_bi (jfX11_run 48 0 M) fun v2 M1 =>
  sy_bi (jfX11_griefAhead a1 M1) fun v4 M3 =>
  if v4 < a3 then
    sy_bi (jfX11_griefAhead a2 M3) fun v6 M5 =>
    if v6 < a4 then
      sy_ri 1 M5
    else
      sy_ri 0 M5
  else
    sy_ri 0 M3
set_option maxRecDepth 100000 in
theorem jrX11_warmer_70 (a1 : Int32) (a2 : Int32) (a3 : Int32) (a4 : Int32) (M : sy_M) : sy_run skX11 qX11_warmer [(70, .aload_n 0, 1, []), (71, .bipush 48, 2, []), (73, .iconst 0, 1, []), (74, .invokevirtual 295, 3, []), (77, .pop, 1, []), (78, .aload_n 0, 1, []), (79, .iload_n 1, 1, []), (80, .invokevirtual 308, 3, []), (83, .iload_n 3, 1, []), (84, .if_icmp .ge 17, 3, []), (87, .aload_n 0, 1, []), (88, .iload_n 2, 1, []), (89, .invokevirtual 308, 3, []), (92, .iload 4, 2, []), (94, .if_icmp .ge 7, 3, []), (97, .iconst 1, 1, []), (98, .goto 4, 3, []), (101, .iconst 0, 1, [false, false, false, false, false]), (102, .ireturn, 1, [false, false, false, false, false])] [(120, 0, jcX11_run), (128, 0, jcX11_griefAhead)] [] 20 [] 70 [.ref 0, .int a1, .int a2, .int a3, .int a4] [] M = jfX11_warmer_70 a1 a2 a3 a4 M := rfl
theorem jtX11_warmer_70 : ∀ (a1 : Int32) (a2 : Int32) (a3 : Int32) (a4 : Int32) (M : sy_M) (r : xe_R × sy_M), jfX11_warmer_70 a1 a2 a3 a4 M = some r → sy_E (7) qX11_warmer 70 [.ref 0, .int a1, .int a2, .int a3, .int a4] [] M r := by
  intro a1 a2 a3 a4 M r h
  exact sy_run_by (d := 6) ((jrX11_warmer_70 _ _ _ _ M).trans h) hkX11 (by decide +kernel) (sy_cs_cons (jeX11_run.deep (by decide)) (sy_cs_cons (jeX11_griefAhead.deep (by decide)) sy_cs_nil)) sy_us_nil
def jfX11_warmer (a1 : Int32) (a2 : Int32) (M : sy_M) : sy_O :=
  sy_bv (jfX11_checkTwo a1 a2 M) fun M1 =>
  sy_bv (jfX8_learn 9 M1) fun M2 =>
  sy_bi (jfX2_get 9 a1 4 M2) fun v4 M3 =>
  sy_bi (jfX11_griefBy a1 v4 M3) fun v6 M5 =>
  sy_bi (jfX11_griefAhead a2 M5) fun v8 M7 =>
  sy_bv (jfX2_takeOver 19 9 M7) fun M9 =>
  sy_bv (jfX2_swapRooms 19 a1 a2 M9) fun M10 =>
  sy_bv (jfX8_learn 19 M10) fun M11 =>
  jfX11_warmer_70 a1 a2 v6 v8 M11
set_option maxRecDepth 100000 in
theorem jrX11_warmer (a1 : Int32) (a2 : Int32) (M : sy_M) : sy_run skX11 qX11_warmer [(0, .aload_n 0, 1, []), (1, .iload_n 1, 1, []), (2, .iload_n 2, 1, []), (3, .invokevirtual 190, 3, []), (6, .aload_n 0, 1, []), (7, .getfield 75, 3, []), (10, .aload_n 0, 1, []), (11, .getfield 28, 3, []), (14, .invokevirtual 181, 3, []), (17, .aload_n 0, 1, []), (18, .iload_n 1, 1, []), (19, .aload_n 0, 1, []), (20, .getfield 28, 3, []), (23, .iload_n 1, 1, []), (24, .iconst 4, 1, []), (25, .invokevirtual 152, 3, []), (28, .invokevirtual 302, 3, []), (31, .istore_n 3, 1, []), (32, .aload_n 0, 1, []), (33, .iload_n 2, 1, []), (34, .invokevirtual 308, 3, []), (37, .istore 4, 2, []), (39, .aload_n 0, 1, []), (40, .getfield 35, 3, []), (43, .aload_n 0, 1, []), (44, .getfield 28, 3, []), (47, .invokevirtual 115, 3, []), (50, .aload_n 0, 1, []), (51, .getfield 35, 3, []), (54, .iload_n 1, 1, []), (55, .iload_n 2, 1, []), (56, .invokevirtual 279, 3, []), (59, .aload_n 0, 1, []), (60, .getfield 75, 3, []), (63, .aload_n 0, 1, []), (64, .getfield 35, 3, []), (67, .invokevirtual 181, 3, [])] [(177, 1, jcX11_checkTwo), (63, 1, jcX8_learn), (10, 0, jcX2_get), (127, 0, jcX11_griefBy), (128, 0, jcX11_griefAhead), (9, 1, jcX2_takeOver), (18, 1, jcX2_swapRooms)] [(70, juX11_warmer_70 (jfX11_warmer_70))] 38 [] 0 [.ref 0, .int a1, .int a2, xe_no, xe_no] [] M = jfX11_warmer a1 a2 M := rfl
theorem jtX11_warmer : ∀ (a1 : Int32) (a2 : Int32) (M : sy_M) (r : xe_R × sy_M), jfX11_warmer a1 a2 M = some r → sy_E (7) qX11_warmer 0 [.ref 0, .int a1, .int a2, xe_no, xe_no] [] M r := by
  intro a1 a2 M r h
  exact sy_run_by (d := 6) ((jrX11_warmer _ _ M).trans h) hkX11 (by decide +kernel) (sy_cs_cons (jeX11_checkTwo.deep (by decide)) (sy_cs_cons (jeX8_learn.deep (by decide)) (sy_cs_cons (jeX2_get.deep (by decide)) (sy_cs_cons (jeX11_griefBy.deep (by decide)) (sy_cs_cons (jeX11_griefAhead.deep (by decide)) (sy_cs_cons (jeX2_takeOver.deep (by decide)) (sy_cs_cons (jeX2_swapRooms.deep (by decide)) sy_cs_nil))))))) (sy_us_cons (jwX11_warmer_70 (jtX11_warmer_70)) sy_us_nil)
def jcX11_warmer (as : List Value) (M : sy_M) (K : sy_O → sy_O) : sy_O := sy_xc 0 as fun l => sy_xi l fun a1 l => sy_xi l fun a2 l => sy_xn l (K (jfX11_warmer a1 a2 M))
theorem jeX11_warmer : sy_snd (7) 125 (jcX11_warmer) := by
  intro as M K r h
  obtain ⟨l, e, h1⟩ := sy_xc_ok h; subst e
  obtain ⟨a1, l, e, h2⟩ := sy_xi_ok h1; subst e
  obtain ⟨a2, l, e, h3⟩ := sy_xi_ok h2; subst e
  obtain ⟨e, h4⟩ := sy_xn_ok h3; subst e
  exact ⟨_, h4, fun r1 h0 => ⟨qX11_warmer, rfl, rfl, jtX11_warmer _ _ M r1 h0⟩⟩
/-! L_warmer StairMeterLaw warmer (LStairMeter;II[J)I [('R', 0), 'I', 'I', ('R', 132)] -/
def juL_warmer_16 (k : Int64 → Int32 → sy_M → sy_O) (ls st : List Value) (M : sy_M) : sy_O := sy_xv ls fun _ l => sy_xv l fun _ l => sy_xv l fun _ l => sy_xv l fun _ l => sy_xv l fun _ l => sy_xn l (sy_xl st fun s0 l => sy_xi l fun s1 l => sy_xc 132 l fun l => sy_xn l (k s0 s1 M))
theorem jwL_warmer_16 {d : Nat} {k : Int64 → Int32 → sy_M → sy_O} (hk : ∀ (w0 : Value) (w1 : Value) (w2 : Value) (w3 : Value) (w4 : Value) (s0 : Int64) (s1 : Int32) (M : sy_M) (r : xe_R × sy_M), k s0 s1 M = some r → sy_E (d) qL_warmer 16 [w0, w1, w2, w3, w4] [.long s0, .int s1, .ref 132] M r) : ∀ ls st M r, juL_warmer_16 k ls st M = some r → sy_E d qL_warmer 16 ls st M r := by
  intro ls st M r h
  obtain ⟨w0, l, e, h1⟩ := sy_xv_ok h; subst e
  obtain ⟨w1, l, e, h2⟩ := sy_xv_ok h1; subst e
  obtain ⟨w2, l, e, h3⟩ := sy_xv_ok h2; subst e
  obtain ⟨w3, l, e, h4⟩ := sy_xv_ok h3; subst e
  obtain ⟨w4, l, e, h5⟩ := sy_xv_ok h4; subst e
  obtain ⟨e, h6⟩ := sy_xn_ok h5; subst e
  obtain ⟨s0, l, e, h7⟩ := sy_xl_ok h6; subst e
  obtain ⟨s1, l, e, h8⟩ := sy_xi_ok h7; subst e
  obtain ⟨l, e, h9⟩ := sy_xc_ok h8; subst e
  obtain ⟨e, h10⟩ := sy_xn_ok h9; subst e
  exact hk _ _ _ _ _ s0 s1 M r h10
def jfL_warmer_16 (s0 : Int64) (s1 : Int32) (M : sy_M) : sy_O :=
  sy_bx (xe_in s1 1) <|
  let M1 := sy_wl M 132 (Int32.toNatClampNeg s1) s0
  sy_ri 0 M1
set_option maxRecDepth 100000 in
theorem jrL_warmer_16 (w0 : Value) (w1 : Value) (w2 : Value) (w3 : Value) (w4 : Value) (s0 : Int64) (s1 : Int32) (M : sy_M) : sy_run skL qL_warmer [(16, .lastore, 1, [false, false, false, false, false]), (17, .goto 11, 3, []), (28, .iconst 0, 1, [false, false, false, false, false]), (29, .ireturn, 1, [])] [] [] 5 [] 16 [w0, w1, w2, w3, w4] [.long s0, .int s1, .ref 132] M = jfL_warmer_16 s0 s1 M := rfl
theorem jtL_warmer_16 : ∀ (w0 : Value) (w1 : Value) (w2 : Value) (w3 : Value) (w4 : Value) (s0 : Int64) (s1 : Int32) (M : sy_M) (r : xe_R × sy_M), jfL_warmer_16 s0 s1 M = some r → sy_E (8) qL_warmer 16 [w0, w1, w2, w3, w4] [.long s0, .int s1, .ref 132] M r := by
  intro w0 w1 w2 w3 w4 s0 s1 M r h
  exact sy_run_by (d := 7) ((jrL_warmer_16 _ _ _ _ _ _ _ M).trans h) hkL (by decide +kernel) sy_cs_nil sy_us_nil
def jfL_warmer (a1 : Int32) (a2 : Int32) (M : sy_M) : sy_O :=
  sy_hi (jfX11_warmer a1 a2 M) (fun v2 M1 =>
    if v2 = 0 then
      jfL_warmer_16 (Int64.ofNat 0) 0 M1
    else
      jfL_warmer_16 (Int64.ofNat 1) 0 M1)
  (fun c3 M4 => if c3 = 22 then sy_ri 1 M4 else if c3 = 20 then sy_ri 2 M4 else none)
set_option maxRecDepth 100000 in
theorem jrL_warmer (a1 : Int32) (a2 : Int32) (M : sy_M) : sy_run skL qL_warmer [(0, .aload_n 3, 1, []), (1, .iconst 0, 1, []), (2, .aload_n 0, 1, []), (3, .iload_n 1, 1, []), (4, .iload_n 2, 1, []), (5, .invokevirtual 101, 3, []), (8, .ifCond .eq 7, 3, []), (11, .lconst 1, 1, []), (12, .goto 4, 3, []), (15, .lconst 0, 1, [false, false, false, false, false]), (20, .astore 4, 2, [false, false, false, false, false]), (22, .iconst 1, 1, []), (23, .ireturn, 1, []), (24, .astore 4, 2, [false, false, false, false, false]), (26, .iconst 2, 1, []), (27, .ireturn, 1, [])] [(125, 3, jcX11_warmer)] [(16, juL_warmer_16 (jfL_warmer_16))] 17 [] 0 [.ref 0, .int a1, .int a2, .ref 132, xe_no] [] M = jfL_warmer a1 a2 M := rfl
theorem jtL_warmer : ∀ (a1 : Int32) (a2 : Int32) (M : sy_M) (r : xe_R × sy_M), jfL_warmer a1 a2 M = some r → sy_E (8) qL_warmer 0 [.ref 0, .int a1, .int a2, .ref 132, xe_no] [] M r := by
  intro a1 a2 M r h
  exact sy_run_by (d := 7) ((jrL_warmer _ _ M).trans h) hkL (by decide +kernel) (sy_cs_cons (jeX11_warmer.deep (by decide)) sy_cs_nil) (sy_us_cons (jwL_warmer_16 (jtL_warmer_16)) sy_us_nil)
def jcL_warmer (as : List Value) (M : sy_M) (K : sy_O → sy_O) : sy_O := sy_xc 0 as fun l => sy_xi l fun a1 l => sy_xi l fun a2 l => sy_xc 132 l fun l => sy_xn l (K (jfL_warmer a1 a2 M))
theorem jeL_warmer : sy_snd (8) 346 (jcL_warmer) := by
  intro as M K r h
  obtain ⟨l, e, h1⟩ := sy_xc_ok h; subst e
  obtain ⟨a1, l, e, h2⟩ := sy_xi_ok h1; subst e
  obtain ⟨a2, l, e, h3⟩ := sy_xi_ok h2; subst e
  obtain ⟨l, e, h4⟩ := sy_xc_ok h3; subst e
  obtain ⟨e, h5⟩ := sy_xn_ok h4; subst e
  exact ⟨_, h5, fun r1 h0 => ⟨qL_warmer, rfl, rfl, jtL_warmer _ _ M r1 h0⟩⟩
/-! X12_warmer StairMeterModel warmer (II)Z [('R', 121), 'I', 'I'] -/
def juX12_warmer_71 (k : sy_M → sy_O) (ls st : List Value) (M : sy_M) : sy_O := sy_xc 121 ls fun l => sy_xi l fun w1 l => sy_xi l fun w2 l => sy_xi l fun w3 l => sy_xi l fun w4 l => sy_xn l (sy_xn st (k M))
theorem jwX12_warmer_71 {d : Nat} {k : sy_M → sy_O} (hk : ∀ (w1 : Int32) (w2 : Int32) (w3 : Int32) (w4 : Int32) (M : sy_M) (r : xe_R × sy_M), k M = some r → sy_E (d) qX12_warmer 71 [.ref 121, .int w1, .int w2, .int w3, .int w4] [] M r) : ∀ ls st M r, juX12_warmer_71 k ls st M = some r → sy_E d qX12_warmer 71 ls st M r := by
  intro ls st M r h
  obtain ⟨l, e, h1⟩ := sy_xc_ok h; subst e
  obtain ⟨w1, l, e, h2⟩ := sy_xi_ok h1; subst e
  obtain ⟨w2, l, e, h3⟩ := sy_xi_ok h2; subst e
  obtain ⟨w3, l, e, h4⟩ := sy_xi_ok h3; subst e
  obtain ⟨w4, l, e, h5⟩ := sy_xi_ok h4; subst e
  obtain ⟨e, h6⟩ := sy_xn_ok h5; subst e
  obtain ⟨e, h7⟩ := sy_xn_ok h6; subst e
  exact hk _ _ _ _ M r h7
def jfX12_warmer_71 (M : sy_M) : sy_O :=
  sy_ri 1 M
set_option maxRecDepth 100000 in
theorem jrX12_warmer_71 (w1 : Int32) (w2 : Int32) (w3 : Int32) (w4 : Int32) (M : sy_M) : sy_run skX12 qX12_warmer [(71, .iconst 1, 1, []), (72, .goto 4, 3, []), (76, .ireturn, 1, [false, false, false, false, false])] [] [] 4 [] 71 [.ref 121, .int w1, .int w2, .int w3, .int w4] [] M = jfX12_warmer_71 M := rfl
theorem jtX12_warmer_71 : ∀ (w1 : Int32) (w2 : Int32) (w3 : Int32) (w4 : Int32) (M : sy_M) (r : xe_R × sy_M), jfX12_warmer_71 M = some r → sy_E (53) qX12_warmer 71 [.ref 121, .int w1, .int w2, .int w3, .int w4] [] M r := by
  intro w1 w2 w3 w4 M r h
  exact sy_run_by (d := 52) ((jrX12_warmer_71 _ _ _ _ M).trans h) hkX12 (by decide +kernel) sy_cs_nil sy_us_nil
def jfX12_warmer (a1 : Int32) (a2 : Int32) (M : sy_M) : sy_O :=
  sy_bv (jfX12_areTwo a1 a2 M) fun M1 =>
  if 0 < (M1 121 0) then
    sy_ri 0 M1
  else
    sy_bv (jfX12_grieves M1) fun M2 =>
    sy_bx (xe_in a1 7) <|
    let v3 := (M2 129 (Int32.toNatClampNeg a1))
    sy_bx (xe_in a2 7) <|
    let v4 := (M2 129 (Int32.toNatClampNeg a2))
    sy_bv (jfX12_rooms a1 a2 M2) fun M5 =>
    sy_bv (jfX12_grieves M5) fun M6 =>
    sy_bv (jfX12_rooms a1 a2 M6) fun M7 =>
    sy_bx (xe_in a1 7) <|
    if (M7 129 (Int32.toNatClampNeg a1)) < v3 then
      sy_bx (xe_in a2 7) <|
      if (M7 129 (Int32.toNatClampNeg a2)) < v4 then
        jfX12_warmer_71 M7
      else
        sy_ri 0 M7
    else
      sy_ri 0 M7
set_option maxRecDepth 100000 in
theorem jrX12_warmer (a1 : Int32) (a2 : Int32) (M : sy_M) : sy_run skX12 qX12_warmer [(0, .aload_n 0, 1, []), (1, .iload_n 1, 1, []), (2, .iload_n 2, 1, []), (3, .invokevirtual 299, 3, []), (6, .aload_n 0, 1, []), (7, .getfield 45, 3, []), (10, .ifCond .le 5, 3, []), (13, .iconst 0, 1, []), (14, .ireturn, 1, []), (15, .aload_n 0, 1, [true, true, true, false, false]), (16, .invokevirtual 336, 3, []), (19, .aload_n 0, 1, []), (20, .getfield 35, 3, []), (23, .iload_n 1, 1, []), (24, .iaload, 1, []), (25, .istore_n 3, 1, []), (26, .aload_n 0, 1, []), (27, .getfield 35, 3, []), (30, .iload_n 2, 1, []), (31, .iaload, 1, []), (32, .istore 4, 2, []), (34, .aload_n 0, 1, []), (35, .iload_n 1, 1, []), (36, .iload_n 2, 1, []), (37, .invokevirtual 321, 3, []), (40, .aload_n 0, 1, []), (41, .invokevirtual 336, 3, []), (44, .aload_n 0, 1, []), (45, .iload_n 1, 1, []), (46, .iload_n 2, 1, []), (47, .invokevirtual 321, 3, []), (50, .aload_n 0, 1, []), (51, .getfield 35, 3, []), (54, .iload_n 1, 1, []), (55, .iaload, 1, []), (56, .iload_n 3, 1, []), (57, .if_icmp .ge 18, 3, []), (60, .aload_n 0, 1, []), (61, .getfield 35, 3, []), (64, .iload_n 2, 1, []), (65, .iaload, 1, []), (66, .iload 4, 2, []), (68, .if_icmp .ge 7, 3, []), (75, .iconst 0, 1, [false, false, false, false, false]), (76, .ireturn, 1, [false, false, false, false, false])] [(240, 1, jcX12_areTwo), (267, 1, jcX12_grieves), (252, 1, jcX12_rooms)] [(71, juX12_warmer_71 (jfX12_warmer_71))] 46 [] 0 [.ref 121, .int a1, .int a2, xe_no, xe_no] [] M = jfX12_warmer a1 a2 M := rfl
theorem jtX12_warmer : ∀ (a1 : Int32) (a2 : Int32) (M : sy_M) (r : xe_R × sy_M), jfX12_warmer a1 a2 M = some r → sy_E (53) qX12_warmer 0 [.ref 121, .int a1, .int a2, xe_no, xe_no] [] M r := by
  intro a1 a2 M r h
  exact sy_run_by (d := 52) ((jrX12_warmer _ _ M).trans h) hkX12 (by decide +kernel) (sy_cs_cons (jeX12_areTwo.deep (by decide)) (sy_cs_cons (jeX12_grieves.deep (by decide)) (sy_cs_cons (jeX12_rooms.deep (by decide)) sy_cs_nil))) (sy_us_cons (jwX12_warmer_71 (jtX12_warmer_71)) sy_us_nil)
def jcX12_warmer (as : List Value) (M : sy_M) (K : sy_O → sy_O) : sy_O := sy_xc 121 as fun l => sy_xi l fun a1 l => sy_xi l fun a2 l => sy_xn l (K (jfX12_warmer a1 a2 M))
theorem jeX12_warmer : sy_snd (53) 285 (jcX12_warmer) := by
  intro as M K r h
  obtain ⟨l, e, h1⟩ := sy_xc_ok h; subst e
  obtain ⟨a1, l, e, h2⟩ := sy_xi_ok h1; subst e
  obtain ⟨a2, l, e, h3⟩ := sy_xi_ok h2; subst e
  obtain ⟨e, h4⟩ := sy_xn_ok h3; subst e
  exact ⟨_, h4, fun r1 h0 => ⟨qX12_warmer, rfl, rfl, jtX12_warmer _ _ M r1 h0⟩⟩
/-! X9_keep StairMeter$Pairing keep (I)V [('R', 53), 'I'] -/
def jfX9_keep (a1 : Int32) (M : sy_M) : sy_O :=
  if (M 53 4) < a1 then
    let M1 := sy_upd M 53 4 a1
    let M2 := sy_cpy M1 55 0 56 0 7
    sy_rv M2
  else
    sy_rv M
set_option maxRecDepth 100000 in
theorem jrX9_keep (a1 : Int32) (M : sy_M) : sy_run skX9 qX9_keep [(0, .iload_n 1, 1, []), (1, .aload_n 0, 1, []), (2, .getfield 25, 3, []), (5, .if_icmp .le 23, 3, []), (8, .aload_n 0, 1, []), (9, .iload_n 1, 1, []), (10, .putfield 25, 3, []), (13, .aload_n 0, 1, []), (14, .getfield 15, 3, []), (17, .iconst 0, 1, []), (18, .aload_n 0, 1, []), (19, .getfield 18, 3, []), (22, .iconst 0, 1, []), (23, .bipush 7, 2, []), (25, .invokestatic 55, 3, []), (28, .return_, 1, [false, false])] [] [] 17 [] 0 [.ref 53, .int a1] [] M = jfX9_keep a1 M := rfl
theorem jtX9_keep : ∀ (a1 : Int32) (M : sy_M) (r : xe_R × sy_M), jfX9_keep a1 M = some r → sy_E (1) qX9_keep 0 [.ref 53, .int a1] [] M r := by
  intro a1 M r h
  exact sy_run_by (d := 0) ((jrX9_keep _ M).trans h) hkX9 (by decide +kernel) sy_cs_nil sy_us_nil
def jcX9_keep (as : List Value) (M : sy_M) (K : sy_O → sy_O) : sy_O := sy_xc 53 as fun l => sy_xi l fun a1 l => sy_xn l (K (jfX9_keep a1 M))
theorem jeX9_keep : sy_snd (1) 73 (jcX9_keep) := by
  intro as M K r h
  obtain ⟨l, e, h1⟩ := sy_xc_ok h; subst e
  obtain ⟨a1, l, e, h2⟩ := sy_xi_ok h1; subst e
  obtain ⟨e, h3⟩ := sy_xn_ok h2; subst e
  exact ⟨_, h3, fun r1 h0 => ⟨qX9_keep, rfl, rfl, jtX9_keep _ M r1 h0⟩⟩
def chd_C (rc : Int32 → Int32 → sy_M → sy_O) (as : List Value) (M : sy_M) (K : sy_O → sy_O) : sy_O := sy_xc 53 as fun l => sy_xi l fun a1 l => sy_xi l fun a2 l => sy_xn l (K (rc a1 a2 M))
/-! X9_choose StairMeter$Pairing choose (II)V [('R', 53), 'I', 'I'] -/
def juX9_choose_18 (k : Int32 → sy_M → sy_O) (ls st : List Value) (M : sy_M) : sy_O := sy_xc 53 ls fun l => sy_xv l fun _ l => sy_xi l fun a2 l => sy_xv l fun _ l => sy_xn l (sy_xn st (k a2 M))
theorem jwX9_choose_18 {d : Nat} {k : Int32 → sy_M → sy_O} (hk : ∀ (w1 : Value) (w3 : Value) (a2 : Int32) (M : sy_M) (r : xe_R × sy_M), k a2 M = some r → sy_E (d) qX9_choose 18 [.ref 53, w1, .int a2, w3] [] M r) : ∀ ls st M r, juX9_choose_18 k ls st M = some r → sy_E d qX9_choose 18 ls st M r := by
  intro ls st M r h
  obtain ⟨l, e, h1⟩ := sy_xc_ok h; subst e
  obtain ⟨w1, l, e, h2⟩ := sy_xv_ok h1; subst e
  obtain ⟨a2, l, e, h3⟩ := sy_xi_ok h2; subst e
  obtain ⟨w3, l, e, h4⟩ := sy_xv_ok h3; subst e
  obtain ⟨e, h5⟩ := sy_xn_ok h4; subst e
  obtain ⟨e, h6⟩ := sy_xn_ok h5; subst e
  exact hk _ _ a2 M r h6
def juX9_choose_119 (k : Int32 → Int32 → Int32 → sy_M → sy_O) (ls st : List Value) (M : sy_M) : sy_O := sy_xc 53 ls fun l => sy_xi l fun a1 l => sy_xi l fun a2 l => sy_xi l fun a3 l => sy_xn l (sy_xn st (k a1 a2 a3 M))
theorem jwX9_choose_119 {d : Nat} {k : Int32 → Int32 → Int32 → sy_M → sy_O} (hk : ∀ (a1 : Int32) (a2 : Int32) (a3 : Int32) (M : sy_M) (r : xe_R × sy_M), k a1 a2 a3 M = some r → sy_E (d) qX9_choose 119 [.ref 53, .int a1, .int a2, .int a3] [] M r) : ∀ ls st M r, juX9_choose_119 k ls st M = some r → sy_E d qX9_choose 119 ls st M r := by
  intro ls st M r h
  obtain ⟨l, e, h1⟩ := sy_xc_ok h; subst e
  obtain ⟨a1, l, e, h2⟩ := sy_xi_ok h1; subst e
  obtain ⟨a2, l, e, h3⟩ := sy_xi_ok h2; subst e
  obtain ⟨a3, l, e, h4⟩ := sy_xi_ok h3; subst e
  obtain ⟨e, h5⟩ := sy_xn_ok h4; subst e
  obtain ⟨e, h6⟩ := sy_xn_ok h5; subst e
  exact hk a1 a2 a3 M r h6
def juX9_choose_105 (k : Int32 → Int32 → Int32 → sy_M → sy_O) (ls st : List Value) (M : sy_M) : sy_O := sy_xc 53 ls fun l => sy_xi l fun a1 l => sy_xi l fun a2 l => sy_xi l fun a3 l => sy_xn l (sy_xn st (k a1 a2 a3 M))
theorem jwX9_choose_105 {d : Nat} {k : Int32 → Int32 → Int32 → sy_M → sy_O} (hk : ∀ (a1 : Int32) (a2 : Int32) (a3 : Int32) (M : sy_M) (r : xe_R × sy_M), k a1 a2 a3 M = some r → sy_E (d) qX9_choose 105 [.ref 53, .int a1, .int a2, .int a3] [] M r) : ∀ ls st M r, juX9_choose_105 k ls st M = some r → sy_E d qX9_choose 105 ls st M r := by
  intro ls st M r h
  obtain ⟨l, e, h1⟩ := sy_xc_ok h; subst e
  obtain ⟨a1, l, e, h2⟩ := sy_xi_ok h1; subst e
  obtain ⟨a2, l, e, h3⟩ := sy_xi_ok h2; subst e
  obtain ⟨a3, l, e, h4⟩ := sy_xi_ok h3; subst e
  obtain ⟨e, h5⟩ := sy_xn_ok h4; subst e
  obtain ⟨e, h6⟩ := sy_xn_ok h5; subst e
  exact hk a1 a2 a3 M r h6
def juX9_choose_47 (k : Int32 → Int32 → Int32 → sy_M → sy_O) (ls st : List Value) (M : sy_M) : sy_O := sy_xc 53 ls fun l => sy_xi l fun a1 l => sy_xi l fun a2 l => sy_xi l fun a3 l => sy_xn l (sy_xn st (k a1 a2 a3 M))
theorem jwX9_choose_47 {d : Nat} {k : Int32 → Int32 → Int32 → sy_M → sy_O} (hk : ∀ (a1 : Int32) (a2 : Int32) (a3 : Int32) (M : sy_M) (r : xe_R × sy_M), k a1 a2 a3 M = some r → sy_E (d) qX9_choose 47 [.ref 53, .int a1, .int a2, .int a3] [] M r) : ∀ ls st M r, juX9_choose_47 k ls st M = some r → sy_E d qX9_choose 47 ls st M r := by
  intro ls st M r h
  obtain ⟨l, e, h1⟩ := sy_xc_ok h; subst e
  obtain ⟨a1, l, e, h2⟩ := sy_xi_ok h1; subst e
  obtain ⟨a2, l, e, h3⟩ := sy_xi_ok h2; subst e
  obtain ⟨a3, l, e, h4⟩ := sy_xi_ok h3; subst e
  obtain ⟨e, h5⟩ := sy_xn_ok h4; subst e
  obtain ⟨e, h6⟩ := sy_xn_ok h5; subst e
  exact hk a1 a2 a3 M r h6
def jfX9_choose_18 (rc : Int32 → Int32 → sy_M → sy_O) (a2 : Int32) (M : sy_M) : sy_O :=
  sy_bv (jfX9_keep a2 M) fun M1 =>
  sy_rv M1
set_option maxRecDepth 100000 in
theorem jrX9_choose_18 (rc : Int32 → Int32 → sy_M → sy_O) (w1 : Value) (w3 : Value) (a2 : Int32) (M : sy_M) : sy_run skX9 qX9_choose [(18, .aload_n 0, 1, [true, false, true, false]), (19, .iload_n 2, 1, []), (20, .invokevirtual 51, 3, []), (23, .return_, 1, [])] [(73, 1, jcX9_keep)] [] 5 [] 18 [.ref 53, w1, .int a2, w3] [] M = jfX9_choose_18 rc a2 M := rfl
theorem jtX9_choose_18 {rc : Int32 → Int32 → sy_M → sy_O} {d : Nat} (hd : 1 ≤ d) (hrc : sy_snd d 72 (chd_C rc)) : ∀ (w1 : Value) (w3 : Value) (a2 : Int32) (M : sy_M) (r : xe_R × sy_M), jfX9_choose_18 rc a2 M = some r → sy_E (d + 1) qX9_choose 18 [.ref 53, w1, .int a2, w3] [] M r := by
  intro w1 w3 a2 M r h
  exact sy_run_by (d := d) ((jrX9_choose_18 _ _ _ _ M).trans h) hkX9 (by decide +kernel) (sy_cs_cons (jeX9_keep.deep (by omega)) sy_cs_nil) sy_us_nil
def jfX9_choose_119 (rc : Int32 → Int32 → sy_M → sy_O) (k47 : Int32 → Int32 → Int32 → sy_M → sy_O) (a1 : Int32) (a2 : Int32) (a3 : Int32) (M : sy_M) : sy_O :=
  let v1 := a3 + 1
  k47 a1 a2 v1 M
set_option maxRecDepth 100000 in
theorem jrX9_choose_119 (rc : Int32 → Int32 → sy_M → sy_O) (k47 : Int32 → Int32 → Int32 → sy_M → sy_O) (a1 : Int32) (a2 : Int32) (a3 : Int32) (M : sy_M) : sy_run skX9 qX9_choose [(119, .iinc 3 1, 3, []), (122, .goto (-75), 3, [])] [] [(47, juX9_choose_47 k47)] 3 [] 119 [.ref 53, .int a1, .int a2, .int a3] [] M = jfX9_choose_119 rc k47 a1 a2 a3 M := rfl
theorem jtX9_choose_119 {rc : Int32 → Int32 → sy_M → sy_O} {d : Nat} (hd : 1 ≤ d) (hrc : sy_snd d 72 (chd_C rc)) {k47 : Int32 → Int32 → Int32 → sy_M → sy_O} (hk47 : ∀ (a1 : Int32) (a2 : Int32) (a3 : Int32) (M : sy_M) (r : xe_R × sy_M), k47 a1 a2 a3 M = some r → sy_E (d + 1) qX9_choose 47 [.ref 53, .int a1, .int a2, .int a3] [] M r) : ∀ (a1 : Int32) (a2 : Int32) (a3 : Int32) (M : sy_M) (r : xe_R × sy_M), jfX9_choose_119 rc k47 a1 a2 a3 M = some r → sy_E (d + 1) qX9_choose 119 [.ref 53, .int a1, .int a2, .int a3] [] M r := by
  intro a1 a2 a3 M r h
  exact sy_run_by (d := d) ((jrX9_choose_119 _ _ _ _ _ M).trans h) hkX9 (by decide +kernel) sy_cs_nil (sy_us_cons (jwX9_choose_47 hk47) sy_us_nil)
def jfX9_choose_105 (rc : Int32 → Int32 → sy_M → sy_O) (k47 : Int32 → Int32 → Int32 → sy_M → sy_O) (a1 : Int32) (a2 : Int32) (a3 : Int32) (M : sy_M) : sy_O :=
  sy_bx (xe_in a1 7) <|
  let M1 := sy_upd M 55 (Int32.toNatClampNeg a1) (-1)
  sy_bx (xe_in a3 7) <|
  let M2 := sy_upd M1 55 (Int32.toNatClampNeg a3) (-1)
  jfX9_choose_119 rc k47 a1 a2 a3 M2
set_option maxRecDepth 100000 in
theorem jrX9_choose_105 (rc : Int32 → Int32 → sy_M → sy_O) (k47 : Int32 → Int32 → Int32 → sy_M → sy_O) (a1 : Int32) (a2 : Int32) (a3 : Int32) (M : sy_M) : sy_run skX9 qX9_choose [(105, .aload_n 0, 1, []), (106, .getfield 15, 3, []), (109, .iload_n 1, 1, []), (110, .iconst (-1), 1, []), (111, .iastore, 1, []), (112, .aload_n 0, 1, []), (113, .getfield 15, 3, []), (116, .iload_n 3, 1, []), (117, .iconst (-1), 1, []), (118, .iastore, 1, [])] [] [(119, juX9_choose_119 (jfX9_choose_119 rc k47))] 11 [] 105 [.ref 53, .int a1, .int a2, .int a3] [] M = jfX9_choose_105 rc k47 a1 a2 a3 M := rfl
theorem jtX9_choose_105 {rc : Int32 → Int32 → sy_M → sy_O} {d : Nat} (hd : 1 ≤ d) (hrc : sy_snd d 72 (chd_C rc)) {k47 : Int32 → Int32 → Int32 → sy_M → sy_O} (hk47 : ∀ (a1 : Int32) (a2 : Int32) (a3 : Int32) (M : sy_M) (r : xe_R × sy_M), k47 a1 a2 a3 M = some r → sy_E (d + 1) qX9_choose 47 [.ref 53, .int a1, .int a2, .int a3] [] M r) : ∀ (a1 : Int32) (a2 : Int32) (a3 : Int32) (M : sy_M) (r : xe_R × sy_M), jfX9_choose_105 rc k47 a1 a2 a3 M = some r → sy_E (d + 1) qX9_choose 105 [.ref 53, .int a1, .int a2, .int a3] [] M r := by
  intro a1 a2 a3 M r h
  exact sy_run_by (d := d) ((jrX9_choose_105 _ _ _ _ _ M).trans h) hkX9 (by decide +kernel) sy_cs_nil (sy_us_cons (jwX9_choose_119 (jtX9_choose_119 hd hrc hk47)) sy_us_nil)
def jgX9_choose_47 (rc : Int32 → Int32 → sy_M → sy_O) (k47 : Int32 → Int32 → Int32 → sy_M → sy_O) (a1 : Int32) (a2 : Int32) (a3 : Int32) (M : sy_M) : sy_O :=
  if a3 < (M 53 3) then
    if a3 < 7 then
      sy_bx (xe_in a3 7) <|
      if (M 55 (Int32.toNatClampNeg a3)) = (-1) then
        sy_bx (xe_in a1 7) <|
        let M1 := sy_upd M 55 (Int32.toNatClampNeg a1) a3
        sy_bx (xe_in a3 7) <|
        let M2 := sy_upd M1 55 (Int32.toNatClampNeg a3) a1
        sy_bx (xe_in ((a1 * 7) + a3) 49) <|
        sy_bv (rc (a1 + 1) (a2 + (M2 54 (Int32.toNatClampNeg ((a1 * 7) + a3)))) M2) fun M3 =>
        jfX9_choose_105 rc k47 a1 a2 a3 M3
      else
        jfX9_choose_119 rc k47 a1 a2 a3 M
    else
      sy_rv M
  else
    sy_rv M
def jfX9_choose_47 (rc : Int32 → Int32 → sy_M → sy_O) : Nat → Int32 → Int32 → Int32 → sy_M → sy_O
  | 0, _, _, _, _ => none
  | n + 1, a1, a2, a3, M => jgX9_choose_47 rc (jfX9_choose_47 rc n) a1 a2 a3 M
set_option maxRecDepth 100000 in
theorem jrX9_choose_47 (rc : Int32 → Int32 → sy_M → sy_O) (k47 : Int32 → Int32 → Int32 → sy_M → sy_O) (a1 : Int32) (a2 : Int32) (a3 : Int32) (M : sy_M) : sy_run skX9 qX9_choose [(47, .iload_n 3, 1, []), (48, .aload_n 0, 1, []), (49, .getfield 21, 3, []), (52, .if_icmp .ge 73, 3, []), (55, .iload_n 3, 1, []), (56, .bipush 7, 2, []), (58, .if_icmp .ge 67, 3, []), (61, .aload_n 0, 1, []), (62, .getfield 15, 3, []), (65, .iload_n 3, 1, []), (66, .iaload, 1, []), (67, .iconst (-1), 1, []), (68, .if_icmp .ne 51, 3, []), (71, .aload_n 0, 1, []), (72, .getfield 15, 3, []), (75, .iload_n 1, 1, []), (76, .iload_n 3, 1, []), (77, .iastore, 1, []), (78, .aload_n 0, 1, []), (79, .getfield 15, 3, []), (82, .iload_n 3, 1, []), (83, .iload_n 1, 1, []), (84, .iastore, 1, []), (85, .aload_n 0, 1, []), (86, .iload_n 1, 1, []), (87, .iconst 1, 1, []), (88, .iadd, 1, []), (89, .iload_n 2, 1, []), (90, .aload_n 0, 1, []), (91, .getfield 9, 3, []), (94, .iload_n 1, 1, []), (95, .bipush 7, 2, []), (97, .imul, 1, []), (98, .iload_n 3, 1, []), (99, .iadd, 1, []), (100, .iaload, 1, []), (101, .iadd, 1, []), (102, .invokevirtual 41, 3, []), (125, .return_, 1, [false, false, false, false])] [(72, 1, chd_C rc)] [(119, juX9_choose_119 (jfX9_choose_119 rc k47)), (105, juX9_choose_105 (jfX9_choose_105 rc k47))] 40 [] 47 [.ref 53, .int a1, .int a2, .int a3] [] M = jgX9_choose_47 rc k47 a1 a2 a3 M := rfl
theorem jtX9_choose_47 {rc : Int32 → Int32 → sy_M → sy_O} {d : Nat} (hd : 1 ≤ d) (hrc : sy_snd d 72 (chd_C rc)) : ∀ n : Nat, ∀ (a1 : Int32) (a2 : Int32) (a3 : Int32) (M : sy_M) (r : xe_R × sy_M), jfX9_choose_47 rc n a1 a2 a3 M = some r → sy_E (d + 1) qX9_choose 47 [.ref 53, .int a1, .int a2, .int a3] [] M r := by
  intro n
  induction n with
  | zero => intro a1 a2 a3 M r h; exact absurd (show (none : sy_O) = some r from h) (by simp)
  | succ n ih => intro a1 a2 a3 M r h; exact sy_run_by (d := d) ((jrX9_choose_47 _ _ _ _ _ M).trans h) hkX9 (by decide +kernel) (sy_cs_cons (hrc.deep (by omega)) sy_cs_nil) (sy_us_cons (jwX9_choose_119 (jtX9_choose_119 hd hrc ih)) (sy_us_cons (jwX9_choose_105 (jtX9_choose_105 hd hrc ih)) sy_us_nil))
def jgX9_choose (rc : Int32 → Int32 → sy_M → sy_O) (a1 : Int32) (a2 : Int32) (M : sy_M) : sy_O :=
  if a1 < 0 then
    jfX9_choose_18 rc a2 M
  else
    if a1 < (M 53 3) then
      if a1 < 7 then
        sy_bv (rc (a1 + 1) a2 M) fun M1 =>
        sy_bx (xe_in a1 7) <|
        if (M1 55 (Int32.toNatClampNeg a1)) = (-1) then
          let v2 := (a1 + 1)
          jfX9_choose_47 rc sy_F a1 a2 v2 M1
        else
          sy_rv M1
      else
        jfX9_choose_18 rc a2 M
    else
      jfX9_choose_18 rc a2 M
set_option maxRecDepth 100000 in
theorem jrX9_choose (rc : Int32 → Int32 → sy_M → sy_O) (a1 : Int32) (a2 : Int32) (M : sy_M) : sy_run skX9 qX9_choose [(0, .iload_n 1, 1, []), (1, .ifCond .lt 17, 3, []), (4, .iload_n 1, 1, []), (5, .aload_n 0, 1, []), (6, .getfield 21, 3, []), (9, .if_icmp .ge 9, 3, []), (12, .iload_n 1, 1, []), (13, .bipush 7, 2, []), (15, .if_icmp .lt 9, 3, []), (24, .aload_n 0, 1, [true, true, true, false]), (25, .iload_n 1, 1, []), (26, .iconst 1, 1, []), (27, .iadd, 1, []), (28, .iload_n 2, 1, []), (29, .invokevirtual 41, 3, []), (32, .aload_n 0, 1, []), (33, .getfield 15, 3, []), (36, .iload_n 1, 1, []), (37, .iaload, 1, []), (38, .iconst (-1), 1, []), (39, .if_icmp .eq 4, 3, []), (42, .return_, 1, []), (43, .iload_n 1, 1, [true, true, true, false]), (44, .iconst 1, 1, []), (45, .iadd, 1, []), (46, .istore_n 3, 1, [])] [(72, 1, chd_C rc)] [(18, juX9_choose_18 (jfX9_choose_18 rc)), (47, juX9_choose_47 (jfX9_choose_47 rc sy_F))] 27 [] 0 [.ref 53, .int a1, .int a2, xe_no] [] M = jgX9_choose rc a1 a2 M := rfl
theorem jtX9_choose {rc : Int32 → Int32 → sy_M → sy_O} {d : Nat} (hd : 1 ≤ d) (hrc : sy_snd d 72 (chd_C rc)) : ∀ (a1 : Int32) (a2 : Int32) (M : sy_M) (r : xe_R × sy_M), jgX9_choose rc a1 a2 M = some r → sy_E (d + 1) qX9_choose 0 [.ref 53, .int a1, .int a2, xe_no] [] M r := by
  intro a1 a2 M r h
  exact sy_run_by (d := d) ((jrX9_choose _ _ _ M).trans h) hkX9 (by decide +kernel) (sy_cs_cons (hrc.deep (by omega)) sy_cs_nil) (sy_us_cons (jwX9_choose_18 (jtX9_choose_18 hd hrc)) (sy_us_cons (jwX9_choose_47 (jtX9_choose_47 hd hrc sy_F)) sy_us_nil))
def jfX9_choose : Nat → Int32 → Int32 → sy_M → sy_O
  | 0, _, _, _ => none
  | n + 1, a1, a2, M => jgX9_choose (jfX9_choose n) a1 a2 M
def jcX9_choose (rc : Int32 → Int32 → sy_M → sy_O) (as : List Value) (M : sy_M) (K : sy_O → sy_O) : sy_O := sy_xc 53 as fun l => sy_xi l fun a1 l => sy_xi l fun a2 l => sy_xn l (K (jgX9_choose rc a1 a2 M))
theorem jeX9_choose {rc : Int32 → Int32 → sy_M → sy_O} {d : Nat} (hd : 1 ≤ d) (hrc : sy_snd d 72 (chd_C rc)) : sy_snd (d + 1) 72 (jcX9_choose rc) := by
  intro as M K r h
  obtain ⟨l, e, h1⟩ := sy_xc_ok h; subst e
  obtain ⟨a1, l, e, h2⟩ := sy_xi_ok h1; subst e
  obtain ⟨a2, l, e, h3⟩ := sy_xi_ok h2; subst e
  obtain ⟨e, h4⟩ := sy_xn_ok h3; subst e
  exact ⟨_, h4, fun r1 h0 => ⟨qX9_choose, rfl, rfl, jtX9_choose hd hrc _ _ M r1 h0⟩⟩
theorem eall_C : ∀ n, sy_snd (1 + 1 * n) 72 (chd_C (jfX9_choose n)) := by
  intro n
  induction n with
  | zero =>
    intro as M K r h
    obtain ⟨l, e, h1⟩ := sy_xc_ok h; subst e
    obtain ⟨a1, l, e, h2⟩ := sy_xi_ok h1; subst e
    obtain ⟨a2, l, e, h3⟩ := sy_xi_ok h2; subst e
    obtain ⟨e, h4⟩ := sy_xn_ok h3; subst e
    exact ⟨_, h4, fun r1 h0 => absurd (show (none : sy_O) = some r1 from h0) (by simp)⟩
  | succ n ih =>
    intro as M K r h
    exact ((jeX9_choose (by omega) ih).deep (by omega)) as M K r h
/-! X9_sharedTicks StairMeter$Pairing sharedTicks (LStairMeter$Night;I)I [('R', 49), 'I'] -/
def juX9_sharedTicks_24 (k : Int32 → Int32 → Int32 → sy_M → sy_O) (ls st : List Value) (M : sy_M) : sy_O := sy_xc 49 ls fun l => sy_xi l fun a1 l => sy_xi l fun a2 l => sy_xi l fun a3 l => sy_xn l (sy_xn st (k a1 a2 a3 M))
theorem jwX9_sharedTicks_24 {d : Nat} {k : Int32 → Int32 → Int32 → sy_M → sy_O} (hk : ∀ (a1 : Int32) (a2 : Int32) (a3 : Int32) (M : sy_M) (r : xe_R × sy_M), k a1 a2 a3 M = some r → sy_E (d) qX9_sharedTicks 24 [.ref 49, .int a1, .int a2, .int a3] [] M r) : ∀ ls st M r, juX9_sharedTicks_24 k ls st M = some r → sy_E d qX9_sharedTicks 24 ls st M r := by
  intro ls st M r h
  obtain ⟨l, e, h1⟩ := sy_xc_ok h; subst e
  obtain ⟨a1, l, e, h2⟩ := sy_xi_ok h1; subst e
  obtain ⟨a2, l, e, h3⟩ := sy_xi_ok h2; subst e
  obtain ⟨a3, l, e, h4⟩ := sy_xi_ok h3; subst e
  obtain ⟨e, h5⟩ := sy_xn_ok h4; subst e
  obtain ⟨e, h6⟩ := sy_xn_ok h5; subst e
  exact hk a1 a2 a3 M r h6
def juX9_sharedTicks_4 (k : Int32 → Int32 → Int32 → sy_M → sy_O) (ls st : List Value) (M : sy_M) : sy_O := sy_xc 49 ls fun l => sy_xi l fun a1 l => sy_xi l fun a2 l => sy_xi l fun a3 l => sy_xn l (sy_xn st (k a1 a2 a3 M))
theorem jwX9_sharedTicks_4 {d : Nat} {k : Int32 → Int32 → Int32 → sy_M → sy_O} (hk : ∀ (a1 : Int32) (a2 : Int32) (a3 : Int32) (M : sy_M) (r : xe_R × sy_M), k a1 a2 a3 M = some r → sy_E (d) qX9_sharedTicks 4 [.ref 49, .int a1, .int a2, .int a3] [] M r) : ∀ ls st M r, juX9_sharedTicks_4 k ls st M = some r → sy_E d qX9_sharedTicks 4 ls st M r := by
  intro ls st M r h
  obtain ⟨l, e, h1⟩ := sy_xc_ok h; subst e
  obtain ⟨a1, l, e, h2⟩ := sy_xi_ok h1; subst e
  obtain ⟨a2, l, e, h3⟩ := sy_xi_ok h2; subst e
  obtain ⟨a3, l, e, h4⟩ := sy_xi_ok h3; subst e
  obtain ⟨e, h5⟩ := sy_xn_ok h4; subst e
  obtain ⟨e, h6⟩ := sy_xn_ok h5; subst e
  exact hk a1 a2 a3 M r h6
def jfX9_sharedTicks_24 (k4 : Int32 → Int32 → Int32 → sy_M → sy_O) (a1 : Int32) (a2 : Int32) (a3 : Int32) (M : sy_M) : sy_O :=
  let v1 := a3 + 1
  k4 a1 a2 v1 M
set_option maxRecDepth 100000 in
theorem jrX9_sharedTicks_24 (k4 : Int32 → Int32 → Int32 → sy_M → sy_O) (a1 : Int32) (a2 : Int32) (a3 : Int32) (M : sy_M) : sy_run skX9 qX9_sharedTicks [(24, .iinc 3 1, 3, []), (27, .goto (-23), 3, [])] [] [(4, juX9_sharedTicks_4 k4)] 3 [] 24 [.ref 49, .int a1, .int a2, .int a3] [] M = jfX9_sharedTicks_24 k4 a1 a2 a3 M := rfl
theorem jtX9_sharedTicks_24 {k4 : Int32 → Int32 → Int32 → sy_M → sy_O} (hk4 : ∀ (a1 : Int32) (a2 : Int32) (a3 : Int32) (M : sy_M) (r : xe_R × sy_M), k4 a1 a2 a3 M = some r → sy_E (2) qX9_sharedTicks 4 [.ref 49, .int a1, .int a2, .int a3] [] M r) : ∀ (a1 : Int32) (a2 : Int32) (a3 : Int32) (M : sy_M) (r : xe_R × sy_M), jfX9_sharedTicks_24 k4 a1 a2 a3 M = some r → sy_E (2) qX9_sharedTicks 24 [.ref 49, .int a1, .int a2, .int a3] [] M r := by
  intro a1 a2 a3 M r h
  exact sy_run_by (d := 1) ((jrX9_sharedTicks_24 _ _ _ _ M).trans h) hkX9 (by decide +kernel) sy_cs_nil (sy_us_cons (jwX9_sharedTicks_4 hk4) sy_us_nil)
def jgX9_sharedTicks_4 (k4 : Int32 → Int32 → Int32 → sy_M → sy_O) (a1 : Int32) (a2 : Int32) (a3 : Int32) (M : sy_M) : sy_O :=
  if a3 < 48 then
    sy_bi (jfX8_presentAt a3 M) fun v2 M1 =>
    if (v2 &&& a1) = a1 then
      let v3 := a2 + 1
      jfX9_sharedTicks_24 k4 a1 v3 a3 M1
    else
      jfX9_sharedTicks_24 k4 a1 a2 a3 M1
  else
    sy_ri a2 M
def jfX9_sharedTicks_4 : Nat → Int32 → Int32 → Int32 → sy_M → sy_O
  | 0, _, _, _, _ => none
  | n + 1, a1, a2, a3, M => jgX9_sharedTicks_4 (jfX9_sharedTicks_4 n) a1 a2 a3 M
set_option maxRecDepth 100000 in
theorem jrX9_sharedTicks_4 (k4 : Int32 → Int32 → Int32 → sy_M → sy_O) (a1 : Int32) (a2 : Int32) (a3 : Int32) (M : sy_M) : sy_run skX9 qX9_sharedTicks [(4, .iload_n 3, 1, []), (5, .bipush 48, 2, []), (7, .if_icmp .ge 23, 3, []), (10, .aload_n 0, 1, []), (11, .iload_n 3, 1, []), (12, .invokevirtual 45, 3, []), (15, .iload_n 1, 1, []), (16, .iand, 1, []), (17, .iload_n 1, 1, []), (18, .if_icmp .ne 6, 3, []), (21, .iinc 2 1, 3, []), (30, .iload_n 2, 1, [false, false, true, false]), (31, .ireturn, 1, [])] [(64, 0, jcX8_presentAt)] [(24, juX9_sharedTicks_24 (jfX9_sharedTicks_24 k4))] 14 [] 4 [.ref 49, .int a1, .int a2, .int a3] [] M = jgX9_sharedTicks_4 k4 a1 a2 a3 M := rfl
theorem jtX9_sharedTicks_4 : ∀ n : Nat, ∀ (a1 : Int32) (a2 : Int32) (a3 : Int32) (M : sy_M) (r : xe_R × sy_M), jfX9_sharedTicks_4 n a1 a2 a3 M = some r → sy_E (2) qX9_sharedTicks 4 [.ref 49, .int a1, .int a2, .int a3] [] M r := by
  intro n
  induction n with
  | zero => intro a1 a2 a3 M r h; exact absurd (show (none : sy_O) = some r from h) (by simp)
  | succ n ih => intro a1 a2 a3 M r h; exact sy_run_by (d := 1) ((jrX9_sharedTicks_4 _ _ _ _ M).trans h) hkX9 (by decide +kernel) (sy_cs_cons (jeX8_presentAt.deep (by decide)) sy_cs_nil) (sy_us_cons (jwX9_sharedTicks_24 (jtX9_sharedTicks_24 ih)) sy_us_nil)
def jfX9_sharedTicks (a1 : Int32) (M : sy_M) : sy_O :=
  jfX9_sharedTicks_4 sy_F a1 0 0 M
set_option maxRecDepth 100000 in
theorem jrX9_sharedTicks (a1 : Int32) (M : sy_M) : sy_run skX9 qX9_sharedTicks [(0, .iconst 0, 1, []), (1, .istore_n 2, 1, []), (2, .iconst 0, 1, []), (3, .istore_n 3, 1, [])] [] [(4, juX9_sharedTicks_4 (jfX9_sharedTicks_4 sy_F))] 5 [] 0 [.ref 49, .int a1, xe_no, xe_no] [] M = jfX9_sharedTicks a1 M := rfl
theorem jtX9_sharedTicks : ∀ (a1 : Int32) (M : sy_M) (r : xe_R × sy_M), jfX9_sharedTicks a1 M = some r → sy_E (2) qX9_sharedTicks 0 [.ref 49, .int a1, xe_no, xe_no] [] M r := by
  intro a1 M r h
  exact sy_run_by (d := 1) ((jrX9_sharedTicks _ M).trans h) hkX9 (by decide +kernel) sy_cs_nil (sy_us_cons (jwX9_sharedTicks_4 (jtX9_sharedTicks_4 sy_F)) sy_us_nil)
def jcX9_sharedTicks (as : List Value) (M : sy_M) (K : sy_O → sy_O) : sy_O := sy_xc 49 as fun l => sy_xi l fun a1 l => sy_xn l (K (jfX9_sharedTicks a1 M))
theorem jeX9_sharedTicks : sy_snd (2) 71 (jcX9_sharedTicks) := by
  intro as M K r h
  obtain ⟨l, e, h1⟩ := sy_xc_ok h; subst e
  obtain ⟨a1, l, e, h2⟩ := sy_xi_ok h1; subst e
  obtain ⟨e, h3⟩ := sy_xn_ok h2; subst e
  exact ⟨_, h3, fun r1 h0 => ⟨qX9_sharedTicks, rfl, rfl, jtX9_sharedTicks _ M r1 h0⟩⟩
/-! X9_solve StairMeter$Pairing solve (LStairMeter$Night;I)V [('R', 53), ('R', 49), 'I'] -/
def juX9_solve_44 (k : Int32 → Int32 → sy_M → sy_O) (ls st : List Value) (M : sy_M) : sy_O := sy_xc 53 ls fun l => sy_xc 49 l fun l => sy_xv l fun _ l => sy_xi l fun a3 l => sy_xi l fun a4 l => sy_xn l (sy_xn st (k a3 a4 M))
theorem jwX9_solve_44 {d : Nat} {k : Int32 → Int32 → sy_M → sy_O} (hk : ∀ (w2 : Value) (a3 : Int32) (a4 : Int32) (M : sy_M) (r : xe_R × sy_M), k a3 a4 M = some r → sy_E (d) qX9_solve 44 [.ref 53, .ref 49, w2, .int a3, .int a4] [] M r) : ∀ ls st M r, juX9_solve_44 k ls st M = some r → sy_E d qX9_solve 44 ls st M r := by
  intro ls st M r h
  obtain ⟨l, e, h1⟩ := sy_xc_ok h; subst e
  obtain ⟨l, e, h2⟩ := sy_xc_ok h1; subst e
  obtain ⟨w2, l, e, h3⟩ := sy_xv_ok h2; subst e
  obtain ⟨a3, l, e, h4⟩ := sy_xi_ok h3; subst e
  obtain ⟨a4, l, e, h5⟩ := sy_xi_ok h4; subst e
  obtain ⟨e, h6⟩ := sy_xn_ok h5; subst e
  obtain ⟨e, h7⟩ := sy_xn_ok h6; subst e
  exact hk _ a3 a4 M r h7
def juX9_solve_21 (k : Int32 → sy_M → sy_O) (ls st : List Value) (M : sy_M) : sy_O := sy_xc 53 ls fun l => sy_xc 49 l fun l => sy_xv l fun _ l => sy_xi l fun a3 l => sy_xv l fun _ l => sy_xn l (sy_xn st (k a3 M))
theorem jwX9_solve_21 {d : Nat} {k : Int32 → sy_M → sy_O} (hk : ∀ (w2 : Value) (w4 : Value) (a3 : Int32) (M : sy_M) (r : xe_R × sy_M), k a3 M = some r → sy_E (d) qX9_solve 21 [.ref 53, .ref 49, w2, .int a3, w4] [] M r) : ∀ ls st M r, juX9_solve_21 k ls st M = some r → sy_E d qX9_solve 21 ls st M r := by
  intro ls st M r h
  obtain ⟨l, e, h1⟩ := sy_xc_ok h; subst e
  obtain ⟨l, e, h2⟩ := sy_xc_ok h1; subst e
  obtain ⟨w2, l, e, h3⟩ := sy_xv_ok h2; subst e
  obtain ⟨a3, l, e, h4⟩ := sy_xi_ok h3; subst e
  obtain ⟨w4, l, e, h5⟩ := sy_xv_ok h4; subst e
  obtain ⟨e, h6⟩ := sy_xn_ok h5; subst e
  obtain ⟨e, h7⟩ := sy_xn_ok h6; subst e
  exact hk _ _ a3 M r h7
def jgX9_solve_44 (k21 : Int32 → sy_M → sy_O) (k44 : Int32 → Int32 → sy_M → sy_O) (a3 : Int32) (a4 : Int32) (M : sy_M) : sy_O :=
  if a4 < 7 then
    sy_bi (jfX9_sharedTicks ((1 <<< (a3 &&& 31)) ||| (1 <<< (a4 &&& 31))) M) fun v3 M2 =>
    sy_bx (xe_in ((a3 * 7) + a4) 49) <|
    let M4 := sy_upd M2 54 (Int32.toNatClampNeg ((a3 * 7) + a4)) v3
    let v5 := a4 + 1
    k44 a3 v5 M4
  else
    let v1 := a3 + 1
    k21 v1 M
def jfX9_solve_44 (k21 : Int32 → sy_M → sy_O) : Nat → Int32 → Int32 → sy_M → sy_O
  | 0, _, _, _ => none
  | n + 1, a3, a4, M => jgX9_solve_44 k21 (jfX9_solve_44 k21 n) a3 a4 M
set_option maxRecDepth 100000 in
theorem jrX9_solve_44 (k21 : Int32 → sy_M → sy_O) (k44 : Int32 → Int32 → sy_M → sy_O) (w2 : Value) (a3 : Int32) (a4 : Int32) (M : sy_M) : sy_run skX9 qX9_solve [(44, .iload 4, 2, [true, true, false, true, true]), (46, .bipush 7, 2, []), (48, .if_icmp .ge 33, 3, []), (51, .aload_n 0, 1, []), (52, .getfield 9, 3, []), (55, .iload_n 3, 1, []), (56, .bipush 7, 2, []), (58, .imul, 1, []), (59, .iload 4, 2, []), (61, .iadd, 1, []), (62, .aload_n 1, 1, []), (63, .iconst 1, 1, []), (64, .iload_n 3, 1, []), (65, .ishl, 1, []), (66, .iconst 1, 1, []), (67, .iload 4, 2, []), (69, .ishl, 1, []), (70, .ior, 1, []), (71, .invokestatic 37, 3, []), (74, .iastore, 1, []), (75, .iinc 4 1, 3, []), (78, .goto (-34), 3, []), (81, .iinc 3 1, 3, [true, true, false, true, false]), (84, .goto (-63), 3, [])] [(71, 0, jcX9_sharedTicks)] [(21, juX9_solve_21 k21), (44, juX9_solve_44 k44)] 25 [] 44 [.ref 53, .ref 49, w2, .int a3, .int a4] [] M = jgX9_solve_44 k21 k44 a3 a4 M := rfl
theorem jtX9_solve_44 {k21 : Int32 → sy_M → sy_O} (hk21 : ∀ (w2 : Value) (w4 : Value) (a3 : Int32) (M : sy_M) (r : xe_R × sy_M), k21 a3 M = some r → sy_E (14) qX9_solve 21 [.ref 53, .ref 49, w2, .int a3, w4] [] M r) : ∀ n : Nat, ∀ (w2 : Value) (a3 : Int32) (a4 : Int32) (M : sy_M) (r : xe_R × sy_M), jfX9_solve_44 k21 n a3 a4 M = some r → sy_E (14) qX9_solve 44 [.ref 53, .ref 49, w2, .int a3, .int a4] [] M r := by
  intro n
  induction n with
  | zero => intro w2 a3 a4 M r h; exact absurd (show (none : sy_O) = some r from h) (by simp)
  | succ n ih => intro w2 a3 a4 M r h; exact sy_run_by (d := 13) ((jrX9_solve_44 _ _ _ _ _ M).trans h) hkX9 (by decide +kernel) (sy_cs_cons (jeX9_sharedTicks.deep (by decide)) sy_cs_nil) (sy_us_cons (jwX9_solve_21 hk21) (sy_us_cons (jwX9_solve_44 ih) sy_us_nil))
def jgX9_solve_21 (k21 : Int32 → sy_M → sy_O) (a3 : Int32) (M : sy_M) : sy_O :=
  if a3 < 7 then
    sy_bx (xe_in a3 7) <|
    let M2 := sy_upd M 55 (Int32.toNatClampNeg a3) (-1)
    sy_bx (xe_in a3 7) <|
    let M3 := sy_upd M2 56 (Int32.toNatClampNeg a3) (-1)
    jfX9_solve_44 k21 sy_F a3 0 M3
  else
    sy_bv (jfX9_choose sy_D 0 0 M) fun M1 =>
    sy_rv M1
def jfX9_solve_21 : Nat → Int32 → sy_M → sy_O
  | 0, _, _ => none
  | n + 1, a3, M => jgX9_solve_21 (jfX9_solve_21 n) a3 M
set_option maxRecDepth 100000 in
theorem jrX9_solve_21 (k21 : Int32 → sy_M → sy_O) (w2 : Value) (w4 : Value) (a3 : Int32) (M : sy_M) : sy_run skX9 qX9_solve [(21, .iload_n 3, 1, [true, true, false, true, false]), (22, .bipush 7, 2, []), (24, .if_icmp .ge 63, 3, []), (27, .aload_n 0, 1, []), (28, .getfield 15, 3, []), (31, .iload_n 3, 1, []), (32, .iconst (-1), 1, []), (33, .iastore, 1, []), (34, .aload_n 0, 1, []), (35, .getfield 18, 3, []), (38, .iload_n 3, 1, []), (39, .iconst (-1), 1, []), (40, .iastore, 1, []), (41, .iconst 0, 1, []), (42, .istore 4, 2, []), (87, .aload_n 0, 1, [true, false, false, false, false]), (88, .iconst 0, 1, []), (89, .iconst 0, 1, []), (90, .invokevirtual 41, 3, []), (93, .return_, 1, [])] [(72, 1, chd_C (jfX9_choose sy_D))] [(44, juX9_solve_44 (jfX9_solve_44 k21 sy_F))] 21 [] 21 [.ref 53, .ref 49, w2, .int a3, w4] [] M = jgX9_solve_21 k21 a3 M := rfl
theorem jtX9_solve_21 : ∀ n : Nat, ∀ (w2 : Value) (w4 : Value) (a3 : Int32) (M : sy_M) (r : xe_R × sy_M), jfX9_solve_21 n a3 M = some r → sy_E (14) qX9_solve 21 [.ref 53, .ref 49, w2, .int a3, w4] [] M r := by
  intro n
  induction n with
  | zero => intro w2 w4 a3 M r h; exact absurd (show (none : sy_O) = some r from h) (by simp)
  | succ n ih => intro w2 w4 a3 M r h; exact sy_run_by (d := 13) ((jrX9_solve_21 _ _ _ _ M).trans h) hkX9 (by decide +kernel) (sy_cs_cons ((eall_C sy_D).deep (by rw [sy_D_eq]; decide)) sy_cs_nil) (sy_us_cons (jwX9_solve_44 (jtX9_solve_44 ih sy_F)) sy_us_nil)
def jfX9_solve (a2 : Int32) (M : sy_M) : sy_O :=
  sy_bi (jfJ9_min_7cf53 7 a2 M) fun v2 M1 =>
  sy_bi (jfJ9_max_7cf53 0 v2 M1) fun v4 M3 =>
  let M5 := sy_upd M3 53 3 v4
  let M6 := sy_upd M5 53 4 (-1)
  jfX9_solve_21 sy_F 0 M6
set_option maxRecDepth 100000 in
theorem jrX9_solve (a2 : Int32) (M : sy_M) : sy_run skX9 qX9_solve [(0, .aload_n 0, 1, []), (1, .iconst 0, 1, []), (2, .bipush 7, 2, []), (4, .iload_n 2, 1, []), (5, .invokestatic 28, 3, []), (8, .invokestatic 34, 3, []), (11, .putfield 21, 3, []), (14, .aload_n 0, 1, []), (15, .iconst (-1), 1, []), (16, .putfield 25, 3, []), (19, .iconst 0, 1, []), (20, .istore_n 3, 1, [])] [(360, 0, jcJ9_min_7cf53), (359, 0, jcJ9_max_7cf53)] [(21, juX9_solve_21 (jfX9_solve_21 sy_F))] 13 [] 0 [.ref 53, .ref 49, .int a2, xe_no, xe_no] [] M = jfX9_solve a2 M := rfl
theorem jtX9_solve : ∀ (a2 : Int32) (M : sy_M) (r : xe_R × sy_M), jfX9_solve a2 M = some r → sy_E (14) qX9_solve 0 [.ref 53, .ref 49, .int a2, xe_no, xe_no] [] M r := by
  intro a2 M r h
  exact sy_run_by (d := 13) ((jrX9_solve _ M).trans h) hkX9 (by decide +kernel) (sy_cs_cons (jeJ9_min_7cf53.deep (by decide)) (sy_cs_cons (jeJ9_max_7cf53.deep (by decide)) sy_cs_nil)) (sy_us_cons (jwX9_solve_21 (jtX9_solve_21 sy_F)) sy_us_nil)
def jcX9_solve (as : List Value) (M : sy_M) (K : sy_O → sy_O) : sy_O := sy_xc 53 as fun l => sy_xc 49 l fun l => sy_xi l fun a2 l => sy_xn l (K (jfX9_solve a2 M))
theorem jeX9_solve : sy_snd (14) 70 (jcX9_solve) := by
  intro as M K r h
  obtain ⟨l, e, h1⟩ := sy_xc_ok h; subst e
  obtain ⟨l, e, h2⟩ := sy_xc_ok h1; subst e
  obtain ⟨a2, l, e, h3⟩ := sy_xi_ok h2; subst e
  obtain ⟨e, h4⟩ := sy_xn_ok h3; subst e
  exact ⟨_, h4, fun r1 h0 => ⟨qX9_solve, rfl, rfl, jtX9_solve _ M r1 h0⟩⟩
end
