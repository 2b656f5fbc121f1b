/-! ===== functions of the methods (13); written by wip/whole/run_f.py ===== -/
noncomputable section
/-! X11_alike StairMeter alike ()I [('R', 0)] -/
def juX11_alike_45 (k : Int32 → Int32 → Int32 → sy_M → sy_O) (ls st : List Value) (M : sy_M) : sy_O := sy_xc 0 ls fun l => sy_xi l fun a1 l => sy_xi l fun a2 l => sy_xi l fun a3 l => sy_xn l (sy_xn st (k a1 a2 a3 M))
theorem jwX11_alike_45 {d : Nat} {k : Int32 → Int32 → Int32 → sy_M → sy_O} (hk : ∀ (a1 : Int32) (a2 : Int32) (a3 : Int32) (M : sy_M) (r : xe_R × sy_M), k a1 a2 a3 M = some r → sy_E (d) qX11_alike 45 [.ref 0, .int a1, .int a2, .int a3] [] M r) : ∀ ls st M r, juX11_alike_45 k ls st M = some r → sy_E d qX11_alike 45 ls st M r := by
  intro ls st M r h
  obtain ⟨l, e, h1⟩ := sy_xc_ok h; subst e
  obtain ⟨a1, l, e, h2⟩ := sy_xi_ok h1; subst e
  obtain ⟨a2, l, e, h3⟩ := sy_xi_ok h2; subst e
  obtain ⟨a3, l, e, h4⟩ := sy_xi_ok h3; subst e
  obtain ⟨e, h5⟩ := sy_xn_ok h4; subst e
  obtain ⟨e, h6⟩ := sy_xn_ok h5; subst e
  exact hk a1 a2 a3 M r h6
def juX11_alike_19 (k : Int32 → Int32 → Int32 → sy_M → sy_O) (ls st : List Value) (M : sy_M) : sy_O := sy_xc 0 ls fun l => sy_xi l fun a1 l => sy_xi l fun a2 l => sy_xi l fun a3 l => sy_xn l (sy_xn st (k a1 a2 a3 M))
theorem jwX11_alike_19 {d : Nat} {k : Int32 → Int32 → Int32 → sy_M → sy_O} (hk : ∀ (a1 : Int32) (a2 : Int32) (a3 : Int32) (M : sy_M) (r : xe_R × sy_M), k a1 a2 a3 M = some r → sy_E (d) qX11_alike 19 [.ref 0, .int a1, .int a2, .int a3] [] M r) : ∀ ls st M r, juX11_alike_19 k ls st M = some r → sy_E d qX11_alike 19 ls st M r := by
  intro ls st M r h
  obtain ⟨l, e, h1⟩ := sy_xc_ok h; subst e
  obtain ⟨a1, l, e, h2⟩ := sy_xi_ok h1; subst e
  obtain ⟨a2, l, e, h3⟩ := sy_xi_ok h2; subst e
  obtain ⟨a3, l, e, h4⟩ := sy_xi_ok h3; subst e
  obtain ⟨e, h5⟩ := sy_xn_ok h4; subst e
  obtain ⟨e, h6⟩ := sy_xn_ok h5; subst e
  exact hk a1 a2 a3 M r h6
def juX11_alike_4 (k : Int32 → Int32 → sy_M → sy_O) (ls st : List Value) (M : sy_M) : sy_O := sy_xc 0 ls fun l => sy_xi l fun a1 l => sy_xi l fun a2 l => sy_xv l fun _ l => sy_xn l (sy_xn st (k a1 a2 M))
theorem jwX11_alike_4 {d : Nat} {k : Int32 → Int32 → sy_M → sy_O} (hk : ∀ (w3 : Value) (a1 : Int32) (a2 : Int32) (M : sy_M) (r : xe_R × sy_M), k a1 a2 M = some r → sy_E (d) qX11_alike 4 [.ref 0, .int a1, .int a2, w3] [] M r) : ∀ ls st M r, juX11_alike_4 k ls st M = some r → sy_E d qX11_alike 4 ls st M r := by
  intro ls st M r h
  obtain ⟨l, e, h1⟩ := sy_xc_ok h; subst e
  obtain ⟨a1, l, e, h2⟩ := sy_xi_ok h1; subst e
  obtain ⟨a2, l, e, h3⟩ := sy_xi_ok h2; subst e
  obtain ⟨w3, l, e, h4⟩ := sy_xv_ok h3; subst e
  obtain ⟨e, h5⟩ := sy_xn_ok h4; subst e
  obtain ⟨e, h6⟩ := sy_xn_ok h5; subst e
  exact hk _ a1 a2 M r h6
def jfX11_alike_45 (k4 : Int32 → Int32 → sy_M → sy_O) (k19 : Int32 → Int32 → Int32 → sy_M → sy_O) (a1 : Int32) (a2 : Int32) (a3 : Int32) (M : sy_M) : sy_O :=
  let v1 := a3 + 1
  k19 a1 a2 v1 M
set_option maxRecDepth 100000 in
theorem jrX11_alike_45 (k4 : Int32 → Int32 → sy_M → sy_O) (k19 : Int32 → Int32 → Int32 → sy_M → sy_O) (a1 : Int32) (a2 : Int32) (a3 : Int32) (M : sy_M) : sy_run skX11 qX11_alike [(45, .iinc 3 1, 3, []), (48, .goto (-29), 3, [])] [] [(19, juX11_alike_19 k19)] 3 [] 45 [.ref 0, .int a1, .int a2, .int a3] [] M = jfX11_alike_45 k4 k19 a1 a2 a3 M := rfl
theorem jtX11_alike_45 {k4 : Int32 → Int32 → sy_M → sy_O} (hk4 : ∀ (w3 : Value) (a1 : Int32) (a2 : Int32) (M : sy_M) (r : xe_R × sy_M), k4 a1 a2 M = some r → sy_E (3) qX11_alike 4 [.ref 0, .int a1, .int a2, w3] [] M r) {k19 : Int32 → Int32 → Int32 → sy_M → sy_O} (hk19 : ∀ (a1 : Int32) (a2 : Int32) (a3 : Int32) (M : sy_M) (r : xe_R × sy_M), k19 a1 a2 a3 M = some r → sy_E (3) qX11_alike 19 [.ref 0, .int a1, .int a2, .int a3] [] M r) : ∀ (a1 : Int32) (a2 : Int32) (a3 : Int32) (M : sy_M) (r : xe_R × sy_M), jfX11_alike_45 k4 k19 a1 a2 a3 M = some r → sy_E (3) qX11_alike 45 [.ref 0, .int a1, .int a2, .int a3] [] M r := by
  intro a1 a2 a3 M r h
  exact sy_run_by (d := 2) ((jrX11_alike_45 _ _ _ _ _ M).trans h) hkX11 (by decide +kernel) sy_cs_nil (sy_us_cons (jwX11_alike_19 hk19) sy_us_nil)
def jgX11_alike_19 (k4 : Int32 → Int32 → sy_M → sy_O) (k19 : Int32 → Int32 → Int32 → sy_M → sy_O) (a1 : Int32) (a2 : Int32) (a3 : Int32) (M : sy_M) : sy_O :=
  if a3 < (M 9 3) then
    sy_bi (jfX2_isLike 9 a2 a3 M) fun v3 M2 =>
    if v3 = 0 then
      jfX11_alike_45 k4 k19 a1 a2 a3 M2
    else
      let v4 := a1 + 1
      jfX11_alike_45 k4 k19 v4 a2 a3 M2
  else
    let v1 := a2 + 1
    k4 a1 v1 M
def jfX11_alike_19 (k4 : Int32 → Int32 → sy_M → sy_O) : Nat → Int32 → Int32 → Int32 → sy_M → sy_O
  | 0, _, _, _, _ => none
  | n + 1, a1, a2, a3, M => jgX11_alike_19 k4 (jfX11_alike_19 k4 n) a1 a2 a3 M
set_option maxRecDepth 100000 in
theorem jrX11_alike_19 (k4 : Int32 → Int32 → sy_M → sy_O) (k19 : Int32 → Int32 → Int32 → sy_M → sy_O) (a1 : Int32) (a2 : Int32) (a3 : Int32) (M : sy_M) : sy_run skX11 qX11_alike [(19, .iload_n 3, 1, []), (20, .aload_n 0, 1, []), (21, .getfield 28, 3, []), (24, .getfield 207, 3, []), (27, .if_icmp .ge 24, 3, []), (30, .aload_n 0, 1, []), (31, .getfield 28, 3, []), (34, .iload_n 2, 1, []), (35, .iload_n 3, 1, []), (36, .invokevirtual 400, 3, []), (39, .ifCond .eq 6, 3, []), (42, .iinc 1 1, 3, []), (51, .iinc 2 1, 3, [true, true, true, false]), (54, .goto (-50), 3, [])] [(17, 0, jcX2_isLike)] [(4, juX11_alike_4 k4), (45, juX11_alike_45 (jfX11_alike_45 k4 k19))] 15 [] 19 [.ref 0, .int a1, .int a2, .int a3] [] M = jgX11_alike_19 k4 k19 a1 a2 a3 M := rfl
theorem jtX11_alike_19 {k4 : Int32 → Int32 → sy_M → sy_O} (hk4 : ∀ (w3 : Value) (a1 : Int32) (a2 : Int32) (M : sy_M) (r : xe_R × sy_M), k4 a1 a2 M = some r → sy_E (3) qX11_alike 4 [.ref 0, .int a1, .int a2, w3] [] M r) : ∀ n : Nat, ∀ (a1 : Int32) (a2 : Int32) (a3 : Int32) (M : sy_M) (r : xe_R × sy_M), jfX11_alike_19 k4 n a1 a2 a3 M = some r → sy_E (3) qX11_alike 19 [.ref 0, .int a1, .int a2, .int a3] [] M r := by
  intro n
  induction n with
  | zero => intro a1 a2 a3 M r h; exact absurd (show (none : sy_O) = some r from h) (by simp)
  | succ n ih => intro a1 a2 a3 M r h; exact sy_run_by (d := 2) ((jrX11_alike_19 _ _ _ _ _ M).trans h) hkX11 (by decide +kernel) (sy_cs_cons (jeX2_isLike.deep (by decide)) sy_cs_nil) (sy_us_cons (jwX11_alike_4 hk4) (sy_us_cons (jwX11_alike_45 (jtX11_alike_45 hk4 ih)) sy_us_nil))
def jgX11_alike_4 (k4 : Int32 → Int32 → sy_M → sy_O) (a1 : Int32) (a2 : Int32) (M : sy_M) : sy_O :=
  if a2 < (M 9 3) then
    let v1 := (a2 + 1)
    jfX11_alike_19 k4 sy_F a1 a2 v1 M
  else
    sy_ri a1 M
def jfX11_alike_4 : Nat → Int32 → Int32 → sy_M → sy_O
  | 0, _, _, _ => none
  | n + 1, a1, a2, M => jgX11_alike_4 (jfX11_alike_4 n) a1 a2 M
set_option maxRecDepth 100000 in
theorem jrX11_alike_4 (k4 : Int32 → Int32 → sy_M → sy_O) (w3 : Value) (a1 : Int32) (a2 : Int32) (M : sy_M) : sy_run skX11 qX11_alike [(4, .iload_n 2, 1, [true, true, true, false]), (5, .aload_n 0, 1, []), (6, .getfield 28, 3, []), (9, .getfield 207, 3, []), (12, .if_icmp .ge 45, 3, []), (15, .iload_n 2, 1, []), (16, .iconst 1, 1, []), (17, .iadd, 1, []), (18, .istore_n 3, 1, []), (57, .iload_n 1, 1, [false, true, false, false]), (58, .ireturn, 1, [])] [] [(19, juX11_alike_19 (jfX11_alike_19 k4 sy_F))] 12 [] 4 [.ref 0, .int a1, .int a2, w3] [] M = jgX11_alike_4 k4 a1 a2 M := rfl
theorem jtX11_alike_4 : ∀ n : Nat, ∀ (w3 : Value) (a1 : Int32) (a2 : Int32) (M : sy_M) (r : xe_R × sy_M), jfX11_alike_4 n a1 a2 M = some r → sy_E (3) qX11_alike 4 [.ref 0, .int a1, .int a2, w3] [] M r := by
  intro n
  induction n with
  | zero => intro w3 a1 a2 M r h; exact absurd (show (none : sy_O) = some r from h) (by simp)
  | succ n ih => intro w3 a1 a2 M r h; exact sy_run_by (d := 2) ((jrX11_alike_4 _ _ _ _ M).trans h) hkX11 (by decide +kernel) sy_cs_nil (sy_us_cons (jwX11_alike_19 (jtX11_alike_19 ih sy_F)) sy_us_nil)
def jfX11_alike (M : sy_M) : sy_O :=
  jfX11_alike_4 sy_F 0 0 M
set_option maxRecDepth 100000 in
theorem jrX11_alike (M : sy_M) : sy_run skX11 qX11_alike [(0, .iconst 0, 1, []), (1, .istore_n 1, 1, []), (2, .iconst 0, 1, []), (3, .istore_n 2, 1, [])] [] [(4, juX11_alike_4 (jfX11_alike_4 sy_F))] 5 [] 0 [.ref 0, xe_no, xe_no, xe_no] [] M = jfX11_alike M := rfl
theorem jtX11_alike : ∀ (M : sy_M) (r : xe_R × sy_M), jfX11_alike M = some r → sy_E (3) qX11_alike 0 [.ref 0, xe_no, xe_no, xe_no] [] M r := by
  intro  M r h
  exact sy_run_by (d := 2) ((jrX11_alike M).trans h) hkX11 (by decide +kernel) sy_cs_nil (sy_us_cons (jwX11_alike_4 (jtX11_alike_4 sy_F)) sy_us_nil)
def jcX11_alike (as : List Value) (M : sy_M) (K : sy_O → sy_O) : sy_O := sy_xc 0 as fun l => sy_xn l (K (jfX11_alike M))
theorem jeX11_alike : sy_snd (3) 166 (jcX11_alike) := by
  intro as M K r h
  obtain ⟨l, e, h1⟩ := sy_xc_ok h; subst e
  obtain ⟨e, h2⟩ := sy_xn_ok h1; subst e
  exact ⟨_, h2, fun r1 h0 => ⟨qX11_alike, rfl, rfl, jtX11_alike  M r1 h0⟩⟩
/-! X12_alike StairMeterModel alike ()I [('R', 121)] -/
def juX12_alike_84 (k : Int32 → Int32 → Int32 → Int32 → sy_M → sy_O) (ls st : List Value) (M : sy_M) : sy_O := sy_xc 121 ls fun l => sy_xv l fun _ l => sy_xi l fun a2 l => sy_xi l fun a3 l => sy_xn l (sy_xi st fun s0 l => sy_xi l fun s1 l => sy_xn l (k a2 a3 s0 s1 M))
theorem jwX12_alike_84 {d : Nat} {k : Int32 → Int32 → Int32 → Int32 → sy_M → sy_O} (hk : ∀ (w1 : Value) (a2 : Int32) (a3 : Int32) (s0 : Int32) (s1 : Int32) (M : sy_M) (r : xe_R × sy_M), k a2 a3 s0 s1 M = some r → sy_E (d) qX12_alike 84 [.ref 121, w1, .int a2, .int a3] [.int s0, .int s1] M r) : ∀ ls st M r, juX12_alike_84 k ls st M = some r → sy_E d qX12_alike 84 ls st M r := by
  intro ls st M r h
  obtain ⟨l, e, h1⟩ := sy_xc_ok h; subst e
  obtain ⟨w1, l, e, h2⟩ := sy_xv_ok h1; subst e
  obtain ⟨a2, l, e, h3⟩ := sy_xi_ok h2; subst e
  obtain ⟨a3, l, e, h4⟩ := sy_xi_ok h3; subst e
  obtain ⟨e, h5⟩ := sy_xn_ok h4; subst e
  obtain ⟨s0, l, e, h6⟩ := sy_xi_ok h5; subst e
  obtain ⟨s1, l, e, h7⟩ := sy_xi_ok h6; subst e
  obtain ⟨e, h8⟩ := sy_xn_ok h7; subst e
  exact hk _ a2 a3 s0 s1 M r h8
def juX12_alike_83 (k : Int32 → Int32 → Int32 → sy_M → sy_O) (ls st : List Value) (M : sy_M) : sy_O := sy_xc 121 ls fun l => sy_xv l fun _ l => sy_xi l fun a2 l => sy_xi l fun a3 l => sy_xn l (sy_xi st fun s0 l => sy_xn l (k a2 a3 s0 M))
theorem jwX12_alike_83 {d : Nat} {k : Int32 → Int32 → Int32 → sy_M → sy_O} (hk : ∀ (w1 : Value) (a2 : Int32) (a3 : Int32) (s0 : Int32) (M : sy_M) (r : xe_R × sy_M), k a2 a3 s0 M = some r → sy_E (d) qX12_alike 83 [.ref 121, w1, .int a2, .int a3] [.int s0] M r) : ∀ ls st M r, juX12_alike_83 k ls st M = some r → sy_E d qX12_alike 83 ls st M r := by
  intro ls st M r h
  obtain ⟨l, e, h1⟩ := sy_xc_ok h; subst e
  obtain ⟨w1, l, e, h2⟩ := sy_xv_ok h1; subst e
  obtain ⟨a2, l, e, h3⟩ := sy_xi_ok h2; subst e
  obtain ⟨a3, l, e, h4⟩ := sy_xi_ok h3; subst e
  obtain ⟨e, h5⟩ := sy_xn_ok h4; subst e
  obtain ⟨s0, l, e, h6⟩ := sy_xi_ok h5; subst e
  obtain ⟨e, h7⟩ := sy_xn_ok h6; subst e
  exact hk _ a2 a3 s0 M r h7
def juX12_alike_23 (k : Int32 → Int32 → Int32 → sy_M → sy_O) (ls st : List Value) (M : sy_M) : sy_O := sy_xc 121 ls fun l => sy_xi l fun a1 l => sy_xi l fun a2 l => sy_xi l fun a3 l => sy_xn l (sy_xn st (k a1 a2 a3 M))
theorem jwX12_alike_23 {d : Nat} {k : Int32 → Int32 → Int32 → sy_M → sy_O} (hk : ∀ (a1 : Int32) (a2 : Int32) (a3 : Int32) (M : sy_M) (r : xe_R × sy_M), k a1 a2 a3 M = some r → sy_E (d) qX12_alike 23 [.ref 121, .int a1, .int a2, .int a3] [] M r) : ∀ ls st M r, juX12_alike_23 k ls st M = some r → sy_E d qX12_alike 23 ls st M r := by
  intro ls st M r h
  obtain ⟨l, e, h1⟩ := sy_xc_ok h; subst e
  obtain ⟨a1, l, e, h2⟩ := sy_xi_ok h1; subst e
  obtain ⟨a2, l, e, h3⟩ := sy_xi_ok h2; subst e
  obtain ⟨a3, l, e, h4⟩ := sy_xi_ok h3; subst e
  obtain ⟨e, h5⟩ := sy_xn_ok h4; subst e
  obtain ⟨e, h6⟩ := sy_xn_ok h5; subst e
  exact hk a1 a2 a3 M r h6
def juX12_alike_9 (k : Int32 → Int32 → sy_M → sy_O) (ls st : List Value) (M : sy_M) : sy_O := sy_xc 121 ls fun l => sy_xi l fun a1 l => sy_xi l fun a2 l => sy_xv l fun _ l => sy_xn l (sy_xn st (k a1 a2 M))
theorem jwX12_alike_9 {d : Nat} {k : Int32 → Int32 → sy_M → sy_O} (hk : ∀ (w3 : Value) (a1 : Int32) (a2 : Int32) (M : sy_M) (r : xe_R × sy_M), k a1 a2 M = some r → sy_E (d) qX12_alike 9 [.ref 121, .int a1, .int a2, w3] [] M r) : ∀ ls st M r, juX12_alike_9 k ls st M = some r → sy_E d qX12_alike 9 ls st M r := by
  intro ls st M r h
  obtain ⟨l, e, h1⟩ := sy_xc_ok h; subst e
  obtain ⟨a1, l, e, h2⟩ := sy_xi_ok h1; subst e
  obtain ⟨a2, l, e, h3⟩ := sy_xi_ok h2; subst e
  obtain ⟨w3, l, e, h4⟩ := sy_xv_ok h3; subst e
  obtain ⟨e, h5⟩ := sy_xn_ok h4; subst e
  obtain ⟨e, h6⟩ := sy_xn_ok h5; subst e
  exact hk _ a1 a2 M r h6
def jfX12_alike_84 (k9 : Int32 → Int32 → sy_M → sy_O) (k23 : Int32 → Int32 → Int32 → sy_M → sy_O) (a2 : Int32) (a3 : Int32) (s0 : Int32) (s1 : Int32) (M : sy_M) : sy_O :=
  let v1 := (s1 + s0)
  let v2 := a3 + 1
  k23 v1 a2 v2 M
set_option maxRecDepth 100000 in
theorem jrX12_alike_84 (k9 : Int32 → Int32 → sy_M → sy_O) (k23 : Int32 → Int32 → Int32 → sy_M → sy_O) (w1 : Value) (a2 : Int32) (a3 : Int32) (s0 : Int32) (s1 : Int32) (M : sy_M) : sy_run skX12 qX12_alike [(84, .iadd, 1, [true, false, true, true]), (85, .istore_n 1, 1, []), (86, .iinc 3 1, 3, []), (89, .goto (-66), 3, [])] [] [(23, juX12_alike_23 k23)] 5 [] 84 [.ref 121, w1, .int a2, .int a3] [.int s0, .int s1] M = jfX12_alike_84 k9 k23 a2 a3 s0 s1 M := rfl
theorem jtX12_alike_84 {k9 : Int32 → Int32 → sy_M → sy_O} (hk9 : ∀ (w3 : Value) (a1 : Int32) (a2 : Int32) (M : sy_M) (r : xe_R × sy_M), k9 a1 a2 M = some r → sy_E (2) qX12_alike 9 [.ref 121, .int a1, .int a2, w3] [] M r) {k23 : Int32 → Int32 → Int32 → sy_M → sy_O} (hk23 : ∀ (a1 : Int32) (a2 : Int32) (a3 : Int32) (M : sy_M) (r : xe_R × sy_M), k23 a1 a2 a3 M = some r → sy_E (2) qX12_alike 23 [.ref 121, .int a1, .int a2, .int a3] [] M r) : ∀ (w1 : Value) (a2 : Int32) (a3 : Int32) (s0 : Int32) (s1 : Int32) (M : sy_M) (r : xe_R × sy_M), jfX12_alike_84 k9 k23 a2 a3 s0 s1 M = some r → sy_E (2) qX12_alike 84 [.ref 121, w1, .int a2, .int a3] [.int s0, .int s1] M r := by
  intro w1 a2 a3 s0 s1 M r h
  exact sy_run_by (d := 1) ((jrX12_alike_84 _ _ _ _ _ _ _ M).trans h) hkX12 (by decide +kernel) sy_cs_nil (sy_us_cons (jwX12_alike_23 hk23) sy_us_nil)
def jfX12_alike_83 (k9 : Int32 → Int32 → sy_M → sy_O) (k23 : Int32 → Int32 → Int32 → sy_M → sy_O) (a2 : Int32) (a3 : Int32) (s0 : Int32) (M : sy_M) : sy_O :=
  jfX12_alike_84 k9 k23 a2 a3 0 s0 M
set_option maxRecDepth 100000 in
theorem jrX12_alike_83 (k9 : Int32 → Int32 → sy_M → sy_O) (k23 : Int32 → Int32 → Int32 → sy_M → sy_O) (w1 : Value) (a2 : Int32) (a3 : Int32) (s0 : Int32) (M : sy_M) : sy_run skX12 qX12_alike [(83, .iconst 0, 1, [true, false, true, true])] [] [(84, juX12_alike_84 (jfX12_alike_84 k9 k23))] 2 [] 83 [.ref 121, w1, .int a2, .int a3] [.int s0] M = jfX12_alike_83 k9 k23 a2 a3 s0 M := rfl
theorem jtX12_alike_83 {k9 : Int32 → Int32 → sy_M → sy_O} (hk9 : ∀ (w3 : Value) (a1 : Int32) (a2 : Int32) (M : sy_M) (r : xe_R × sy_M), k9 a1 a2 M = some r → sy_E (2) qX12_alike 9 [.ref 121, .int a1, .int a2, w3] [] M r) {k23 : Int32 → Int32 → Int32 → sy_M → sy_O} (hk23 : ∀ (a1 : Int32) (a2 : Int32) (a3 : Int32) (M : sy_M) (r : xe_R × sy_M), k23 a1 a2 a3 M = some r → sy_E (2) qX12_alike 23 [.ref 121, .int a1, .int a2, .int a3] [] M r) : ∀ (w1 : Value) (a2 : Int32) (a3 : Int32) (s0 : Int32) (M : sy_M) (r : xe_R × sy_M), jfX12_alike_83 k9 k23 a2 a3 s0 M = some r → sy_E (2) qX12_alike 83 [.ref 121, w1, .int a2, .int a3] [.int s0] M r := by
  intro w1 a2 a3 s0 M r h
  exact sy_run_by (d := 1) ((jrX12_alike_83 _ _ _ _ _ _ M).trans h) hkX12 (by decide +kernel) sy_cs_nil (sy_us_cons (jwX12_alike_84 (jtX12_alike_84 hk9 hk23)) sy_us_nil)
def jgX12_alike_23 (k9 : Int32 → Int32 → sy_M → sy_O) (k23 : Int32 → Int32 → Int32 → sy_M → sy_O) (a1 : Int32) (a2 : Int32) (a3 : Int32) (M : sy_M) : sy_O :=
  if a3 < (M 122 3) then
    sy_bi (jfX12_of a2 0 M) fun v3 M2 =>
    sy_bi (jfX12_of a3 0 M2) fun v5 M4 =>
    if v3 = v5 then
      sy_bi (jfX12_of a2 3 M4) fun v7 M6 =>
      sy_bi (jfX12_of a3 3 M6) fun v9 M8 =>
      if v7 = v9 then
        sy_bi (jfX12_of a2 4 M8) fun v11 M10 =>
        sy_bi (jfX12_of a3 4 M10) fun v13 M12 =>
        if v11 = v13 then
          jfX12_alike_84 k9 k23 a2 a3 1 a1 M12
        else
          jfX12_alike_83 k9 k23 a2 a3 a1 M12
      else
        jfX12_alike_83 k9 k23 a2 a3 a1 M8
    else
      jfX12_alike_83 k9 k23 a2 a3 a1 M4
  else
    let v1 := a2 + 1
    k9 a1 v1 M
def jfX12_alike_23 (k9 : Int32 → Int32 → sy_M → sy_O) : Nat → Int32 → Int32 → Int32 → sy_M → sy_O
  | 0, _, _, _, _ => none
  | n + 1, a1, a2, a3, M => jgX12_alike_23 k9 (jfX12_alike_23 k9 n) a1 a2 a3 M
set_option maxRecDepth 100000 in
theorem jrX12_alike_23 (k9 : Int32 → Int32 → sy_M → sy_O) (k23 : Int32 → Int32 → Int32 → sy_M → sy_O) (a1 : Int32) (a2 : Int32) (a3 : Int32) (M : sy_M) : sy_run skX12 qX12_alike [(23, .iload_n 3, 1, []), (24, .aload_n 0, 1, []), (25, .getfield 7, 3, []), (28, .iconst 3, 1, []), (29, .iaload, 1, []), (30, .if_icmp .ge 62, 3, []), (33, .iload_n 1, 1, []), (34, .aload_n 0, 1, []), (35, .iload_n 2, 1, []), (36, .iconst 0, 1, []), (37, .invokevirtual 52, 3, []), (40, .aload_n 0, 1, []), (41, .iload_n 3, 1, []), (42, .iconst 0, 1, []), (43, .invokevirtual 52, 3, []), (46, .if_icmp .ne 37, 3, []), (49, .aload_n 0, 1, []), (50, .iload_n 2, 1, []), (51, .iconst 3, 1, []), (52, .invokevirtual 52, 3, []), (55, .aload_n 0, 1, []), (56, .iload_n 3, 1, []), (57, .iconst 3, 1, []), (58, .invokevirtual 52, 3, []), (61, .if_icmp .ne 22, 3, []), (64, .aload_n 0, 1, []), (65, .iload_n 2, 1, []), (66, .iconst 4, 1, []), (67, .invokevirtual 52, 3, []), (70, .aload_n 0, 1, []), (71, .iload_n 3, 1, []), (72, .iconst 4, 1, []), (73, .invokevirtual 52, 3, []), (76, .if_icmp .ne 7, 3, []), (79, .iconst 1, 1, []), (80, .goto 4, 3, []), (92, .iinc 2 1, 3, [true, true, true, false]), (95, .goto (-86), 3, [])] [(187, 0, jcX12_of)] [(9, juX12_alike_9 k9), (83, juX12_alike_83 (jfX12_alike_83 k9 k23)), (84, juX12_alike_84 (jfX12_alike_84 k9 k23))] 39 [] 23 [.ref 121, .int a1, .int a2, .int a3] [] M = jgX12_alike_23 k9 k23 a1 a2 a3 M := rfl
theorem jtX12_alike_23 {k9 : Int32 → Int32 → sy_M → sy_O} (hk9 : ∀ (w3 : Value) (a1 : Int32) (a2 : Int32) (M : sy_M) (r : xe_R × sy_M), k9 a1 a2 M = some r → sy_E (2) qX12_alike 9 [.ref 121, .int a1, .int a2, w3] [] M r) : ∀ n : Nat, ∀ (a1 : Int32) (a2 : Int32) (a3 : Int32) (M : sy_M) (r : xe_R × sy_M), jfX12_alike_23 k9 n a1 a2 a3 M = some r → sy_E (2) qX12_alike 23 [.ref 121, .int a1, .int a2, .int a3] [] M r := by
  intro n
  induction n with
  | zero => intro a1 a2 a3 M r h; exact absurd (show (none : sy_O) = some r from h) (by simp)
  | succ n ih => intro a1 a2 a3 M r h; exact sy_run_by (d := 1) ((jrX12_alike_23 _ _ _ _ _ M).trans h) hkX12 (by decide +kernel) (sy_cs_cons (jeX12_of.deep (by decide)) sy_cs_nil) (sy_us_cons (jwX12_alike_9 hk9) (sy_us_cons (jwX12_alike_83 (jtX12_alike_83 hk9 ih)) (sy_us_cons (jwX12_alike_84 (jtX12_alike_84 hk9 ih)) sy_us_nil)))
def jgX12_alike_9 (k9 : Int32 → Int32 → sy_M → sy_O) (a1 : Int32) (a2 : Int32) (M : sy_M) : sy_O :=
  if a2 < (M 122 3) then
    let v1 := (a2 + 1)
    jfX12_alike_23 k9 sy_F a1 a2 v1 M
  else
    sy_ri a1 M
def jfX12_alike_9 : Nat → Int32 → Int32 → sy_M → sy_O
  | 0, _, _, _ => none
  | n + 1, a1, a2, M => jgX12_alike_9 (jfX12_alike_9 n) a1 a2 M
set_option maxRecDepth 100000 in
theorem jrX12_alike_9 (k9 : Int32 → Int32 → sy_M → sy_O) (w3 : Value) (a1 : Int32) (a2 : Int32) (M : sy_M) : sy_run skX12 qX12_alike [(9, .iload_n 2, 1, [true, true, true, false]), (10, .aload_n 0, 1, []), (11, .getfield 7, 3, []), (14, .iconst 3, 1, []), (15, .iaload, 1, []), (16, .if_icmp .ge 82, 3, []), (19, .iload_n 2, 1, []), (20, .iconst 1, 1, []), (21, .iadd, 1, []), (22, .istore_n 3, 1, []), (98, .iload_n 1, 1, [false, true, false, false]), (99, .ireturn, 1, [])] [] [(23, juX12_alike_23 (jfX12_alike_23 k9 sy_F))] 13 [] 9 [.ref 121, .int a1, .int a2, w3] [] M = jgX12_alike_9 k9 a1 a2 M := rfl
theorem jtX12_alike_9 : ∀ n : Nat, ∀ (w3 : Value) (a1 : Int32) (a2 : Int32) (M : sy_M) (r : xe_R × sy_M), jfX12_alike_9 n a1 a2 M = some r → sy_E (2) qX12_alike 9 [.ref 121, .int a1, .int a2, w3] [] M r := by
  intro n
  induction n with
  | zero => intro w3 a1 a2 M r h; exact absurd (show (none : sy_O) = some r from h) (by simp)
  | succ n ih => intro w3 a1 a2 M r h; exact sy_run_by (d := 1) ((jrX12_alike_9 _ _ _ _ M).trans h) hkX12 (by decide +kernel) sy_cs_nil (sy_us_cons (jwX12_alike_23 (jtX12_alike_23 ih sy_F)) sy_us_nil)
def jfX12_alike (M : sy_M) : sy_O :=
  let M1 := sy_upd M 121 0 0
  jfX12_alike_9 sy_F 0 0 M1
set_option maxRecDepth 100000 in
theorem jrX12_alike (M : sy_M) : sy_run skX12 qX12_alike [(0, .aload_n 0, 1, []), (1, .iconst 0, 1, []), (2, .putfield 45, 3, []), (5, .iconst 0, 1, []), (6, .istore_n 1, 1, []), (7, .iconst 0, 1, []), (8, .istore_n 2, 1, [])] [] [(9, juX12_alike_9 (jfX12_alike_9 sy_F))] 8 [] 0 [.ref 121, xe_no, xe_no, xe_no] [] M = jfX12_alike M := rfl
theorem jtX12_alike : ∀ (M : sy_M) (r : xe_R × sy_M), jfX12_alike M = some r → sy_E (2) qX12_alike 0 [.ref 121, xe_no, xe_no, xe_no] [] M r := by
  intro  M r h
  exact sy_run_by (d := 1) ((jrX12_alike M).trans h) hkX12 (by decide +kernel) sy_cs_nil (sy_us_cons (jwX12_alike_9 (jtX12_alike_9 sy_F)) sy_us_nil)
def jcX12_alike (as : List Value) (M : sy_M) (K : sy_O → sy_O) : sy_O := sy_xc 121 as fun l => sy_xn l (K (jfX12_alike M))
theorem jeX12_alike : sy_snd (2) 310 (jcX12_alike) := by
  intro as M K r h
  obtain ⟨l, e, h1⟩ := sy_xc_ok h; subst e
  obtain ⟨e, h2⟩ := sy_xn_ok h1; subst e
  exact ⟨_, h2, fun r1 h0 => ⟨qX12_alike, rfl, rfl, jtX12_alike  M r1 h0⟩⟩
/-! X11_trial StairMeter trial (IZ)I [('R', 0), 'I', 'I'] -/
def jfX11_trial (a1 : Int32) (a2 : Int32) (M : sy_M) : sy_O :=
  sy_bv (jfX11_checkRange a1 0 96 M) fun M1 =>
  sy_bv (jfX11_start M1) fun M2 =>
  sy_bi (jfX11_run a1 1 M2) fun v4 M3 =>
  if a2 = 0 then
    sy_ri v4 M3
  else
    sy_bi (jfX2_sum 19 7 M3) fun v6 M5 =>
    sy_ri v6 M5
set_option maxRecDepth 100000 in
theorem jrX11_trial (a1 : Int32) (a2 : Int32) (M : sy_M) : sy_run skX11 qX11_trial [(0, .iload_n 1, 1, []), (1, .iconst 0, 1, []), (2, .bipush 96, 2, []), (4, .invokestatic 248, 3, []), (7, .aload_n 0, 1, []), (8, .invokevirtual 289, 3, []), (11, .aload_n 0, 1, []), (12, .iload_n 1, 1, []), (13, .iconst 1, 1, []), (14, .invokevirtual 295, 3, []), (17, .istore_n 3, 1, []), (18, .iload_n 2, 1, []), (19, .ifCond .eq 15, 3, []), (22, .aload_n 0, 1, []), (23, .getfield 35, 3, []), (26, .bipush 7, 2, []), (28, .invokevirtual 171, 3, []), (31, .goto 4, 3, []), (34, .iload_n 3, 1, [false, false, false, true]), (35, .ireturn, 1, [false, false, false, false])] [(179, 1, jcX11_checkRange), (119, 1, jcX11_start), (120, 0, jcX11_run), (12, 0, jcX2_sum)] [] 21 [] 0 [.ref 0, .int a1, .int a2, xe_no] [] M = jfX11_trial a1 a2 M := rfl
theorem jtX11_trial : ∀ (a1 : Int32) (a2 : Int32) (M : sy_M) (r : xe_R × sy_M), jfX11_trial a1 a2 M = some r → sy_E (6) qX11_trial 0 [.ref 0, .int a1, .int a2, xe_no] [] M r := by
  intro a1 a2 M r h
  exact sy_run_by (d := 5) ((jrX11_trial _ _ M).trans h) hkX11 (by decide +kernel) (sy_cs_cons (jeX11_checkRange.deep (by decide)) (sy_cs_cons (jeX11_start.deep (by decide)) (sy_cs_cons (jeX11_run.deep (by decide)) (sy_cs_cons (jeX2_sum.deep (by decide)) sy_cs_nil)))) sy_us_nil
def jcX11_trial (as : List Value) (M : sy_M) (K : sy_O → sy_O) : sy_O := sy_xc 0 as fun l => sy_xi l fun a1 l => sy_xi l fun a2 l => sy_xn l (K (jfX11_trial a1 a2 M))
theorem jeX11_trial : sy_snd (6) 167 (jcX11_trial) := by
  intro as M K r h
  obtain ⟨l, e, h1⟩ := sy_xc_ok h; subst e
  obtain ⟨a1, l, e, h2⟩ := sy_xi_ok h1; subst e
  obtain ⟨a2, l, e, h3⟩ := sy_xi_ok h2; subst e
  obtain ⟨e, h4⟩ := sy_xn_ok h3; subst e
  exact ⟨_, h4, fun r1 h0 => ⟨qX11_trial, rfl, rfl, jtX11_trial _ _ M r1 h0⟩⟩
/-! L_trial StairMeterLaw trial (LStairMeter;IZ[J)I [('R', 0), 'I', 'I', ('R', 132)] -/
def jfL_trial (a1 : Int32) (a2 : Int32) (M : sy_M) : sy_O :=
  sy_hi (jfX11_trial a1 a2 M) (fun v2 M1 =>
    let M5 := sy_wl M1 132 0 (Int32.toInt64 v2)
    sy_ri 0 M5)
  (fun c3 M4 => if c3 = 20 then sy_ri 1 M4 else none)
set_option maxRecDepth 100000 in
theorem jrL_trial (a1 : Int32) (a2 : Int32) (M : sy_M) : sy_run skL qL_trial [(0, .aload_n 3, 1, []), (1, .iconst 0, 1, []), (2, .aload_n 0, 1, []), (3, .iload_n 1, 1, []), (4, .iload_n 2, 1, []), (5, .invokevirtual 123, 3, []), (8, .i2l, 1, []), (9, .lastore, 1, []), (10, .goto 7, 3, []), (13, .astore 4, 2, [false, false, false, false, false]), (15, .iconst 1, 1, []), (16, .ireturn, 1, []), (17, .iconst 0, 1, [false, false, false, false, false]), (18, .ireturn, 1, [])] [(167, 3, jcX11_trial)] [] 15 [] 0 [.ref 0, .int a1, .int a2, .ref 132, xe_no] [] M = jfL_trial a1 a2 M := rfl
theorem jtL_trial : ∀ (a1 : Int32) (a2 : Int32) (M : sy_M) (r : xe_R × sy_M), jfL_trial a1 a2 M = some r → sy_E (7) qL_trial 0 [.ref 0, .int a1, .int a2, .ref 132, xe_no] [] M r := by
  intro a1 a2 M r h
  exact sy_run_by (d := 6) ((jrL_trial _ _ M).trans h) hkL (by decide +kernel) (sy_cs_cons (jeX11_trial.deep (by decide)) sy_cs_nil) sy_us_nil
def jcL_trial (as : List Value) (M : sy_M) (K : sy_O → sy_O) : sy_O := sy_xc 0 as fun l => sy_xi l fun a1 l => sy_xi l fun a2 l => sy_xc 132 l fun l => sy_xn l (K (jfL_trial a1 a2 M))
theorem jeL_trial : sy_snd (7) 353 (jcL_trial) := by
  intro as M K r h
  obtain ⟨l, e, h1⟩ := sy_xc_ok h; subst e
  obtain ⟨a1, l, e, h2⟩ := sy_xi_ok h1; subst e
  obtain ⟨a2, l, e, h3⟩ := sy_xi_ok h2; subst e
  obtain ⟨l, e, h4⟩ := sy_xc_ok h3; subst e
  obtain ⟨e, h5⟩ := sy_xn_ok h4; subst e
  exact ⟨_, h5, fun r1 h0 => ⟨qL_trial, rfl, rfl, jtL_trial _ _ M r1 h0⟩⟩
/-! X12_trial StairMeterModel trial (IZ)I [('R', 121), 'I', 'I'] -/
def juX12_trial_54 (k : Int32 → sy_M → sy_O) (ls st : List Value) (M : sy_M) : sy_O := sy_xc 121 ls fun l => sy_xv l fun _ l => sy_xv l fun _ l => sy_xv l fun _ l => sy_xv l fun _ l => sy_xn l (sy_xi st fun s0 l => sy_xn l (k s0 M))
theorem jwX12_trial_54 {d : Nat} {k : Int32 → sy_M → sy_O} (hk : ∀ (w1 : Value) (w2 : Value) (w3 : Value) (w4 : Value) (s0 : Int32) (M : sy_M) (r : xe_R × sy_M), k s0 M = some r → sy_E (d) qX12_trial 54 [.ref 121, w1, w2, w3, w4] [.int s0] M r) : ∀ ls st M r, juX12_trial_54 k ls st M = some r → sy_E d qX12_trial 54 ls st M r := by
  intro ls st M r h
  obtain ⟨l, e, h1⟩ := sy_xc_ok h; subst e
  obtain ⟨w1, l, e, h2⟩ := sy_xv_ok h1; subst e
  obtain ⟨w2, l, e, h3⟩ := sy_xv_ok h2; subst e
  obtain ⟨w3, l, e, h4⟩ := sy_xv_ok h3; subst e
  obtain ⟨w4, l, e, h5⟩ := sy_xv_ok h4; subst e
  obtain ⟨e, h6⟩ := sy_xn_ok h5; subst e
  obtain ⟨s0, l, e, h7⟩ := sy_xi_ok h6; subst e
  obtain ⟨e, h8⟩ := sy_xn_ok h7; subst e
  exact hk _ _ _ _ s0 M r h8
def juX12_trial_16 (k : Int32 → Int32 → Int32 → sy_M → sy_O) (ls st : List Value) (M : sy_M) : sy_O := sy_xc 121 ls fun l => sy_xi l fun a1 l => sy_xi l fun a2 l => sy_xv l fun _ l => sy_xv l fun _ l => sy_xn l (sy_xi st fun s0 l => sy_xc 121 l fun l => sy_xn l (k a1 a2 s0 M))
theorem jwX12_trial_16 {d : Nat} {k : Int32 → Int32 → Int32 → sy_M → sy_O} (hk : ∀ (w3 : Value) (w4 : Value) (a1 : Int32) (a2 : Int32) (s0 : Int32) (M : sy_M) (r : xe_R × sy_M), k a1 a2 s0 M = some r → sy_E (d) qX12_trial 16 [.ref 121, .int a1, .int a2, w3, w4] [.int s0, .ref 121] M r) : ∀ ls st M r, juX12_trial_16 k ls st M = some r → sy_E d qX12_trial 16 ls st M r := by
  intro ls st M r h
  obtain ⟨l, e, h1⟩ := sy_xc_ok h; subst e
  obtain ⟨a1, l, e, h2⟩ := sy_xi_ok h1; subst e
  obtain ⟨a2, l, e, h3⟩ := sy_xi_ok h2; subst e
  obtain ⟨w3, l, e, h4⟩ := sy_xv_ok h3; subst e
  obtain ⟨w4, l, e, h5⟩ := sy_xv_ok h4; subst e
  obtain ⟨e, h6⟩ := sy_xn_ok h5; subst e
  obtain ⟨s0, l, e, h7⟩ := sy_xi_ok h6; subst e
  obtain ⟨l, e, h8⟩ := sy_xc_ok h7; subst e
  obtain ⟨e, h9⟩ := sy_xn_ok h8; subst e
  exact hk _ _ a1 a2 s0 M r h9
def jfX12_trial_54 (s0 : Int32) (M : sy_M) : sy_O :=
  sy_bv (jfX12_comesBack M) fun M1 =>
  sy_ri s0 M1
set_option maxRecDepth 100000 in
theorem jrX12_trial_54 (w1 : Value) (w2 : Value) (w3 : Value) (w4 : Value) (s0 : Int32) (M : sy_M) : sy_run skX12 qX12_trial [(54, .istore 4, 2, [true, false, false, false, false]), (56, .aload_n 0, 1, []), (57, .invokevirtual 182, 3, []), (60, .iload 4, 2, []), (62, .ireturn, 1, [])] [(216, 1, jcX12_comesBack)] [] 6 [] 54 [.ref 121, w1, w2, w3, w4] [.int s0] M = jfX12_trial_54 s0 M := rfl
theorem jtX12_trial_54 : ∀ (w1 : Value) (w2 : Value) (w3 : Value) (w4 : Value) (s0 : Int32) (M : sy_M) (r : xe_R × sy_M), jfX12_trial_54 s0 M = some r → sy_E (52) qX12_trial 54 [.ref 121, w1, w2, w3, w4] [.int s0] M r := by
  intro w1 w2 w3 w4 s0 M r h
  exact sy_run_by (d := 51) ((jrX12_trial_54 _ _ _ _ _ M).trans h) hkX12 (by decide +kernel) (sy_cs_cons (jeX12_comesBack.deep (by decide)) sy_cs_nil) sy_us_nil
def jfX12_trial_16 (a1 : Int32) (a2 : Int32) (s0 : Int32) (M : sy_M) : sy_O :=
  let M1 := sy_upd M 121 0 s0
  if 0 < (M1 121 0) then
    sy_ri 0 M1
  else
    sy_bv (jfX12_putsAside M1) fun M2 =>
    sy_bi (jfX12_goes a1 1 M2) fun v4 M3 =>
    if a2 = 0 then
      jfX12_trial_54 (M3 121 20) M3
    else
      sy_bi (jfX12_coldOfAll M3) fun v6 M5 =>
      jfX12_trial_54 v6 M5
set_option maxRecDepth 100000 in
theorem jrX12_trial_16 (w3 : Value) (w4 : Value) (a1 : Int32) (a2 : Int32) (s0 : Int32) (M : sy_M) : sy_run skX12 qX12_trial [(16, .putfield 45, 3, [true, true, true, false, false]), (19, .aload_n 0, 1, []), (20, .getfield 45, 3, []), (23, .ifCond .le 5, 3, []), (26, .iconst 0, 1, []), (27, .ireturn, 1, []), (28, .aload_n 0, 1, [true, true, true, false, false]), (29, .invokevirtual 172, 3, []), (32, .aload_n 0, 1, []), (33, .iload_n 1, 1, []), (34, .iconst 1, 1, []), (35, .invokevirtual 314, 3, []), (38, .istore_n 3, 1, []), (39, .iload_n 2, 1, []), (40, .ifCond .eq 10, 3, []), (43, .aload_n 0, 1, []), (44, .invokevirtual 346, 3, []), (47, .goto 7, 3, []), (50, .aload_n 0, 1, [true, false, false, false, false]), (51, .getfield 250, 3, [])] [(215, 1, jcX12_putsAside), (235, 0, jcX12_goes), (237, 0, jcX12_coldOfAll)] [(54, juX12_trial_54 (jfX12_trial_54))] 21 [] 16 [.ref 121, .int a1, .int a2, w3, w4] [.int s0, .ref 121] M = jfX12_trial_16 a1 a2 s0 M := rfl
theorem jtX12_trial_16 : ∀ (w3 : Value) (w4 : Value) (a1 : Int32) (a2 : Int32) (s0 : Int32) (M : sy_M) (r : xe_R × sy_M), jfX12_trial_16 a1 a2 s0 M = some r → sy_E (52) qX12_trial 16 [.ref 121, .int a1, .int a2, w3, w4] [.int s0, .ref 121] M r := by
  intro w3 w4 a1 a2 s0 M r h
  exact sy_run_by (d := 51) ((jrX12_trial_16 _ _ _ _ _ M).trans h) hkX12 (by decide +kernel) (sy_cs_cons (jeX12_putsAside.deep (by decide)) (sy_cs_cons (jeX12_goes.deep (by decide)) (sy_cs_cons (jeX12_coldOfAll.deep (by decide)) sy_cs_nil))) (sy_us_cons (jwX12_trial_54 (jtX12_trial_54)) sy_us_nil)
def jfX12_trial (a1 : Int32) (a2 : Int32) (M : sy_M) : sy_O :=
  sy_bi (jfX12_isIn a1 0 96 M) fun v2 M1 =>
  if v2 = 0 then
    jfX12_trial_16 a1 a2 1 M1
  else
    jfX12_trial_16 a1 a2 0 M1
set_option maxRecDepth 100000 in
theorem jrX12_trial (a1 : Int32) (a2 : Int32) (M : sy_M) : sy_run skX12 qX12_trial [(0, .aload_n 0, 1, []), (1, .iload_n 1, 1, []), (2, .iconst 0, 1, []), (3, .bipush 96, 2, []), (5, .invokestatic 48, 3, []), (8, .ifCond .ne 7, 3, []), (11, .iconst 1, 1, []), (12, .goto 4, 3, []), (15, .iconst 0, 1, [true, true, true, false, false])] [(182, 0, jcX12_isIn)] [(16, juX12_trial_16 (jfX12_trial_16))] 10 [] 0 [.ref 121, .int a1, .int a2, xe_no, xe_no] [] M = jfX12_trial a1 a2 M := rfl
theorem jtX12_trial : ∀ (a1 : Int32) (a2 : Int32) (M : sy_M) (r : xe_R × sy_M), jfX12_trial a1 a2 M = some r → sy_E (52) qX12_trial 0 [.ref 121, .int a1, .int a2, xe_no, xe_no] [] M r := by
  intro a1 a2 M r h
  exact sy_run_by (d := 51) ((jrX12_trial _ _ M).trans h) hkX12 (by decide +kernel) (sy_cs_cons (jeX12_isIn.deep (by decide)) sy_cs_nil) (sy_us_cons (jwX12_trial_16 (jtX12_trial_16)) sy_us_nil)
def jcX12_trial (as : List Value) (M : sy_M) (K : sy_O → sy_O) : sy_O := sy_xc 121 as fun l => sy_xi l fun a1 l => sy_xi l fun a2 l => sy_xn l (K (jfX12_trial a1 a2 M))
theorem jeX12_trial : sy_snd (52) 311 (jcX12_trial) := by
  intro as M K r h
  obtain ⟨l, e, h1⟩ := sy_xc_ok h; subst e
  obtain ⟨a1, l, e, h2⟩ := sy_xi_ok h1; subst e
  obtain ⟨a2, l, e, h3⟩ := sy_xi_ok h2; subst e
  obtain ⟨e, h4⟩ := sy_xn_ok h3; subst e
  exact ⟨_, h4, fun r1 h0 => ⟨qX12_trial, rfl, rfl, jtX12_trial _ _ M r1 h0⟩⟩
/-! X11_span StairMeter span (IZ)I [('R', 0), 'I', 'I'] -/
def juX11_span_86 (k : Int32 → Int32 → Int32 → Int32 → sy_M → sy_O) (ls st : List Value) (M : sy_M) : sy_O := sy_xc 0 ls fun l => sy_xi l fun a1 l => sy_xi l fun a2 l => sy_xi l fun a3 l => sy_xi l fun a4 l => sy_xv l fun _ l => sy_xn l (sy_xn st (k a1 a2 a3 a4 M))
theorem jwX11_span_86 {d : Nat} {k : Int32 → Int32 → Int32 → Int32 → sy_M → sy_O} (hk : ∀ (w5 : Value) (a1 : Int32) (a2 : Int32) (a3 : Int32) (a4 : Int32) (M : sy_M) (r : xe_R × sy_M), k a1 a2 a3 a4 M = some r → sy_E (d) qX11_span 86 [.ref 0, .int a1, .int a2, .int a3, .int a4, w5] [] M r) : ∀ ls st M r, juX11_span_86 k ls st M = some r → sy_E d qX11_span 86 ls st M r := by
  intro ls st M r h
  obtain ⟨l, e, h1⟩ := sy_xc_ok h; subst e
  obtain ⟨a1, l, e, h2⟩ := sy_xi_ok h1; subst e
  obtain ⟨a2, l, e, h3⟩ := sy_xi_ok h2; subst e
  obtain ⟨a3, l, e, h4⟩ := sy_xi_ok h3; subst e
  obtain ⟨a4, l, e, h5⟩ := sy_xi_ok h4; subst e
  obtain ⟨w5, l, e, h6⟩ := sy_xv_ok h5; subst e
  obtain ⟨e, h7⟩ := sy_xn_ok h6; subst e
  obtain ⟨e, h8⟩ := sy_xn_ok h7; subst e
  exact hk _ a1 a2 a3 a4 M r h8
def juX11_span_83 (k : Int32 → Int32 → Int32 → Int32 → sy_M → sy_O) (ls st : List Value) (M : sy_M) : sy_O := sy_xc 0 ls fun l => sy_xi l fun a1 l => sy_xi l fun a2 l => sy_xv l fun _ l => sy_xi l fun a4 l => sy_xi l fun a5 l => sy_xn l (sy_xn st (k a1 a2 a4 a5 M))
theorem jwX11_span_83 {d : Nat} {k : Int32 → Int32 → Int32 → Int32 → sy_M → sy_O} (hk : ∀ (w3 : Value) (a1 : Int32) (a2 : Int32) (a4 : Int32) (a5 : Int32) (M : sy_M) (r : xe_R × sy_M), k a1 a2 a4 a5 M = some r → sy_E (d) qX11_span 83 [.ref 0, .int a1, .int a2, w3, .int a4, .int a5] [] M r) : ∀ ls st M r, juX11_span_83 k ls st M = some r → sy_E d qX11_span 83 ls st M r := by
  intro ls st M r h
  obtain ⟨l, e, h1⟩ := sy_xc_ok h; subst e
  obtain ⟨a1, l, e, h2⟩ := sy_xi_ok h1; subst e
  obtain ⟨a2, l, e, h3⟩ := sy_xi_ok h2; subst e
  obtain ⟨w3, l, e, h4⟩ := sy_xv_ok h3; subst e
  obtain ⟨a4, l, e, h5⟩ := sy_xi_ok h4; subst e
  obtain ⟨a5, l, e, h6⟩ := sy_xi_ok h5; subst e
  obtain ⟨e, h7⟩ := sy_xn_ok h6; subst e
  obtain ⟨e, h8⟩ := sy_xn_ok h7; subst e
  exact hk _ a1 a2 a4 a5 M r h8
def juX11_span_23 (k : Int32 → Int32 → Int32 → Int32 → sy_M → sy_O) (ls st : List Value) (M : sy_M) : sy_O := sy_xc 0 ls fun l => sy_xi l fun a1 l => sy_xi l fun a2 l => sy_xi l fun a3 l => sy_xi l fun a4 l => sy_xv l fun _ l => sy_xn l (sy_xn st (k a1 a2 a3 a4 M))
theorem jwX11_span_23 {d : Nat} {k : Int32 → Int32 → Int32 → Int32 → sy_M → sy_O} (hk : ∀ (w5 : Value) (a1 : Int32) (a2 : Int32) (a3 : Int32) (a4 : Int32) (M : sy_M) (r : xe_R × sy_M), k a1 a2 a3 a4 M = some r → sy_E (d) qX11_span 23 [.ref 0, .int a1, .int a2, .int a3, .int a4, w5] [] M r) : ∀ ls st M r, juX11_span_23 k ls st M = some r → sy_E d qX11_span 23 ls st M r := by
  intro ls st M r h
  obtain ⟨l, e, h1⟩ := sy_xc_ok h; subst e
  obtain ⟨a1, l, e, h2⟩ := sy_xi_ok h1; subst e
  obtain ⟨a2, l, e, h3⟩ := sy_xi_ok h2; subst e
  obtain ⟨a3, l, e, h4⟩ := sy_xi_ok h3; subst e
  obtain ⟨a4, l, e, h5⟩ := sy_xi_ok h4; subst e
  obtain ⟨w5, l, e, h6⟩ := sy_xv_ok h5; subst e
  obtain ⟨e, h7⟩ := sy_xn_ok h6; subst e
  obtain ⟨e, h8⟩ := sy_xn_ok h7; subst e
  exact hk _ a1 a2 a3 a4 M r h8
def jfX11_span_86 (k23 : Int32 → Int32 → Int32 → Int32 → sy_M → sy_O) (a1 : Int32) (a2 : Int32) (a3 : Int32) (a4 : Int32) (M : sy_M) : sy_O :=
  let v1 := a4 + 1
  k23 a1 a2 a3 v1 M
set_option maxRecDepth 100000 in
theorem jrX11_span_86 (k23 : Int32 → Int32 → Int32 → Int32 → sy_M → sy_O) (w5 : Value) (a1 : Int32) (a2 : Int32) (a3 : Int32) (a4 : Int32) (M : sy_M) : sy_run skX11 qX11_span [(86, .iinc 4 1, 3, [true, true, true, true, true, false]), (89, .goto (-66), 3, [])] [] [(23, juX11_span_23 k23)] 3 [] 86 [.ref 0, .int a1, .int a2, .int a3, .int a4, w5] [] M = jfX11_span_86 k23 a1 a2 a3 a4 M := rfl
theorem jtX11_span_86 {k23 : Int32 → Int32 → Int32 → Int32 → sy_M → sy_O} (hk23 : ∀ (w5 : Value) (a1 : Int32) (a2 : Int32) (a3 : Int32) (a4 : Int32) (M : sy_M) (r : xe_R × sy_M), k23 a1 a2 a3 a4 M = some r → sy_E (6) qX11_span 23 [.ref 0, .int a1, .int a2, .int a3, .int a4, w5] [] M r) : ∀ (w5 : Value) (a1 : Int32) (a2 : Int32) (a3 : Int32) (a4 : Int32) (M : sy_M) (r : xe_R × sy_M), jfX11_span_86 k23 a1 a2 a3 a4 M = some r → sy_E (6) qX11_span 86 [.ref 0, .int a1, .int a2, .int a3, .int a4, w5] [] M r := by
  intro w5 a1 a2 a3 a4 M r h
  exact sy_run_by (d := 5) ((jrX11_span_86 _ _ _ _ _ _ M).trans h) hkX11 (by decide +kernel) sy_cs_nil (sy_us_cons (jwX11_span_23 hk23) sy_us_nil)
def jfX11_span_83 (k23 : Int32 → Int32 → Int32 → Int32 → sy_M → sy_O) (a1 : Int32) (a2 : Int32) (a4 : Int32) (a5 : Int32) (M : sy_M) : sy_O :=
  jfX11_span_86 k23 a1 a2 a5 a4 M
set_option maxRecDepth 100000 in
theorem jrX11_span_83 (k23 : Int32 → Int32 → Int32 → Int32 → sy_M → sy_O) (w3 : Value) (a1 : Int32) (a2 : Int32) (a4 : Int32) (a5 : Int32) (M : sy_M) : sy_run skX11 qX11_span [(83, .iload 5, 2, [true, true, true, false, true, true]), (85, .istore_n 3, 1, [])] [] [(86, juX11_span_86 (jfX11_span_86 k23))] 3 [] 83 [.ref 0, .int a1, .int a2, w3, .int a4, .int a5] [] M = jfX11_span_83 k23 a1 a2 a4 a5 M := rfl
theorem jtX11_span_83 {k23 : Int32 → Int32 → Int32 → Int32 → sy_M → sy_O} (hk23 : ∀ (w5 : Value) (a1 : Int32) (a2 : Int32) (a3 : Int32) (a4 : Int32) (M : sy_M) (r : xe_R × sy_M), k23 a1 a2 a3 a4 M = some r → sy_E (6) qX11_span 23 [.ref 0, .int a1, .int a2, .int a3, .int a4, w5] [] M r) : ∀ (w3 : Value) (a1 : Int32) (a2 : Int32) (a4 : Int32) (a5 : Int32) (M : sy_M) (r : xe_R × sy_M), jfX11_span_83 k23 a1 a2 a4 a5 M = some r → sy_E (6) qX11_span 83 [.ref 0, .int a1, .int a2, w3, .int a4, .int a5] [] M r := by
  intro w3 a1 a2 a4 a5 M r h
  exact sy_run_by (d := 5) ((jrX11_span_83 _ _ _ _ _ _ M).trans h) hkX11 (by decide +kernel) sy_cs_nil (sy_us_cons (jwX11_span_86 (jtX11_span_86 hk23)) sy_us_nil)
def jgX11_span_23 (k23 : Int32 → Int32 → Int32 → Int32 → sy_M → sy_O) (a1 : Int32) (a2 : Int32) (a3 : Int32) (a4 : Int32) (M : sy_M) : sy_O :=
  if 6 < a4 then
    sy_ri a3 M
  else
    sy_bv (jfX2_takeOver 19 9 M) fun M1 =>
    let M2 := sy_upd M1 19 13 a4
    sy_bi (jfX11_run a1 1 M2) fun v4 M3 =>
    if a4 = 1 then
      jfX11_span_83 k23 a1 a2 a4 v4 M3
    else
      if a2 = 0 then
        if v4 < a3 then
          jfX11_span_83 k23 a1 a2 a4 v4 M3
        else
          jfX11_span_86 k23 a1 a2 a3 a4 M3
      else
        if a3 < v4 then
          jfX11_span_83 k23 a1 a2 a4 v4 M3
        else
          jfX11_span_86 k23 a1 a2 a3 a4 M3
def jfX11_span_23 : Nat → Int32 → Int32 → Int32 → Int32 → sy_M → sy_O
  | 0, _, _, _, _, _ => none
  | n + 1, a1, a2, a3, a4, M => jgX11_span_23 (jfX11_span_23 n) a1 a2 a3 a4 M
set_option maxRecDepth 100000 in
theorem jrX11_span_23 (k23 : Int32 → Int32 → Int32 → Int32 → sy_M → sy_O) (w5 : Value) (a1 : Int32) (a2 : Int32) (a3 : Int32) (a4 : Int32) (M : sy_M) : sy_run skX11 qX11_span [(23, .iload 4, 2, [true, true, true, true, true, false]), (25, .bipush 6, 2, []), (27, .if_icmp .gt 65, 3, []), (30, .aload_n 0, 1, []), (31, .getfield 35, 3, []), (34, .aload_n 0, 1, []), (35, .getfield 28, 3, []), (38, .invokevirtual 115, 3, []), (41, .aload_n 0, 1, []), (42, .getfield 35, 3, []), (45, .iload 4, 2, []), (47, .putfield 403, 3, []), (50, .aload_n 0, 1, []), (51, .iload_n 1, 1, []), (52, .iconst 1, 1, []), (53, .invokevirtual 295, 3, []), (56, .istore 5, 2, []), (58, .iload 4, 2, []), (60, .iconst 1, 1, []), (61, .if_icmp .eq 22, 3, []), (64, .iload_n 2, 1, []), (65, .ifCond .eq 12, 3, []), (68, .iload 5, 2, []), (70, .iload_n 3, 1, []), (71, .if_icmp .le 15, 3, []), (74, .goto 9, 3, []), (77, .iload 5, 2, []), (79, .iload_n 3, 1, []), (80, .if_icmp .ge 6, 3, []), (92, .iload_n 3, 1, [false, false, false, true, false, false]), (93, .ireturn, 1, [])] [(9, 1, jcX2_takeOver), (120, 0, jcX11_run)] [(83, juX11_span_83 (jfX11_span_83 k23)), (86, juX11_span_86 (jfX11_span_86 k23))] 32 [] 23 [.ref 0, .int a1, .int a2, .int a3, .int a4, w5] [] M = jgX11_span_23 k23 a1 a2 a3 a4 M := rfl
theorem jtX11_span_23 : ∀ n : Nat, ∀ (w5 : Value) (a1 : Int32) (a2 : Int32) (a3 : Int32) (a4 : Int32) (M : sy_M) (r : xe_R × sy_M), jfX11_span_23 n a1 a2 a3 a4 M = some r → sy_E (6) qX11_span 23 [.ref 0, .int a1, .int a2, .int a3, .int a4, w5] [] M r := by
  intro n
  induction n with
  | zero => intro w5 a1 a2 a3 a4 M r h; exact absurd (show (none : sy_O) = some r from h) (by simp)
  | succ n ih => intro w5 a1 a2 a3 a4 M r h; exact sy_run_by (d := 5) ((jrX11_span_23 _ _ _ _ _ _ M).trans h) hkX11 (by decide +kernel) (sy_cs_cons (jeX2_takeOver.deep (by decide)) (sy_cs_cons (jeX11_run.deep (by decide)) sy_cs_nil)) (sy_us_cons (jwX11_span_83 (jtX11_span_83 ih)) (sy_us_cons (jwX11_span_86 (jtX11_span_86 ih)) sy_us_nil))
def jfX11_span (a1 : Int32) (a2 : Int32) (M : sy_M) : sy_O :=
  sy_bv (jfX11_checkRange a1 0 96 M) fun M1 =>
  sy_bv (jfX8_learn 9 M1) fun M2 =>
  jfX11_span_23 sy_F a1 a2 0 1 M2
set_option maxRecDepth 100000 in
theorem jrX11_span (a1 : Int32) (a2 : Int32) (M : sy_M) : sy_run skX11 qX11_span [(0, .iload_n 1, 1, []), (1, .iconst 0, 1, []), (2, .bipush 96, 2, []), (4, .invokestatic 248, 3, []), (7, .aload_n 0, 1, []), (8, .getfield 75, 3, []), (11, .aload_n 0, 1, []), (12, .getfield 28, 3, []), (15, .invokevirtual 181, 3, []), (18, .iconst 0, 1, []), (19, .istore_n 3, 1, []), (20, .iconst 1, 1, []), (21, .istore 4, 2, [])] [(179, 1, jcX11_checkRange), (63, 1, jcX8_learn)] [(23, juX11_span_23 (jfX11_span_23 sy_F))] 14 [] 0 [.ref 0, .int a1, .int a2, xe_no, xe_no, xe_no] [] M = jfX11_span a1 a2 M := rfl
theorem jtX11_span : ∀ (a1 : Int32) (a2 : Int32) (M : sy_M) (r : xe_R × sy_M), jfX11_span a1 a2 M = some r → sy_E (6) qX11_span 0 [.ref 0, .int a1, .int a2, xe_no, xe_no, xe_no] [] M r := by
  intro a1 a2 M r h
  exact sy_run_by (d := 5) ((jrX11_span _ _ M).trans h) hkX11 (by decide +kernel) (sy_cs_cons (jeX11_checkRange.deep (by decide)) (sy_cs_cons (jeX8_learn.deep (by decide)) sy_cs_nil)) (sy_us_cons (jwX11_span_23 (jtX11_span_23 sy_F)) sy_us_nil)
def jcX11_span (as : List Value) (M : sy_M) (K : sy_O → sy_O) : sy_O := sy_xc 0 as fun l => sy_xi l fun a1 l => sy_xi l fun a2 l => sy_xn l (K (jfX11_span a1 a2 M))
theorem jeX11_span : sy_snd (6) 168 (jcX11_span) := by
  intro as M K r h
  obtain ⟨l, e, h1⟩ := sy_xc_ok h; subst e
  obtain ⟨a1, l, e, h2⟩ := sy_xi_ok h1; subst e
  obtain ⟨a2, l, e, h3⟩ := sy_xi_ok h2; subst e
  obtain ⟨e, h4⟩ := sy_xn_ok h3; subst e
  exact ⟨_, h4, fun r1 h0 => ⟨qX11_span, rfl, rfl, jtX11_span _ _ M r1 h0⟩⟩
/-! L_span StairMeterLaw span (LStairMeter;IZ[J)I [('R', 0), 'I', 'I', ('R', 132)] -/
def jfL_span (a1 : Int32) (a2 : Int32) (M : sy_M) : sy_O :=
  sy_hi (jfX11_span a1 a2 M) (fun v2 M1 =>
    let M5 := sy_wl M1 132 0 (Int32.toInt64 v2)
    sy_ri 0 M5)
  (fun c3 M4 => if c3 = 20 then sy_ri 1 M4 else none)
set_option maxRecDepth 100000 in
theorem jrL_span (a1 : Int32) (a2 : Int32) (M : sy_M) : sy_run skL qL_span [(0, .aload_n 3, 1, []), (1, .iconst 0, 1, []), (2, .aload_n 0, 1, []), (3, .iload_n 1, 1, []), (4, .iload_n 2, 1, []), (5, .invokevirtual 126, 3, []), (8, .i2l, 1, []), (9, .lastore, 1, []), (10, .goto 7, 3, []), (13, .astore 4, 2, [false, false, false, false, false]), (15, .iconst 1, 1, []), (16, .ireturn, 1, []), (17, .iconst 0, 1, [false, false, false, false, false]), (18, .ireturn, 1, [])] [(168, 3, jcX11_span)] [] 15 [] 0 [.ref 0, .int a1, .int a2, .ref 132, xe_no] [] M = jfL_span a1 a2 M := rfl
theorem jtL_span : ∀ (a1 : Int32) (a2 : Int32) (M : sy_M) (r : xe_R × sy_M), jfL_span a1 a2 M = some r → sy_E (7) qL_span 0 [.ref 0, .int a1, .int a2, .ref 132, xe_no] [] M r := by
  intro a1 a2 M r h
  exact sy_run_by (d := 6) ((jrL_span _ _ M).trans h) hkL (by decide +kernel) (sy_cs_cons (jeX11_span.deep (by decide)) sy_cs_nil) sy_us_nil
def jcL_span (as : List Value) (M : sy_M) (K : sy_O → sy_O) : sy_O := sy_xc 0 as fun l => sy_xi l fun a1 l => sy_xi l fun a2 l => sy_xc 132 l fun l => sy_xn l (K (jfL_span a1 a2 M))
theorem jeL_span : sy_snd (7) 354 (jcL_span) := by
  intro as M K r h
  obtain ⟨l, e, h1⟩ := sy_xc_ok h; subst e
  obtain ⟨a1, l, e, h2⟩ := sy_xi_ok h1; subst e
  obtain ⟨a2, l, e, h3⟩ := sy_xi_ok h2; subst e
  obtain ⟨l, e, h4⟩ := sy_xc_ok h3; subst e
  obtain ⟨e, h5⟩ := sy_xn_ok h4; subst e
  exact ⟨_, h5, fun r1 h0 => ⟨qL_span, rfl, rfl, jtL_span _ _ M r1 h0⟩⟩
/-! X12_span StairMeterModel span (IZ)I [('R', 121), 'I', 'I'] -/
def juX12_span_100 (k : Int32 → Int32 → Int32 → Int32 → sy_M → sy_O) (ls st : List Value) (M : sy_M) : sy_O := sy_xc 121 ls fun l => sy_xi l fun a1 l => sy_xi l fun a2 l => sy_xv l fun _ l => sy_xi l fun a4 l => sy_xv l fun _ l => sy_xn l (sy_xi st fun s0 l => sy_xn l (k a1 a2 a4 s0 M))
theorem jwX12_span_100 {d : Nat} {k : Int32 → Int32 → Int32 → Int32 → sy_M → sy_O} (hk : ∀ (w3 : Value) (w5 : Value) (a1 : Int32) (a2 : Int32) (a4 : Int32) (s0 : Int32) (M : sy_M) (r : xe_R × sy_M), k a1 a2 a4 s0 M = some r → sy_E (d) qX12_span 100 [.ref 121, .int a1, .int a2, w3, .int a4, w5] [.int s0] M r) : ∀ ls st M r, juX12_span_100 k ls st M = some r → sy_E d qX12_span 100 ls st M r := by
  intro ls st M r h
  obtain ⟨l, e, h1⟩ := sy_xc_ok h; subst e
  obtain ⟨a1, l, e, h2⟩ := sy_xi_ok h1; subst e
  obtain ⟨a2, l, e, h3⟩ := sy_xi_ok h2; subst e
  obtain ⟨w3, l, e, h4⟩ := sy_xv_ok h3; subst e
  obtain ⟨a4, l, e, h5⟩ := sy_xi_ok h4; subst e
  obtain ⟨w5, l, e, h6⟩ := sy_xv_ok h5; subst e
  obtain ⟨e, h7⟩ := sy_xn_ok h6; subst e
  obtain ⟨s0, l, e, h8⟩ := sy_xi_ok h7; subst e
  obtain ⟨e, h9⟩ := sy_xn_ok h8; subst e
  exact hk _ _ a1 a2 a4 s0 M r h9
def juX12_span_37 (k : Int32 → Int32 → Int32 → Int32 → sy_M → sy_O) (ls st : List Value) (M : sy_M) : sy_O := sy_xc 121 ls fun l => sy_xi l fun a1 l => sy_xi l fun a2 l => sy_xi l fun a3 l => sy_xi l fun a4 l => sy_xv l fun _ l => sy_xn l (sy_xn st (k a1 a2 a3 a4 M))
theorem jwX12_span_37 {d : Nat} {k : Int32 → Int32 → Int32 → Int32 → sy_M → sy_O} (hk : ∀ (w5 : Value) (a1 : Int32) (a2 : Int32) (a3 : Int32) (a4 : Int32) (M : sy_M) (r : xe_R × sy_M), k a1 a2 a3 a4 M = some r → sy_E (d) qX12_span 37 [.ref 121, .int a1, .int a2, .int a3, .int a4, w5] [] M r) : ∀ ls st M r, juX12_span_37 k ls st M = some r → sy_E d qX12_span 37 ls st M r := by
  intro ls st M r h
  obtain ⟨l, e, h1⟩ := sy_xc_ok h; subst e
  obtain ⟨a1, l, e, h2⟩ := sy_xi_ok h1; subst e
  obtain ⟨a2, l, e, h3⟩ := sy_xi_ok h2; subst e
  obtain ⟨a3, l, e, h4⟩ := sy_xi_ok h3; subst e
  obtain ⟨a4, l, e, h5⟩ := sy_xi_ok h4; subst e
  obtain ⟨w5, l, e, h6⟩ := sy_xv_ok h5; subst e
  obtain ⟨e, h7⟩ := sy_xn_ok h6; subst e
  obtain ⟨e, h8⟩ := sy_xn_ok h7; subst e
  exact hk _ a1 a2 a3 a4 M r h8
def juX12_span_16 (k : Int32 → Int32 → Int32 → sy_M → sy_O) (ls st : List Value) (M : sy_M) : sy_O := sy_xc 121 ls fun l => sy_xi l fun a1 l => sy_xi l fun a2 l => sy_xv l fun _ l => sy_xv l fun _ l => sy_xv l fun _ l => sy_xn l (sy_xi st fun s0 l => sy_xc 121 l fun l => sy_xn l (k a1 a2 s0 M))
theorem jwX12_span_16 {d : Nat} {k : Int32 → Int32 → Int32 → sy_M → sy_O} (hk : ∀ (w3 : Value) (w4 : Value) (w5 : Value) (a1 : Int32) (a2 : Int32) (s0 : Int32) (M : sy_M) (r : xe_R × sy_M), k a1 a2 s0 M = some r → sy_E (d) qX12_span 16 [.ref 121, .int a1, .int a2, w3, w4, w5] [.int s0, .ref 121] M r) : ∀ ls st M r, juX12_span_16 k ls st M = some r → sy_E d qX12_span 16 ls st M r := by
  intro ls st M r h
  obtain ⟨l, e, h1⟩ := sy_xc_ok h; subst e
  obtain ⟨a1, l, e, h2⟩ := sy_xi_ok h1; subst e
  obtain ⟨a2, l, e, h3⟩ := sy_xi_ok h2; subst e
  obtain ⟨w3, l, e, h4⟩ := sy_xv_ok h3; subst e
  obtain ⟨w4, l, e, h5⟩ := sy_xv_ok h4; subst e
  obtain ⟨w5, l, e, h6⟩ := sy_xv_ok h5; subst e
  obtain ⟨e, h7⟩ := sy_xn_ok h6; subst e
  obtain ⟨s0, l, e, h8⟩ := sy_xi_ok h7; subst e
  obtain ⟨l, e, h9⟩ := sy_xc_ok h8; subst e
  obtain ⟨e, h10⟩ := sy_xn_ok h9; subst e
  exact hk _ _ _ a1 a2 s0 M r h10
def jfX12_span_100 (k37 : Int32 → Int32 → Int32 → Int32 → sy_M → sy_O) (a1 : Int32) (a2 : Int32) (a4 : Int32) (s0 : Int32) (M : sy_M) : sy_O :=
  let v1 := a4 + 1
  k37 a1 a2 s0 v1 M
set_option maxRecDepth 100000 in
theorem jrX12_span_100 (k37 : Int32 → Int32 → Int32 → Int32 → sy_M → sy_O) (w3 : Value) (w5 : Value) (a1 : Int32) (a2 : Int32) (a4 : Int32) (s0 : Int32) (M : sy_M) : sy_run skX12 qX12_span [(100, .istore_n 3, 1, [true, true, true, false, true, false]), (101, .iinc 4 1, 3, []), (104, .goto (-67), 3, [])] [] [(37, juX12_span_37 k37)] 4 [] 100 [.ref 121, .int a1, .int a2, w3, .int a4, w5] [.int s0] M = jfX12_span_100 k37 a1 a2 a4 s0 M := rfl
theorem jtX12_span_100 {k37 : Int32 → Int32 → Int32 → Int32 → sy_M → sy_O} (hk37 : ∀ (w5 : Value) (a1 : Int32) (a2 : Int32) (a3 : Int32) (a4 : Int32) (M : sy_M) (r : xe_R × sy_M), k37 a1 a2 a3 a4 M = some r → sy_E (52) qX12_span 37 [.ref 121, .int a1, .int a2, .int a3, .int a4, w5] [] M r) : ∀ (w3 : Value) (w5 : Value) (a1 : Int32) (a2 : Int32) (a4 : Int32) (s0 : Int32) (M : sy_M) (r : xe_R × sy_M), jfX12_span_100 k37 a1 a2 a4 s0 M = some r → sy_E (52) qX12_span 100 [.ref 121, .int a1, .int a2, w3, .int a4, w5] [.int s0] M r := by
  intro w3 w5 a1 a2 a4 s0 M r h
  exact sy_run_by (d := 51) ((jrX12_span_100 _ _ _ _ _ _ _ M).trans h) hkX12 (by decide +kernel) sy_cs_nil (sy_us_cons (jwX12_span_37 hk37) sy_us_nil)
def jgX12_span_37 (k37 : Int32 → Int32 → Int32 → Int32 → sy_M → sy_O) (a1 : Int32) (a2 : Int32) (a3 : Int32) (a4 : Int32) (M : sy_M) : sy_O :=
  if 6 < a4 then
    sy_ri a3 M
  else
    let M1 := sy_upd M 122 13 a4
    sy_bi (jfX12_goes a1 1 M1) fun v3 M2 =>
    sy_bv (jfX12_comesBack M2) fun M4 =>
    if a3 = (-1) then
      jfX12_span_100 k37 a1 a2 a4 (M4 121 20) M4
    else
      if a2 = 0 then
        sy_bi (jfX12_lesser a3 (M4 121 20) M4) fun v6 M5 =>
        jfX12_span_100 k37 a1 a2 a4 v6 M5
      else
        sy_bi (jfX12_greater a3 (M4 121 20) M4) fun v8 M7 =>
        jfX12_span_100 k37 a1 a2 a4 v8 M7
def jfX12_span_37 : Nat → Int32 → Int32 → Int32 → Int32 → sy_M → sy_O
  | 0, _, _, _, _, _ => none
  | n + 1, a1, a2, a3, a4, M => jgX12_span_37 (jfX12_span_37 n) a1 a2 a3 a4 M
set_option maxRecDepth 100000 in
theorem jrX12_span_37 (k37 : Int32 → Int32 → Int32 → Int32 → sy_M → sy_O) (w5 : Value) (a1 : Int32) (a2 : Int32) (a3 : Int32) (a4 : Int32) (M : sy_M) : sy_run skX12 qX12_span [(37, .iload 4, 2, [true, true, true, true, true, false]), (39, .bipush 6, 2, []), (41, .if_icmp .gt 66, 3, []), (44, .aload_n 0, 1, []), (45, .getfield 7, 3, []), (48, .bipush 13, 2, []), (50, .iload 4, 2, []), (52, .iastore, 1, []), (53, .aload_n 0, 1, []), (54, .iload_n 1, 1, []), (55, .iconst 1, 1, []), (56, .invokevirtual 314, 3, []), (59, .istore 5, 2, []), (61, .aload_n 0, 1, []), (62, .invokevirtual 182, 3, []), (65, .iload_n 3, 1, []), (66, .iconst (-1), 1, []), (67, .if_icmp .ne 10, 3, []), (70, .aload_n 0, 1, []), (71, .getfield 250, 3, []), (74, .goto 26, 3, []), (77, .iload_n 2, 1, [true, true, true, true, true, false]), (78, .ifCond .eq 14, 3, []), (81, .iload_n 3, 1, []), (82, .aload_n 0, 1, []), (83, .getfield 250, 3, []), (86, .invokestatic 333, 3, []), (89, .goto 11, 3, []), (92, .iload_n 3, 1, [true, true, true, true, true, false]), (93, .aload_n 0, 1, []), (94, .getfield 250, 3, []), (97, .invokestatic 244, 3, []), (107, .iload_n 3, 1, [false, false, false, true, false, false]), (108, .ireturn, 1, [])] [(235, 0, jcX12_goes), (216, 1, jcX12_comesBack), (183, 0, jcX12_lesser), (184, 0, jcX12_greater)] [(100, juX12_span_100 (jfX12_span_100 k37))] 35 [] 37 [.ref 121, .int a1, .int a2, .int a3, .int a4, w5] [] M = jgX12_span_37 k37 a1 a2 a3 a4 M := rfl
theorem jtX12_span_37 : ∀ n : Nat, ∀ (w5 : Value) (a1 : Int32) (a2 : Int32) (a3 : Int32) (a4 : Int32) (M : sy_M) (r : xe_R × sy_M), jfX12_span_37 n a1 a2 a3 a4 M = some r → sy_E (52) qX12_span 37 [.ref 121, .int a1, .int a2, .int a3, .int a4, w5] [] M r := by
  intro n
  induction n with
  | zero => intro w5 a1 a2 a3 a4 M r h; exact absurd (show (none : sy_O) = some r from h) (by simp)
  | succ n ih => intro w5 a1 a2 a3 a4 M r h; exact sy_run_by (d := 51) ((jrX12_span_37 _ _ _ _ _ _ M).trans h) hkX12 (by decide +kernel) (sy_cs_cons (jeX12_goes.deep (by decide)) (sy_cs_cons (jeX12_comesBack.deep (by decide)) (sy_cs_cons (jeX12_lesser.deep (by decide)) (sy_cs_cons (jeX12_greater.deep (by decide)) sy_cs_nil)))) (sy_us_cons (jwX12_span_100 (jtX12_span_100 ih)) sy_us_nil)
def jfX12_span_16 (a1 : Int32) (a2 : Int32) (s0 : Int32) (M : sy_M) : sy_O :=
  let M1 := sy_upd M 121 0 s0
  if 0 < (M1 121 0) then
    sy_ri 0 M1
  else
    sy_bv (jfX12_putsAside M1) fun M2 =>
    jfX12_span_37 sy_F a1 a2 (-1) 1 M2
set_option maxRecDepth 100000 in
theorem jrX12_span_16 (w3 : Value) (w4 : Value) (w5 : Value) (a1 : Int32) (a2 : Int32) (s0 : Int32) (M : sy_M) : sy_run skX12 qX12_span [(16, .putfield 45, 3, [true, true, true, false, false, false]), (19, .aload_n 0, 1, []), (20, .getfield 45, 3, []), (23, .ifCond .le 5, 3, []), (26, .iconst 0, 1, []), (27, .ireturn, 1, []), (28, .aload_n 0, 1, [true, true, true, false, false, false]), (29, .invokevirtual 172, 3, []), (32, .iconst (-1), 1, []), (33, .istore_n 3, 1, []), (34, .iconst 1, 1, []), (35, .istore 4, 2, [])] [(215, 1, jcX12_putsAside)] [(37, juX12_span_37 (jfX12_span_37 sy_F))] 13 [] 16 [.ref 121, .int a1, .int a2, w3, w4, w5] [.int s0, .ref 121] M = jfX12_span_16 a1 a2 s0 M := rfl
theorem jtX12_span_16 : ∀ (w3 : Value) (w4 : Value) (w5 : Value) (a1 : Int32) (a2 : Int32) (s0 : Int32) (M : sy_M) (r : xe_R × sy_M), jfX12_span_16 a1 a2 s0 M = some r → sy_E (52) qX12_span 16 [.ref 121, .int a1, .int a2, w3, w4, w5] [.int s0, .ref 121] M r := by
  intro w3 w4 w5 a1 a2 s0 M r h
  exact sy_run_by (d := 51) ((jrX12_span_16 _ _ _ _ _ _ M).trans h) hkX12 (by decide +kernel) (sy_cs_cons (jeX12_putsAside.deep (by decide)) sy_cs_nil) (sy_us_cons (jwX12_span_37 (jtX12_span_37 sy_F)) sy_us_nil)
def jfX12_span (a1 : Int32) (a2 : Int32) (M : sy_M) : sy_O :=
  sy_bi (jfX12_isIn a1 0 96 M) fun v2 M1 =>
  if v2 = 0 then
    jfX12_span_16 a1 a2 1 M1
  else
    jfX12_span_16 a1 a2 0 M1
set_option maxRecDepth 100000 in
theorem jrX12_span (a1 : Int32) (a2 : Int32) (M : sy_M) : sy_run skX12 qX12_span [(0, .aload_n 0, 1, []), (1, .iload_n 1, 1, []), (2, .iconst 0, 1, []), (3, .bipush 96, 2, []), (5, .invokestatic 48, 3, []), (8, .ifCond .ne 7, 3, []), (11, .iconst 1, 1, []), (12, .goto 4, 3, []), (15, .iconst 0, 1, [true, true, true, false, false, false])] [(182, 0, jcX12_isIn)] [(16, juX12_span_16 (jfX12_span_16))] 10 [] 0 [.ref 121, .int a1, .int a2, xe_no, xe_no, xe_no] [] M = jfX12_span a1 a2 M := rfl
theorem jtX12_span : ∀ (a1 : Int32) (a2 : Int32) (M : sy_M) (r : xe_R × sy_M), jfX12_span a1 a2 M = some r → sy_E (52) qX12_span 0 [.ref 121, .int a1, .int a2, xe_no, xe_no, xe_no] [] M r := by
  intro a1 a2 M r h
  exact sy_run_by (d := 51) ((jrX12_span _ _ M).trans h) hkX12 (by decide +kernel) (sy_cs_cons (jeX12_isIn.deep (by decide)) sy_cs_nil) (sy_us_cons (jwX12_span_16 (jtX12_span_16)) sy_us_nil)
def jcX12_span (as : List Value) (M : sy_M) (K : sy_O → sy_O) : sy_O := sy_xc 121 as fun l => sy_xi l fun a1 l => sy_xi l fun a2 l => sy_xn l (K (jfX12_span a1 a2 M))
theorem jeX12_span : sy_snd (52) 312 (jcX12_span) := by
  intro as M K r h
  obtain ⟨l, e, h1⟩ := sy_xc_ok h; subst e
  obtain ⟨a1, l, e, h2⟩ := sy_xi_ok h1; subst e
  obtain ⟨a2, l, e, h3⟩ := sy_xi_ok h2; subst e
  obtain ⟨e, h4⟩ := sy_xn_ok h3; subst e
  exact ⟨_, h4, fun r1 h0 => ⟨qX12_span, rfl, rfl, jtX12_span _ _ M r1 h0⟩⟩
/-! X7_cell StairMeter$Log cell (II)I ['A', 'I', 'I'] -/
def juX7_cell_47 (k : Nat → Int32 → Int32 → sy_M → sy_O) (ls st : List Value) (M : sy_M) : sy_O := sy_xa ls fun r0 l => sy_xv l fun _ l => sy_xi l fun a2 l => sy_xv l fun _ l => sy_xv l fun _ l => sy_xn l (sy_xi st fun s0 l => sy_xn l (k r0 a2 s0 M))
theorem jwX7_cell_47 {d : Nat} {k : Nat → Int32 → Int32 → sy_M → sy_O} (hk : ∀ (w1 : Value) (w3 : Value) (w4 : Value) (r0 : Nat) (a2 : Int32) (s0 : Int32) (M : sy_M) (r : xe_R × sy_M), k r0 a2 s0 M = some r → sy_E (d) qX7_cell 47 [.ref r0, w1, .int a2, w3, w4] [.int s0] M r) : ∀ ls st M r, juX7_cell_47 k ls st M = some r → sy_E d qX7_cell 47 ls st M r := by
  intro ls st M r h
  obtain ⟨r0, l, e, h1⟩ := sy_xa_ok h; subst e
  obtain ⟨w1, l, e, h2⟩ := sy_xv_ok h1; subst e
  obtain ⟨a2, l, e, h3⟩ := sy_xi_ok h2; subst e
  obtain ⟨w3, l, e, h4⟩ := sy_xv_ok h3; subst e
  obtain ⟨w4, l, e, h5⟩ := sy_xv_ok h4; subst e
  obtain ⟨e, h6⟩ := sy_xn_ok h5; subst e
  obtain ⟨s0, l, e, h7⟩ := sy_xi_ok h6; subst e
  obtain ⟨e, h8⟩ := sy_xn_ok h7; subst e
  exact hk _ _ _ r0 a2 s0 M r h8
def jfX7_cell_47 (r0 : Nat) (a2 : Int32) (s0 : Int32) (M : sy_M) : sy_O :=
  let v1 := ((s0 * 5) + a2)
  if v1 < 0 then
    sy_ri (-2) M
  else
    sy_bs (sy_is 6 r0) <|
    sy_bb (sy_ia (r0 + 1) || Nat.beq (r0 + 1) 1000000) <|
    if v1 < (Nat.toInt32 (sy_len M (r0 + 1))) then
      sy_bs (sy_is 6 r0) <|
      sy_bx (xe_in v1 (sy_len M (r0 + 1))) <|
      sy_ri (M (r0 + 1) (Int32.toNatClampNeg v1)) M
    else
      sy_ri (-2) M
set_option maxRecDepth 100000 in
theorem jrX7_cell_47 (w1 : Value) (w3 : Value) (w4 : Value) (r0 : Nat) (a2 : Int32) (s0 : Int32) (M : sy_M) : sy_run skX7 qX7_cell [(47, .iconst 5, 1, [true, false, true, false, false]), (48, .imul, 1, []), (49, .iload_n 2, 1, []), (50, .iadd, 1, []), (51, .istore 4, 2, []), (53, .iload 4, 2, []), (55, .ifCond .lt 23, 3, []), (58, .iload 4, 2, []), (60, .aload_n 0, 1, []), (61, .getfield 24, 3, []), (64, .arraylength, 1, []), (65, .if_icmp .ge 13, 3, []), (68, .aload_n 0, 1, []), (69, .getfield 24, 3, []), (72, .iload 4, 2, []), (74, .iaload, 1, []), (75, .goto 5, 3, []), (78, .bipush (-2), 2, [false, false, false, false, false]), (80, .ireturn, 1, [false, false, false, false, false])] [] [] 20 [] 47 [.ref r0, w1, .int a2, w3, w4] [.int s0] M = jfX7_cell_47 r0 a2 s0 M := rfl
theorem jtX7_cell_47 : ∀ (w1 : Value) (w3 : Value) (w4 : Value) (r0 : Nat) (a2 : Int32) (s0 : Int32) (M : sy_M) (r : xe_R × sy_M), jfX7_cell_47 r0 a2 s0 M = some r → sy_E (1) qX7_cell 47 [.ref r0, w1, .int a2, w3, w4] [.int s0] M r := by
  intro w1 w3 w4 r0 a2 s0 M r h
  exact sy_run_by (d := 0) ((jrX7_cell_47 _ _ _ _ _ _ M).trans h) hkX7 (by decide +kernel) sy_cs_nil sy_us_nil
def jfX7_cell (r0 : Nat) (a1 : Int32) (a2 : Int32) (M : sy_M) : sy_O :=
  if a1 < 0 then
    sy_ri (-2) M
  else
    sy_bs (sy_is 6 r0) <|
    if a1 < (M r0 2) then
      if a2 < 0 then
        sy_ri (-2) M
      else
        if a2 < 5 then
          sy_bs (sy_is 6 r0) <|
          let v1 := (((M r0 3) - 1) - a1)
          if v1 < 0 then
            sy_bs (sy_is 6 r0) <|
            jfX7_cell_47 r0 a2 (v1 + (M r0 0)) M
          else
            jfX7_cell_47 r0 a2 v1 M
        else
          sy_ri (-2) M
    else
      sy_ri (-2) M
set_option maxRecDepth 100000 in
theorem jrX7_cell (r0 : Nat) (a1 : Int32) (a2 : Int32) (M : sy_M) : sy_run skX7 qX7_cell [(0, .iload_n 1, 1, []), (1, .ifCond .lt 20, 3, []), (4, .iload_n 1, 1, []), (5, .aload_n 0, 1, []), (6, .getfield 28, 3, []), (9, .if_icmp .ge 12, 3, []), (12, .iload_n 2, 1, []), (13, .ifCond .lt 8, 3, []), (16, .iload_n 2, 1, []), (17, .iconst 5, 1, []), (18, .if_icmp .lt 6, 3, []), (21, .bipush (-2), 2, [false, false, false, false, false]), (23, .ireturn, 1, []), (24, .aload_n 0, 1, [true, true, true, false, false]), (25, .getfield 31, 3, []), (28, .iconst 1, 1, []), (29, .isub, 1, []), (30, .iload_n 1, 1, []), (31, .isub, 1, []), (32, .istore_n 3, 1, []), (33, .iload_n 3, 1, []), (34, .ifCond .ge 12, 3, []), (37, .iload_n 3, 1, []), (38, .aload_n 0, 1, []), (39, .getfield 18, 3, []), (42, .iadd, 1, []), (43, .goto 4, 3, []), (46, .iload_n 3, 1, [true, false, true, true, false])] [] [(47, juX7_cell_47 (jfX7_cell_47))] 29 [] 0 [.ref r0, .int a1, .int a2, xe_no, xe_no] [] M = jfX7_cell r0 a1 a2 M := rfl
theorem jtX7_cell : ∀ (r0 : Nat) (a1 : Int32) (a2 : Int32) (M : sy_M) (r : xe_R × sy_M), jfX7_cell r0 a1 a2 M = some r → sy_E (1) qX7_cell 0 [.ref r0, .int a1, .int a2, xe_no, xe_no] [] M r := by
  intro r0 a1 a2 M r h
  exact sy_run_by (d := 0) ((jrX7_cell _ _ _ M).trans h) hkX7 (by decide +kernel) sy_cs_nil (sy_us_cons (jwX7_cell_47 (jtX7_cell_47)) sy_us_nil)
def jcX7_cell (as : List Value) (M : sy_M) (K : sy_O → sy_O) : sy_O := sy_xa as fun r0 l => sy_xi l fun a1 l => sy_xi l fun a2 l => sy_xn l (K (jfX7_cell r0 a1 a2 M))
theorem jeX7_cell : sy_snd (1) 61 (jcX7_cell) := by
  intro as M K r h
  obtain ⟨r0, l, e, h1⟩ := sy_xa_ok h; subst e
  obtain ⟨a1, l, e, h2⟩ := sy_xi_ok h1; subst e
  obtain ⟨a2, l, e, h3⟩ := sy_xi_ok h2; subst e
  obtain ⟨e, h4⟩ := sy_xn_ok h3; subst e
  exact ⟨_, h4, fun r1 h0 => ⟨qX7_cell, rfl, rfl, jtX7_cell _ _ _ M r1 h0⟩⟩
/-! X11_led StairMeter led (IZ)I [('R', 0), 'I', 'I'] -/
def juX11_led_70 (k : Int32 → Int32 → Int32 → Int32 → Int32 → sy_M → sy_O) (ls st : List Value) (M : sy_M) : sy_O := sy_xc 0 ls fun l => sy_xi l fun a1 l => sy_xi l fun a2 l => sy_xi l fun a3 l => sy_xi l fun a4 l => sy_xi l fun a5 l => sy_xn l (sy_xn st (k a1 a2 a3 a4 a5 M))
theorem jwX11_led_70 {d : Nat} {k : Int32 → Int32 → Int32 → Int32 → Int32 → sy_M → sy_O} (hk : ∀ (a1 : Int32) (a2 : Int32) (a3 : Int32) (a4 : Int32) (a5 : Int32) (M : sy_M) (r : xe_R × sy_M), k a1 a2 a3 a4 a5 M = some r → sy_E (d) qX11_led 70 [.ref 0, .int a1, .int a2, .int a3, .int a4, .int a5] [] M r) : ∀ ls st M r, juX11_led_70 k ls st M = some r → sy_E d qX11_led 70 ls st M r := by
  intro ls st M r h
  obtain ⟨l, e, h1⟩ := sy_xc_ok h; subst e
  obtain ⟨a1, l, e, h2⟩ := sy_xi_ok h1; subst e
  obtain ⟨a2, l, e, h3⟩ := sy_xi_ok h2; subst e
  obtain ⟨a3, l, e, h4⟩ := sy_xi_ok h3; subst e
  obtain ⟨a4, l, e, h5⟩ := sy_xi_ok h4; subst e
  obtain ⟨a5, l, e, h6⟩ := sy_xi_ok h5; subst e
  obtain ⟨e, h7⟩ := sy_xn_ok h6; subst e
  obtain ⟨e, h8⟩ := sy_xn_ok h7; subst e
  exact hk a1 a2 a3 a4 a5 M r h8
def juX11_led_67 (k : Int32 → Int32 → Int32 → Int32 → Int32 → sy_M → sy_O) (ls st : List Value) (M : sy_M) : sy_O := sy_xc 0 ls fun l => sy_xi l fun a1 l => sy_xi l fun a2 l => sy_xi l fun a3 l => sy_xi l fun a4 l => sy_xi l fun a5 l => sy_xn l (sy_xn st (k a1 a2 a3 a4 a5 M))
theorem jwX11_led_67 {d : Nat} {k : Int32 → Int32 → Int32 → Int32 → Int32 → sy_M → sy_O} (hk : ∀ (a1 : Int32) (a2 : Int32) (a3 : Int32) (a4 : Int32) (a5 : Int32) (M : sy_M) (r : xe_R × sy_M), k a1 a2 a3 a4 a5 M = some r → sy_E (d) qX11_led 67 [.ref 0, .int a1, .int a2, .int a3, .int a4, .int a5] [] M r) : ∀ ls st M r, juX11_led_67 k ls st M = some r → sy_E d qX11_led 67 ls st M r := by
  intro ls st M r h
  obtain ⟨l, e, h1⟩ := sy_xc_ok h; subst e
  obtain ⟨a1, l, e, h2⟩ := sy_xi_ok h1; subst e
  obtain ⟨a2, l, e, h3⟩ := sy_xi_ok h2; subst e
  obtain ⟨a3, l, e, h4⟩ := sy_xi_ok h3; subst e
  obtain ⟨a4, l, e, h5⟩ := sy_xi_ok h4; subst e
  obtain ⟨a5, l, e, h6⟩ := sy_xi_ok h5; subst e
  obtain ⟨e, h7⟩ := sy_xn_ok h6; subst e
  obtain ⟨e, h8⟩ := sy_xn_ok h7; subst e
  exact hk a1 a2 a3 a4 a5 M r h8
def juX11_led_13 (k : Int32 → Int32 → Int32 → Int32 → Int32 → sy_M → sy_O) (ls st : List Value) (M : sy_M) : sy_O := sy_xc 0 ls fun l => sy_xi l fun a1 l => sy_xi l fun a2 l => sy_xi l fun a3 l => sy_xi l fun a4 l => sy_xi l fun a5 l => sy_xn l (sy_xn st (k a1 a2 a3 a4 a5 M))
theorem jwX11_led_13 {d : Nat} {k : Int32 → Int32 → Int32 → Int32 → Int32 → sy_M → sy_O} (hk : ∀ (a1 : Int32) (a2 : Int32) (a3 : Int32) (a4 : Int32) (a5 : Int32) (M : sy_M) (r : xe_R × sy_M), k a1 a2 a3 a4 a5 M = some r → sy_E (d) qX11_led 13 [.ref 0, .int a1, .int a2, .int a3, .int a4, .int a5] [] M r) : ∀ ls st M r, juX11_led_13 k ls st M = some r → sy_E d qX11_led 13 ls st M r := by
  intro ls st M r h
  obtain ⟨l, e, h1⟩ := sy_xc_ok h; subst e
  obtain ⟨a1, l, e, h2⟩ := sy_xi_ok h1; subst e
  obtain ⟨a2, l, e, h3⟩ := sy_xi_ok h2; subst e
  obtain ⟨a3, l, e, h4⟩ := sy_xi_ok h3; subst e
  obtain ⟨a4, l, e, h5⟩ := sy_xi_ok h4; subst e
  obtain ⟨a5, l, e, h6⟩ := sy_xi_ok h5; subst e
  obtain ⟨e, h7⟩ := sy_xn_ok h6; subst e
  obtain ⟨e, h8⟩ := sy_xn_ok h7; subst e
  exact hk a1 a2 a3 a4 a5 M r h8
def jfX11_led_70 (k13 : Int32 → Int32 → Int32 → Int32 → Int32 → sy_M → sy_O) (a1 : Int32) (a2 : Int32) (a3 : Int32) (a4 : Int32) (a5 : Int32) (M : sy_M) : sy_O :=
  let v1 := a5 + 1
  k13 a1 a2 a3 a4 v1 M
set_option maxRecDepth 100000 in
theorem jrX11_led_70 (k13 : Int32 → Int32 → Int32 → Int32 → Int32 → sy_M → sy_O) (a1 : Int32) (a2 : Int32) (a3 : Int32) (a4 : Int32) (a5 : Int32) (M : sy_M) : sy_run skX11 qX11_led [(70, .iinc 5 1, 3, []), (73, .goto (-60), 3, [])] [] [(13, juX11_led_13 k13)] 3 [] 70 [.ref 0, .int a1, .int a2, .int a3, .int a4, .int a5] [] M = jfX11_led_70 k13 a1 a2 a3 a4 a5 M := rfl
theorem jtX11_led_70 {k13 : Int32 → Int32 → Int32 → Int32 → Int32 → sy_M → sy_O} (hk13 : ∀ (a1 : Int32) (a2 : Int32) (a3 : Int32) (a4 : Int32) (a5 : Int32) (M : sy_M) (r : xe_R × sy_M), k13 a1 a2 a3 a4 a5 M = some r → sy_E (2) qX11_led 13 [.ref 0, .int a1, .int a2, .int a3, .int a4, .int a5] [] M r) : ∀ (a1 : Int32) (a2 : Int32) (a3 : Int32) (a4 : Int32) (a5 : Int32) (M : sy_M) (r : xe_R × sy_M), jfX11_led_70 k13 a1 a2 a3 a4 a5 M = some r → sy_E (2) qX11_led 70 [.ref 0, .int a1, .int a2, .int a3, .int a4, .int a5] [] M r := by
  intro a1 a2 a3 a4 a5 M r h
  exact sy_run_by (d := 1) ((jrX11_led_70 _ _ _ _ _ _ M).trans h) hkX11 (by decide +kernel) sy_cs_nil (sy_us_cons (jwX11_led_13 hk13) sy_us_nil)
def jfX11_led_67 (k13 : Int32 → Int32 → Int32 → Int32 → Int32 → sy_M → sy_O) (a1 : Int32) (a2 : Int32) (a3 : Int32) (a4 : Int32) (a5 : Int32) (M : sy_M) : sy_O :=
  let v1 := a3 + 1
  jfX11_led_70 k13 a1 a2 v1 a4 a5 M
set_option maxRecDepth 100000 in
theorem jrX11_led_67 (k13 : Int32 → Int32 → Int32 → Int32 → Int32 → sy_M → sy_O) (a1 : Int32) (a2 : Int32) (a3 : Int32) (a4 : Int32) (a5 : Int32) (M : sy_M) : sy_run skX11 qX11_led [(67, .iinc 3 1, 3, [])] [] [(70, juX11_led_70 (jfX11_led_70 k13))] 2 [] 67 [.ref 0, .int a1, .int a2, .int a3, .int a4, .int a5] [] M = jfX11_led_67 k13 a1 a2 a3 a4 a5 M := rfl
theorem jtX11_led_67 {k13 : Int32 → Int32 → Int32 → Int32 → Int32 → sy_M → sy_O} (hk13 : ∀ (a1 : Int32) (a2 : Int32) (a3 : Int32) (a4 : Int32) (a5 : Int32) (M : sy_M) (r : xe_R × sy_M), k13 a1 a2 a3 a4 a5 M = some r → sy_E (2) qX11_led 13 [.ref 0, .int a1, .int a2, .int a3, .int a4, .int a5] [] M r) : ∀ (a1 : Int32) (a2 : Int32) (a3 : Int32) (a4 : Int32) (a5 : Int32) (M : sy_M) (r : xe_R × sy_M), jfX11_led_67 k13 a1 a2 a3 a4 a5 M = some r → sy_E (2) qX11_led 67 [.ref 0, .int a1, .int a2, .int a3, .int a4, .int a5] [] M r := by
  intro a1 a2 a3 a4 a5 M r h
  exact sy_run_by (d := 1) ((jrX11_led_67 _ _ _ _ _ _ M).trans h) hkX11 (by decide +kernel) sy_cs_nil (sy_us_cons (jwX11_led_70 (jtX11_led_70 hk13)) sy_us_nil)
def jgX11_led_13 (k13 : Int32 → Int32 → Int32 → Int32 → Int32 → sy_M → sy_O) (a1 : Int32) (a2 : Int32) (a3 : Int32) (a4 : Int32) (a5 : Int32) (M : sy_M) : sy_O :=
  if a5 < (M 12 2) then
    sy_bi (jfX7_cell 12 a5 3 M) fun v2 M1 =>
    if v2 = a1 then
      if a3 = 0 then
        sy_bi (jfX7_cell 12 a5 1 M1) fun v4 M3 =>
        jfX11_led_67 k13 a1 a2 a3 v4 a5 M3
      else
        jfX11_led_67 k13 a1 a2 a3 a4 a5 M1
    else
      jfX11_led_70 k13 a1 a2 a3 a4 a5 M1
  else
    if a2 = 0 then
      sy_ri a3 M
    else
      sy_ri a4 M
def jfX11_led_13 : Nat → Int32 → Int32 → Int32 → Int32 → Int32 → sy_M → sy_O
  | 0, _, _, _, _, _, _ => none
  | n + 1, a1, a2, a3, a4, a5, M => jgX11_led_13 (jfX11_led_13 n) a1 a2 a3 a4 a5 M
set_option maxRecDepth 100000 in
theorem jrX11_led_13 (k13 : Int32 → Int32 → Int32 → Int32 → Int32 → sy_M → sy_O) (a1 : Int32) (a2 : Int32) (a3 : Int32) (a4 : Int32) (a5 : Int32) (M : sy_M) : sy_run skX11 qX11_led [(13, .iload 5, 2, []), (15, .aload_n 0, 1, []), (16, .getfield 28, 3, []), (19, .getfield 233, 3, []), (22, .getfield 237, 3, []), (25, .if_icmp .ge 51, 3, []), (28, .aload_n 0, 1, []), (29, .getfield 28, 3, []), (32, .getfield 233, 3, []), (35, .iload 5, 2, []), (37, .iconst 3, 1, []), (38, .invokevirtual 406, 3, []), (41, .iload_n 1, 1, []), (42, .if_icmp .eq 6, 3, []), (45, .goto 25, 3, []), (48, .iload_n 3, 1, []), (49, .ifCond .ne 18, 3, []), (52, .aload_n 0, 1, []), (53, .getfield 28, 3, []), (56, .getfield 233, 3, []), (59, .iload 5, 2, []), (61, .iconst 1, 1, []), (62, .invokevirtual 406, 3, []), (65, .istore 4, 2, []), (76, .iload_n 2, 1, [false, false, true, true, true, false]), (77, .ifCond .eq 8, 3, []), (80, .iload 4, 2, []), (82, .goto 4, 3, []), (85, .iload_n 3, 1, [false, false, false, true, false, false]), (86, .ireturn, 1, [false, false, false, false, false, false])] [(61, 0, jcX7_cell)] [(67, juX11_led_67 (jfX11_led_67 k13)), (70, juX11_led_70 (jfX11_led_70 k13))] 31 [] 13 [.ref 0, .int a1, .int a2, .int a3, .int a4, .int a5] [] M = jgX11_led_13 k13 a1 a2 a3 a4 a5 M := rfl
theorem jtX11_led_13 : ∀ n : Nat, ∀ (a1 : Int32) (a2 : Int32) (a3 : Int32) (a4 : Int32) (a5 : Int32) (M : sy_M) (r : xe_R × sy_M), jfX11_led_13 n a1 a2 a3 a4 a5 M = some r → sy_E (2) qX11_led 13 [.ref 0, .int a1, .int a2, .int a3, .int a4, .int a5] [] M r := by
  intro n
  induction n with
  | zero => intro a1 a2 a3 a4 a5 M r h; exact absurd (show (none : sy_O) = some r from h) (by simp)
  | succ n ih => intro a1 a2 a3 a4 a5 M r h; exact sy_run_by (d := 1) ((jrX11_led_13 _ _ _ _ _ _ M).trans h) hkX11 (by decide +kernel) (sy_cs_cons (jeX7_cell.deep (by decide)) sy_cs_nil) (sy_us_cons (jwX11_led_67 (jtX11_led_67 ih)) (sy_us_cons (jwX11_led_70 (jtX11_led_70 ih)) sy_us_nil))
def jfX11_led (a1 : Int32) (a2 : Int32) (M : sy_M) : sy_O :=
  sy_bv (jfX11_checkLodger a1 M) fun M1 =>
  jfX11_led_13 sy_F a1 a2 0 (-1) 0 M1
set_option maxRecDepth 100000 in
theorem jrX11_led (a1 : Int32) (a2 : Int32) (M : sy_M) : sy_run skX11 qX11_led [(0, .aload_n 0, 1, []), (1, .iload_n 1, 1, []), (2, .invokevirtual 149, 3, []), (5, .iconst 0, 1, []), (6, .istore_n 3, 1, []), (7, .iconst (-1), 1, []), (8, .istore 4, 2, []), (10, .iconst 0, 1, []), (11, .istore 5, 2, [])] [(176, 1, jcX11_checkLodger)] [(13, juX11_led_13 (jfX11_led_13 sy_F))] 10 [] 0 [.ref 0, .int a1, .int a2, xe_no, xe_no, xe_no] [] M = jfX11_led a1 a2 M := rfl
theorem jtX11_led : ∀ (a1 : Int32) (a2 : Int32) (M : sy_M) (r : xe_R × sy_M), jfX11_led a1 a2 M = some r → sy_E (2) qX11_led 0 [.ref 0, .int a1, .int a2, xe_no, xe_no, xe_no] [] M r := by
  intro a1 a2 M r h
  exact sy_run_by (d := 1) ((jrX11_led _ _ M).trans h) hkX11 (by decide +kernel) (sy_cs_cons (jeX11_checkLodger.deep (by decide)) sy_cs_nil) (sy_us_cons (jwX11_led_13 (jtX11_led_13 sy_F)) sy_us_nil)
def jcX11_led (as : List Value) (M : sy_M) (K : sy_O → sy_O) : sy_O := sy_xc 0 as fun l => sy_xi l fun a1 l => sy_xi l fun a2 l => sy_xn l (K (jfX11_led a1 a2 M))
theorem jeX11_led : sy_snd (2) 169 (jcX11_led) := by
  intro as M K r h
  obtain ⟨l, e, h1⟩ := sy_xc_ok h; subst e
  obtain ⟨a1, l, e, h2⟩ := sy_xi_ok h1; subst e
  obtain ⟨a2, l, e, h3⟩ := sy_xi_ok h2; subst e
  obtain ⟨e, h4⟩ := sy_xn_ok h3; subst e
  exact ⟨_, h4, fun r1 h0 => ⟨qX11_led, rfl, rfl, jtX11_led _ _ M r1 h0⟩⟩
/-! L_led StairMeterLaw led (LStairMeter;IZ[J)I [('R', 0), 'I', 'I', ('R', 132)] -/
def jfL_led (a1 : Int32) (a2 : Int32) (M : sy_M) : sy_O :=
  sy_hi (jfX11_led a1 a2 M) (fun v2 M1 =>
    let M5 := sy_wl M1 132 0 (Int32.toInt64 v2)
    sy_ri 0 M5)
  (fun c3 M4 => if c3 = 22 then sy_ri 1 M4 else none)
set_option maxRecDepth 100000 in
theorem jrL_led (a1 : Int32) (a2 : Int32) (M : sy_M) : sy_run skL qL_led [(0, .aload_n 3, 1, []), (1, .iconst 0, 1, []), (2, .aload_n 0, 1, []), (3, .iload_n 1, 1, []), (4, .iload_n 2, 1, []), (5, .invokevirtual 129, 3, []), (8, .i2l, 1, []), (9, .lastore, 1, []), (10, .goto 7, 3, []), (13, .astore 4, 2, [false, false, false, false, false]), (15, .iconst 1, 1, []), (16, .ireturn, 1, []), (17, .iconst 0, 1, [false, false, false, false, false]), (18, .ireturn, 1, [])] [(169, 3, jcX11_led)] [] 15 [] 0 [.ref 0, .int a1, .int a2, .ref 132, xe_no] [] M = jfL_led a1 a2 M := rfl
theorem jtL_led : ∀ (a1 : Int32) (a2 : Int32) (M : sy_M) (r : xe_R × sy_M), jfL_led a1 a2 M = some r → sy_E (3) qL_led 0 [.ref 0, .int a1, .int a2, .ref 132, xe_no] [] M r := by
  intro a1 a2 M r h
  exact sy_run_by (d := 2) ((jrL_led _ _ M).trans h) hkL (by decide +kernel) (sy_cs_cons (jeX11_led.deep (by decide)) sy_cs_nil) sy_us_nil
def jcL_led (as : List Value) (M : sy_M) (K : sy_O → sy_O) : sy_O := sy_xc 0 as fun l => sy_xi l fun a1 l => sy_xi l fun a2 l => sy_xc 132 l fun l => sy_xn l (K (jfL_led a1 a2 M))
theorem jeL_led : sy_snd (3) 355 (jcL_led) := by
  intro as M K r h
  obtain ⟨l, e, h1⟩ := sy_xc_ok h; subst e
  obtain ⟨a1, l, e, h2⟩ := sy_xi_ok h1; subst e
  obtain ⟨a2, l, e, h3⟩ := sy_xi_ok h2; subst e
  obtain ⟨l, e, h4⟩ := sy_xc_ok h3; subst e
  obtain ⟨e, h5⟩ := sy_xn_ok h4; subst e
  exact ⟨_, h5, fun r1 h0 => ⟨qL_led, rfl, rfl, jtL_led _ _ M r1 h0⟩⟩
/-! X12_logged StairMeterModel logged (II)I [('R', 121), 'I', 'I'] -/
def jfX12_logged (a1 : Int32) (a2 : Int32) (M : sy_M) : sy_O :=
  sy_bx (xe_in ((126 + (5 * a1)) + a2) 826) <|
  sy_ri (M 122 (Int32.toNatClampNeg ((126 + (5 * a1)) + a2))) M
set_option maxRecDepth 100000 in
theorem jrX12_logged (a1 : Int32) (a2 : Int32) (M : sy_M) : sy_run skX12 qX12_logged [(0, .aload_n 0, 1, []), (1, .getfield 7, 3, []), (4, .bipush 126, 2, []), (6, .iconst 5, 1, []), (7, .iload_n 1, 1, []), (8, .imul, 1, []), (9, .iadd, 1, []), (10, .iload_n 2, 1, []), (11, .iadd, 1, []), (12, .iaload, 1, []), (13, .ireturn, 1, [])] [] [] 12 [] 0 [.ref 121, .int a1, .int a2] [] M = jfX12_logged a1 a2 M := rfl
theorem jtX12_logged : ∀ (a1 : Int32) (a2 : Int32) (M : sy_M) (r : xe_R × sy_M), jfX12_logged a1 a2 M = some r → sy_E (1) qX12_logged 0 [.ref 121, .int a1, .int a2] [] M r := by
  intro a1 a2 M r h
  exact sy_run_by (d := 0) ((jrX12_logged _ _ M).trans h) hkX12 (by decide +kernel) sy_cs_nil sy_us_nil
def jcX12_logged (as : List Value) (M : sy_M) (K : sy_O → sy_O) : sy_O := sy_xc 121 as fun l => sy_xi l fun a1 l => sy_xi l fun a2 l => sy_xn l (K (jfX12_logged a1 a2 M))
theorem jeX12_logged : sy_snd (1) 313 (jcX12_logged) := by
  intro as M K r h
  obtain ⟨l, e, h1⟩ := sy_xc_ok h; subst e
  obtain ⟨a1, l, e, h2⟩ := sy_xi_ok h1; subst e
  obtain ⟨a2, l, e, h3⟩ := sy_xi_ok h2; subst e
  obtain ⟨e, h4⟩ := sy_xn_ok h3; subst e
  exact ⟨_, h4, fun r1 h0 => ⟨qX12_logged, rfl, rfl, jtX12_logged _ _ M r1 h0⟩⟩
/-! X12_led StairMeterModel led (IZ)I [('R', 121), 'I', 'I'] -/
def juX12_led_73 (k : Int32 → Int32 → Int32 → Int32 → Int32 → sy_M → sy_O) (ls st : List Value) (M : sy_M) : sy_O := sy_xc 121 ls fun l => sy_xi l fun a1 l => sy_xi l fun a2 l => sy_xi l fun a3 l => sy_xi l fun a4 l => sy_xi l fun a5 l => sy_xn l (sy_xn st (k a1 a2 a3 a4 a5 M))
theorem jwX12_led_73 {d : Nat} {k : Int32 → Int32 → Int32 → Int32 → Int32 → sy_M → sy_O} (hk : ∀ (a1 : Int32) (a2 : Int32) (a3 : Int32) (a4 : Int32) (a5 : Int32) (M : sy_M) (r : xe_R × sy_M), k a1 a2 a3 a4 a5 M = some r → sy_E (d) qX12_led 73 [.ref 121, .int a1, .int a2, .int a3, .int a4, .int a5] [] M r) : ∀ ls st M r, juX12_led_73 k ls st M = some r → sy_E d qX12_led 73 ls st M r := by
  intro ls st M r h
  obtain ⟨l, e, h1⟩ := sy_xc_ok h; subst e
  obtain ⟨a1, l, e, h2⟩ := sy_xi_ok h1; subst e
  obtain ⟨a2, l, e, h3⟩ := sy_xi_ok h2; subst e
  obtain ⟨a3, l, e, h4⟩ := sy_xi_ok h3; subst e
  obtain ⟨a4, l, e, h5⟩ := sy_xi_ok h4; subst e
  obtain ⟨a5, l, e, h6⟩ := sy_xi_ok h5; subst e
  obtain ⟨e, h7⟩ := sy_xn_ok h6; subst e
  obtain ⟨e, h8⟩ := sy_xn_ok h7; subst e
  exact hk a1 a2 a3 a4 a5 M r h8
def juX12_led_42 (k : Int32 → Int32 → Int32 → Int32 → Int32 → sy_M → sy_O) (ls st : List Value) (M : sy_M) : sy_O := sy_xc 121 ls fun l => sy_xi l fun a1 l => sy_xi l fun a2 l => sy_xi l fun a3 l => sy_xi l fun a4 l => sy_xi l fun a5 l => sy_xn l (sy_xn st (k a1 a2 a3 a4 a5 M))
theorem jwX12_led_42 {d : Nat} {k : Int32 → Int32 → Int32 → Int32 → Int32 → sy_M → sy_O} (hk : ∀ (a1 : Int32) (a2 : Int32) (a3 : Int32) (a4 : Int32) (a5 : Int32) (M : sy_M) (r : xe_R × sy_M), k a1 a2 a3 a4 a5 M = some r → sy_E (d) qX12_led 42 [.ref 121, .int a1, .int a2, .int a3, .int a4, .int a5] [] M r) : ∀ ls st M r, juX12_led_42 k ls st M = some r → sy_E d qX12_led 42 ls st M r := by
  intro ls st M r h
  obtain ⟨l, e, h1⟩ := sy_xc_ok h; subst e
  obtain ⟨a1, l, e, h2⟩ := sy_xi_ok h1; subst e
  obtain ⟨a2, l, e, h3⟩ := sy_xi_ok h2; subst e
  obtain ⟨a3, l, e, h4⟩ := sy_xi_ok h3; subst e
  obtain ⟨a4, l, e, h5⟩ := sy_xi_ok h4; subst e
  obtain ⟨a5, l, e, h6⟩ := sy_xi_ok h5; subst e
  obtain ⟨e, h7⟩ := sy_xn_ok h6; subst e
  obtain ⟨e, h8⟩ := sy_xn_ok h7; subst e
  exact hk a1 a2 a3 a4 a5 M r h8
def juX12_led_14 (k : Int32 → Int32 → Int32 → sy_M → sy_O) (ls st : List Value) (M : sy_M) : sy_O := sy_xc 121 ls fun l => sy_xi l fun a1 l => sy_xi l fun a2 l => sy_xv l fun _ l => sy_xv l fun _ l => sy_xv l fun _ l => sy_xn l (sy_xi st fun s0 l => sy_xc 121 l fun l => sy_xn l (k a1 a2 s0 M))
theorem jwX12_led_14 {d : Nat} {k : Int32 → Int32 → Int32 → sy_M → sy_O} (hk : ∀ (w3 : Value) (w4 : Value) (w5 : Value) (a1 : Int32) (a2 : Int32) (s0 : Int32) (M : sy_M) (r : xe_R × sy_M), k a1 a2 s0 M = some r → sy_E (d) qX12_led 14 [.ref 121, .int a1, .int a2, w3, w4, w5] [.int s0, .ref 121] M r) : ∀ ls st M r, juX12_led_14 k ls st M = some r → sy_E d qX12_led 14 ls st M r := by
  intro ls st M r h
  obtain ⟨l, e, h1⟩ := sy_xc_ok h; subst e
  obtain ⟨a1, l, e, h2⟩ := sy_xi_ok h1; subst e
  obtain ⟨a2, l, e, h3⟩ := sy_xi_ok h2; subst e
  obtain ⟨w3, l, e, h4⟩ := sy_xv_ok h3; subst e
  obtain ⟨w4, l, e, h5⟩ := sy_xv_ok h4; subst e
  obtain ⟨w5, l, e, h6⟩ := sy_xv_ok h5; subst e
  obtain ⟨e, h7⟩ := sy_xn_ok h6; subst e
  obtain ⟨s0, l, e, h8⟩ := sy_xi_ok h7; subst e
  obtain ⟨l, e, h9⟩ := sy_xc_ok h8; subst e
  obtain ⟨e, h10⟩ := sy_xn_ok h9; subst e
  exact hk _ _ _ a1 a2 s0 M r h10
def jfX12_led_73 (k42 : Int32 → Int32 → Int32 → Int32 → Int32 → sy_M → sy_O) (a1 : Int32) (a2 : Int32) (a3 : Int32) (a4 : Int32) (a5 : Int32) (M : sy_M) : sy_O :=
  let v1 := a5 + (-1)
  k42 a1 a2 a3 a4 v1 M
set_option maxRecDepth 100000 in
theorem jrX12_led_73 (k42 : Int32 → Int32 → Int32 → Int32 → Int32 → sy_M → sy_O) (a1 : Int32) (a2 : Int32) (a3 : Int32) (a4 : Int32) (a5 : Int32) (M : sy_M) : sy_run skX12 qX12_led [(73, .iinc 5 (-1), 3, []), (76, .goto (-34), 3, [])] [] [(42, juX12_led_42 k42)] 3 [] 73 [.ref 121, .int a1, .int a2, .int a3, .int a4, .int a5] [] M = jfX12_led_73 k42 a1 a2 a3 a4 a5 M := rfl
theorem jtX12_led_73 {k42 : Int32 → Int32 → Int32 → Int32 → Int32 → sy_M → sy_O} (hk42 : ∀ (a1 : Int32) (a2 : Int32) (a3 : Int32) (a4 : Int32) (a5 : Int32) (M : sy_M) (r : xe_R × sy_M), k42 a1 a2 a3 a4 a5 M = some r → sy_E (3) qX12_led 42 [.ref 121, .int a1, .int a2, .int a3, .int a4, .int a5] [] M r) : ∀ (a1 : Int32) (a2 : Int32) (a3 : Int32) (a4 : Int32) (a5 : Int32) (M : sy_M) (r : xe_R × sy_M), jfX12_led_73 k42 a1 a2 a3 a4 a5 M = some r → sy_E (3) qX12_led 73 [.ref 121, .int a1, .int a2, .int a3, .int a4, .int a5] [] M r := by
  intro a1 a2 a3 a4 a5 M r h
  exact sy_run_by (d := 2) ((jrX12_led_73 _ _ _ _ _ _ M).trans h) hkX12 (by decide +kernel) sy_cs_nil (sy_us_cons (jwX12_led_42 hk42) sy_us_nil)
def jgX12_led_42 (k42 : Int32 → Int32 → Int32 → Int32 → Int32 → sy_M → sy_O) (a1 : Int32) (a2 : Int32) (a3 : Int32) (a4 : Int32) (a5 : Int32) (M : sy_M) : sy_O :=
  if a5 < 0 then
    if a2 = 0 then
      sy_ri a3 M
    else
      sy_ri a4 M
  else
    sy_bi (jfX12_logged a5 3 M) fun v2 M1 =>
    if v2 = a1 then
      let v3 := a3 + 1
      sy_bi (jfX12_logged a5 1 M1) fun v5 M4 =>
      jfX12_led_73 k42 a1 a2 v3 v5 a5 M4
    else
      jfX12_led_73 k42 a1 a2 a3 a4 a5 M1
def jfX12_led_42 : Nat → Int32 → Int32 → Int32 → Int32 → Int32 → sy_M → sy_O
  | 0, _, _, _, _, _, _ => none
  | n + 1, a1, a2, a3, a4, a5, M => jgX12_led_42 (jfX12_led_42 n) a1 a2 a3 a4 a5 M
set_option maxRecDepth 100000 in
theorem jrX12_led_42 (k42 : Int32 → Int32 → Int32 → Int32 → Int32 → sy_M → sy_O) (a1 : Int32) (a2 : Int32) (a3 : Int32) (a4 : Int32) (a5 : Int32) (M : sy_M) : sy_run skX12 qX12_led [(42, .iload 5, 2, []), (44, .ifCond .lt 35, 3, []), (47, .aload_n 0, 1, []), (48, .iload 5, 2, []), (50, .iconst 3, 1, []), (51, .invokevirtual 393, 3, []), (54, .iload_n 1, 1, []), (55, .if_icmp .eq 6, 3, []), (58, .goto 15, 3, []), (61, .iinc 3 1, 3, [true, true, true, true, false, true]), (64, .aload_n 0, 1, []), (65, .iload 5, 2, []), (67, .iconst 1, 1, []), (68, .invokevirtual 393, 3, []), (71, .istore 4, 2, []), (79, .iload_n 2, 1, [false, false, true, true, true, false]), (80, .ifCond .eq 8, 3, []), (83, .iload 4, 2, []), (85, .goto 4, 3, []), (88, .iload_n 3, 1, [false, false, false, true, false, false]), (89, .ireturn, 1, [false, false, false, false, false, false])] [(313, 0, jcX12_logged)] [(73, juX12_led_73 (jfX12_led_73 k42))] 22 [] 42 [.ref 121, .int a1, .int a2, .int a3, .int a4, .int a5] [] M = jgX12_led_42 k42 a1 a2 a3 a4 a5 M := rfl
theorem jtX12_led_42 : ∀ n : Nat, ∀ (a1 : Int32) (a2 : Int32) (a3 : Int32) (a4 : Int32) (a5 : Int32) (M : sy_M) (r : xe_R × sy_M), jfX12_led_42 n a1 a2 a3 a4 a5 M = some r → sy_E (3) qX12_led 42 [.ref 121, .int a1, .int a2, .int a3, .int a4, .int a5] [] M r := by
  intro n
  induction n with
  | zero => intro a1 a2 a3 a4 a5 M r h; exact absurd (show (none : sy_O) = some r from h) (by simp)
  | succ n ih => intro a1 a2 a3 a4 a5 M r h; exact sy_run_by (d := 2) ((jrX12_led_42 _ _ _ _ _ _ M).trans h) hkX12 (by decide +kernel) (sy_cs_cons (jeX12_logged.deep (by decide)) sy_cs_nil) (sy_us_cons (jwX12_led_73 (jtX12_led_73 ih)) sy_us_nil)
def jfX12_led_14 (a1 : Int32) (a2 : Int32) (s0 : Int32) (M : sy_M) : sy_O :=
  let M1 := sy_upd M 121 0 s0
  if 0 < (M1 121 0) then
    sy_ri 0 M1
  else
    let v2 := ((M1 122 12) - 1)
    jfX12_led_42 sy_F a1 a2 0 (-1) v2 M1
set_option maxRecDepth 100000 in
theorem jrX12_led_14 (w3 : Value) (w4 : Value) (w5 : Value) (a1 : Int32) (a2 : Int32) (s0 : Int32) (M : sy_M) : sy_run skX12 qX12_led [(14, .putfield 45, 3, [true, true, true, false, false, false]), (17, .aload_n 0, 1, []), (18, .getfield 45, 3, []), (21, .ifCond .le 5, 3, []), (24, .iconst 0, 1, []), (25, .ireturn, 1, []), (26, .iconst 0, 1, [true, true, true, false, false, false]), (27, .istore_n 3, 1, []), (28, .iconst (-1), 1, []), (29, .istore 4, 2, []), (31, .aload_n 0, 1, []), (32, .getfield 7, 3, []), (35, .bipush 12, 2, []), (37, .iaload, 1, []), (38, .iconst 1, 1, []), (39, .isub, 1, []), (40, .istore 5, 2, [])] [] [(42, juX12_led_42 (jfX12_led_42 sy_F))] 18 [] 14 [.ref 121, .int a1, .int a2, w3, w4, w5] [.int s0, .ref 121] M = jfX12_led_14 a1 a2 s0 M := rfl
theorem jtX12_led_14 : ∀ (w3 : Value) (w4 : Value) (w5 : Value) (a1 : Int32) (a2 : Int32) (s0 : Int32) (M : sy_M) (r : xe_R × sy_M), jfX12_led_14 a1 a2 s0 M = some r → sy_E (3) qX12_led 14 [.ref 121, .int a1, .int a2, w3, w4, w5] [.int s0, .ref 121] M r := by
  intro w3 w4 w5 a1 a2 s0 M r h
  exact sy_run_by (d := 2) ((jrX12_led_14 _ _ _ _ _ _ M).trans h) hkX12 (by decide +kernel) sy_cs_nil (sy_us_cons (jwX12_led_42 (jtX12_led_42 sy_F)) sy_us_nil)
def jfX12_led (a1 : Int32) (a2 : Int32) (M : sy_M) : sy_O :=
  sy_bi (jfX12_isLodger a1 M) fun v2 M1 =>
  if v2 = 0 then
    jfX12_led_14 a1 a2 1 M1
  else
    jfX12_led_14 a1 a2 0 M1
set_option maxRecDepth 100000 in
theorem jrX12_led (a1 : Int32) (a2 : Int32) (M : sy_M) : sy_run skX12 qX12_led [(0, .aload_n 0, 1, []), (1, .aload_n 0, 1, []), (2, .iload_n 1, 1, []), (3, .invokevirtual 284, 3, []), (6, .ifCond .ne 7, 3, []), (9, .iconst 1, 1, []), (10, .goto 4, 3, []), (13, .iconst 0, 1, [true, true, true, false, false, false])] [(190, 0, jcX12_isLodger)] [(14, juX12_led_14 (jfX12_led_14))] 9 [] 0 [.ref 121, .int a1, .int a2, xe_no, xe_no, xe_no] [] M = jfX12_led a1 a2 M := rfl
theorem jtX12_led : ∀ (a1 : Int32) (a2 : Int32) (M : sy_M) (r : xe_R × sy_M), jfX12_led a1 a2 M = some r → sy_E (3) qX12_led 0 [.ref 121, .int a1, .int a2, xe_no, xe_no, xe_no] [] M r := by
  intro a1 a2 M r h
  exact sy_run_by (d := 2) ((jrX12_led _ _ M).trans h) hkX12 (by decide +kernel) (sy_cs_cons (jeX12_isLodger.deep (by decide)) sy_cs_nil) (sy_us_cons (jwX12_led_14 (jtX12_led_14)) sy_us_nil)
def jcX12_led (as : List Value) (M : sy_M) (K : sy_O → sy_O) : sy_O := sy_xc 121 as fun l => sy_xi l fun a1 l => sy_xi l fun a2 l => sy_xn l (K (jfX12_led a1 a2 M))
theorem jeX12_led : sy_snd (3) 314 (jcX12_led) := by
  intro as M K r h
  obtain ⟨l, e, h1⟩ := sy_xc_ok h; subst e
  obtain ⟨a1, l, e, h2⟩ := sy_xi_ok h1; subst e
  obtain ⟨a2, l, e, h3⟩ := sy_xi_ok h2; subst e
  obtain ⟨e, h4⟩ := sy_xn_ok h3; subst e
  exact ⟨_, h4, fun r1 h0 => ⟨qX12_led, rfl, rfl, jtX12_led _ _ M r1 h0⟩⟩
/-! X11_log StairMeter log (II)I [('R', 0), 'I', 'I'] -/
def jfX11_log (a1 : Int32) (a2 : Int32) (M : sy_M) : sy_O :=
  if a2 < 0 then
    sy_bx (xe_in (M 133 0) 100000) <|
    sy_rt 23 (sy_upd M 133 0 (M 133 0 + 1))
  else
    if a2 < 5 then
      sy_bi (jfX7_cell 12 a1 a2 M) fun v2 M1 =>
      sy_ri v2 M1
    else
      sy_bx (xe_in (M 133 0) 100000) <|
      sy_rt 23 (sy_upd M 133 0 (M 133 0 + 1))
set_option maxRecDepth 100000 in
theorem jrX11_log (a1 : Int32) (a2 : Int32) (M : sy_M) : sy_run skX11 qX11_log [(0, .iload_n 2, 1, []), (1, .ifCond .lt 8, 3, []), (4, .iload_n 2, 1, []), (5, .iconst 5, 1, []), (6, .if_icmp .lt 11, 3, []), (9, .new 187, 3, [false, false, false]), (17, .aload_n 0, 1, []), (18, .getfield 28, 3, []), (21, .getfield 233, 3, []), (24, .iload_n 1, 1, []), (25, .iload_n 2, 1, []), (26, .invokevirtual 406, 3, []), (29, .ireturn, 1, [])] [(61, 0, jcX7_cell)] [] 14 [] 0 [.ref 0, .int a1, .int a2] [] M = jfX11_log a1 a2 M := rfl
theorem jtX11_log : ∀ (a1 : Int32) (a2 : Int32) (M : sy_M) (r : xe_R × sy_M), jfX11_log a1 a2 M = some r → sy_E (2) qX11_log 0 [.ref 0, .int a1, .int a2] [] M r := by
  intro a1 a2 M r h
  exact sy_run_by (d := 1) ((jrX11_log _ _ M).trans h) hkX11 (by decide +kernel) (sy_cs_cons (jeX7_cell.deep (by decide)) sy_cs_nil) sy_us_nil
def jcX11_log (as : List Value) (M : sy_M) (K : sy_O → sy_O) : sy_O := sy_xc 0 as fun l => sy_xi l fun a1 l => sy_xi l fun a2 l => sy_xn l (K (jfX11_log a1 a2 M))
theorem jeX11_log : sy_snd (2) 170 (jcX11_log) := by
  intro as M K r h
  obtain ⟨l, e, h1⟩ := sy_xc_ok h; subst e
  obtain ⟨a1, l, e, h2⟩ := sy_xi_ok h1; subst e
  obtain ⟨a2, l, e, h3⟩ := sy_xi_ok h2; subst e
  obtain ⟨e, h4⟩ := sy_xn_ok h3; subst e
  exact ⟨_, h4, fun r1 h0 => ⟨qX11_log, rfl, rfl, jtX11_log _ _ M r1 h0⟩⟩
/-! L_log StairMeterLaw log (LStairMeter;II[J)I [('R', 0), 'I', 'I', ('R', 132)] -/
def jfL_log (a1 : Int32) (a2 : Int32) (M : sy_M) : sy_O :=
  sy_hi (jfX11_log a1 a2 M) (fun v2 M1 =>
    let M5 := sy_wl M1 132 0 (Int32.toInt64 v2)
    sy_ri 0 M5)
  (fun c3 M4 => if c3 = 23 then sy_ri 1 M4 else none)
set_option maxRecDepth 100000 in
theorem jrL_log (a1 : Int32) (a2 : Int32) (M : sy_M) : sy_run skL qL_log [(0, .aload_n 3, 1, []), (1, .iconst 0, 1, []), (2, .aload_n 0, 1, []), (3, .iload_n 1, 1, []), (4, .iload_n 2, 1, []), (5, .invokevirtual 132, 3, []), (8, .i2l, 1, []), (9, .lastore, 1, []), (10, .goto 7, 3, []), (13, .astore 4, 2, [false, false, false, false, false]), (15, .iconst 1, 1, []), (16, .ireturn, 1, []), (17, .iconst 0, 1, [false, false, false, false, false]), (18, .ireturn, 1, [])] [(170, 3, jcX11_log)] [] 15 [] 0 [.ref 0, .int a1, .int a2, .ref 132, xe_no] [] M = jfL_log a1 a2 M := rfl
theorem jtL_log : ∀ (a1 : Int32) (a2 : Int32) (M : sy_M) (r : xe_R × sy_M), jfL_log a1 a2 M = some r → sy_E (3) qL_log 0 [.ref 0, .int a1, .int a2, .ref 132, xe_no] [] M r := by
  intro a1 a2 M r h
  exact sy_run_by (d := 2) ((jrL_log _ _ M).trans h) hkL (by decide +kernel) (sy_cs_cons (jeX11_log.deep (by decide)) sy_cs_nil) sy_us_nil
def jcL_log (as : List Value) (M : sy_M) (K : sy_O → sy_O) : sy_O := sy_xc 0 as fun l => sy_xi l fun a1 l => sy_xi l fun a2 l => sy_xc 132 l fun l => sy_xn l (K (jfL_log a1 a2 M))
theorem jeL_log : sy_snd (3) 356 (jcL_log) := by
  intro as M K r h
  obtain ⟨l, e, h1⟩ := sy_xc_ok h; subst e
  obtain ⟨a1, l, e, h2⟩ := sy_xi_ok h1; subst e
  obtain ⟨a2, l, e, h3⟩ := sy_xi_ok h2; subst e
  obtain ⟨l, e, h4⟩ := sy_xc_ok h3; subst e
  obtain ⟨e, h5⟩ := sy_xn_ok h4; subst e
  exact ⟨_, h5, fun r1 h0 => ⟨qL_log, rfl, rfl, jtL_log _ _ M r1 h0⟩⟩
/-! X12_log StairMeterModel log (II)I [('R', 121), 'I', 'I'] -/
def juX12_log_15 (k : Int32 → Int32 → Int32 → sy_M → sy_O) (ls st : List Value) (M : sy_M) : sy_O := sy_xc 121 ls fun l => sy_xi l fun a1 l => sy_xi l fun a2 l => sy_xn l (sy_xi st fun s0 l => sy_xc 121 l fun l => sy_xn l (k a1 a2 s0 M))
theorem jwX12_log_15 {d : Nat} {k : Int32 → Int32 → Int32 → sy_M → sy_O} (hk : ∀ (a1 : Int32) (a2 : Int32) (s0 : Int32) (M : sy_M) (r : xe_R × sy_M), k a1 a2 s0 M = some r → sy_E (d) qX12_log 15 [.ref 121, .int a1, .int a2] [.int s0, .ref 121] M r) : ∀ ls st M r, juX12_log_15 k ls st M = some r → sy_E d qX12_log 15 ls st M r := by
  intro ls st M r h
  obtain ⟨l, e, h1⟩ := sy_xc_ok h; subst e
  obtain ⟨a1, l, e, h2⟩ := sy_xi_ok h1; subst e
  obtain ⟨a2, l, e, h3⟩ := sy_xi_ok h2; subst e
  obtain ⟨e, h4⟩ := sy_xn_ok h3; subst e
  obtain ⟨s0, l, e, h5⟩ := sy_xi_ok h4; subst e
  obtain ⟨l, e, h6⟩ := sy_xc_ok h5; subst e
  obtain ⟨e, h7⟩ := sy_xn_ok h6; subst e
  exact hk a1 a2 s0 M r h7
def jfX12_log_15 (a1 : Int32) (a2 : Int32) (s0 : Int32) (M : sy_M) : sy_O :=
  let M1 := sy_upd M 121 0 s0
  if 0 < (M1 121 0) then
    sy_ri 0 M1
  else
    sy_bi (jfX12_isIn a1 0 ((M1 122 12) - 1) M1) fun v3 M2 =>
    if v3 = 0 then
      sy_ri (-2) M2
    else
      sy_bi (jfX12_logged a1 a2 M2) fun v5 M4 =>
      sy_ri v5 M4
set_option maxRecDepth 100000 in
theorem jrX12_log_15 (a1 : Int32) (a2 : Int32) (s0 : Int32) (M : sy_M) : sy_run skX12 qX12_log [(15, .putfield 45, 3, []), (18, .aload_n 0, 1, []), (19, .getfield 45, 3, []), (22, .ifCond .le 5, 3, []), (25, .iconst 0, 1, []), (26, .ireturn, 1, []), (27, .iload_n 1, 1, []), (28, .iconst 0, 1, []), (29, .aload_n 0, 1, []), (30, .getfield 7, 3, []), (33, .bipush 12, 2, []), (35, .iaload, 1, []), (36, .iconst 1, 1, []), (37, .isub, 1, []), (38, .invokestatic 48, 3, []), (41, .ifCond .eq 12, 3, []), (44, .aload_n 0, 1, []), (45, .iload_n 1, 1, []), (46, .iload_n 2, 1, []), (47, .invokevirtual 393, 3, []), (50, .goto 5, 3, []), (53, .bipush (-2), 2, [false, false, false]), (55, .ireturn, 1, [false, false, false])] [(182, 0, jcX12_isIn), (313, 0, jcX12_logged)] [] 24 [] 15 [.ref 121, .int a1, .int a2] [.int s0, .ref 121] M = jfX12_log_15 a1 a2 s0 M := rfl
theorem jtX12_log_15 : ∀ (a1 : Int32) (a2 : Int32) (s0 : Int32) (M : sy_M) (r : xe_R × sy_M), jfX12_log_15 a1 a2 s0 M = some r → sy_E (2) qX12_log 15 [.ref 121, .int a1, .int a2] [.int s0, .ref 121] M r := by
  intro a1 a2 s0 M r h
  exact sy_run_by (d := 1) ((jrX12_log_15 _ _ _ M).trans h) hkX12 (by decide +kernel) (sy_cs_cons (jeX12_isIn.deep (by decide)) (sy_cs_cons (jeX12_logged.deep (by decide)) sy_cs_nil)) sy_us_nil
def jfX12_log (a1 : Int32) (a2 : Int32) (M : sy_M) : sy_O :=
  sy_bi (jfX12_isIn a2 0 4 M) fun v2 M1 =>
  if v2 = 0 then
    jfX12_log_15 a1 a2 1 M1
  else
    jfX12_log_15 a1 a2 0 M1
set_option maxRecDepth 100000 in
theorem jrX12_log (a1 : Int32) (a2 : Int32) (M : sy_M) : sy_run skX12 qX12_log [(0, .aload_n 0, 1, []), (1, .iload_n 2, 1, []), (2, .iconst 0, 1, []), (3, .iconst 4, 1, []), (4, .invokestatic 48, 3, []), (7, .ifCond .ne 7, 3, []), (10, .iconst 1, 1, []), (11, .goto 4, 3, []), (14, .iconst 0, 1, [])] [(182, 0, jcX12_isIn)] [(15, juX12_log_15 (jfX12_log_15))] 10 [] 0 [.ref 121, .int a1, .int a2] [] M = jfX12_log a1 a2 M := rfl
theorem jtX12_log : ∀ (a1 : Int32) (a2 : Int32) (M : sy_M) (r : xe_R × sy_M), jfX12_log a1 a2 M = some r → sy_E (2) qX12_log 0 [.ref 121, .int a1, .int a2] [] M r := by
  intro a1 a2 M r h
  exact sy_run_by (d := 1) ((jrX12_log _ _ M).trans h) hkX12 (by decide +kernel) (sy_cs_cons (jeX12_isIn.deep (by decide)) sy_cs_nil) (sy_us_cons (jwX12_log_15 (jtX12_log_15)) sy_us_nil)
def jcX12_log (as : List Value) (M : sy_M) (K : sy_O → sy_O) : sy_O := sy_xc 121 as fun l => sy_xi l fun a1 l => sy_xi l fun a2 l => sy_xn l (K (jfX12_log a1 a2 M))
theorem jeX12_log : sy_snd (2) 315 (jcX12_log) := by
  intro as M K r h
  obtain ⟨l, e, h1⟩ := sy_xc_ok h; subst e
  obtain ⟨a1, l, e, h2⟩ := sy_xi_ok h1; subst e
  obtain ⟨a2, l, e, h3⟩ := sy_xi_ok h2; subst e
  obtain ⟨e, h4⟩ := sy_xn_ok h3; subst e
  exact ⟨_, h4, fun r1 h0 => ⟨qX12_log, rfl, rfl, jtX12_log _ _ M r1 h0⟩⟩
/-! X11_seed StairMeter seed (I)I [('R', 0), 'I'] -/
def jfX11_seed (a1 : Int32) (M : sy_M) : sy_O :=
  let v1 := (M 9 13)
  let M2 := sy_upd M 9 13 a1
  sy_ri v1 M2
set_option maxRecDepth 100000 in
theorem jrX11_seed (a1 : Int32) (M : sy_M) : sy_run skX11 qX11_seed [(0, .aload_n 0, 1, []), (1, .getfield 28, 3, []), (4, .getfield 403, 3, []), (7, .istore_n 2, 1, []), (8, .aload_n 0, 1, []), (9, .getfield 28, 3, []), (12, .iload_n 1, 1, []), (13, .putfield 403, 3, []), (16, .iload_n 2, 1, []), (17, .ireturn, 1, [])] [] [] 11 [] 0 [.ref 0, .int a1, xe_no] [] M = jfX11_seed a1 M := rfl
theorem jtX11_seed : ∀ (a1 : Int32) (M : sy_M) (r : xe_R × sy_M), jfX11_seed a1 M = some r → sy_E (1) qX11_seed 0 [.ref 0, .int a1, xe_no] [] M r := by
  intro a1 M r h
  exact sy_run_by (d := 0) ((jrX11_seed _ M).trans h) hkX11 (by decide +kernel) sy_cs_nil sy_us_nil
def jcX11_seed (as : List Value) (M : sy_M) (K : sy_O → sy_O) : sy_O := sy_xc 0 as fun l => sy_xi l fun a1 l => sy_xn l (K (jfX11_seed a1 M))
theorem jeX11_seed : sy_snd (1) 171 (jcX11_seed) := by
  intro as M K r h
  obtain ⟨l, e, h1⟩ := sy_xc_ok h; subst e
  obtain ⟨a1, l, e, h2⟩ := sy_xi_ok h1; subst e
  obtain ⟨e, h3⟩ := sy_xn_ok h2; subst e
  exact ⟨_, h3, fun r1 h0 => ⟨qX11_seed, rfl, rfl, jtX11_seed _ M r1 h0⟩⟩
/-! X12_seed StairMeterModel seed (I)I [('R', 121), 'I'] -/
def jfX12_seed (a1 : Int32) (M : sy_M) : sy_O :=
  let M1 := sy_upd M 121 0 0
  let v2 := (M1 122 13)
  let M3 := sy_upd M1 122 13 a1
  sy_ri v2 M3
set_option maxRecDepth 100000 in
theorem jrX12_seed (a1 : Int32) (M : sy_M) : sy_run skX12 qX12_seed [(0, .aload_n 0, 1, []), (1, .iconst 0, 1, []), (2, .putfield 45, 3, []), (5, .aload_n 0, 1, []), (6, .getfield 7, 3, []), (9, .bipush 13, 2, []), (11, .iaload, 1, []), (12, .istore_n 2, 1, []), (13, .aload_n 0, 1, []), (14, .getfield 7, 3, []), (17, .bipush 13, 2, []), (19, .iload_n 1, 1, []), (20, .iastore, 1, []), (21, .iload_n 2, 1, []), (22, .ireturn, 1, [])] [] [] 16 [] 0 [.ref 121, .int a1, xe_no] [] M = jfX12_seed a1 M := rfl
theorem jtX12_seed : ∀ (a1 : Int32) (M : sy_M) (r : xe_R × sy_M), jfX12_seed a1 M = some r → sy_E (1) qX12_seed 0 [.ref 121, .int a1, xe_no] [] M r := by
  intro a1 M r h
  exact sy_run_by (d := 0) ((jrX12_seed _ M).trans h) hkX12 (by decide +kernel) sy_cs_nil sy_us_nil
def jcX12_seed (as : List Value) (M : sy_M) (K : sy_O → sy_O) : sy_O := sy_xc 121 as fun l => sy_xi l fun a1 l => sy_xn l (K (jfX12_seed a1 M))
theorem jeX12_seed : sy_snd (1) 316 (jcX12_seed) := by
  intro as M K r h
  obtain ⟨l, e, h1⟩ := sy_xc_ok h; subst e
  obtain ⟨a1, l, e, h2⟩ := sy_xi_ok h1; subst e
  obtain ⟨e, h3⟩ := sy_xn_ok h2; subst e
  exact ⟨_, h3, fun r1 h0 => ⟨qX12_seed, rfl, rfl, jtX12_seed _ M r1 h0⟩⟩
/-! X0_takeBack StairMeter$Acts takeBack (LStairMeter$House;)Z [('R', 57), 'A'] -/
def juX0_takeBack_18 (k : Nat → Int32 → sy_M → sy_O) (ls st : List Value) (M : sy_M) : sy_O := sy_xc 57 ls fun l => sy_xa l fun r1 l => sy_xv l fun _ l => sy_xv l fun _ l => sy_xn l (sy_xi st fun s0 l => sy_xn l (k r1 s0 M))
theorem jwX0_takeBack_18 {d : Nat} {k : Nat → Int32 → sy_M → sy_O} (hk : ∀ (w2 : Value) (w3 : Value) (r1 : Nat) (s0 : Int32) (M : sy_M) (r : xe_R × sy_M), k r1 s0 M = some r → sy_E (d) qX0_takeBack 18 [.ref 57, .ref r1, w2, w3] [.int s0] M r) : ∀ ls st M r, juX0_takeBack_18 k ls st M = some r → sy_E d qX0_takeBack 18 ls st M r := by
  intro ls st M r h
  obtain ⟨l, e, h1⟩ := sy_xc_ok h; subst e
  obtain ⟨r1, l, e, h2⟩ := sy_xa_ok h1; subst e
  obtain ⟨w2, l, e, h3⟩ := sy_xv_ok h2; subst e
  obtain ⟨w3, l, e, h4⟩ := sy_xv_ok h3; subst e
  obtain ⟨e, h5⟩ := sy_xn_ok h4; subst e
  obtain ⟨s0, l, e, h6⟩ := sy_xi_ok h5; subst e
  obtain ⟨e, h7⟩ := sy_xn_ok h6; subst e
  exact hk _ _ r1 s0 M r h7
def jfX0_takeBack_18 (r1 : Nat) (s0 : Int32) (M : sy_M) : sy_O :=
  sy_br (jfX0_slot s0 M) (fun r2 M1 =>
  if (M1 57 1) < 1 then
      sy_ri 0 M1
    else
      sy_bs (sy_is 2 r1) <|
      sy_bv (jfX2_takeOver r1 r2 M1) fun M4 =>
      let M5 := sy_upd M4 57 2 s0
      let M6 := sy_upd M5 57 1 ((M5 57 1) - 1)
      sy_ri 1 M6)
  (fun M3 =>
  if (M3 57 1) < 1 then
      sy_ri 0 M3
    else
      sy_ri 0 M3)
set_option maxRecDepth 100000 in
theorem jrX0_takeBack_18 (w2 : Value) (w3 : Value) (r1 : Nat) (s0 : Int32) (M : sy_M) : sy_run skX0 qX0_takeBack [(18, .istore_n 2, 1, [true, true, false, false]), (19, .aload_n 0, 1, []), (20, .iload_n 2, 1, []), (21, .invokevirtual 27, 3, []), (24, .astore_n 3, 1, []), (25, .aload_n 0, 1, []), (26, .getfield 20, 3, []), (29, .iconst 1, 1, []), (30, .if_icmp .lt 7, 3, []), (33, .aload_n 3, 1, []), (34, .ifnonnull 5, 3, []), (37, .iconst 0, 1, [false, false, false, false]), (38, .ireturn, 1, []), (39, .aload_n 1, 1, []), (40, .aload_n 3, 1, []), (41, .invokevirtual 31, 3, []), (44, .aload_n 0, 1, []), (45, .iload_n 2, 1, []), (46, .putfield 24, 3, []), (49, .aload_n 0, 1, []), (50, .dup, 1, []), (51, .getfield 20, 3, []), (54, .iconst 1, 1, []), (55, .isub, 1, []), (56, .putfield 20, 3, []), (59, .iconst 1, 1, []), (60, .ireturn, 1, [])] [(1, 2, jcX0_slot), (9, 1, jcX2_takeOver)] [] 28 [] 18 [.ref 57, .ref r1, w2, w3] [.int s0] M = jfX0_takeBack_18 r1 s0 M := rfl
theorem jtX0_takeBack_18 : ∀ (w2 : Value) (w3 : Value) (r1 : Nat) (s0 : Int32) (M : sy_M) (r : xe_R × sy_M), jfX0_takeBack_18 r1 s0 M = some r → sy_E (3) qX0_takeBack 18 [.ref 57, .ref r1, w2, w3] [.int s0] M r := by
  intro w2 w3 r1 s0 M r h
  exact sy_run_by (d := 2) ((jrX0_takeBack_18 _ _ _ _ M).trans h) hkX0 (by decide +kernel) (sy_cs_cons (jeX0_slot.deep (by decide)) (sy_cs_cons (jeX2_takeOver.deep (by decide)) sy_cs_nil)) sy_us_nil
def jfX0_takeBack (r1 : Nat) (M : sy_M) : sy_O :=
  if 0 < (M 57 2) then
    jfX0_takeBack_18 r1 ((M 57 2) - 1) M
  else
    jfX0_takeBack_18 r1 11 M
set_option maxRecDepth 100000 in
theorem jrX0_takeBack (r1 : Nat) (M : sy_M) : sy_run skX0 qX0_takeBack [(0, .aload_n 0, 1, []), (1, .getfield 24, 3, []), (4, .ifCond .le 12, 3, []), (7, .aload_n 0, 1, []), (8, .getfield 24, 3, []), (11, .iconst 1, 1, []), (12, .isub, 1, []), (13, .goto 5, 3, []), (16, .bipush 11, 2, [true, true, false, false])] [] [(18, juX0_takeBack_18 (jfX0_takeBack_18))] 10 [] 0 [.ref 57, .ref r1, xe_no, xe_no] [] M = jfX0_takeBack r1 M := rfl
theorem jtX0_takeBack : ∀ (r1 : Nat) (M : sy_M) (r : xe_R × sy_M), jfX0_takeBack r1 M = some r → sy_E (3) qX0_takeBack 0 [.ref 57, .ref r1, xe_no, xe_no] [] M r := by
  intro r1 M r h
  exact sy_run_by (d := 2) ((jrX0_takeBack _ M).trans h) hkX0 (by decide +kernel) sy_cs_nil (sy_us_cons (jwX0_takeBack_18 (jtX0_takeBack_18)) sy_us_nil)
def jcX0_takeBack (as : List Value) (M : sy_M) (K : sy_O → sy_O) : sy_O := sy_xc 57 as fun l => sy_xa l fun r1 l => sy_xn l (K (jfX0_takeBack r1 M))
theorem jeX0_takeBack : sy_snd (3) 3 (jcX0_takeBack) := by
  intro as M K r h
  obtain ⟨l, e, h1⟩ := sy_xc_ok h; subst e
  obtain ⟨r1, l, e, h2⟩ := sy_xa_ok h1; subst e
  obtain ⟨e, h3⟩ := sy_xn_ok h2; subst e
  exact ⟨_, h3, fun r1 h0 => ⟨qX0_takeBack, rfl, rfl, jtX0_takeBack _ M r1 h0⟩⟩
/-! X11_undo StairMeter undo ()Z [('R', 0)] -/
def jfX11_undo (M : sy_M) : sy_O :=
  sy_bi (jfX0_takeBack 9 M) fun v2 M1 =>
  sy_bb (sy_bo v2) <| sy_ri v2 M1
set_option maxRecDepth 100000 in
theorem jrX11_undo (M : sy_M) : sy_run skX11 qX11_undo [(0, .aload_n 0, 1, []), (1, .getfield 89, 3, []), (4, .aload_n 0, 1, []), (5, .getfield 28, 3, []), (8, .invokevirtual 409, 3, []), (11, .ireturn, 1, [])] [(3, 0, jcX0_takeBack)] [] 7 [] 0 [.ref 0] [] M = jfX11_undo M := rfl
theorem jtX11_undo : ∀ (M : sy_M) (r : xe_R × sy_M), jfX11_undo M = some r → sy_E (4) qX11_undo 0 [.ref 0] [] M r := by
  intro  M r h
  exact sy_run_by (d := 3) ((jrX11_undo M).trans h) hkX11 (by decide +kernel) (sy_cs_cons (jeX0_takeBack.deep (by decide)) sy_cs_nil) sy_us_nil
def jcX11_undo (as : List Value) (M : sy_M) (K : sy_O → sy_O) : sy_O := sy_xc 0 as fun l => sy_xn l (K (jfX11_undo M))
theorem jeX11_undo : sy_snd (4) 172 (jcX11_undo) := by
  intro as M K r h
  obtain ⟨l, e, h1⟩ := sy_xc_ok h; subst e
  obtain ⟨e, h2⟩ := sy_xn_ok h1; subst e
  exact ⟨_, h2, fun r1 h0 => ⟨qX11_undo, rfl, rfl, jtX11_undo  M r1 h0⟩⟩
/-! X12_undo StairMeterModel undo ()Z [('R', 121)] -/
def juX12_undo_26 (k : Int32 → sy_M → sy_O) (ls st : List Value) (M : sy_M) : sy_O := sy_xc 121 ls fun l => sy_xi l fun a1 l => sy_xn l (sy_xn st (k a1 M))
theorem jwX12_undo_26 {d : Nat} {k : Int32 → sy_M → sy_O} (hk : ∀ (a1 : Int32) (M : sy_M) (r : xe_R × sy_M), k a1 M = some r → sy_E (d) qX12_undo 26 [.ref 121, .int a1] [] M r) : ∀ ls st M r, juX12_undo_26 k ls st M = some r → sy_E d qX12_undo 26 ls st M r := by
  intro ls st M r h
  obtain ⟨l, e, h1⟩ := sy_xc_ok h; subst e
  obtain ⟨a1, l, e, h2⟩ := sy_xi_ok h1; subst e
  obtain ⟨e, h3⟩ := sy_xn_ok h2; subst e
  obtain ⟨e, h4⟩ := sy_xn_ok h3; subst e
  exact hk a1 M r h4
def jgX12_undo_26 (k26 : Int32 → sy_M → sy_O) (a1 : Int32) (M : sy_M) : sy_O :=
  if a1 < 426 then
    sy_bx (xe_in ((426 * (M 121 6)) + a1) 5112) <|
    sy_bx (xe_in a1 826) <|
    let M1 := sy_upd M 122 (Int32.toNatClampNeg a1) (M 125 (Int32.toNatClampNeg ((426 * (M 121 6)) + a1)))
    let v2 := a1 + 1
    k26 v2 M1
  else
    sy_ri 1 M
def jfX12_undo_26 : Nat → Int32 → sy_M → sy_O
  | 0, _, _ => none
  | n + 1, a1, M => jgX12_undo_26 (jfX12_undo_26 n) a1 M
set_option maxRecDepth 100000 in
theorem jrX12_undo_26 (k26 : Int32 → sy_M → sy_O) (a1 : Int32) (M : sy_M) : sy_run skX12 qX12_undo [(26, .iload_n 1, 1, []), (27, .sipush 426, 3, []), (30, .if_icmp .ge 30, 3, []), (33, .aload_n 0, 1, []), (34, .getfield 7, 3, []), (37, .iload_n 1, 1, []), (38, .aload_n 0, 1, []), (39, .getfield 19, 3, []), (42, .sipush 426, 3, []), (45, .aload_n 0, 1, []), (46, .getfield 185, 3, []), (49, .imul, 1, []), (50, .iload_n 1, 1, []), (51, .iadd, 1, []), (52, .iaload, 1, []), (53, .iastore, 1, []), (54, .iinc 1 1, 3, []), (57, .goto (-31), 3, []), (60, .iconst 1, 1, [false, false]), (61, .ireturn, 1, [])] [] [(26, juX12_undo_26 k26)] 21 [] 26 [.ref 121, .int a1] [] M = jgX12_undo_26 k26 a1 M := rfl
theorem jtX12_undo_26 : ∀ n : Nat, ∀ (a1 : Int32) (M : sy_M) (r : xe_R × sy_M), jfX12_undo_26 n a1 M = some r → sy_E (1) qX12_undo 26 [.ref 121, .int a1] [] M r := by
  intro n
  induction n with
  | zero => intro a1 M r h; exact absurd (show (none : sy_O) = some r from h) (by simp)
  | succ n ih => intro a1 M r h; exact sy_run_by (d := 0) ((jrX12_undo_26 _ _ M).trans h) hkX12 (by decide +kernel) sy_cs_nil (sy_us_cons (jwX12_undo_26 ih) sy_us_nil)
def jfX12_undo (M : sy_M) : sy_O :=
  let M1 := sy_upd M 121 0 0
  if (M1 121 6) = 0 then
    sy_ri 0 M1
  else
    let M2 := sy_upd M1 121 6 ((M1 121 6) - 1)
    jfX12_undo_26 sy_F 0 M2
set_option maxRecDepth 100000 in
theorem jrX12_undo (M : sy_M) : sy_run skX12 qX12_undo [(0, .aload_n 0, 1, []), (1, .iconst 0, 1, []), (2, .putfield 45, 3, []), (5, .aload_n 0, 1, []), (6, .getfield 185, 3, []), (9, .ifCond .ne 5, 3, []), (12, .iconst 0, 1, []), (13, .ireturn, 1, []), (14, .aload_n 0, 1, [true, false]), (15, .dup, 1, []), (16, .getfield 185, 3, []), (19, .iconst 1, 1, []), (20, .isub, 1, []), (21, .putfield 185, 3, []), (24, .iconst 0, 1, []), (25, .istore_n 1, 1, [])] [] [(26, juX12_undo_26 (jfX12_undo_26 sy_F))] 17 [] 0 [.ref 121, xe_no] [] M = jfX12_undo M := rfl
theorem jtX12_undo : ∀ (M : sy_M) (r : xe_R × sy_M), jfX12_undo M = some r → sy_E (1) qX12_undo 0 [.ref 121, xe_no] [] M r := by
  intro  M r h
  exact sy_run_by (d := 0) ((jrX12_undo M).trans h) hkX12 (by decide +kernel) sy_cs_nil (sy_us_cons (jwX12_undo_26 (jtX12_undo_26 sy_F)) sy_us_nil)
def jcX12_undo (as : List Value) (M : sy_M) (K : sy_O → sy_O) : sy_O := sy_xc 121 as fun l => sy_xn l (K (jfX12_undo M))
theorem jeX12_undo : sy_snd (1) 317 (jcX12_undo) := by
  intro as M K r h
  obtain ⟨l, e, h1⟩ := sy_xc_ok h; subst e
  obtain ⟨e, h2⟩ := sy_xn_ok h1; subst e
  exact ⟨_, h2, fun r1 h0 => ⟨qX12_undo, rfl, rfl, jtX12_undo  M r1 h0⟩⟩
/-! X11_image StairMeter image ()V [('R', 0)] -/
def jfX11_image (M : sy_M) : sy_O :=
  sy_bv (jfX2_takeOver 24 9 M) fun M1 =>
  sy_bv (jfX4_takeOver 41 29 M1) fun M2 =>
  let M3 := sy_upd M2 0 16 1
  sy_rv M3
set_option maxRecDepth 100000 in
theorem jrX11_image (M : sy_M) : sy_run skX11 qX11_image [(0, .aload_n 0, 1, []), (1, .getfield 38, 3, []), (4, .aload_n 0, 1, []), (5, .getfield 28, 3, []), (8, .invokevirtual 115, 3, []), (11, .aload_n 0, 1, []), (12, .getfield 51, 3, []), (15, .aload_n 0, 1, []), (16, .getfield 44, 3, []), (19, .invokevirtual 143, 3, []), (22, .aload_n 0, 1, []), (23, .iconst 1, 1, []), (24, .putfield 101, 3, []), (27, .return_, 1, [])] [(9, 1, jcX2_takeOver), (39, 1, jcX4_takeOver)] [] 15 [] 0 [.ref 0] [] M = jfX11_image M := rfl
theorem jtX11_image : ∀ (M : sy_M) (r : xe_R × sy_M), jfX11_image M = some r → sy_E (3) qX11_image 0 [.ref 0] [] M r := by
  intro  M r h
  exact sy_run_by (d := 2) ((jrX11_image M).trans h) hkX11 (by decide +kernel) (sy_cs_cons (jeX2_takeOver.deep (by decide)) (sy_cs_cons (jeX4_takeOver.deep (by decide)) sy_cs_nil)) sy_us_nil
def jcX11_image (as : List Value) (M : sy_M) (K : sy_O → sy_O) : sy_O := sy_xc 0 as fun l => sy_xn l (K (jfX11_image M))
theorem jeX11_image : sy_snd (3) 173 (jcX11_image) := by
  intro as M K r h
  obtain ⟨l, e, h1⟩ := sy_xc_ok h; subst e
  obtain ⟨e, h2⟩ := sy_xn_ok h1; subst e
  exact ⟨_, h2, fun r1 h0 => ⟨qX11_image, rfl, rfl, jtX11_image  M r1 h0⟩⟩
/-! X12_image StairMeterModel image ()V [('R', 121)] -/
def juX12_image_7 (k : Int32 → sy_M → sy_O) (ls st : List Value) (M : sy_M) : sy_O := sy_xc 121 ls fun l => sy_xi l fun a1 l => sy_xn l (sy_xn st (k a1 M))
theorem jwX12_image_7 {d : Nat} {k : Int32 → sy_M → sy_O} (hk : ∀ (a1 : Int32) (M : sy_M) (r : xe_R × sy_M), k a1 M = some r → sy_E (d) qX12_image 7 [.ref 121, .int a1] [] M r) : ∀ ls st M r, juX12_image_7 k ls st M = some r → sy_E d qX12_image 7 ls st M r := by
  intro ls st M r h
  obtain ⟨l, e, h1⟩ := sy_xc_ok h; subst e
  obtain ⟨a1, l, e, h2⟩ := sy_xi_ok h1; subst e
  obtain ⟨e, h3⟩ := sy_xn_ok h2; subst e
  obtain ⟨e, h4⟩ := sy_xn_ok h3; subst e
  exact hk a1 M r h4
def jgX12_image_7 (k7 : Int32 → sy_M → sy_O) (a1 : Int32) (M : sy_M) : sy_O :=
  if a1 < 826 then
    sy_bx (xe_in a1 826) <|
    sy_bx (xe_in a1 826) <|
    let M2 := sy_upd M 123 (Int32.toNatClampNeg a1) (M 122 (Int32.toNatClampNeg a1))
    let v3 := a1 + 1
    k7 v3 M2
  else
    let M1 := sy_upd M 121 3 1
    sy_rv M1
def jfX12_image_7 : Nat → Int32 → sy_M → sy_O
  | 0, _, _ => none
  | n + 1, a1, M => jgX12_image_7 (jfX12_image_7 n) a1 M
set_option maxRecDepth 100000 in
theorem jrX12_image_7 (k7 : Int32 → sy_M → sy_O) (a1 : Int32) (M : sy_M) : sy_run skX12 qX12_image [(7, .iload_n 1, 1, []), (8, .sipush 826, 3, []), (11, .if_icmp .ge 21, 3, []), (14, .aload_n 0, 1, []), (15, .getfield 13, 3, []), (18, .iload_n 1, 1, []), (19, .aload_n 0, 1, []), (20, .getfield 7, 3, []), (23, .iload_n 1, 1, []), (24, .iaload, 1, []), (25, .iastore, 1, []), (26, .iinc 1 1, 3, []), (29, .goto (-22), 3, []), (32, .aload_n 0, 1, [true, false]), (33, .iconst 1, 1, []), (34, .putfield 396, 3, []), (37, .return_, 1, [])] [] [(7, juX12_image_7 k7)] 18 [] 7 [.ref 121, .int a1] [] M = jgX12_image_7 k7 a1 M := rfl
theorem jtX12_image_7 : ∀ n : Nat, ∀ (a1 : Int32) (M : sy_M) (r : xe_R × sy_M), jfX12_image_7 n a1 M = some r → sy_E (1) qX12_image 7 [.ref 121, .int a1] [] M r := by
  intro n
  induction n with
  | zero => intro a1 M r h; exact absurd (show (none : sy_O) = some r from h) (by simp)
  | succ n ih => intro a1 M r h; exact sy_run_by (d := 0) ((jrX12_image_7 _ _ M).trans h) hkX12 (by decide +kernel) sy_cs_nil (sy_us_cons (jwX12_image_7 ih) sy_us_nil)
def jfX12_image (M : sy_M) : sy_O :=
  let M1 := sy_upd M 121 0 0
  jfX12_image_7 sy_F 0 M1
set_option maxRecDepth 100000 in
theorem jrX12_image (M : sy_M) : sy_run skX12 qX12_image [(0, .aload_n 0, 1, []), (1, .iconst 0, 1, []), (2, .putfield 45, 3, []), (5, .iconst 0, 1, []), (6, .istore_n 1, 1, [])] [] [(7, juX12_image_7 (jfX12_image_7 sy_F))] 6 [] 0 [.ref 121, xe_no] [] M = jfX12_image M := rfl
theorem jtX12_image : ∀ (M : sy_M) (r : xe_R × sy_M), jfX12_image M = some r → sy_E (1) qX12_image 0 [.ref 121, xe_no] [] M r := by
  intro  M r h
  exact sy_run_by (d := 0) ((jrX12_image M).trans h) hkX12 (by decide +kernel) sy_cs_nil (sy_us_cons (jwX12_image_7 (jtX12_image_7 sy_F)) sy_us_nil)
def jcX12_image (as : List Value) (M : sy_M) (K : sy_O → sy_O) : sy_O := sy_xc 121 as fun l => sy_xn l (K (jfX12_image M))
theorem jeX12_image : sy_snd (1) 318 (jcX12_image) := by
  intro as M K r h
  obtain ⟨l, e, h1⟩ := sy_xc_ok h; subst e
  obtain ⟨e, h2⟩ := sy_xn_ok h1; subst e
  exact ⟨_, h2, fun r1 h0 => ⟨qX12_image, rfl, rfl, jtX12_image  M r1 h0⟩⟩
/-! X11_back StairMeter back ()Z [('R', 0)] -/
def jfX11_back (M : sy_M) : sy_O :=
  if (M 0 16) = 0 then
    sy_ri 0 M
  else
    sy_bv (jfX2_takeOver 9 24 M) fun M1 =>
    sy_bv (jfX4_takeOver 29 41 M1) fun M2 =>
    sy_bv (jfX0_forget M2) fun M3 =>
    sy_ri 1 M3
set_option maxRecDepth 100000 in
theorem jrX11_back (M : sy_M) : sy_run skX11 qX11_back [(0, .aload_n 0, 1, []), (1, .getfield 101, 3, []), (4, .ifCond .ne 5, 3, []), (7, .iconst 0, 1, []), (8, .ireturn, 1, []), (9, .aload_n 0, 1, []), (10, .getfield 28, 3, []), (13, .aload_n 0, 1, []), (14, .getfield 38, 3, []), (17, .invokevirtual 115, 3, []), (20, .aload_n 0, 1, []), (21, .getfield 44, 3, []), (24, .aload_n 0, 1, []), (25, .getfield 51, 3, []), (28, .invokevirtual 143, 3, []), (31, .aload_n 0, 1, []), (32, .getfield 89, 3, []), (35, .invokevirtual 136, 3, []), (38, .iconst 1, 1, []), (39, .ireturn, 1, [])] [(9, 1, jcX2_takeOver), (39, 1, jcX4_takeOver), (4, 1, jcX0_forget)] [] 21 [] 0 [.ref 0] [] M = jfX11_back M := rfl
theorem jtX11_back : ∀ (M : sy_M) (r : xe_R × sy_M), jfX11_back M = some r → sy_E (3) qX11_back 0 [.ref 0] [] M r := by
  intro  M r h
  exact sy_run_by (d := 2) ((jrX11_back M).trans h) hkX11 (by decide +kernel) (sy_cs_cons (jeX2_takeOver.deep (by decide)) (sy_cs_cons (jeX4_takeOver.deep (by decide)) (sy_cs_cons (jeX0_forget.deep (by decide)) sy_cs_nil))) sy_us_nil
def jcX11_back (as : List Value) (M : sy_M) (K : sy_O → sy_O) : sy_O := sy_xc 0 as fun l => sy_xn l (K (jfX11_back M))
theorem jeX11_back : sy_snd (3) 174 (jcX11_back) := by
  intro as M K r h
  obtain ⟨l, e, h1⟩ := sy_xc_ok h; subst e
  obtain ⟨e, h2⟩ := sy_xn_ok h1; subst e
  exact ⟨_, h2, fun r1 h0 => ⟨qX11_back, rfl, rfl, jtX11_back  M r1 h0⟩⟩
/-! X12_back StairMeterModel back ()Z [('R', 121)] -/
def juX12_back_16 (k : Int32 → sy_M → sy_O) (ls st : List Value) (M : sy_M) : sy_O := sy_xc 121 ls fun l => sy_xi l fun a1 l => sy_xn l (sy_xn st (k a1 M))
theorem jwX12_back_16 {d : Nat} {k : Int32 → sy_M → sy_O} (hk : ∀ (a1 : Int32) (M : sy_M) (r : xe_R × sy_M), k a1 M = some r → sy_E (d) qX12_back 16 [.ref 121, .int a1] [] M r) : ∀ ls st M r, juX12_back_16 k ls st M = some r → sy_E d qX12_back 16 ls st M r := by
  intro ls st M r h
  obtain ⟨l, e, h1⟩ := sy_xc_ok h; subst e
  obtain ⟨a1, l, e, h2⟩ := sy_xi_ok h1; subst e
  obtain ⟨e, h3⟩ := sy_xn_ok h2; subst e
  obtain ⟨e, h4⟩ := sy_xn_ok h3; subst e
  exact hk a1 M r h4
def jgX12_back_16 (k16 : Int32 → sy_M → sy_O) (a1 : Int32) (M : sy_M) : sy_O :=
  if a1 < 826 then
    sy_bx (xe_in a1 826) <|
    sy_bx (xe_in a1 826) <|
    let M2 := sy_upd M 122 (Int32.toNatClampNeg a1) (M 123 (Int32.toNatClampNeg a1))
    let v3 := a1 + 1
    k16 v3 M2
  else
    let M1 := sy_upd M 121 6 0
    sy_ri 1 M1
def jfX12_back_16 : Nat → Int32 → sy_M → sy_O
  | 0, _, _ => none
  | n + 1, a1, M => jgX12_back_16 (jfX12_back_16 n) a1 M
set_option maxRecDepth 100000 in
theorem jrX12_back_16 (k16 : Int32 → sy_M → sy_O) (a1 : Int32) (M : sy_M) : sy_run skX12 qX12_back [(16, .iload_n 1, 1, []), (17, .sipush 826, 3, []), (20, .if_icmp .ge 21, 3, []), (23, .aload_n 0, 1, []), (24, .getfield 7, 3, []), (27, .iload_n 1, 1, []), (28, .aload_n 0, 1, []), (29, .getfield 13, 3, []), (32, .iload_n 1, 1, []), (33, .iaload, 1, []), (34, .iastore, 1, []), (35, .iinc 1 1, 3, []), (38, .goto (-22), 3, []), (41, .aload_n 0, 1, [true, false]), (42, .iconst 0, 1, []), (43, .putfield 185, 3, []), (46, .iconst 1, 1, []), (47, .ireturn, 1, [])] [] [(16, juX12_back_16 k16)] 19 [] 16 [.ref 121, .int a1] [] M = jgX12_back_16 k16 a1 M := rfl
theorem jtX12_back_16 : ∀ n : Nat, ∀ (a1 : Int32) (M : sy_M) (r : xe_R × sy_M), jfX12_back_16 n a1 M = some r → sy_E (1) qX12_back 16 [.ref 121, .int a1] [] M r := by
  intro n
  induction n with
  | zero => intro a1 M r h; exact absurd (show (none : sy_O) = some r from h) (by simp)
  | succ n ih => intro a1 M r h; exact sy_run_by (d := 0) ((jrX12_back_16 _ _ M).trans h) hkX12 (by decide +kernel) sy_cs_nil (sy_us_cons (jwX12_back_16 ih) sy_us_nil)
def jfX12_back (M : sy_M) : sy_O :=
  let M1 := sy_upd M 121 0 0
  if (M1 121 3) = 0 then
    sy_ri 0 M1
  else
    jfX12_back_16 sy_F 0 M1
set_option maxRecDepth 100000 in
theorem jrX12_back (M : sy_M) : sy_run skX12 qX12_back [(0, .aload_n 0, 1, []), (1, .iconst 0, 1, []), (2, .putfield 45, 3, []), (5, .aload_n 0, 1, []), (6, .getfield 396, 3, []), (9, .ifCond .ne 5, 3, []), (12, .iconst 0, 1, []), (13, .ireturn, 1, []), (14, .iconst 0, 1, [true, false]), (15, .istore_n 1, 1, [])] [] [(16, juX12_back_16 (jfX12_back_16 sy_F))] 11 [] 0 [.ref 121, xe_no] [] M = jfX12_back M := rfl
theorem jtX12_back : ∀ (M : sy_M) (r : xe_R × sy_M), jfX12_back M = some r → sy_E (1) qX12_back 0 [.ref 121, xe_no] [] M r := by
  intro  M r h
  exact sy_run_by (d := 0) ((jrX12_back M).trans h) hkX12 (by decide +kernel) sy_cs_nil (sy_us_cons (jwX12_back_16 (jtX12_back_16 sy_F)) sy_us_nil)
def jcX12_back (as : List Value) (M : sy_M) (K : sy_O → sy_O) : sy_O := sy_xc 121 as fun l => sy_xn l (K (jfX12_back M))
theorem jeX12_back : sy_snd (1) 319 (jcX12_back) := by
  intro as M K r h
  obtain ⟨l, e, h1⟩ := sy_xc_ok h; subst e
  obtain ⟨e, h2⟩ := sy_xn_ok h1; subst e
  exact ⟨_, h2, fun r1 h0 => ⟨qX12_back, rfl, rfl, jtX12_back  M r1 h0⟩⟩
/-! X11_count StairMeter count (I)I [('R', 0), 'I'] -/
def juX11_count_164 (k : sy_M → sy_O) (ls st : List Value) (M : sy_M) : sy_O := sy_xc 0 ls fun l => sy_xv l fun _ l => sy_xn l (sy_xn st (k M))
theorem jwX11_count_164 {d : Nat} {k : sy_M → sy_O} (hk : ∀ (w1 : Value) (M : sy_M) (r : xe_R × sy_M), k M = some r → sy_E (d) qX11_count 164 [.ref 0, w1] [] M r) : ∀ ls st M r, juX11_count_164 k ls st M = some r → sy_E d qX11_count 164 ls st M r := by
  intro ls st M r h
  obtain ⟨l, e, h1⟩ := sy_xc_ok h; subst e
  obtain ⟨w1, l, e, h2⟩ := sy_xv_ok h1; subst e
  obtain ⟨e, h3⟩ := sy_xn_ok h2; subst e
  obtain ⟨e, h4⟩ := sy_xn_ok h3; subst e
  exact hk _ M r h4
def juX11_count_174 (k : sy_M → sy_O) (ls st : List Value) (M : sy_M) : sy_O := sy_xc 0 ls fun l => sy_xv l fun _ l => sy_xn l (sy_xn st (k M))
theorem jwX11_count_174 {d : Nat} {k : sy_M → sy_O} (hk : ∀ (w1 : Value) (M : sy_M) (r : xe_R × sy_M), k M = some r → sy_E (d) qX11_count 174 [.ref 0, w1] [] M r) : ∀ ls st M r, juX11_count_174 k ls st M = some r → sy_E d qX11_count 174 ls st M r := by
  intro ls st M r h
  obtain ⟨l, e, h1⟩ := sy_xc_ok h; subst e
  obtain ⟨w1, l, e, h2⟩ := sy_xv_ok h1; subst e
  obtain ⟨e, h3⟩ := sy_xn_ok h2; subst e
  obtain ⟨e, h4⟩ := sy_xn_ok h3; subst e
  exact hk _ M r h4
def jfX11_count_164 (M : sy_M) : sy_O :=
  sy_bi (jfX2_sum 9 7 M) fun v2 M1 =>
  sy_ri v2 M1
set_option maxRecDepth 100000 in
theorem jrX11_count_164 (w1 : Value) (M : sy_M) : sy_run skX11 qX11_count [(164, .aload_n 0, 1, [true, false]), (165, .getfield 28, 3, []), (168, .bipush 7, 2, []), (170, .invokevirtual 171, 3, []), (173, .ireturn, 1, [])] [(12, 0, jcX2_sum)] [] 6 [] 164 [.ref 0, w1] [] M = jfX11_count_164 M := rfl
theorem jtX11_count_164 : ∀ (w1 : Value) (M : sy_M) (r : xe_R × sy_M), jfX11_count_164 M = some r → sy_E (3) qX11_count 164 [.ref 0, w1] [] M r := by
  intro w1 M r h
  exact sy_run_by (d := 2) ((jrX11_count_164 _ M).trans h) hkX11 (by decide +kernel) (sy_cs_cons (jeX2_sum.deep (by decide)) sy_cs_nil) sy_us_nil
def jfX11_count_174 (M : sy_M) : sy_O :=
  sy_bi (jfX2_sum 9 5 M) fun v2 M1 =>
  sy_ri v2 M1
set_option maxRecDepth 100000 in
theorem jrX11_count_174 (w1 : Value) (M : sy_M) : sy_run skX11 qX11_count [(174, .aload_n 0, 1, [true, false]), (175, .getfield 28, 3, []), (178, .iconst 5, 1, []), (179, .invokevirtual 171, 3, []), (182, .ireturn, 1, [])] [(12, 0, jcX2_sum)] [] 6 [] 174 [.ref 0, w1] [] M = jfX11_count_174 M := rfl
theorem jtX11_count_174 : ∀ (w1 : Value) (M : sy_M) (r : xe_R × sy_M), jfX11_count_174 M = some r → sy_E (3) qX11_count 174 [.ref 0, w1] [] M r := by
  intro w1 M r h
  exact sy_run_by (d := 2) ((jrX11_count_174 _ M).trans h) hkX11 (by decide +kernel) (sy_cs_cons (jeX2_sum.deep (by decide)) sy_cs_nil) sy_us_nil
def jfX11_count (a1 : Int32) (M : sy_M) : sy_O :=
  if a1 = 0 then
    sy_ri (M 9 3) M
  else if a1 = 1 then
    sy_ri (M 9 4) M
  else if a1 = 2 then
    sy_ri (M 29 6) M
  else if a1 = 3 then
    sy_ri (M 9 5) M
  else if a1 = 4 then
    sy_ri (M 9 6) M
  else if a1 = 5 then
    sy_ri (M 9 7) M
  else if a1 = 6 then
    sy_ri (M 9 8) M
  else if a1 = 7 then
    sy_ri (M 9 9) M
  else if a1 = 8 then
    sy_ri (M 9 10) M
  else if a1 = 9 then
    sy_ri (M 9 11) M
  else if a1 = 10 then
    sy_ri (M 9 12) M
  else if a1 = 11 then
    jfX11_count_164 M
  else if a1 = 12 then
    jfX11_count_174 M
  else if a1 = 13 then
    sy_ri (M 12 2) M
  else if a1 = 14 then
    sy_ri (M 57 1) M
  else sy_ri (-1) M
set_option maxRecDepth 100000 in
theorem jrX11_count (a1 : Int32) (M : sy_M) : sy_run skX11 qX11_count [(0, .iload_n 1, 1, []), (1, .tableswitch 201 0 14 #[75, 83, 91, 99, 107, 115, 123, 131, 139, 147, 155, 163, 173, 182, 193], 75, []), (76, .aload_n 0, 1, [true, false]), (77, .getfield 28, 3, []), (80, .getfield 207, 3, []), (83, .ireturn, 1, []), (84, .aload_n 0, 1, [true, false]), (85, .getfield 28, 3, []), (88, .getfield 130, 3, []), (91, .ireturn, 1, []), (92, .aload_n 0, 1, [true, false]), (93, .getfield 44, 3, []), (96, .getfield 146, 3, []), (99, .ireturn, 1, []), (100, .aload_n 0, 1, [true, false]), (101, .getfield 28, 3, []), (104, .getfield 210, 3, []), (107, .ireturn, 1, []), (108, .aload_n 0, 1, [true, false]), (109, .getfield 28, 3, []), (112, .getfield 213, 3, []), (115, .ireturn, 1, []), (116, .aload_n 0, 1, [true, false]), (117, .getfield 28, 3, []), (120, .getfield 215, 3, []), (123, .ireturn, 1, []), (124, .aload_n 0, 1, [true, false]), (125, .getfield 28, 3, []), (128, .getfield 218, 3, []), (131, .ireturn, 1, []), (132, .aload_n 0, 1, [true, false]), (133, .getfield 28, 3, []), (136, .getfield 221, 3, []), (139, .ireturn, 1, []), (140, .aload_n 0, 1, [true, false]), (141, .getfield 28, 3, []), (144, .getfield 224, 3, []), (147, .ireturn, 1, []), (148, .aload_n 0, 1, [true, false]), (149, .getfield 28, 3, []), (152, .getfield 227, 3, []), (155, .ireturn, 1, []), (156, .aload_n 0, 1, [true, false]), (157, .getfield 28, 3, []), (160, .getfield 230, 3, []), (163, .ireturn, 1, []), (183, .aload_n 0, 1, [true, false]), (184, .getfield 28, 3, []), (187, .getfield 233, 3, []), (190, .getfield 237, 3, []), (193, .ireturn, 1, []), (194, .aload_n 0, 1, [true, false]), (195, .getfield 89, 3, []), (198, .getfield 242, 3, []), (201, .ireturn, 1, []), (202, .iconst (-1), 1, [false, false]), (203, .ireturn, 1, [])] [] [(164, juX11_count_164 (jfX11_count_164)), (174, juX11_count_174 (jfX11_count_174))] 58 [] 0 [.ref 0, .int a1] [] M = jfX11_count a1 M := rfl
theorem jtX11_count : ∀ (a1 : Int32) (M : sy_M) (r : xe_R × sy_M), jfX11_count a1 M = some r → sy_E (3) qX11_count 0 [.ref 0, .int a1] [] M r := by
  intro a1 M r h
  exact sy_run_by (d := 2) ((jrX11_count _ M).trans h) hkX11 (by decide +kernel) sy_cs_nil (sy_us_cons (jwX11_count_164 (jtX11_count_164)) (sy_us_cons (jwX11_count_174 (jtX11_count_174)) sy_us_nil))
def jcX11_count (as : List Value) (M : sy_M) (K : sy_O → sy_O) : sy_O := sy_xc 0 as fun l => sy_xi l fun a1 l => sy_xn l (K (jfX11_count a1 M))
theorem jeX11_count : sy_snd (3) 99 (jcX11_count) := by
  intro as M K r h
  obtain ⟨l, e, h1⟩ := sy_xc_ok h; subst e
  obtain ⟨a1, l, e, h2⟩ := sy_xi_ok h1; subst e
  obtain ⟨e, h3⟩ := sy_xn_ok h2; subst e
  exact ⟨_, h3, fun r1 h0 => ⟨qX11_count, rfl, rfl, jtX11_count _ M r1 h0⟩⟩
/-! X12_count StairMeterModel count (I)I [('R', 121), 'I'] -/
def juX12_count_101 (k : Int32 → Int32 → Int32 → sy_M → sy_O) (ls st : List Value) (M : sy_M) : sy_O := sy_xc 121 ls fun l => sy_xi l fun a1 l => sy_xi l fun a2 l => sy_xi l fun a3 l => sy_xn l (sy_xn st (k a1 a2 a3 M))
theorem jwX12_count_101 {d : Nat} {k : Int32 → Int32 → Int32 → sy_M → sy_O} (hk : ∀ (a1 : Int32) (a2 : Int32) (a3 : Int32) (M : sy_M) (r : xe_R × sy_M), k a1 a2 a3 M = some r → sy_E (d) qX12_count 101 [.ref 121, .int a1, .int a2, .int a3] [] M r) : ∀ ls st M r, juX12_count_101 k ls st M = some r → sy_E d qX12_count 101 ls st M r := by
  intro ls st M r h
  obtain ⟨l, e, h1⟩ := sy_xc_ok h; subst e
  obtain ⟨a1, l, e, h2⟩ := sy_xi_ok h1; subst e
  obtain ⟨a2, l, e, h3⟩ := sy_xi_ok h2; subst e
  obtain ⟨a3, l, e, h4⟩ := sy_xi_ok h3; subst e
  obtain ⟨e, h5⟩ := sy_xn_ok h4; subst e
  obtain ⟨e, h6⟩ := sy_xn_ok h5; subst e
  exact hk a1 a2 a3 M r h6
def jgX12_count_101 (k101 : Int32 → Int32 → Int32 → sy_M → sy_O) (a1 : Int32) (a2 : Int32) (a3 : Int32) (M : sy_M) : sy_O :=
  if a3 < (M 122 3) then
    sy_bi (jfX12_of a3 5 M) fun v2 M1 =>
    let v3 := (a2 + v2)
    let v4 := a3 + 1
    k101 a1 v3 v4 M1
  else
    if a1 = 12 then
      sy_ri a2 M
    else
      sy_ri (-1) M
def jfX12_count_101 : Nat → Int32 → Int32 → Int32 → sy_M → sy_O
  | 0, _, _, _, _ => none
  | n + 1, a1, a2, a3, M => jgX12_count_101 (jfX12_count_101 n) a1 a2 a3 M
set_option maxRecDepth 100000 in
theorem jrX12_count_101 (k101 : Int32 → Int32 → Int32 → sy_M → sy_O) (a1 : Int32) (a2 : Int32) (a3 : Int32) (M : sy_M) : sy_run skX12 qX12_count [(101, .iload_n 3, 1, []), (102, .aload_n 0, 1, []), (103, .getfield 7, 3, []), (106, .iconst 3, 1, []), (107, .iaload, 1, []), (108, .if_icmp .ge 18, 3, []), (111, .iload_n 2, 1, []), (112, .aload_n 0, 1, []), (113, .iload_n 3, 1, []), (114, .iconst 5, 1, []), (115, .invokevirtual 52, 3, []), (118, .iadd, 1, []), (119, .istore_n 2, 1, []), (120, .iinc 3 1, 3, []), (123, .goto (-22), 3, []), (126, .iload_n 1, 1, [false, true, true, false]), (127, .bipush 12, 2, []), (129, .if_icmp .ne 7, 3, []), (132, .iload_n 2, 1, []), (133, .goto 4, 3, []), (136, .iconst (-1), 1, [false, false, false, false]), (137, .ireturn, 1, [false, false, false, false])] [(187, 0, jcX12_of)] [(101, juX12_count_101 k101)] 23 [] 101 [.ref 121, .int a1, .int a2, .int a3] [] M = jgX12_count_101 k101 a1 a2 a3 M := rfl
theorem jtX12_count_101 : ∀ n : Nat, ∀ (a1 : Int32) (a2 : Int32) (a3 : Int32) (M : sy_M) (r : xe_R × sy_M), jfX12_count_101 n a1 a2 a3 M = some r → sy_E (3) qX12_count 101 [.ref 121, .int a1, .int a2, .int a3] [] M r := by
  intro n
  induction n with
  | zero => intro a1 a2 a3 M r h; exact absurd (show (none : sy_O) = some r from h) (by simp)
  | succ n ih => intro a1 a2 a3 M r h; exact sy_run_by (d := 2) ((jrX12_count_101 _ _ _ _ M).trans h) hkX12 (by decide +kernel) (sy_cs_cons (jeX12_of.deep (by decide)) sy_cs_nil) (sy_us_cons (jwX12_count_101 ih) sy_us_nil)
def jfX12_count (a1 : Int32) (M : sy_M) : sy_O :=
  let M1 := sy_upd M 121 0 0
  if a1 = 0 then
    sy_ri (M1 122 3) M1
  else
    if a1 = 1 then
      sy_ri (M1 122 0) M1
    else
      if a1 = 2 then
        sy_ri (M1 122 1) M1
      else
        sy_bi (jfX12_isIn a1 3 10 M1) fun v3 M2 =>
        if v3 = 0 then
          if a1 = 11 then
            sy_bi (jfX12_coldOfAll M2) fun v5 M4 =>
            sy_ri v5 M4
          else
            if a1 = 13 then
              sy_ri (M2 122 12) M2
            else
              if a1 = 14 then
                sy_ri (M2 121 6) M2
              else
                jfX12_count_101 sy_F a1 0 0 M2
        else
          sy_bx (xe_in ((4 + a1) - 3) 826) <|
          sy_ri (M2 122 (Int32.toNatClampNeg ((4 + a1) - 3))) M2
set_option maxRecDepth 100000 in
theorem jrX12_count (a1 : Int32) (M : sy_M) : sy_run skX12 qX12_count [(0, .aload_n 0, 1, []), (1, .iconst 0, 1, []), (2, .putfield 45, 3, []), (5, .iload_n 1, 1, []), (6, .ifCond .ne 10, 3, []), (9, .aload_n 0, 1, []), (10, .getfield 7, 3, []), (13, .iconst 3, 1, []), (14, .iaload, 1, []), (15, .ireturn, 1, []), (16, .iload_n 1, 1, [true, true, false, false]), (17, .iconst 1, 1, []), (18, .if_icmp .ne 10, 3, []), (21, .aload_n 0, 1, []), (22, .getfield 7, 3, []), (25, .iconst 0, 1, []), (26, .iaload, 1, []), (27, .ireturn, 1, []), (28, .iload_n 1, 1, [true, true, false, false]), (29, .iconst 2, 1, []), (30, .if_icmp .ne 10, 3, []), (33, .aload_n 0, 1, []), (34, .getfield 7, 3, []), (37, .iconst 1, 1, []), (38, .iaload, 1, []), (39, .ireturn, 1, []), (40, .iload_n 1, 1, [true, true, false, false]), (41, .iconst 3, 1, []), (42, .bipush 10, 2, []), (44, .invokestatic 48, 3, []), (47, .ifCond .eq 14, 3, []), (50, .aload_n 0, 1, []), (51, .getfield 7, 3, []), (54, .iconst 4, 1, []), (55, .iload_n 1, 1, []), (56, .iadd, 1, []), (57, .iconst 3, 1, []), (58, .isub, 1, []), (59, .iaload, 1, []), (60, .ireturn, 1, []), (61, .iload_n 1, 1, [true, true, false, false]), (62, .bipush 11, 2, []), (64, .if_icmp .ne 8, 3, []), (67, .aload_n 0, 1, []), (68, .invokevirtual 346, 3, []), (71, .ireturn, 1, []), (72, .iload_n 1, 1, [true, true, false, false]), (73, .bipush 13, 2, []), (75, .if_icmp .ne 11, 3, []), (78, .aload_n 0, 1, []), (79, .getfield 7, 3, []), (82, .bipush 12, 2, []), (84, .iaload, 1, []), (85, .ireturn, 1, []), (86, .iload_n 1, 1, [true, true, false, false]), (87, .bipush 14, 2, []), (89, .if_icmp .ne 8, 3, []), (92, .aload_n 0, 1, []), (93, .getfield 185, 3, []), (96, .ireturn, 1, []), (97, .iconst 0, 1, [true, true, false, false]), (98, .istore_n 2, 1, []), (99, .iconst 0, 1, []), (100, .istore_n 3, 1, [])] [(182, 0, jcX12_isIn), (237, 0, jcX12_coldOfAll)] [(101, juX12_count_101 (jfX12_count_101 sy_F))] 65 [] 0 [.ref 121, .int a1, xe_no, xe_no] [] M = jfX12_count a1 M := rfl
theorem jtX12_count : ∀ (a1 : Int32) (M : sy_M) (r : xe_R × sy_M), jfX12_count a1 M = some r → sy_E (3) qX12_count 0 [.ref 121, .int a1, xe_no, xe_no] [] M r := by
  intro a1 M r h
  exact sy_run_by (d := 2) ((jrX12_count _ M).trans h) hkX12 (by decide +kernel) (sy_cs_cons (jeX12_isIn.deep (by decide)) (sy_cs_cons (jeX12_coldOfAll.deep (by decide)) sy_cs_nil)) (sy_us_cons (jwX12_count_101 (jtX12_count_101 sy_F)) sy_us_nil)
def jcX12_count (as : List Value) (M : sy_M) (K : sy_O → sy_O) : sy_O := sy_xc 121 as fun l => sy_xi l fun a1 l => sy_xn l (K (jfX12_count a1 M))
theorem jeX12_count : sy_snd (3) 320 (jcX12_count) := by
  intro as M K r h
  obtain ⟨l, e, h1⟩ := sy_xc_ok h; subst e
  obtain ⟨a1, l, e, h2⟩ := sy_xi_ok h1; subst e
  obtain ⟨e, h3⟩ := sy_xn_ok h2; subst e
  exact ⟨_, h3, fun r1 h0 => ⟨qX12_count, rfl, rfl, jtX12_count _ M r1 h0⟩⟩
end
