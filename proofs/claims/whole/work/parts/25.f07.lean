/-! ===== functions of the methods (7); written by wip/whole/run_f.py ===== -/
noncomputable section
/-! X0_remember StairMeter$Acts remember (LStairMeter$House;)V [('R', 57), 'A'] -/
def juX0_remember_41 (k : Int32 → sy_M → sy_O) (ls st : List Value) (M : sy_M) : sy_O := sy_xc 57 ls fun l => sy_xv l fun _ l => sy_xv l fun _ l => sy_xn l (sy_xi st fun s0 l => sy_xc 57 l fun l => sy_xn l (k s0 M))
theorem jwX0_remember_41 {d : Nat} {k : Int32 → sy_M → sy_O} (hk : ∀ (w1 : Value) (w2 : Value) (s0 : Int32) (M : sy_M) (r : xe_R × sy_M), k s0 M = some r → sy_E (d) qX0_remember 41 [.ref 57, w1, w2] [.int s0, .ref 57] M r) : ∀ ls st M r, juX0_remember_41 k ls st M = some r → sy_E d qX0_remember 41 ls st M r := by
  intro ls st M r h
  obtain ⟨l, e, h1⟩ := sy_xc_ok h; subst e
  obtain ⟨w1, l, e, h2⟩ := sy_xv_ok h1; subst e
  obtain ⟨w2, l, e, h3⟩ := sy_xv_ok h2; subst e
  obtain ⟨e, h4⟩ := sy_xn_ok h3; subst e
  obtain ⟨s0, l, e, h5⟩ := sy_xi_ok h4; subst e
  obtain ⟨l, e, h6⟩ := sy_xc_ok h5; subst e
  obtain ⟨e, h7⟩ := sy_xn_ok h6; subst e
  exact hk _ _ s0 M r h7
def jfX0_remember_41 (s0 : Int32) (M : sy_M) : sy_O :=
  let M1 := sy_upd M 57 2 s0
  sy_bi (jfJ9_min_7cf53 12 ((M1 57 1) + 1) M1) fun v3 M2 =>
  let M4 := sy_upd M2 57 1 v3
  sy_rv M4
set_option maxRecDepth 100000 in
theorem jrX0_remember_41 (w1 : Value) (w2 : Value) (s0 : Int32) (M : sy_M) : sy_run skX0 qX0_remember [(41, .putfield 24, 3, [true, false, false]), (44, .aload_n 0, 1, []), (45, .bipush 12, 2, []), (47, .aload_n 0, 1, []), (48, .getfield 20, 3, []), (51, .iconst 1, 1, []), (52, .iadd, 1, []), (53, .invokestatic 35, 3, []), (56, .putfield 20, 3, []), (59, .return_, 1, [])] [(360, 0, jcJ9_min_7cf53)] [] 11 [] 41 [.ref 57, w1, w2] [.int s0, .ref 57] M = jfX0_remember_41 s0 M := rfl
theorem jtX0_remember_41 : ∀ (w1 : Value) (w2 : Value) (s0 : Int32) (M : sy_M) (r : xe_R × sy_M), jfX0_remember_41 s0 M = some r → sy_E (3) qX0_remember 41 [.ref 57, w1, w2] [.int s0, .ref 57] M r := by
  intro w1 w2 s0 M r h
  exact sy_run_by (d := 2) ((jrX0_remember_41 _ _ _ M).trans h) hkX0 (by decide +kernel) (sy_cs_cons (jeJ9_min_7cf53.deep (by decide)) sy_cs_nil) sy_us_nil
def jfX0_remember (r1 : Nat) (M : sy_M) : sy_O :=
  sy_br (jfX0_slot (M 57 2) M) (fun r2 M1 =>
  sy_bs (sy_is 2 r2) <|
    sy_bv (jfX2_takeOver r2 r1 M1) fun M4 =>
    if ((M4 57 2) + 1) < 12 then
      jfX0_remember_41 ((M4 57 2) + 1) M4
    else
      jfX0_remember_41 0 M4)
  (fun M3 =>
  sy_rv M3)
set_option maxRecDepth 100000 in
theorem jrX0_remember (r1 : Nat) (M : sy_M) : sy_run skX0 qX0_remember [(0, .aload_n 0, 1, []), (1, .aload_n 0, 1, []), (2, .getfield 24, 3, []), (5, .invokevirtual 27, 3, []), (8, .astore_n 2, 1, []), (9, .aload_n 2, 1, []), (10, .ifnonnull 4, 3, []), (13, .return_, 1, []), (14, .aload_n 2, 1, []), (15, .aload_n 1, 1, []), (16, .invokevirtual 31, 3, []), (19, .aload_n 0, 1, []), (20, .aload_n 0, 1, []), (21, .getfield 24, 3, []), (24, .iconst 1, 1, []), (25, .iadd, 1, []), (26, .bipush 12, 2, []), (28, .if_icmp .ge 12, 3, []), (31, .aload_n 0, 1, []), (32, .getfield 24, 3, []), (35, .iconst 1, 1, []), (36, .iadd, 1, []), (37, .goto 4, 3, []), (40, .iconst 0, 1, [true, false, false])] [(1, 2, jcX0_slot), (9, 1, jcX2_takeOver)] [(41, juX0_remember_41 (jfX0_remember_41))] 25 [] 0 [.ref 57, .ref r1, xe_no] [] M = jfX0_remember r1 M := rfl
theorem jtX0_remember : ∀ (r1 : Nat) (M : sy_M) (r : xe_R × sy_M), jfX0_remember r1 M = some r → sy_E (3) qX0_remember 0 [.ref 57, .ref r1, xe_no] [] M r := by
  intro r1 M r h
  exact sy_run_by (d := 2) ((jrX0_remember _ M).trans h) hkX0 (by decide +kernel) (sy_cs_cons (jeX0_slot.deep (by decide)) (sy_cs_cons (jeX2_takeOver.deep (by decide)) sy_cs_nil)) (sy_us_cons (jwX0_remember_41 (jtX0_remember_41)) sy_us_nil)
def jcX0_remember (as : List Value) (M : sy_M) (K : sy_O → sy_O) : sy_O := sy_xc 57 as fun l => sy_xa l fun r1 l => sy_xn l (K (jfX0_remember r1 M))
theorem jeX0_remember : sy_snd (3) 2 (jcX0_remember) := by
  intro as M K r h
  obtain ⟨l, e, h1⟩ := sy_xc_ok h; subst e
  obtain ⟨r1, l, e, h2⟩ := sy_xa_ok h1; subst e
  obtain ⟨e, h3⟩ := sy_xn_ok h2; subst e
  exact ⟨_, h3, fun r1 h0 => ⟨qX0_remember, rfl, rfl, jtX0_remember _ M r1 h0⟩⟩
/-! X11_ticks StairMeter ticks (I)I [('R', 0), 'I'] -/
def juX11_ticks_62 (k : Int32 → Int32 → Int32 → sy_M → sy_O) (ls st : List Value) (M : sy_M) : sy_O := sy_xc 0 ls fun l => sy_xi l fun a1 l => sy_xi l fun a2 l => sy_xi l fun a3 l => sy_xn l (sy_xn st (k a1 a2 a3 M))
theorem jwX11_ticks_62 {d : Nat} {k : Int32 → Int32 → Int32 → sy_M → sy_O} (hk : ∀ (a1 : Int32) (a2 : Int32) (a3 : Int32) (M : sy_M) (r : xe_R × sy_M), k a1 a2 a3 M = some r → sy_E (d) qX11_ticks 62 [.ref 0, .int a1, .int a2, .int a3] [] M r) : ∀ ls st M r, juX11_ticks_62 k ls st M = some r → sy_E d qX11_ticks 62 ls st M r := by
  intro ls st M r h
  obtain ⟨l, e, h1⟩ := sy_xc_ok h; subst e
  obtain ⟨a1, l, e, h2⟩ := sy_xi_ok h1; subst e
  obtain ⟨a2, l, e, h3⟩ := sy_xi_ok h2; subst e
  obtain ⟨a3, l, e, h4⟩ := sy_xi_ok h3; subst e
  obtain ⟨e, h5⟩ := sy_xn_ok h4; subst e
  obtain ⟨e, h6⟩ := sy_xn_ok h5; subst e
  exact hk a1 a2 a3 M r h6
def juX11_ticks_33 (k : Int32 → Int32 → Int32 → sy_M → sy_O) (ls st : List Value) (M : sy_M) : sy_O := sy_xc 0 ls fun l => sy_xi l fun a1 l => sy_xi l fun a2 l => sy_xi l fun a3 l => sy_xn l (sy_xn st (k a1 a2 a3 M))
theorem jwX11_ticks_33 {d : Nat} {k : Int32 → Int32 → Int32 → sy_M → sy_O} (hk : ∀ (a1 : Int32) (a2 : Int32) (a3 : Int32) (M : sy_M) (r : xe_R × sy_M), k a1 a2 a3 M = some r → sy_E (d) qX11_ticks 33 [.ref 0, .int a1, .int a2, .int a3] [] M r) : ∀ ls st M r, juX11_ticks_33 k ls st M = some r → sy_E d qX11_ticks 33 ls st M r := by
  intro ls st M r h
  obtain ⟨l, e, h1⟩ := sy_xc_ok h; subst e
  obtain ⟨a1, l, e, h2⟩ := sy_xi_ok h1; subst e
  obtain ⟨a2, l, e, h3⟩ := sy_xi_ok h2; subst e
  obtain ⟨a3, l, e, h4⟩ := sy_xi_ok h3; subst e
  obtain ⟨e, h5⟩ := sy_xn_ok h4; subst e
  obtain ⟨e, h6⟩ := sy_xn_ok h5; subst e
  exact hk a1 a2 a3 M r h6
def jfX11_ticks_62 (k33 : Int32 → Int32 → Int32 → sy_M → sy_O) (a1 : Int32) (a2 : Int32) (a3 : Int32) (M : sy_M) : sy_O :=
  let v1 := a3 + 1
  k33 a1 a2 v1 M
set_option maxRecDepth 100000 in
theorem jrX11_ticks_62 (k33 : Int32 → Int32 → Int32 → sy_M → sy_O) (a1 : Int32) (a2 : Int32) (a3 : Int32) (M : sy_M) : sy_run skX11 qX11_ticks [(62, .iinc 3 1, 3, []), (65, .goto (-32), 3, [])] [] [(33, juX11_ticks_33 k33)] 3 [] 62 [.ref 0, .int a1, .int a2, .int a3] [] M = jfX11_ticks_62 k33 a1 a2 a3 M := rfl
theorem jtX11_ticks_62 {k33 : Int32 → Int32 → Int32 → sy_M → sy_O} (hk33 : ∀ (a1 : Int32) (a2 : Int32) (a3 : Int32) (M : sy_M) (r : xe_R × sy_M), k33 a1 a2 a3 M = some r → sy_E (5) qX11_ticks 33 [.ref 0, .int a1, .int a2, .int a3] [] M r) : ∀ (a1 : Int32) (a2 : Int32) (a3 : Int32) (M : sy_M) (r : xe_R × sy_M), jfX11_ticks_62 k33 a1 a2 a3 M = some r → sy_E (5) qX11_ticks 62 [.ref 0, .int a1, .int a2, .int a3] [] M r := by
  intro a1 a2 a3 M r h
  exact sy_run_by (d := 4) ((jrX11_ticks_62 _ _ _ _ M).trans h) hkX11 (by decide +kernel) sy_cs_nil (sy_us_cons (jwX11_ticks_33 hk33) sy_us_nil)
def jgX11_ticks_33 (k33 : Int32 → Int32 → Int32 → sy_M → sy_O) (a1 : Int32) (a2 : Int32) (a3 : Int32) (M : sy_M) : sy_O :=
  if a3 < a1 then
    sy_bi (jfX8_pass 9 29 1 M) fun v2 M1 =>
    if v2 = (-2) then
      jfX11_ticks_62 k33 a1 a2 a3 M1
    else
      let v3 := a2 + 1
      jfX11_ticks_62 k33 a1 v3 a3 M1
  else
    sy_ri a2 M
def jfX11_ticks_33 : Nat → Int32 → Int32 → Int32 → sy_M → sy_O
  | 0, _, _, _, _ => none
  | n + 1, a1, a2, a3, M => jgX11_ticks_33 (jfX11_ticks_33 n) a1 a2 a3 M
set_option maxRecDepth 100000 in
theorem jrX11_ticks_33 (k33 : Int32 → Int32 → Int32 → sy_M → sy_O) (a1 : Int32) (a2 : Int32) (a3 : Int32) (M : sy_M) : sy_run skX11 qX11_ticks [(33, .iload_n 3, 1, []), (34, .iload_n 1, 1, []), (35, .if_icmp .ge 33, 3, []), (38, .aload_n 0, 1, []), (39, .getfield 75, 3, []), (42, .aload_n 0, 1, []), (43, .getfield 28, 3, []), (46, .aload_n 0, 1, []), (47, .getfield 44, 3, []), (50, .iconst 1, 1, []), (51, .invokevirtual 255, 3, []), (54, .bipush (-2), 2, []), (56, .if_icmp .eq 6, 3, []), (59, .iinc 2 1, 3, []), (68, .iload_n 2, 1, [false, false, true, false]), (69, .ireturn, 1, [])] [(66, 0, jcX8_pass)] [(62, juX11_ticks_62 (jfX11_ticks_62 k33))] 17 [] 33 [.ref 0, .int a1, .int a2, .int a3] [] M = jgX11_ticks_33 k33 a1 a2 a3 M := rfl
theorem jtX11_ticks_33 : ∀ n : Nat, ∀ (a1 : Int32) (a2 : Int32) (a3 : Int32) (M : sy_M) (r : xe_R × sy_M), jfX11_ticks_33 n a1 a2 a3 M = some r → sy_E (5) qX11_ticks 33 [.ref 0, .int a1, .int a2, .int a3] [] M r := by
  intro n
  induction n with
  | zero => intro a1 a2 a3 M r h; exact absurd (show (none : sy_O) = some r from h) (by simp)
  | succ n ih => intro a1 a2 a3 M r h; exact sy_run_by (d := 4) ((jrX11_ticks_33 _ _ _ _ M).trans h) hkX11 (by decide +kernel) (sy_cs_cons (jeX8_pass.deep (by decide)) sy_cs_nil) (sy_us_cons (jwX11_ticks_62 (jtX11_ticks_62 ih)) sy_us_nil)
def jfX11_ticks (a1 : Int32) (M : sy_M) : sy_O :=
  sy_bv (jfX11_checkRange a1 1 96 M) fun M1 =>
  sy_bv (jfX0_remember 9 M1) fun M2 =>
  sy_bv (jfX8_learn 9 M2) fun M3 =>
  jfX11_ticks_33 sy_F a1 0 0 M3
set_option maxRecDepth 100000 in
theorem jrX11_ticks (a1 : Int32) (M : sy_M) : sy_run skX11 qX11_ticks [(0, .iload_n 1, 1, []), (1, .iconst 1, 1, []), (2, .bipush 96, 2, []), (4, .invokestatic 248, 3, []), (7, .aload_n 0, 1, []), (8, .getfield 89, 3, []), (11, .aload_n 0, 1, []), (12, .getfield 28, 3, []), (15, .invokevirtual 252, 3, []), (18, .aload_n 0, 1, []), (19, .getfield 75, 3, []), (22, .aload_n 0, 1, []), (23, .getfield 28, 3, []), (26, .invokevirtual 181, 3, []), (29, .iconst 0, 1, []), (30, .istore_n 2, 1, []), (31, .iconst 0, 1, []), (32, .istore_n 3, 1, [])] [(179, 1, jcX11_checkRange), (2, 1, jcX0_remember), (63, 1, jcX8_learn)] [(33, juX11_ticks_33 (jfX11_ticks_33 sy_F))] 19 [] 0 [.ref 0, .int a1, xe_no, xe_no] [] M = jfX11_ticks a1 M := rfl
theorem jtX11_ticks : ∀ (a1 : Int32) (M : sy_M) (r : xe_R × sy_M), jfX11_ticks a1 M = some r → sy_E (5) qX11_ticks 0 [.ref 0, .int a1, xe_no, xe_no] [] M r := by
  intro a1 M r h
  exact sy_run_by (d := 4) ((jrX11_ticks _ M).trans h) hkX11 (by decide +kernel) (sy_cs_cons (jeX11_checkRange.deep (by decide)) (sy_cs_cons (jeX0_remember.deep (by decide)) (sy_cs_cons (jeX8_learn.deep (by decide)) sy_cs_nil))) (sy_us_cons (jwX11_ticks_33 (jtX11_ticks_33 sy_F)) sy_us_nil)
def jcX11_ticks (as : List Value) (M : sy_M) (K : sy_O → sy_O) : sy_O := sy_xc 0 as fun l => sy_xi l fun a1 l => sy_xn l (K (jfX11_ticks a1 M))
theorem jeX11_ticks : sy_snd (5) 101 (jcX11_ticks) := by
  intro as M K r h
  obtain ⟨l, e, h1⟩ := sy_xc_ok h; subst e
  obtain ⟨a1, l, e, h2⟩ := sy_xi_ok h1; subst e
  obtain ⟨e, h3⟩ := sy_xn_ok h2; subst e
  exact ⟨_, h3, fun r1 h0 => ⟨qX11_ticks, rfl, rfl, jtX11_ticks _ M r1 h0⟩⟩
/-! L_ticks StairMeterLaw ticks (LStairMeter;I[J)I [('R', 0), 'I', ('R', 132)] -/
def jfL_ticks (a1 : Int32) (M : sy_M) : sy_O :=
  sy_hi (jfX11_ticks a1 M) (fun v2 M1 =>
    let M5 := sy_wl M1 132 0 (Int32.toInt64 v2)
    sy_ri 0 M5)
  (fun c3 M4 => if c3 = 20 then sy_ri 1 M4 else none)
set_option maxRecDepth 100000 in
theorem jrL_ticks (a1 : Int32) (M : sy_M) : sy_run skL qL_ticks [(0, .aload_n 2, 1, []), (1, .iconst 0, 1, []), (2, .aload_n 0, 1, []), (3, .iload_n 1, 1, []), (4, .invokevirtual 39, 3, []), (7, .i2l, 1, []), (8, .lastore, 1, []), (9, .goto 6, 3, []), (12, .astore_n 3, 1, [false, false, false, false]), (13, .iconst 1, 1, []), (14, .ireturn, 1, []), (15, .iconst 0, 1, [false, false, false, false]), (16, .ireturn, 1, [])] [(101, 3, jcX11_ticks)] [] 14 [] 0 [.ref 0, .int a1, .ref 132, xe_no] [] M = jfL_ticks a1 M := rfl
theorem jtL_ticks : ∀ (a1 : Int32) (M : sy_M) (r : xe_R × sy_M), jfL_ticks a1 M = some r → sy_E (6) qL_ticks 0 [.ref 0, .int a1, .ref 132, xe_no] [] M r := by
  intro a1 M r h
  exact sy_run_by (d := 5) ((jrL_ticks _ M).trans h) hkL (by decide +kernel) (sy_cs_cons (jeX11_ticks.deep (by decide)) sy_cs_nil) sy_us_nil
def jcL_ticks (as : List Value) (M : sy_M) (K : sy_O → sy_O) : sy_O := sy_xc 0 as fun l => sy_xi l fun a1 l => sy_xc 132 l fun l => sy_xn l (K (jfL_ticks a1 M))
theorem jeL_ticks : sy_snd (6) 327 (jcL_ticks) := by
  intro as M K r h
  obtain ⟨l, e, h1⟩ := sy_xc_ok h; subst e
  obtain ⟨a1, l, e, h2⟩ := sy_xi_ok h1; subst e
  obtain ⟨l, e, h3⟩ := sy_xc_ok h2; subst e
  obtain ⟨e, h4⟩ := sy_xn_ok h3; subst e
  exact ⟨_, h4, fun r1 h0 => ⟨qL_ticks, rfl, rfl, jtL_ticks _ M r1 h0⟩⟩
/-! X12_remembers StairMeterModel remembers ()V [('R', 121)] -/
def juX12_remembers_52 (k : Int32 → sy_M → sy_O) (ls st : List Value) (M : sy_M) : sy_O := sy_xc 121 ls fun l => sy_xi l fun a1 l => sy_xn l (sy_xn st (k a1 M))
theorem jwX12_remembers_52 {d : Nat} {k : Int32 → sy_M → sy_O} (hk : ∀ (a1 : Int32) (M : sy_M) (r : xe_R × sy_M), k a1 M = some r → sy_E (d) qX12_remembers 52 [.ref 121, .int a1] [] M r) : ∀ ls st M r, juX12_remembers_52 k ls st M = some r → sy_E d qX12_remembers 52 ls st M r := by
  intro ls st M r h
  obtain ⟨l, e, h1⟩ := sy_xc_ok h; subst e
  obtain ⟨a1, l, e, h2⟩ := sy_xi_ok h1; subst e
  obtain ⟨e, h3⟩ := sy_xn_ok h2; subst e
  obtain ⟨e, h4⟩ := sy_xn_ok h3; subst e
  exact hk a1 M r h4
def juX12_remembers_50 (k : sy_M → sy_O) (ls st : List Value) (M : sy_M) : sy_O := sy_xc 121 ls fun l => sy_xv l fun _ l => sy_xn l (sy_xn st (k M))
theorem jwX12_remembers_50 {d : Nat} {k : sy_M → sy_O} (hk : ∀ (w1 : Value) (M : sy_M) (r : xe_R × sy_M), k M = some r → sy_E (d) qX12_remembers 50 [.ref 121, w1] [] M r) : ∀ ls st M r, juX12_remembers_50 k ls st M = some r → sy_E d qX12_remembers 50 ls st M r := by
  intro ls st M r h
  obtain ⟨l, e, h1⟩ := sy_xc_ok h; subst e
  obtain ⟨w1, l, e, h2⟩ := sy_xv_ok h1; subst e
  obtain ⟨e, h3⟩ := sy_xn_ok h2; subst e
  obtain ⟨e, h4⟩ := sy_xn_ok h3; subst e
  exact hk _ M r h4
def juX12_remembers_11 (k : Int32 → sy_M → sy_O) (ls st : List Value) (M : sy_M) : sy_O := sy_xc 121 ls fun l => sy_xi l fun a1 l => sy_xn l (sy_xn st (k a1 M))
theorem jwX12_remembers_11 {d : Nat} {k : Int32 → sy_M → sy_O} (hk : ∀ (a1 : Int32) (M : sy_M) (r : xe_R × sy_M), k a1 M = some r → sy_E (d) qX12_remembers 11 [.ref 121, .int a1] [] M r) : ∀ ls st M r, juX12_remembers_11 k ls st M = some r → sy_E d qX12_remembers 11 ls st M r := by
  intro ls st M r h
  obtain ⟨l, e, h1⟩ := sy_xc_ok h; subst e
  obtain ⟨a1, l, e, h2⟩ := sy_xi_ok h1; subst e
  obtain ⟨e, h3⟩ := sy_xn_ok h2; subst e
  obtain ⟨e, h4⟩ := sy_xn_ok h3; subst e
  exact hk a1 M r h4
def jgX12_remembers_52 (k52 : Int32 → sy_M → sy_O) (a1 : Int32) (M : sy_M) : sy_O :=
  if a1 < 426 then
    sy_bx (xe_in a1 826) <|
    sy_bx (xe_in ((426 * (M 121 6)) + a1) 5112) <|
    let M2 := sy_upd M 125 (Int32.toNatClampNeg ((426 * (M 121 6)) + a1)) (M 122 (Int32.toNatClampNeg a1))
    let v3 := a1 + 1
    k52 v3 M2
  else
    let M1 := sy_upd M 121 6 ((M 121 6) + 1)
    sy_rv M1
def jfX12_remembers_52 : Nat → Int32 → sy_M → sy_O
  | 0, _, _ => none
  | n + 1, a1, M => jgX12_remembers_52 (jfX12_remembers_52 n) a1 M
set_option maxRecDepth 100000 in
theorem jrX12_remembers_52 (k52 : Int32 → sy_M → sy_O) (a1 : Int32) (M : sy_M) : sy_run skX12 qX12_remembers [(52, .iload_n 1, 1, []), (53, .sipush 426, 3, []), (56, .if_icmp .ge 30, 3, []), (59, .aload_n 0, 1, []), (60, .getfield 19, 3, []), (63, .sipush 426, 3, []), (66, .aload_n 0, 1, []), (67, .getfield 185, 3, []), (70, .imul, 1, []), (71, .iload_n 1, 1, []), (72, .iadd, 1, []), (73, .aload_n 0, 1, []), (74, .getfield 7, 3, []), (77, .iload_n 1, 1, []), (78, .iaload, 1, []), (79, .iastore, 1, []), (80, .iinc 1 1, 3, []), (83, .goto (-31), 3, []), (86, .aload_n 0, 1, [true, false]), (87, .dup, 1, []), (88, .getfield 185, 3, []), (91, .iconst 1, 1, []), (92, .iadd, 1, []), (93, .putfield 185, 3, []), (96, .return_, 1, [])] [] [(52, juX12_remembers_52 k52)] 26 [] 52 [.ref 121, .int a1] [] M = jgX12_remembers_52 k52 a1 M := rfl
theorem jtX12_remembers_52 : ∀ n : Nat, ∀ (a1 : Int32) (M : sy_M) (r : xe_R × sy_M), jfX12_remembers_52 n a1 M = some r → sy_E (1) qX12_remembers 52 [.ref 121, .int a1] [] M r := by
  intro n
  induction n with
  | zero => intro a1 M r h; exact absurd (show (none : sy_O) = some r from h) (by simp)
  | succ n ih => intro a1 M r h; exact sy_run_by (d := 0) ((jrX12_remembers_52 _ _ M).trans h) hkX12 (by decide +kernel) sy_cs_nil (sy_us_cons (jwX12_remembers_52 ih) sy_us_nil)
def jfX12_remembers_50 (M : sy_M) : sy_O :=
  jfX12_remembers_52 sy_F 0 M
set_option maxRecDepth 100000 in
theorem jrX12_remembers_50 (w1 : Value) (M : sy_M) : sy_run skX12 qX12_remembers [(50, .iconst 0, 1, [true, false]), (51, .istore_n 1, 1, [])] [] [(52, juX12_remembers_52 (jfX12_remembers_52 sy_F))] 3 [] 50 [.ref 121, w1] [] M = jfX12_remembers_50 M := rfl
theorem jtX12_remembers_50 : ∀ (w1 : Value) (M : sy_M) (r : xe_R × sy_M), jfX12_remembers_50 M = some r → sy_E (1) qX12_remembers 50 [.ref 121, w1] [] M r := by
  intro w1 M r h
  exact sy_run_by (d := 0) ((jrX12_remembers_50 _ M).trans h) hkX12 (by decide +kernel) sy_cs_nil (sy_us_cons (jwX12_remembers_52 (jtX12_remembers_52 sy_F)) sy_us_nil)
def jgX12_remembers_11 (k11 : Int32 → sy_M → sy_O) (a1 : Int32) (M : sy_M) : sy_O :=
  if a1 < 4686 then
    sy_bx (xe_in (a1 + 426) 5112) <|
    sy_bx (xe_in a1 5112) <|
    let M2 := sy_upd M 125 (Int32.toNatClampNeg a1) (M 125 (Int32.toNatClampNeg (a1 + 426)))
    let v3 := a1 + 1
    k11 v3 M2
  else
    let M1 := sy_upd M 121 6 ((M 121 6) - 1)
    jfX12_remembers_50 M1
def jfX12_remembers_11 : Nat → Int32 → sy_M → sy_O
  | 0, _, _ => none
  | n + 1, a1, M => jgX12_remembers_11 (jfX12_remembers_11 n) a1 M
set_option maxRecDepth 100000 in
theorem jrX12_remembers_11 (k11 : Int32 → sy_M → sy_O) (a1 : Int32) (M : sy_M) : sy_run skX12 qX12_remembers [(11, .iload_n 1, 1, []), (12, .sipush 4686, 3, []), (15, .if_icmp .ge 25, 3, []), (18, .aload_n 0, 1, []), (19, .getfield 19, 3, []), (22, .iload_n 1, 1, []), (23, .aload_n 0, 1, []), (24, .getfield 19, 3, []), (27, .iload_n 1, 1, []), (28, .sipush 426, 3, []), (31, .iadd, 1, []), (32, .iaload, 1, []), (33, .iastore, 1, []), (34, .iinc 1 1, 3, []), (37, .goto (-26), 3, []), (40, .aload_n 0, 1, [true, false]), (41, .dup, 1, []), (42, .getfield 185, 3, []), (45, .iconst 1, 1, []), (46, .isub, 1, []), (47, .putfield 185, 3, [])] [] [(50, juX12_remembers_50 (jfX12_remembers_50)), (11, juX12_remembers_11 k11)] 22 [] 11 [.ref 121, .int a1] [] M = jgX12_remembers_11 k11 a1 M := rfl
theorem jtX12_remembers_11 : ∀ n : Nat, ∀ (a1 : Int32) (M : sy_M) (r : xe_R × sy_M), jfX12_remembers_11 n a1 M = some r → sy_E (1) qX12_remembers 11 [.ref 121, .int a1] [] M r := by
  intro n
  induction n with
  | zero => intro a1 M r h; exact absurd (show (none : sy_O) = some r from h) (by simp)
  | succ n ih => intro a1 M r h; exact sy_run_by (d := 0) ((jrX12_remembers_11 _ _ M).trans h) hkX12 (by decide +kernel) sy_cs_nil (sy_us_cons (jwX12_remembers_50 (jtX12_remembers_50)) (sy_us_cons (jwX12_remembers_11 ih) sy_us_nil))
def jfX12_remembers (M : sy_M) : sy_O :=
  if (M 121 6) = 12 then
    jfX12_remembers_11 sy_F 0 M
  else
    jfX12_remembers_50 M
set_option maxRecDepth 100000 in
theorem jrX12_remembers (M : sy_M) : sy_run skX12 qX12_remembers [(0, .aload_n 0, 1, []), (1, .getfield 185, 3, []), (4, .bipush 12, 2, []), (6, .if_icmp .ne 44, 3, []), (9, .iconst 0, 1, []), (10, .istore_n 1, 1, [])] [] [(50, juX12_remembers_50 (jfX12_remembers_50)), (11, juX12_remembers_11 (jfX12_remembers_11 sy_F))] 7 [] 0 [.ref 121, xe_no] [] M = jfX12_remembers M := rfl
theorem jtX12_remembers : ∀ (M : sy_M) (r : xe_R × sy_M), jfX12_remembers M = some r → sy_E (1) qX12_remembers 0 [.ref 121, xe_no] [] M r := by
  intro  M r h
  exact sy_run_by (d := 0) ((jrX12_remembers M).trans h) hkX12 (by decide +kernel) sy_cs_nil (sy_us_cons (jwX12_remembers_50 (jtX12_remembers_50)) (sy_us_cons (jwX12_remembers_11 (jtX12_remembers_11 sy_F)) sy_us_nil))
def jcX12_remembers (as : List Value) (M : sy_M) (K : sy_O → sy_O) : sy_O := sy_xc 121 as fun l => sy_xn l (K (jfX12_remembers M))
theorem jeX12_remembers : sy_snd (1) 244 (jcX12_remembers) := by
  intro as M K r h
  obtain ⟨l, e, h1⟩ := sy_xc_ok h; subst e
  obtain ⟨e, h2⟩ := sy_xn_ok h1; subst e
  exact ⟨_, h2, fun r1 h0 => ⟨qX12_remembers, rfl, rfl, jtX12_remembers  M r1 h0⟩⟩
/-! X12_ticks StairMeterModel ticks (I)I [('R', 121), 'I'] -/
def juX12_ticks_16 (k : Int32 → Int32 → sy_M → sy_O) (ls st : List Value) (M : sy_M) : sy_O := sy_xc 121 ls fun l => sy_xi l fun a1 l => sy_xn l (sy_xi st fun s0 l => sy_xc 121 l fun l => sy_xn l (k a1 s0 M))
theorem jwX12_ticks_16 {d : Nat} {k : Int32 → Int32 → sy_M → sy_O} (hk : ∀ (a1 : Int32) (s0 : Int32) (M : sy_M) (r : xe_R × sy_M), k a1 s0 M = some r → sy_E (d) qX12_ticks 16 [.ref 121, .int a1] [.int s0, .ref 121] M r) : ∀ ls st M r, juX12_ticks_16 k ls st M = some r → sy_E d qX12_ticks 16 ls st M r := by
  intro ls st M r h
  obtain ⟨l, e, h1⟩ := sy_xc_ok h; subst e
  obtain ⟨a1, l, e, h2⟩ := sy_xi_ok h1; subst e
  obtain ⟨e, h3⟩ := sy_xn_ok h2; subst e
  obtain ⟨s0, l, e, h4⟩ := sy_xi_ok h3; subst e
  obtain ⟨l, e, h5⟩ := sy_xc_ok h4; subst e
  obtain ⟨e, h6⟩ := sy_xn_ok h5; subst e
  exact hk a1 s0 M r h6
def jfX12_ticks_16 (a1 : Int32) (s0 : Int32) (M : sy_M) : sy_O :=
  let M1 := sy_upd M 121 0 s0
  if 0 < (M1 121 0) then
    sy_ri 0 M1
  else
    sy_bv (jfX12_remembers M1) fun M2 =>
    sy_bi (jfX12_goes a1 1 M2) fun v4 M3 =>
    sy_ri v4 M3
set_option maxRecDepth 100000 in
theorem jrX12_ticks_16 (a1 : Int32) (s0 : Int32) (M : sy_M) : sy_run skX12 qX12_ticks [(16, .putfield 45, 3, []), (19, .aload_n 0, 1, []), (20, .getfield 45, 3, []), (23, .ifCond .le 5, 3, []), (26, .iconst 0, 1, []), (27, .ireturn, 1, []), (28, .aload_n 0, 1, []), (29, .invokevirtual 311, 3, []), (32, .aload_n 0, 1, []), (33, .iload_n 1, 1, []), (34, .iconst 1, 1, []), (35, .invokevirtual 314, 3, []), (38, .ireturn, 1, [])] [(244, 1, jcX12_remembers), (235, 0, jcX12_goes)] [] 14 [] 16 [.ref 121, .int a1] [.int s0, .ref 121] M = jfX12_ticks_16 a1 s0 M := rfl
theorem jtX12_ticks_16 : ∀ (a1 : Int32) (s0 : Int32) (M : sy_M) (r : xe_R × sy_M), jfX12_ticks_16 a1 s0 M = some r → sy_E (52) qX12_ticks 16 [.ref 121, .int a1] [.int s0, .ref 121] M r := by
  intro a1 s0 M r h
  exact sy_run_by (d := 51) ((jrX12_ticks_16 _ _ M).trans h) hkX12 (by decide +kernel) (sy_cs_cons (jeX12_remembers.deep (by decide)) (sy_cs_cons (jeX12_goes.deep (by decide)) sy_cs_nil)) sy_us_nil
def jfX12_ticks (a1 : Int32) (M : sy_M) : sy_O :=
  sy_bi (jfX12_isIn a1 1 96 M) fun v2 M1 =>
  if v2 = 0 then
    jfX12_ticks_16 a1 1 M1
  else
    jfX12_ticks_16 a1 0 M1
set_option maxRecDepth 100000 in
theorem jrX12_ticks (a1 : Int32) (M : sy_M) : sy_run skX12 qX12_ticks [(0, .aload_n 0, 1, []), (1, .iload_n 1, 1, []), (2, .iconst 1, 1, []), (3, .bipush 96, 2, []), (5, .invokestatic 48, 3, []), (8, .ifCond .ne 7, 3, []), (11, .iconst 1, 1, []), (12, .goto 4, 3, []), (15, .iconst 0, 1, [])] [(182, 0, jcX12_isIn)] [(16, juX12_ticks_16 (jfX12_ticks_16))] 10 [] 0 [.ref 121, .int a1] [] M = jfX12_ticks a1 M := rfl
theorem jtX12_ticks : ∀ (a1 : Int32) (M : sy_M) (r : xe_R × sy_M), jfX12_ticks a1 M = some r → sy_E (52) qX12_ticks 0 [.ref 121, .int a1] [] M r := by
  intro a1 M r h
  exact sy_run_by (d := 51) ((jrX12_ticks _ M).trans h) hkX12 (by decide +kernel) (sy_cs_cons (jeX12_isIn.deep (by decide)) sy_cs_nil) (sy_us_cons (jwX12_ticks_16 (jtX12_ticks_16)) sy_us_nil)
def jcX12_ticks (as : List Value) (M : sy_M) (K : sy_O → sy_O) : sy_O := sy_xc 121 as fun l => sy_xi l fun a1 l => sy_xn l (K (jfX12_ticks a1 M))
theorem jeX12_ticks : sy_snd (52) 246 (jcX12_ticks) := by
  intro as M K r h
  obtain ⟨l, e, h1⟩ := sy_xc_ok h; subst e
  obtain ⟨a1, l, e, h2⟩ := sy_xi_ok h1; subst e
  obtain ⟨e, h3⟩ := sy_xn_ok h2; subst e
  exact ⟨_, h3, fun r1 h0 => ⟨qX12_ticks, rfl, rfl, jtX12_ticks _ M r1 h0⟩⟩
/-! X11_put StairMeter put (I)I [('R', 0), 'I'] -/
def jfX11_put (a1 : Int32) (M : sy_M) : sy_O :=
  sy_bv (jfX11_checkLodger a1 M) fun M1 =>
  sy_bi (jfX2_get 9 a1 5 M1) fun v3 M2 =>
  if v3 < 1 then
    sy_bx (xe_in (M2 133 0) 100000) <|
    sy_rt 24 (sy_upd M2 133 0 (M2 133 0 + 1))
  else
    sy_bv (jfX0_remember 9 M2) fun M4 =>
    sy_bv (jfX2_takeCoin 9 a1 M4) fun M5 =>
    sy_ri (M5 9 7) M5
set_option maxRecDepth 100000 in
theorem jrX11_put (a1 : Int32) (M : sy_M) : sy_run skX11 qX11_put [(0, .aload_n 0, 1, []), (1, .iload_n 1, 1, []), (2, .invokevirtual 149, 3, []), (5, .aload_n 0, 1, []), (6, .getfield 28, 3, []), (9, .iload_n 1, 1, []), (10, .iconst 5, 1, []), (11, .invokevirtual 152, 3, []), (14, .iconst 1, 1, []), (15, .if_icmp .ge 11, 3, []), (18, .new 259, 3, []), (26, .aload_n 0, 1, []), (27, .getfield 89, 3, []), (30, .aload_n 0, 1, []), (31, .getfield 28, 3, []), (34, .invokevirtual 252, 3, []), (37, .aload_n 0, 1, []), (38, .getfield 28, 3, []), (41, .iload_n 1, 1, []), (42, .invokevirtual 262, 3, []), (45, .aload_n 0, 1, []), (46, .getfield 28, 3, []), (49, .getfield 215, 3, []), (52, .ireturn, 1, [])] [(176, 1, jcX11_checkLodger), (10, 0, jcX2_get), (2, 1, jcX0_remember), (26, 1, jcX2_takeCoin)] [] 25 [] 0 [.ref 0, .int a1] [] M = jfX11_put a1 M := rfl
theorem jtX11_put : ∀ (a1 : Int32) (M : sy_M) (r : xe_R × sy_M), jfX11_put a1 M = some r → sy_E (4) qX11_put 0 [.ref 0, .int a1] [] M r := by
  intro a1 M r h
  exact sy_run_by (d := 3) ((jrX11_put _ M).trans h) hkX11 (by decide +kernel) (sy_cs_cons (jeX11_checkLodger.deep (by decide)) (sy_cs_cons (jeX2_get.deep (by decide)) (sy_cs_cons (jeX0_remember.deep (by decide)) (sy_cs_cons (jeX2_takeCoin.deep (by decide)) sy_cs_nil)))) sy_us_nil
def jcX11_put (as : List Value) (M : sy_M) (K : sy_O → sy_O) : sy_O := sy_xc 0 as fun l => sy_xi l fun a1 l => sy_xn l (K (jfX11_put a1 M))
theorem jeX11_put : sy_snd (4) 102 (jcX11_put) := by
  intro as M K r h
  obtain ⟨l, e, h1⟩ := sy_xc_ok h; subst e
  obtain ⟨a1, l, e, h2⟩ := sy_xi_ok h1; subst e
  obtain ⟨e, h3⟩ := sy_xn_ok h2; subst e
  exact ⟨_, h3, fun r1 h0 => ⟨qX11_put, rfl, rfl, jtX11_put _ M r1 h0⟩⟩
/-! L_put StairMeterLaw put (LStairMeter;I[J)I [('R', 0), 'I', ('R', 132)] -/
def jfL_put (a1 : Int32) (M : sy_M) : sy_O :=
  sy_hi (jfX11_put a1 M) (fun v2 M1 =>
    let M5 := sy_wl M1 132 0 (Int32.toInt64 v2)
    sy_ri 0 M5)
  (fun c3 M4 => if c3 = 22 then sy_ri 1 M4 else if c3 = 24 then sy_ri 2 M4 else none)
set_option maxRecDepth 100000 in
theorem jrL_put (a1 : Int32) (M : sy_M) : sy_run skL qL_put [(0, .aload_n 2, 1, []), (1, .iconst 0, 1, []), (2, .aload_n 0, 1, []), (3, .iload_n 1, 1, []), (4, .invokevirtual 42, 3, []), (7, .i2l, 1, []), (8, .lastore, 1, []), (9, .goto 9, 3, []), (12, .astore_n 3, 1, [false, false, false, false]), (13, .iconst 1, 1, []), (14, .ireturn, 1, []), (15, .astore_n 3, 1, [false, false, false, false]), (16, .iconst 2, 1, []), (17, .ireturn, 1, []), (18, .iconst 0, 1, [false, false, false, false]), (19, .ireturn, 1, [])] [(102, 3, jcX11_put)] [] 17 [] 0 [.ref 0, .int a1, .ref 132, xe_no] [] M = jfL_put a1 M := rfl
theorem jtL_put : ∀ (a1 : Int32) (M : sy_M) (r : xe_R × sy_M), jfL_put a1 M = some r → sy_E (5) qL_put 0 [.ref 0, .int a1, .ref 132, xe_no] [] M r := by
  intro a1 M r h
  exact sy_run_by (d := 4) ((jrL_put _ M).trans h) hkL (by decide +kernel) (sy_cs_cons (jeX11_put.deep (by decide)) sy_cs_nil) sy_us_nil
def jcL_put (as : List Value) (M : sy_M) (K : sy_O → sy_O) : sy_O := sy_xc 0 as fun l => sy_xi l fun a1 l => sy_xc 132 l fun l => sy_xn l (K (jfL_put a1 M))
theorem jeL_put : sy_snd (5) 328 (jcL_put) := by
  intro as M K r h
  obtain ⟨l, e, h1⟩ := sy_xc_ok h; subst e
  obtain ⟨a1, l, e, h2⟩ := sy_xi_ok h1; subst e
  obtain ⟨l, e, h3⟩ := sy_xc_ok h2; subst e
  obtain ⟨e, h4⟩ := sy_xn_ok h3; subst e
  exact ⟨_, h4, fun r1 h0 => ⟨qL_put, rfl, rfl, jtL_put _ M r1 h0⟩⟩
/-! X12_put StairMeterModel put (I)I [('R', 121), 'I'] -/
def juX12_put_41 (k : Int32 → Int32 → sy_M → sy_O) (ls st : List Value) (M : sy_M) : sy_O := sy_xc 121 ls fun l => sy_xi l fun a1 l => sy_xn l (sy_xi st fun s0 l => sy_xc 121 l fun l => sy_xn l (k a1 s0 M))
theorem jwX12_put_41 {d : Nat} {k : Int32 → Int32 → sy_M → sy_O} (hk : ∀ (a1 : Int32) (s0 : Int32) (M : sy_M) (r : xe_R × sy_M), k a1 s0 M = some r → sy_E (d) qX12_put 41 [.ref 121, .int a1] [.int s0, .ref 121] M r) : ∀ ls st M r, juX12_put_41 k ls st M = some r → sy_E d qX12_put 41 ls st M r := by
  intro ls st M r h
  obtain ⟨l, e, h1⟩ := sy_xc_ok h; subst e
  obtain ⟨a1, l, e, h2⟩ := sy_xi_ok h1; subst e
  obtain ⟨e, h3⟩ := sy_xn_ok h2; subst e
  obtain ⟨s0, l, e, h4⟩ := sy_xi_ok h3; subst e
  obtain ⟨l, e, h5⟩ := sy_xc_ok h4; subst e
  obtain ⟨e, h6⟩ := sy_xn_ok h5; subst e
  exact hk a1 s0 M r h6
def juX12_put_14 (k : Int32 → Int32 → sy_M → sy_O) (ls st : List Value) (M : sy_M) : sy_O := sy_xc 121 ls fun l => sy_xi l fun a1 l => sy_xn l (sy_xi st fun s0 l => sy_xc 121 l fun l => sy_xn l (k a1 s0 M))
theorem jwX12_put_14 {d : Nat} {k : Int32 → Int32 → sy_M → sy_O} (hk : ∀ (a1 : Int32) (s0 : Int32) (M : sy_M) (r : xe_R × sy_M), k a1 s0 M = some r → sy_E (d) qX12_put 14 [.ref 121, .int a1] [.int s0, .ref 121] M r) : ∀ ls st M r, juX12_put_14 k ls st M = some r → sy_E d qX12_put 14 ls st M r := by
  intro ls st M r h
  obtain ⟨l, e, h1⟩ := sy_xc_ok h; subst e
  obtain ⟨a1, l, e, h2⟩ := sy_xi_ok h1; subst e
  obtain ⟨e, h3⟩ := sy_xn_ok h2; subst e
  obtain ⟨s0, l, e, h4⟩ := sy_xi_ok h3; subst e
  obtain ⟨l, e, h5⟩ := sy_xc_ok h4; subst e
  obtain ⟨e, h6⟩ := sy_xn_ok h5; subst e
  exact hk a1 s0 M r h6
def jfX12_put_41 (a1 : Int32) (s0 : Int32) (M : sy_M) : sy_O :=
  let M1 := sy_upd M 121 0 s0
  if 0 < (M1 121 0) then
    sy_ri 0 M1
  else
    sy_bv (jfX12_remembers M1) fun M2 =>
    sy_bv (jfX12_feeds a1 M2) fun M3 =>
    sy_ri (M3 122 6) M3
set_option maxRecDepth 100000 in
theorem jrX12_put_41 (a1 : Int32) (s0 : Int32) (M : sy_M) : sy_run skX12 qX12_put [(41, .putfield 45, 3, []), (44, .aload_n 0, 1, []), (45, .getfield 45, 3, []), (48, .ifCond .le 5, 3, []), (51, .iconst 0, 1, []), (52, .ireturn, 1, []), (53, .aload_n 0, 1, []), (54, .invokevirtual 311, 3, []), (57, .aload_n 0, 1, []), (58, .iload_n 1, 1, []), (59, .invokevirtual 274, 3, []), (62, .aload_n 0, 1, []), (63, .getfield 7, 3, []), (66, .bipush 6, 2, []), (68, .iaload, 1, []), (69, .ireturn, 1, [])] [(244, 1, jcX12_remembers), (230, 1, jcX12_feeds)] [] 17 [] 41 [.ref 121, .int a1] [.int s0, .ref 121] M = jfX12_put_41 a1 s0 M := rfl
theorem jtX12_put_41 : ∀ (a1 : Int32) (s0 : Int32) (M : sy_M) (r : xe_R × sy_M), jfX12_put_41 a1 s0 M = some r → sy_E (4) qX12_put 41 [.ref 121, .int a1] [.int s0, .ref 121] M r := by
  intro a1 s0 M r h
  exact sy_run_by (d := 3) ((jrX12_put_41 _ _ M).trans h) hkX12 (by decide +kernel) (sy_cs_cons (jeX12_remembers.deep (by decide)) (sy_cs_cons (jeX12_feeds.deep (by decide)) sy_cs_nil)) sy_us_nil
def jfX12_put_14 (a1 : Int32) (s0 : Int32) (M : sy_M) : sy_O :=
  let M1 := sy_upd M 121 0 s0
  if 0 < (M1 121 0) then
    sy_ri 0 M1
  else
    sy_bi (jfX12_of a1 5 M1) fun v3 M2 =>
    if v3 = 0 then
      jfX12_put_41 a1 2 M2
    else
      jfX12_put_41 a1 0 M2
set_option maxRecDepth 100000 in
theorem jrX12_put_14 (a1 : Int32) (s0 : Int32) (M : sy_M) : sy_run skX12 qX12_put [(14, .putfield 45, 3, []), (17, .aload_n 0, 1, []), (18, .getfield 45, 3, []), (21, .ifCond .le 5, 3, []), (24, .iconst 0, 1, []), (25, .ireturn, 1, []), (26, .aload_n 0, 1, []), (27, .aload_n 0, 1, []), (28, .iload_n 1, 1, []), (29, .iconst 5, 1, []), (30, .invokevirtual 52, 3, []), (33, .ifCond .ne 7, 3, []), (36, .iconst 2, 1, []), (37, .goto 4, 3, []), (40, .iconst 0, 1, [])] [(187, 0, jcX12_of)] [(41, juX12_put_41 (jfX12_put_41))] 16 [] 14 [.ref 121, .int a1] [.int s0, .ref 121] M = jfX12_put_14 a1 s0 M := rfl
theorem jtX12_put_14 : ∀ (a1 : Int32) (s0 : Int32) (M : sy_M) (r : xe_R × sy_M), jfX12_put_14 a1 s0 M = some r → sy_E (4) qX12_put 14 [.ref 121, .int a1] [.int s0, .ref 121] M r := by
  intro a1 s0 M r h
  exact sy_run_by (d := 3) ((jrX12_put_14 _ _ M).trans h) hkX12 (by decide +kernel) (sy_cs_cons (jeX12_of.deep (by decide)) sy_cs_nil) (sy_us_cons (jwX12_put_41 (jtX12_put_41)) sy_us_nil)
def jfX12_put (a1 : Int32) (M : sy_M) : sy_O :=
  sy_bi (jfX12_isLodger a1 M) fun v2 M1 =>
  if v2 = 0 then
    jfX12_put_14 a1 1 M1
  else
    jfX12_put_14 a1 0 M1
set_option maxRecDepth 100000 in
theorem jrX12_put (a1 : Int32) (M : sy_M) : sy_run skX12 qX12_put [(0, .aload_n 0, 1, []), (1, .aload_n 0, 1, []), (2, .iload_n 1, 1, []), (3, .invokevirtual 284, 3, []), (6, .ifCond .ne 7, 3, []), (9, .iconst 1, 1, []), (10, .goto 4, 3, []), (13, .iconst 0, 1, [])] [(190, 0, jcX12_isLodger)] [(14, juX12_put_14 (jfX12_put_14))] 9 [] 0 [.ref 121, .int a1] [] M = jfX12_put a1 M := rfl
theorem jtX12_put : ∀ (a1 : Int32) (M : sy_M) (r : xe_R × sy_M), jfX12_put a1 M = some r → sy_E (4) qX12_put 0 [.ref 121, .int a1] [] M r := by
  intro a1 M r h
  exact sy_run_by (d := 3) ((jrX12_put _ M).trans h) hkX12 (by decide +kernel) (sy_cs_cons (jeX12_isLodger.deep (by decide)) sy_cs_nil) (sy_us_cons (jwX12_put_14 (jtX12_put_14)) sy_us_nil)
def jcX12_put (as : List Value) (M : sy_M) (K : sy_O → sy_O) : sy_O := sy_xc 121 as fun l => sy_xi l fun a1 l => sy_xn l (K (jfX12_put a1 M))
theorem jeX12_put : sy_snd (4) 247 (jcX12_put) := by
  intro as M K r h
  obtain ⟨l, e, h1⟩ := sy_xc_ok h; subst e
  obtain ⟨a1, l, e, h2⟩ := sy_xi_ok h1; subst e
  obtain ⟨e, h3⟩ := sy_xn_ok h2; subst e
  exact ⟨_, h3, fun r1 h0 => ⟨qX12_put, rfl, rfl, jtX12_put _ M r1 h0⟩⟩
/-! X2_moveCoins StairMeter$House moveCoins (III)V ['A', 'I', 'I', 'I'] -/
def jfX2_moveCoins (r0 : Nat) (a1 : Int32) (a2 : Int32) (a3 : Int32) (M : sy_M) : sy_O :=
  sy_bs (sy_is 2 r0) <|
  sy_bi (jfX2_get r0 a1 5 M) fun v2 M1 =>
  sy_bs (sy_is 2 r0) <|
  sy_bv (jfX2_set r0 a1 5 (v2 - a3) M1) fun M3 =>
  sy_bs (sy_is 2 r0) <|
  sy_bi (jfX2_get r0 a2 5 M3) fun v5 M4 =>
  sy_bs (sy_is 2 r0) <|
  sy_bv (jfX2_set r0 a2 5 (v5 + a3) M4) fun M6 =>
  sy_rv M6
set_option maxRecDepth 100000 in
theorem jrX2_moveCoins (r0 : Nat) (a1 : Int32) (a2 : Int32) (a3 : Int32) (M : sy_M) : sy_run skX2 qX2_moveCoins [(0, .aload_n 0, 1, []), (1, .iload_n 1, 1, []), (2, .iconst 5, 1, []), (3, .aload_n 0, 1, []), (4, .iload_n 1, 1, []), (5, .iconst 5, 1, []), (6, .invokevirtual 71, 3, []), (9, .iload_n 3, 1, []), (10, .isub, 1, []), (11, .invokevirtual 84, 3, []), (14, .aload_n 0, 1, []), (15, .iload_n 2, 1, []), (16, .iconst 5, 1, []), (17, .aload_n 0, 1, []), (18, .iload_n 2, 1, []), (19, .iconst 5, 1, []), (20, .invokevirtual 71, 3, []), (23, .iload_n 3, 1, []), (24, .iadd, 1, []), (25, .invokevirtual 84, 3, []), (28, .return_, 1, [])] [(10, 0, jcX2_get), (11, 1, jcX2_set)] [] 22 [] 0 [.ref r0, .int a1, .int a2, .int a3] [] M = jfX2_moveCoins r0 a1 a2 a3 M := rfl
theorem jtX2_moveCoins : ∀ (r0 : Nat) (a1 : Int32) (a2 : Int32) (a3 : Int32) (M : sy_M) (r : xe_R × sy_M), jfX2_moveCoins r0 a1 a2 a3 M = some r → sy_E (2) qX2_moveCoins 0 [.ref r0, .int a1, .int a2, .int a3] [] M r := by
  intro r0 a1 a2 a3 M r h
  exact sy_run_by (d := 1) ((jrX2_moveCoins _ _ _ _ M).trans h) hkX2 (by decide +kernel) (sy_cs_cons (jeX2_get.deep (by decide)) (sy_cs_cons (jeX2_set.deep (by decide)) sy_cs_nil)) sy_us_nil
def jcX2_moveCoins (as : List Value) (M : sy_M) (K : sy_O → sy_O) : sy_O := sy_xa as fun r0 l => sy_xi l fun a1 l => sy_xi l fun a2 l => sy_xi l fun a3 l => sy_xn l (K (jfX2_moveCoins r0 a1 a2 a3 M))
theorem jeX2_moveCoins : sy_snd (2) 24 (jcX2_moveCoins) := by
  intro as M K r h
  obtain ⟨r0, l, e, h1⟩ := sy_xa_ok h; subst e
  obtain ⟨a1, l, e, h2⟩ := sy_xi_ok h1; subst e
  obtain ⟨a2, l, e, h3⟩ := sy_xi_ok h2; subst e
  obtain ⟨a3, l, e, h4⟩ := sy_xi_ok h3; subst e
  obtain ⟨e, h5⟩ := sy_xn_ok h4; subst e
  exact ⟨_, h5, fun r1 h0 => ⟨qX2_moveCoins, rfl, rfl, jtX2_moveCoins _ _ _ _ M r1 h0⟩⟩
/-! X11_lend StairMeter lend (II)I [('R', 0), 'I', 'I'] -/
def juX11_lend_77 (k : Int32 → Int32 → sy_M → sy_O) (ls st : List Value) (M : sy_M) : sy_O := sy_xc 0 ls fun l => sy_xi l fun a1 l => sy_xi l fun a2 l => sy_xn l (sy_xn st (k a1 a2 M))
theorem jwX11_lend_77 {d : Nat} {k : Int32 → Int32 → sy_M → sy_O} (hk : ∀ (a1 : Int32) (a2 : Int32) (M : sy_M) (r : xe_R × sy_M), k a1 a2 M = some r → sy_E (d) qX11_lend 77 [.ref 0, .int a1, .int a2] [] M r) : ∀ ls st M r, juX11_lend_77 k ls st M = some r → sy_E d qX11_lend 77 ls st M r := by
  intro ls st M r h
  obtain ⟨l, e, h1⟩ := sy_xc_ok h; subst e
  obtain ⟨a1, l, e, h2⟩ := sy_xi_ok h1; subst e
  obtain ⟨a2, l, e, h3⟩ := sy_xi_ok h2; subst e
  obtain ⟨e, h4⟩ := sy_xn_ok h3; subst e
  obtain ⟨e, h5⟩ := sy_xn_ok h4; subst e
  exact hk a1 a2 M r h5
def jfX11_lend_77 (a1 : Int32) (a2 : Int32) (M : sy_M) : sy_O :=
  sy_bi (jfX2_owed 9 a2 a1 M) fun v2 M1 =>
  sy_bv (jfX2_setOwed 9 a2 a1 (v2 + 1) M1) fun M3 =>
  sy_bi (jfX2_get 9 a1 5 M3) fun v5 M4 =>
  sy_ri v5 M4
set_option maxRecDepth 100000 in
theorem jrX11_lend_77 (a1 : Int32) (a2 : Int32) (M : sy_M) : sy_run skX11 qX11_lend [(77, .aload_n 0, 1, []), (78, .getfield 28, 3, []), (81, .iload_n 2, 1, []), (82, .iload_n 1, 1, []), (83, .aload_n 0, 1, []), (84, .getfield 28, 3, []), (87, .iload_n 2, 1, []), (88, .iload_n 1, 1, []), (89, .invokevirtual 194, 3, []), (92, .iconst 1, 1, []), (93, .iadd, 1, []), (94, .invokevirtual 268, 3, []), (97, .aload_n 0, 1, []), (98, .getfield 28, 3, []), (101, .iload_n 1, 1, []), (102, .iconst 5, 1, []), (103, .invokevirtual 152, 3, []), (106, .ireturn, 1, [])] [(19, 0, jcX2_owed), (20, 1, jcX2_setOwed), (10, 0, jcX2_get)] [] 19 [] 77 [.ref 0, .int a1, .int a2] [] M = jfX11_lend_77 a1 a2 M := rfl
theorem jtX11_lend_77 : ∀ (a1 : Int32) (a2 : Int32) (M : sy_M) (r : xe_R × sy_M), jfX11_lend_77 a1 a2 M = some r → sy_E (4) qX11_lend 77 [.ref 0, .int a1, .int a2] [] M r := by
  intro a1 a2 M r h
  exact sy_run_by (d := 3) ((jrX11_lend_77 _ _ M).trans h) hkX11 (by decide +kernel) (sy_cs_cons (jeX2_owed.deep (by decide)) (sy_cs_cons (jeX2_setOwed.deep (by decide)) (sy_cs_cons (jeX2_get.deep (by decide)) sy_cs_nil))) sy_us_nil
def jfX11_lend (a1 : Int32) (a2 : Int32) (M : sy_M) : sy_O :=
  sy_bv (jfX11_checkTwo a1 a2 M) fun M1 =>
  sy_bi (jfX2_get 9 a1 5 M1) fun v3 M2 =>
  if v3 < 1 then
    sy_bx (xe_in (M2 133 0) 100000) <|
    sy_rt 24 (sy_upd M2 133 0 (M2 133 0 + 1))
  else
    sy_bi (jfX2_get 9 a2 5 M2) fun v5 M4 =>
    if v5 < 999 then
      sy_bi (jfX2_owed 9 a2 a1 M4) fun v7 M6 =>
      if v7 < 99 then
        sy_bv (jfX0_remember 9 M6) fun M8 =>
        sy_bv (jfX2_moveCoins 9 a1 a2 1 M8) fun M9 =>
        jfX11_lend_77 a1 a2 M9
      else
        sy_bx (xe_in (M6 133 0) 100000) <|
        sy_rt 24 (sy_upd M6 133 0 (M6 133 0 + 1))
    else
      sy_bx (xe_in (M4 133 0) 100000) <|
      sy_rt 24 (sy_upd M4 133 0 (M4 133 0 + 1))
set_option maxRecDepth 100000 in
theorem jrX11_lend (a1 : Int32) (a2 : Int32) (M : sy_M) : sy_run skX11 qX11_lend [(0, .aload_n 0, 1, []), (1, .iload_n 1, 1, []), (2, .iload_n 2, 1, []), (3, .invokevirtual 190, 3, []), (6, .aload_n 0, 1, []), (7, .getfield 28, 3, []), (10, .iload_n 1, 1, []), (11, .iconst 5, 1, []), (12, .invokevirtual 152, 3, []), (15, .iconst 1, 1, []), (16, .if_icmp .lt 32, 3, []), (19, .aload_n 0, 1, []), (20, .getfield 28, 3, []), (23, .iload_n 2, 1, []), (24, .iconst 5, 1, []), (25, .invokevirtual 152, 3, []), (28, .sipush 999, 3, []), (31, .if_icmp .ge 17, 3, []), (34, .aload_n 0, 1, []), (35, .getfield 28, 3, []), (38, .iload_n 2, 1, []), (39, .iload_n 1, 1, []), (40, .invokevirtual 194, 3, []), (43, .bipush 99, 2, []), (45, .if_icmp .lt 11, 3, []), (48, .new 259, 3, [false, false, false]), (56, .aload_n 0, 1, []), (57, .getfield 89, 3, []), (60, .aload_n 0, 1, []), (61, .getfield 28, 3, []), (64, .invokevirtual 252, 3, []), (67, .aload_n 0, 1, []), (68, .getfield 28, 3, []), (71, .iload_n 1, 1, []), (72, .iload_n 2, 1, []), (73, .iconst 1, 1, []), (74, .invokevirtual 265, 3, [])] [(177, 1, jcX11_checkTwo), (10, 0, jcX2_get), (19, 0, jcX2_owed), (2, 1, jcX0_remember), (24, 1, jcX2_moveCoins)] [(77, juX11_lend_77 (jfX11_lend_77))] 38 [] 0 [.ref 0, .int a1, .int a2] [] M = jfX11_lend a1 a2 M := rfl
theorem jtX11_lend : ∀ (a1 : Int32) (a2 : Int32) (M : sy_M) (r : xe_R × sy_M), jfX11_lend a1 a2 M = some r → sy_E (4) qX11_lend 0 [.ref 0, .int a1, .int a2] [] M r := by
  intro a1 a2 M r h
  exact sy_run_by (d := 3) ((jrX11_lend _ _ M).trans h) hkX11 (by decide +kernel) (sy_cs_cons (jeX11_checkTwo.deep (by decide)) (sy_cs_cons (jeX2_get.deep (by decide)) (sy_cs_cons (jeX2_owed.deep (by decide)) (sy_cs_cons (jeX0_remember.deep (by decide)) (sy_cs_cons (jeX2_moveCoins.deep (by decide)) sy_cs_nil))))) (sy_us_cons (jwX11_lend_77 (jtX11_lend_77)) sy_us_nil)
def jcX11_lend (as : List Value) (M : sy_M) (K : sy_O → sy_O) : sy_O := sy_xc 0 as fun l => sy_xi l fun a1 l => sy_xi l fun a2 l => sy_xn l (K (jfX11_lend a1 a2 M))
theorem jeX11_lend : sy_snd (4) 103 (jcX11_lend) := by
  intro as M K r h
  obtain ⟨l, e, h1⟩ := sy_xc_ok h; subst e
  obtain ⟨a1, l, e, h2⟩ := sy_xi_ok h1; subst e
  obtain ⟨a2, l, e, h3⟩ := sy_xi_ok h2; subst e
  obtain ⟨e, h4⟩ := sy_xn_ok h3; subst e
  exact ⟨_, h4, fun r1 h0 => ⟨qX11_lend, rfl, rfl, jtX11_lend _ _ M r1 h0⟩⟩
/-! L_lend StairMeterLaw lend (LStairMeter;II[J)I [('R', 0), 'I', 'I', ('R', 132)] -/
def jfL_lend (a1 : Int32) (a2 : Int32) (M : sy_M) : sy_O :=
  sy_hi (jfX11_lend a1 a2 M) (fun v2 M1 =>
    let M5 := sy_wl M1 132 0 (Int32.toInt64 v2)
    sy_ri 0 M5)
  (fun c3 M4 => if c3 = 22 then sy_ri 1 M4 else if c3 = 20 then sy_ri 2 M4 else if c3 = 24 then sy_ri 3 M4 else none)
set_option maxRecDepth 100000 in
theorem jrL_lend (a1 : Int32) (a2 : Int32) (M : sy_M) : sy_run skL qL_lend [(0, .aload_n 3, 1, []), (1, .iconst 0, 1, []), (2, .aload_n 0, 1, []), (3, .iload_n 1, 1, []), (4, .iload_n 2, 1, []), (5, .invokevirtual 47, 3, []), (8, .i2l, 1, []), (9, .lastore, 1, []), (10, .goto 15, 3, []), (13, .astore 4, 2, [false, false, false, false, false]), (15, .iconst 1, 1, []), (16, .ireturn, 1, []), (17, .astore 4, 2, [false, false, false, false, false]), (19, .iconst 2, 1, []), (20, .ireturn, 1, []), (21, .astore 4, 2, [false, false, false, false, false]), (23, .iconst 3, 1, []), (24, .ireturn, 1, []), (25, .iconst 0, 1, [false, false, false, false, false]), (26, .ireturn, 1, [])] [(103, 3, jcX11_lend)] [] 21 [] 0 [.ref 0, .int a1, .int a2, .ref 132, xe_no] [] M = jfL_lend a1 a2 M := rfl
theorem jtL_lend : ∀ (a1 : Int32) (a2 : Int32) (M : sy_M) (r : xe_R × sy_M), jfL_lend a1 a2 M = some r → sy_E (5) qL_lend 0 [.ref 0, .int a1, .int a2, .ref 132, xe_no] [] M r := by
  intro a1 a2 M r h
  exact sy_run_by (d := 4) ((jrL_lend _ _ M).trans h) hkL (by decide +kernel) (sy_cs_cons (jeX11_lend.deep (by decide)) sy_cs_nil) sy_us_nil
def jcL_lend (as : List Value) (M : sy_M) (K : sy_O → sy_O) : sy_O := sy_xc 0 as fun l => sy_xi l fun a1 l => sy_xi l fun a2 l => sy_xc 132 l fun l => sy_xn l (K (jfL_lend a1 a2 M))
theorem jeL_lend : sy_snd (5) 329 (jcL_lend) := by
  intro as M K r h
  obtain ⟨l, e, h1⟩ := sy_xc_ok h; subst e
  obtain ⟨a1, l, e, h2⟩ := sy_xi_ok h1; subst e
  obtain ⟨a2, l, e, h3⟩ := sy_xi_ok h2; subst e
  obtain ⟨l, e, h4⟩ := sy_xc_ok h3; subst e
  obtain ⟨e, h5⟩ := sy_xn_ok h4; subst e
  exact ⟨_, h5, fun r1 h0 => ⟨qL_lend, rfl, rfl, jtL_lend _ _ M r1 h0⟩⟩
/-! X12_sets StairMeterModel sets (II)I [('R', 121), 'I', 'I'] -/
def jfX12_sets (a1 : Int32) (a2 : Int32) (M : sy_M) : sy_O :=
  sy_bv (jfX12_remembers M) fun M1 =>
  sy_bx (xe_in a1 826) <|
  let v2 := (M1 122 (Int32.toNatClampNeg a1))
  sy_bx (xe_in a1 826) <|
  let M3 := sy_upd M1 122 (Int32.toNatClampNeg a1) a2
  sy_ri v2 M3
set_option maxRecDepth 100000 in
theorem jrX12_sets (a1 : Int32) (a2 : Int32) (M : sy_M) : sy_run skX12 qX12_sets [(0, .aload_n 0, 1, []), (1, .invokevirtual 311, 3, []), (4, .aload_n 0, 1, []), (5, .getfield 7, 3, []), (8, .iload_n 1, 1, []), (9, .iaload, 1, []), (10, .istore_n 3, 1, []), (11, .aload_n 0, 1, []), (12, .getfield 7, 3, []), (15, .iload_n 1, 1, []), (16, .iload_n 2, 1, []), (17, .iastore, 1, []), (18, .iload_n 3, 1, []), (19, .ireturn, 1, [])] [(244, 1, jcX12_remembers)] [] 15 [] 0 [.ref 121, .int a1, .int a2, xe_no] [] M = jfX12_sets a1 a2 M := rfl
theorem jtX12_sets : ∀ (a1 : Int32) (a2 : Int32) (M : sy_M) (r : xe_R × sy_M), jfX12_sets a1 a2 M = some r → sy_E (2) qX12_sets 0 [.ref 121, .int a1, .int a2, xe_no] [] M r := by
  intro a1 a2 M r h
  exact sy_run_by (d := 1) ((jrX12_sets _ _ M).trans h) hkX12 (by decide +kernel) (sy_cs_cons (jeX12_remembers.deep (by decide)) sy_cs_nil) sy_us_nil
def jcX12_sets (as : List Value) (M : sy_M) (K : sy_O → sy_O) : sy_O := sy_xc 121 as fun l => sy_xi l fun a1 l => sy_xi l fun a2 l => sy_xn l (K (jfX12_sets a1 a2 M))
theorem jeX12_sets : sy_snd (2) 245 (jcX12_sets) := by
  intro as M K r h
  obtain ⟨l, e, h1⟩ := sy_xc_ok h; subst e
  obtain ⟨a1, l, e, h2⟩ := sy_xi_ok h1; subst e
  obtain ⟨a2, l, e, h3⟩ := sy_xi_ok h2; subst e
  obtain ⟨e, h4⟩ := sy_xn_ok h3; subst e
  exact ⟨_, h4, fun r1 h0 => ⟨qX12_sets, rfl, rfl, jtX12_sets _ _ M r1 h0⟩⟩
/-! X12_lend StairMeterModel lend (II)I [('R', 121), 'I', 'I'] -/
def juX12_lend_115 (k : Int32 → sy_M → sy_O) (ls st : List Value) (M : sy_M) : sy_O := sy_xc 121 ls fun l => sy_xi l fun a1 l => sy_xi l fun w2 l => sy_xi l fun w3 l => sy_xn l (sy_xn st (k a1 M))
theorem jwX12_lend_115 {d : Nat} {k : Int32 → sy_M → sy_O} (hk : ∀ (w2 : Int32) (w3 : Int32) (a1 : Int32) (M : sy_M) (r : xe_R × sy_M), k a1 M = some r → sy_E (d) qX12_lend 115 [.ref 121, .int a1, .int w2, .int w3] [] M r) : ∀ ls st M r, juX12_lend_115 k ls st M = some r → sy_E d qX12_lend 115 ls st M r := by
  intro ls st M r h
  obtain ⟨l, e, h1⟩ := sy_xc_ok h; subst e
  obtain ⟨a1, l, e, h2⟩ := sy_xi_ok h1; subst e
  obtain ⟨w2, l, e, h3⟩ := sy_xi_ok h2; subst e
  obtain ⟨w3, l, e, h4⟩ := sy_xi_ok h3; subst e
  obtain ⟨e, h5⟩ := sy_xn_ok h4; subst e
  obtain ⟨e, h6⟩ := sy_xn_ok h5; subst e
  exact hk _ _ a1 M r h6
def juX12_lend_53 (k : Int32 → Int32 → Int32 → sy_M → sy_O) (ls st : List Value) (M : sy_M) : sy_O := sy_xc 121 ls fun l => sy_xi l fun a1 l => sy_xi l fun a2 l => sy_xv l fun _ l => sy_xn l (sy_xi st fun s0 l => sy_xc 121 l fun l => sy_xn l (k a1 a2 s0 M))
theorem jwX12_lend_53 {d : Nat} {k : Int32 → Int32 → Int32 → sy_M → sy_O} (hk : ∀ (w3 : Value) (a1 : Int32) (a2 : Int32) (s0 : Int32) (M : sy_M) (r : xe_R × sy_M), k a1 a2 s0 M = some r → sy_E (d) qX12_lend 53 [.ref 121, .int a1, .int a2, w3] [.int s0, .ref 121] M r) : ∀ ls st M r, juX12_lend_53 k ls st M = some r → sy_E d qX12_lend 53 ls st M r := by
  intro ls st M r h
  obtain ⟨l, e, h1⟩ := sy_xc_ok h; subst e
  obtain ⟨a1, l, e, h2⟩ := sy_xi_ok h1; subst e
  obtain ⟨a2, l, e, h3⟩ := sy_xi_ok h2; subst e
  obtain ⟨w3, l, e, h4⟩ := sy_xv_ok h3; subst e
  obtain ⟨e, h5⟩ := sy_xn_ok h4; subst e
  obtain ⟨s0, l, e, h6⟩ := sy_xi_ok h5; subst e
  obtain ⟨l, e, h7⟩ := sy_xc_ok h6; subst e
  obtain ⟨e, h8⟩ := sy_xn_ok h7; subst e
  exact hk _ a1 a2 s0 M r h8
def juX12_lend_48 (k : Int32 → Int32 → sy_M → sy_O) (ls st : List Value) (M : sy_M) : sy_O := sy_xc 121 ls fun l => sy_xi l fun a1 l => sy_xi l fun a2 l => sy_xv l fun _ l => sy_xn l (sy_xc 121 st fun l => sy_xn l (k a1 a2 M))
theorem jwX12_lend_48 {d : Nat} {k : Int32 → Int32 → sy_M → sy_O} (hk : ∀ (w3 : Value) (a1 : Int32) (a2 : Int32) (M : sy_M) (r : xe_R × sy_M), k a1 a2 M = some r → sy_E (d) qX12_lend 48 [.ref 121, .int a1, .int a2, w3] [.ref 121] M r) : ∀ ls st M r, juX12_lend_48 k ls st M = some r → sy_E d qX12_lend 48 ls st M r := by
  intro ls st M r h
  obtain ⟨l, e, h1⟩ := sy_xc_ok h; subst e
  obtain ⟨a1, l, e, h2⟩ := sy_xi_ok h1; subst e
  obtain ⟨a2, l, e, h3⟩ := sy_xi_ok h2; subst e
  obtain ⟨w3, l, e, h4⟩ := sy_xv_ok h3; subst e
  obtain ⟨e, h5⟩ := sy_xn_ok h4; subst e
  obtain ⟨l, e, h6⟩ := sy_xc_ok h5; subst e
  obtain ⟨e, h7⟩ := sy_xn_ok h6; subst e
  exact hk _ a1 a2 M r h7
def jfX12_lend_115 (a1 : Int32) (M : sy_M) : sy_O :=
  sy_bi (jfX12_of a1 5 M) fun v2 M1 =>
  sy_ri v2 M1
set_option maxRecDepth 100000 in
theorem jrX12_lend_115 (w2 : Int32) (w3 : Int32) (a1 : Int32) (M : sy_M) : sy_run skX12 qX12_lend [(115, .aload_n 0, 1, []), (116, .iload_n 1, 1, []), (117, .iconst 5, 1, []), (118, .invokevirtual 52, 3, []), (121, .ireturn, 1, [])] [(187, 0, jcX12_of)] [] 6 [] 115 [.ref 121, .int a1, .int w2, .int w3] [] M = jfX12_lend_115 a1 M := rfl
theorem jtX12_lend_115 : ∀ (w2 : Int32) (w3 : Int32) (a1 : Int32) (M : sy_M) (r : xe_R × sy_M), jfX12_lend_115 a1 M = some r → sy_E (4) qX12_lend 115 [.ref 121, .int a1, .int w2, .int w3] [] M r := by
  intro w2 w3 a1 M r h
  exact sy_run_by (d := 3) ((jrX12_lend_115 _ _ _ M).trans h) hkX12 (by decide +kernel) (sy_cs_cons (jeX12_of.deep (by decide)) sy_cs_nil) sy_us_nil
def jfX12_lend_53 (a1 : Int32) (a2 : Int32) (s0 : Int32) (M : sy_M) : sy_O :=
  let M1 := sy_upd M 121 0 s0
  if 0 < (M1 121 0) then
    sy_ri 0 M1
  else
    sy_bi (jfX12_owed a2 a1 M1) fun v3 M2 =>
    sy_bi (jfX12_sets ((77 + (7 * a2)) + a1) (v3 + 1) M2) fun v5 M4 =>
    sy_bi (jfX12_of a1 5 M4) fun v7 M6 =>
    sy_bv (jfX12_lays a1 5 (v7 - 1) M6) fun M8 =>
    sy_bi (jfX12_of a2 5 M8) fun v10 M9 =>
    sy_bv (jfX12_lays a2 5 (v10 + 1) M9) fun M11 =>
    jfX12_lend_115 a1 M11
set_option maxRecDepth 100000 in
theorem jrX12_lend_53 (w3 : Value) (a1 : Int32) (a2 : Int32) (s0 : Int32) (M : sy_M) : sy_run skX12 qX12_lend [(53, .putfield 45, 3, [true, true, true, false]), (56, .aload_n 0, 1, []), (57, .getfield 45, 3, []), (60, .ifCond .le 5, 3, []), (63, .iconst 0, 1, []), (64, .ireturn, 1, []), (65, .aload_n 0, 1, [true, true, true, false]), (66, .bipush 77, 2, []), (68, .bipush 7, 2, []), (70, .iload_n 2, 1, []), (71, .imul, 1, []), (72, .iadd, 1, []), (73, .iload_n 1, 1, []), (74, .iadd, 1, []), (75, .aload_n 0, 1, []), (76, .iload_n 2, 1, []), (77, .iload_n 1, 1, []), (78, .invokevirtual 302, 3, []), (81, .iconst 1, 1, []), (82, .iadd, 1, []), (83, .invokevirtual 318, 3, []), (86, .istore_n 3, 1, []), (87, .aload_n 0, 1, []), (88, .iload_n 1, 1, []), (89, .iconst 5, 1, []), (90, .aload_n 0, 1, []), (91, .iload_n 1, 1, []), (92, .iconst 5, 1, []), (93, .invokevirtual 52, 3, []), (96, .iconst 1, 1, []), (97, .isub, 1, []), (98, .invokevirtual 132, 3, []), (101, .aload_n 0, 1, []), (102, .iload_n 2, 1, []), (103, .iconst 5, 1, []), (104, .aload_n 0, 1, []), (105, .iload_n 2, 1, []), (106, .iconst 5, 1, []), (107, .invokevirtual 52, 3, []), (110, .iconst 1, 1, []), (111, .iadd, 1, []), (112, .invokevirtual 132, 3, [])] [(189, 0, jcX12_owed), (245, 0, jcX12_sets), (187, 0, jcX12_of), (188, 1, jcX12_lays)] [(115, juX12_lend_115 (jfX12_lend_115))] 43 [] 53 [.ref 121, .int a1, .int a2, w3] [.int s0, .ref 121] M = jfX12_lend_53 a1 a2 s0 M := rfl
theorem jtX12_lend_53 : ∀ (w3 : Value) (a1 : Int32) (a2 : Int32) (s0 : Int32) (M : sy_M) (r : xe_R × sy_M), jfX12_lend_53 a1 a2 s0 M = some r → sy_E (4) qX12_lend 53 [.ref 121, .int a1, .int a2, w3] [.int s0, .ref 121] M r := by
  intro w3 a1 a2 s0 M r h
  exact sy_run_by (d := 3) ((jrX12_lend_53 _ _ _ _ M).trans h) hkX12 (by decide +kernel) (sy_cs_cons (jeX12_owed.deep (by decide)) (sy_cs_cons (jeX12_sets.deep (by decide)) (sy_cs_cons (jeX12_of.deep (by decide)) (sy_cs_cons (jeX12_lays.deep (by decide)) sy_cs_nil)))) (sy_us_cons (jwX12_lend_115 (jtX12_lend_115)) sy_us_nil)
def jfX12_lend_48 (a1 : Int32) (a2 : Int32) (M : sy_M) : sy_O :=
  jfX12_lend_53 a1 a2 3 M
set_option maxRecDepth 100000 in
theorem jrX12_lend_48 (w3 : Value) (a1 : Int32) (a2 : Int32) (M : sy_M) : sy_run skX12 qX12_lend [(48, .iconst 3, 1, [true, true, true, false]), (49, .goto 4, 3, [])] [] [(53, juX12_lend_53 (jfX12_lend_53))] 3 [] 48 [.ref 121, .int a1, .int a2, w3] [.ref 121] M = jfX12_lend_48 a1 a2 M := rfl
theorem jtX12_lend_48 : ∀ (w3 : Value) (a1 : Int32) (a2 : Int32) (M : sy_M) (r : xe_R × sy_M), jfX12_lend_48 a1 a2 M = some r → sy_E (4) qX12_lend 48 [.ref 121, .int a1, .int a2, w3] [.ref 121] M r := by
  intro w3 a1 a2 M r h
  exact sy_run_by (d := 3) ((jrX12_lend_48 _ _ _ M).trans h) hkX12 (by decide +kernel) sy_cs_nil (sy_us_cons (jwX12_lend_53 (jtX12_lend_53)) sy_us_nil)
def jfX12_lend (a1 : Int32) (a2 : Int32) (M : sy_M) : sy_O :=
  sy_bv (jfX12_areTwo a1 a2 M) fun M1 =>
  if 0 < (M1 121 0) then
    sy_ri 0 M1
  else
    sy_bi (jfX12_of a1 5 M1) fun v3 M2 =>
    if v3 = 0 then
      jfX12_lend_48 a1 a2 M2
    else
      sy_bi (jfX12_of a2 5 M2) fun v5 M4 =>
      if v5 = 999 then
        jfX12_lend_48 a1 a2 M4
      else
        sy_bi (jfX12_owed a2 a1 M4) fun v7 M6 =>
        if v7 = 99 then
          jfX12_lend_48 a1 a2 M6
        else
          jfX12_lend_53 a1 a2 0 M6
set_option maxRecDepth 100000 in
theorem jrX12_lend (a1 : Int32) (a2 : Int32) (M : sy_M) : sy_run skX12 qX12_lend [(0, .aload_n 0, 1, []), (1, .iload_n 1, 1, []), (2, .iload_n 2, 1, []), (3, .invokevirtual 299, 3, []), (6, .aload_n 0, 1, []), (7, .getfield 45, 3, []), (10, .ifCond .le 5, 3, []), (13, .iconst 0, 1, []), (14, .ireturn, 1, []), (15, .aload_n 0, 1, [true, true, true, false]), (16, .aload_n 0, 1, []), (17, .iload_n 1, 1, []), (18, .iconst 5, 1, []), (19, .invokevirtual 52, 3, []), (22, .ifCond .eq 26, 3, []), (25, .aload_n 0, 1, []), (26, .iload_n 2, 1, []), (27, .iconst 5, 1, []), (28, .invokevirtual 52, 3, []), (31, .sipush 999, 3, []), (34, .if_icmp .eq 14, 3, []), (37, .aload_n 0, 1, []), (38, .iload_n 2, 1, []), (39, .iload_n 1, 1, []), (40, .invokevirtual 302, 3, []), (43, .bipush 99, 2, []), (45, .if_icmp .ne 7, 3, []), (52, .iconst 0, 1, [true, true, true, false])] [(240, 1, jcX12_areTwo), (187, 0, jcX12_of), (189, 0, jcX12_owed)] [(48, juX12_lend_48 (jfX12_lend_48)), (53, juX12_lend_53 (jfX12_lend_53))] 29 [] 0 [.ref 121, .int a1, .int a2, xe_no] [] M = jfX12_lend a1 a2 M := rfl
theorem jtX12_lend : ∀ (a1 : Int32) (a2 : Int32) (M : sy_M) (r : xe_R × sy_M), jfX12_lend a1 a2 M = some r → sy_E (4) qX12_lend 0 [.ref 121, .int a1, .int a2, xe_no] [] M r := by
  intro a1 a2 M r h
  exact sy_run_by (d := 3) ((jrX12_lend _ _ M).trans h) hkX12 (by decide +kernel) (sy_cs_cons (jeX12_areTwo.deep (by decide)) (sy_cs_cons (jeX12_of.deep (by decide)) (sy_cs_cons (jeX12_owed.deep (by decide)) sy_cs_nil))) (sy_us_cons (jwX12_lend_48 (jtX12_lend_48)) (sy_us_cons (jwX12_lend_53 (jtX12_lend_53)) sy_us_nil))
def jcX12_lend (as : List Value) (M : sy_M) (K : sy_O → sy_O) : sy_O := sy_xc 121 as fun l => sy_xi l fun a1 l => sy_xi l fun a2 l => sy_xn l (K (jfX12_lend a1 a2 M))
theorem jeX12_lend : sy_snd (4) 248 (jcX12_lend) := by
  intro as M K r h
  obtain ⟨l, e, h1⟩ := sy_xc_ok h; subst e
  obtain ⟨a1, l, e, h2⟩ := sy_xi_ok h1; subst e
  obtain ⟨a2, l, e, h3⟩ := sy_xi_ok h2; subst e
  obtain ⟨e, h4⟩ := sy_xn_ok h3; subst e
  exact ⟨_, h4, fun r1 h0 => ⟨qX12_lend, rfl, rfl, jtX12_lend _ _ M r1 h0⟩⟩
/-! X11_repay StairMeter repay (II)I [('R', 0), 'I', 'I'] -/
def juX11_repay_80 (k : Int32 → Int32 → Int32 → sy_M → sy_O) (ls st : List Value) (M : sy_M) : sy_O := sy_xc 0 ls fun l => sy_xi l fun a1 l => sy_xi l fun a2 l => sy_xi l fun a3 l => sy_xn l (sy_xn st (k a1 a2 a3 M))
theorem jwX11_repay_80 {d : Nat} {k : Int32 → Int32 → Int32 → sy_M → sy_O} (hk : ∀ (a1 : Int32) (a2 : Int32) (a3 : Int32) (M : sy_M) (r : xe_R × sy_M), k a1 a2 a3 M = some r → sy_E (d) qX11_repay 80 [.ref 0, .int a1, .int a2, .int a3] [] M r) : ∀ ls st M r, juX11_repay_80 k ls st M = some r → sy_E d qX11_repay 80 ls st M r := by
  intro ls st M r h
  obtain ⟨l, e, h1⟩ := sy_xc_ok h; subst e
  obtain ⟨a1, l, e, h2⟩ := sy_xi_ok h1; subst e
  obtain ⟨a2, l, e, h3⟩ := sy_xi_ok h2; subst e
  obtain ⟨a3, l, e, h4⟩ := sy_xi_ok h3; subst e
  obtain ⟨e, h5⟩ := sy_xn_ok h4; subst e
  obtain ⟨e, h6⟩ := sy_xn_ok h5; subst e
  exact hk a1 a2 a3 M r h6
def jfX11_repay_80 (a1 : Int32) (a2 : Int32) (a3 : Int32) (M : sy_M) : sy_O :=
  sy_bi (jfX2_owed 9 a1 a2 M) fun v2 M1 =>
  sy_bv (jfX2_setOwed 9 a1 a2 (v2 - a3) M1) fun M3 =>
  sy_ri a3 M3
set_option maxRecDepth 100000 in
theorem jrX11_repay_80 (a1 : Int32) (a2 : Int32) (a3 : Int32) (M : sy_M) : sy_run skX11 qX11_repay [(80, .aload_n 0, 1, []), (81, .getfield 28, 3, []), (84, .iload_n 1, 1, []), (85, .iload_n 2, 1, []), (86, .aload_n 0, 1, []), (87, .getfield 28, 3, []), (90, .iload_n 1, 1, []), (91, .iload_n 2, 1, []), (92, .invokevirtual 194, 3, []), (95, .iload_n 3, 1, []), (96, .isub, 1, []), (97, .invokevirtual 268, 3, []), (100, .iload_n 3, 1, []), (101, .ireturn, 1, [])] [(19, 0, jcX2_owed), (20, 1, jcX2_setOwed)] [] 15 [] 80 [.ref 0, .int a1, .int a2, .int a3] [] M = jfX11_repay_80 a1 a2 a3 M := rfl
theorem jtX11_repay_80 : ∀ (a1 : Int32) (a2 : Int32) (a3 : Int32) (M : sy_M) (r : xe_R × sy_M), jfX11_repay_80 a1 a2 a3 M = some r → sy_E (4) qX11_repay 80 [.ref 0, .int a1, .int a2, .int a3] [] M r := by
  intro a1 a2 a3 M r h
  exact sy_run_by (d := 3) ((jrX11_repay_80 _ _ _ M).trans h) hkX11 (by decide +kernel) (sy_cs_cons (jeX2_owed.deep (by decide)) (sy_cs_cons (jeX2_setOwed.deep (by decide)) sy_cs_nil)) sy_us_nil
def jfX11_repay (a1 : Int32) (a2 : Int32) (M : sy_M) : sy_O :=
  sy_bv (jfX11_checkTwo a1 a2 M) fun M1 =>
  sy_bi (jfX2_owed 9 a1 a2 M1) fun v3 M2 =>
  sy_bi (jfX2_get 9 a1 5 M2) fun v5 M4 =>
  sy_bi (jfJ9_min_7cf53 v3 v5 M4) fun v7 M6 =>
  sy_bi (jfX2_get 9 a2 5 M6) fun v9 M8 =>
  sy_bi (jfJ9_min_7cf53 v7 (999 - v9) M8) fun v11 M10 =>
  if v11 < 1 then
    sy_bx (xe_in (M10 133 0) 100000) <|
    sy_rt 24 (sy_upd M10 133 0 (M10 133 0 + 1))
  else
    sy_bv (jfX0_remember 9 M10) fun M12 =>
    sy_bv (jfX2_moveCoins 9 a1 a2 v11 M12) fun M13 =>
    jfX11_repay_80 a1 a2 v11 M13
set_option maxRecDepth 100000 in
theorem jrX11_repay (a1 : Int32) (a2 : Int32) (M : sy_M) : sy_run skX11 qX11_repay [(0, .aload_n 0, 1, []), (1, .iload_n 1, 1, []), (2, .iload_n 2, 1, []), (3, .invokevirtual 190, 3, []), (6, .aload_n 0, 1, []), (7, .getfield 28, 3, []), (10, .iload_n 1, 1, []), (11, .iload_n 2, 1, []), (12, .invokevirtual 194, 3, []), (15, .aload_n 0, 1, []), (16, .getfield 28, 3, []), (19, .iload_n 1, 1, []), (20, .iconst 5, 1, []), (21, .invokevirtual 152, 3, []), (24, .invokestatic 271, 3, []), (27, .istore_n 3, 1, []), (28, .iload_n 3, 1, []), (29, .sipush 999, 3, []), (32, .aload_n 0, 1, []), (33, .getfield 28, 3, []), (36, .iload_n 2, 1, []), (37, .iconst 5, 1, []), (38, .invokevirtual 152, 3, []), (41, .isub, 1, []), (42, .invokestatic 271, 3, []), (45, .istore_n 3, 1, []), (46, .iload_n 3, 1, []), (47, .iconst 1, 1, []), (48, .if_icmp .ge 11, 3, []), (51, .new 259, 3, []), (59, .aload_n 0, 1, []), (60, .getfield 89, 3, []), (63, .aload_n 0, 1, []), (64, .getfield 28, 3, []), (67, .invokevirtual 252, 3, []), (70, .aload_n 0, 1, []), (71, .getfield 28, 3, []), (74, .iload_n 1, 1, []), (75, .iload_n 2, 1, []), (76, .iload_n 3, 1, []), (77, .invokevirtual 265, 3, [])] [(177, 1, jcX11_checkTwo), (19, 0, jcX2_owed), (10, 0, jcX2_get), (360, 0, jcJ9_min_7cf53), (2, 1, jcX0_remember), (24, 1, jcX2_moveCoins)] [(80, juX11_repay_80 (jfX11_repay_80))] 42 [] 0 [.ref 0, .int a1, .int a2, xe_no] [] M = jfX11_repay a1 a2 M := rfl
theorem jtX11_repay : ∀ (a1 : Int32) (a2 : Int32) (M : sy_M) (r : xe_R × sy_M), jfX11_repay a1 a2 M = some r → sy_E (4) qX11_repay 0 [.ref 0, .int a1, .int a2, xe_no] [] M r := by
  intro a1 a2 M r h
  exact sy_run_by (d := 3) ((jrX11_repay _ _ M).trans h) hkX11 (by decide +kernel) (sy_cs_cons (jeX11_checkTwo.deep (by decide)) (sy_cs_cons (jeX2_owed.deep (by decide)) (sy_cs_cons (jeX2_get.deep (by decide)) (sy_cs_cons (jeJ9_min_7cf53.deep (by decide)) (sy_cs_cons (jeX0_remember.deep (by decide)) (sy_cs_cons (jeX2_moveCoins.deep (by decide)) sy_cs_nil)))))) (sy_us_cons (jwX11_repay_80 (jtX11_repay_80)) sy_us_nil)
def jcX11_repay (as : List Value) (M : sy_M) (K : sy_O → sy_O) : sy_O := sy_xc 0 as fun l => sy_xi l fun a1 l => sy_xi l fun a2 l => sy_xn l (K (jfX11_repay a1 a2 M))
theorem jeX11_repay : sy_snd (4) 104 (jcX11_repay) := by
  intro as M K r h
  obtain ⟨l, e, h1⟩ := sy_xc_ok h; subst e
  obtain ⟨a1, l, e, h2⟩ := sy_xi_ok h1; subst e
  obtain ⟨a2, l, e, h3⟩ := sy_xi_ok h2; subst e
  obtain ⟨e, h4⟩ := sy_xn_ok h3; subst e
  exact ⟨_, h4, fun r1 h0 => ⟨qX11_repay, rfl, rfl, jtX11_repay _ _ M r1 h0⟩⟩
/-! L_repay StairMeterLaw repay (LStairMeter;II[J)I [('R', 0), 'I', 'I', ('R', 132)] -/
def jfL_repay (a1 : Int32) (a2 : Int32) (M : sy_M) : sy_O :=
  sy_hi (jfX11_repay a1 a2 M) (fun v2 M1 =>
    let M5 := sy_wl M1 132 0 (Int32.toInt64 v2)
    sy_ri 0 M5)
  (fun c3 M4 => if c3 = 22 then sy_ri 1 M4 else if c3 = 20 then sy_ri 2 M4 else if c3 = 24 then sy_ri 3 M4 else none)
set_option maxRecDepth 100000 in
theorem jrL_repay (a1 : Int32) (a2 : Int32) (M : sy_M) : sy_run skL qL_repay [(0, .aload_n 3, 1, []), (1, .iconst 0, 1, []), (2, .aload_n 0, 1, []), (3, .iload_n 1, 1, []), (4, .iload_n 2, 1, []), (5, .invokevirtual 50, 3, []), (8, .i2l, 1, []), (9, .lastore, 1, []), (10, .goto 15, 3, []), (13, .astore 4, 2, [false, false, false, false, false]), (15, .iconst 1, 1, []), (16, .ireturn, 1, []), (17, .astore 4, 2, [false, false, false, false, false]), (19, .iconst 2, 1, []), (20, .ireturn, 1, []), (21, .astore 4, 2, [false, false, false, false, false]), (23, .iconst 3, 1, []), (24, .ireturn, 1, []), (25, .iconst 0, 1, [false, false, false, false, false]), (26, .ireturn, 1, [])] [(104, 3, jcX11_repay)] [] 21 [] 0 [.ref 0, .int a1, .int a2, .ref 132, xe_no] [] M = jfL_repay a1 a2 M := rfl
theorem jtL_repay : ∀ (a1 : Int32) (a2 : Int32) (M : sy_M) (r : xe_R × sy_M), jfL_repay a1 a2 M = some r → sy_E (5) qL_repay 0 [.ref 0, .int a1, .int a2, .ref 132, xe_no] [] M r := by
  intro a1 a2 M r h
  exact sy_run_by (d := 4) ((jrL_repay _ _ M).trans h) hkL (by decide +kernel) (sy_cs_cons (jeX11_repay.deep (by decide)) sy_cs_nil) sy_us_nil
def jcL_repay (as : List Value) (M : sy_M) (K : sy_O → sy_O) : sy_O := sy_xc 0 as fun l => sy_xi l fun a1 l => sy_xi l fun a2 l => sy_xc 132 l fun l => sy_xn l (K (jfL_repay a1 a2 M))
theorem jeL_repay : sy_snd (5) 330 (jcL_repay) := by
  intro as M K r h
  obtain ⟨l, e, h1⟩ := sy_xc_ok h; subst e
  obtain ⟨a1, l, e, h2⟩ := sy_xi_ok h1; subst e
  obtain ⟨a2, l, e, h3⟩ := sy_xi_ok h2; subst e
  obtain ⟨l, e, h4⟩ := sy_xc_ok h3; subst e
  obtain ⟨e, h5⟩ := sy_xn_ok h4; subst e
  exact ⟨_, h5, fun r1 h0 => ⟨qL_repay, rfl, rfl, jtL_repay _ _ M r1 h0⟩⟩
/-! X12_repay StairMeterModel repay (II)I [('R', 121), 'I', 'I'] -/
def juX12_repay_54 (k : Int32 → Int32 → Int32 → Int32 → sy_M → sy_O) (ls st : List Value) (M : sy_M) : sy_O := sy_xc 121 ls fun l => sy_xi l fun a1 l => sy_xi l fun a2 l => sy_xi l fun a3 l => sy_xv l fun _ l => sy_xn l (sy_xi st fun s0 l => sy_xc 121 l fun l => sy_xn l (k a1 a2 a3 s0 M))
theorem jwX12_repay_54 {d : Nat} {k : Int32 → Int32 → Int32 → Int32 → sy_M → sy_O} (hk : ∀ (w4 : Value) (a1 : Int32) (a2 : Int32) (a3 : Int32) (s0 : Int32) (M : sy_M) (r : xe_R × sy_M), k a1 a2 a3 s0 M = some r → sy_E (d) qX12_repay 54 [.ref 121, .int a1, .int a2, .int a3, w4] [.int s0, .ref 121] M r) : ∀ ls st M r, juX12_repay_54 k ls st M = some r → sy_E d qX12_repay 54 ls st M r := by
  intro ls st M r h
  obtain ⟨l, e, h1⟩ := sy_xc_ok h; subst e
  obtain ⟨a1, l, e, h2⟩ := sy_xi_ok h1; subst e
  obtain ⟨a2, l, e, h3⟩ := sy_xi_ok h2; subst e
  obtain ⟨a3, l, e, h4⟩ := sy_xi_ok h3; subst e
  obtain ⟨w4, l, e, h5⟩ := sy_xv_ok h4; subst e
  obtain ⟨e, h6⟩ := sy_xn_ok h5; subst e
  obtain ⟨s0, l, e, h7⟩ := sy_xi_ok h6; subst e
  obtain ⟨l, e, h8⟩ := sy_xc_ok h7; subst e
  obtain ⟨e, h9⟩ := sy_xn_ok h8; subst e
  exact hk _ a1 a2 a3 s0 M r h9
def jfX12_repay_54 (a1 : Int32) (a2 : Int32) (a3 : Int32) (s0 : Int32) (M : sy_M) : sy_O :=
  let M1 := sy_upd M 121 0 s0
  if 0 < (M1 121 0) then
    sy_ri 0 M1
  else
    sy_bi (jfX12_owed a1 a2 M1) fun v3 M2 =>
    sy_bi (jfX12_sets ((77 + (7 * a1)) + a2) (v3 - a3) M2) fun v5 M4 =>
    sy_bi (jfX12_of a1 5 M4) fun v7 M6 =>
    sy_bv (jfX12_lays a1 5 (v7 - a3) M6) fun M8 =>
    sy_bi (jfX12_of a2 5 M8) fun v10 M9 =>
    sy_bv (jfX12_lays a2 5 (v10 + a3) M9) fun M11 =>
    sy_ri a3 M11
set_option maxRecDepth 100000 in
theorem jrX12_repay_54 (w4 : Value) (a1 : Int32) (a2 : Int32) (a3 : Int32) (s0 : Int32) (M : sy_M) : sy_run skX12 qX12_repay [(54, .putfield 45, 3, [true, true, true, true, false]), (57, .aload_n 0, 1, []), (58, .getfield 45, 3, []), (61, .ifCond .le 5, 3, []), (64, .iconst 0, 1, []), (65, .ireturn, 1, []), (66, .aload_n 0, 1, [true, true, true, true, false]), (67, .bipush 77, 2, []), (69, .bipush 7, 2, []), (71, .iload_n 1, 1, []), (72, .imul, 1, []), (73, .iadd, 1, []), (74, .iload_n 2, 1, []), (75, .iadd, 1, []), (76, .aload_n 0, 1, []), (77, .iload_n 1, 1, []), (78, .iload_n 2, 1, []), (79, .invokevirtual 302, 3, []), (82, .iload_n 3, 1, []), (83, .isub, 1, []), (84, .invokevirtual 318, 3, []), (87, .istore 4, 2, []), (89, .aload_n 0, 1, []), (90, .iload_n 1, 1, []), (91, .iconst 5, 1, []), (92, .aload_n 0, 1, []), (93, .iload_n 1, 1, []), (94, .iconst 5, 1, []), (95, .invokevirtual 52, 3, []), (98, .iload_n 3, 1, []), (99, .isub, 1, []), (100, .invokevirtual 132, 3, []), (103, .aload_n 0, 1, []), (104, .iload_n 2, 1, []), (105, .iconst 5, 1, []), (106, .aload_n 0, 1, []), (107, .iload_n 2, 1, []), (108, .iconst 5, 1, []), (109, .invokevirtual 52, 3, []), (112, .iload_n 3, 1, []), (113, .iadd, 1, []), (114, .invokevirtual 132, 3, []), (117, .iload_n 3, 1, []), (118, .ireturn, 1, [])] [(189, 0, jcX12_owed), (245, 0, jcX12_sets), (187, 0, jcX12_of), (188, 1, jcX12_lays)] [] 45 [] 54 [.ref 121, .int a1, .int a2, .int a3, w4] [.int s0, .ref 121] M = jfX12_repay_54 a1 a2 a3 s0 M := rfl
theorem jtX12_repay_54 : ∀ (w4 : Value) (a1 : Int32) (a2 : Int32) (a3 : Int32) (s0 : Int32) (M : sy_M) (r : xe_R × sy_M), jfX12_repay_54 a1 a2 a3 s0 M = some r → sy_E (4) qX12_repay 54 [.ref 121, .int a1, .int a2, .int a3, w4] [.int s0, .ref 121] M r := by
  intro w4 a1 a2 a3 s0 M r h
  exact sy_run_by (d := 3) ((jrX12_repay_54 _ _ _ _ _ M).trans h) hkX12 (by decide +kernel) (sy_cs_cons (jeX12_owed.deep (by decide)) (sy_cs_cons (jeX12_sets.deep (by decide)) (sy_cs_cons (jeX12_of.deep (by decide)) (sy_cs_cons (jeX12_lays.deep (by decide)) sy_cs_nil)))) sy_us_nil
def jfX12_repay (a1 : Int32) (a2 : Int32) (M : sy_M) : sy_O :=
  sy_bv (jfX12_areTwo a1 a2 M) fun M1 =>
  if 0 < (M1 121 0) then
    sy_ri 0 M1
  else
    sy_bi (jfX12_owed a1 a2 M1) fun v3 M2 =>
    sy_bi (jfX12_of a1 5 M2) fun v5 M4 =>
    sy_bi (jfX12_of a2 5 M4) fun v7 M6 =>
    sy_bi (jfX12_lesser v5 (999 - v7) M6) fun v9 M8 =>
    sy_bi (jfX12_lesser v3 v9 M8) fun v11 M10 =>
    if v11 = 0 then
      jfX12_repay_54 a1 a2 v11 3 M10
    else
      jfX12_repay_54 a1 a2 v11 0 M10
set_option maxRecDepth 100000 in
theorem jrX12_repay (a1 : Int32) (a2 : Int32) (M : sy_M) : sy_run skX12 qX12_repay [(0, .aload_n 0, 1, []), (1, .iload_n 1, 1, []), (2, .iload_n 2, 1, []), (3, .invokevirtual 299, 3, []), (6, .aload_n 0, 1, []), (7, .getfield 45, 3, []), (10, .ifCond .le 5, 3, []), (13, .iconst 0, 1, []), (14, .ireturn, 1, []), (15, .aload_n 0, 1, [true, true, true, false, false]), (16, .iload_n 1, 1, []), (17, .iload_n 2, 1, []), (18, .invokevirtual 302, 3, []), (21, .aload_n 0, 1, []), (22, .iload_n 1, 1, []), (23, .iconst 5, 1, []), (24, .invokevirtual 52, 3, []), (27, .sipush 999, 3, []), (30, .aload_n 0, 1, []), (31, .iload_n 2, 1, []), (32, .iconst 5, 1, []), (33, .invokevirtual 52, 3, []), (36, .isub, 1, []), (37, .invokestatic 244, 3, []), (40, .invokestatic 244, 3, []), (43, .istore_n 3, 1, []), (44, .aload_n 0, 1, []), (45, .iload_n 3, 1, []), (46, .ifCond .ne 7, 3, []), (49, .iconst 3, 1, []), (50, .goto 4, 3, []), (53, .iconst 0, 1, [true, true, true, true, false])] [(240, 1, jcX12_areTwo), (189, 0, jcX12_owed), (187, 0, jcX12_of), (183, 0, jcX12_lesser)] [(54, juX12_repay_54 (jfX12_repay_54))] 33 [] 0 [.ref 121, .int a1, .int a2, xe_no, xe_no] [] M = jfX12_repay a1 a2 M := rfl
theorem jtX12_repay : ∀ (a1 : Int32) (a2 : Int32) (M : sy_M) (r : xe_R × sy_M), jfX12_repay a1 a2 M = some r → sy_E (4) qX12_repay 0 [.ref 121, .int a1, .int a2, xe_no, xe_no] [] M r := by
  intro a1 a2 M r h
  exact sy_run_by (d := 3) ((jrX12_repay _ _ M).trans h) hkX12 (by decide +kernel) (sy_cs_cons (jeX12_areTwo.deep (by decide)) (sy_cs_cons (jeX12_owed.deep (by decide)) (sy_cs_cons (jeX12_of.deep (by decide)) (sy_cs_cons (jeX12_lesser.deep (by decide)) sy_cs_nil)))) (sy_us_cons (jwX12_repay_54 (jtX12_repay_54)) sy_us_nil)
def jcX12_repay (as : List Value) (M : sy_M) (K : sy_O → sy_O) : sy_O := sy_xc 121 as fun l => sy_xi l fun a1 l => sy_xi l fun a2 l => sy_xn l (K (jfX12_repay a1 a2 M))
theorem jeX12_repay : sy_snd (4) 249 (jcX12_repay) := by
  intro as M K r h
  obtain ⟨l, e, h1⟩ := sy_xc_ok h; subst e
  obtain ⟨a1, l, e, h2⟩ := sy_xi_ok h1; subst e
  obtain ⟨a2, l, e, h3⟩ := sy_xi_ok h2; subst e
  obtain ⟨e, h4⟩ := sy_xn_ok h3; subst e
  exact ⟨_, h4, fun r1 h0 => ⟨qX12_repay, rfl, rfl, jtX12_repay _ _ M r1 h0⟩⟩
/-! X11_waits StairMeter waits (II)I [('R', 0), 'I', 'I'] -/
def jfX11_waits (a1 : Int32) (a2 : Int32) (M : sy_M) : sy_O :=
  sy_bv (jfX11_checkLodger a1 M) fun M1 =>
  sy_bv (jfX11_checkRange a2 0 20 M1) fun M2 =>
  sy_bv (jfX0_remember 9 M2) fun M3 =>
  sy_bi (jfX2_get 9 a1 4 M3) fun v5 M4 =>
  sy_bv (jfX2_set 9 a1 4 a2 M4) fun M6 =>
  sy_ri v5 M6
set_option maxRecDepth 100000 in
theorem jrX11_waits (a1 : Int32) (a2 : Int32) (M : sy_M) : sy_run skX11 qX11_waits [(0, .aload_n 0, 1, []), (1, .iload_n 1, 1, []), (2, .invokevirtual 149, 3, []), (5, .iload_n 2, 1, []), (6, .iconst 0, 1, []), (7, .bipush 20, 2, []), (9, .invokestatic 248, 3, []), (12, .aload_n 0, 1, []), (13, .getfield 89, 3, []), (16, .aload_n 0, 1, []), (17, .getfield 28, 3, []), (20, .invokevirtual 252, 3, []), (23, .aload_n 0, 1, []), (24, .getfield 28, 3, []), (27, .iload_n 1, 1, []), (28, .iconst 4, 1, []), (29, .invokevirtual 152, 3, []), (32, .istore_n 3, 1, []), (33, .aload_n 0, 1, []), (34, .getfield 28, 3, []), (37, .iload_n 1, 1, []), (38, .iconst 4, 1, []), (39, .iload_n 2, 1, []), (40, .invokevirtual 276, 3, []), (43, .iload_n 3, 1, []), (44, .ireturn, 1, [])] [(176, 1, jcX11_checkLodger), (179, 1, jcX11_checkRange), (2, 1, jcX0_remember), (10, 0, jcX2_get), (11, 1, jcX2_set)] [] 27 [] 0 [.ref 0, .int a1, .int a2, xe_no] [] M = jfX11_waits a1 a2 M := rfl
theorem jtX11_waits : ∀ (a1 : Int32) (a2 : Int32) (M : sy_M) (r : xe_R × sy_M), jfX11_waits a1 a2 M = some r → sy_E (4) qX11_waits 0 [.ref 0, .int a1, .int a2, xe_no] [] M r := by
  intro a1 a2 M r h
  exact sy_run_by (d := 3) ((jrX11_waits _ _ M).trans h) hkX11 (by decide +kernel) (sy_cs_cons (jeX11_checkLodger.deep (by decide)) (sy_cs_cons (jeX11_checkRange.deep (by decide)) (sy_cs_cons (jeX0_remember.deep (by decide)) (sy_cs_cons (jeX2_get.deep (by decide)) (sy_cs_cons (jeX2_set.deep (by decide)) sy_cs_nil))))) sy_us_nil
def jcX11_waits (as : List Value) (M : sy_M) (K : sy_O → sy_O) : sy_O := sy_xc 0 as fun l => sy_xi l fun a1 l => sy_xi l fun a2 l => sy_xn l (K (jfX11_waits a1 a2 M))
theorem jeX11_waits : sy_snd (4) 105 (jcX11_waits) := by
  intro as M K r h
  obtain ⟨l, e, h1⟩ := sy_xc_ok h; subst e
  obtain ⟨a1, l, e, h2⟩ := sy_xi_ok h1; subst e
  obtain ⟨a2, l, e, h3⟩ := sy_xi_ok h2; subst e
  obtain ⟨e, h4⟩ := sy_xn_ok h3; subst e
  exact ⟨_, h4, fun r1 h0 => ⟨qX11_waits, rfl, rfl, jtX11_waits _ _ M r1 h0⟩⟩
/-! L_waits StairMeterLaw waits (LStairMeter;II[J)I [('R', 0), 'I', 'I', ('R', 132)] -/
def jfL_waits (a1 : Int32) (a2 : Int32) (M : sy_M) : sy_O :=
  sy_hi (jfX11_waits a1 a2 M) (fun v2 M1 =>
    let M5 := sy_wl M1 132 0 (Int32.toInt64 v2)
    sy_ri 0 M5)
  (fun c3 M4 => if c3 = 22 then sy_ri 1 M4 else if c3 = 20 then sy_ri 2 M4 else none)
set_option maxRecDepth 100000 in
theorem jrL_waits (a1 : Int32) (a2 : Int32) (M : sy_M) : sy_run skL qL_waits [(0, .aload_n 3, 1, []), (1, .iconst 0, 1, []), (2, .aload_n 0, 1, []), (3, .iload_n 1, 1, []), (4, .iload_n 2, 1, []), (5, .invokevirtual 53, 3, []), (8, .i2l, 1, []), (9, .lastore, 1, []), (10, .goto 11, 3, []), (13, .astore 4, 2, [false, false, false, false, false]), (15, .iconst 1, 1, []), (16, .ireturn, 1, []), (17, .astore 4, 2, [false, false, false, false, false]), (19, .iconst 2, 1, []), (20, .ireturn, 1, []), (21, .iconst 0, 1, [false, false, false, false, false]), (22, .ireturn, 1, [])] [(105, 3, jcX11_waits)] [] 18 [] 0 [.ref 0, .int a1, .int a2, .ref 132, xe_no] [] M = jfL_waits a1 a2 M := rfl
theorem jtL_waits : ∀ (a1 : Int32) (a2 : Int32) (M : sy_M) (r : xe_R × sy_M), jfL_waits a1 a2 M = some r → sy_E (5) qL_waits 0 [.ref 0, .int a1, .int a2, .ref 132, xe_no] [] M r := by
  intro a1 a2 M r h
  exact sy_run_by (d := 4) ((jrL_waits _ _ M).trans h) hkL (by decide +kernel) (sy_cs_cons (jeX11_waits.deep (by decide)) sy_cs_nil) sy_us_nil
def jcL_waits (as : List Value) (M : sy_M) (K : sy_O → sy_O) : sy_O := sy_xc 0 as fun l => sy_xi l fun a1 l => sy_xi l fun a2 l => sy_xc 132 l fun l => sy_xn l (K (jfL_waits a1 a2 M))
theorem jeL_waits : sy_snd (5) 331 (jcL_waits) := by
  intro as M K r h
  obtain ⟨l, e, h1⟩ := sy_xc_ok h; subst e
  obtain ⟨a1, l, e, h2⟩ := sy_xi_ok h1; subst e
  obtain ⟨a2, l, e, h3⟩ := sy_xi_ok h2; subst e
  obtain ⟨l, e, h4⟩ := sy_xc_ok h3; subst e
  obtain ⟨e, h5⟩ := sy_xn_ok h4; subst e
  exact ⟨_, h5, fun r1 h0 => ⟨qL_waits, rfl, rfl, jtL_waits _ _ M r1 h0⟩⟩
/-! X12_waits StairMeterModel waits (II)I [('R', 121), 'I', 'I'] -/
def juX12_waits_28 (k : Int32 → Int32 → Int32 → sy_M → sy_O) (ls st : List Value) (M : sy_M) : sy_O := sy_xc 121 ls fun l => sy_xi l fun a1 l => sy_xi l fun a2 l => sy_xn l (sy_xi st fun s0 l => sy_xc 121 l fun l => sy_xn l (k a1 a2 s0 M))
theorem jwX12_waits_28 {d : Nat} {k : Int32 → Int32 → Int32 → sy_M → sy_O} (hk : ∀ (a1 : Int32) (a2 : Int32) (s0 : Int32) (M : sy_M) (r : xe_R × sy_M), k a1 a2 s0 M = some r → sy_E (d) qX12_waits 28 [.ref 121, .int a1, .int a2] [.int s0, .ref 121] M r) : ∀ ls st M r, juX12_waits_28 k ls st M = some r → sy_E d qX12_waits 28 ls st M r := by
  intro ls st M r h
  obtain ⟨l, e, h1⟩ := sy_xc_ok h; subst e
  obtain ⟨a1, l, e, h2⟩ := sy_xi_ok h1; subst e
  obtain ⟨a2, l, e, h3⟩ := sy_xi_ok h2; subst e
  obtain ⟨e, h4⟩ := sy_xn_ok h3; subst e
  obtain ⟨s0, l, e, h5⟩ := sy_xi_ok h4; subst e
  obtain ⟨l, e, h6⟩ := sy_xc_ok h5; subst e
  obtain ⟨e, h7⟩ := sy_xn_ok h6; subst e
  exact hk a1 a2 s0 M r h7
def jfX12_waits_28 (a1 : Int32) (a2 : Int32) (s0 : Int32) (M : sy_M) : sy_O :=
  let M1 := sy_upd M 121 0 s0
  if 0 < (M1 121 0) then
    sy_ri 0 M1
  else
    sy_bi (jfX12_sets ((14 + (9 * a1)) + 4) a2 M1) fun v3 M2 =>
    sy_ri v3 M2
set_option maxRecDepth 100000 in
theorem jrX12_waits_28 (a1 : Int32) (a2 : Int32) (s0 : Int32) (M : sy_M) : sy_run skX12 qX12_waits [(28, .putfield 45, 3, []), (31, .aload_n 0, 1, []), (32, .getfield 45, 3, []), (35, .ifCond .le 7, 3, []), (38, .iconst 0, 1, []), (39, .goto 17, 3, []), (42, .aload_n 0, 1, []), (43, .bipush 14, 2, []), (45, .bipush 9, 2, []), (47, .iload_n 1, 1, []), (48, .imul, 1, []), (49, .iadd, 1, []), (50, .iconst 4, 1, []), (51, .iadd, 1, []), (52, .iload_n 2, 1, []), (53, .invokevirtual 318, 3, []), (56, .ireturn, 1, [false, false, false])] [(245, 0, jcX12_sets)] [] 18 [] 28 [.ref 121, .int a1, .int a2] [.int s0, .ref 121] M = jfX12_waits_28 a1 a2 s0 M := rfl
theorem jtX12_waits_28 : ∀ (a1 : Int32) (a2 : Int32) (s0 : Int32) (M : sy_M) (r : xe_R × sy_M), jfX12_waits_28 a1 a2 s0 M = some r → sy_E (3) qX12_waits 28 [.ref 121, .int a1, .int a2] [.int s0, .ref 121] M r := by
  intro a1 a2 s0 M r h
  exact sy_run_by (d := 2) ((jrX12_waits_28 _ _ _ M).trans h) hkX12 (by decide +kernel) (sy_cs_cons (jeX12_sets.deep (by decide)) sy_cs_nil) sy_us_nil
def jfX12_waits (a1 : Int32) (a2 : Int32) (M : sy_M) : sy_O :=
  sy_bi (jfX12_isLodger a1 M) fun v2 M1 =>
  if v2 = 0 then
    jfX12_waits_28 a1 a2 1 M1
  else
    sy_bi (jfX12_isIn a2 0 20 M1) fun v4 M3 =>
    if v4 = 0 then
      jfX12_waits_28 a1 a2 2 M3
    else
      jfX12_waits_28 a1 a2 0 M3
set_option maxRecDepth 100000 in
theorem jrX12_waits (a1 : Int32) (a2 : Int32) (M : sy_M) : sy_run skX12 qX12_waits [(0, .aload_n 0, 1, []), (1, .aload_n 0, 1, []), (2, .iload_n 1, 1, []), (3, .invokevirtual 284, 3, []), (6, .ifCond .ne 7, 3, []), (9, .iconst 1, 1, []), (10, .goto 18, 3, []), (13, .iload_n 2, 1, []), (14, .iconst 0, 1, []), (15, .bipush 20, 2, []), (17, .invokestatic 48, 3, []), (20, .ifCond .ne 7, 3, []), (23, .iconst 2, 1, []), (24, .goto 4, 3, []), (27, .iconst 0, 1, [])] [(190, 0, jcX12_isLodger), (182, 0, jcX12_isIn)] [(28, juX12_waits_28 (jfX12_waits_28))] 16 [] 0 [.ref 121, .int a1, .int a2] [] M = jfX12_waits a1 a2 M := rfl
theorem jtX12_waits : ∀ (a1 : Int32) (a2 : Int32) (M : sy_M) (r : xe_R × sy_M), jfX12_waits a1 a2 M = some r → sy_E (3) qX12_waits 0 [.ref 121, .int a1, .int a2] [] M r := by
  intro a1 a2 M r h
  exact sy_run_by (d := 2) ((jrX12_waits _ _ M).trans h) hkX12 (by decide +kernel) (sy_cs_cons (jeX12_isLodger.deep (by decide)) (sy_cs_cons (jeX12_isIn.deep (by decide)) sy_cs_nil)) (sy_us_cons (jwX12_waits_28 (jtX12_waits_28)) sy_us_nil)
def jcX12_waits (as : List Value) (M : sy_M) (K : sy_O → sy_O) : sy_O := sy_xc 121 as fun l => sy_xi l fun a1 l => sy_xi l fun a2 l => sy_xn l (K (jfX12_waits a1 a2 M))
theorem jeX12_waits : sy_snd (3) 250 (jcX12_waits) := by
  intro as M K r h
  obtain ⟨l, e, h1⟩ := sy_xc_ok h; subst e
  obtain ⟨a1, l, e, h2⟩ := sy_xi_ok h1; subst e
  obtain ⟨a2, l, e, h3⟩ := sy_xi_ok h2; subst e
  obtain ⟨e, h4⟩ := sy_xn_ok h3; subst e
  exact ⟨_, h4, fun r1 h0 => ⟨qX12_waits, rfl, rfl, jtX12_waits _ _ M r1 h0⟩⟩
/-! X11_price StairMeter price (I)I [('R', 0), 'I'] -/
def jfX11_price (a1 : Int32) (M : sy_M) : sy_O :=
  sy_bv (jfX11_checkRange a1 1 99 M) fun M1 =>
  sy_bv (jfX0_remember 9 M1) fun M2 =>
  let v3 := (M2 9 8)
  let M4 := sy_upd M2 9 8 a1
  sy_ri v3 M4
set_option maxRecDepth 100000 in
theorem jrX11_price (a1 : Int32) (M : sy_M) : sy_run skX11 qX11_price [(0, .iload_n 1, 1, []), (1, .iconst 1, 1, []), (2, .bipush 99, 2, []), (4, .invokestatic 248, 3, []), (7, .aload_n 0, 1, []), (8, .getfield 89, 3, []), (11, .aload_n 0, 1, []), (12, .getfield 28, 3, []), (15, .invokevirtual 252, 3, []), (18, .aload_n 0, 1, []), (19, .getfield 28, 3, []), (22, .getfield 218, 3, []), (25, .istore_n 2, 1, []), (26, .aload_n 0, 1, []), (27, .getfield 28, 3, []), (30, .iload_n 1, 1, []), (31, .putfield 218, 3, []), (34, .iload_n 2, 1, []), (35, .ireturn, 1, [])] [(179, 1, jcX11_checkRange), (2, 1, jcX0_remember)] [] 20 [] 0 [.ref 0, .int a1, xe_no] [] M = jfX11_price a1 M := rfl
theorem jtX11_price : ∀ (a1 : Int32) (M : sy_M) (r : xe_R × sy_M), jfX11_price a1 M = some r → sy_E (4) qX11_price 0 [.ref 0, .int a1, xe_no] [] M r := by
  intro a1 M r h
  exact sy_run_by (d := 3) ((jrX11_price _ M).trans h) hkX11 (by decide +kernel) (sy_cs_cons (jeX11_checkRange.deep (by decide)) (sy_cs_cons (jeX0_remember.deep (by decide)) sy_cs_nil)) sy_us_nil
def jcX11_price (as : List Value) (M : sy_M) (K : sy_O → sy_O) : sy_O := sy_xc 0 as fun l => sy_xi l fun a1 l => sy_xn l (K (jfX11_price a1 M))
theorem jeX11_price : sy_snd (4) 106 (jcX11_price) := by
  intro as M K r h
  obtain ⟨l, e, h1⟩ := sy_xc_ok h; subst e
  obtain ⟨a1, l, e, h2⟩ := sy_xi_ok h1; subst e
  obtain ⟨e, h3⟩ := sy_xn_ok h2; subst e
  exact ⟨_, h3, fun r1 h0 => ⟨qX11_price, rfl, rfl, jtX11_price _ M r1 h0⟩⟩
/-! L_price StairMeterLaw price (LStairMeter;I[J)I [('R', 0), 'I', ('R', 132)] -/
def jfL_price (a1 : Int32) (M : sy_M) : sy_O :=
  sy_hi (jfX11_price a1 M) (fun v2 M1 =>
    let M5 := sy_wl M1 132 0 (Int32.toInt64 v2)
    sy_ri 0 M5)
  (fun c3 M4 => if c3 = 20 then sy_ri 1 M4 else none)
set_option maxRecDepth 100000 in
theorem jrL_price (a1 : Int32) (M : sy_M) : sy_run skL qL_price [(0, .aload_n 2, 1, []), (1, .iconst 0, 1, []), (2, .aload_n 0, 1, []), (3, .iload_n 1, 1, []), (4, .invokevirtual 56, 3, []), (7, .i2l, 1, []), (8, .lastore, 1, []), (9, .goto 6, 3, []), (12, .astore_n 3, 1, [false, false, false, false]), (13, .iconst 1, 1, []), (14, .ireturn, 1, []), (15, .iconst 0, 1, [false, false, false, false]), (16, .ireturn, 1, [])] [(106, 3, jcX11_price)] [] 14 [] 0 [.ref 0, .int a1, .ref 132, xe_no] [] M = jfL_price a1 M := rfl
theorem jtL_price : ∀ (a1 : Int32) (M : sy_M) (r : xe_R × sy_M), jfL_price a1 M = some r → sy_E (5) qL_price 0 [.ref 0, .int a1, .ref 132, xe_no] [] M r := by
  intro a1 M r h
  exact sy_run_by (d := 4) ((jrL_price _ M).trans h) hkL (by decide +kernel) (sy_cs_cons (jeX11_price.deep (by decide)) sy_cs_nil) sy_us_nil
def jcL_price (as : List Value) (M : sy_M) (K : sy_O → sy_O) : sy_O := sy_xc 0 as fun l => sy_xi l fun a1 l => sy_xc 132 l fun l => sy_xn l (K (jfL_price a1 M))
theorem jeL_price : sy_snd (5) 332 (jcL_price) := by
  intro as M K r h
  obtain ⟨l, e, h1⟩ := sy_xc_ok h; subst e
  obtain ⟨a1, l, e, h2⟩ := sy_xi_ok h1; subst e
  obtain ⟨l, e, h3⟩ := sy_xc_ok h2; subst e
  obtain ⟨e, h4⟩ := sy_xn_ok h3; subst e
  exact ⟨_, h4, fun r1 h0 => ⟨qL_price, rfl, rfl, jtL_price _ M r1 h0⟩⟩
/-! X12_price StairMeterModel price (I)I [('R', 121), 'I'] -/
def juX12_price_16 (k : Int32 → Int32 → sy_M → sy_O) (ls st : List Value) (M : sy_M) : sy_O := sy_xc 121 ls fun l => sy_xi l fun a1 l => sy_xn l (sy_xi st fun s0 l => sy_xc 121 l fun l => sy_xn l (k a1 s0 M))
theorem jwX12_price_16 {d : Nat} {k : Int32 → Int32 → sy_M → sy_O} (hk : ∀ (a1 : Int32) (s0 : Int32) (M : sy_M) (r : xe_R × sy_M), k a1 s0 M = some r → sy_E (d) qX12_price 16 [.ref 121, .int a1] [.int s0, .ref 121] M r) : ∀ ls st M r, juX12_price_16 k ls st M = some r → sy_E d qX12_price 16 ls st M r := by
  intro ls st M r h
  obtain ⟨l, e, h1⟩ := sy_xc_ok h; subst e
  obtain ⟨a1, l, e, h2⟩ := sy_xi_ok h1; subst e
  obtain ⟨e, h3⟩ := sy_xn_ok h2; subst e
  obtain ⟨s0, l, e, h4⟩ := sy_xi_ok h3; subst e
  obtain ⟨l, e, h5⟩ := sy_xc_ok h4; subst e
  obtain ⟨e, h6⟩ := sy_xn_ok h5; subst e
  exact hk a1 s0 M r h6
def jfX12_price_16 (a1 : Int32) (s0 : Int32) (M : sy_M) : sy_O :=
  let M1 := sy_upd M 121 0 s0
  if 0 < (M1 121 0) then
    sy_ri 0 M1
  else
    sy_bi (jfX12_sets 7 a1 M1) fun v3 M2 =>
    sy_ri v3 M2
set_option maxRecDepth 100000 in
theorem jrX12_price_16 (a1 : Int32) (s0 : Int32) (M : sy_M) : sy_run skX12 qX12_price [(16, .putfield 45, 3, []), (19, .aload_n 0, 1, []), (20, .getfield 45, 3, []), (23, .ifCond .le 7, 3, []), (26, .iconst 0, 1, []), (27, .goto 10, 3, []), (30, .aload_n 0, 1, []), (31, .bipush 7, 2, []), (33, .iload_n 1, 1, []), (34, .invokevirtual 318, 3, []), (37, .ireturn, 1, [false, false])] [(245, 0, jcX12_sets)] [] 12 [] 16 [.ref 121, .int a1] [.int s0, .ref 121] M = jfX12_price_16 a1 s0 M := rfl
theorem jtX12_price_16 : ∀ (a1 : Int32) (s0 : Int32) (M : sy_M) (r : xe_R × sy_M), jfX12_price_16 a1 s0 M = some r → sy_E (3) qX12_price 16 [.ref 121, .int a1] [.int s0, .ref 121] M r := by
  intro a1 s0 M r h
  exact sy_run_by (d := 2) ((jrX12_price_16 _ _ M).trans h) hkX12 (by decide +kernel) (sy_cs_cons (jeX12_sets.deep (by decide)) sy_cs_nil) sy_us_nil
def jfX12_price (a1 : Int32) (M : sy_M) : sy_O :=
  sy_bi (jfX12_isIn a1 1 99 M) fun v2 M1 =>
  if v2 = 0 then
    jfX12_price_16 a1 1 M1
  else
    jfX12_price_16 a1 0 M1
set_option maxRecDepth 100000 in
theorem jrX12_price (a1 : Int32) (M : sy_M) : sy_run skX12 qX12_price [(0, .aload_n 0, 1, []), (1, .iload_n 1, 1, []), (2, .iconst 1, 1, []), (3, .bipush 99, 2, []), (5, .invokestatic 48, 3, []), (8, .ifCond .ne 7, 3, []), (11, .iconst 1, 1, []), (12, .goto 4, 3, []), (15, .iconst 0, 1, [])] [(182, 0, jcX12_isIn)] [(16, juX12_price_16 (jfX12_price_16))] 10 [] 0 [.ref 121, .int a1] [] M = jfX12_price a1 M := rfl
theorem jtX12_price : ∀ (a1 : Int32) (M : sy_M) (r : xe_R × sy_M), jfX12_price a1 M = some r → sy_E (3) qX12_price 0 [.ref 121, .int a1] [] M r := by
  intro a1 M r h
  exact sy_run_by (d := 2) ((jrX12_price _ M).trans h) hkX12 (by decide +kernel) (sy_cs_cons (jeX12_isIn.deep (by decide)) sy_cs_nil) (sy_us_cons (jwX12_price_16 (jtX12_price_16)) sy_us_nil)
def jcX12_price (as : List Value) (M : sy_M) (K : sy_O → sy_O) : sy_O := sy_xc 121 as fun l => sy_xi l fun a1 l => sy_xn l (K (jfX12_price a1 M))
theorem jeX12_price : sy_snd (3) 251 (jcX12_price) := by
  intro as M K r h
  obtain ⟨l, e, h1⟩ := sy_xc_ok h; subst e
  obtain ⟨a1, l, e, h2⟩ := sy_xi_ok h1; subst e
  obtain ⟨e, h3⟩ := sy_xn_ok h2; subst e
  exact ⟨_, h3, fun r1 h0 => ⟨qX12_price, rfl, rfl, jtX12_price _ M r1 h0⟩⟩
/-! X2_swapRooms StairMeter$House swapRooms (II)V ['A', 'I', 'I'] -/
def jfX2_swapRooms (r0 : Nat) (a1 : Int32) (a2 : Int32) (M : sy_M) : sy_O :=
  sy_bs (sy_is 2 r0) <|
  sy_bi (jfX2_get r0 a1 0 M) fun v2 M1 =>
  sy_bs (sy_is 2 r0) <|
  sy_bi (jfX2_get r0 a1 3 M1) fun v4 M3 =>
  sy_bs (sy_is 2 r0) <|
  sy_bi (jfX2_get r0 a2 0 M3) fun v6 M5 =>
  sy_bs (sy_is 2 r0) <|
  sy_bv (jfX2_set r0 a1 0 v6 M5) fun M7 =>
  sy_bs (sy_is 2 r0) <|
  sy_bi (jfX2_get r0 a2 3 M7) fun v9 M8 =>
  sy_bs (sy_is 2 r0) <|
  sy_bv (jfX2_set r0 a1 3 v9 M8) fun M10 =>
  sy_bs (sy_is 2 r0) <|
  sy_bv (jfX2_set r0 a2 0 v2 M10) fun M11 =>
  sy_bs (sy_is 2 r0) <|
  sy_bv (jfX2_set r0 a2 3 v4 M11) fun M12 =>
  sy_rv M12
set_option maxRecDepth 100000 in
theorem jrX2_swapRooms (r0 : Nat) (a1 : Int32) (a2 : Int32) (M : sy_M) : sy_run skX2 qX2_swapRooms [(0, .aload_n 0, 1, []), (1, .iload_n 1, 1, []), (2, .iconst 0, 1, []), (3, .invokevirtual 71, 3, []), (6, .istore_n 3, 1, []), (7, .aload_n 0, 1, []), (8, .iload_n 1, 1, []), (9, .iconst 3, 1, []), (10, .invokevirtual 71, 3, []), (13, .istore 4, 2, []), (15, .aload_n 0, 1, []), (16, .iload_n 1, 1, []), (17, .iconst 0, 1, []), (18, .aload_n 0, 1, []), (19, .iload_n 2, 1, []), (20, .iconst 0, 1, []), (21, .invokevirtual 71, 3, []), (24, .invokevirtual 84, 3, []), (27, .aload_n 0, 1, []), (28, .iload_n 1, 1, []), (29, .iconst 3, 1, []), (30, .aload_n 0, 1, []), (31, .iload_n 2, 1, []), (32, .iconst 3, 1, []), (33, .invokevirtual 71, 3, []), (36, .invokevirtual 84, 3, []), (39, .aload_n 0, 1, []), (40, .iload_n 2, 1, []), (41, .iconst 0, 1, []), (42, .iload_n 3, 1, []), (43, .invokevirtual 84, 3, []), (46, .aload_n 0, 1, []), (47, .iload_n 2, 1, []), (48, .iconst 3, 1, []), (49, .iload 4, 2, []), (51, .invokevirtual 84, 3, []), (54, .return_, 1, [])] [(10, 0, jcX2_get), (11, 1, jcX2_set)] [] 38 [] 0 [.ref r0, .int a1, .int a2, xe_no, xe_no] [] M = jfX2_swapRooms r0 a1 a2 M := rfl
theorem jtX2_swapRooms : ∀ (r0 : Nat) (a1 : Int32) (a2 : Int32) (M : sy_M) (r : xe_R × sy_M), jfX2_swapRooms r0 a1 a2 M = some r → sy_E (2) qX2_swapRooms 0 [.ref r0, .int a1, .int a2, xe_no, xe_no] [] M r := by
  intro r0 a1 a2 M r h
  exact sy_run_by (d := 1) ((jrX2_swapRooms _ _ _ M).trans h) hkX2 (by decide +kernel) (sy_cs_cons (jeX2_get.deep (by decide)) (sy_cs_cons (jeX2_set.deep (by decide)) sy_cs_nil)) sy_us_nil
def jcX2_swapRooms (as : List Value) (M : sy_M) (K : sy_O → sy_O) : sy_O := sy_xa as fun r0 l => sy_xi l fun a1 l => sy_xi l fun a2 l => sy_xn l (K (jfX2_swapRooms r0 a1 a2 M))
theorem jeX2_swapRooms : sy_snd (2) 18 (jcX2_swapRooms) := by
  intro as M K r h
  obtain ⟨r0, l, e, h1⟩ := sy_xa_ok h; subst e
  obtain ⟨a1, l, e, h2⟩ := sy_xi_ok h1; subst e
  obtain ⟨a2, l, e, h3⟩ := sy_xi_ok h2; subst e
  obtain ⟨e, h4⟩ := sy_xn_ok h3; subst e
  exact ⟨_, h4, fun r1 h0 => ⟨qX2_swapRooms, rfl, rfl, jtX2_swapRooms _ _ _ M r1 h0⟩⟩
/-! X11_change StairMeter change (II)I [('R', 0), 'I', 'I'] -/
def jfX11_change (a1 : Int32) (a2 : Int32) (M : sy_M) : sy_O :=
  sy_bv (jfX11_checkTwo a1 a2 M) fun M1 =>
  sy_bv (jfX0_remember 9 M1) fun M2 =>
  sy_bv (jfX2_swapRooms 9 a1 a2 M2) fun M3 =>
  sy_bi (jfX2_get 9 a1 0 M3) fun v5 M4 =>
  sy_ri v5 M4
set_option maxRecDepth 100000 in
theorem jrX11_change (a1 : Int32) (a2 : Int32) (M : sy_M) : sy_run skX11 qX11_change [(0, .aload_n 0, 1, []), (1, .iload_n 1, 1, []), (2, .iload_n 2, 1, []), (3, .invokevirtual 190, 3, []), (6, .aload_n 0, 1, []), (7, .getfield 89, 3, []), (10, .aload_n 0, 1, []), (11, .getfield 28, 3, []), (14, .invokevirtual 252, 3, []), (17, .aload_n 0, 1, []), (18, .getfield 28, 3, []), (21, .iload_n 1, 1, []), (22, .iload_n 2, 1, []), (23, .invokevirtual 279, 3, []), (26, .aload_n 0, 1, []), (27, .getfield 28, 3, []), (30, .iload_n 1, 1, []), (31, .iconst 0, 1, []), (32, .invokevirtual 152, 3, []), (35, .ireturn, 1, [])] [(177, 1, jcX11_checkTwo), (2, 1, jcX0_remember), (18, 1, jcX2_swapRooms), (10, 0, jcX2_get)] [] 21 [] 0 [.ref 0, .int a1, .int a2] [] M = jfX11_change a1 a2 M := rfl
theorem jtX11_change : ∀ (a1 : Int32) (a2 : Int32) (M : sy_M) (r : xe_R × sy_M), jfX11_change a1 a2 M = some r → sy_E (4) qX11_change 0 [.ref 0, .int a1, .int a2] [] M r := by
  intro a1 a2 M r h
  exact sy_run_by (d := 3) ((jrX11_change _ _ M).trans h) hkX11 (by decide +kernel) (sy_cs_cons (jeX11_checkTwo.deep (by decide)) (sy_cs_cons (jeX0_remember.deep (by decide)) (sy_cs_cons (jeX2_swapRooms.deep (by decide)) (sy_cs_cons (jeX2_get.deep (by decide)) sy_cs_nil)))) sy_us_nil
def jcX11_change (as : List Value) (M : sy_M) (K : sy_O → sy_O) : sy_O := sy_xc 0 as fun l => sy_xi l fun a1 l => sy_xi l fun a2 l => sy_xn l (K (jfX11_change a1 a2 M))
theorem jeX11_change : sy_snd (4) 107 (jcX11_change) := by
  intro as M K r h
  obtain ⟨l, e, h1⟩ := sy_xc_ok h; subst e
  obtain ⟨a1, l, e, h2⟩ := sy_xi_ok h1; subst e
  obtain ⟨a2, l, e, h3⟩ := sy_xi_ok h2; subst e
  obtain ⟨e, h4⟩ := sy_xn_ok h3; subst e
  exact ⟨_, h4, fun r1 h0 => ⟨qX11_change, rfl, rfl, jtX11_change _ _ M r1 h0⟩⟩
/-! L_change StairMeterLaw change (LStairMeter;II[J)I [('R', 0), 'I', 'I', ('R', 132)] -/
def jfL_change (a1 : Int32) (a2 : Int32) (M : sy_M) : sy_O :=
  sy_hi (jfX11_change a1 a2 M) (fun v2 M1 =>
    let M5 := sy_wl M1 132 0 (Int32.toInt64 v2)
    sy_ri 0 M5)
  (fun c3 M4 => if c3 = 22 then sy_ri 1 M4 else if c3 = 20 then sy_ri 2 M4 else none)
set_option maxRecDepth 100000 in
theorem jrL_change (a1 : Int32) (a2 : Int32) (M : sy_M) : sy_run skL qL_change [(0, .aload_n 3, 1, []), (1, .iconst 0, 1, []), (2, .aload_n 0, 1, []), (3, .iload_n 1, 1, []), (4, .iload_n 2, 1, []), (5, .invokevirtual 59, 3, []), (8, .i2l, 1, []), (9, .lastore, 1, []), (10, .goto 11, 3, []), (13, .astore 4, 2, [false, false, false, false, false]), (15, .iconst 1, 1, []), (16, .ireturn, 1, []), (17, .astore 4, 2, [false, false, false, false, false]), (19, .iconst 2, 1, []), (20, .ireturn, 1, []), (21, .iconst 0, 1, [false, false, false, false, false]), (22, .ireturn, 1, [])] [(107, 3, jcX11_change)] [] 18 [] 0 [.ref 0, .int a1, .int a2, .ref 132, xe_no] [] M = jfL_change a1 a2 M := rfl
theorem jtL_change : ∀ (a1 : Int32) (a2 : Int32) (M : sy_M) (r : xe_R × sy_M), jfL_change a1 a2 M = some r → sy_E (5) qL_change 0 [.ref 0, .int a1, .int a2, .ref 132, xe_no] [] M r := by
  intro a1 a2 M r h
  exact sy_run_by (d := 4) ((jrL_change _ _ M).trans h) hkL (by decide +kernel) (sy_cs_cons (jeX11_change.deep (by decide)) sy_cs_nil) sy_us_nil
def jcL_change (as : List Value) (M : sy_M) (K : sy_O → sy_O) : sy_O := sy_xc 0 as fun l => sy_xi l fun a1 l => sy_xi l fun a2 l => sy_xc 132 l fun l => sy_xn l (K (jfL_change a1 a2 M))
theorem jeL_change : sy_snd (5) 333 (jcL_change) := by
  intro as M K r h
  obtain ⟨l, e, h1⟩ := sy_xc_ok h; subst e
  obtain ⟨a1, l, e, h2⟩ := sy_xi_ok h1; subst e
  obtain ⟨a2, l, e, h3⟩ := sy_xi_ok h2; subst e
  obtain ⟨l, e, h4⟩ := sy_xc_ok h3; subst e
  obtain ⟨e, h5⟩ := sy_xn_ok h4; subst e
  exact ⟨_, h5, fun r1 h0 => ⟨qL_change, rfl, rfl, jtL_change _ _ M r1 h0⟩⟩
/-! X12_rooms StairMeterModel rooms (II)V [('R', 121), 'I', 'I'] -/
def jfX12_rooms (a1 : Int32) (a2 : Int32) (M : sy_M) : sy_O :=
  sy_bi (jfX12_of a1 0 M) fun v2 M1 =>
  sy_bi (jfX12_of a1 3 M1) fun v4 M3 =>
  sy_bi (jfX12_of a2 0 M3) fun v6 M5 =>
  sy_bv (jfX12_lays a1 0 v6 M5) fun M7 =>
  sy_bi (jfX12_of a2 3 M7) fun v9 M8 =>
  sy_bv (jfX12_lays a1 3 v9 M8) fun M10 =>
  sy_bv (jfX12_lays a2 0 v2 M10) fun M11 =>
  sy_bv (jfX12_lays a2 3 v4 M11) fun M12 =>
  sy_rv M12
set_option maxRecDepth 100000 in
theorem jrX12_rooms (a1 : Int32) (a2 : Int32) (M : sy_M) : sy_run skX12 qX12_rooms [(0, .aload_n 0, 1, []), (1, .iload_n 1, 1, []), (2, .iconst 0, 1, []), (3, .invokevirtual 52, 3, []), (6, .istore_n 3, 1, []), (7, .aload_n 0, 1, []), (8, .iload_n 1, 1, []), (9, .iconst 3, 1, []), (10, .invokevirtual 52, 3, []), (13, .istore 4, 2, []), (15, .aload_n 0, 1, []), (16, .iload_n 1, 1, []), (17, .iconst 0, 1, []), (18, .aload_n 0, 1, []), (19, .iload_n 2, 1, []), (20, .iconst 0, 1, []), (21, .invokevirtual 52, 3, []), (24, .invokevirtual 132, 3, []), (27, .aload_n 0, 1, []), (28, .iload_n 1, 1, []), (29, .iconst 3, 1, []), (30, .aload_n 0, 1, []), (31, .iload_n 2, 1, []), (32, .iconst 3, 1, []), (33, .invokevirtual 52, 3, []), (36, .invokevirtual 132, 3, []), (39, .aload_n 0, 1, []), (40, .iload_n 2, 1, []), (41, .iconst 0, 1, []), (42, .iload_n 3, 1, []), (43, .invokevirtual 132, 3, []), (46, .aload_n 0, 1, []), (47, .iload_n 2, 1, []), (48, .iconst 3, 1, []), (49, .iload 4, 2, []), (51, .invokevirtual 132, 3, []), (54, .return_, 1, [])] [(187, 0, jcX12_of), (188, 1, jcX12_lays)] [] 38 [] 0 [.ref 121, .int a1, .int a2, xe_no, xe_no] [] M = jfX12_rooms a1 a2 M := rfl
theorem jtX12_rooms : ∀ (a1 : Int32) (a2 : Int32) (M : sy_M) (r : xe_R × sy_M), jfX12_rooms a1 a2 M = some r → sy_E (2) qX12_rooms 0 [.ref 121, .int a1, .int a2, xe_no, xe_no] [] M r := by
  intro a1 a2 M r h
  exact sy_run_by (d := 1) ((jrX12_rooms _ _ M).trans h) hkX12 (by decide +kernel) (sy_cs_cons (jeX12_of.deep (by decide)) (sy_cs_cons (jeX12_lays.deep (by decide)) sy_cs_nil)) sy_us_nil
def jcX12_rooms (as : List Value) (M : sy_M) (K : sy_O → sy_O) : sy_O := sy_xc 121 as fun l => sy_xi l fun a1 l => sy_xi l fun a2 l => sy_xn l (K (jfX12_rooms a1 a2 M))
theorem jeX12_rooms : sy_snd (2) 252 (jcX12_rooms) := by
  intro as M K r h
  obtain ⟨l, e, h1⟩ := sy_xc_ok h; subst e
  obtain ⟨a1, l, e, h2⟩ := sy_xi_ok h1; subst e
  obtain ⟨a2, l, e, h3⟩ := sy_xi_ok h2; subst e
  obtain ⟨e, h4⟩ := sy_xn_ok h3; subst e
  exact ⟨_, h4, fun r1 h0 => ⟨qX12_rooms, rfl, rfl, jtX12_rooms _ _ M r1 h0⟩⟩
/-! X12_change StairMeterModel change (II)I [('R', 121), 'I', 'I'] -/
def jfX12_change (a1 : Int32) (a2 : Int32) (M : sy_M) : sy_O :=
  sy_bv (jfX12_areTwo a1 a2 M) fun M1 =>
  if 0 < (M1 121 0) then
    sy_ri 0 M1
  else
    sy_bv (jfX12_remembers M1) fun M2 =>
    sy_bv (jfX12_rooms a1 a2 M2) fun M3 =>
    sy_bi (jfX12_of a1 0 M3) fun v5 M4 =>
    sy_ri v5 M4
set_option maxRecDepth 100000 in
theorem jrX12_change (a1 : Int32) (a2 : Int32) (M : sy_M) : sy_run skX12 qX12_change [(0, .aload_n 0, 1, []), (1, .iload_n 1, 1, []), (2, .iload_n 2, 1, []), (3, .invokevirtual 299, 3, []), (6, .aload_n 0, 1, []), (7, .getfield 45, 3, []), (10, .ifCond .le 5, 3, []), (13, .iconst 0, 1, []), (14, .ireturn, 1, []), (15, .aload_n 0, 1, []), (16, .invokevirtual 311, 3, []), (19, .aload_n 0, 1, []), (20, .iload_n 1, 1, []), (21, .iload_n 2, 1, []), (22, .invokevirtual 321, 3, []), (25, .aload_n 0, 1, []), (26, .iload_n 1, 1, []), (27, .iconst 0, 1, []), (28, .invokevirtual 52, 3, []), (31, .ireturn, 1, [])] [(240, 1, jcX12_areTwo), (244, 1, jcX12_remembers), (252, 1, jcX12_rooms), (187, 0, jcX12_of)] [] 21 [] 0 [.ref 121, .int a1, .int a2] [] M = jfX12_change a1 a2 M := rfl
theorem jtX12_change : ∀ (a1 : Int32) (a2 : Int32) (M : sy_M) (r : xe_R × sy_M), jfX12_change a1 a2 M = some r → sy_E (4) qX12_change 0 [.ref 121, .int a1, .int a2] [] M r := by
  intro a1 a2 M r h
  exact sy_run_by (d := 3) ((jrX12_change _ _ M).trans h) hkX12 (by decide +kernel) (sy_cs_cons (jeX12_areTwo.deep (by decide)) (sy_cs_cons (jeX12_remembers.deep (by decide)) (sy_cs_cons (jeX12_rooms.deep (by decide)) (sy_cs_cons (jeX12_of.deep (by decide)) sy_cs_nil)))) sy_us_nil
def jcX12_change (as : List Value) (M : sy_M) (K : sy_O → sy_O) : sy_O := sy_xc 121 as fun l => sy_xi l fun a1 l => sy_xi l fun a2 l => sy_xn l (K (jfX12_change a1 a2 M))
theorem jeX12_change : sy_snd (4) 253 (jcX12_change) := by
  intro as M K r h
  obtain ⟨l, e, h1⟩ := sy_xc_ok h; subst e
  obtain ⟨a1, l, e, h2⟩ := sy_xi_ok h1; subst e
  obtain ⟨a2, l, e, h3⟩ := sy_xi_ok h2; subst e
  obtain ⟨e, h4⟩ := sy_xn_ok h3; subst e
  exact ⟨_, h4, fun r1 h0 => ⟨qX12_change, rfl, rfl, jtX12_change _ _ M r1 h0⟩⟩
/-! X11_home StairMeter home (III)I [('R', 0), 'I', 'I', 'I'] -/
def jfX11_home (a1 : Int32) (a2 : Int32) (a3 : Int32) (M : sy_M) : sy_O :=
  sy_bv (jfX11_checkLodger a1 M) fun M1 =>
  sy_bv (jfX11_checkTick a2 M1) fun M2 =>
  sy_bv (jfX11_checkTick a3 M2) fun M3 =>
  sy_bv (jfX0_remember 9 M3) fun M4 =>
  sy_bv (jfX2_set 9 a1 1 a2 M4) fun M5 =>
  sy_bv (jfX2_set 9 a1 2 a3 M5) fun M6 =>
  sy_bi (jfX2_hours 9 a1 M6) fun v8 M7 =>
  sy_ri v8 M7
set_option maxRecDepth 100000 in
theorem jrX11_home (a1 : Int32) (a2 : Int32) (a3 : Int32) (M : sy_M) : sy_run skX11 qX11_home [(0, .aload_n 0, 1, []), (1, .iload_n 1, 1, []), (2, .invokevirtual 149, 3, []), (5, .iload_n 2, 1, []), (6, .invokestatic 197, 3, []), (9, .iload_n 3, 1, []), (10, .invokestatic 197, 3, []), (13, .aload_n 0, 1, []), (14, .getfield 89, 3, []), (17, .aload_n 0, 1, []), (18, .getfield 28, 3, []), (21, .invokevirtual 252, 3, []), (24, .aload_n 0, 1, []), (25, .getfield 28, 3, []), (28, .iload_n 1, 1, []), (29, .iconst 1, 1, []), (30, .iload_n 2, 1, []), (31, .invokevirtual 276, 3, []), (34, .aload_n 0, 1, []), (35, .getfield 28, 3, []), (38, .iload_n 1, 1, []), (39, .iconst 2, 1, []), (40, .iload_n 3, 1, []), (41, .invokevirtual 276, 3, []), (44, .aload_n 0, 1, []), (45, .getfield 28, 3, []), (48, .iload_n 1, 1, []), (49, .invokevirtual 282, 3, []), (52, .ireturn, 1, [])] [(176, 1, jcX11_checkLodger), (178, 1, jcX11_checkTick), (2, 1, jcX0_remember), (11, 1, jcX2_set), (14, 0, jcX2_hours)] [] 30 [] 0 [.ref 0, .int a1, .int a2, .int a3] [] M = jfX11_home a1 a2 a3 M := rfl
theorem jtX11_home : ∀ (a1 : Int32) (a2 : Int32) (a3 : Int32) (M : sy_M) (r : xe_R × sy_M), jfX11_home a1 a2 a3 M = some r → sy_E (4) qX11_home 0 [.ref 0, .int a1, .int a2, .int a3] [] M r := by
  intro a1 a2 a3 M r h
  exact sy_run_by (d := 3) ((jrX11_home _ _ _ M).trans h) hkX11 (by decide +kernel) (sy_cs_cons (jeX11_checkLodger.deep (by decide)) (sy_cs_cons (jeX11_checkTick.deep (by decide)) (sy_cs_cons (jeX0_remember.deep (by decide)) (sy_cs_cons (jeX2_set.deep (by decide)) (sy_cs_cons (jeX2_hours.deep (by decide)) sy_cs_nil))))) sy_us_nil
def jcX11_home (as : List Value) (M : sy_M) (K : sy_O → sy_O) : sy_O := sy_xc 0 as fun l => sy_xi l fun a1 l => sy_xi l fun a2 l => sy_xi l fun a3 l => sy_xn l (K (jfX11_home a1 a2 a3 M))
theorem jeX11_home : sy_snd (4) 108 (jcX11_home) := by
  intro as M K r h
  obtain ⟨l, e, h1⟩ := sy_xc_ok h; subst e
  obtain ⟨a1, l, e, h2⟩ := sy_xi_ok h1; subst e
  obtain ⟨a2, l, e, h3⟩ := sy_xi_ok h2; subst e
  obtain ⟨a3, l, e, h4⟩ := sy_xi_ok h3; subst e
  obtain ⟨e, h5⟩ := sy_xn_ok h4; subst e
  exact ⟨_, h5, fun r1 h0 => ⟨qX11_home, rfl, rfl, jtX11_home _ _ _ M r1 h0⟩⟩
/-! L_home StairMeterLaw home (LStairMeter;III[J)I [('R', 0), 'I', 'I', 'I', ('R', 132)] -/
def jfL_home (a1 : Int32) (a2 : Int32) (a3 : Int32) (M : sy_M) : sy_O :=
  sy_hi (jfX11_home a1 a2 a3 M) (fun v2 M1 =>
    let M5 := sy_wl M1 132 0 (Int32.toInt64 v2)
    sy_ri 0 M5)
  (fun c3 M4 => if c3 = 22 then sy_ri 1 M4 else none)
set_option maxRecDepth 100000 in
theorem jrL_home (a1 : Int32) (a2 : Int32) (a3 : Int32) (M : sy_M) : sy_run skL qL_home [(0, .aload 4, 2, []), (2, .iconst 0, 1, []), (3, .aload_n 0, 1, []), (4, .iload_n 1, 1, []), (5, .iload_n 2, 1, []), (6, .iload_n 3, 1, []), (7, .invokevirtual 62, 3, []), (10, .i2l, 1, []), (11, .lastore, 1, []), (12, .goto 7, 3, []), (15, .astore 5, 2, [false, false, false, false, false, false]), (17, .iconst 1, 1, []), (18, .ireturn, 1, []), (19, .iconst 0, 1, [false, false, false, false, false, false]), (20, .ireturn, 1, [])] [(108, 3, jcX11_home)] [] 16 [] 0 [.ref 0, .int a1, .int a2, .int a3, .ref 132, xe_no] [] M = jfL_home a1 a2 a3 M := rfl
theorem jtL_home : ∀ (a1 : Int32) (a2 : Int32) (a3 : Int32) (M : sy_M) (r : xe_R × sy_M), jfL_home a1 a2 a3 M = some r → sy_E (5) qL_home 0 [.ref 0, .int a1, .int a2, .int a3, .ref 132, xe_no] [] M r := by
  intro a1 a2 a3 M r h
  exact sy_run_by (d := 4) ((jrL_home _ _ _ M).trans h) hkL (by decide +kernel) (sy_cs_cons (jeX11_home.deep (by decide)) sy_cs_nil) sy_us_nil
def jcL_home (as : List Value) (M : sy_M) (K : sy_O → sy_O) : sy_O := sy_xc 0 as fun l => sy_xi l fun a1 l => sy_xi l fun a2 l => sy_xi l fun a3 l => sy_xc 132 l fun l => sy_xn l (K (jfL_home a1 a2 a3 M))
theorem jeL_home : sy_snd (5) 334 (jcL_home) := by
  intro as M K r h
  obtain ⟨l, e, h1⟩ := sy_xc_ok h; subst e
  obtain ⟨a1, l, e, h2⟩ := sy_xi_ok h1; subst e
  obtain ⟨a2, l, e, h3⟩ := sy_xi_ok h2; subst e
  obtain ⟨a3, l, e, h4⟩ := sy_xi_ok h3; subst e
  obtain ⟨l, e, h5⟩ := sy_xc_ok h4; subst e
  obtain ⟨e, h6⟩ := sy_xn_ok h5; subst e
  exact ⟨_, h6, fun r1 h0 => ⟨qL_home, rfl, rfl, jtL_home _ _ _ M r1 h0⟩⟩
end
