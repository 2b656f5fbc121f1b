/-! ===== functions of the methods (11); written by wip/whole/run_f.py ===== -/
noncomputable section
/-! X9_partnerOf StairMeter$Pairing partnerOf (I)I [('R', 53), 'I'] -/
def jfX9_partnerOf (a1 : Int32) (M : sy_M) : sy_O :=
  if a1 < 0 then
    sy_ri (-1) M
  else
    if a1 < 7 then
      sy_bx (xe_in a1 7) <|
      sy_ri (M 56 (Int32.toNatClampNeg a1)) M
    else
      sy_ri (-1) M
set_option maxRecDepth 100000 in
theorem jrX9_partnerOf (a1 : Int32) (M : sy_M) : sy_run skX9 qX9_partnerOf [(0, .iload_n 1, 1, []), (1, .ifCond .lt 18, 3, []), (4, .iload_n 1, 1, []), (5, .bipush 7, 2, []), (7, .if_icmp .ge 12, 3, []), (10, .aload_n 0, 1, []), (11, .getfield 18, 3, []), (14, .iload_n 1, 1, []), (15, .iaload, 1, []), (16, .goto 4, 3, []), (19, .iconst (-1), 1, [false, false]), (20, .ireturn, 1, [false, false])] [] [] 13 [] 0 [.ref 53, .int a1] [] M = jfX9_partnerOf a1 M := rfl
theorem jtX9_partnerOf : ∀ (a1 : Int32) (M : sy_M) (r : xe_R × sy_M), jfX9_partnerOf a1 M = some r → sy_E (1) qX9_partnerOf 0 [.ref 53, .int a1] [] M r := by
  intro a1 M r h
  exact sy_run_by (d := 0) ((jrX9_partnerOf _ M).trans h) hkX9 (by decide +kernel) sy_cs_nil sy_us_nil
def jcX9_partnerOf (as : List Value) (M : sy_M) (K : sy_O → sy_O) : sy_O := sy_xc 53 as fun l => sy_xi l fun a1 l => sy_xn l (K (jfX9_partnerOf a1 M))
theorem jeX9_partnerOf : sy_snd (1) 74 (jcX9_partnerOf) := by
  intro as M K r h
  obtain ⟨l, e, h1⟩ := sy_xc_ok h; subst e
  obtain ⟨a1, l, e, h2⟩ := sy_xi_ok h1; subst e
  obtain ⟨e, h3⟩ := sy_xn_ok h2; subst e
  exact ⟨_, h3, fun r1 h0 => ⟨qX9_partnerOf, rfl, rfl, jtX9_partnerOf _ M r1 h0⟩⟩
/-! X11_pairs StairMeter pairs (I)I [('R', 0), 'I'] -/
def juX11_pairs_10 (k : Int32 → sy_M → sy_O) (ls st : List Value) (M : sy_M) : sy_O := sy_xc 0 ls fun l => sy_xi l fun a1 l => sy_xn l (sy_xn st (k a1 M))
theorem jwX11_pairs_10 {d : Nat} {k : Int32 → sy_M → sy_O} (hk : ∀ (a1 : Int32) (M : sy_M) (r : xe_R × sy_M), k a1 M = some r → sy_E (d) qX11_pairs 10 [.ref 0, .int a1] [] M r) : ∀ ls st M r, juX11_pairs_10 k ls st M = some r → sy_E d qX11_pairs 10 ls st M r := by
  intro ls st M r h
  obtain ⟨l, e, h1⟩ := sy_xc_ok h; subst e
  obtain ⟨a1, l, e, h2⟩ := sy_xi_ok h1; subst e
  obtain ⟨e, h3⟩ := sy_xn_ok h2; subst e
  obtain ⟨e, h4⟩ := sy_xn_ok h3; subst e
  exact hk a1 M r h4
def jfX11_pairs_10 (a1 : Int32) (M : sy_M) : sy_O :=
  sy_bv (jfX8_learn 9 M) fun M1 =>
  sy_bv (jfX9_solve (M1 9 3) M1) fun M2 =>
  if a1 = (-1) then
    sy_ri (M2 53 4) M2
  else
    sy_bi (jfX9_partnerOf a1 M2) fun v4 M3 =>
    sy_ri v4 M3
set_option maxRecDepth 100000 in
theorem jrX11_pairs_10 (a1 : Int32) (M : sy_M) : sy_run skX11 qX11_pairs [(10, .aload_n 0, 1, []), (11, .getfield 75, 3, []), (14, .aload_n 0, 1, []), (15, .getfield 28, 3, []), (18, .invokevirtual 181, 3, []), (21, .aload_n 0, 1, []), (22, .getfield 82, 3, []), (25, .aload_n 0, 1, []), (26, .getfield 75, 3, []), (29, .aload_n 0, 1, []), (30, .getfield 28, 3, []), (33, .getfield 207, 3, []), (36, .invokevirtual 364, 3, []), (39, .iload_n 1, 1, []), (40, .iconst (-1), 1, []), (41, .if_icmp .ne 13, 3, []), (44, .aload_n 0, 1, []), (45, .getfield 82, 3, []), (48, .getfield 368, 3, []), (51, .goto 11, 3, []), (54, .aload_n 0, 1, []), (55, .getfield 82, 3, []), (58, .iload_n 1, 1, []), (59, .invokevirtual 371, 3, []), (62, .ireturn, 1, [false, false])] [(63, 1, jcX8_learn), (70, 1, jcX9_solve), (74, 0, jcX9_partnerOf)] [] 26 [] 10 [.ref 0, .int a1] [] M = jfX11_pairs_10 a1 M := rfl
theorem jtX11_pairs_10 : ∀ (a1 : Int32) (M : sy_M) (r : xe_R × sy_M), jfX11_pairs_10 a1 M = some r → sy_E (15) qX11_pairs 10 [.ref 0, .int a1] [] M r := by
  intro a1 M r h
  exact sy_run_by (d := 14) ((jrX11_pairs_10 _ M).trans h) hkX11 (by decide +kernel) (sy_cs_cons (jeX8_learn.deep (by decide)) (sy_cs_cons (jeX9_solve.deep (by decide)) (sy_cs_cons (jeX9_partnerOf.deep (by decide)) sy_cs_nil))) sy_us_nil
def jfX11_pairs (a1 : Int32) (M : sy_M) : sy_O :=
  if a1 = (-1) then
    jfX11_pairs_10 a1 M
  else
    sy_bv (jfX11_checkLodger a1 M) fun M1 =>
    jfX11_pairs_10 a1 M1
set_option maxRecDepth 100000 in
theorem jrX11_pairs (a1 : Int32) (M : sy_M) : sy_run skX11 qX11_pairs [(0, .iload_n 1, 1, []), (1, .iconst (-1), 1, []), (2, .if_icmp .eq 8, 3, []), (5, .aload_n 0, 1, []), (6, .iload_n 1, 1, []), (7, .invokevirtual 149, 3, [])] [(176, 1, jcX11_checkLodger)] [(10, juX11_pairs_10 (jfX11_pairs_10))] 7 [] 0 [.ref 0, .int a1] [] M = jfX11_pairs a1 M := rfl
theorem jtX11_pairs : ∀ (a1 : Int32) (M : sy_M) (r : xe_R × sy_M), jfX11_pairs a1 M = some r → sy_E (15) qX11_pairs 0 [.ref 0, .int a1] [] M r := by
  intro a1 M r h
  exact sy_run_by (d := 14) ((jrX11_pairs _ M).trans h) hkX11 (by decide +kernel) (sy_cs_cons (jeX11_checkLodger.deep (by decide)) sy_cs_nil) (sy_us_cons (jwX11_pairs_10 (jtX11_pairs_10)) sy_us_nil)
def jcX11_pairs (as : List Value) (M : sy_M) (K : sy_O → sy_O) : sy_O := sy_xc 0 as fun l => sy_xi l fun a1 l => sy_xn l (K (jfX11_pairs a1 M))
theorem jeX11_pairs : sy_snd (15) 146 (jcX11_pairs) := by
  intro as M K r h
  obtain ⟨l, e, h1⟩ := sy_xc_ok h; subst e
  obtain ⟨a1, l, e, h2⟩ := sy_xi_ok h1; subst e
  obtain ⟨e, h3⟩ := sy_xn_ok h2; subst e
  exact ⟨_, h3, fun r1 h0 => ⟨qX11_pairs, rfl, rfl, jtX11_pairs _ M r1 h0⟩⟩
/-! L_pairs StairMeterLaw pairs (LStairMeter;I[J)I [('R', 0), 'I', ('R', 132)] -/
def jfL_pairs (a1 : Int32) (M : sy_M) : sy_O :=
  sy_hi (jfX11_pairs a1 M) (fun v2 M1 =>
    let M5 := sy_wl M1 132 0 (Int32.toInt64 v2)
    sy_ri 0 M5)
  (fun c3 M4 => if c3 = 22 then sy_ri 1 M4 else none)
set_option maxRecDepth 100000 in
theorem jrL_pairs (a1 : Int32) (M : sy_M) : sy_run skL qL_pairs [(0, .aload_n 2, 1, []), (1, .iconst 0, 1, []), (2, .aload_n 0, 1, []), (3, .iload_n 1, 1, []), (4, .invokevirtual 104, 3, []), (7, .i2l, 1, []), (8, .lastore, 1, []), (9, .goto 6, 3, []), (12, .astore_n 3, 1, [false, false, false, false]), (13, .iconst 1, 1, []), (14, .ireturn, 1, []), (15, .iconst 0, 1, [false, false, false, false]), (16, .ireturn, 1, [])] [(146, 3, jcX11_pairs)] [] 14 [] 0 [.ref 0, .int a1, .ref 132, xe_no] [] M = jfL_pairs a1 M := rfl
theorem jtL_pairs : ∀ (a1 : Int32) (M : sy_M) (r : xe_R × sy_M), jfL_pairs a1 M = some r → sy_E (16) qL_pairs 0 [.ref 0, .int a1, .ref 132, xe_no] [] M r := by
  intro a1 M r h
  exact sy_run_by (d := 15) ((jrL_pairs _ M).trans h) hkL (by decide +kernel) (sy_cs_cons (jeX11_pairs.deep (by decide)) sy_cs_nil) sy_us_nil
def jcL_pairs (as : List Value) (M : sy_M) (K : sy_O → sy_O) : sy_O := sy_xc 0 as fun l => sy_xi l fun a1 l => sy_xc 132 l fun l => sy_xn l (K (jfL_pairs a1 M))
theorem jeL_pairs : sy_snd (16) 347 (jcL_pairs) := by
  intro as M K r h
  obtain ⟨l, e, h1⟩ := sy_xc_ok h; subst e
  obtain ⟨a1, l, e, h2⟩ := sy_xi_ok h1; subst e
  obtain ⟨l, e, h3⟩ := sy_xc_ok h2; subst e
  obtain ⟨e, h4⟩ := sy_xn_ok h3; subst e
  exact ⟨_, h4, fun r1 h0 => ⟨qL_pairs, rfl, rfl, jtL_pairs _ M r1 h0⟩⟩
/-! X12_lowest StairMeterModel lowest (I)I ['I'] -/
def juX12_lowest_2 (k : Int32 → Int32 → sy_M → sy_O) (ls st : List Value) (M : sy_M) : sy_O := sy_xi ls fun a0 l => sy_xi l fun a1 l => sy_xn l (sy_xn st (k a0 a1 M))
theorem jwX12_lowest_2 {d : Nat} {k : Int32 → Int32 → sy_M → sy_O} (hk : ∀ (a0 : Int32) (a1 : Int32) (M : sy_M) (r : xe_R × sy_M), k a0 a1 M = some r → sy_E (d) qX12_lowest 2 [.int a0, .int a1] [] M r) : ∀ ls st M r, juX12_lowest_2 k ls st M = some r → sy_E d qX12_lowest 2 ls st M r := by
  intro ls st M r h
  obtain ⟨a0, l, e, h1⟩ := sy_xi_ok h; subst e
  obtain ⟨a1, l, e, h2⟩ := sy_xi_ok h1; subst e
  obtain ⟨e, h3⟩ := sy_xn_ok h2; subst e
  obtain ⟨e, h4⟩ := sy_xn_ok h3; subst e
  exact hk a0 a1 M r h4
def jgX12_lowest_2 (k2 : Int32 → Int32 → sy_M → sy_O) (a0 : Int32) (a1 : Int32) (M : sy_M) : sy_O :=
  sy_bi (jfX12_isOf a0 a1 M) fun v2 M1 =>
  if v2 = 0 then
    let v3 := a1 + 1
    k2 a0 v3 M1
  else
    sy_ri a1 M1
def jfX12_lowest_2 : Nat → Int32 → Int32 → sy_M → sy_O
  | 0, _, _, _ => none
  | n + 1, a0, a1, M => jgX12_lowest_2 (jfX12_lowest_2 n) a0 a1 M
set_option maxRecDepth 100000 in
theorem jrX12_lowest_2 (k2 : Int32 → Int32 → sy_M → sy_O) (a0 : Int32) (a1 : Int32) (M : sy_M) : sy_run skX12 qX12_lowest [(2, .iload_n 0, 1, []), (3, .iload_n 1, 1, []), (4, .invokestatic 60, 3, []), (7, .ifCond .ne 9, 3, []), (10, .iinc 1 1, 3, []), (13, .goto (-11), 3, []), (16, .iload_n 1, 1, [false, true]), (17, .ireturn, 1, [])] [(185, 0, jcX12_isOf)] [(2, juX12_lowest_2 k2)] 9 [] 2 [.int a0, .int a1] [] M = jgX12_lowest_2 k2 a0 a1 M := rfl
theorem jtX12_lowest_2 : ∀ n : Nat, ∀ (a0 : Int32) (a1 : Int32) (M : sy_M) (r : xe_R × sy_M), jfX12_lowest_2 n a0 a1 M = some r → sy_E (2) qX12_lowest 2 [.int a0, .int a1] [] M r := by
  intro n
  induction n with
  | zero => intro a0 a1 M r h; exact absurd (show (none : sy_O) = some r from h) (by simp)
  | succ n ih => intro a0 a1 M r h; exact sy_run_by (d := 1) ((jrX12_lowest_2 _ _ _ M).trans h) hkX12 (by decide +kernel) (sy_cs_cons (jeX12_isOf.deep (by decide)) sy_cs_nil) (sy_us_cons (jwX12_lowest_2 ih) sy_us_nil)
def jfX12_lowest (a0 : Int32) (M : sy_M) : sy_O :=
  jfX12_lowest_2 sy_F a0 0 M
set_option maxRecDepth 100000 in
theorem jrX12_lowest (a0 : Int32) (M : sy_M) : sy_run skX12 qX12_lowest [(0, .iconst 0, 1, []), (1, .istore_n 1, 1, [])] [] [(2, juX12_lowest_2 (jfX12_lowest_2 sy_F))] 3 [] 0 [.int a0, xe_no] [] M = jfX12_lowest a0 M := rfl
theorem jtX12_lowest : ∀ (a0 : Int32) (M : sy_M) (r : xe_R × sy_M), jfX12_lowest a0 M = some r → sy_E (2) qX12_lowest 0 [.int a0, xe_no] [] M r := by
  intro a0 M r h
  exact sy_run_by (d := 1) ((jrX12_lowest _ M).trans h) hkX12 (by decide +kernel) sy_cs_nil (sy_us_cons (jwX12_lowest_2 (jtX12_lowest_2 sy_F)) sy_us_nil)
def jcX12_lowest (as : List Value) (M : sy_M) (K : sy_O → sy_O) : sy_O := sy_xi as fun a0 l => sy_xn l (K (jfX12_lowest a0 M))
theorem jeX12_lowest : sy_snd (2) 287 (jcX12_lowest) := by
  intro as M K r h
  obtain ⟨a0, l, e, h1⟩ := sy_xi_ok h; subst e
  obtain ⟨e, h2⟩ := sy_xn_ok h1; subst e
  exact ⟨_, h2, fun r1 h0 => ⟨qX12_lowest, rfl, rfl, jtX12_lowest _ M r1 h0⟩⟩
/-! X12_together StairMeterModel together (II)I [('R', 121), 'I', 'I'] -/
def juX12_together_38 (k : Int32 → Int32 → Int32 → Int32 → Int32 → sy_M → sy_O) (ls st : List Value) (M : sy_M) : sy_O := sy_xc 121 ls fun l => sy_xi l fun a1 l => sy_xi l fun a2 l => sy_xv l fun _ l => sy_xi l fun a4 l => sy_xn l (sy_xi st fun s0 l => sy_xi l fun s1 l => sy_xn l (k a1 a2 a4 s0 s1 M))
theorem jwX12_together_38 {d : Nat} {k : Int32 → Int32 → Int32 → Int32 → Int32 → sy_M → sy_O} (hk : ∀ (w3 : Value) (a1 : Int32) (a2 : Int32) (a4 : Int32) (s0 : Int32) (s1 : Int32) (M : sy_M) (r : xe_R × sy_M), k a1 a2 a4 s0 s1 M = some r → sy_E (d) qX12_together 38 [.ref 121, .int a1, .int a2, w3, .int a4] [.int s0, .int s1] M r) : ∀ ls st M r, juX12_together_38 k ls st M = some r → sy_E d qX12_together 38 ls st M r := by
  intro ls st M r h
  obtain ⟨l, e, h1⟩ := sy_xc_ok h; subst e
  obtain ⟨a1, l, e, h2⟩ := sy_xi_ok h1; subst e
  obtain ⟨a2, l, e, h3⟩ := sy_xi_ok h2; subst e
  obtain ⟨w3, l, e, h4⟩ := sy_xv_ok h3; subst e
  obtain ⟨a4, l, e, h5⟩ := sy_xi_ok h4; subst e
  obtain ⟨e, h6⟩ := sy_xn_ok h5; subst e
  obtain ⟨s0, l, e, h7⟩ := sy_xi_ok h6; subst e
  obtain ⟨s1, l, e, h8⟩ := sy_xi_ok h7; subst e
  obtain ⟨e, h9⟩ := sy_xn_ok h8; subst e
  exact hk _ a1 a2 a4 s0 s1 M r h9
def juX12_together_37 (k : Int32 → Int32 → Int32 → Int32 → sy_M → sy_O) (ls st : List Value) (M : sy_M) : sy_O := sy_xc 121 ls fun l => sy_xi l fun a1 l => sy_xi l fun a2 l => sy_xv l fun _ l => sy_xi l fun a4 l => sy_xn l (sy_xi st fun s0 l => sy_xn l (k a1 a2 a4 s0 M))
theorem jwX12_together_37 {d : Nat} {k : Int32 → Int32 → Int32 → Int32 → sy_M → sy_O} (hk : ∀ (w3 : Value) (a1 : Int32) (a2 : Int32) (a4 : Int32) (s0 : Int32) (M : sy_M) (r : xe_R × sy_M), k a1 a2 a4 s0 M = some r → sy_E (d) qX12_together 37 [.ref 121, .int a1, .int a2, w3, .int a4] [.int s0] M r) : ∀ ls st M r, juX12_together_37 k ls st M = some r → sy_E d qX12_together 37 ls st M r := by
  intro ls st M r h
  obtain ⟨l, e, h1⟩ := sy_xc_ok h; subst e
  obtain ⟨a1, l, e, h2⟩ := sy_xi_ok h1; subst e
  obtain ⟨a2, l, e, h3⟩ := sy_xi_ok h2; subst e
  obtain ⟨w3, l, e, h4⟩ := sy_xv_ok h3; subst e
  obtain ⟨a4, l, e, h5⟩ := sy_xi_ok h4; subst e
  obtain ⟨e, h6⟩ := sy_xn_ok h5; subst e
  obtain ⟨s0, l, e, h7⟩ := sy_xi_ok h6; subst e
  obtain ⟨e, h8⟩ := sy_xn_ok h7; subst e
  exact hk _ a1 a2 a4 s0 M r h8
def juX12_together_5 (k : Int32 → Int32 → Int32 → Int32 → sy_M → sy_O) (ls st : List Value) (M : sy_M) : sy_O := sy_xc 121 ls fun l => sy_xi l fun a1 l => sy_xi l fun a2 l => sy_xi l fun a3 l => sy_xi l fun a4 l => sy_xn l (sy_xn st (k a1 a2 a3 a4 M))
theorem jwX12_together_5 {d : Nat} {k : Int32 → Int32 → Int32 → Int32 → sy_M → sy_O} (hk : ∀ (a1 : Int32) (a2 : Int32) (a3 : Int32) (a4 : Int32) (M : sy_M) (r : xe_R × sy_M), k a1 a2 a3 a4 M = some r → sy_E (d) qX12_together 5 [.ref 121, .int a1, .int a2, .int a3, .int a4] [] M r) : ∀ ls st M r, juX12_together_5 k ls st M = some r → sy_E d qX12_together 5 ls st M r := by
  intro ls st M r h
  obtain ⟨l, e, h1⟩ := sy_xc_ok h; subst e
  obtain ⟨a1, l, e, h2⟩ := sy_xi_ok h1; subst e
  obtain ⟨a2, l, e, h3⟩ := sy_xi_ok h2; subst e
  obtain ⟨a3, l, e, h4⟩ := sy_xi_ok h3; subst e
  obtain ⟨a4, l, e, h5⟩ := sy_xi_ok h4; subst e
  obtain ⟨e, h6⟩ := sy_xn_ok h5; subst e
  obtain ⟨e, h7⟩ := sy_xn_ok h6; subst e
  exact hk a1 a2 a3 a4 M r h7
def jfX12_together_38 (k5 : Int32 → Int32 → Int32 → Int32 → sy_M → sy_O) (a1 : Int32) (a2 : Int32) (a4 : Int32) (s0 : Int32) (s1 : Int32) (M : sy_M) : sy_O :=
  let v1 := (s1 + s0)
  let v2 := a4 + 1
  k5 a1 a2 v1 v2 M
set_option maxRecDepth 100000 in
theorem jrX12_together_38 (k5 : Int32 → Int32 → Int32 → Int32 → sy_M → sy_O) (w3 : Value) (a1 : Int32) (a2 : Int32) (a4 : Int32) (s0 : Int32) (s1 : Int32) (M : sy_M) : sy_run skX12 qX12_together [(38, .iadd, 1, [true, true, true, false, true]), (39, .istore_n 3, 1, []), (40, .iinc 4 1, 3, []), (43, .goto (-38), 3, [])] [] [(5, juX12_together_5 k5)] 5 [] 38 [.ref 121, .int a1, .int a2, w3, .int a4] [.int s0, .int s1] M = jfX12_together_38 k5 a1 a2 a4 s0 s1 M := rfl
theorem jtX12_together_38 {k5 : Int32 → Int32 → Int32 → Int32 → sy_M → sy_O} (hk5 : ∀ (a1 : Int32) (a2 : Int32) (a3 : Int32) (a4 : Int32) (M : sy_M) (r : xe_R × sy_M), k5 a1 a2 a3 a4 M = some r → sy_E (3) qX12_together 5 [.ref 121, .int a1, .int a2, .int a3, .int a4] [] M r) : ∀ (w3 : Value) (a1 : Int32) (a2 : Int32) (a4 : Int32) (s0 : Int32) (s1 : Int32) (M : sy_M) (r : xe_R × sy_M), jfX12_together_38 k5 a1 a2 a4 s0 s1 M = some r → sy_E (3) qX12_together 38 [.ref 121, .int a1, .int a2, w3, .int a4] [.int s0, .int s1] M r := by
  intro w3 a1 a2 a4 s0 s1 M r h
  exact sy_run_by (d := 2) ((jrX12_together_38 _ _ _ _ _ _ _ M).trans h) hkX12 (by decide +kernel) sy_cs_nil (sy_us_cons (jwX12_together_5 hk5) sy_us_nil)
def jfX12_together_37 (k5 : Int32 → Int32 → Int32 → Int32 → sy_M → sy_O) (a1 : Int32) (a2 : Int32) (a4 : Int32) (s0 : Int32) (M : sy_M) : sy_O :=
  jfX12_together_38 k5 a1 a2 a4 0 s0 M
set_option maxRecDepth 100000 in
theorem jrX12_together_37 (k5 : Int32 → Int32 → Int32 → Int32 → sy_M → sy_O) (w3 : Value) (a1 : Int32) (a2 : Int32) (a4 : Int32) (s0 : Int32) (M : sy_M) : sy_run skX12 qX12_together [(37, .iconst 0, 1, [true, true, true, false, true])] [] [(38, juX12_together_38 (jfX12_together_38 k5))] 2 [] 37 [.ref 121, .int a1, .int a2, w3, .int a4] [.int s0] M = jfX12_together_37 k5 a1 a2 a4 s0 M := rfl
theorem jtX12_together_37 {k5 : Int32 → Int32 → Int32 → Int32 → sy_M → sy_O} (hk5 : ∀ (a1 : Int32) (a2 : Int32) (a3 : Int32) (a4 : Int32) (M : sy_M) (r : xe_R × sy_M), k5 a1 a2 a3 a4 M = some r → sy_E (3) qX12_together 5 [.ref 121, .int a1, .int a2, .int a3, .int a4] [] M r) : ∀ (w3 : Value) (a1 : Int32) (a2 : Int32) (a4 : Int32) (s0 : Int32) (M : sy_M) (r : xe_R × sy_M), jfX12_together_37 k5 a1 a2 a4 s0 M = some r → sy_E (3) qX12_together 37 [.ref 121, .int a1, .int a2, w3, .int a4] [.int s0] M r := by
  intro w3 a1 a2 a4 s0 M r h
  exact sy_run_by (d := 2) ((jrX12_together_37 _ _ _ _ _ _ M).trans h) hkX12 (by decide +kernel) sy_cs_nil (sy_us_cons (jwX12_together_38 (jtX12_together_38 hk5)) sy_us_nil)
def jgX12_together_5 (k5 : Int32 → Int32 → Int32 → Int32 → sy_M → sy_O) (a1 : Int32) (a2 : Int32) (a3 : Int32) (a4 : Int32) (M : sy_M) : sy_O :=
  if a4 < 48 then
    sy_bi (jfX12_atHome a1 a4 M) fun v2 M1 =>
    if v2 = 0 then
      jfX12_together_37 k5 a1 a2 a4 a3 M1
    else
      sy_bi (jfX12_atHome a2 a4 M1) fun v4 M3 =>
      if v4 = 0 then
        jfX12_together_37 k5 a1 a2 a4 a3 M3
      else
        jfX12_together_38 k5 a1 a2 a4 1 a3 M3
  else
    sy_ri a3 M
def jfX12_together_5 : Nat → Int32 → Int32 → Int32 → Int32 → sy_M → sy_O
  | 0, _, _, _, _, _ => none
  | n + 1, a1, a2, a3, a4, M => jgX12_together_5 (jfX12_together_5 n) a1 a2 a3 a4 M
set_option maxRecDepth 100000 in
theorem jrX12_together_5 (k5 : Int32 → Int32 → Int32 → Int32 → sy_M → sy_O) (a1 : Int32) (a2 : Int32) (a3 : Int32) (a4 : Int32) (M : sy_M) : sy_run skX12 qX12_together [(5, .iload 4, 2, []), (7, .bipush 48, 2, []), (9, .if_icmp .ge 37, 3, []), (12, .iload_n 3, 1, []), (13, .aload_n 0, 1, []), (14, .iload_n 1, 1, []), (15, .iload 4, 2, []), (17, .invokevirtual 56, 3, []), (20, .ifCond .eq 17, 3, []), (23, .aload_n 0, 1, []), (24, .iload_n 2, 1, []), (25, .iload 4, 2, []), (27, .invokevirtual 56, 3, []), (30, .ifCond .eq 7, 3, []), (33, .iconst 1, 1, []), (34, .goto 4, 3, []), (46, .iload_n 3, 1, [false, false, false, true, false]), (47, .ireturn, 1, [])] [(192, 0, jcX12_atHome)] [(37, juX12_together_37 (jfX12_together_37 k5)), (38, juX12_together_38 (jfX12_together_38 k5))] 19 [] 5 [.ref 121, .int a1, .int a2, .int a3, .int a4] [] M = jgX12_together_5 k5 a1 a2 a3 a4 M := rfl
theorem jtX12_together_5 : ∀ n : Nat, ∀ (a1 : Int32) (a2 : Int32) (a3 : Int32) (a4 : Int32) (M : sy_M) (r : xe_R × sy_M), jfX12_together_5 n a1 a2 a3 a4 M = some r → sy_E (3) qX12_together 5 [.ref 121, .int a1, .int a2, .int a3, .int a4] [] M r := by
  intro n
  induction n with
  | zero => intro a1 a2 a3 a4 M r h; exact absurd (show (none : sy_O) = some r from h) (by simp)
  | succ n ih => intro a1 a2 a3 a4 M r h; exact sy_run_by (d := 2) ((jrX12_together_5 _ _ _ _ _ M).trans h) hkX12 (by decide +kernel) (sy_cs_cons (jeX12_atHome.deep (by decide)) sy_cs_nil) (sy_us_cons (jwX12_together_37 (jtX12_together_37 ih)) (sy_us_cons (jwX12_together_38 (jtX12_together_38 ih)) sy_us_nil))
def jfX12_together (a1 : Int32) (a2 : Int32) (M : sy_M) : sy_O :=
  jfX12_together_5 sy_F a1 a2 0 0 M
set_option maxRecDepth 100000 in
theorem jrX12_together (a1 : Int32) (a2 : Int32) (M : sy_M) : sy_run skX12 qX12_together [(0, .iconst 0, 1, []), (1, .istore_n 3, 1, []), (2, .iconst 0, 1, []), (3, .istore 4, 2, [])] [] [(5, juX12_together_5 (jfX12_together_5 sy_F))] 5 [] 0 [.ref 121, .int a1, .int a2, xe_no, xe_no] [] M = jfX12_together a1 a2 M := rfl
theorem jtX12_together : ∀ (a1 : Int32) (a2 : Int32) (M : sy_M) (r : xe_R × sy_M), jfX12_together a1 a2 M = some r → sy_E (3) qX12_together 0 [.ref 121, .int a1, .int a2, xe_no, xe_no] [] M r := by
  intro a1 a2 M r h
  exact sy_run_by (d := 2) ((jrX12_together _ _ M).trans h) hkX12 (by decide +kernel) sy_cs_nil (sy_us_cons (jwX12_together_5 (jtX12_together_5 sy_F)) sy_us_nil)
def jcX12_together (as : List Value) (M : sy_M) (K : sy_O → sy_O) : sy_O := sy_xc 121 as fun l => sy_xi l fun a1 l => sy_xi l fun a2 l => sy_xn l (K (jfX12_together a1 a2 M))
theorem jeX12_together : sy_snd (3) 286 (jcX12_together) := by
  intro as M K r h
  obtain ⟨l, e, h1⟩ := sy_xc_ok h; subst e
  obtain ⟨a1, l, e, h2⟩ := sy_xi_ok h1; subst e
  obtain ⟨a2, l, e, h3⟩ := sy_xi_ok h2; subst e
  obtain ⟨e, h4⟩ := sy_xn_ok h3; subst e
  exact ⟨_, h4, fun r1 h0 => ⟨qX12_together, rfl, rfl, jtX12_together _ _ M r1 h0⟩⟩
/-! X12_allBest StairMeterModel allBest ()V [('R', 121)] -/
def juX12_allBest_103 (k : Int32 → Int32 → Int32 → Int32 → sy_M → sy_O) (ls st : List Value) (M : sy_M) : sy_O := sy_xc 121 ls fun l => sy_xi l fun a1 l => sy_xi l fun a2 l => sy_xi l fun a3 l => sy_xi l fun a4 l => sy_xn l (sy_xn st (k a1 a2 a3 a4 M))
theorem jwX12_allBest_103 {d : Nat} {k : Int32 → Int32 → Int32 → Int32 → sy_M → sy_O} (hk : ∀ (a1 : Int32) (a2 : Int32) (a3 : Int32) (a4 : Int32) (M : sy_M) (r : xe_R × sy_M), k a1 a2 a3 a4 M = some r → sy_E (d) qX12_allBest 103 [.ref 121, .int a1, .int a2, .int a3, .int a4] [] M r) : ∀ ls st M r, juX12_allBest_103 k ls st M = some r → sy_E d qX12_allBest 103 ls st M r := by
  intro ls st M r h
  obtain ⟨l, e, h1⟩ := sy_xc_ok h; subst e
  obtain ⟨a1, l, e, h2⟩ := sy_xi_ok h1; subst e
  obtain ⟨a2, l, e, h3⟩ := sy_xi_ok h2; subst e
  obtain ⟨a3, l, e, h4⟩ := sy_xi_ok h3; subst e
  obtain ⟨a4, l, e, h5⟩ := sy_xi_ok h4; subst e
  obtain ⟨e, h6⟩ := sy_xn_ok h5; subst e
  obtain ⟨e, h7⟩ := sy_xn_ok h6; subst e
  exact hk a1 a2 a3 a4 M r h7
def juX12_allBest_47 (k : Int32 → Int32 → Int32 → Int32 → sy_M → sy_O) (ls st : List Value) (M : sy_M) : sy_O := sy_xc 121 ls fun l => sy_xi l fun a1 l => sy_xi l fun a2 l => sy_xi l fun a3 l => sy_xi l fun a4 l => sy_xn l (sy_xn st (k a1 a2 a3 a4 M))
theorem jwX12_allBest_47 {d : Nat} {k : Int32 → Int32 → Int32 → Int32 → sy_M → sy_O} (hk : ∀ (a1 : Int32) (a2 : Int32) (a3 : Int32) (a4 : Int32) (M : sy_M) (r : xe_R × sy_M), k a1 a2 a3 a4 M = some r → sy_E (d) qX12_allBest 47 [.ref 121, .int a1, .int a2, .int a3, .int a4] [] M r) : ∀ ls st M r, juX12_allBest_47 k ls st M = some r → sy_E d qX12_allBest 47 ls st M r := by
  intro ls st M r h
  obtain ⟨l, e, h1⟩ := sy_xc_ok h; subst e
  obtain ⟨a1, l, e, h2⟩ := sy_xi_ok h1; subst e
  obtain ⟨a2, l, e, h3⟩ := sy_xi_ok h2; subst e
  obtain ⟨a3, l, e, h4⟩ := sy_xi_ok h3; subst e
  obtain ⟨a4, l, e, h5⟩ := sy_xi_ok h4; subst e
  obtain ⟨e, h6⟩ := sy_xn_ok h5; subst e
  obtain ⟨e, h7⟩ := sy_xn_ok h6; subst e
  exact hk a1 a2 a3 a4 M r h7
def juX12_allBest_9 (k : Int32 → sy_M → sy_O) (ls st : List Value) (M : sy_M) : sy_O := sy_xc 121 ls fun l => sy_xi l fun a1 l => sy_xv l fun _ l => sy_xv l fun _ l => sy_xv l fun _ l => sy_xn l (sy_xn st (k a1 M))
theorem jwX12_allBest_9 {d : Nat} {k : Int32 → sy_M → sy_O} (hk : ∀ (w2 : Value) (w3 : Value) (w4 : Value) (a1 : Int32) (M : sy_M) (r : xe_R × sy_M), k a1 M = some r → sy_E (d) qX12_allBest 9 [.ref 121, .int a1, w2, w3, w4] [] M r) : ∀ ls st M r, juX12_allBest_9 k ls st M = some r → sy_E d qX12_allBest 9 ls st M r := by
  intro ls st M r h
  obtain ⟨l, e, h1⟩ := sy_xc_ok h; subst e
  obtain ⟨a1, l, e, h2⟩ := sy_xi_ok h1; subst e
  obtain ⟨w2, l, e, h3⟩ := sy_xv_ok h2; subst e
  obtain ⟨w3, l, e, h4⟩ := sy_xv_ok h3; subst e
  obtain ⟨w4, l, e, h5⟩ := sy_xv_ok h4; subst e
  obtain ⟨e, h6⟩ := sy_xn_ok h5; subst e
  obtain ⟨e, h7⟩ := sy_xn_ok h6; subst e
  exact hk _ _ _ a1 M r h7
def jfX12_allBest_103 (k9 : Int32 → sy_M → sy_O) (k47 : Int32 → Int32 → Int32 → Int32 → sy_M → sy_O) (a1 : Int32) (a2 : Int32) (a3 : Int32) (a4 : Int32) (M : sy_M) : sy_O :=
  let v1 := a4 + 1
  k47 a1 a2 a3 v1 M
set_option maxRecDepth 100000 in
theorem jrX12_allBest_103 (k9 : Int32 → sy_M → sy_O) (k47 : Int32 → Int32 → Int32 → Int32 → sy_M → sy_O) (a1 : Int32) (a2 : Int32) (a3 : Int32) (a4 : Int32) (M : sy_M) : sy_run skX12 qX12_allBest [(103, .iinc 4 1, 3, []), (106, .goto (-59), 3, [])] [] [(47, juX12_allBest_47 k47)] 3 [] 103 [.ref 121, .int a1, .int a2, .int a3, .int a4] [] M = jfX12_allBest_103 k9 k47 a1 a2 a3 a4 M := rfl
theorem jtX12_allBest_103 {k9 : Int32 → sy_M → sy_O} (hk9 : ∀ (w2 : Value) (w3 : Value) (w4 : Value) (a1 : Int32) (M : sy_M) (r : xe_R × sy_M), k9 a1 M = some r → sy_E (4) qX12_allBest 9 [.ref 121, .int a1, w2, w3, w4] [] M r) {k47 : Int32 → Int32 → Int32 → Int32 → sy_M → sy_O} (hk47 : ∀ (a1 : Int32) (a2 : Int32) (a3 : Int32) (a4 : Int32) (M : sy_M) (r : xe_R × sy_M), k47 a1 a2 a3 a4 M = some r → sy_E (4) qX12_allBest 47 [.ref 121, .int a1, .int a2, .int a3, .int a4] [] M r) : ∀ (a1 : Int32) (a2 : Int32) (a3 : Int32) (a4 : Int32) (M : sy_M) (r : xe_R × sy_M), jfX12_allBest_103 k9 k47 a1 a2 a3 a4 M = some r → sy_E (4) qX12_allBest 103 [.ref 121, .int a1, .int a2, .int a3, .int a4] [] M r := by
  intro a1 a2 a3 a4 M r h
  exact sy_run_by (d := 3) ((jrX12_allBest_103 _ _ _ _ _ _ M).trans h) hkX12 (by decide +kernel) sy_cs_nil (sy_us_cons (jwX12_allBest_47 hk47) sy_us_nil)
def jgX12_allBest_47 (k9 : Int32 → sy_M → sy_O) (k47 : Int32 → Int32 → Int32 → Int32 → sy_M → sy_O) (a1 : Int32) (a2 : Int32) (a3 : Int32) (a4 : Int32) (M : sy_M) : sy_O :=
  if a4 < (M 122 3) then
    sy_bi (jfX12_isOf a3 a4 M) fun v3 M2 =>
    if v3 = 0 then
      jfX12_allBest_103 k9 k47 a1 a2 a3 a4 M2
    else
      sy_bx (xe_in a1 128) <|
      sy_bi (jfX12_together a2 a4 M2) fun v5 M4 =>
      sy_bx (xe_in (a3 &&& ((1 <<< (a4 &&& 31)) ^^^ (-1))) 128) <|
      sy_bi (jfX12_greater (M2 130 (Int32.toNatClampNeg a1)) (v5 + (M4 130 (Int32.toNatClampNeg (a3 &&& ((1 <<< (a4 &&& 31)) ^^^ (-1)))))) M4) fun v7 M6 =>
      sy_bx (xe_in a1 128) <|
      let M8 := sy_upd M6 130 (Int32.toNatClampNeg a1) v7
      jfX12_allBest_103 k9 k47 a1 a2 a3 a4 M8
  else
    let v1 := a1 + 1
    k9 v1 M
def jfX12_allBest_47 (k9 : Int32 → sy_M → sy_O) : Nat → Int32 → Int32 → Int32 → Int32 → sy_M → sy_O
  | 0, _, _, _, _, _ => none
  | n + 1, a1, a2, a3, a4, M => jgX12_allBest_47 k9 (jfX12_allBest_47 k9 n) a1 a2 a3 a4 M
set_option maxRecDepth 100000 in
theorem jrX12_allBest_47 (k9 : Int32 → sy_M → sy_O) (k47 : Int32 → Int32 → Int32 → Int32 → sy_M → sy_O) (a1 : Int32) (a2 : Int32) (a3 : Int32) (a4 : Int32) (M : sy_M) : sy_run skX12 qX12_allBest [(47, .iload 4, 2, []), (49, .aload_n 0, 1, []), (50, .getfield 7, 3, []), (53, .iconst 3, 1, []), (54, .iaload, 1, []), (55, .if_icmp .ge 54, 3, []), (58, .iload_n 3, 1, []), (59, .iload 4, 2, []), (61, .invokestatic 60, 3, []), (64, .ifCond .eq 39, 3, []), (67, .aload_n 0, 1, []), (68, .getfield 38, 3, []), (71, .iload_n 1, 1, []), (72, .aload_n 0, 1, []), (73, .getfield 38, 3, []), (76, .iload_n 1, 1, []), (77, .iaload, 1, []), (78, .aload_n 0, 1, []), (79, .iload_n 2, 1, []), (80, .iload 4, 2, []), (82, .invokevirtual 364, 3, []), (85, .aload_n 0, 1, []), (86, .getfield 38, 3, []), (89, .iload_n 3, 1, []), (90, .iconst 1, 1, []), (91, .iload 4, 2, []), (93, .ishl, 1, []), (94, .iconst (-1), 1, []), (95, .ixor, 1, []), (96, .iand, 1, []), (97, .iaload, 1, []), (98, .iadd, 1, []), (99, .invokestatic 333, 3, []), (102, .iastore, 1, []), (109, .iinc 1 1, 3, [true, true, false, false, false]), (112, .goto (-103), 3, [])] [(185, 0, jcX12_isOf), (286, 0, jcX12_together), (184, 0, jcX12_greater)] [(9, juX12_allBest_9 k9), (103, juX12_allBest_103 (jfX12_allBest_103 k9 k47))] 37 [] 47 [.ref 121, .int a1, .int a2, .int a3, .int a4] [] M = jgX12_allBest_47 k9 k47 a1 a2 a3 a4 M := rfl
theorem jtX12_allBest_47 {k9 : Int32 → sy_M → sy_O} (hk9 : ∀ (w2 : Value) (w3 : Value) (w4 : Value) (a1 : Int32) (M : sy_M) (r : xe_R × sy_M), k9 a1 M = some r → sy_E (4) qX12_allBest 9 [.ref 121, .int a1, w2, w3, w4] [] M r) : ∀ n : Nat, ∀ (a1 : Int32) (a2 : Int32) (a3 : Int32) (a4 : Int32) (M : sy_M) (r : xe_R × sy_M), jfX12_allBest_47 k9 n a1 a2 a3 a4 M = some r → sy_E (4) qX12_allBest 47 [.ref 121, .int a1, .int a2, .int a3, .int a4] [] M r := by
  intro n
  induction n with
  | zero => intro a1 a2 a3 a4 M r h; exact absurd (show (none : sy_O) = some r from h) (by simp)
  | succ n ih => intro a1 a2 a3 a4 M r h; exact sy_run_by (d := 3) ((jrX12_allBest_47 _ _ _ _ _ _ M).trans h) hkX12 (by decide +kernel) (sy_cs_cons (jeX12_isOf.deep (by decide)) (sy_cs_cons (jeX12_together.deep (by decide)) (sy_cs_cons (jeX12_greater.deep (by decide)) sy_cs_nil))) (sy_us_cons (jwX12_allBest_9 hk9) (sy_us_cons (jwX12_allBest_103 (jtX12_allBest_103 hk9 ih)) sy_us_nil))
def jgX12_allBest_9 (k9 : Int32 → sy_M → sy_O) (a1 : Int32) (M : sy_M) : sy_O :=
  sy_bi (jfX12_all M) fun v2 M1 =>
  if v2 < a1 then
    sy_rv M1
  else
    sy_bi (jfX12_lowest a1 M1) fun v4 M3 =>
    let v5 := (a1 &&& ((1 <<< (v4 &&& 31)) ^^^ (-1)))
    sy_bx (xe_in v5 128) <|
    sy_bx (xe_in a1 128) <|
    let M6 := sy_upd M3 130 (Int32.toNatClampNeg a1) (M3 130 (Int32.toNatClampNeg v5))
    let v7 := (v4 + 1)
    jfX12_allBest_47 k9 sy_F a1 v4 v5 v7 M6
def jfX12_allBest_9 : Nat → Int32 → sy_M → sy_O
  | 0, _, _ => none
  | n + 1, a1, M => jgX12_allBest_9 (jfX12_allBest_9 n) a1 M
set_option maxRecDepth 100000 in
theorem jrX12_allBest_9 (k9 : Int32 → sy_M → sy_O) (w2 : Value) (w3 : Value) (w4 : Value) (a1 : Int32) (M : sy_M) : sy_run skX12 qX12_allBest [(9, .iload_n 1, 1, [true, true, false, false, false]), (10, .aload_n 0, 1, []), (11, .invokevirtual 287, 3, []), (14, .if_icmp .gt 101, 3, []), (17, .iload_n 1, 1, []), (18, .invokestatic 361, 3, []), (21, .istore_n 2, 1, []), (22, .iload_n 1, 1, []), (23, .iconst 1, 1, []), (24, .iload_n 2, 1, []), (25, .ishl, 1, []), (26, .iconst (-1), 1, []), (27, .ixor, 1, []), (28, .iand, 1, []), (29, .istore_n 3, 1, []), (30, .aload_n 0, 1, []), (31, .getfield 38, 3, []), (34, .iload_n 1, 1, []), (35, .aload_n 0, 1, []), (36, .getfield 38, 3, []), (39, .iload_n 3, 1, []), (40, .iaload, 1, []), (41, .iastore, 1, []), (42, .iload_n 2, 1, []), (43, .iconst 1, 1, []), (44, .iadd, 1, []), (45, .istore 4, 2, []), (115, .return_, 1, [false, false, false, false, false])] [(197, 0, jcX12_all), (287, 0, jcX12_lowest)] [(47, juX12_allBest_47 (jfX12_allBest_47 k9 sy_F))] 29 [] 9 [.ref 121, .int a1, w2, w3, w4] [] M = jgX12_allBest_9 k9 a1 M := rfl
theorem jtX12_allBest_9 : ∀ n : Nat, ∀ (w2 : Value) (w3 : Value) (w4 : Value) (a1 : Int32) (M : sy_M) (r : xe_R × sy_M), jfX12_allBest_9 n a1 M = some r → sy_E (4) qX12_allBest 9 [.ref 121, .int a1, w2, w3, w4] [] M r := by
  intro n
  induction n with
  | zero => intro w2 w3 w4 a1 M r h; exact absurd (show (none : sy_O) = some r from h) (by simp)
  | succ n ih => intro w2 w3 w4 a1 M r h; exact sy_run_by (d := 3) ((jrX12_allBest_9 _ _ _ _ _ M).trans h) hkX12 (by decide +kernel) (sy_cs_cons (jeX12_all.deep (by decide)) (sy_cs_cons (jeX12_lowest.deep (by decide)) sy_cs_nil)) (sy_us_cons (jwX12_allBest_47 (jtX12_allBest_47 ih sy_F)) sy_us_nil)
def jfX12_allBest (M : sy_M) : sy_O :=
  let M1 := sy_upd M 130 0 0
  jfX12_allBest_9 sy_F 1 M1
set_option maxRecDepth 100000 in
theorem jrX12_allBest (M : sy_M) : sy_run skX12 qX12_allBest [(0, .aload_n 0, 1, []), (1, .getfield 38, 3, []), (4, .iconst 0, 1, []), (5, .iconst 0, 1, []), (6, .iastore, 1, []), (7, .iconst 1, 1, []), (8, .istore_n 1, 1, [])] [] [(9, juX12_allBest_9 (jfX12_allBest_9 sy_F))] 8 [] 0 [.ref 121, xe_no, xe_no, xe_no, xe_no] [] M = jfX12_allBest M := rfl
theorem jtX12_allBest : ∀ (M : sy_M) (r : xe_R × sy_M), jfX12_allBest M = some r → sy_E (4) qX12_allBest 0 [.ref 121, xe_no, xe_no, xe_no, xe_no] [] M r := by
  intro  M r h
  exact sy_run_by (d := 3) ((jrX12_allBest M).trans h) hkX12 (by decide +kernel) sy_cs_nil (sy_us_cons (jwX12_allBest_9 (jtX12_allBest_9 sy_F)) sy_us_nil)
def jcX12_allBest (as : List Value) (M : sy_M) (K : sy_O → sy_O) : sy_O := sy_xc 121 as fun l => sy_xn l (K (jfX12_allBest M))
theorem jeX12_allBest : sy_snd (4) 288 (jcX12_allBest) := by
  intro as M K r h
  obtain ⟨l, e, h1⟩ := sy_xc_ok h; subst e
  obtain ⟨e, h2⟩ := sy_xn_ok h1; subst e
  exact ⟨_, h2, fun r1 h0 => ⟨qX12_allBest, rfl, rfl, jtX12_allBest  M r1 h0⟩⟩
/-! X12_pairs StairMeterModel pairs (I)I [('R', 121), 'I'] -/
def juX12_pairs_195 (k : Int32 → Int32 → sy_M → sy_O) (ls st : List Value) (M : sy_M) : sy_O := sy_xc 121 ls fun l => sy_xi l fun a1 l => sy_xv l fun _ l => sy_xv l fun _ l => sy_xv l fun _ l => sy_xv l fun _ l => sy_xv l fun _ l => sy_xn l (sy_xi st fun s0 l => sy_xn l (k a1 s0 M))
theorem jwX12_pairs_195 {d : Nat} {k : Int32 → Int32 → sy_M → sy_O} (hk : ∀ (w2 : Value) (w3 : Value) (w4 : Value) (w5 : Value) (w6 : Value) (a1 : Int32) (s0 : Int32) (M : sy_M) (r : xe_R × sy_M), k a1 s0 M = some r → sy_E (d) qX12_pairs 195 [.ref 121, .int a1, w2, w3, w4, w5, w6] [.int s0] M r) : ∀ ls st M r, juX12_pairs_195 k ls st M = some r → sy_E d qX12_pairs 195 ls st M r := by
  intro ls st M r h
  obtain ⟨l, e, h1⟩ := sy_xc_ok h; subst e
  obtain ⟨a1, l, e, h2⟩ := sy_xi_ok h1; subst e
  obtain ⟨w2, l, e, h3⟩ := sy_xv_ok h2; subst e
  obtain ⟨w3, l, e, h4⟩ := sy_xv_ok h3; subst e
  obtain ⟨w4, l, e, h5⟩ := sy_xv_ok h4; subst e
  obtain ⟨w5, l, e, h6⟩ := sy_xv_ok h5; subst e
  obtain ⟨w6, l, e, h7⟩ := sy_xv_ok h6; subst e
  obtain ⟨e, h8⟩ := sy_xn_ok h7; subst e
  obtain ⟨s0, l, e, h9⟩ := sy_xi_ok h8; subst e
  obtain ⟨e, h10⟩ := sy_xn_ok h9; subst e
  exact hk _ _ _ _ _ a1 s0 M r h10
def juX12_pairs_159 (k : Int32 → Int32 → Int32 → Int32 → sy_M → sy_O) (ls st : List Value) (M : sy_M) : sy_O := sy_xc 121 ls fun l => sy_xi l fun a1 l => sy_xv l fun _ l => sy_xi l fun a3 l => sy_xi l fun a4 l => sy_xi l fun a5 l => sy_xv l fun _ l => sy_xn l (sy_xn st (k a1 a3 a4 a5 M))
theorem jwX12_pairs_159 {d : Nat} {k : Int32 → Int32 → Int32 → Int32 → sy_M → sy_O} (hk : ∀ (w2 : Value) (w6 : Value) (a1 : Int32) (a3 : Int32) (a4 : Int32) (a5 : Int32) (M : sy_M) (r : xe_R × sy_M), k a1 a3 a4 a5 M = some r → sy_E (d) qX12_pairs 159 [.ref 121, .int a1, w2, .int a3, .int a4, .int a5, w6] [] M r) : ∀ ls st M r, juX12_pairs_159 k ls st M = some r → sy_E d qX12_pairs 159 ls st M r := by
  intro ls st M r h
  obtain ⟨l, e, h1⟩ := sy_xc_ok h; subst e
  obtain ⟨a1, l, e, h2⟩ := sy_xi_ok h1; subst e
  obtain ⟨w2, l, e, h3⟩ := sy_xv_ok h2; subst e
  obtain ⟨a3, l, e, h4⟩ := sy_xi_ok h3; subst e
  obtain ⟨a4, l, e, h5⟩ := sy_xi_ok h4; subst e
  obtain ⟨a5, l, e, h6⟩ := sy_xi_ok h5; subst e
  obtain ⟨w6, l, e, h7⟩ := sy_xv_ok h6; subst e
  obtain ⟨e, h8⟩ := sy_xn_ok h7; subst e
  obtain ⟨e, h9⟩ := sy_xn_ok h8; subst e
  exact hk _ _ a1 a3 a4 a5 M r h9
def juX12_pairs_153 (k : Int32 → Int32 → Int32 → Int32 → Int32 → Int32 → sy_M → sy_O) (ls st : List Value) (M : sy_M) : sy_O := sy_xc 121 ls fun l => sy_xi l fun a1 l => sy_xi l fun a2 l => sy_xi l fun a3 l => sy_xi l fun a4 l => sy_xi l fun a5 l => sy_xi l fun a6 l => sy_xn l (sy_xn st (k a1 a2 a3 a4 a5 a6 M))
theorem jwX12_pairs_153 {d : Nat} {k : Int32 → Int32 → Int32 → Int32 → Int32 → Int32 → sy_M → sy_O} (hk : ∀ (a1 : Int32) (a2 : Int32) (a3 : Int32) (a4 : Int32) (a5 : Int32) (a6 : Int32) (M : sy_M) (r : xe_R × sy_M), k a1 a2 a3 a4 a5 a6 M = some r → sy_E (d) qX12_pairs 153 [.ref 121, .int a1, .int a2, .int a3, .int a4, .int a5, .int a6] [] M r) : ∀ ls st M r, juX12_pairs_153 k ls st M = some r → sy_E d qX12_pairs 153 ls st M r := by
  intro ls st M r h
  obtain ⟨l, e, h1⟩ := sy_xc_ok h; subst e
  obtain ⟨a1, l, e, h2⟩ := sy_xi_ok h1; subst e
  obtain ⟨a2, l, e, h3⟩ := sy_xi_ok h2; subst e
  obtain ⟨a3, l, e, h4⟩ := sy_xi_ok h3; subst e
  obtain ⟨a4, l, e, h5⟩ := sy_xi_ok h4; subst e
  obtain ⟨a5, l, e, h6⟩ := sy_xi_ok h5; subst e
  obtain ⟨a6, l, e, h7⟩ := sy_xi_ok h6; subst e
  obtain ⟨e, h8⟩ := sy_xn_ok h7; subst e
  obtain ⟨e, h9⟩ := sy_xn_ok h8; subst e
  exact hk a1 a2 a3 a4 a5 a6 M r h9
def juX12_pairs_149 (k : Int32 → Int32 → Int32 → Int32 → Int32 → sy_M → sy_O) (ls st : List Value) (M : sy_M) : sy_O := sy_xc 121 ls fun l => sy_xi l fun a1 l => sy_xi l fun a2 l => sy_xi l fun a3 l => sy_xi l fun a4 l => sy_xi l fun w5 l => sy_xi l fun a6 l => sy_xn l (sy_xn st (k a1 a2 a3 a4 a6 M))
theorem jwX12_pairs_149 {d : Nat} {k : Int32 → Int32 → Int32 → Int32 → Int32 → sy_M → sy_O} (hk : ∀ (w5 : Int32) (a1 : Int32) (a2 : Int32) (a3 : Int32) (a4 : Int32) (a6 : Int32) (M : sy_M) (r : xe_R × sy_M), k a1 a2 a3 a4 a6 M = some r → sy_E (d) qX12_pairs 149 [.ref 121, .int a1, .int a2, .int a3, .int a4, .int w5, .int a6] [] M r) : ∀ ls st M r, juX12_pairs_149 k ls st M = some r → sy_E d qX12_pairs 149 ls st M r := by
  intro ls st M r h
  obtain ⟨l, e, h1⟩ := sy_xc_ok h; subst e
  obtain ⟨a1, l, e, h2⟩ := sy_xi_ok h1; subst e
  obtain ⟨a2, l, e, h3⟩ := sy_xi_ok h2; subst e
  obtain ⟨a3, l, e, h4⟩ := sy_xi_ok h3; subst e
  obtain ⟨a4, l, e, h5⟩ := sy_xi_ok h4; subst e
  obtain ⟨w5, l, e, h6⟩ := sy_xi_ok h5; subst e
  obtain ⟨a6, l, e, h7⟩ := sy_xi_ok h6; subst e
  obtain ⟨e, h8⟩ := sy_xn_ok h7; subst e
  obtain ⟨e, h9⟩ := sy_xn_ok h8; subst e
  exact hk _ a1 a2 a3 a4 a6 M r h9
def juX12_pairs_86 (k : Int32 → Int32 → Int32 → Int32 → Int32 → Int32 → sy_M → sy_O) (ls st : List Value) (M : sy_M) : sy_O := sy_xc 121 ls fun l => sy_xi l fun a1 l => sy_xi l fun a2 l => sy_xi l fun a3 l => sy_xi l fun a4 l => sy_xi l fun a5 l => sy_xi l fun a6 l => sy_xn l (sy_xn st (k a1 a2 a3 a4 a5 a6 M))
theorem jwX12_pairs_86 {d : Nat} {k : Int32 → Int32 → Int32 → Int32 → Int32 → Int32 → sy_M → sy_O} (hk : ∀ (a1 : Int32) (a2 : Int32) (a3 : Int32) (a4 : Int32) (a5 : Int32) (a6 : Int32) (M : sy_M) (r : xe_R × sy_M), k a1 a2 a3 a4 a5 a6 M = some r → sy_E (d) qX12_pairs 86 [.ref 121, .int a1, .int a2, .int a3, .int a4, .int a5, .int a6] [] M r) : ∀ ls st M r, juX12_pairs_86 k ls st M = some r → sy_E d qX12_pairs 86 ls st M r := by
  intro ls st M r h
  obtain ⟨l, e, h1⟩ := sy_xc_ok h; subst e
  obtain ⟨a1, l, e, h2⟩ := sy_xi_ok h1; subst e
  obtain ⟨a2, l, e, h3⟩ := sy_xi_ok h2; subst e
  obtain ⟨a3, l, e, h4⟩ := sy_xi_ok h3; subst e
  obtain ⟨a4, l, e, h5⟩ := sy_xi_ok h4; subst e
  obtain ⟨a5, l, e, h6⟩ := sy_xi_ok h5; subst e
  obtain ⟨a6, l, e, h7⟩ := sy_xi_ok h6; subst e
  obtain ⟨e, h8⟩ := sy_xn_ok h7; subst e
  obtain ⟨e, h9⟩ := sy_xn_ok h8; subst e
  exact hk a1 a2 a3 a4 a5 a6 M r h9
def juX12_pairs_55 (k : Int32 → Int32 → sy_M → sy_O) (ls st : List Value) (M : sy_M) : sy_O := sy_xc 121 ls fun l => sy_xi l fun a1 l => sy_xi l fun a2 l => sy_xv l fun _ l => sy_xv l fun _ l => sy_xv l fun _ l => sy_xv l fun _ l => sy_xn l (sy_xn st (k a1 a2 M))
theorem jwX12_pairs_55 {d : Nat} {k : Int32 → Int32 → sy_M → sy_O} (hk : ∀ (w3 : Value) (w4 : Value) (w5 : Value) (w6 : Value) (a1 : Int32) (a2 : Int32) (M : sy_M) (r : xe_R × sy_M), k a1 a2 M = some r → sy_E (d) qX12_pairs 55 [.ref 121, .int a1, .int a2, w3, w4, w5, w6] [] M r) : ∀ ls st M r, juX12_pairs_55 k ls st M = some r → sy_E d qX12_pairs 55 ls st M r := by
  intro ls st M r h
  obtain ⟨l, e, h1⟩ := sy_xc_ok h; subst e
  obtain ⟨a1, l, e, h2⟩ := sy_xi_ok h1; subst e
  obtain ⟨a2, l, e, h3⟩ := sy_xi_ok h2; subst e
  obtain ⟨w3, l, e, h4⟩ := sy_xv_ok h3; subst e
  obtain ⟨w4, l, e, h5⟩ := sy_xv_ok h4; subst e
  obtain ⟨w5, l, e, h6⟩ := sy_xv_ok h5; subst e
  obtain ⟨w6, l, e, h7⟩ := sy_xv_ok h6; subst e
  obtain ⟨e, h8⟩ := sy_xn_ok h7; subst e
  obtain ⟨e, h9⟩ := sy_xn_ok h8; subst e
  exact hk _ _ _ _ a1 a2 M r h9
def juX12_pairs_19 (k : Int32 → Int32 → sy_M → sy_O) (ls st : List Value) (M : sy_M) : sy_O := sy_xc 121 ls fun l => sy_xi l fun a1 l => sy_xv l fun _ l => sy_xv l fun _ l => sy_xv l fun _ l => sy_xv l fun _ l => sy_xv l fun _ l => sy_xn l (sy_xi st fun s0 l => sy_xc 121 l fun l => sy_xn l (k a1 s0 M))
theorem jwX12_pairs_19 {d : Nat} {k : Int32 → Int32 → sy_M → sy_O} (hk : ∀ (w2 : Value) (w3 : Value) (w4 : Value) (w5 : Value) (w6 : Value) (a1 : Int32) (s0 : Int32) (M : sy_M) (r : xe_R × sy_M), k a1 s0 M = some r → sy_E (d) qX12_pairs 19 [.ref 121, .int a1, w2, w3, w4, w5, w6] [.int s0, .ref 121] M r) : ∀ ls st M r, juX12_pairs_19 k ls st M = some r → sy_E d qX12_pairs 19 ls st M r := by
  intro ls st M r h
  obtain ⟨l, e, h1⟩ := sy_xc_ok h; subst e
  obtain ⟨a1, l, e, h2⟩ := sy_xi_ok h1; subst e
  obtain ⟨w2, l, e, h3⟩ := sy_xv_ok h2; subst e
  obtain ⟨w3, l, e, h4⟩ := sy_xv_ok h3; subst e
  obtain ⟨w4, l, e, h5⟩ := sy_xv_ok h4; subst e
  obtain ⟨w5, l, e, h6⟩ := sy_xv_ok h5; subst e
  obtain ⟨w6, l, e, h7⟩ := sy_xv_ok h6; subst e
  obtain ⟨e, h8⟩ := sy_xn_ok h7; subst e
  obtain ⟨s0, l, e, h9⟩ := sy_xi_ok h8; subst e
  obtain ⟨l, e, h10⟩ := sy_xc_ok h9; subst e
  obtain ⟨e, h11⟩ := sy_xn_ok h10; subst e
  exact hk _ _ _ _ _ a1 s0 M r h11
def juX12_pairs_18 (k : Int32 → sy_M → sy_O) (ls st : List Value) (M : sy_M) : sy_O := sy_xc 121 ls fun l => sy_xi l fun a1 l => sy_xv l fun _ l => sy_xv l fun _ l => sy_xv l fun _ l => sy_xv l fun _ l => sy_xv l fun _ l => sy_xn l (sy_xc 121 st fun l => sy_xn l (k a1 M))
theorem jwX12_pairs_18 {d : Nat} {k : Int32 → sy_M → sy_O} (hk : ∀ (w2 : Value) (w3 : Value) (w4 : Value) (w5 : Value) (w6 : Value) (a1 : Int32) (M : sy_M) (r : xe_R × sy_M), k a1 M = some r → sy_E (d) qX12_pairs 18 [.ref 121, .int a1, w2, w3, w4, w5, w6] [.ref 121] M r) : ∀ ls st M r, juX12_pairs_18 k ls st M = some r → sy_E d qX12_pairs 18 ls st M r := by
  intro ls st M r h
  obtain ⟨l, e, h1⟩ := sy_xc_ok h; subst e
  obtain ⟨a1, l, e, h2⟩ := sy_xi_ok h1; subst e
  obtain ⟨w2, l, e, h3⟩ := sy_xv_ok h2; subst e
  obtain ⟨w3, l, e, h4⟩ := sy_xv_ok h3; subst e
  obtain ⟨w4, l, e, h5⟩ := sy_xv_ok h4; subst e
  obtain ⟨w5, l, e, h6⟩ := sy_xv_ok h5; subst e
  obtain ⟨w6, l, e, h7⟩ := sy_xv_ok h6; subst e
  obtain ⟨e, h8⟩ := sy_xn_ok h7; subst e
  obtain ⟨l, e, h9⟩ := sy_xc_ok h8; subst e
  obtain ⟨e, h10⟩ := sy_xn_ok h9; subst e
  exact hk _ _ _ _ _ a1 M r h10
def jfX12_pairs_195 (k55 : Int32 → Int32 → sy_M → sy_O) (a1 : Int32) (s0 : Int32) (M : sy_M) : sy_O :=
  k55 a1 s0 M
set_option maxRecDepth 100000 in
theorem jrX12_pairs_195 (k55 : Int32 → Int32 → sy_M → sy_O) (w2 : Value) (w3 : Value) (w4 : Value) (w5 : Value) (w6 : Value) (a1 : Int32) (s0 : Int32) (M : sy_M) : sy_run skX12 qX12_pairs [(195, .istore_n 2, 1, [true, true, false, false, false, false, false]), (196, .goto (-141), 3, [])] [] [(55, juX12_pairs_55 k55)] 3 [] 195 [.ref 121, .int a1, w2, w3, w4, w5, w6] [.int s0] M = jfX12_pairs_195 k55 a1 s0 M := rfl
theorem jtX12_pairs_195 {k55 : Int32 → Int32 → sy_M → sy_O} (hk55 : ∀ (w3 : Value) (w4 : Value) (w5 : Value) (w6 : Value) (a1 : Int32) (a2 : Int32) (M : sy_M) (r : xe_R × sy_M), k55 a1 a2 M = some r → sy_E (5) qX12_pairs 55 [.ref 121, .int a1, .int a2, w3, w4, w5, w6] [] M r) : ∀ (w2 : Value) (w3 : Value) (w4 : Value) (w5 : Value) (w6 : Value) (a1 : Int32) (s0 : Int32) (M : sy_M) (r : xe_R × sy_M), jfX12_pairs_195 k55 a1 s0 M = some r → sy_E (5) qX12_pairs 195 [.ref 121, .int a1, w2, w3, w4, w5, w6] [.int s0] M r := by
  intro w2 w3 w4 w5 w6 a1 s0 M r h
  exact sy_run_by (d := 4) ((jrX12_pairs_195 _ _ _ _ _ _ _ _ M).trans h) hkX12 (by decide +kernel) sy_cs_nil (sy_us_cons (jwX12_pairs_55 hk55) sy_us_nil)
def jfX12_pairs_159 (k55 : Int32 → Int32 → sy_M → sy_O) (a1 : Int32) (a3 : Int32) (a4 : Int32) (a5 : Int32) (M : sy_M) : sy_O :=
  if a3 = a1 then
    sy_ri a5 M
  else
    if a5 = a1 then
      sy_ri a3 M
    else
      if a5 = (-1) then
        jfX12_pairs_195 k55 a1 a4 M
      else
        jfX12_pairs_195 k55 a1 (a4 &&& ((1 <<< (a5 &&& 31)) ^^^ (-1))) M
set_option maxRecDepth 100000 in
theorem jrX12_pairs_159 (k55 : Int32 → Int32 → sy_M → sy_O) (w2 : Value) (w6 : Value) (a1 : Int32) (a3 : Int32) (a4 : Int32) (a5 : Int32) (M : sy_M) : sy_run skX12 qX12_pairs [(159, .iload_n 3, 1, [true, true, false, true, true, true, false]), (160, .iload_n 1, 1, []), (161, .if_icmp .ne 6, 3, []), (164, .iload 5, 2, []), (166, .ireturn, 1, []), (167, .iload 5, 2, [true, true, false, true, true, true, false]), (169, .iload_n 1, 1, []), (170, .if_icmp .ne 5, 3, []), (173, .iload_n 3, 1, []), (174, .ireturn, 1, []), (175, .iload 5, 2, [true, true, false, false, true, true, false]), (177, .iconst (-1), 1, []), (178, .if_icmp .ne 8, 3, []), (181, .iload 4, 2, []), (183, .goto 12, 3, []), (186, .iload 4, 2, [true, true, false, false, true, true, false]), (188, .iconst 1, 1, []), (189, .iload 5, 2, []), (191, .ishl, 1, []), (192, .iconst (-1), 1, []), (193, .ixor, 1, []), (194, .iand, 1, [])] [] [(195, juX12_pairs_195 (jfX12_pairs_195 k55))] 23 [] 159 [.ref 121, .int a1, w2, .int a3, .int a4, .int a5, w6] [] M = jfX12_pairs_159 k55 a1 a3 a4 a5 M := rfl
theorem jtX12_pairs_159 {k55 : Int32 → Int32 → sy_M → sy_O} (hk55 : ∀ (w3 : Value) (w4 : Value) (w5 : Value) (w6 : Value) (a1 : Int32) (a2 : Int32) (M : sy_M) (r : xe_R × sy_M), k55 a1 a2 M = some r → sy_E (5) qX12_pairs 55 [.ref 121, .int a1, .int a2, w3, w4, w5, w6] [] M r) : ∀ (w2 : Value) (w6 : Value) (a1 : Int32) (a3 : Int32) (a4 : Int32) (a5 : Int32) (M : sy_M) (r : xe_R × sy_M), jfX12_pairs_159 k55 a1 a3 a4 a5 M = some r → sy_E (5) qX12_pairs 159 [.ref 121, .int a1, w2, .int a3, .int a4, .int a5, w6] [] M r := by
  intro w2 w6 a1 a3 a4 a5 M r h
  exact sy_run_by (d := 4) ((jrX12_pairs_159 _ _ _ _ _ _ _ M).trans h) hkX12 (by decide +kernel) sy_cs_nil (sy_us_cons (jwX12_pairs_195 (jtX12_pairs_195 hk55)) sy_us_nil)
def jfX12_pairs_153 (k55 : Int32 → Int32 → sy_M → sy_O) (k86 : Int32 → Int32 → Int32 → Int32 → Int32 → Int32 → sy_M → sy_O) (a1 : Int32) (a2 : Int32) (a3 : Int32) (a4 : Int32) (a5 : Int32) (a6 : Int32) (M : sy_M) : sy_O :=
  let v1 := a6 + (-1)
  k86 a1 a2 a3 a4 a5 v1 M
set_option maxRecDepth 100000 in
theorem jrX12_pairs_153 (k55 : Int32 → Int32 → sy_M → sy_O) (k86 : Int32 → Int32 → Int32 → Int32 → Int32 → Int32 → sy_M → sy_O) (a1 : Int32) (a2 : Int32) (a3 : Int32) (a4 : Int32) (a5 : Int32) (a6 : Int32) (M : sy_M) : sy_run skX12 qX12_pairs [(153, .iinc 6 (-1), 3, []), (156, .goto (-70), 3, [])] [] [(86, juX12_pairs_86 k86)] 3 [] 153 [.ref 121, .int a1, .int a2, .int a3, .int a4, .int a5, .int a6] [] M = jfX12_pairs_153 k55 k86 a1 a2 a3 a4 a5 a6 M := rfl
theorem jtX12_pairs_153 {k55 : Int32 → Int32 → sy_M → sy_O} (hk55 : ∀ (w3 : Value) (w4 : Value) (w5 : Value) (w6 : Value) (a1 : Int32) (a2 : Int32) (M : sy_M) (r : xe_R × sy_M), k55 a1 a2 M = some r → sy_E (5) qX12_pairs 55 [.ref 121, .int a1, .int a2, w3, w4, w5, w6] [] M r) {k86 : Int32 → Int32 → Int32 → Int32 → Int32 → Int32 → sy_M → sy_O} (hk86 : ∀ (a1 : Int32) (a2 : Int32) (a3 : Int32) (a4 : Int32) (a5 : Int32) (a6 : Int32) (M : sy_M) (r : xe_R × sy_M), k86 a1 a2 a3 a4 a5 a6 M = some r → sy_E (5) qX12_pairs 86 [.ref 121, .int a1, .int a2, .int a3, .int a4, .int a5, .int a6] [] M r) : ∀ (a1 : Int32) (a2 : Int32) (a3 : Int32) (a4 : Int32) (a5 : Int32) (a6 : Int32) (M : sy_M) (r : xe_R × sy_M), jfX12_pairs_153 k55 k86 a1 a2 a3 a4 a5 a6 M = some r → sy_E (5) qX12_pairs 153 [.ref 121, .int a1, .int a2, .int a3, .int a4, .int a5, .int a6] [] M r := by
  intro a1 a2 a3 a4 a5 a6 M r h
  exact sy_run_by (d := 4) ((jrX12_pairs_153 _ _ _ _ _ _ _ _ M).trans h) hkX12 (by decide +kernel) sy_cs_nil (sy_us_cons (jwX12_pairs_86 hk86) sy_us_nil)
def jfX12_pairs_149 (k55 : Int32 → Int32 → sy_M → sy_O) (k86 : Int32 → Int32 → Int32 → Int32 → Int32 → Int32 → sy_M → sy_O) (a1 : Int32) (a2 : Int32) (a3 : Int32) (a4 : Int32) (a6 : Int32) (M : sy_M) : sy_O :=
  jfX12_pairs_153 k55 k86 a1 a2 a3 a4 a6 a6 M
set_option maxRecDepth 100000 in
theorem jrX12_pairs_149 (k55 : Int32 → Int32 → sy_M → sy_O) (k86 : Int32 → Int32 → Int32 → Int32 → Int32 → Int32 → sy_M → sy_O) (w5 : Int32) (a1 : Int32) (a2 : Int32) (a3 : Int32) (a4 : Int32) (a6 : Int32) (M : sy_M) : sy_run skX12 qX12_pairs [(149, .iload 6, 2, []), (151, .istore 5, 2, [])] [] [(153, juX12_pairs_153 (jfX12_pairs_153 k55 k86))] 3 [] 149 [.ref 121, .int a1, .int a2, .int a3, .int a4, .int w5, .int a6] [] M = jfX12_pairs_149 k55 k86 a1 a2 a3 a4 a6 M := rfl
theorem jtX12_pairs_149 {k55 : Int32 → Int32 → sy_M → sy_O} (hk55 : ∀ (w3 : Value) (w4 : Value) (w5 : Value) (w6 : Value) (a1 : Int32) (a2 : Int32) (M : sy_M) (r : xe_R × sy_M), k55 a1 a2 M = some r → sy_E (5) qX12_pairs 55 [.ref 121, .int a1, .int a2, w3, w4, w5, w6] [] M r) {k86 : Int32 → Int32 → Int32 → Int32 → Int32 → Int32 → sy_M → sy_O} (hk86 : ∀ (a1 : Int32) (a2 : Int32) (a3 : Int32) (a4 : Int32) (a5 : Int32) (a6 : Int32) (M : sy_M) (r : xe_R × sy_M), k86 a1 a2 a3 a4 a5 a6 M = some r → sy_E (5) qX12_pairs 86 [.ref 121, .int a1, .int a2, .int a3, .int a4, .int a5, .int a6] [] M r) : ∀ (w5 : Int32) (a1 : Int32) (a2 : Int32) (a3 : Int32) (a4 : Int32) (a6 : Int32) (M : sy_M) (r : xe_R × sy_M), jfX12_pairs_149 k55 k86 a1 a2 a3 a4 a6 M = some r → sy_E (5) qX12_pairs 149 [.ref 121, .int a1, .int a2, .int a3, .int a4, .int w5, .int a6] [] M r := by
  intro w5 a1 a2 a3 a4 a6 M r h
  exact sy_run_by (d := 4) ((jrX12_pairs_149 _ _ _ _ _ _ _ _ M).trans h) hkX12 (by decide +kernel) sy_cs_nil (sy_us_cons (jwX12_pairs_153 (jtX12_pairs_153 hk55 hk86)) sy_us_nil)
def jgX12_pairs_86 (k55 : Int32 → Int32 → sy_M → sy_O) (k86 : Int32 → Int32 → Int32 → Int32 → Int32 → Int32 → sy_M → sy_O) (a1 : Int32) (a2 : Int32) (a3 : Int32) (a4 : Int32) (a5 : Int32) (a6 : Int32) (M : sy_M) : sy_O :=
  if a3 < a6 then
    sy_bx (xe_in a4 128) <|
    sy_bx (xe_in a2 128) <|
    if (M 130 (Int32.toNatClampNeg a4)) = (M 130 (Int32.toNatClampNeg a2)) then
      jfX12_pairs_159 k55 a1 a3 a4 a5 M
    else
      sy_bi (jfX12_isOf a4 a6 M) fun v2 M1 =>
      if v2 = 0 then
        jfX12_pairs_153 k55 k86 a1 a2 a3 a4 a5 a6 M1
      else
        sy_bi (jfX12_together a3 a6 M1) fun v4 M3 =>
        sy_bx (xe_in (a4 &&& ((1 <<< (a6 &&& 31)) ^^^ (-1))) 128) <|
        sy_bx (xe_in a2 128) <|
        if (v4 + (M3 130 (Int32.toNatClampNeg (a4 &&& ((1 <<< (a6 &&& 31)) ^^^ (-1)))))) = (M3 130 (Int32.toNatClampNeg a2)) then
          jfX12_pairs_149 k55 k86 a1 a2 a3 a4 a6 M3
        else
          jfX12_pairs_153 k55 k86 a1 a2 a3 a4 a5 a6 M3
  else
    jfX12_pairs_159 k55 a1 a3 a4 a5 M
def jfX12_pairs_86 (k55 : Int32 → Int32 → sy_M → sy_O) : Nat → Int32 → Int32 → Int32 → Int32 → Int32 → Int32 → sy_M → sy_O
  | 0, _, _, _, _, _, _, _ => none
  | n + 1, a1, a2, a3, a4, a5, a6, M => jgX12_pairs_86 k55 (jfX12_pairs_86 k55 n) a1 a2 a3 a4 a5 a6 M
set_option maxRecDepth 100000 in
theorem jrX12_pairs_86 (k55 : Int32 → Int32 → sy_M → sy_O) (k86 : Int32 → Int32 → Int32 → Int32 → Int32 → Int32 → sy_M → sy_O) (a1 : Int32) (a2 : Int32) (a3 : Int32) (a4 : Int32) (a5 : Int32) (a6 : Int32) (M : sy_M) : sy_run skX12 qX12_pairs [(86, .iload 6, 2, []), (88, .iload_n 3, 1, []), (89, .if_icmp .le 70, 3, []), (92, .aload_n 0, 1, []), (93, .getfield 38, 3, []), (96, .iload 4, 2, []), (98, .iaload, 1, []), (99, .aload_n 0, 1, []), (100, .getfield 38, 3, []), (103, .iload_n 2, 1, []), (104, .iaload, 1, []), (105, .if_icmp .eq 54, 3, []), (108, .iload 4, 2, []), (110, .iload 6, 2, []), (112, .invokestatic 60, 3, []), (115, .ifCond .eq 38, 3, []), (118, .aload_n 0, 1, []), (119, .iload_n 3, 1, []), (120, .iload 6, 2, []), (122, .invokevirtual 364, 3, []), (125, .aload_n 0, 1, []), (126, .getfield 38, 3, []), (129, .iload 4, 2, []), (131, .iconst 1, 1, []), (132, .iload 6, 2, []), (134, .ishl, 1, []), (135, .iconst (-1), 1, []), (136, .ixor, 1, []), (137, .iand, 1, []), (138, .iaload, 1, []), (139, .iadd, 1, []), (140, .aload_n 0, 1, []), (141, .getfield 38, 3, []), (144, .iload_n 2, 1, []), (145, .iaload, 1, []), (146, .if_icmp .ne 7, 3, [])] [(185, 0, jcX12_isOf), (286, 0, jcX12_together)] [(159, juX12_pairs_159 (jfX12_pairs_159 k55)), (153, juX12_pairs_153 (jfX12_pairs_153 k55 k86)), (149, juX12_pairs_149 (jfX12_pairs_149 k55 k86))] 37 [] 86 [.ref 121, .int a1, .int a2, .int a3, .int a4, .int a5, .int a6] [] M = jgX12_pairs_86 k55 k86 a1 a2 a3 a4 a5 a6 M := rfl
theorem jtX12_pairs_86 {k55 : Int32 → Int32 → sy_M → sy_O} (hk55 : ∀ (w3 : Value) (w4 : Value) (w5 : Value) (w6 : Value) (a1 : Int32) (a2 : Int32) (M : sy_M) (r : xe_R × sy_M), k55 a1 a2 M = some r → sy_E (5) qX12_pairs 55 [.ref 121, .int a1, .int a2, w3, w4, w5, w6] [] M r) : ∀ n : Nat, ∀ (a1 : Int32) (a2 : Int32) (a3 : Int32) (a4 : Int32) (a5 : Int32) (a6 : Int32) (M : sy_M) (r : xe_R × sy_M), jfX12_pairs_86 k55 n a1 a2 a3 a4 a5 a6 M = some r → sy_E (5) qX12_pairs 86 [.ref 121, .int a1, .int a2, .int a3, .int a4, .int a5, .int a6] [] M r := by
  intro n
  induction n with
  | zero => intro a1 a2 a3 a4 a5 a6 M r h; exact absurd (show (none : sy_O) = some r from h) (by simp)
  | succ n ih => intro a1 a2 a3 a4 a5 a6 M r h; exact sy_run_by (d := 4) ((jrX12_pairs_86 _ _ _ _ _ _ _ _ M).trans h) hkX12 (by decide +kernel) (sy_cs_cons (jeX12_isOf.deep (by decide)) (sy_cs_cons (jeX12_together.deep (by decide)) sy_cs_nil)) (sy_us_cons (jwX12_pairs_159 (jtX12_pairs_159 hk55)) (sy_us_cons (jwX12_pairs_153 (jtX12_pairs_153 hk55 ih)) (sy_us_cons (jwX12_pairs_149 (jtX12_pairs_149 hk55 ih)) sy_us_nil)))
def jgX12_pairs_55 (k55 : Int32 → Int32 → sy_M → sy_O) (a1 : Int32) (a2 : Int32) (M : sy_M) : sy_O :=
  if a2 = 0 then
    sy_ri (-1) M
  else
    sy_bi (jfX12_lowest a2 M) fun v2 M1 =>
    let v3 := (a2 &&& ((1 <<< (v2 &&& 31)) ^^^ (-1)))
    let v4 := ((M1 122 3) - 1)
    jfX12_pairs_86 k55 sy_F a1 a2 v2 v3 (-1) v4 M1
def jfX12_pairs_55 : Nat → Int32 → Int32 → sy_M → sy_O
  | 0, _, _, _ => none
  | n + 1, a1, a2, M => jgX12_pairs_55 (jfX12_pairs_55 n) a1 a2 M
set_option maxRecDepth 100000 in
theorem jrX12_pairs_55 (k55 : Int32 → Int32 → sy_M → sy_O) (w3 : Value) (w4 : Value) (w5 : Value) (w6 : Value) (a1 : Int32) (a2 : Int32) (M : sy_M) : sy_run skX12 qX12_pairs [(55, .iload_n 2, 1, [true, true, true, false, false, false, false]), (56, .ifCond .eq 143, 3, []), (59, .iload_n 2, 1, []), (60, .invokestatic 361, 3, []), (63, .istore_n 3, 1, []), (64, .iload_n 2, 1, []), (65, .iconst 1, 1, []), (66, .iload_n 3, 1, []), (67, .ishl, 1, []), (68, .iconst (-1), 1, []), (69, .ixor, 1, []), (70, .iand, 1, []), (71, .istore 4, 2, []), (73, .iconst (-1), 1, []), (74, .istore 5, 2, []), (76, .aload_n 0, 1, []), (77, .getfield 7, 3, []), (80, .iconst 3, 1, []), (81, .iaload, 1, []), (82, .iconst 1, 1, []), (83, .isub, 1, []), (84, .istore 6, 2, []), (199, .iconst (-1), 1, [false, false, false, false, false, false, false]), (200, .ireturn, 1, [])] [(287, 0, jcX12_lowest)] [(86, juX12_pairs_86 (jfX12_pairs_86 k55 sy_F))] 25 [] 55 [.ref 121, .int a1, .int a2, w3, w4, w5, w6] [] M = jgX12_pairs_55 k55 a1 a2 M := rfl
theorem jtX12_pairs_55 : ∀ n : Nat, ∀ (w3 : Value) (w4 : Value) (w5 : Value) (w6 : Value) (a1 : Int32) (a2 : Int32) (M : sy_M) (r : xe_R × sy_M), jfX12_pairs_55 n a1 a2 M = some r → sy_E (5) qX12_pairs 55 [.ref 121, .int a1, .int a2, w3, w4, w5, w6] [] M r := by
  intro n
  induction n with
  | zero => intro w3 w4 w5 w6 a1 a2 M r h; exact absurd (show (none : sy_O) = some r from h) (by simp)
  | succ n ih => intro w3 w4 w5 w6 a1 a2 M r h; exact sy_run_by (d := 4) ((jrX12_pairs_55 _ _ _ _ _ _ _ M).trans h) hkX12 (by decide +kernel) (sy_cs_cons (jeX12_lowest.deep (by decide)) sy_cs_nil) (sy_us_cons (jwX12_pairs_86 (jtX12_pairs_86 ih sy_F)) sy_us_nil)
def jfX12_pairs_19 (a1 : Int32) (s0 : Int32) (M : sy_M) : sy_O :=
  let M1 := sy_upd M 121 0 s0
  if 0 < (M1 121 0) then
    sy_ri 0 M1
  else
    sy_bv (jfX12_allBest M1) fun M2 =>
    if a1 = (-1) then
      sy_bi (jfX12_all M2) fun v6 M5 =>
      sy_bx (xe_in v6 128) <|
      sy_ri (M5 130 (Int32.toNatClampNeg v6)) M5
    else
      sy_bi (jfX12_all M2) fun v4 M3 =>
      jfX12_pairs_55 sy_F a1 v4 M3
set_option maxRecDepth 100000 in
theorem jrX12_pairs_19 (w2 : Value) (w3 : Value) (w4 : Value) (w5 : Value) (w6 : Value) (a1 : Int32) (s0 : Int32) (M : sy_M) : sy_run skX12 qX12_pairs [(19, .putfield 45, 3, [true, true, false, false, false, false, false]), (22, .aload_n 0, 1, []), (23, .getfield 45, 3, []), (26, .ifCond .le 5, 3, []), (29, .iconst 0, 1, []), (30, .ireturn, 1, []), (31, .aload_n 0, 1, [true, true, false, false, false, false, false]), (32, .invokevirtual 367, 3, []), (35, .iload_n 1, 1, []), (36, .iconst (-1), 1, []), (37, .if_icmp .ne 13, 3, []), (40, .aload_n 0, 1, []), (41, .getfield 38, 3, []), (44, .aload_n 0, 1, []), (45, .invokevirtual 287, 3, []), (48, .iaload, 1, []), (49, .ireturn, 1, []), (50, .aload_n 0, 1, [true, true, false, false, false, false, false]), (51, .invokevirtual 287, 3, []), (54, .istore_n 2, 1, [])] [(288, 1, jcX12_allBest), (197, 0, jcX12_all)] [(55, juX12_pairs_55 (jfX12_pairs_55 sy_F))] 21 [] 19 [.ref 121, .int a1, w2, w3, w4, w5, w6] [.int s0, .ref 121] M = jfX12_pairs_19 a1 s0 M := rfl
theorem jtX12_pairs_19 : ∀ (w2 : Value) (w3 : Value) (w4 : Value) (w5 : Value) (w6 : Value) (a1 : Int32) (s0 : Int32) (M : sy_M) (r : xe_R × sy_M), jfX12_pairs_19 a1 s0 M = some r → sy_E (5) qX12_pairs 19 [.ref 121, .int a1, w2, w3, w4, w5, w6] [.int s0, .ref 121] M r := by
  intro w2 w3 w4 w5 w6 a1 s0 M r h
  exact sy_run_by (d := 4) ((jrX12_pairs_19 _ _ _ _ _ _ _ M).trans h) hkX12 (by decide +kernel) (sy_cs_cons (jeX12_allBest.deep (by decide)) (sy_cs_cons (jeX12_all.deep (by decide)) sy_cs_nil)) (sy_us_cons (jwX12_pairs_55 (jtX12_pairs_55 sy_F)) sy_us_nil)
def jfX12_pairs_18 (a1 : Int32) (M : sy_M) : sy_O :=
  jfX12_pairs_19 a1 0 M
set_option maxRecDepth 100000 in
theorem jrX12_pairs_18 (w2 : Value) (w3 : Value) (w4 : Value) (w5 : Value) (w6 : Value) (a1 : Int32) (M : sy_M) : sy_run skX12 qX12_pairs [(18, .iconst 0, 1, [true, true, false, false, false, false, false])] [] [(19, juX12_pairs_19 (jfX12_pairs_19))] 2 [] 18 [.ref 121, .int a1, w2, w3, w4, w5, w6] [.ref 121] M = jfX12_pairs_18 a1 M := rfl
theorem jtX12_pairs_18 : ∀ (w2 : Value) (w3 : Value) (w4 : Value) (w5 : Value) (w6 : Value) (a1 : Int32) (M : sy_M) (r : xe_R × sy_M), jfX12_pairs_18 a1 M = some r → sy_E (5) qX12_pairs 18 [.ref 121, .int a1, w2, w3, w4, w5, w6] [.ref 121] M r := by
  intro w2 w3 w4 w5 w6 a1 M r h
  exact sy_run_by (d := 4) ((jrX12_pairs_18 _ _ _ _ _ _ M).trans h) hkX12 (by decide +kernel) sy_cs_nil (sy_us_cons (jwX12_pairs_19 (jtX12_pairs_19)) sy_us_nil)
def jfX12_pairs (a1 : Int32) (M : sy_M) : sy_O :=
  if a1 = (-1) then
    jfX12_pairs_18 a1 M
  else
    sy_bi (jfX12_isLodger a1 M) fun v2 M1 =>
    if v2 = 0 then
      jfX12_pairs_19 a1 1 M1
    else
      jfX12_pairs_18 a1 M1
set_option maxRecDepth 100000 in
theorem jrX12_pairs (a1 : Int32) (M : sy_M) : sy_run skX12 qX12_pairs [(0, .aload_n 0, 1, []), (1, .iload_n 1, 1, []), (2, .iconst (-1), 1, []), (3, .if_icmp .eq 15, 3, []), (6, .aload_n 0, 1, []), (7, .iload_n 1, 1, []), (8, .invokevirtual 284, 3, []), (11, .ifCond .ne 7, 3, []), (14, .iconst 1, 1, []), (15, .goto 4, 3, [])] [(190, 0, jcX12_isLodger)] [(18, juX12_pairs_18 (jfX12_pairs_18)), (19, juX12_pairs_19 (jfX12_pairs_19))] 11 [] 0 [.ref 121, .int a1, xe_no, xe_no, xe_no, xe_no, xe_no] [] M = jfX12_pairs a1 M := rfl
theorem jtX12_pairs : ∀ (a1 : Int32) (M : sy_M) (r : xe_R × sy_M), jfX12_pairs a1 M = some r → sy_E (5) qX12_pairs 0 [.ref 121, .int a1, xe_no, xe_no, xe_no, xe_no, xe_no] [] M r := by
  intro a1 M r h
  exact sy_run_by (d := 4) ((jrX12_pairs _ M).trans h) hkX12 (by decide +kernel) (sy_cs_cons (jeX12_isLodger.deep (by decide)) sy_cs_nil) (sy_us_cons (jwX12_pairs_18 (jtX12_pairs_18)) (sy_us_cons (jwX12_pairs_19 (jtX12_pairs_19)) sy_us_nil))
def jcX12_pairs (as : List Value) (M : sy_M) (K : sy_O → sy_O) : sy_O := sy_xc 121 as fun l => sy_xi l fun a1 l => sy_xn l (K (jfX12_pairs a1 M))
theorem jeX12_pairs : sy_snd (5) 289 (jcX12_pairs) := by
  intro as M K r h
  obtain ⟨l, e, h1⟩ := sy_xc_ok h; subst e
  obtain ⟨a1, l, e, h2⟩ := sy_xi_ok h1; subst e
  obtain ⟨e, h3⟩ := sy_xn_ok h2; subst e
  exact ⟨_, h3, fun r1 h0 => ⟨qX12_pairs, rfl, rfl, jtX12_pairs _ M r1 h0⟩⟩
/-! X11_isKeeping StairMeter isKeeping (I)Z [('R', 0), 'I'] -/
def juX11_isKeeping_29 (k : Int32 → Int32 → sy_M → sy_O) (ls st : List Value) (M : sy_M) : sy_O := sy_xc 0 ls fun l => sy_xi l fun a1 l => sy_xi l fun a2 l => sy_xv l fun _ l => sy_xn l (sy_xn st (k a1 a2 M))
theorem jwX11_isKeeping_29 {d : Nat} {k : Int32 → Int32 → sy_M → sy_O} (hk : ∀ (w3 : Value) (a1 : Int32) (a2 : Int32) (M : sy_M) (r : xe_R × sy_M), k a1 a2 M = some r → sy_E (d) qX11_isKeeping 29 [.ref 0, .int a1, .int a2, w3] [] M r) : ∀ ls st M r, juX11_isKeeping_29 k ls st M = some r → sy_E d qX11_isKeeping 29 ls st M r := by
  intro ls st M r h
  obtain ⟨l, e, h1⟩ := sy_xc_ok h; subst e
  obtain ⟨a1, l, e, h2⟩ := sy_xi_ok h1; subst e
  obtain ⟨a2, l, e, h3⟩ := sy_xi_ok h2; subst e
  obtain ⟨w3, l, e, h4⟩ := sy_xv_ok h3; subst e
  obtain ⟨e, h5⟩ := sy_xn_ok h4; subst e
  obtain ⟨e, h6⟩ := sy_xn_ok h5; subst e
  exact hk _ a1 a2 M r h6
def juX11_isKeeping_2 (k : Int32 → Int32 → sy_M → sy_O) (ls st : List Value) (M : sy_M) : sy_O := sy_xc 0 ls fun l => sy_xi l fun a1 l => sy_xi l fun a2 l => sy_xv l fun _ l => sy_xn l (sy_xn st (k a1 a2 M))
theorem jwX11_isKeeping_2 {d : Nat} {k : Int32 → Int32 → sy_M → sy_O} (hk : ∀ (w3 : Value) (a1 : Int32) (a2 : Int32) (M : sy_M) (r : xe_R × sy_M), k a1 a2 M = some r → sy_E (d) qX11_isKeeping 2 [.ref 0, .int a1, .int a2, w3] [] M r) : ∀ ls st M r, juX11_isKeeping_2 k ls st M = some r → sy_E d qX11_isKeeping 2 ls st M r := by
  intro ls st M r h
  obtain ⟨l, e, h1⟩ := sy_xc_ok h; subst e
  obtain ⟨a1, l, e, h2⟩ := sy_xi_ok h1; subst e
  obtain ⟨a2, l, e, h3⟩ := sy_xi_ok h2; subst e
  obtain ⟨w3, l, e, h4⟩ := sy_xv_ok h3; subst e
  obtain ⟨e, h5⟩ := sy_xn_ok h4; subst e
  obtain ⟨e, h6⟩ := sy_xn_ok h5; subst e
  exact hk _ a1 a2 M r h6
def jfX11_isKeeping_29 (k2 : Int32 → Int32 → sy_M → sy_O) (a1 : Int32) (a2 : Int32) (M : sy_M) : sy_O :=
  let v1 := a2 + 1
  k2 a1 v1 M
set_option maxRecDepth 100000 in
theorem jrX11_isKeeping_29 (k2 : Int32 → Int32 → sy_M → sy_O) (w3 : Value) (a1 : Int32) (a2 : Int32) (M : sy_M) : sy_run skX11 qX11_isKeeping [(29, .iinc 2 1, 3, [true, true, true, false]), (32, .goto (-30), 3, [])] [] [(2, juX11_isKeeping_2 k2)] 3 [] 29 [.ref 0, .int a1, .int a2, w3] [] M = jfX11_isKeeping_29 k2 a1 a2 M := rfl
theorem jtX11_isKeeping_29 {k2 : Int32 → Int32 → sy_M → sy_O} (hk2 : ∀ (w3 : Value) (a1 : Int32) (a2 : Int32) (M : sy_M) (r : xe_R × sy_M), k2 a1 a2 M = some r → sy_E (2) qX11_isKeeping 2 [.ref 0, .int a1, .int a2, w3] [] M r) : ∀ (w3 : Value) (a1 : Int32) (a2 : Int32) (M : sy_M) (r : xe_R × sy_M), jfX11_isKeeping_29 k2 a1 a2 M = some r → sy_E (2) qX11_isKeeping 29 [.ref 0, .int a1, .int a2, w3] [] M r := by
  intro w3 a1 a2 M r h
  exact sy_run_by (d := 1) ((jrX11_isKeeping_29 _ _ _ _ M).trans h) hkX11 (by decide +kernel) sy_cs_nil (sy_us_cons (jwX11_isKeeping_2 hk2) sy_us_nil)
def jgX11_isKeeping_2 (k2 : Int32 → Int32 → sy_M → sy_O) (a1 : Int32) (a2 : Int32) (M : sy_M) : sy_O :=
  if a2 < 48 then
    sy_bi (jfX8_presentAt a2 M) fun v2 M1 =>
    if v2 = 0 then
      jfX11_isKeeping_29 k2 a1 a2 M1
    else
      if (v2 &&& a1) = 0 then
        sy_ri 0 M1
      else
        jfX11_isKeeping_29 k2 a1 a2 M1
  else
    sy_ri 1 M
def jfX11_isKeeping_2 : Nat → Int32 → Int32 → sy_M → sy_O
  | 0, _, _, _ => none
  | n + 1, a1, a2, M => jgX11_isKeeping_2 (jfX11_isKeeping_2 n) a1 a2 M
set_option maxRecDepth 100000 in
theorem jrX11_isKeeping_2 (k2 : Int32 → Int32 → sy_M → sy_O) (w3 : Value) (a1 : Int32) (a2 : Int32) (M : sy_M) : sy_run skX11 qX11_isKeeping [(2, .iload_n 2, 1, [true, true, true, false]), (3, .bipush 48, 2, []), (5, .if_icmp .ge 30, 3, []), (8, .aload_n 0, 1, []), (9, .getfield 75, 3, []), (12, .iload_n 2, 1, []), (13, .invokevirtual 245, 3, []), (16, .istore_n 3, 1, []), (17, .iload_n 3, 1, []), (18, .ifCond .eq 11, 3, []), (21, .iload_n 3, 1, []), (22, .iload_n 1, 1, []), (23, .iand, 1, []), (24, .ifCond .ne 5, 3, []), (27, .iconst 0, 1, []), (28, .ireturn, 1, []), (35, .iconst 1, 1, [false, false, false, false]), (36, .ireturn, 1, [])] [(64, 0, jcX8_presentAt)] [(29, juX11_isKeeping_29 (jfX11_isKeeping_29 k2))] 19 [] 2 [.ref 0, .int a1, .int a2, w3] [] M = jgX11_isKeeping_2 k2 a1 a2 M := rfl
theorem jtX11_isKeeping_2 : ∀ n : Nat, ∀ (w3 : Value) (a1 : Int32) (a2 : Int32) (M : sy_M) (r : xe_R × sy_M), jfX11_isKeeping_2 n a1 a2 M = some r → sy_E (2) qX11_isKeeping 2 [.ref 0, .int a1, .int a2, w3] [] M r := by
  intro n
  induction n with
  | zero => intro w3 a1 a2 M r h; exact absurd (show (none : sy_O) = some r from h) (by simp)
  | succ n ih => intro w3 a1 a2 M r h; exact sy_run_by (d := 1) ((jrX11_isKeeping_2 _ _ _ _ M).trans h) hkX11 (by decide +kernel) (sy_cs_cons (jeX8_presentAt.deep (by decide)) sy_cs_nil) (sy_us_cons (jwX11_isKeeping_29 (jtX11_isKeeping_29 ih)) sy_us_nil)
def jfX11_isKeeping (a1 : Int32) (M : sy_M) : sy_O :=
  jfX11_isKeeping_2 sy_F a1 0 M
set_option maxRecDepth 100000 in
theorem jrX11_isKeeping (a1 : Int32) (M : sy_M) : sy_run skX11 qX11_isKeeping [(0, .iconst 0, 1, []), (1, .istore_n 2, 1, [])] [] [(2, juX11_isKeeping_2 (jfX11_isKeeping_2 sy_F))] 3 [] 0 [.ref 0, .int a1, xe_no, xe_no] [] M = jfX11_isKeeping a1 M := rfl
theorem jtX11_isKeeping : ∀ (a1 : Int32) (M : sy_M) (r : xe_R × sy_M), jfX11_isKeeping a1 M = some r → sy_E (2) qX11_isKeeping 0 [.ref 0, .int a1, xe_no, xe_no] [] M r := by
  intro a1 M r h
  exact sy_run_by (d := 1) ((jrX11_isKeeping _ M).trans h) hkX11 (by decide +kernel) sy_cs_nil (sy_us_cons (jwX11_isKeeping_2 (jtX11_isKeeping_2 sy_F)) sy_us_nil)
def jcX11_isKeeping (as : List Value) (M : sy_M) (K : sy_O → sy_O) : sy_O := sy_xc 0 as fun l => sy_xi l fun a1 l => sy_xn l (K (jfX11_isKeeping a1 M))
theorem jeX11_isKeeping : sy_snd (2) 148 (jcX11_isKeeping) := by
  intro as M K r h
  obtain ⟨l, e, h1⟩ := sy_xc_ok h; subst e
  obtain ⟨a1, l, e, h2⟩ := sy_xi_ok h1; subst e
  obtain ⟨e, h3⟩ := sy_xn_ok h2; subst e
  exact ⟨_, h3, fun r1 h0 => ⟨qX11_isKeeping, rfl, rfl, jtX11_isKeeping _ M r1 h0⟩⟩
/-! X11_keepers StairMeter keepers ()I [('R', 0)] -/
def juX11_keepers_37 (k : Int32 → Int32 → sy_M → sy_O) (ls st : List Value) (M : sy_M) : sy_O := sy_xc 0 ls fun l => sy_xi l fun a1 l => sy_xi l fun a2 l => sy_xn l (sy_xn st (k a1 a2 M))
theorem jwX11_keepers_37 {d : Nat} {k : Int32 → Int32 → sy_M → sy_O} (hk : ∀ (a1 : Int32) (a2 : Int32) (M : sy_M) (r : xe_R × sy_M), k a1 a2 M = some r → sy_E (d) qX11_keepers 37 [.ref 0, .int a1, .int a2] [] M r) : ∀ ls st M r, juX11_keepers_37 k ls st M = some r → sy_E d qX11_keepers 37 ls st M r := by
  intro ls st M r h
  obtain ⟨l, e, h1⟩ := sy_xc_ok h; subst e
  obtain ⟨a1, l, e, h2⟩ := sy_xi_ok h1; subst e
  obtain ⟨a2, l, e, h3⟩ := sy_xi_ok h2; subst e
  obtain ⟨e, h4⟩ := sy_xn_ok h3; subst e
  obtain ⟨e, h5⟩ := sy_xn_ok h4; subst e
  exact hk a1 a2 M r h5
def juX11_keepers_15 (k : Int32 → Int32 → sy_M → sy_O) (ls st : List Value) (M : sy_M) : sy_O := sy_xc 0 ls fun l => sy_xi l fun a1 l => sy_xi l fun a2 l => sy_xn l (sy_xn st (k a1 a2 M))
theorem jwX11_keepers_15 {d : Nat} {k : Int32 → Int32 → sy_M → sy_O} (hk : ∀ (a1 : Int32) (a2 : Int32) (M : sy_M) (r : xe_R × sy_M), k a1 a2 M = some r → sy_E (d) qX11_keepers 15 [.ref 0, .int a1, .int a2] [] M r) : ∀ ls st M r, juX11_keepers_15 k ls st M = some r → sy_E d qX11_keepers 15 ls st M r := by
  intro ls st M r h
  obtain ⟨l, e, h1⟩ := sy_xc_ok h; subst e
  obtain ⟨a1, l, e, h2⟩ := sy_xi_ok h1; subst e
  obtain ⟨a2, l, e, h3⟩ := sy_xi_ok h2; subst e
  obtain ⟨e, h4⟩ := sy_xn_ok h3; subst e
  obtain ⟨e, h5⟩ := sy_xn_ok h4; subst e
  exact hk a1 a2 M r h5
def jfX11_keepers_37 (k15 : Int32 → Int32 → sy_M → sy_O) (a1 : Int32) (a2 : Int32) (M : sy_M) : sy_O :=
  let v1 := a2 + 1
  k15 a1 v1 M
set_option maxRecDepth 100000 in
theorem jrX11_keepers_37 (k15 : Int32 → Int32 → sy_M → sy_O) (a1 : Int32) (a2 : Int32) (M : sy_M) : sy_run skX11 qX11_keepers [(37, .iinc 2 1, 3, []), (40, .goto (-25), 3, [])] [] [(15, juX11_keepers_15 k15)] 3 [] 37 [.ref 0, .int a1, .int a2] [] M = jfX11_keepers_37 k15 a1 a2 M := rfl
theorem jtX11_keepers_37 {k15 : Int32 → Int32 → sy_M → sy_O} (hk15 : ∀ (a1 : Int32) (a2 : Int32) (M : sy_M) (r : xe_R × sy_M), k15 a1 a2 M = some r → sy_E (4) qX11_keepers 15 [.ref 0, .int a1, .int a2] [] M r) : ∀ (a1 : Int32) (a2 : Int32) (M : sy_M) (r : xe_R × sy_M), jfX11_keepers_37 k15 a1 a2 M = some r → sy_E (4) qX11_keepers 37 [.ref 0, .int a1, .int a2] [] M r := by
  intro a1 a2 M r h
  exact sy_run_by (d := 3) ((jrX11_keepers_37 _ _ _ M).trans h) hkX11 (by decide +kernel) sy_cs_nil (sy_us_cons (jwX11_keepers_15 hk15) sy_us_nil)
def jgX11_keepers_15 (k15 : Int32 → Int32 → sy_M → sy_O) (a1 : Int32) (a2 : Int32) (M : sy_M) : sy_O :=
  sy_bi (jfX11_everybody M) fun v2 M1 =>
  if v2 < a2 then
    sy_ri a1 M1
  else
    sy_bi (jfX11_isKeeping a2 M1) fun v4 M3 =>
    if v4 = 0 then
      jfX11_keepers_37 k15 a1 a2 M3
    else
      sy_bi (jfX11_fewer a1 a2 M3) fun v6 M5 =>
      jfX11_keepers_37 k15 v6 a2 M5
def jfX11_keepers_15 : Nat → Int32 → Int32 → sy_M → sy_O
  | 0, _, _, _ => none
  | n + 1, a1, a2, M => jgX11_keepers_15 (jfX11_keepers_15 n) a1 a2 M
set_option maxRecDepth 100000 in
theorem jrX11_keepers_15 (k15 : Int32 → Int32 → sy_M → sy_O) (a1 : Int32) (a2 : Int32) (M : sy_M) : sy_run skX11 qX11_keepers [(15, .iload_n 2, 1, []), (16, .aload_n 0, 1, []), (17, .invokevirtual 318, 3, []), (20, .if_icmp .gt 23, 3, []), (23, .aload_n 0, 1, []), (24, .iload_n 2, 1, []), (25, .invokevirtual 374, 3, []), (28, .ifCond .eq 9, 3, []), (31, .iload_n 1, 1, []), (32, .iload_n 2, 1, []), (33, .invokestatic 351, 3, []), (36, .istore_n 1, 1, []), (43, .iload_n 1, 1, [false, true, false]), (44, .ireturn, 1, [])] [(175, 0, jcX11_everybody), (148, 0, jcX11_isKeeping), (145, 0, jcX11_fewer)] [(37, juX11_keepers_37 (jfX11_keepers_37 k15))] 15 [] 15 [.ref 0, .int a1, .int a2] [] M = jgX11_keepers_15 k15 a1 a2 M := rfl
theorem jtX11_keepers_15 : ∀ n : Nat, ∀ (a1 : Int32) (a2 : Int32) (M : sy_M) (r : xe_R × sy_M), jfX11_keepers_15 n a1 a2 M = some r → sy_E (4) qX11_keepers 15 [.ref 0, .int a1, .int a2] [] M r := by
  intro n
  induction n with
  | zero => intro a1 a2 M r h; exact absurd (show (none : sy_O) = some r from h) (by simp)
  | succ n ih => intro a1 a2 M r h; exact sy_run_by (d := 3) ((jrX11_keepers_15 _ _ _ M).trans h) hkX11 (by decide +kernel) (sy_cs_cons (jeX11_everybody.deep (by decide)) (sy_cs_cons (jeX11_isKeeping.deep (by decide)) (sy_cs_cons (jeX11_fewer.deep (by decide)) sy_cs_nil))) (sy_us_cons (jwX11_keepers_37 (jtX11_keepers_37 ih)) sy_us_nil)
def jfX11_keepers (M : sy_M) : sy_O :=
  sy_bv (jfX8_learn 9 M) fun M1 =>
  jfX11_keepers_15 sy_F (-1) 0 M1
set_option maxRecDepth 100000 in
theorem jrX11_keepers (M : sy_M) : sy_run skX11 qX11_keepers [(0, .aload_n 0, 1, []), (1, .getfield 75, 3, []), (4, .aload_n 0, 1, []), (5, .getfield 28, 3, []), (8, .invokevirtual 181, 3, []), (11, .iconst (-1), 1, []), (12, .istore_n 1, 1, []), (13, .iconst 0, 1, []), (14, .istore_n 2, 1, [])] [(63, 1, jcX8_learn)] [(15, juX11_keepers_15 (jfX11_keepers_15 sy_F))] 10 [] 0 [.ref 0, xe_no, xe_no] [] M = jfX11_keepers M := rfl
theorem jtX11_keepers : ∀ (M : sy_M) (r : xe_R × sy_M), jfX11_keepers M = some r → sy_E (4) qX11_keepers 0 [.ref 0, xe_no, xe_no] [] M r := by
  intro  M r h
  exact sy_run_by (d := 3) ((jrX11_keepers M).trans h) hkX11 (by decide +kernel) (sy_cs_cons (jeX8_learn.deep (by decide)) sy_cs_nil) (sy_us_cons (jwX11_keepers_15 (jtX11_keepers_15 sy_F)) sy_us_nil)
def jcX11_keepers (as : List Value) (M : sy_M) (K : sy_O → sy_O) : sy_O := sy_xc 0 as fun l => sy_xn l (K (jfX11_keepers M))
theorem jeX11_keepers : sy_snd (4) 147 (jcX11_keepers) := by
  intro as M K r h
  obtain ⟨l, e, h1⟩ := sy_xc_ok h; subst e
  obtain ⟨e, h2⟩ := sy_xn_ok h1; subst e
  exact ⟨_, h2, fun r1 h0 => ⟨qX11_keepers, rfl, rfl, jtX11_keepers  M r1 h0⟩⟩
/-! X12_keepers StairMeterModel keepers ()I [('R', 121)] -/
def juX12_keepers_91 (k : Int32 → Int32 → sy_M → sy_O) (ls st : List Value) (M : sy_M) : sy_O := sy_xc 121 ls fun l => sy_xi l fun a1 l => sy_xi l fun a2 l => sy_xv l fun _ l => sy_xv l fun _ l => sy_xn l (sy_xn st (k a1 a2 M))
theorem jwX12_keepers_91 {d : Nat} {k : Int32 → Int32 → sy_M → sy_O} (hk : ∀ (w3 : Value) (w4 : Value) (a1 : Int32) (a2 : Int32) (M : sy_M) (r : xe_R × sy_M), k a1 a2 M = some r → sy_E (d) qX12_keepers 91 [.ref 121, .int a1, .int a2, w3, w4] [] M r) : ∀ ls st M r, juX12_keepers_91 k ls st M = some r → sy_E d qX12_keepers 91 ls st M r := by
  intro ls st M r h
  obtain ⟨l, e, h1⟩ := sy_xc_ok h; subst e
  obtain ⟨a1, l, e, h2⟩ := sy_xi_ok h1; subst e
  obtain ⟨a2, l, e, h3⟩ := sy_xi_ok h2; subst e
  obtain ⟨w3, l, e, h4⟩ := sy_xv_ok h3; subst e
  obtain ⟨w4, l, e, h5⟩ := sy_xv_ok h4; subst e
  obtain ⟨e, h6⟩ := sy_xn_ok h5; subst e
  obtain ⟨e, h7⟩ := sy_xn_ok h6; subst e
  exact hk _ _ a1 a2 M r h7
def juX12_keepers_85 (k : Int32 → Int32 → Int32 → sy_M → sy_O) (ls st : List Value) (M : sy_M) : sy_O := sy_xc 121 ls fun l => sy_xi l fun a1 l => sy_xi l fun a2 l => sy_xi l fun a3 l => sy_xv l fun _ l => sy_xn l (sy_xn st (k a1 a2 a3 M))
theorem jwX12_keepers_85 {d : Nat} {k : Int32 → Int32 → Int32 → sy_M → sy_O} (hk : ∀ (w4 : Value) (a1 : Int32) (a2 : Int32) (a3 : Int32) (M : sy_M) (r : xe_R × sy_M), k a1 a2 a3 M = some r → sy_E (d) qX12_keepers 85 [.ref 121, .int a1, .int a2, .int a3, w4] [] M r) : ∀ ls st M r, juX12_keepers_85 k ls st M = some r → sy_E d qX12_keepers 85 ls st M r := by
  intro ls st M r h
  obtain ⟨l, e, h1⟩ := sy_xc_ok h; subst e
  obtain ⟨a1, l, e, h2⟩ := sy_xi_ok h1; subst e
  obtain ⟨a2, l, e, h3⟩ := sy_xi_ok h2; subst e
  obtain ⟨a3, l, e, h4⟩ := sy_xi_ok h3; subst e
  obtain ⟨w4, l, e, h5⟩ := sy_xv_ok h4; subst e
  obtain ⟨e, h6⟩ := sy_xn_ok h5; subst e
  obtain ⟨e, h7⟩ := sy_xn_ok h6; subst e
  exact hk _ a1 a2 a3 M r h7
def juX12_keepers_78 (k : Int32 → Int32 → Int32 → Int32 → sy_M → sy_O) (ls st : List Value) (M : sy_M) : sy_O := sy_xc 121 ls fun l => sy_xi l fun a1 l => sy_xi l fun a2 l => sy_xv l fun _ l => sy_xi l fun a4 l => sy_xn l (sy_xi st fun s0 l => sy_xn l (k a1 a2 a4 s0 M))
theorem jwX12_keepers_78 {d : Nat} {k : Int32 → Int32 → Int32 → Int32 → sy_M → sy_O} (hk : ∀ (w3 : Value) (a1 : Int32) (a2 : Int32) (a4 : Int32) (s0 : Int32) (M : sy_M) (r : xe_R × sy_M), k a1 a2 a4 s0 M = some r → sy_E (d) qX12_keepers 78 [.ref 121, .int a1, .int a2, w3, .int a4] [.int s0] M r) : ∀ ls st M r, juX12_keepers_78 k ls st M = some r → sy_E d qX12_keepers 78 ls st M r := by
  intro ls st M r h
  obtain ⟨l, e, h1⟩ := sy_xc_ok h; subst e
  obtain ⟨a1, l, e, h2⟩ := sy_xi_ok h1; subst e
  obtain ⟨a2, l, e, h3⟩ := sy_xi_ok h2; subst e
  obtain ⟨w3, l, e, h4⟩ := sy_xv_ok h3; subst e
  obtain ⟨a4, l, e, h5⟩ := sy_xi_ok h4; subst e
  obtain ⟨e, h6⟩ := sy_xn_ok h5; subst e
  obtain ⟨s0, l, e, h7⟩ := sy_xi_ok h6; subst e
  obtain ⟨e, h8⟩ := sy_xn_ok h7; subst e
  exact hk _ a1 a2 a4 s0 M r h8
def juX12_keepers_73 (k : Int32 → Int32 → Int32 → sy_M → sy_O) (ls st : List Value) (M : sy_M) : sy_O := sy_xc 121 ls fun l => sy_xi l fun a1 l => sy_xi l fun a2 l => sy_xv l fun _ l => sy_xi l fun a4 l => sy_xn l (sy_xn st (k a1 a2 a4 M))
theorem jwX12_keepers_73 {d : Nat} {k : Int32 → Int32 → Int32 → sy_M → sy_O} (hk : ∀ (w3 : Value) (a1 : Int32) (a2 : Int32) (a4 : Int32) (M : sy_M) (r : xe_R × sy_M), k a1 a2 a4 M = some r → sy_E (d) qX12_keepers 73 [.ref 121, .int a1, .int a2, w3, .int a4] [] M r) : ∀ ls st M r, juX12_keepers_73 k ls st M = some r → sy_E d qX12_keepers 73 ls st M r := by
  intro ls st M r h
  obtain ⟨l, e, h1⟩ := sy_xc_ok h; subst e
  obtain ⟨a1, l, e, h2⟩ := sy_xi_ok h1; subst e
  obtain ⟨a2, l, e, h3⟩ := sy_xi_ok h2; subst e
  obtain ⟨w3, l, e, h4⟩ := sy_xv_ok h3; subst e
  obtain ⟨a4, l, e, h5⟩ := sy_xi_ok h4; subst e
  obtain ⟨e, h6⟩ := sy_xn_ok h5; subst e
  obtain ⟨e, h7⟩ := sy_xn_ok h6; subst e
  exact hk _ a1 a2 a4 M r h7
def juX12_keepers_42 (k : Int32 → Int32 → Int32 → Int32 → sy_M → sy_O) (ls st : List Value) (M : sy_M) : sy_O := sy_xc 121 ls fun l => sy_xi l fun a1 l => sy_xi l fun a2 l => sy_xi l fun a3 l => sy_xi l fun a4 l => sy_xn l (sy_xn st (k a1 a2 a3 a4 M))
theorem jwX12_keepers_42 {d : Nat} {k : Int32 → Int32 → Int32 → Int32 → sy_M → sy_O} (hk : ∀ (a1 : Int32) (a2 : Int32) (a3 : Int32) (a4 : Int32) (M : sy_M) (r : xe_R × sy_M), k a1 a2 a3 a4 M = some r → sy_E (d) qX12_keepers 42 [.ref 121, .int a1, .int a2, .int a3, .int a4] [] M r) : ∀ ls st M r, juX12_keepers_42 k ls st M = some r → sy_E d qX12_keepers 42 ls st M r := by
  intro ls st M r h
  obtain ⟨l, e, h1⟩ := sy_xc_ok h; subst e
  obtain ⟨a1, l, e, h2⟩ := sy_xi_ok h1; subst e
  obtain ⟨a2, l, e, h3⟩ := sy_xi_ok h2; subst e
  obtain ⟨a3, l, e, h4⟩ := sy_xi_ok h3; subst e
  obtain ⟨a4, l, e, h5⟩ := sy_xi_ok h4; subst e
  obtain ⟨e, h6⟩ := sy_xn_ok h5; subst e
  obtain ⟨e, h7⟩ := sy_xn_ok h6; subst e
  exact hk a1 a2 a3 a4 M r h7
def juX12_keepers_38 (k : Int32 → Int32 → Int32 → sy_M → sy_O) (ls st : List Value) (M : sy_M) : sy_O := sy_xc 121 ls fun l => sy_xi l fun a1 l => sy_xi l fun a2 l => sy_xv l fun _ l => sy_xv l fun _ l => sy_xn l (sy_xi st fun s0 l => sy_xn l (k a1 a2 s0 M))
theorem jwX12_keepers_38 {d : Nat} {k : Int32 → Int32 → Int32 → sy_M → sy_O} (hk : ∀ (w3 : Value) (w4 : Value) (a1 : Int32) (a2 : Int32) (s0 : Int32) (M : sy_M) (r : xe_R × sy_M), k a1 a2 s0 M = some r → sy_E (d) qX12_keepers 38 [.ref 121, .int a1, .int a2, w3, w4] [.int s0] M r) : ∀ ls st M r, juX12_keepers_38 k ls st M = some r → sy_E d qX12_keepers 38 ls st M r := by
  intro ls st M r h
  obtain ⟨l, e, h1⟩ := sy_xc_ok h; subst e
  obtain ⟨a1, l, e, h2⟩ := sy_xi_ok h1; subst e
  obtain ⟨a2, l, e, h3⟩ := sy_xi_ok h2; subst e
  obtain ⟨w3, l, e, h4⟩ := sy_xv_ok h3; subst e
  obtain ⟨w4, l, e, h5⟩ := sy_xv_ok h4; subst e
  obtain ⟨e, h6⟩ := sy_xn_ok h5; subst e
  obtain ⟨s0, l, e, h7⟩ := sy_xi_ok h6; subst e
  obtain ⟨e, h8⟩ := sy_xn_ok h7; subst e
  exact hk _ _ a1 a2 s0 M r h8
def juX12_keepers_33 (k : Int32 → Int32 → sy_M → sy_O) (ls st : List Value) (M : sy_M) : sy_O := sy_xc 121 ls fun l => sy_xi l fun a1 l => sy_xi l fun a2 l => sy_xv l fun _ l => sy_xv l fun _ l => sy_xn l (sy_xn st (k a1 a2 M))
theorem jwX12_keepers_33 {d : Nat} {k : Int32 → Int32 → sy_M → sy_O} (hk : ∀ (w3 : Value) (w4 : Value) (a1 : Int32) (a2 : Int32) (M : sy_M) (r : xe_R × sy_M), k a1 a2 M = some r → sy_E (d) qX12_keepers 33 [.ref 121, .int a1, .int a2, w3, w4] [] M r) : ∀ ls st M r, juX12_keepers_33 k ls st M = some r → sy_E d qX12_keepers 33 ls st M r := by
  intro ls st M r h
  obtain ⟨l, e, h1⟩ := sy_xc_ok h; subst e
  obtain ⟨a1, l, e, h2⟩ := sy_xi_ok h1; subst e
  obtain ⟨a2, l, e, h3⟩ := sy_xi_ok h2; subst e
  obtain ⟨w3, l, e, h4⟩ := sy_xv_ok h3; subst e
  obtain ⟨w4, l, e, h5⟩ := sy_xv_ok h4; subst e
  obtain ⟨e, h6⟩ := sy_xn_ok h5; subst e
  obtain ⟨e, h7⟩ := sy_xn_ok h6; subst e
  exact hk _ _ a1 a2 M r h7
def juX12_keepers_9 (k : Int32 → Int32 → sy_M → sy_O) (ls st : List Value) (M : sy_M) : sy_O := sy_xc 121 ls fun l => sy_xi l fun a1 l => sy_xi l fun a2 l => sy_xv l fun _ l => sy_xv l fun _ l => sy_xn l (sy_xn st (k a1 a2 M))
theorem jwX12_keepers_9 {d : Nat} {k : Int32 → Int32 → sy_M → sy_O} (hk : ∀ (w3 : Value) (w4 : Value) (a1 : Int32) (a2 : Int32) (M : sy_M) (r : xe_R × sy_M), k a1 a2 M = some r → sy_E (d) qX12_keepers 9 [.ref 121, .int a1, .int a2, w3, w4] [] M r) : ∀ ls st M r, juX12_keepers_9 k ls st M = some r → sy_E d qX12_keepers 9 ls st M r := by
  intro ls st M r h
  obtain ⟨l, e, h1⟩ := sy_xc_ok h; subst e
  obtain ⟨a1, l, e, h2⟩ := sy_xi_ok h1; subst e
  obtain ⟨a2, l, e, h3⟩ := sy_xi_ok h2; subst e
  obtain ⟨w3, l, e, h4⟩ := sy_xv_ok h3; subst e
  obtain ⟨w4, l, e, h5⟩ := sy_xv_ok h4; subst e
  obtain ⟨e, h6⟩ := sy_xn_ok h5; subst e
  obtain ⟨e, h7⟩ := sy_xn_ok h6; subst e
  exact hk _ _ a1 a2 M r h7
def jfX12_keepers_91 (k9 : Int32 → Int32 → sy_M → sy_O) (a1 : Int32) (a2 : Int32) (M : sy_M) : sy_O :=
  let v1 := a2 + 1
  k9 a1 v1 M
set_option maxRecDepth 100000 in
theorem jrX12_keepers_91 (k9 : Int32 → Int32 → sy_M → sy_O) (w3 : Value) (w4 : Value) (a1 : Int32) (a2 : Int32) (M : sy_M) : sy_run skX12 qX12_keepers [(91, .iinc 2 1, 3, [true, true, true, false, false]), (94, .goto (-85), 3, [])] [] [(9, juX12_keepers_9 k9)] 3 [] 91 [.ref 121, .int a1, .int a2, w3, w4] [] M = jfX12_keepers_91 k9 a1 a2 M := rfl
theorem jtX12_keepers_91 {k9 : Int32 → Int32 → sy_M → sy_O} (hk9 : ∀ (w3 : Value) (w4 : Value) (a1 : Int32) (a2 : Int32) (M : sy_M) (r : xe_R × sy_M), k9 a1 a2 M = some r → sy_E (4) qX12_keepers 9 [.ref 121, .int a1, .int a2, w3, w4] [] M r) : ∀ (w3 : Value) (w4 : Value) (a1 : Int32) (a2 : Int32) (M : sy_M) (r : xe_R × sy_M), jfX12_keepers_91 k9 a1 a2 M = some r → sy_E (4) qX12_keepers 91 [.ref 121, .int a1, .int a2, w3, w4] [] M r := by
  intro w3 w4 a1 a2 M r h
  exact sy_run_by (d := 3) ((jrX12_keepers_91 _ _ _ _ _ M).trans h) hkX12 (by decide +kernel) sy_cs_nil (sy_us_cons (jwX12_keepers_9 hk9) sy_us_nil)
def jfX12_keepers_85 (k9 : Int32 → Int32 → sy_M → sy_O) (a1 : Int32) (a2 : Int32) (a3 : Int32) (M : sy_M) : sy_O :=
  if a3 = 0 then
    jfX12_keepers_91 k9 a1 a2 M
  else
    jfX12_keepers_91 k9 a2 a2 M
set_option maxRecDepth 100000 in
theorem jrX12_keepers_85 (k9 : Int32 → Int32 → sy_M → sy_O) (w4 : Value) (a1 : Int32) (a2 : Int32) (a3 : Int32) (M : sy_M) : sy_run skX12 qX12_keepers [(85, .iload_n 3, 1, [true, true, true, true, false]), (86, .ifCond .eq 5, 3, []), (89, .iload_n 2, 1, []), (90, .istore_n 1, 1, [])] [] [(91, juX12_keepers_91 (jfX12_keepers_91 k9))] 5 [] 85 [.ref 121, .int a1, .int a2, .int a3, w4] [] M = jfX12_keepers_85 k9 a1 a2 a3 M := rfl
theorem jtX12_keepers_85 {k9 : Int32 → Int32 → sy_M → sy_O} (hk9 : ∀ (w3 : Value) (w4 : Value) (a1 : Int32) (a2 : Int32) (M : sy_M) (r : xe_R × sy_M), k9 a1 a2 M = some r → sy_E (4) qX12_keepers 9 [.ref 121, .int a1, .int a2, w3, w4] [] M r) : ∀ (w4 : Value) (a1 : Int32) (a2 : Int32) (a3 : Int32) (M : sy_M) (r : xe_R × sy_M), jfX12_keepers_85 k9 a1 a2 a3 M = some r → sy_E (4) qX12_keepers 85 [.ref 121, .int a1, .int a2, .int a3, w4] [] M r := by
  intro w4 a1 a2 a3 M r h
  exact sy_run_by (d := 3) ((jrX12_keepers_85 _ _ _ _ _ M).trans h) hkX12 (by decide +kernel) sy_cs_nil (sy_us_cons (jwX12_keepers_91 (jtX12_keepers_91 hk9)) sy_us_nil)
def jfX12_keepers_78 (k9 : Int32 → Int32 → sy_M → sy_O) (k42 : Int32 → Int32 → Int32 → Int32 → sy_M → sy_O) (a1 : Int32) (a2 : Int32) (a4 : Int32) (s0 : Int32) (M : sy_M) : sy_O :=
  let v1 := a4 + 1
  k42 a1 a2 s0 v1 M
set_option maxRecDepth 100000 in
theorem jrX12_keepers_78 (k9 : Int32 → Int32 → sy_M → sy_O) (k42 : Int32 → Int32 → Int32 → Int32 → sy_M → sy_O) (w3 : Value) (a1 : Int32) (a2 : Int32) (a4 : Int32) (s0 : Int32) (M : sy_M) : sy_run skX12 qX12_keepers [(78, .istore_n 3, 1, [true, true, true, false, true]), (79, .iinc 4 1, 3, []), (82, .goto (-40), 3, [])] [] [(42, juX12_keepers_42 k42)] 4 [] 78 [.ref 121, .int a1, .int a2, w3, .int a4] [.int s0] M = jfX12_keepers_78 k9 k42 a1 a2 a4 s0 M := rfl
theorem jtX12_keepers_78 {k9 : Int32 → Int32 → sy_M → sy_O} (hk9 : ∀ (w3 : Value) (w4 : Value) (a1 : Int32) (a2 : Int32) (M : sy_M) (r : xe_R × sy_M), k9 a1 a2 M = some r → sy_E (4) qX12_keepers 9 [.ref 121, .int a1, .int a2, w3, w4] [] M r) {k42 : Int32 → Int32 → Int32 → Int32 → sy_M → sy_O} (hk42 : ∀ (a1 : Int32) (a2 : Int32) (a3 : Int32) (a4 : Int32) (M : sy_M) (r : xe_R × sy_M), k42 a1 a2 a3 a4 M = some r → sy_E (4) qX12_keepers 42 [.ref 121, .int a1, .int a2, .int a3, .int a4] [] M r) : ∀ (w3 : Value) (a1 : Int32) (a2 : Int32) (a4 : Int32) (s0 : Int32) (M : sy_M) (r : xe_R × sy_M), jfX12_keepers_78 k9 k42 a1 a2 a4 s0 M = some r → sy_E (4) qX12_keepers 78 [.ref 121, .int a1, .int a2, w3, .int a4] [.int s0] M r := by
  intro w3 a1 a2 a4 s0 M r h
  exact sy_run_by (d := 3) ((jrX12_keepers_78 _ _ _ _ _ _ _ M).trans h) hkX12 (by decide +kernel) sy_cs_nil (sy_us_cons (jwX12_keepers_42 hk42) sy_us_nil)
def jfX12_keepers_73 (k9 : Int32 → Int32 → sy_M → sy_O) (k42 : Int32 → Int32 → Int32 → Int32 → sy_M → sy_O) (a1 : Int32) (a2 : Int32) (a4 : Int32) (M : sy_M) : sy_O :=
  jfX12_keepers_78 k9 k42 a1 a2 a4 1 M
set_option maxRecDepth 100000 in
theorem jrX12_keepers_73 (k9 : Int32 → Int32 → sy_M → sy_O) (k42 : Int32 → Int32 → Int32 → Int32 → sy_M → sy_O) (w3 : Value) (a1 : Int32) (a2 : Int32) (a4 : Int32) (M : sy_M) : sy_run skX12 qX12_keepers [(73, .iconst 1, 1, [true, true, true, false, true]), (74, .goto 4, 3, [])] [] [(78, juX12_keepers_78 (jfX12_keepers_78 k9 k42))] 3 [] 73 [.ref 121, .int a1, .int a2, w3, .int a4] [] M = jfX12_keepers_73 k9 k42 a1 a2 a4 M := rfl
theorem jtX12_keepers_73 {k9 : Int32 → Int32 → sy_M → sy_O} (hk9 : ∀ (w3 : Value) (w4 : Value) (a1 : Int32) (a2 : Int32) (M : sy_M) (r : xe_R × sy_M), k9 a1 a2 M = some r → sy_E (4) qX12_keepers 9 [.ref 121, .int a1, .int a2, w3, w4] [] M r) {k42 : Int32 → Int32 → Int32 → Int32 → sy_M → sy_O} (hk42 : ∀ (a1 : Int32) (a2 : Int32) (a3 : Int32) (a4 : Int32) (M : sy_M) (r : xe_R × sy_M), k42 a1 a2 a3 a4 M = some r → sy_E (4) qX12_keepers 42 [.ref 121, .int a1, .int a2, .int a3, .int a4] [] M r) : ∀ (w3 : Value) (a1 : Int32) (a2 : Int32) (a4 : Int32) (M : sy_M) (r : xe_R × sy_M), jfX12_keepers_73 k9 k42 a1 a2 a4 M = some r → sy_E (4) qX12_keepers 73 [.ref 121, .int a1, .int a2, w3, .int a4] [] M r := by
  intro w3 a1 a2 a4 M r h
  exact sy_run_by (d := 3) ((jrX12_keepers_73 _ _ _ _ _ _ M).trans h) hkX12 (by decide +kernel) sy_cs_nil (sy_us_cons (jwX12_keepers_78 (jtX12_keepers_78 hk9 hk42)) sy_us_nil)
def jgX12_keepers_42 (k9 : Int32 → Int32 → sy_M → sy_O) (k42 : Int32 → Int32 → Int32 → Int32 → sy_M → sy_O) (a1 : Int32) (a2 : Int32) (a3 : Int32) (a4 : Int32) (M : sy_M) : sy_O :=
  if a4 < 48 then
    if a3 = 0 then
      jfX12_keepers_85 k9 a1 a2 a3 M
    else
      sy_bi (jfX12_homeIn a4 M) fun v2 M1 =>
      if v2 = 0 then
        jfX12_keepers_73 k9 k42 a1 a2 a4 M1
      else
        sy_bi (jfX12_homeIn a4 M1) fun v4 M3 =>
        if (v4 &&& a2) = 0 then
          jfX12_keepers_78 k9 k42 a1 a2 a4 0 M3
        else
          jfX12_keepers_73 k9 k42 a1 a2 a4 M3
  else
    jfX12_keepers_85 k9 a1 a2 a3 M
def jfX12_keepers_42 (k9 : Int32 → Int32 → sy_M → sy_O) : Nat → Int32 → Int32 → Int32 → Int32 → sy_M → sy_O
  | 0, _, _, _, _, _ => none
  | n + 1, a1, a2, a3, a4, M => jgX12_keepers_42 k9 (jfX12_keepers_42 k9 n) a1 a2 a3 a4 M
set_option maxRecDepth 100000 in
theorem jrX12_keepers_42 (k9 : Int32 → Int32 → sy_M → sy_O) (k42 : Int32 → Int32 → Int32 → Int32 → sy_M → sy_O) (a1 : Int32) (a2 : Int32) (a3 : Int32) (a4 : Int32) (M : sy_M) : sy_run skX12 qX12_keepers [(42, .iload 4, 2, []), (44, .bipush 48, 2, []), (46, .if_icmp .ge 39, 3, []), (49, .iload_n 3, 1, []), (50, .ifCond .eq 35, 3, []), (53, .aload_n 0, 1, []), (54, .iload 4, 2, []), (56, .invokevirtual 63, 3, []), (59, .ifCond .eq 14, 3, []), (62, .aload_n 0, 1, []), (63, .iload 4, 2, []), (65, .invokevirtual 63, 3, []), (68, .iload_n 2, 1, []), (69, .iand, 1, []), (70, .ifCond .eq 7, 3, []), (77, .iconst 0, 1, [true, true, true, false, true])] [(193, 0, jcX12_homeIn)] [(85, juX12_keepers_85 (jfX12_keepers_85 k9)), (73, juX12_keepers_73 (jfX12_keepers_73 k9 k42)), (78, juX12_keepers_78 (jfX12_keepers_78 k9 k42))] 17 [] 42 [.ref 121, .int a1, .int a2, .int a3, .int a4] [] M = jgX12_keepers_42 k9 k42 a1 a2 a3 a4 M := rfl
theorem jtX12_keepers_42 {k9 : Int32 → Int32 → sy_M → sy_O} (hk9 : ∀ (w3 : Value) (w4 : Value) (a1 : Int32) (a2 : Int32) (M : sy_M) (r : xe_R × sy_M), k9 a1 a2 M = some r → sy_E (4) qX12_keepers 9 [.ref 121, .int a1, .int a2, w3, w4] [] M r) : ∀ n : Nat, ∀ (a1 : Int32) (a2 : Int32) (a3 : Int32) (a4 : Int32) (M : sy_M) (r : xe_R × sy_M), jfX12_keepers_42 k9 n a1 a2 a3 a4 M = some r → sy_E (4) qX12_keepers 42 [.ref 121, .int a1, .int a2, .int a3, .int a4] [] M r := by
  intro n
  induction n with
  | zero => intro a1 a2 a3 a4 M r h; exact absurd (show (none : sy_O) = some r from h) (by simp)
  | succ n ih => intro a1 a2 a3 a4 M r h; exact sy_run_by (d := 3) ((jrX12_keepers_42 _ _ _ _ _ _ M).trans h) hkX12 (by decide +kernel) (sy_cs_cons (jeX12_homeIn.deep (by decide)) sy_cs_nil) (sy_us_cons (jwX12_keepers_85 (jtX12_keepers_85 hk9)) (sy_us_cons (jwX12_keepers_73 (jtX12_keepers_73 hk9 ih)) (sy_us_cons (jwX12_keepers_78 (jtX12_keepers_78 hk9 ih)) sy_us_nil)))
def jfX12_keepers_38 (k9 : Int32 → Int32 → sy_M → sy_O) (a1 : Int32) (a2 : Int32) (s0 : Int32) (M : sy_M) : sy_O :=
  jfX12_keepers_42 k9 sy_F a1 a2 s0 0 M
set_option maxRecDepth 100000 in
theorem jrX12_keepers_38 (k9 : Int32 → Int32 → sy_M → sy_O) (w3 : Value) (w4 : Value) (a1 : Int32) (a2 : Int32) (s0 : Int32) (M : sy_M) : sy_run skX12 qX12_keepers [(38, .istore_n 3, 1, [true, true, true, false, false]), (39, .iconst 0, 1, []), (40, .istore 4, 2, [])] [] [(42, juX12_keepers_42 (jfX12_keepers_42 k9 sy_F))] 4 [] 38 [.ref 121, .int a1, .int a2, w3, w4] [.int s0] M = jfX12_keepers_38 k9 a1 a2 s0 M := rfl
theorem jtX12_keepers_38 {k9 : Int32 → Int32 → sy_M → sy_O} (hk9 : ∀ (w3 : Value) (w4 : Value) (a1 : Int32) (a2 : Int32) (M : sy_M) (r : xe_R × sy_M), k9 a1 a2 M = some r → sy_E (4) qX12_keepers 9 [.ref 121, .int a1, .int a2, w3, w4] [] M r) : ∀ (w3 : Value) (w4 : Value) (a1 : Int32) (a2 : Int32) (s0 : Int32) (M : sy_M) (r : xe_R × sy_M), jfX12_keepers_38 k9 a1 a2 s0 M = some r → sy_E (4) qX12_keepers 38 [.ref 121, .int a1, .int a2, w3, w4] [.int s0] M r := by
  intro w3 w4 a1 a2 s0 M r h
  exact sy_run_by (d := 3) ((jrX12_keepers_38 _ _ _ _ _ _ M).trans h) hkX12 (by decide +kernel) sy_cs_nil (sy_us_cons (jwX12_keepers_42 (jtX12_keepers_42 hk9 sy_F)) sy_us_nil)
def jfX12_keepers_33 (k9 : Int32 → Int32 → sy_M → sy_O) (a1 : Int32) (a2 : Int32) (M : sy_M) : sy_O :=
  jfX12_keepers_38 k9 a1 a2 1 M
set_option maxRecDepth 100000 in
theorem jrX12_keepers_33 (k9 : Int32 → Int32 → sy_M → sy_O) (w3 : Value) (w4 : Value) (a1 : Int32) (a2 : Int32) (M : sy_M) : sy_run skX12 qX12_keepers [(33, .iconst 1, 1, [true, true, true, false, false]), (34, .goto 4, 3, [])] [] [(38, juX12_keepers_38 (jfX12_keepers_38 k9))] 3 [] 33 [.ref 121, .int a1, .int a2, w3, w4] [] M = jfX12_keepers_33 k9 a1 a2 M := rfl
theorem jtX12_keepers_33 {k9 : Int32 → Int32 → sy_M → sy_O} (hk9 : ∀ (w3 : Value) (w4 : Value) (a1 : Int32) (a2 : Int32) (M : sy_M) (r : xe_R × sy_M), k9 a1 a2 M = some r → sy_E (4) qX12_keepers 9 [.ref 121, .int a1, .int a2, w3, w4] [] M r) : ∀ (w3 : Value) (w4 : Value) (a1 : Int32) (a2 : Int32) (M : sy_M) (r : xe_R × sy_M), jfX12_keepers_33 k9 a1 a2 M = some r → sy_E (4) qX12_keepers 33 [.ref 121, .int a1, .int a2, w3, w4] [] M r := by
  intro w3 w4 a1 a2 M r h
  exact sy_run_by (d := 3) ((jrX12_keepers_33 _ _ _ _ _ M).trans h) hkX12 (by decide +kernel) sy_cs_nil (sy_us_cons (jwX12_keepers_38 (jtX12_keepers_38 hk9)) sy_us_nil)
def jgX12_keepers_9 (k9 : Int32 → Int32 → sy_M → sy_O) (a1 : Int32) (a2 : Int32) (M : sy_M) : sy_O :=
  sy_bi (jfX12_all M) fun v2 M1 =>
  if v2 < a2 then
    sy_ri a1 M1
  else
    if a1 = (-1) then
      jfX12_keepers_33 k9 a1 a2 M1
    else
      sy_bi (jfX12_bits a2 M1) fun v4 M3 =>
      sy_bi (jfX12_bits a1 M3) fun v6 M5 =>
      if v4 < v6 then
        jfX12_keepers_33 k9 a1 a2 M5
      else
        jfX12_keepers_38 k9 a1 a2 0 M5
def jfX12_keepers_9 : Nat → Int32 → Int32 → sy_M → sy_O
  | 0, _, _, _ => none
  | n + 1, a1, a2, M => jgX12_keepers_9 (jfX12_keepers_9 n) a1 a2 M
set_option maxRecDepth 100000 in
theorem jrX12_keepers_9 (k9 : Int32 → Int32 → sy_M → sy_O) (w3 : Value) (w4 : Value) (a1 : Int32) (a2 : Int32) (M : sy_M) : sy_run skX12 qX12_keepers [(9, .iload_n 2, 1, [true, true, true, false, false]), (10, .aload_n 0, 1, []), (11, .invokevirtual 287, 3, []), (14, .if_icmp .gt 83, 3, []), (17, .iload_n 1, 1, []), (18, .iconst (-1), 1, []), (19, .if_icmp .eq 14, 3, []), (22, .iload_n 2, 1, []), (23, .invokestatic 358, 3, []), (26, .iload_n 1, 1, []), (27, .invokestatic 358, 3, []), (30, .if_icmp .ge 7, 3, []), (37, .iconst 0, 1, [true, true, true, false, false]), (97, .iload_n 1, 1, [false, true, false, false, false]), (98, .ireturn, 1, [])] [(197, 0, jcX12_all), (186, 0, jcX12_bits)] [(33, juX12_keepers_33 (jfX12_keepers_33 k9)), (38, juX12_keepers_38 (jfX12_keepers_38 k9))] 16 [] 9 [.ref 121, .int a1, .int a2, w3, w4] [] M = jgX12_keepers_9 k9 a1 a2 M := rfl
theorem jtX12_keepers_9 : ∀ n : Nat, ∀ (w3 : Value) (w4 : Value) (a1 : Int32) (a2 : Int32) (M : sy_M) (r : xe_R × sy_M), jfX12_keepers_9 n a1 a2 M = some r → sy_E (4) qX12_keepers 9 [.ref 121, .int a1, .int a2, w3, w4] [] M r := by
  intro n
  induction n with
  | zero => intro w3 w4 a1 a2 M r h; exact absurd (show (none : sy_O) = some r from h) (by simp)
  | succ n ih => intro w3 w4 a1 a2 M r h; exact sy_run_by (d := 3) ((jrX12_keepers_9 _ _ _ _ _ M).trans h) hkX12 (by decide +kernel) (sy_cs_cons (jeX12_all.deep (by decide)) (sy_cs_cons (jeX12_bits.deep (by decide)) sy_cs_nil)) (sy_us_cons (jwX12_keepers_33 (jtX12_keepers_33 ih)) (sy_us_cons (jwX12_keepers_38 (jtX12_keepers_38 ih)) sy_us_nil))
def jfX12_keepers (M : sy_M) : sy_O :=
  let M1 := sy_upd M 121 0 0
  jfX12_keepers_9 sy_F (-1) 0 M1
set_option maxRecDepth 100000 in
theorem jrX12_keepers (M : sy_M) : sy_run skX12 qX12_keepers [(0, .aload_n 0, 1, []), (1, .iconst 0, 1, []), (2, .putfield 45, 3, []), (5, .iconst (-1), 1, []), (6, .istore_n 1, 1, []), (7, .iconst 0, 1, []), (8, .istore_n 2, 1, [])] [] [(9, juX12_keepers_9 (jfX12_keepers_9 sy_F))] 8 [] 0 [.ref 121, xe_no, xe_no, xe_no, xe_no] [] M = jfX12_keepers M := rfl
theorem jtX12_keepers : ∀ (M : sy_M) (r : xe_R × sy_M), jfX12_keepers M = some r → sy_E (4) qX12_keepers 0 [.ref 121, xe_no, xe_no, xe_no, xe_no] [] M r := by
  intro  M r h
  exact sy_run_by (d := 3) ((jrX12_keepers M).trans h) hkX12 (by decide +kernel) sy_cs_nil (sy_us_cons (jwX12_keepers_9 (jtX12_keepers_9 sy_F)) sy_us_nil)
def jcX12_keepers (as : List Value) (M : sy_M) (K : sy_O → sy_O) : sy_O := sy_xc 121 as fun l => sy_xn l (K (jfX12_keepers M))
theorem jeX12_keepers : sy_snd (4) 290 (jcX12_keepers) := by
  intro as M K r h
  obtain ⟨l, e, h1⟩ := sy_xc_ok h; subst e
  obtain ⟨e, h2⟩ := sy_xn_ok h1; subst e
  exact ⟨_, h2, fun r1 h0 => ⟨qX12_keepers, rfl, rfl, jtX12_keepers  M r1 h0⟩⟩
/-! X11_carries StairMeter carries (I)Z [('R', 0), 'I'] -/
def juX11_carries_44 (k : Int32 → Int32 → Int32 → Int32 → sy_M → sy_O) (ls st : List Value) (M : sy_M) : sy_O := sy_xc 0 ls fun l => sy_xi l fun a1 l => sy_xv l fun _ l => sy_xi l fun a3 l => sy_xv l fun _ l => sy_xn l (sy_xi st fun s0 l => sy_xi l fun s1 l => sy_xn l (k a1 a3 s0 s1 M))
theorem jwX11_carries_44 {d : Nat} {k : Int32 → Int32 → Int32 → Int32 → sy_M → sy_O} (hk : ∀ (w2 : Value) (w4 : Value) (a1 : Int32) (a3 : Int32) (s0 : Int32) (s1 : Int32) (M : sy_M) (r : xe_R × sy_M), k a1 a3 s0 s1 M = some r → sy_E (d) qX11_carries 44 [.ref 0, .int a1, w2, .int a3, w4] [.int s0, .int s1] M r) : ∀ ls st M r, juX11_carries_44 k ls st M = some r → sy_E d qX11_carries 44 ls st M r := by
  intro ls st M r h
  obtain ⟨l, e, h1⟩ := sy_xc_ok h; subst e
  obtain ⟨a1, l, e, h2⟩ := sy_xi_ok h1; subst e
  obtain ⟨w2, l, e, h3⟩ := sy_xv_ok h2; subst e
  obtain ⟨a3, l, e, h4⟩ := sy_xi_ok h3; subst e
  obtain ⟨w4, l, e, h5⟩ := sy_xv_ok h4; subst e
  obtain ⟨e, h6⟩ := sy_xn_ok h5; subst e
  obtain ⟨s0, l, e, h7⟩ := sy_xi_ok h6; subst e
  obtain ⟨s1, l, e, h8⟩ := sy_xi_ok h7; subst e
  obtain ⟨e, h9⟩ := sy_xn_ok h8; subst e
  exact hk _ _ a1 a3 s0 s1 M r h9
def juX11_carries_4 (k : Int32 → Int32 → Int32 → sy_M → sy_O) (ls st : List Value) (M : sy_M) : sy_O := sy_xc 0 ls fun l => sy_xi l fun a1 l => sy_xi l fun a2 l => sy_xi l fun a3 l => sy_xv l fun _ l => sy_xn l (sy_xn st (k a1 a2 a3 M))
theorem jwX11_carries_4 {d : Nat} {k : Int32 → Int32 → Int32 → sy_M → sy_O} (hk : ∀ (w4 : Value) (a1 : Int32) (a2 : Int32) (a3 : Int32) (M : sy_M) (r : xe_R × sy_M), k a1 a2 a3 M = some r → sy_E (d) qX11_carries 4 [.ref 0, .int a1, .int a2, .int a3, w4] [] M r) : ∀ ls st M r, juX11_carries_4 k ls st M = some r → sy_E d qX11_carries 4 ls st M r := by
  intro ls st M r h
  obtain ⟨l, e, h1⟩ := sy_xc_ok h; subst e
  obtain ⟨a1, l, e, h2⟩ := sy_xi_ok h1; subst e
  obtain ⟨a2, l, e, h3⟩ := sy_xi_ok h2; subst e
  obtain ⟨a3, l, e, h4⟩ := sy_xi_ok h3; subst e
  obtain ⟨w4, l, e, h5⟩ := sy_xv_ok h4; subst e
  obtain ⟨e, h6⟩ := sy_xn_ok h5; subst e
  obtain ⟨e, h7⟩ := sy_xn_ok h6; subst e
  exact hk _ a1 a2 a3 M r h7
def jfX11_carries_44 (k4 : Int32 → Int32 → Int32 → sy_M → sy_O) (a1 : Int32) (a3 : Int32) (s0 : Int32) (s1 : Int32) (M : sy_M) : sy_O :=
  let v1 := (s1 + s0)
  let v2 := a3 + 1
  k4 a1 v1 v2 M
set_option maxRecDepth 100000 in
theorem jrX11_carries_44 (k4 : Int32 → Int32 → Int32 → sy_M → sy_O) (w2 : Value) (w4 : Value) (a1 : Int32) (a3 : Int32) (s0 : Int32) (s1 : Int32) (M : sy_M) : sy_run skX11 qX11_carries [(44, .iadd, 1, [true, true, false, true, false]), (45, .istore_n 2, 1, []), (46, .iinc 3 1, 3, []), (49, .goto (-45), 3, [])] [] [(4, juX11_carries_4 k4)] 5 [] 44 [.ref 0, .int a1, w2, .int a3, w4] [.int s0, .int s1] M = jfX11_carries_44 k4 a1 a3 s0 s1 M := rfl
theorem jtX11_carries_44 {k4 : Int32 → Int32 → Int32 → sy_M → sy_O} (hk4 : ∀ (w4 : Value) (a1 : Int32) (a2 : Int32) (a3 : Int32) (M : sy_M) (r : xe_R × sy_M), k4 a1 a2 a3 M = some r → sy_E (2) qX11_carries 4 [.ref 0, .int a1, .int a2, .int a3, w4] [] M r) : ∀ (w2 : Value) (w4 : Value) (a1 : Int32) (a3 : Int32) (s0 : Int32) (s1 : Int32) (M : sy_M) (r : xe_R × sy_M), jfX11_carries_44 k4 a1 a3 s0 s1 M = some r → sy_E (2) qX11_carries 44 [.ref 0, .int a1, w2, .int a3, w4] [.int s0, .int s1] M r := by
  intro w2 w4 a1 a3 s0 s1 M r h
  exact sy_run_by (d := 1) ((jrX11_carries_44 _ _ _ _ _ _ _ M).trans h) hkX11 (by decide +kernel) sy_cs_nil (sy_us_cons (jwX11_carries_4 hk4) sy_us_nil)
def jgX11_carries_4 (k4 : Int32 → Int32 → Int32 → sy_M → sy_O) (a1 : Int32) (a2 : Int32) (a3 : Int32) (M : sy_M) : sy_O :=
  if a3 < (M 9 3) then
    sy_bi (jfX2_get 9 a3 8 M) fun v2 M1 =>
    if ((a1 >>> (a3 &&& 31)) &&& 1) = 0 then
      jfX11_carries_44 k4 a1 a3 (-v2) a2 M1
    else
      jfX11_carries_44 k4 a1 a3 v2 a2 M1
  else
    if 0 < a2 then
      sy_ri 1 M
    else
      sy_ri 0 M
def jfX11_carries_4 : Nat → Int32 → Int32 → Int32 → sy_M → sy_O
  | 0, _, _, _, _ => none
  | n + 1, a1, a2, a3, M => jgX11_carries_4 (jfX11_carries_4 n) a1 a2 a3 M
set_option maxRecDepth 100000 in
theorem jrX11_carries_4 (k4 : Int32 → Int32 → Int32 → sy_M → sy_O) (w4 : Value) (a1 : Int32) (a2 : Int32) (a3 : Int32) (M : sy_M) : sy_run skX11 qX11_carries [(4, .iload_n 3, 1, [true, true, true, true, false]), (5, .aload_n 0, 1, []), (6, .getfield 28, 3, []), (9, .getfield 207, 3, []), (12, .if_icmp .ge 40, 3, []), (15, .aload_n 0, 1, []), (16, .getfield 28, 3, []), (19, .iload_n 3, 1, []), (20, .bipush 8, 2, []), (22, .invokevirtual 152, 3, []), (25, .istore 4, 2, []), (27, .iload_n 2, 1, []), (28, .iload_n 1, 1, []), (29, .iload_n 3, 1, []), (30, .ishr, 1, []), (31, .iconst 1, 1, []), (32, .iand, 1, []), (33, .ifCond .eq 8, 3, []), (36, .iload 4, 2, []), (38, .goto 6, 3, []), (41, .iload 4, 2, [true, true, false, true, true]), (43, .ineg, 1, []), (52, .iload_n 2, 1, [false, false, true, false, false]), (53, .ifCond .le 7, 3, []), (56, .iconst 1, 1, []), (57, .goto 4, 3, []), (60, .iconst 0, 1, [false, false, false, false, false]), (61, .ireturn, 1, [false, false, false, false, false])] [(10, 0, jcX2_get)] [(44, juX11_carries_44 (jfX11_carries_44 k4))] 29 [] 4 [.ref 0, .int a1, .int a2, .int a3, w4] [] M = jgX11_carries_4 k4 a1 a2 a3 M := rfl
theorem jtX11_carries_4 : ∀ n : Nat, ∀ (w4 : Value) (a1 : Int32) (a2 : Int32) (a3 : Int32) (M : sy_M) (r : xe_R × sy_M), jfX11_carries_4 n a1 a2 a3 M = some r → sy_E (2) qX11_carries 4 [.ref 0, .int a1, .int a2, .int a3, w4] [] M r := by
  intro n
  induction n with
  | zero => intro w4 a1 a2 a3 M r h; exact absurd (show (none : sy_O) = some r from h) (by simp)
  | succ n ih => intro w4 a1 a2 a3 M r h; exact sy_run_by (d := 1) ((jrX11_carries_4 _ _ _ _ _ M).trans h) hkX11 (by decide +kernel) (sy_cs_cons (jeX2_get.deep (by decide)) sy_cs_nil) (sy_us_cons (jwX11_carries_44 (jtX11_carries_44 ih)) sy_us_nil)
def jfX11_carries (a1 : Int32) (M : sy_M) : sy_O :=
  jfX11_carries_4 sy_F a1 0 0 M
set_option maxRecDepth 100000 in
theorem jrX11_carries (a1 : Int32) (M : sy_M) : sy_run skX11 qX11_carries [(0, .iconst 0, 1, []), (1, .istore_n 2, 1, []), (2, .iconst 0, 1, []), (3, .istore_n 3, 1, [])] [] [(4, juX11_carries_4 (jfX11_carries_4 sy_F))] 5 [] 0 [.ref 0, .int a1, xe_no, xe_no, xe_no] [] M = jfX11_carries a1 M := rfl
theorem jtX11_carries : ∀ (a1 : Int32) (M : sy_M) (r : xe_R × sy_M), jfX11_carries a1 M = some r → sy_E (2) qX11_carries 0 [.ref 0, .int a1, xe_no, xe_no, xe_no] [] M r := by
  intro a1 M r h
  exact sy_run_by (d := 1) ((jrX11_carries _ M).trans h) hkX11 (by decide +kernel) sy_cs_nil (sy_us_cons (jwX11_carries_4 (jtX11_carries_4 sy_F)) sy_us_nil)
def jcX11_carries (as : List Value) (M : sy_M) (K : sy_O → sy_O) : sy_O := sy_xc 0 as fun l => sy_xi l fun a1 l => sy_xn l (K (jfX11_carries a1 M))
theorem jeX11_carries : sy_snd (2) 155 (jcX11_carries) := by
  intro as M K r h
  obtain ⟨l, e, h1⟩ := sy_xc_ok h; subst e
  obtain ⟨a1, l, e, h2⟩ := sy_xi_ok h1; subst e
  obtain ⟨e, h3⟩ := sy_xn_ok h2; subst e
  exact ⟨_, h3, fun r1 h0 => ⟨qX11_carries, rfl, rfl, jtX11_carries _ M r1 h0⟩⟩
/-! X11_kettle StairMeter kettle (I)Z [('R', 0), 'I'] -/
def jfX11_kettle (a1 : Int32) (M : sy_M) : sy_O :=
  sy_bi (jfX11_carries a1 M) fun v2 M1 =>
  sy_bb (sy_bo v2) <| sy_ri v2 M1
set_option maxRecDepth 100000 in
theorem jrX11_kettle (a1 : Int32) (M : sy_M) : sy_run skX11 qX11_kettle [(0, .aload_n 0, 1, []), (1, .iload_n 1, 1, []), (2, .invokevirtual 377, 3, []), (5, .ireturn, 1, [])] [(155, 0, jcX11_carries)] [] 5 [] 0 [.ref 0, .int a1] [] M = jfX11_kettle a1 M := rfl
theorem jtX11_kettle : ∀ (a1 : Int32) (M : sy_M) (r : xe_R × sy_M), jfX11_kettle a1 M = some r → sy_E (3) qX11_kettle 0 [.ref 0, .int a1] [] M r := by
  intro a1 M r h
  exact sy_run_by (d := 2) ((jrX11_kettle _ M).trans h) hkX11 (by decide +kernel) (sy_cs_cons (jeX11_carries.deep (by decide)) sy_cs_nil) sy_us_nil
def jcX11_kettle (as : List Value) (M : sy_M) (K : sy_O → sy_O) : sy_O := sy_xc 0 as fun l => sy_xi l fun a1 l => sy_xn l (K (jfX11_kettle a1 M))
theorem jeX11_kettle : sy_snd (3) 149 (jcX11_kettle) := by
  intro as M K r h
  obtain ⟨l, e, h1⟩ := sy_xc_ok h; subst e
  obtain ⟨a1, l, e, h2⟩ := sy_xi_ok h1; subst e
  obtain ⟨e, h3⟩ := sy_xn_ok h2; subst e
  exact ⟨_, h3, fun r1 h0 => ⟨qX11_kettle, rfl, rfl, jtX11_kettle _ M r1 h0⟩⟩
/-! X12_carries StairMeterModel carries (I)Z [('R', 121), 'I'] -/
def jfX12_carries (a1 : Int32) (M : sy_M) : sy_O :=
  sy_bi (jfX12_all M) fun v2 M1 =>
  sy_bi (jfX12_fedOf (a1 &&& v2) M1) fun v4 M3 =>
  sy_bi (jfX12_all M3) fun v6 M5 =>
  sy_bi (jfX12_fedOf v6 M5) fun v8 M7 =>
  if v8 < (2 * v4) then
    sy_ri 1 M7
  else
    sy_ri 0 M7
set_option maxRecDepth 100000 in
theorem jrX12_carries (a1 : Int32) (M : sy_M) : sy_run skX12 qX12_carries [(0, .iconst 2, 1, []), (1, .aload_n 0, 1, []), (2, .iload_n 1, 1, []), (3, .aload_n 0, 1, []), (4, .invokevirtual 287, 3, []), (7, .iand, 1, []), (8, .invokevirtual 290, 3, []), (11, .imul, 1, []), (12, .aload_n 0, 1, []), (13, .aload_n 0, 1, []), (14, .invokevirtual 287, 3, []), (17, .invokevirtual 290, 3, []), (20, .if_icmp .le 7, 3, []), (23, .iconst 1, 1, []), (24, .goto 4, 3, []), (27, .iconst 0, 1, [false, false]), (28, .ireturn, 1, [false, false])] [(197, 0, jcX12_all), (236, 0, jcX12_fedOf)] [] 18 [] 0 [.ref 121, .int a1] [] M = jfX12_carries a1 M := rfl
theorem jtX12_carries : ∀ (a1 : Int32) (M : sy_M) (r : xe_R × sy_M), jfX12_carries a1 M = some r → sy_E (3) qX12_carries 0 [.ref 121, .int a1] [] M r := by
  intro a1 M r h
  exact sy_run_by (d := 2) ((jrX12_carries _ M).trans h) hkX12 (by decide +kernel) (sy_cs_cons (jeX12_all.deep (by decide)) (sy_cs_cons (jeX12_fedOf.deep (by decide)) sy_cs_nil)) sy_us_nil
def jcX12_carries (as : List Value) (M : sy_M) (K : sy_O → sy_O) : sy_O := sy_xc 121 as fun l => sy_xi l fun a1 l => sy_xn l (K (jfX12_carries a1 M))
theorem jeX12_carries : sy_snd (3) 291 (jcX12_carries) := by
  intro as M K r h
  obtain ⟨l, e, h1⟩ := sy_xc_ok h; subst e
  obtain ⟨a1, l, e, h2⟩ := sy_xi_ok h1; subst e
  obtain ⟨e, h3⟩ := sy_xn_ok h2; subst e
  exact ⟨_, h3, fun r1 h0 => ⟨qX12_carries, rfl, rfl, jtX12_carries _ M r1 h0⟩⟩
/-! X12_kettle StairMeterModel kettle (I)Z [('R', 121), 'I'] -/
def jfX12_kettle (a1 : Int32) (M : sy_M) : sy_O :=
  let M1 := sy_upd M 121 0 0
  sy_bi (jfX12_carries a1 M1) fun v3 M2 =>
  sy_bb (sy_bo v3) <| sy_ri v3 M2
set_option maxRecDepth 100000 in
theorem jrX12_kettle (a1 : Int32) (M : sy_M) : sy_run skX12 qX12_kettle [(0, .aload_n 0, 1, []), (1, .iconst 0, 1, []), (2, .putfield 45, 3, []), (5, .aload_n 0, 1, []), (6, .iload_n 1, 1, []), (7, .invokevirtual 370, 3, []), (10, .ireturn, 1, [])] [(291, 0, jcX12_carries)] [] 8 [] 0 [.ref 121, .int a1] [] M = jfX12_kettle a1 M := rfl
theorem jtX12_kettle : ∀ (a1 : Int32) (M : sy_M) (r : xe_R × sy_M), jfX12_kettle a1 M = some r → sy_E (4) qX12_kettle 0 [.ref 121, .int a1] [] M r := by
  intro a1 M r h
  exact sy_run_by (d := 3) ((jrX12_kettle _ M).trans h) hkX12 (by decide +kernel) (sy_cs_cons (jeX12_carries.deep (by decide)) sy_cs_nil) sy_us_nil
def jcX12_kettle (as : List Value) (M : sy_M) (K : sy_O → sy_O) : sy_O := sy_xc 121 as fun l => sy_xi l fun a1 l => sy_xn l (K (jfX12_kettle a1 M))
theorem jeX12_kettle : sy_snd (4) 292 (jcX12_kettle) := by
  intro as M K r h
  obtain ⟨l, e, h1⟩ := sy_xc_ok h; subst e
  obtain ⟨a1, l, e, h2⟩ := sy_xi_ok h1; subst e
  obtain ⟨e, h3⟩ := sy_xn_ok h2; subst e
  exact ⟨_, h3, fun r1 h0 => ⟨qX12_kettle, rfl, rfl, jtX12_kettle _ M r1 h0⟩⟩
/-! X11_swung StairMeter swung (I)I [('R', 0), 'I'] -/
def juX11_swung_50 (k : Int32 → Int32 → Int32 → sy_M → sy_O) (ls st : List Value) (M : sy_M) : sy_O := sy_xc 0 ls fun l => sy_xv l fun _ l => sy_xi l fun a2 l => sy_xi l fun a3 l => sy_xi l fun a4 l => sy_xn l (sy_xn st (k a2 a3 a4 M))
theorem jwX11_swung_50 {d : Nat} {k : Int32 → Int32 → Int32 → sy_M → sy_O} (hk : ∀ (w1 : Value) (a2 : Int32) (a3 : Int32) (a4 : Int32) (M : sy_M) (r : xe_R × sy_M), k a2 a3 a4 M = some r → sy_E (d) qX11_swung 50 [.ref 0, w1, .int a2, .int a3, .int a4] [] M r) : ∀ ls st M r, juX11_swung_50 k ls st M = some r → sy_E d qX11_swung 50 ls st M r := by
  intro ls st M r h
  obtain ⟨l, e, h1⟩ := sy_xc_ok h; subst e
  obtain ⟨w1, l, e, h2⟩ := sy_xv_ok h1; subst e
  obtain ⟨a2, l, e, h3⟩ := sy_xi_ok h2; subst e
  obtain ⟨a3, l, e, h4⟩ := sy_xi_ok h3; subst e
  obtain ⟨a4, l, e, h5⟩ := sy_xi_ok h4; subst e
  obtain ⟨e, h6⟩ := sy_xn_ok h5; subst e
  obtain ⟨e, h7⟩ := sy_xn_ok h6; subst e
  exact hk _ a2 a3 a4 M r h7
def juX11_swung_9 (k : Int32 → Int32 → Int32 → sy_M → sy_O) (ls st : List Value) (M : sy_M) : sy_O := sy_xc 0 ls fun l => sy_xv l fun _ l => sy_xi l fun a2 l => sy_xi l fun a3 l => sy_xi l fun a4 l => sy_xn l (sy_xn st (k a2 a3 a4 M))
theorem jwX11_swung_9 {d : Nat} {k : Int32 → Int32 → Int32 → sy_M → sy_O} (hk : ∀ (w1 : Value) (a2 : Int32) (a3 : Int32) (a4 : Int32) (M : sy_M) (r : xe_R × sy_M), k a2 a3 a4 M = some r → sy_E (d) qX11_swung 9 [.ref 0, w1, .int a2, .int a3, .int a4] [] M r) : ∀ ls st M r, juX11_swung_9 k ls st M = some r → sy_E d qX11_swung 9 ls st M r := by
  intro ls st M r h
  obtain ⟨l, e, h1⟩ := sy_xc_ok h; subst e
  obtain ⟨w1, l, e, h2⟩ := sy_xv_ok h1; subst e
  obtain ⟨a2, l, e, h3⟩ := sy_xi_ok h2; subst e
  obtain ⟨a3, l, e, h4⟩ := sy_xi_ok h3; subst e
  obtain ⟨a4, l, e, h5⟩ := sy_xi_ok h4; subst e
  obtain ⟨e, h6⟩ := sy_xn_ok h5; subst e
  obtain ⟨e, h7⟩ := sy_xn_ok h6; subst e
  exact hk _ a2 a3 a4 M r h7
def jfX11_swung_50 (k9 : Int32 → Int32 → Int32 → sy_M → sy_O) (a2 : Int32) (a3 : Int32) (a4 : Int32) (M : sy_M) : sy_O :=
  let v1 := a4 + 1
  k9 a2 a3 v1 M
set_option maxRecDepth 100000 in
theorem jrX11_swung_50 (k9 : Int32 → Int32 → Int32 → sy_M → sy_O) (w1 : Value) (a2 : Int32) (a3 : Int32) (a4 : Int32) (M : sy_M) : sy_run skX11 qX11_swung [(50, .iinc 4 1, 3, [true, false, true, true, true]), (53, .goto (-44), 3, [])] [] [(9, juX11_swung_9 k9)] 3 [] 50 [.ref 0, w1, .int a2, .int a3, .int a4] [] M = jfX11_swung_50 k9 a2 a3 a4 M := rfl
theorem jtX11_swung_50 {k9 : Int32 → Int32 → Int32 → sy_M → sy_O} (hk9 : ∀ (w1 : Value) (a2 : Int32) (a3 : Int32) (a4 : Int32) (M : sy_M) (r : xe_R × sy_M), k9 a2 a3 a4 M = some r → sy_E (3) qX11_swung 9 [.ref 0, w1, .int a2, .int a3, .int a4] [] M r) : ∀ (w1 : Value) (a2 : Int32) (a3 : Int32) (a4 : Int32) (M : sy_M) (r : xe_R × sy_M), jfX11_swung_50 k9 a2 a3 a4 M = some r → sy_E (3) qX11_swung 50 [.ref 0, w1, .int a2, .int a3, .int a4] [] M r := by
  intro w1 a2 a3 a4 M r h
  exact sy_run_by (d := 2) ((jrX11_swung_50 _ _ _ _ _ M).trans h) hkX11 (by decide +kernel) sy_cs_nil (sy_us_cons (jwX11_swung_9 hk9) sy_us_nil)
def jgX11_swung_9 (k9 : Int32 → Int32 → Int32 → sy_M → sy_O) (a2 : Int32) (a3 : Int32) (a4 : Int32) (M : sy_M) : sy_O :=
  sy_bi (jfX11_everybody M) fun v2 M1 =>
  if v2 < a4 then
    sy_ri a3 M1
  else
    if (a4 &&& a2) = 0 then
      jfX11_swung_50 k9 a2 a3 a4 M1
    else
      sy_bi (jfX11_carries a4 M1) fun v4 M3 =>
      if v4 = 0 then
        jfX11_swung_50 k9 a2 a3 a4 M3
      else
        sy_bi (jfX11_carries (a4 &&& (a2 ^^^ (-1))) M3) fun v6 M5 =>
        if v6 = 0 then
          let v7 := a3 + 1
          jfX11_swung_50 k9 a2 v7 a4 M5
        else
          jfX11_swung_50 k9 a2 a3 a4 M5
def jfX11_swung_9 : Nat → Int32 → Int32 → Int32 → sy_M → sy_O
  | 0, _, _, _, _ => none
  | n + 1, a2, a3, a4, M => jgX11_swung_9 (jfX11_swung_9 n) a2 a3 a4 M
set_option maxRecDepth 100000 in
theorem jrX11_swung_9 (k9 : Int32 → Int32 → Int32 → sy_M → sy_O) (w1 : Value) (a2 : Int32) (a3 : Int32) (a4 : Int32) (M : sy_M) : sy_run skX11 qX11_swung [(9, .iload 4, 2, [true, false, true, true, true]), (11, .aload_n 0, 1, []), (12, .invokevirtual 318, 3, []), (15, .if_icmp .gt 41, 3, []), (18, .iload 4, 2, []), (20, .iload_n 2, 1, []), (21, .iand, 1, []), (22, .ifCond .eq 28, 3, []), (25, .aload_n 0, 1, []), (26, .iload 4, 2, []), (28, .invokevirtual 377, 3, []), (31, .ifCond .eq 19, 3, []), (34, .aload_n 0, 1, []), (35, .iload 4, 2, []), (37, .iload_n 2, 1, []), (38, .iconst (-1), 1, []), (39, .ixor, 1, []), (40, .iand, 1, []), (41, .invokevirtual 377, 3, []), (44, .ifCond .ne 6, 3, []), (47, .iinc 3 1, 3, []), (56, .iload_n 3, 1, [false, false, false, true, false]), (57, .ireturn, 1, [])] [(175, 0, jcX11_everybody), (155, 0, jcX11_carries)] [(50, juX11_swung_50 (jfX11_swung_50 k9))] 24 [] 9 [.ref 0, w1, .int a2, .int a3, .int a4] [] M = jgX11_swung_9 k9 a2 a3 a4 M := rfl
theorem jtX11_swung_9 : ∀ n : Nat, ∀ (w1 : Value) (a2 : Int32) (a3 : Int32) (a4 : Int32) (M : sy_M) (r : xe_R × sy_M), jfX11_swung_9 n a2 a3 a4 M = some r → sy_E (3) qX11_swung 9 [.ref 0, w1, .int a2, .int a3, .int a4] [] M r := by
  intro n
  induction n with
  | zero => intro w1 a2 a3 a4 M r h; exact absurd (show (none : sy_O) = some r from h) (by simp)
  | succ n ih => intro w1 a2 a3 a4 M r h; exact sy_run_by (d := 2) ((jrX11_swung_9 _ _ _ _ _ M).trans h) hkX11 (by decide +kernel) (sy_cs_cons (jeX11_everybody.deep (by decide)) (sy_cs_cons (jeX11_carries.deep (by decide)) sy_cs_nil)) (sy_us_cons (jwX11_swung_50 (jtX11_swung_50 ih)) sy_us_nil)
def jfX11_swung (a1 : Int32) (M : sy_M) : sy_O :=
  let v1 := (1 <<< (a1 &&& 31))
  jfX11_swung_9 sy_F v1 0 0 M
set_option maxRecDepth 100000 in
theorem jrX11_swung (a1 : Int32) (M : sy_M) : sy_run skX11 qX11_swung [(0, .iconst 1, 1, []), (1, .iload_n 1, 1, []), (2, .ishl, 1, []), (3, .istore_n 2, 1, []), (4, .iconst 0, 1, []), (5, .istore_n 3, 1, []), (6, .iconst 0, 1, []), (7, .istore 4, 2, [])] [] [(9, juX11_swung_9 (jfX11_swung_9 sy_F))] 9 [] 0 [.ref 0, .int a1, xe_no, xe_no, xe_no] [] M = jfX11_swung a1 M := rfl
theorem jtX11_swung : ∀ (a1 : Int32) (M : sy_M) (r : xe_R × sy_M), jfX11_swung a1 M = some r → sy_E (3) qX11_swung 0 [.ref 0, .int a1, xe_no, xe_no, xe_no] [] M r := by
  intro a1 M r h
  exact sy_run_by (d := 2) ((jrX11_swung _ M).trans h) hkX11 (by decide +kernel) sy_cs_nil (sy_us_cons (jwX11_swung_9 (jtX11_swung_9 sy_F)) sy_us_nil)
def jcX11_swung (as : List Value) (M : sy_M) (K : sy_O → sy_O) : sy_O := sy_xc 0 as fun l => sy_xi l fun a1 l => sy_xn l (K (jfX11_swung a1 M))
theorem jeX11_swung : sy_snd (3) 153 (jcX11_swung) := by
  intro as M K r h
  obtain ⟨l, e, h1⟩ := sy_xc_ok h; subst e
  obtain ⟨a1, l, e, h2⟩ := sy_xi_ok h1; subst e
  obtain ⟨e, h3⟩ := sy_xn_ok h2; subst e
  exact ⟨_, h3, fun r1 h0 => ⟨qX11_swung, rfl, rfl, jtX11_swung _ M r1 h0⟩⟩
/-! X11_swings StairMeter swings (I)I [('R', 0), 'I'] -/
def jfX11_swings (a1 : Int32) (M : sy_M) : sy_O :=
  sy_bv (jfX11_checkLodger a1 M) fun M1 =>
  sy_bi (jfX11_swung a1 M1) fun v3 M2 =>
  sy_ri v3 M2
set_option maxRecDepth 100000 in
theorem jrX11_swings (a1 : Int32) (M : sy_M) : sy_run skX11 qX11_swings [(0, .aload_n 0, 1, []), (1, .iload_n 1, 1, []), (2, .invokevirtual 149, 3, []), (5, .aload_n 0, 1, []), (6, .iload_n 1, 1, []), (7, .invokevirtual 380, 3, []), (10, .ireturn, 1, [])] [(176, 1, jcX11_checkLodger), (153, 0, jcX11_swung)] [] 8 [] 0 [.ref 0, .int a1] [] M = jfX11_swings a1 M := rfl
theorem jtX11_swings : ∀ (a1 : Int32) (M : sy_M) (r : xe_R × sy_M), jfX11_swings a1 M = some r → sy_E (4) qX11_swings 0 [.ref 0, .int a1] [] M r := by
  intro a1 M r h
  exact sy_run_by (d := 3) ((jrX11_swings _ M).trans h) hkX11 (by decide +kernel) (sy_cs_cons (jeX11_checkLodger.deep (by decide)) (sy_cs_cons (jeX11_swung.deep (by decide)) sy_cs_nil)) sy_us_nil
def jcX11_swings (as : List Value) (M : sy_M) (K : sy_O → sy_O) : sy_O := sy_xc 0 as fun l => sy_xi l fun a1 l => sy_xn l (K (jfX11_swings a1 M))
theorem jeX11_swings : sy_snd (4) 150 (jcX11_swings) := by
  intro as M K r h
  obtain ⟨l, e, h1⟩ := sy_xc_ok h; subst e
  obtain ⟨a1, l, e, h2⟩ := sy_xi_ok h1; subst e
  obtain ⟨e, h3⟩ := sy_xn_ok h2; subst e
  exact ⟨_, h3, fun r1 h0 => ⟨qX11_swings, rfl, rfl, jtX11_swings _ M r1 h0⟩⟩
/-! L_swings StairMeterLaw swings (LStairMeter;I[J)I [('R', 0), 'I', ('R', 132)] -/
def jfL_swings (a1 : Int32) (M : sy_M) : sy_O :=
  sy_hi (jfX11_swings a1 M) (fun v2 M1 =>
    let M5 := sy_wl M1 132 0 (Int32.toInt64 v2)
    sy_ri 0 M5)
  (fun c3 M4 => if c3 = 22 then sy_ri 1 M4 else none)
set_option maxRecDepth 100000 in
theorem jrL_swings (a1 : Int32) (M : sy_M) : sy_run skL qL_swings [(0, .aload_n 2, 1, []), (1, .iconst 0, 1, []), (2, .aload_n 0, 1, []), (3, .iload_n 1, 1, []), (4, .invokevirtual 107, 3, []), (7, .i2l, 1, []), (8, .lastore, 1, []), (9, .goto 6, 3, []), (12, .astore_n 3, 1, [false, false, false, false]), (13, .iconst 1, 1, []), (14, .ireturn, 1, []), (15, .iconst 0, 1, [false, false, false, false]), (16, .ireturn, 1, [])] [(150, 3, jcX11_swings)] [] 14 [] 0 [.ref 0, .int a1, .ref 132, xe_no] [] M = jfL_swings a1 M := rfl
theorem jtL_swings : ∀ (a1 : Int32) (M : sy_M) (r : xe_R × sy_M), jfL_swings a1 M = some r → sy_E (5) qL_swings 0 [.ref 0, .int a1, .ref 132, xe_no] [] M r := by
  intro a1 M r h
  exact sy_run_by (d := 4) ((jrL_swings _ M).trans h) hkL (by decide +kernel) (sy_cs_cons (jeX11_swings.deep (by decide)) sy_cs_nil) sy_us_nil
def jcL_swings (as : List Value) (M : sy_M) (K : sy_O → sy_O) : sy_O := sy_xc 0 as fun l => sy_xi l fun a1 l => sy_xc 132 l fun l => sy_xn l (K (jfL_swings a1 M))
theorem jeL_swings : sy_snd (5) 348 (jcL_swings) := by
  intro as M K r h
  obtain ⟨l, e, h1⟩ := sy_xc_ok h; subst e
  obtain ⟨a1, l, e, h2⟩ := sy_xi_ok h1; subst e
  obtain ⟨l, e, h3⟩ := sy_xc_ok h2; subst e
  obtain ⟨e, h4⟩ := sy_xn_ok h3; subst e
  exact ⟨_, h4, fun r1 h0 => ⟨qL_swings, rfl, rfl, jtL_swings _ M r1 h0⟩⟩
/-! X12_swingsBy StairMeterModel swingsBy (II)Z [('R', 121), 'I', 'I'] -/
def jfX12_swingsBy (a1 : Int32) (a2 : Int32) (M : sy_M) : sy_O :=
  sy_bi (jfX12_isOf a1 a2 M) fun v2 M1 =>
  if v2 = 0 then
    sy_ri 0 M1
  else
    sy_bi (jfX12_carries a1 M1) fun v4 M3 =>
    if v4 = 0 then
      sy_ri 0 M3
    else
      sy_bi (jfX12_carries (a1 &&& ((1 <<< (a2 &&& 31)) ^^^ (-1))) M3) fun v6 M5 =>
      if v6 = 0 then
        sy_ri 1 M5
      else
        sy_ri 0 M5
set_option maxRecDepth 100000 in
theorem jrX12_swingsBy (a1 : Int32) (a2 : Int32) (M : sy_M) : sy_run skX12 qX12_swingsBy [(0, .iload_n 1, 1, []), (1, .iload_n 2, 1, []), (2, .invokestatic 60, 3, []), (5, .ifCond .eq 29, 3, []), (8, .aload_n 0, 1, []), (9, .iload_n 1, 1, []), (10, .invokevirtual 370, 3, []), (13, .ifCond .eq 21, 3, []), (16, .aload_n 0, 1, []), (17, .iload_n 1, 1, []), (18, .iconst 1, 1, []), (19, .iload_n 2, 1, []), (20, .ishl, 1, []), (21, .iconst (-1), 1, []), (22, .ixor, 1, []), (23, .iand, 1, []), (24, .invokevirtual 370, 3, []), (27, .ifCond .ne 7, 3, []), (30, .iconst 1, 1, []), (31, .goto 4, 3, []), (34, .iconst 0, 1, [false, false, false]), (35, .ireturn, 1, [false, false, false])] [(185, 0, jcX12_isOf), (291, 0, jcX12_carries)] [] 23 [] 0 [.ref 121, .int a1, .int a2] [] M = jfX12_swingsBy a1 a2 M := rfl
theorem jtX12_swingsBy : ∀ (a1 : Int32) (a2 : Int32) (M : sy_M) (r : xe_R × sy_M), jfX12_swingsBy a1 a2 M = some r → sy_E (4) qX12_swingsBy 0 [.ref 121, .int a1, .int a2] [] M r := by
  intro a1 a2 M r h
  exact sy_run_by (d := 3) ((jrX12_swingsBy _ _ M).trans h) hkX12 (by decide +kernel) (sy_cs_cons (jeX12_isOf.deep (by decide)) (sy_cs_cons (jeX12_carries.deep (by decide)) sy_cs_nil)) sy_us_nil
def jcX12_swingsBy (as : List Value) (M : sy_M) (K : sy_O → sy_O) : sy_O := sy_xc 121 as fun l => sy_xi l fun a1 l => sy_xi l fun a2 l => sy_xn l (K (jfX12_swingsBy a1 a2 M))
theorem jeX12_swingsBy : sy_snd (4) 293 (jcX12_swingsBy) := by
  intro as M K r h
  obtain ⟨l, e, h1⟩ := sy_xc_ok h; subst e
  obtain ⟨a1, l, e, h2⟩ := sy_xi_ok h1; subst e
  obtain ⟨a2, l, e, h3⟩ := sy_xi_ok h2; subst e
  obtain ⟨e, h4⟩ := sy_xn_ok h3; subst e
  exact ⟨_, h4, fun r1 h0 => ⟨qX12_swingsBy, rfl, rfl, jtX12_swingsBy _ _ M r1 h0⟩⟩
/-! X12_swingsOf StairMeterModel swingsOf (I)I [('R', 121), 'I'] -/
def juX12_swingsOf_27 (k : Int32 → Int32 → Int32 → Int32 → sy_M → sy_O) (ls st : List Value) (M : sy_M) : sy_O := sy_xc 121 ls fun l => sy_xi l fun a1 l => sy_xv l fun _ l => sy_xi l fun a3 l => sy_xn l (sy_xi st fun s0 l => sy_xi l fun s1 l => sy_xn l (k a1 a3 s0 s1 M))
theorem jwX12_swingsOf_27 {d : Nat} {k : Int32 → Int32 → Int32 → Int32 → sy_M → sy_O} (hk : ∀ (w2 : Value) (a1 : Int32) (a3 : Int32) (s0 : Int32) (s1 : Int32) (M : sy_M) (r : xe_R × sy_M), k a1 a3 s0 s1 M = some r → sy_E (d) qX12_swingsOf 27 [.ref 121, .int a1, w2, .int a3] [.int s0, .int s1] M r) : ∀ ls st M r, juX12_swingsOf_27 k ls st M = some r → sy_E d qX12_swingsOf 27 ls st M r := by
  intro ls st M r h
  obtain ⟨l, e, h1⟩ := sy_xc_ok h; subst e
  obtain ⟨a1, l, e, h2⟩ := sy_xi_ok h1; subst e
  obtain ⟨w2, l, e, h3⟩ := sy_xv_ok h2; subst e
  obtain ⟨a3, l, e, h4⟩ := sy_xi_ok h3; subst e
  obtain ⟨e, h5⟩ := sy_xn_ok h4; subst e
  obtain ⟨s0, l, e, h6⟩ := sy_xi_ok h5; subst e
  obtain ⟨s1, l, e, h7⟩ := sy_xi_ok h6; subst e
  obtain ⟨e, h8⟩ := sy_xn_ok h7; subst e
  exact hk _ a1 a3 s0 s1 M r h8
def juX12_swingsOf_4 (k : Int32 → Int32 → Int32 → sy_M → sy_O) (ls st : List Value) (M : sy_M) : sy_O := sy_xc 121 ls fun l => sy_xi l fun a1 l => sy_xi l fun a2 l => sy_xi l fun a3 l => sy_xn l (sy_xn st (k a1 a2 a3 M))
theorem jwX12_swingsOf_4 {d : Nat} {k : Int32 → Int32 → Int32 → sy_M → sy_O} (hk : ∀ (a1 : Int32) (a2 : Int32) (a3 : Int32) (M : sy_M) (r : xe_R × sy_M), k a1 a2 a3 M = some r → sy_E (d) qX12_swingsOf 4 [.ref 121, .int a1, .int a2, .int a3] [] M r) : ∀ ls st M r, juX12_swingsOf_4 k ls st M = some r → sy_E d qX12_swingsOf 4 ls st M r := by
  intro ls st M r h
  obtain ⟨l, e, h1⟩ := sy_xc_ok h; subst e
  obtain ⟨a1, l, e, h2⟩ := sy_xi_ok h1; subst e
  obtain ⟨a2, l, e, h3⟩ := sy_xi_ok h2; subst e
  obtain ⟨a3, l, e, h4⟩ := sy_xi_ok h3; subst e
  obtain ⟨e, h5⟩ := sy_xn_ok h4; subst e
  obtain ⟨e, h6⟩ := sy_xn_ok h5; subst e
  exact hk a1 a2 a3 M r h6
def jfX12_swingsOf_27 (k4 : Int32 → Int32 → Int32 → sy_M → sy_O) (a1 : Int32) (a3 : Int32) (s0 : Int32) (s1 : Int32) (M : sy_M) : sy_O :=
  let v1 := (s1 + s0)
  let v2 := a3 + 1
  k4 a1 v1 v2 M
set_option maxRecDepth 100000 in
theorem jrX12_swingsOf_27 (k4 : Int32 → Int32 → Int32 → sy_M → sy_O) (w2 : Value) (a1 : Int32) (a3 : Int32) (s0 : Int32) (s1 : Int32) (M : sy_M) : sy_run skX12 qX12_swingsOf [(27, .iadd, 1, [true, true, false, true]), (28, .istore_n 2, 1, []), (29, .iinc 3 1, 3, []), (32, .goto (-28), 3, [])] [] [(4, juX12_swingsOf_4 k4)] 5 [] 27 [.ref 121, .int a1, w2, .int a3] [.int s0, .int s1] M = jfX12_swingsOf_27 k4 a1 a3 s0 s1 M := rfl
theorem jtX12_swingsOf_27 {k4 : Int32 → Int32 → Int32 → sy_M → sy_O} (hk4 : ∀ (a1 : Int32) (a2 : Int32) (a3 : Int32) (M : sy_M) (r : xe_R × sy_M), k4 a1 a2 a3 M = some r → sy_E (5) qX12_swingsOf 4 [.ref 121, .int a1, .int a2, .int a3] [] M r) : ∀ (w2 : Value) (a1 : Int32) (a3 : Int32) (s0 : Int32) (s1 : Int32) (M : sy_M) (r : xe_R × sy_M), jfX12_swingsOf_27 k4 a1 a3 s0 s1 M = some r → sy_E (5) qX12_swingsOf 27 [.ref 121, .int a1, w2, .int a3] [.int s0, .int s1] M r := by
  intro w2 a1 a3 s0 s1 M r h
  exact sy_run_by (d := 4) ((jrX12_swingsOf_27 _ _ _ _ _ _ M).trans h) hkX12 (by decide +kernel) sy_cs_nil (sy_us_cons (jwX12_swingsOf_4 hk4) sy_us_nil)
def jgX12_swingsOf_4 (k4 : Int32 → Int32 → Int32 → sy_M → sy_O) (a1 : Int32) (a2 : Int32) (a3 : Int32) (M : sy_M) : sy_O :=
  sy_bi (jfX12_all M) fun v2 M1 =>
  if v2 < a3 then
    sy_ri a2 M1
  else
    sy_bi (jfX12_swingsBy a3 a1 M1) fun v4 M3 =>
    if v4 = 0 then
      jfX12_swingsOf_27 k4 a1 a3 0 a2 M3
    else
      jfX12_swingsOf_27 k4 a1 a3 1 a2 M3
def jfX12_swingsOf_4 : Nat → Int32 → Int32 → Int32 → sy_M → sy_O
  | 0, _, _, _, _ => none
  | n + 1, a1, a2, a3, M => jgX12_swingsOf_4 (jfX12_swingsOf_4 n) a1 a2 a3 M
set_option maxRecDepth 100000 in
theorem jrX12_swingsOf_4 (k4 : Int32 → Int32 → Int32 → sy_M → sy_O) (a1 : Int32) (a2 : Int32) (a3 : Int32) (M : sy_M) : sy_run skX12 qX12_swingsOf [(4, .iload_n 3, 1, []), (5, .aload_n 0, 1, []), (6, .invokevirtual 287, 3, []), (9, .if_icmp .gt 26, 3, []), (12, .iload_n 2, 1, []), (13, .aload_n 0, 1, []), (14, .iload_n 3, 1, []), (15, .iload_n 1, 1, []), (16, .invokevirtual 373, 3, []), (19, .ifCond .eq 7, 3, []), (22, .iconst 1, 1, []), (23, .goto 4, 3, []), (26, .iconst 0, 1, [true, true, false, true]), (35, .iload_n 2, 1, [false, false, true, false]), (36, .ireturn, 1, [])] [(197, 0, jcX12_all), (293, 0, jcX12_swingsBy)] [(27, juX12_swingsOf_27 (jfX12_swingsOf_27 k4))] 16 [] 4 [.ref 121, .int a1, .int a2, .int a3] [] M = jgX12_swingsOf_4 k4 a1 a2 a3 M := rfl
theorem jtX12_swingsOf_4 : ∀ n : Nat, ∀ (a1 : Int32) (a2 : Int32) (a3 : Int32) (M : sy_M) (r : xe_R × sy_M), jfX12_swingsOf_4 n a1 a2 a3 M = some r → sy_E (5) qX12_swingsOf 4 [.ref 121, .int a1, .int a2, .int a3] [] M r := by
  intro n
  induction n with
  | zero => intro a1 a2 a3 M r h; exact absurd (show (none : sy_O) = some r from h) (by simp)
  | succ n ih => intro a1 a2 a3 M r h; exact sy_run_by (d := 4) ((jrX12_swingsOf_4 _ _ _ _ M).trans h) hkX12 (by decide +kernel) (sy_cs_cons (jeX12_all.deep (by decide)) (sy_cs_cons (jeX12_swingsBy.deep (by decide)) sy_cs_nil)) (sy_us_cons (jwX12_swingsOf_27 (jtX12_swingsOf_27 ih)) sy_us_nil)
def jfX12_swingsOf (a1 : Int32) (M : sy_M) : sy_O :=
  jfX12_swingsOf_4 sy_F a1 0 0 M
set_option maxRecDepth 100000 in
theorem jrX12_swingsOf (a1 : Int32) (M : sy_M) : sy_run skX12 qX12_swingsOf [(0, .iconst 0, 1, []), (1, .istore_n 2, 1, []), (2, .iconst 0, 1, []), (3, .istore_n 3, 1, [])] [] [(4, juX12_swingsOf_4 (jfX12_swingsOf_4 sy_F))] 5 [] 0 [.ref 121, .int a1, xe_no, xe_no] [] M = jfX12_swingsOf a1 M := rfl
theorem jtX12_swingsOf : ∀ (a1 : Int32) (M : sy_M) (r : xe_R × sy_M), jfX12_swingsOf a1 M = some r → sy_E (5) qX12_swingsOf 0 [.ref 121, .int a1, xe_no, xe_no] [] M r := by
  intro a1 M r h
  exact sy_run_by (d := 4) ((jrX12_swingsOf _ M).trans h) hkX12 (by decide +kernel) sy_cs_nil (sy_us_cons (jwX12_swingsOf_4 (jtX12_swingsOf_4 sy_F)) sy_us_nil)
def jcX12_swingsOf (as : List Value) (M : sy_M) (K : sy_O → sy_O) : sy_O := sy_xc 121 as fun l => sy_xi l fun a1 l => sy_xn l (K (jfX12_swingsOf a1 M))
theorem jeX12_swingsOf : sy_snd (5) 294 (jcX12_swingsOf) := by
  intro as M K r h
  obtain ⟨l, e, h1⟩ := sy_xc_ok h; subst e
  obtain ⟨a1, l, e, h2⟩ := sy_xi_ok h1; subst e
  obtain ⟨e, h3⟩ := sy_xn_ok h2; subst e
  exact ⟨_, h3, fun r1 h0 => ⟨qX12_swingsOf, rfl, rfl, jtX12_swingsOf _ M r1 h0⟩⟩
/-! X12_swings StairMeterModel swings (I)I [('R', 121), 'I'] -/
def juX12_swings_14 (k : Int32 → Int32 → sy_M → sy_O) (ls st : List Value) (M : sy_M) : sy_O := sy_xc 121 ls fun l => sy_xi l fun a1 l => sy_xn l (sy_xi st fun s0 l => sy_xc 121 l fun l => sy_xn l (k a1 s0 M))
theorem jwX12_swings_14 {d : Nat} {k : Int32 → Int32 → sy_M → sy_O} (hk : ∀ (a1 : Int32) (s0 : Int32) (M : sy_M) (r : xe_R × sy_M), k a1 s0 M = some r → sy_E (d) qX12_swings 14 [.ref 121, .int a1] [.int s0, .ref 121] M r) : ∀ ls st M r, juX12_swings_14 k ls st M = some r → sy_E d qX12_swings 14 ls st M r := by
  intro ls st M r h
  obtain ⟨l, e, h1⟩ := sy_xc_ok h; subst e
  obtain ⟨a1, l, e, h2⟩ := sy_xi_ok h1; subst e
  obtain ⟨e, h3⟩ := sy_xn_ok h2; subst e
  obtain ⟨s0, l, e, h4⟩ := sy_xi_ok h3; subst e
  obtain ⟨l, e, h5⟩ := sy_xc_ok h4; subst e
  obtain ⟨e, h6⟩ := sy_xn_ok h5; subst e
  exact hk a1 s0 M r h6
def jfX12_swings_14 (a1 : Int32) (s0 : Int32) (M : sy_M) : sy_O :=
  let M1 := sy_upd M 121 0 s0
  if 0 < (M1 121 0) then
    sy_ri 0 M1
  else
    sy_bi (jfX12_swingsOf a1 M1) fun v3 M2 =>
    sy_ri v3 M2
set_option maxRecDepth 100000 in
theorem jrX12_swings_14 (a1 : Int32) (s0 : Int32) (M : sy_M) : sy_run skX12 qX12_swings [(14, .putfield 45, 3, []), (17, .aload_n 0, 1, []), (18, .getfield 45, 3, []), (21, .ifCond .le 7, 3, []), (24, .iconst 0, 1, []), (25, .goto 8, 3, []), (28, .aload_n 0, 1, []), (29, .iload_n 1, 1, []), (30, .invokevirtual 376, 3, []), (33, .ireturn, 1, [false, false])] [(294, 0, jcX12_swingsOf)] [] 11 [] 14 [.ref 121, .int a1] [.int s0, .ref 121] M = jfX12_swings_14 a1 s0 M := rfl
theorem jtX12_swings_14 : ∀ (a1 : Int32) (s0 : Int32) (M : sy_M) (r : xe_R × sy_M), jfX12_swings_14 a1 s0 M = some r → sy_E (6) qX12_swings 14 [.ref 121, .int a1] [.int s0, .ref 121] M r := by
  intro a1 s0 M r h
  exact sy_run_by (d := 5) ((jrX12_swings_14 _ _ M).trans h) hkX12 (by decide +kernel) (sy_cs_cons (jeX12_swingsOf.deep (by decide)) sy_cs_nil) sy_us_nil
def jfX12_swings (a1 : Int32) (M : sy_M) : sy_O :=
  sy_bi (jfX12_isLodger a1 M) fun v2 M1 =>
  if v2 = 0 then
    jfX12_swings_14 a1 1 M1
  else
    jfX12_swings_14 a1 0 M1
set_option maxRecDepth 100000 in
theorem jrX12_swings (a1 : Int32) (M : sy_M) : sy_run skX12 qX12_swings [(0, .aload_n 0, 1, []), (1, .aload_n 0, 1, []), (2, .iload_n 1, 1, []), (3, .invokevirtual 284, 3, []), (6, .ifCond .ne 7, 3, []), (9, .iconst 1, 1, []), (10, .goto 4, 3, []), (13, .iconst 0, 1, [])] [(190, 0, jcX12_isLodger)] [(14, juX12_swings_14 (jfX12_swings_14))] 9 [] 0 [.ref 121, .int a1] [] M = jfX12_swings a1 M := rfl
theorem jtX12_swings : ∀ (a1 : Int32) (M : sy_M) (r : xe_R × sy_M), jfX12_swings a1 M = some r → sy_E (6) qX12_swings 0 [.ref 121, .int a1] [] M r := by
  intro a1 M r h
  exact sy_run_by (d := 5) ((jrX12_swings _ M).trans h) hkX12 (by decide +kernel) (sy_cs_cons (jeX12_isLodger.deep (by decide)) sy_cs_nil) (sy_us_cons (jwX12_swings_14 (jtX12_swings_14)) sy_us_nil)
def jcX12_swings (as : List Value) (M : sy_M) (K : sy_O → sy_O) : sy_O := sy_xc 121 as fun l => sy_xi l fun a1 l => sy_xn l (K (jfX12_swings a1 M))
theorem jeX12_swings : sy_snd (6) 295 (jcX12_swings) := by
  intro as M K r h
  obtain ⟨l, e, h1⟩ := sy_xc_ok h; subst e
  obtain ⟨a1, l, e, h2⟩ := sy_xi_ok h1; subst e
  obtain ⟨e, h3⟩ := sy_xn_ok h2; subst e
  exact ⟨_, h3, fun r1 h0 => ⟨qX12_swings, rfl, rfl, jtX12_swings _ M r1 h0⟩⟩
/-! X11_needsEach StairMeter needsEach (I)Z [('R', 0), 'I'] -/
def juX11_needsEach_37 (k : Int32 → Int32 → sy_M → sy_O) (ls st : List Value) (M : sy_M) : sy_O := sy_xc 0 ls fun l => sy_xi l fun a1 l => sy_xi l fun a2 l => sy_xn l (sy_xn st (k a1 a2 M))
theorem jwX11_needsEach_37 {d : Nat} {k : Int32 → Int32 → sy_M → sy_O} (hk : ∀ (a1 : Int32) (a2 : Int32) (M : sy_M) (r : xe_R × sy_M), k a1 a2 M = some r → sy_E (d) qX11_needsEach 37 [.ref 0, .int a1, .int a2] [] M r) : ∀ ls st M r, juX11_needsEach_37 k ls st M = some r → sy_E d qX11_needsEach 37 ls st M r := by
  intro ls st M r h
  obtain ⟨l, e, h1⟩ := sy_xc_ok h; subst e
  obtain ⟨a1, l, e, h2⟩ := sy_xi_ok h1; subst e
  obtain ⟨a2, l, e, h3⟩ := sy_xi_ok h2; subst e
  obtain ⟨e, h4⟩ := sy_xn_ok h3; subst e
  obtain ⟨e, h5⟩ := sy_xn_ok h4; subst e
  exact hk a1 a2 M r h5
def juX11_needsEach_2 (k : Int32 → Int32 → sy_M → sy_O) (ls st : List Value) (M : sy_M) : sy_O := sy_xc 0 ls fun l => sy_xi l fun a1 l => sy_xi l fun a2 l => sy_xn l (sy_xn st (k a1 a2 M))
theorem jwX11_needsEach_2 {d : Nat} {k : Int32 → Int32 → sy_M → sy_O} (hk : ∀ (a1 : Int32) (a2 : Int32) (M : sy_M) (r : xe_R × sy_M), k a1 a2 M = some r → sy_E (d) qX11_needsEach 2 [.ref 0, .int a1, .int a2] [] M r) : ∀ ls st M r, juX11_needsEach_2 k ls st M = some r → sy_E d qX11_needsEach 2 ls st M r := by
  intro ls st M r h
  obtain ⟨l, e, h1⟩ := sy_xc_ok h; subst e
  obtain ⟨a1, l, e, h2⟩ := sy_xi_ok h1; subst e
  obtain ⟨a2, l, e, h3⟩ := sy_xi_ok h2; subst e
  obtain ⟨e, h4⟩ := sy_xn_ok h3; subst e
  obtain ⟨e, h5⟩ := sy_xn_ok h4; subst e
  exact hk a1 a2 M r h5
def jfX11_needsEach_37 (k2 : Int32 → Int32 → sy_M → sy_O) (a1 : Int32) (a2 : Int32) (M : sy_M) : sy_O :=
  let v1 := a2 + 1
  k2 a1 v1 M
set_option maxRecDepth 100000 in
theorem jrX11_needsEach_37 (k2 : Int32 → Int32 → sy_M → sy_O) (a1 : Int32) (a2 : Int32) (M : sy_M) : sy_run skX11 qX11_needsEach [(37, .iinc 2 1, 3, []), (40, .goto (-38), 3, [])] [] [(2, juX11_needsEach_2 k2)] 3 [] 37 [.ref 0, .int a1, .int a2] [] M = jfX11_needsEach_37 k2 a1 a2 M := rfl
theorem jtX11_needsEach_37 {k2 : Int32 → Int32 → sy_M → sy_O} (hk2 : ∀ (a1 : Int32) (a2 : Int32) (M : sy_M) (r : xe_R × sy_M), k2 a1 a2 M = some r → sy_E (3) qX11_needsEach 2 [.ref 0, .int a1, .int a2] [] M r) : ∀ (a1 : Int32) (a2 : Int32) (M : sy_M) (r : xe_R × sy_M), jfX11_needsEach_37 k2 a1 a2 M = some r → sy_E (3) qX11_needsEach 37 [.ref 0, .int a1, .int a2] [] M r := by
  intro a1 a2 M r h
  exact sy_run_by (d := 2) ((jrX11_needsEach_37 _ _ _ M).trans h) hkX11 (by decide +kernel) sy_cs_nil (sy_us_cons (jwX11_needsEach_2 hk2) sy_us_nil)
def jgX11_needsEach_2 (k2 : Int32 → Int32 → sy_M → sy_O) (a1 : Int32) (a2 : Int32) (M : sy_M) : sy_O :=
  if a2 < (M 9 3) then
    if ((a1 >>> (a2 &&& 31)) &&& 1) = 0 then
      jfX11_needsEach_37 k2 a1 a2 M
    else
      sy_bi (jfX11_carries (a1 &&& ((1 <<< (a2 &&& 31)) ^^^ (-1))) M) fun v2 M1 =>
      if v2 = 0 then
        jfX11_needsEach_37 k2 a1 a2 M1
      else
        sy_ri 0 M1
  else
    sy_ri 1 M
def jfX11_needsEach_2 : Nat → Int32 → Int32 → sy_M → sy_O
  | 0, _, _, _ => none
  | n + 1, a1, a2, M => jgX11_needsEach_2 (jfX11_needsEach_2 n) a1 a2 M
set_option maxRecDepth 100000 in
theorem jrX11_needsEach_2 (k2 : Int32 → Int32 → sy_M → sy_O) (a1 : Int32) (a2 : Int32) (M : sy_M) : sy_run skX11 qX11_needsEach [(2, .iload_n 2, 1, []), (3, .aload_n 0, 1, []), (4, .getfield 28, 3, []), (7, .getfield 207, 3, []), (10, .if_icmp .ge 33, 3, []), (13, .iload_n 1, 1, []), (14, .iload_n 2, 1, []), (15, .ishr, 1, []), (16, .iconst 1, 1, []), (17, .iand, 1, []), (18, .ifCond .eq 19, 3, []), (21, .aload_n 0, 1, []), (22, .iload_n 1, 1, []), (23, .iconst 1, 1, []), (24, .iload_n 2, 1, []), (25, .ishl, 1, []), (26, .iconst (-1), 1, []), (27, .ixor, 1, []), (28, .iand, 1, []), (29, .invokevirtual 377, 3, []), (32, .ifCond .eq 5, 3, []), (35, .iconst 0, 1, []), (36, .ireturn, 1, []), (43, .iconst 1, 1, [false, false, false]), (44, .ireturn, 1, [])] [(155, 0, jcX11_carries)] [(37, juX11_needsEach_37 (jfX11_needsEach_37 k2))] 26 [] 2 [.ref 0, .int a1, .int a2] [] M = jgX11_needsEach_2 k2 a1 a2 M := rfl
theorem jtX11_needsEach_2 : ∀ n : Nat, ∀ (a1 : Int32) (a2 : Int32) (M : sy_M) (r : xe_R × sy_M), jfX11_needsEach_2 n a1 a2 M = some r → sy_E (3) qX11_needsEach 2 [.ref 0, .int a1, .int a2] [] M r := by
  intro n
  induction n with
  | zero => intro a1 a2 M r h; exact absurd (show (none : sy_O) = some r from h) (by simp)
  | succ n ih => intro a1 a2 M r h; exact sy_run_by (d := 2) ((jrX11_needsEach_2 _ _ _ M).trans h) hkX11 (by decide +kernel) (sy_cs_cons (jeX11_carries.deep (by decide)) sy_cs_nil) (sy_us_cons (jwX11_needsEach_37 (jtX11_needsEach_37 ih)) sy_us_nil)
def jfX11_needsEach (a1 : Int32) (M : sy_M) : sy_O :=
  jfX11_needsEach_2 sy_F a1 0 M
set_option maxRecDepth 100000 in
theorem jrX11_needsEach (a1 : Int32) (M : sy_M) : sy_run skX11 qX11_needsEach [(0, .iconst 0, 1, []), (1, .istore_n 2, 1, [])] [] [(2, juX11_needsEach_2 (jfX11_needsEach_2 sy_F))] 3 [] 0 [.ref 0, .int a1, xe_no] [] M = jfX11_needsEach a1 M := rfl
theorem jtX11_needsEach : ∀ (a1 : Int32) (M : sy_M) (r : xe_R × sy_M), jfX11_needsEach a1 M = some r → sy_E (3) qX11_needsEach 0 [.ref 0, .int a1, xe_no] [] M r := by
  intro a1 M r h
  exact sy_run_by (d := 2) ((jrX11_needsEach _ M).trans h) hkX11 (by decide +kernel) sy_cs_nil (sy_us_cons (jwX11_needsEach_2 (jtX11_needsEach_2 sy_F)) sy_us_nil)
def jcX11_needsEach (as : List Value) (M : sy_M) (K : sy_O → sy_O) : sy_O := sy_xc 0 as fun l => sy_xi l fun a1 l => sy_xn l (K (jfX11_needsEach a1 M))
theorem jeX11_needsEach : sy_snd (3) 154 (jcX11_needsEach) := by
  intro as M K r h
  obtain ⟨l, e, h1⟩ := sy_xc_ok h; subst e
  obtain ⟨a1, l, e, h2⟩ := sy_xi_ok h1; subst e
  obtain ⟨e, h3⟩ := sy_xn_ok h2; subst e
  exact ⟨_, h3, fun r1 h0 => ⟨qX11_needsEach, rfl, rfl, jtX11_needsEach _ M r1 h0⟩⟩
/-! X11_minimal StairMeter minimal ()I [('R', 0)] -/
def juX11_minimal_31 (k : Int32 → Int32 → sy_M → sy_O) (ls st : List Value) (M : sy_M) : sy_O := sy_xc 0 ls fun l => sy_xi l fun a1 l => sy_xi l fun a2 l => sy_xn l (sy_xn st (k a1 a2 M))
theorem jwX11_minimal_31 {d : Nat} {k : Int32 → Int32 → sy_M → sy_O} (hk : ∀ (a1 : Int32) (a2 : Int32) (M : sy_M) (r : xe_R × sy_M), k a1 a2 M = some r → sy_E (d) qX11_minimal 31 [.ref 0, .int a1, .int a2] [] M r) : ∀ ls st M r, juX11_minimal_31 k ls st M = some r → sy_E d qX11_minimal 31 ls st M r := by
  intro ls st M r h
  obtain ⟨l, e, h1⟩ := sy_xc_ok h; subst e
  obtain ⟨a1, l, e, h2⟩ := sy_xi_ok h1; subst e
  obtain ⟨a2, l, e, h3⟩ := sy_xi_ok h2; subst e
  obtain ⟨e, h4⟩ := sy_xn_ok h3; subst e
  obtain ⟨e, h5⟩ := sy_xn_ok h4; subst e
  exact hk a1 a2 M r h5
def juX11_minimal_4 (k : Int32 → Int32 → sy_M → sy_O) (ls st : List Value) (M : sy_M) : sy_O := sy_xc 0 ls fun l => sy_xi l fun a1 l => sy_xi l fun a2 l => sy_xn l (sy_xn st (k a1 a2 M))
theorem jwX11_minimal_4 {d : Nat} {k : Int32 → Int32 → sy_M → sy_O} (hk : ∀ (a1 : Int32) (a2 : Int32) (M : sy_M) (r : xe_R × sy_M), k a1 a2 M = some r → sy_E (d) qX11_minimal 4 [.ref 0, .int a1, .int a2] [] M r) : ∀ ls st M r, juX11_minimal_4 k ls st M = some r → sy_E d qX11_minimal 4 ls st M r := by
  intro ls st M r h
  obtain ⟨l, e, h1⟩ := sy_xc_ok h; subst e
  obtain ⟨a1, l, e, h2⟩ := sy_xi_ok h1; subst e
  obtain ⟨a2, l, e, h3⟩ := sy_xi_ok h2; subst e
  obtain ⟨e, h4⟩ := sy_xn_ok h3; subst e
  obtain ⟨e, h5⟩ := sy_xn_ok h4; subst e
  exact hk a1 a2 M r h5
def jfX11_minimal_31 (k4 : Int32 → Int32 → sy_M → sy_O) (a1 : Int32) (a2 : Int32) (M : sy_M) : sy_O :=
  let v1 := a2 + 1
  k4 a1 v1 M
set_option maxRecDepth 100000 in
theorem jrX11_minimal_31 (k4 : Int32 → Int32 → sy_M → sy_O) (a1 : Int32) (a2 : Int32) (M : sy_M) : sy_run skX11 qX11_minimal [(31, .iinc 2 1, 3, []), (34, .goto (-30), 3, [])] [] [(4, juX11_minimal_4 k4)] 3 [] 31 [.ref 0, .int a1, .int a2] [] M = jfX11_minimal_31 k4 a1 a2 M := rfl
theorem jtX11_minimal_31 {k4 : Int32 → Int32 → sy_M → sy_O} (hk4 : ∀ (a1 : Int32) (a2 : Int32) (M : sy_M) (r : xe_R × sy_M), k4 a1 a2 M = some r → sy_E (4) qX11_minimal 4 [.ref 0, .int a1, .int a2] [] M r) : ∀ (a1 : Int32) (a2 : Int32) (M : sy_M) (r : xe_R × sy_M), jfX11_minimal_31 k4 a1 a2 M = some r → sy_E (4) qX11_minimal 31 [.ref 0, .int a1, .int a2] [] M r := by
  intro a1 a2 M r h
  exact sy_run_by (d := 3) ((jrX11_minimal_31 _ _ _ M).trans h) hkX11 (by decide +kernel) sy_cs_nil (sy_us_cons (jwX11_minimal_4 hk4) sy_us_nil)
def jgX11_minimal_4 (k4 : Int32 → Int32 → sy_M → sy_O) (a1 : Int32) (a2 : Int32) (M : sy_M) : sy_O :=
  sy_bi (jfX11_everybody M) fun v2 M1 =>
  if v2 < a2 then
    sy_ri a1 M1
  else
    sy_bi (jfX11_carries a2 M1) fun v4 M3 =>
    if v4 = 0 then
      jfX11_minimal_31 k4 a1 a2 M3
    else
      sy_bi (jfX11_needsEach a2 M3) fun v6 M5 =>
      if v6 = 0 then
        jfX11_minimal_31 k4 a1 a2 M5
      else
        let v7 := a1 + 1
        jfX11_minimal_31 k4 v7 a2 M5
def jfX11_minimal_4 : Nat → Int32 → Int32 → sy_M → sy_O
  | 0, _, _, _ => none
  | n + 1, a1, a2, M => jgX11_minimal_4 (jfX11_minimal_4 n) a1 a2 M
set_option maxRecDepth 100000 in
theorem jrX11_minimal_4 (k4 : Int32 → Int32 → sy_M → sy_O) (a1 : Int32) (a2 : Int32) (M : sy_M) : sy_run skX11 qX11_minimal [(4, .iload_n 2, 1, []), (5, .aload_n 0, 1, []), (6, .invokevirtual 318, 3, []), (9, .if_icmp .gt 28, 3, []), (12, .aload_n 0, 1, []), (13, .iload_n 2, 1, []), (14, .invokevirtual 377, 3, []), (17, .ifCond .eq 14, 3, []), (20, .aload_n 0, 1, []), (21, .iload_n 2, 1, []), (22, .invokevirtual 383, 3, []), (25, .ifCond .eq 6, 3, []), (28, .iinc 1 1, 3, []), (37, .iload_n 1, 1, [false, true, false]), (38, .ireturn, 1, [])] [(175, 0, jcX11_everybody), (155, 0, jcX11_carries), (154, 0, jcX11_needsEach)] [(31, juX11_minimal_31 (jfX11_minimal_31 k4))] 16 [] 4 [.ref 0, .int a1, .int a2] [] M = jgX11_minimal_4 k4 a1 a2 M := rfl
theorem jtX11_minimal_4 : ∀ n : Nat, ∀ (a1 : Int32) (a2 : Int32) (M : sy_M) (r : xe_R × sy_M), jfX11_minimal_4 n a1 a2 M = some r → sy_E (4) qX11_minimal 4 [.ref 0, .int a1, .int a2] [] M r := by
  intro n
  induction n with
  | zero => intro a1 a2 M r h; exact absurd (show (none : sy_O) = some r from h) (by simp)
  | succ n ih => intro a1 a2 M r h; exact sy_run_by (d := 3) ((jrX11_minimal_4 _ _ _ M).trans h) hkX11 (by decide +kernel) (sy_cs_cons (jeX11_everybody.deep (by decide)) (sy_cs_cons (jeX11_carries.deep (by decide)) (sy_cs_cons (jeX11_needsEach.deep (by decide)) sy_cs_nil))) (sy_us_cons (jwX11_minimal_31 (jtX11_minimal_31 ih)) sy_us_nil)
def jfX11_minimal (M : sy_M) : sy_O :=
  jfX11_minimal_4 sy_F 0 0 M
set_option maxRecDepth 100000 in
theorem jrX11_minimal (M : sy_M) : sy_run skX11 qX11_minimal [(0, .iconst 0, 1, []), (1, .istore_n 1, 1, []), (2, .iconst 0, 1, []), (3, .istore_n 2, 1, [])] [] [(4, juX11_minimal_4 (jfX11_minimal_4 sy_F))] 5 [] 0 [.ref 0, xe_no, xe_no] [] M = jfX11_minimal M := rfl
theorem jtX11_minimal : ∀ (M : sy_M) (r : xe_R × sy_M), jfX11_minimal M = some r → sy_E (4) qX11_minimal 0 [.ref 0, xe_no, xe_no] [] M r := by
  intro  M r h
  exact sy_run_by (d := 3) ((jrX11_minimal M).trans h) hkX11 (by decide +kernel) sy_cs_nil (sy_us_cons (jwX11_minimal_4 (jtX11_minimal_4 sy_F)) sy_us_nil)
def jcX11_minimal (as : List Value) (M : sy_M) (K : sy_O → sy_O) : sy_O := sy_xc 0 as fun l => sy_xn l (K (jfX11_minimal M))
theorem jeX11_minimal : sy_snd (4) 151 (jcX11_minimal) := by
  intro as M K r h
  obtain ⟨l, e, h1⟩ := sy_xc_ok h; subst e
  obtain ⟨e, h2⟩ := sy_xn_ok h1; subst e
  exact ⟨_, h2, fun r1 h0 => ⟨qX11_minimal, rfl, rfl, jtX11_minimal  M r1 h0⟩⟩
/-! X12_isLeast StairMeterModel isLeast (I)Z [('R', 121), 'I'] -/
def juX12_isLeast_44 (k : Int32 → Int32 → Int32 → sy_M → sy_O) (ls st : List Value) (M : sy_M) : sy_O := sy_xc 121 ls fun l => sy_xi l fun a1 l => sy_xv l fun _ l => sy_xi l fun a3 l => sy_xn l (sy_xi st fun s0 l => sy_xn l (k a1 a3 s0 M))
theorem jwX12_isLeast_44 {d : Nat} {k : Int32 → Int32 → Int32 → sy_M → sy_O} (hk : ∀ (w2 : Value) (a1 : Int32) (a3 : Int32) (s0 : Int32) (M : sy_M) (r : xe_R × sy_M), k a1 a3 s0 M = some r → sy_E (d) qX12_isLeast 44 [.ref 121, .int a1, w2, .int a3] [.int s0] M r) : ∀ ls st M r, juX12_isLeast_44 k ls st M = some r → sy_E d qX12_isLeast 44 ls st M r := by
  intro ls st M r h
  obtain ⟨l, e, h1⟩ := sy_xc_ok h; subst e
  obtain ⟨a1, l, e, h2⟩ := sy_xi_ok h1; subst e
  obtain ⟨w2, l, e, h3⟩ := sy_xv_ok h2; subst e
  obtain ⟨a3, l, e, h4⟩ := sy_xi_ok h3; subst e
  obtain ⟨e, h5⟩ := sy_xn_ok h4; subst e
  obtain ⟨s0, l, e, h6⟩ := sy_xi_ok h5; subst e
  obtain ⟨e, h7⟩ := sy_xn_ok h6; subst e
  exact hk _ a1 a3 s0 M r h7
def juX12_isLeast_39 (k : Int32 → Int32 → sy_M → sy_O) (ls st : List Value) (M : sy_M) : sy_O := sy_xc 121 ls fun l => sy_xi l fun a1 l => sy_xv l fun _ l => sy_xi l fun a3 l => sy_xn l (sy_xn st (k a1 a3 M))
theorem jwX12_isLeast_39 {d : Nat} {k : Int32 → Int32 → sy_M → sy_O} (hk : ∀ (w2 : Value) (a1 : Int32) (a3 : Int32) (M : sy_M) (r : xe_R × sy_M), k a1 a3 M = some r → sy_E (d) qX12_isLeast 39 [.ref 121, .int a1, w2, .int a3] [] M r) : ∀ ls st M r, juX12_isLeast_39 k ls st M = some r → sy_E d qX12_isLeast 39 ls st M r := by
  intro ls st M r h
  obtain ⟨l, e, h1⟩ := sy_xc_ok h; subst e
  obtain ⟨a1, l, e, h2⟩ := sy_xi_ok h1; subst e
  obtain ⟨w2, l, e, h3⟩ := sy_xv_ok h2; subst e
  obtain ⟨a3, l, e, h4⟩ := sy_xi_ok h3; subst e
  obtain ⟨e, h5⟩ := sy_xn_ok h4; subst e
  obtain ⟨e, h6⟩ := sy_xn_ok h5; subst e
  exact hk _ a1 a3 M r h6
def juX12_isLeast_8 (k : Int32 → Int32 → Int32 → sy_M → sy_O) (ls st : List Value) (M : sy_M) : sy_O := sy_xc 121 ls fun l => sy_xi l fun a1 l => sy_xi l fun a2 l => sy_xi l fun a3 l => sy_xn l (sy_xn st (k a1 a2 a3 M))
theorem jwX12_isLeast_8 {d : Nat} {k : Int32 → Int32 → Int32 → sy_M → sy_O} (hk : ∀ (a1 : Int32) (a2 : Int32) (a3 : Int32) (M : sy_M) (r : xe_R × sy_M), k a1 a2 a3 M = some r → sy_E (d) qX12_isLeast 8 [.ref 121, .int a1, .int a2, .int a3] [] M r) : ∀ ls st M r, juX12_isLeast_8 k ls st M = some r → sy_E d qX12_isLeast 8 ls st M r := by
  intro ls st M r h
  obtain ⟨l, e, h1⟩ := sy_xc_ok h; subst e
  obtain ⟨a1, l, e, h2⟩ := sy_xi_ok h1; subst e
  obtain ⟨a2, l, e, h3⟩ := sy_xi_ok h2; subst e
  obtain ⟨a3, l, e, h4⟩ := sy_xi_ok h3; subst e
  obtain ⟨e, h5⟩ := sy_xn_ok h4; subst e
  obtain ⟨e, h6⟩ := sy_xn_ok h5; subst e
  exact hk a1 a2 a3 M r h6
def jfX12_isLeast_44 (k8 : Int32 → Int32 → Int32 → sy_M → sy_O) (a1 : Int32) (a3 : Int32) (s0 : Int32) (M : sy_M) : sy_O :=
  let v1 := a3 + 1
  k8 a1 s0 v1 M
set_option maxRecDepth 100000 in
theorem jrX12_isLeast_44 (k8 : Int32 → Int32 → Int32 → sy_M → sy_O) (w2 : Value) (a1 : Int32) (a3 : Int32) (s0 : Int32) (M : sy_M) : sy_run skX12 qX12_isLeast [(44, .istore_n 2, 1, [true, true, false, true]), (45, .iinc 3 1, 3, []), (48, .goto (-40), 3, [])] [] [(8, juX12_isLeast_8 k8)] 4 [] 44 [.ref 121, .int a1, w2, .int a3] [.int s0] M = jfX12_isLeast_44 k8 a1 a3 s0 M := rfl
theorem jtX12_isLeast_44 {k8 : Int32 → Int32 → Int32 → sy_M → sy_O} (hk8 : ∀ (a1 : Int32) (a2 : Int32) (a3 : Int32) (M : sy_M) (r : xe_R × sy_M), k8 a1 a2 a3 M = some r → sy_E (5) qX12_isLeast 8 [.ref 121, .int a1, .int a2, .int a3] [] M r) : ∀ (w2 : Value) (a1 : Int32) (a3 : Int32) (s0 : Int32) (M : sy_M) (r : xe_R × sy_M), jfX12_isLeast_44 k8 a1 a3 s0 M = some r → sy_E (5) qX12_isLeast 44 [.ref 121, .int a1, w2, .int a3] [.int s0] M r := by
  intro w2 a1 a3 s0 M r h
  exact sy_run_by (d := 4) ((jrX12_isLeast_44 _ _ _ _ _ M).trans h) hkX12 (by decide +kernel) sy_cs_nil (sy_us_cons (jwX12_isLeast_8 hk8) sy_us_nil)
def jfX12_isLeast_39 (k8 : Int32 → Int32 → Int32 → sy_M → sy_O) (a1 : Int32) (a3 : Int32) (M : sy_M) : sy_O :=
  jfX12_isLeast_44 k8 a1 a3 1 M
set_option maxRecDepth 100000 in
theorem jrX12_isLeast_39 (k8 : Int32 → Int32 → Int32 → sy_M → sy_O) (w2 : Value) (a1 : Int32) (a3 : Int32) (M : sy_M) : sy_run skX12 qX12_isLeast [(39, .iconst 1, 1, [true, true, false, true]), (40, .goto 4, 3, [])] [] [(44, juX12_isLeast_44 (jfX12_isLeast_44 k8))] 3 [] 39 [.ref 121, .int a1, w2, .int a3] [] M = jfX12_isLeast_39 k8 a1 a3 M := rfl
theorem jtX12_isLeast_39 {k8 : Int32 → Int32 → Int32 → sy_M → sy_O} (hk8 : ∀ (a1 : Int32) (a2 : Int32) (a3 : Int32) (M : sy_M) (r : xe_R × sy_M), k8 a1 a2 a3 M = some r → sy_E (5) qX12_isLeast 8 [.ref 121, .int a1, .int a2, .int a3] [] M r) : ∀ (w2 : Value) (a1 : Int32) (a3 : Int32) (M : sy_M) (r : xe_R × sy_M), jfX12_isLeast_39 k8 a1 a3 M = some r → sy_E (5) qX12_isLeast 39 [.ref 121, .int a1, w2, .int a3] [] M r := by
  intro w2 a1 a3 M r h
  exact sy_run_by (d := 4) ((jrX12_isLeast_39 _ _ _ _ M).trans h) hkX12 (by decide +kernel) sy_cs_nil (sy_us_cons (jwX12_isLeast_44 (jtX12_isLeast_44 hk8)) sy_us_nil)
def jgX12_isLeast_8 (k8 : Int32 → Int32 → Int32 → sy_M → sy_O) (a1 : Int32) (a2 : Int32) (a3 : Int32) (M : sy_M) : sy_O :=
  if a3 < (M 122 3) then
    if a2 = 0 then
      sy_bb (sy_bo a2) <| sy_ri a2 M
    else
      sy_bi (jfX12_isOf a1 a3 M) fun v2 M1 =>
      if v2 = 0 then
        jfX12_isLeast_39 k8 a1 a3 M1
      else
        sy_bi (jfX12_swingsBy a1 a3 M1) fun v4 M3 =>
        if v4 = 0 then
          jfX12_isLeast_44 k8 a1 a3 0 M3
        else
          jfX12_isLeast_39 k8 a1 a3 M3
  else
    sy_bb (sy_bo a2) <| sy_ri a2 M
def jfX12_isLeast_8 : Nat → Int32 → Int32 → Int32 → sy_M → sy_O
  | 0, _, _, _, _ => none
  | n + 1, a1, a2, a3, M => jgX12_isLeast_8 (jfX12_isLeast_8 n) a1 a2 a3 M
set_option maxRecDepth 100000 in
theorem jrX12_isLeast_8 (k8 : Int32 → Int32 → Int32 → sy_M → sy_O) (a1 : Int32) (a2 : Int32) (a3 : Int32) (M : sy_M) : sy_run skX12 qX12_isLeast [(8, .iload_n 3, 1, []), (9, .aload_n 0, 1, []), (10, .getfield 7, 3, []), (13, .iconst 3, 1, []), (14, .iaload, 1, []), (15, .if_icmp .ge 36, 3, []), (18, .iload_n 2, 1, []), (19, .ifCond .eq 32, 3, []), (22, .iload_n 1, 1, []), (23, .iload_n 3, 1, []), (24, .invokestatic 60, 3, []), (27, .ifCond .eq 12, 3, []), (30, .aload_n 0, 1, []), (31, .iload_n 1, 1, []), (32, .iload_n 3, 1, []), (33, .invokevirtual 373, 3, []), (36, .ifCond .eq 7, 3, []), (43, .iconst 0, 1, [true, true, false, true]), (51, .iload_n 2, 1, [false, false, true, false]), (52, .ireturn, 1, [])] [(185, 0, jcX12_isOf), (293, 0, jcX12_swingsBy)] [(39, juX12_isLeast_39 (jfX12_isLeast_39 k8)), (44, juX12_isLeast_44 (jfX12_isLeast_44 k8))] 21 [] 8 [.ref 121, .int a1, .int a2, .int a3] [] M = jgX12_isLeast_8 k8 a1 a2 a3 M := rfl
theorem jtX12_isLeast_8 : ∀ n : Nat, ∀ (a1 : Int32) (a2 : Int32) (a3 : Int32) (M : sy_M) (r : xe_R × sy_M), jfX12_isLeast_8 n a1 a2 a3 M = some r → sy_E (5) qX12_isLeast 8 [.ref 121, .int a1, .int a2, .int a3] [] M r := by
  intro n
  induction n with
  | zero => intro a1 a2 a3 M r h; exact absurd (show (none : sy_O) = some r from h) (by simp)
  | succ n ih => intro a1 a2 a3 M r h; exact sy_run_by (d := 4) ((jrX12_isLeast_8 _ _ _ _ M).trans h) hkX12 (by decide +kernel) (sy_cs_cons (jeX12_isOf.deep (by decide)) (sy_cs_cons (jeX12_swingsBy.deep (by decide)) sy_cs_nil)) (sy_us_cons (jwX12_isLeast_39 (jtX12_isLeast_39 ih)) (sy_us_cons (jwX12_isLeast_44 (jtX12_isLeast_44 ih)) sy_us_nil))
def jfX12_isLeast (a1 : Int32) (M : sy_M) : sy_O :=
  sy_bi (jfX12_carries a1 M) fun v2 M1 =>
  jfX12_isLeast_8 sy_F a1 v2 0 M1
set_option maxRecDepth 100000 in
theorem jrX12_isLeast (a1 : Int32) (M : sy_M) : sy_run skX12 qX12_isLeast [(0, .aload_n 0, 1, []), (1, .iload_n 1, 1, []), (2, .invokevirtual 370, 3, []), (5, .istore_n 2, 1, []), (6, .iconst 0, 1, []), (7, .istore_n 3, 1, [])] [(291, 0, jcX12_carries)] [(8, juX12_isLeast_8 (jfX12_isLeast_8 sy_F))] 7 [] 0 [.ref 121, .int a1, xe_no, xe_no] [] M = jfX12_isLeast a1 M := rfl
theorem jtX12_isLeast : ∀ (a1 : Int32) (M : sy_M) (r : xe_R × sy_M), jfX12_isLeast a1 M = some r → sy_E (5) qX12_isLeast 0 [.ref 121, .int a1, xe_no, xe_no] [] M r := by
  intro a1 M r h
  exact sy_run_by (d := 4) ((jrX12_isLeast _ M).trans h) hkX12 (by decide +kernel) (sy_cs_cons (jeX12_carries.deep (by decide)) sy_cs_nil) (sy_us_cons (jwX12_isLeast_8 (jtX12_isLeast_8 sy_F)) sy_us_nil)
def jcX12_isLeast (as : List Value) (M : sy_M) (K : sy_O → sy_O) : sy_O := sy_xc 121 as fun l => sy_xi l fun a1 l => sy_xn l (K (jfX12_isLeast a1 M))
theorem jeX12_isLeast : sy_snd (5) 296 (jcX12_isLeast) := by
  intro as M K r h
  obtain ⟨l, e, h1⟩ := sy_xc_ok h; subst e
  obtain ⟨a1, l, e, h2⟩ := sy_xi_ok h1; subst e
  obtain ⟨e, h3⟩ := sy_xn_ok h2; subst e
  exact ⟨_, h3, fun r1 h0 => ⟨qX12_isLeast, rfl, rfl, jtX12_isLeast _ M r1 h0⟩⟩
/-! X12_minimal StairMeterModel minimal ()I [('R', 121)] -/
def juX12_minimal_31 (k : Int32 → Int32 → Int32 → sy_M → sy_O) (ls st : List Value) (M : sy_M) : sy_O := sy_xc 121 ls fun l => sy_xv l fun _ l => sy_xi l fun a2 l => sy_xn l (sy_xi st fun s0 l => sy_xi l fun s1 l => sy_xn l (k a2 s0 s1 M))
theorem jwX12_minimal_31 {d : Nat} {k : Int32 → Int32 → Int32 → sy_M → sy_O} (hk : ∀ (w1 : Value) (a2 : Int32) (s0 : Int32) (s1 : Int32) (M : sy_M) (r : xe_R × sy_M), k a2 s0 s1 M = some r → sy_E (d) qX12_minimal 31 [.ref 121, w1, .int a2] [.int s0, .int s1] M r) : ∀ ls st M r, juX12_minimal_31 k ls st M = some r → sy_E d qX12_minimal 31 ls st M r := by
  intro ls st M r h
  obtain ⟨l, e, h1⟩ := sy_xc_ok h; subst e
  obtain ⟨w1, l, e, h2⟩ := sy_xv_ok h1; subst e
  obtain ⟨a2, l, e, h3⟩ := sy_xi_ok h2; subst e
  obtain ⟨e, h4⟩ := sy_xn_ok h3; subst e
  obtain ⟨s0, l, e, h5⟩ := sy_xi_ok h4; subst e
  obtain ⟨s1, l, e, h6⟩ := sy_xi_ok h5; subst e
  obtain ⟨e, h7⟩ := sy_xn_ok h6; subst e
  exact hk _ a2 s0 s1 M r h7
def juX12_minimal_9 (k : Int32 → Int32 → sy_M → sy_O) (ls st : List Value) (M : sy_M) : sy_O := sy_xc 121 ls fun l => sy_xi l fun a1 l => sy_xi l fun a2 l => sy_xn l (sy_xn st (k a1 a2 M))
theorem jwX12_minimal_9 {d : Nat} {k : Int32 → Int32 → sy_M → sy_O} (hk : ∀ (a1 : Int32) (a2 : Int32) (M : sy_M) (r : xe_R × sy_M), k a1 a2 M = some r → sy_E (d) qX12_minimal 9 [.ref 121, .int a1, .int a2] [] M r) : ∀ ls st M r, juX12_minimal_9 k ls st M = some r → sy_E d qX12_minimal 9 ls st M r := by
  intro ls st M r h
  obtain ⟨l, e, h1⟩ := sy_xc_ok h; subst e
  obtain ⟨a1, l, e, h2⟩ := sy_xi_ok h1; subst e
  obtain ⟨a2, l, e, h3⟩ := sy_xi_ok h2; subst e
  obtain ⟨e, h4⟩ := sy_xn_ok h3; subst e
  obtain ⟨e, h5⟩ := sy_xn_ok h4; subst e
  exact hk a1 a2 M r h5
def jfX12_minimal_31 (k9 : Int32 → Int32 → sy_M → sy_O) (a2 : Int32) (s0 : Int32) (s1 : Int32) (M : sy_M) : sy_O :=
  let v1 := (s1 + s0)
  let v2 := a2 + 1
  k9 v1 v2 M
set_option maxRecDepth 100000 in
theorem jrX12_minimal_31 (k9 : Int32 → Int32 → sy_M → sy_O) (w1 : Value) (a2 : Int32) (s0 : Int32) (s1 : Int32) (M : sy_M) : sy_run skX12 qX12_minimal [(31, .iadd, 1, [true, false, true]), (32, .istore_n 1, 1, []), (33, .iinc 2 1, 3, []), (36, .goto (-27), 3, [])] [] [(9, juX12_minimal_9 k9)] 5 [] 31 [.ref 121, w1, .int a2] [.int s0, .int s1] M = jfX12_minimal_31 k9 a2 s0 s1 M := rfl
theorem jtX12_minimal_31 {k9 : Int32 → Int32 → sy_M → sy_O} (hk9 : ∀ (a1 : Int32) (a2 : Int32) (M : sy_M) (r : xe_R × sy_M), k9 a1 a2 M = some r → sy_E (6) qX12_minimal 9 [.ref 121, .int a1, .int a2] [] M r) : ∀ (w1 : Value) (a2 : Int32) (s0 : Int32) (s1 : Int32) (M : sy_M) (r : xe_R × sy_M), jfX12_minimal_31 k9 a2 s0 s1 M = some r → sy_E (6) qX12_minimal 31 [.ref 121, w1, .int a2] [.int s0, .int s1] M r := by
  intro w1 a2 s0 s1 M r h
  exact sy_run_by (d := 5) ((jrX12_minimal_31 _ _ _ _ _ M).trans h) hkX12 (by decide +kernel) sy_cs_nil (sy_us_cons (jwX12_minimal_9 hk9) sy_us_nil)
def jgX12_minimal_9 (k9 : Int32 → Int32 → sy_M → sy_O) (a1 : Int32) (a2 : Int32) (M : sy_M) : sy_O :=
  sy_bi (jfX12_all M) fun v2 M1 =>
  if v2 < a2 then
    sy_ri a1 M1
  else
    sy_bi (jfX12_isLeast a2 M1) fun v4 M3 =>
    if v4 = 0 then
      jfX12_minimal_31 k9 a2 0 a1 M3
    else
      jfX12_minimal_31 k9 a2 1 a1 M3
def jfX12_minimal_9 : Nat → Int32 → Int32 → sy_M → sy_O
  | 0, _, _, _ => none
  | n + 1, a1, a2, M => jgX12_minimal_9 (jfX12_minimal_9 n) a1 a2 M
set_option maxRecDepth 100000 in
theorem jrX12_minimal_9 (k9 : Int32 → Int32 → sy_M → sy_O) (a1 : Int32) (a2 : Int32) (M : sy_M) : sy_run skX12 qX12_minimal [(9, .iload_n 2, 1, []), (10, .aload_n 0, 1, []), (11, .invokevirtual 287, 3, []), (14, .if_icmp .gt 25, 3, []), (17, .iload_n 1, 1, []), (18, .aload_n 0, 1, []), (19, .iload_n 2, 1, []), (20, .invokevirtual 379, 3, []), (23, .ifCond .eq 7, 3, []), (26, .iconst 1, 1, []), (27, .goto 4, 3, []), (30, .iconst 0, 1, [true, false, true]), (39, .iload_n 1, 1, [false, true, false]), (40, .ireturn, 1, [])] [(197, 0, jcX12_all), (296, 0, jcX12_isLeast)] [(31, juX12_minimal_31 (jfX12_minimal_31 k9))] 15 [] 9 [.ref 121, .int a1, .int a2] [] M = jgX12_minimal_9 k9 a1 a2 M := rfl
theorem jtX12_minimal_9 : ∀ n : Nat, ∀ (a1 : Int32) (a2 : Int32) (M : sy_M) (r : xe_R × sy_M), jfX12_minimal_9 n a1 a2 M = some r → sy_E (6) qX12_minimal 9 [.ref 121, .int a1, .int a2] [] M r := by
  intro n
  induction n with
  | zero => intro a1 a2 M r h; exact absurd (show (none : sy_O) = some r from h) (by simp)
  | succ n ih => intro a1 a2 M r h; exact sy_run_by (d := 5) ((jrX12_minimal_9 _ _ _ M).trans h) hkX12 (by decide +kernel) (sy_cs_cons (jeX12_all.deep (by decide)) (sy_cs_cons (jeX12_isLeast.deep (by decide)) sy_cs_nil)) (sy_us_cons (jwX12_minimal_31 (jtX12_minimal_31 ih)) sy_us_nil)
def jfX12_minimal (M : sy_M) : sy_O :=
  let M1 := sy_upd M 121 0 0
  jfX12_minimal_9 sy_F 0 0 M1
set_option maxRecDepth 100000 in
theorem jrX12_minimal (M : sy_M) : sy_run skX12 qX12_minimal [(0, .aload_n 0, 1, []), (1, .iconst 0, 1, []), (2, .putfield 45, 3, []), (5, .iconst 0, 1, []), (6, .istore_n 1, 1, []), (7, .iconst 0, 1, []), (8, .istore_n 2, 1, [])] [] [(9, juX12_minimal_9 (jfX12_minimal_9 sy_F))] 8 [] 0 [.ref 121, xe_no, xe_no] [] M = jfX12_minimal M := rfl
theorem jtX12_minimal : ∀ (M : sy_M) (r : xe_R × sy_M), jfX12_minimal M = some r → sy_E (6) qX12_minimal 0 [.ref 121, xe_no, xe_no] [] M r := by
  intro  M r h
  exact sy_run_by (d := 5) ((jrX12_minimal M).trans h) hkX12 (by decide +kernel) sy_cs_nil (sy_us_cons (jwX12_minimal_9 (jtX12_minimal_9 sy_F)) sy_us_nil)
def jcX12_minimal (as : List Value) (M : sy_M) (K : sy_O → sy_O) : sy_O := sy_xc 121 as fun l => sy_xn l (K (jfX12_minimal M))
theorem jeX12_minimal : sy_snd (6) 297 (jcX12_minimal) := by
  intro as M K r h
  obtain ⟨l, e, h1⟩ := sy_xc_ok h; subst e
  obtain ⟨e, h2⟩ := sy_xn_ok h1; subst e
  exact ⟨_, h2, fun r1 h0 => ⟨qX12_minimal, rfl, rfl, jtX12_minimal  M r1 h0⟩⟩
/-! X11_dummies StairMeter dummies ()I [('R', 0)] -/
def juX11_dummies_29 (k : Int32 → Int32 → sy_M → sy_O) (ls st : List Value) (M : sy_M) : sy_O := sy_xc 0 ls fun l => sy_xi l fun a1 l => sy_xi l fun a2 l => sy_xn l (sy_xn st (k a1 a2 M))
theorem jwX11_dummies_29 {d : Nat} {k : Int32 → Int32 → sy_M → sy_O} (hk : ∀ (a1 : Int32) (a2 : Int32) (M : sy_M) (r : xe_R × sy_M), k a1 a2 M = some r → sy_E (d) qX11_dummies 29 [.ref 0, .int a1, .int a2] [] M r) : ∀ ls st M r, juX11_dummies_29 k ls st M = some r → sy_E d qX11_dummies 29 ls st M r := by
  intro ls st M r h
  obtain ⟨l, e, h1⟩ := sy_xc_ok h; subst e
  obtain ⟨a1, l, e, h2⟩ := sy_xi_ok h1; subst e
  obtain ⟨a2, l, e, h3⟩ := sy_xi_ok h2; subst e
  obtain ⟨e, h4⟩ := sy_xn_ok h3; subst e
  obtain ⟨e, h5⟩ := sy_xn_ok h4; subst e
  exact hk a1 a2 M r h5
def juX11_dummies_4 (k : Int32 → Int32 → sy_M → sy_O) (ls st : List Value) (M : sy_M) : sy_O := sy_xc 0 ls fun l => sy_xi l fun a1 l => sy_xi l fun a2 l => sy_xn l (sy_xn st (k a1 a2 M))
theorem jwX11_dummies_4 {d : Nat} {k : Int32 → Int32 → sy_M → sy_O} (hk : ∀ (a1 : Int32) (a2 : Int32) (M : sy_M) (r : xe_R × sy_M), k a1 a2 M = some r → sy_E (d) qX11_dummies 4 [.ref 0, .int a1, .int a2] [] M r) : ∀ ls st M r, juX11_dummies_4 k ls st M = some r → sy_E d qX11_dummies 4 ls st M r := by
  intro ls st M r h
  obtain ⟨l, e, h1⟩ := sy_xc_ok h; subst e
  obtain ⟨a1, l, e, h2⟩ := sy_xi_ok h1; subst e
  obtain ⟨a2, l, e, h3⟩ := sy_xi_ok h2; subst e
  obtain ⟨e, h4⟩ := sy_xn_ok h3; subst e
  obtain ⟨e, h5⟩ := sy_xn_ok h4; subst e
  exact hk a1 a2 M r h5
def jfX11_dummies_29 (k4 : Int32 → Int32 → sy_M → sy_O) (a1 : Int32) (a2 : Int32) (M : sy_M) : sy_O :=
  let v1 := a2 + 1
  k4 a1 v1 M
set_option maxRecDepth 100000 in
theorem jrX11_dummies_29 (k4 : Int32 → Int32 → sy_M → sy_O) (a1 : Int32) (a2 : Int32) (M : sy_M) : sy_run skX11 qX11_dummies [(29, .iinc 2 1, 3, []), (32, .goto (-28), 3, [])] [] [(4, juX11_dummies_4 k4)] 3 [] 29 [.ref 0, .int a1, .int a2] [] M = jfX11_dummies_29 k4 a1 a2 M := rfl
theorem jtX11_dummies_29 {k4 : Int32 → Int32 → sy_M → sy_O} (hk4 : ∀ (a1 : Int32) (a2 : Int32) (M : sy_M) (r : xe_R × sy_M), k4 a1 a2 M = some r → sy_E (4) qX11_dummies 4 [.ref 0, .int a1, .int a2] [] M r) : ∀ (a1 : Int32) (a2 : Int32) (M : sy_M) (r : xe_R × sy_M), jfX11_dummies_29 k4 a1 a2 M = some r → sy_E (4) qX11_dummies 29 [.ref 0, .int a1, .int a2] [] M r := by
  intro a1 a2 M r h
  exact sy_run_by (d := 3) ((jrX11_dummies_29 _ _ _ M).trans h) hkX11 (by decide +kernel) sy_cs_nil (sy_us_cons (jwX11_dummies_4 hk4) sy_us_nil)
def jgX11_dummies_4 (k4 : Int32 → Int32 → sy_M → sy_O) (a1 : Int32) (a2 : Int32) (M : sy_M) : sy_O :=
  if a2 < (M 9 3) then
    sy_bi (jfX11_swung a2 M) fun v2 M1 =>
    if v2 = 0 then
      let v3 := (a1 ||| (1 <<< (a2 &&& 31)))
      jfX11_dummies_29 k4 v3 a2 M1
    else
      jfX11_dummies_29 k4 a1 a2 M1
  else
    sy_ri a1 M
def jfX11_dummies_4 : Nat → Int32 → Int32 → sy_M → sy_O
  | 0, _, _, _ => none
  | n + 1, a1, a2, M => jgX11_dummies_4 (jfX11_dummies_4 n) a1 a2 M
set_option maxRecDepth 100000 in
theorem jrX11_dummies_4 (k4 : Int32 → Int32 → sy_M → sy_O) (a1 : Int32) (a2 : Int32) (M : sy_M) : sy_run skX11 qX11_dummies [(4, .iload_n 2, 1, []), (5, .aload_n 0, 1, []), (6, .getfield 28, 3, []), (9, .getfield 207, 3, []), (12, .if_icmp .ge 23, 3, []), (15, .aload_n 0, 1, []), (16, .iload_n 2, 1, []), (17, .invokevirtual 380, 3, []), (20, .ifCond .ne 9, 3, []), (23, .iload_n 1, 1, []), (24, .iconst 1, 1, []), (25, .iload_n 2, 1, []), (26, .ishl, 1, []), (27, .ior, 1, []), (28, .istore_n 1, 1, []), (35, .iload_n 1, 1, [false, true, false]), (36, .ireturn, 1, [])] [(153, 0, jcX11_swung)] [(29, juX11_dummies_29 (jfX11_dummies_29 k4))] 18 [] 4 [.ref 0, .int a1, .int a2] [] M = jgX11_dummies_4 k4 a1 a2 M := rfl
theorem jtX11_dummies_4 : ∀ n : Nat, ∀ (a1 : Int32) (a2 : Int32) (M : sy_M) (r : xe_R × sy_M), jfX11_dummies_4 n a1 a2 M = some r → sy_E (4) qX11_dummies 4 [.ref 0, .int a1, .int a2] [] M r := by
  intro n
  induction n with
  | zero => intro a1 a2 M r h; exact absurd (show (none : sy_O) = some r from h) (by simp)
  | succ n ih => intro a1 a2 M r h; exact sy_run_by (d := 3) ((jrX11_dummies_4 _ _ _ M).trans h) hkX11 (by decide +kernel) (sy_cs_cons (jeX11_swung.deep (by decide)) sy_cs_nil) (sy_us_cons (jwX11_dummies_29 (jtX11_dummies_29 ih)) sy_us_nil)
def jfX11_dummies (M : sy_M) : sy_O :=
  jfX11_dummies_4 sy_F 0 0 M
set_option maxRecDepth 100000 in
theorem jrX11_dummies (M : sy_M) : sy_run skX11 qX11_dummies [(0, .iconst 0, 1, []), (1, .istore_n 1, 1, []), (2, .iconst 0, 1, []), (3, .istore_n 2, 1, [])] [] [(4, juX11_dummies_4 (jfX11_dummies_4 sy_F))] 5 [] 0 [.ref 0, xe_no, xe_no] [] M = jfX11_dummies M := rfl
theorem jtX11_dummies : ∀ (M : sy_M) (r : xe_R × sy_M), jfX11_dummies M = some r → sy_E (4) qX11_dummies 0 [.ref 0, xe_no, xe_no] [] M r := by
  intro  M r h
  exact sy_run_by (d := 3) ((jrX11_dummies M).trans h) hkX11 (by decide +kernel) sy_cs_nil (sy_us_cons (jwX11_dummies_4 (jtX11_dummies_4 sy_F)) sy_us_nil)
def jcX11_dummies (as : List Value) (M : sy_M) (K : sy_O → sy_O) : sy_O := sy_xc 0 as fun l => sy_xn l (K (jfX11_dummies M))
theorem jeX11_dummies : sy_snd (4) 152 (jcX11_dummies) := by
  intro as M K r h
  obtain ⟨l, e, h1⟩ := sy_xc_ok h; subst e
  obtain ⟨e, h2⟩ := sy_xn_ok h1; subst e
  exact ⟨_, h2, fun r1 h0 => ⟨qX11_dummies, rfl, rfl, jtX11_dummies  M r1 h0⟩⟩
/-! X12_dummies StairMeterModel dummies ()I [('R', 121)] -/
def juX12_dummies_35 (k : Int32 → Int32 → Int32 → sy_M → sy_O) (ls st : List Value) (M : sy_M) : sy_O := sy_xc 121 ls fun l => sy_xv l fun _ l => sy_xi l fun a2 l => sy_xn l (sy_xi st fun s0 l => sy_xi l fun s1 l => sy_xn l (k a2 s0 s1 M))
theorem jwX12_dummies_35 {d : Nat} {k : Int32 → Int32 → Int32 → sy_M → sy_O} (hk : ∀ (w1 : Value) (a2 : Int32) (s0 : Int32) (s1 : Int32) (M : sy_M) (r : xe_R × sy_M), k a2 s0 s1 M = some r → sy_E (d) qX12_dummies 35 [.ref 121, w1, .int a2] [.int s0, .int s1] M r) : ∀ ls st M r, juX12_dummies_35 k ls st M = some r → sy_E d qX12_dummies 35 ls st M r := by
  intro ls st M r h
  obtain ⟨l, e, h1⟩ := sy_xc_ok h; subst e
  obtain ⟨w1, l, e, h2⟩ := sy_xv_ok h1; subst e
  obtain ⟨a2, l, e, h3⟩ := sy_xi_ok h2; subst e
  obtain ⟨e, h4⟩ := sy_xn_ok h3; subst e
  obtain ⟨s0, l, e, h5⟩ := sy_xi_ok h4; subst e
  obtain ⟨s1, l, e, h6⟩ := sy_xi_ok h5; subst e
  obtain ⟨e, h7⟩ := sy_xn_ok h6; subst e
  exact hk _ a2 s0 s1 M r h7
def juX12_dummies_9 (k : Int32 → Int32 → sy_M → sy_O) (ls st : List Value) (M : sy_M) : sy_O := sy_xc 121 ls fun l => sy_xi l fun a1 l => sy_xi l fun a2 l => sy_xn l (sy_xn st (k a1 a2 M))
theorem jwX12_dummies_9 {d : Nat} {k : Int32 → Int32 → sy_M → sy_O} (hk : ∀ (a1 : Int32) (a2 : Int32) (M : sy_M) (r : xe_R × sy_M), k a1 a2 M = some r → sy_E (d) qX12_dummies 9 [.ref 121, .int a1, .int a2] [] M r) : ∀ ls st M r, juX12_dummies_9 k ls st M = some r → sy_E d qX12_dummies 9 ls st M r := by
  intro ls st M r h
  obtain ⟨l, e, h1⟩ := sy_xc_ok h; subst e
  obtain ⟨a1, l, e, h2⟩ := sy_xi_ok h1; subst e
  obtain ⟨a2, l, e, h3⟩ := sy_xi_ok h2; subst e
  obtain ⟨e, h4⟩ := sy_xn_ok h3; subst e
  obtain ⟨e, h5⟩ := sy_xn_ok h4; subst e
  exact hk a1 a2 M r h5
def jfX12_dummies_35 (k9 : Int32 → Int32 → sy_M → sy_O) (a2 : Int32) (s0 : Int32) (s1 : Int32) (M : sy_M) : sy_O :=
  let v1 := (s1 ||| s0)
  let v2 := a2 + 1
  k9 v1 v2 M
set_option maxRecDepth 100000 in
theorem jrX12_dummies_35 (k9 : Int32 → Int32 → sy_M → sy_O) (w1 : Value) (a2 : Int32) (s0 : Int32) (s1 : Int32) (M : sy_M) : sy_run skX12 qX12_dummies [(35, .ior, 1, [true, false, true]), (36, .istore_n 1, 1, []), (37, .iinc 2 1, 3, []), (40, .goto (-31), 3, [])] [] [(9, juX12_dummies_9 k9)] 5 [] 35 [.ref 121, w1, .int a2] [.int s0, .int s1] M = jfX12_dummies_35 k9 a2 s0 s1 M := rfl
theorem jtX12_dummies_35 {k9 : Int32 → Int32 → sy_M → sy_O} (hk9 : ∀ (a1 : Int32) (a2 : Int32) (M : sy_M) (r : xe_R × sy_M), k9 a1 a2 M = some r → sy_E (6) qX12_dummies 9 [.ref 121, .int a1, .int a2] [] M r) : ∀ (w1 : Value) (a2 : Int32) (s0 : Int32) (s1 : Int32) (M : sy_M) (r : xe_R × sy_M), jfX12_dummies_35 k9 a2 s0 s1 M = some r → sy_E (6) qX12_dummies 35 [.ref 121, w1, .int a2] [.int s0, .int s1] M r := by
  intro w1 a2 s0 s1 M r h
  exact sy_run_by (d := 5) ((jrX12_dummies_35 _ _ _ _ _ M).trans h) hkX12 (by decide +kernel) sy_cs_nil (sy_us_cons (jwX12_dummies_9 hk9) sy_us_nil)
def jgX12_dummies_9 (k9 : Int32 → Int32 → sy_M → sy_O) (a1 : Int32) (a2 : Int32) (M : sy_M) : sy_O :=
  if a2 < (M 122 3) then
    sy_bi (jfX12_swingsOf a2 M) fun v2 M1 =>
    if v2 = 0 then
      jfX12_dummies_35 k9 a2 (1 <<< (a2 &&& 31)) a1 M1
    else
      jfX12_dummies_35 k9 a2 0 a1 M1
  else
    sy_ri a1 M
def jfX12_dummies_9 : Nat → Int32 → Int32 → sy_M → sy_O
  | 0, _, _, _ => none
  | n + 1, a1, a2, M => jgX12_dummies_9 (jfX12_dummies_9 n) a1 a2 M
set_option maxRecDepth 100000 in
theorem jrX12_dummies_9 (k9 : Int32 → Int32 → sy_M → sy_O) (a1 : Int32) (a2 : Int32) (M : sy_M) : sy_run skX12 qX12_dummies [(9, .iload_n 2, 1, []), (10, .aload_n 0, 1, []), (11, .getfield 7, 3, []), (14, .iconst 3, 1, []), (15, .iaload, 1, []), (16, .if_icmp .ge 27, 3, []), (19, .iload_n 1, 1, []), (20, .aload_n 0, 1, []), (21, .iload_n 2, 1, []), (22, .invokevirtual 376, 3, []), (25, .ifCond .ne 9, 3, []), (28, .iconst 1, 1, []), (29, .iload_n 2, 1, []), (30, .ishl, 1, []), (31, .goto 4, 3, []), (34, .iconst 0, 1, [true, false, true]), (43, .iload_n 1, 1, [false, true, false]), (44, .ireturn, 1, [])] [(294, 0, jcX12_swingsOf)] [(35, juX12_dummies_35 (jfX12_dummies_35 k9))] 19 [] 9 [.ref 121, .int a1, .int a2] [] M = jgX12_dummies_9 k9 a1 a2 M := rfl
theorem jtX12_dummies_9 : ∀ n : Nat, ∀ (a1 : Int32) (a2 : Int32) (M : sy_M) (r : xe_R × sy_M), jfX12_dummies_9 n a1 a2 M = some r → sy_E (6) qX12_dummies 9 [.ref 121, .int a1, .int a2] [] M r := by
  intro n
  induction n with
  | zero => intro a1 a2 M r h; exact absurd (show (none : sy_O) = some r from h) (by simp)
  | succ n ih => intro a1 a2 M r h; exact sy_run_by (d := 5) ((jrX12_dummies_9 _ _ _ M).trans h) hkX12 (by decide +kernel) (sy_cs_cons (jeX12_swingsOf.deep (by decide)) sy_cs_nil) (sy_us_cons (jwX12_dummies_35 (jtX12_dummies_35 ih)) sy_us_nil)
def jfX12_dummies (M : sy_M) : sy_O :=
  let M1 := sy_upd M 121 0 0
  jfX12_dummies_9 sy_F 0 0 M1
set_option maxRecDepth 100000 in
theorem jrX12_dummies (M : sy_M) : sy_run skX12 qX12_dummies [(0, .aload_n 0, 1, []), (1, .iconst 0, 1, []), (2, .putfield 45, 3, []), (5, .iconst 0, 1, []), (6, .istore_n 1, 1, []), (7, .iconst 0, 1, []), (8, .istore_n 2, 1, [])] [] [(9, juX12_dummies_9 (jfX12_dummies_9 sy_F))] 8 [] 0 [.ref 121, xe_no, xe_no] [] M = jfX12_dummies M := rfl
theorem jtX12_dummies : ∀ (M : sy_M) (r : xe_R × sy_M), jfX12_dummies M = some r → sy_E (6) qX12_dummies 0 [.ref 121, xe_no, xe_no] [] M r := by
  intro  M r h
  exact sy_run_by (d := 5) ((jrX12_dummies M).trans h) hkX12 (by decide +kernel) sy_cs_nil (sy_us_cons (jwX12_dummies_9 (jtX12_dummies_9 sy_F)) sy_us_nil)
def jcX12_dummies (as : List Value) (M : sy_M) (K : sy_O → sy_O) : sy_O := sy_xc 121 as fun l => sy_xn l (K (jfX12_dummies M))
theorem jeX12_dummies : sy_snd (6) 298 (jcX12_dummies) := by
  intro as M K r h
  obtain ⟨l, e, h1⟩ := sy_xc_ok h; subst e
  obtain ⟨e, h2⟩ := sy_xn_ok h1; subst e
  exact ⟨_, h2, fun r1 h0 => ⟨qX12_dummies, rfl, rfl, jtX12_dummies  M r1 h0⟩⟩
/-! X11_net StairMeter net (II)I [('R', 0), 'I', 'I'] -/
def jfX11_net (a1 : Int32) (a2 : Int32) (M : sy_M) : sy_O :=
  sy_bv (jfX11_checkTwo a1 a2 M) fun M1 =>
  sy_bi (jfX2_owed 9 a1 a2 M1) fun v3 M2 =>
  sy_bi (jfX2_owed 9 a2 a1 M2) fun v5 M4 =>
  sy_bi (jfJ9_max_7cf53 0 (v3 - v5) M4) fun v7 M6 =>
  sy_ri v7 M6
set_option maxRecDepth 100000 in
theorem jrX11_net (a1 : Int32) (a2 : Int32) (M : sy_M) : sy_run skX11 qX11_net [(0, .aload_n 0, 1, []), (1, .iload_n 1, 1, []), (2, .iload_n 2, 1, []), (3, .invokevirtual 190, 3, []), (6, .iconst 0, 1, []), (7, .aload_n 0, 1, []), (8, .getfield 28, 3, []), (11, .iload_n 1, 1, []), (12, .iload_n 2, 1, []), (13, .invokevirtual 194, 3, []), (16, .aload_n 0, 1, []), (17, .getfield 28, 3, []), (20, .iload_n 2, 1, []), (21, .iload_n 1, 1, []), (22, .invokevirtual 194, 3, []), (25, .isub, 1, []), (26, .invokestatic 324, 3, []), (29, .ireturn, 1, [])] [(177, 1, jcX11_checkTwo), (19, 0, jcX2_owed), (359, 0, jcJ9_max_7cf53)] [] 19 [] 0 [.ref 0, .int a1, .int a2] [] M = jfX11_net a1 a2 M := rfl
theorem jtX11_net : ∀ (a1 : Int32) (a2 : Int32) (M : sy_M) (r : xe_R × sy_M), jfX11_net a1 a2 M = some r → sy_E (3) qX11_net 0 [.ref 0, .int a1, .int a2] [] M r := by
  intro a1 a2 M r h
  exact sy_run_by (d := 2) ((jrX11_net _ _ M).trans h) hkX11 (by decide +kernel) (sy_cs_cons (jeX11_checkTwo.deep (by decide)) (sy_cs_cons (jeX2_owed.deep (by decide)) (sy_cs_cons (jeJ9_max_7cf53.deep (by decide)) sy_cs_nil))) sy_us_nil
def jcX11_net (as : List Value) (M : sy_M) (K : sy_O → sy_O) : sy_O := sy_xc 0 as fun l => sy_xi l fun a1 l => sy_xi l fun a2 l => sy_xn l (K (jfX11_net a1 a2 M))
theorem jeX11_net : sy_snd (3) 156 (jcX11_net) := by
  intro as M K r h
  obtain ⟨l, e, h1⟩ := sy_xc_ok h; subst e
  obtain ⟨a1, l, e, h2⟩ := sy_xi_ok h1; subst e
  obtain ⟨a2, l, e, h3⟩ := sy_xi_ok h2; subst e
  obtain ⟨e, h4⟩ := sy_xn_ok h3; subst e
  exact ⟨_, h4, fun r1 h0 => ⟨qX11_net, rfl, rfl, jtX11_net _ _ M r1 h0⟩⟩
/-! L_net StairMeterLaw net (LStairMeter;II[J)I [('R', 0), 'I', 'I', ('R', 132)] -/
def jfL_net (a1 : Int32) (a2 : Int32) (M : sy_M) : sy_O :=
  sy_hi (jfX11_net a1 a2 M) (fun v2 M1 =>
    let M5 := sy_wl M1 132 0 (Int32.toInt64 v2)
    sy_ri 0 M5)
  (fun c3 M4 => if c3 = 22 then sy_ri 1 M4 else if c3 = 20 then sy_ri 2 M4 else none)
set_option maxRecDepth 100000 in
theorem jrL_net (a1 : Int32) (a2 : Int32) (M : sy_M) : sy_run skL qL_net [(0, .aload_n 3, 1, []), (1, .iconst 0, 1, []), (2, .aload_n 0, 1, []), (3, .iload_n 1, 1, []), (4, .iload_n 2, 1, []), (5, .invokevirtual 110, 3, []), (8, .i2l, 1, []), (9, .lastore, 1, []), (10, .goto 11, 3, []), (13, .astore 4, 2, [false, false, false, false, false]), (15, .iconst 1, 1, []), (16, .ireturn, 1, []), (17, .astore 4, 2, [false, false, false, false, false]), (19, .iconst 2, 1, []), (20, .ireturn, 1, []), (21, .iconst 0, 1, [false, false, false, false, false]), (22, .ireturn, 1, [])] [(156, 3, jcX11_net)] [] 18 [] 0 [.ref 0, .int a1, .int a2, .ref 132, xe_no] [] M = jfL_net a1 a2 M := rfl
theorem jtL_net : ∀ (a1 : Int32) (a2 : Int32) (M : sy_M) (r : xe_R × sy_M), jfL_net a1 a2 M = some r → sy_E (4) qL_net 0 [.ref 0, .int a1, .int a2, .ref 132, xe_no] [] M r := by
  intro a1 a2 M r h
  exact sy_run_by (d := 3) ((jrL_net _ _ M).trans h) hkL (by decide +kernel) (sy_cs_cons (jeX11_net.deep (by decide)) sy_cs_nil) sy_us_nil
def jcL_net (as : List Value) (M : sy_M) (K : sy_O → sy_O) : sy_O := sy_xc 0 as fun l => sy_xi l fun a1 l => sy_xi l fun a2 l => sy_xc 132 l fun l => sy_xn l (K (jfL_net a1 a2 M))
theorem jeL_net : sy_snd (4) 349 (jcL_net) := by
  intro as M K r h
  obtain ⟨l, e, h1⟩ := sy_xc_ok h; subst e
  obtain ⟨a1, l, e, h2⟩ := sy_xi_ok h1; subst e
  obtain ⟨a2, l, e, h3⟩ := sy_xi_ok h2; subst e
  obtain ⟨l, e, h4⟩ := sy_xc_ok h3; subst e
  obtain ⟨e, h5⟩ := sy_xn_ok h4; subst e
  exact ⟨_, h5, fun r1 h0 => ⟨qL_net, rfl, rfl, jtL_net _ _ M r1 h0⟩⟩
/-! X12_net StairMeterModel net (II)I [('R', 121), 'I', 'I'] -/
def jfX12_net (a1 : Int32) (a2 : Int32) (M : sy_M) : sy_O :=
  sy_bv (jfX12_areTwo a1 a2 M) fun M1 =>
  if 0 < (M1 121 0) then
    sy_ri 0 M1
  else
    sy_bi (jfX12_owed a1 a2 M1) fun v3 M2 =>
    sy_bi (jfX12_owed a2 a1 M2) fun v5 M4 =>
    sy_bi (jfX12_greater 0 (v3 - v5) M4) fun v7 M6 =>
    sy_ri v7 M6
set_option maxRecDepth 100000 in
theorem jrX12_net (a1 : Int32) (a2 : Int32) (M : sy_M) : sy_run skX12 qX12_net [(0, .aload_n 0, 1, []), (1, .iload_n 1, 1, []), (2, .iload_n 2, 1, []), (3, .invokevirtual 299, 3, []), (6, .aload_n 0, 1, []), (7, .getfield 45, 3, []), (10, .ifCond .le 7, 3, []), (13, .iconst 0, 1, []), (14, .goto 20, 3, []), (17, .iconst 0, 1, []), (18, .aload_n 0, 1, []), (19, .iload_n 1, 1, []), (20, .iload_n 2, 1, []), (21, .invokevirtual 302, 3, []), (24, .aload_n 0, 1, []), (25, .iload_n 2, 1, []), (26, .iload_n 1, 1, []), (27, .invokevirtual 302, 3, []), (30, .isub, 1, []), (31, .invokestatic 333, 3, []), (34, .ireturn, 1, [false, false, false])] [(240, 1, jcX12_areTwo), (189, 0, jcX12_owed), (184, 0, jcX12_greater)] [] 22 [] 0 [.ref 121, .int a1, .int a2] [] M = jfX12_net a1 a2 M := rfl
theorem jtX12_net : ∀ (a1 : Int32) (a2 : Int32) (M : sy_M) (r : xe_R × sy_M), jfX12_net a1 a2 M = some r → sy_E (4) qX12_net 0 [.ref 121, .int a1, .int a2] [] M r := by
  intro a1 a2 M r h
  exact sy_run_by (d := 3) ((jrX12_net _ _ M).trans h) hkX12 (by decide +kernel) (sy_cs_cons (jeX12_areTwo.deep (by decide)) (sy_cs_cons (jeX12_owed.deep (by decide)) (sy_cs_cons (jeX12_greater.deep (by decide)) sy_cs_nil))) sy_us_nil
def jcX12_net (as : List Value) (M : sy_M) (K : sy_O → sy_O) : sy_O := sy_xc 121 as fun l => sy_xi l fun a1 l => sy_xi l fun a2 l => sy_xn l (K (jfX12_net a1 a2 M))
theorem jeX12_net : sy_snd (4) 299 (jcX12_net) := by
  intro as M K r h
  obtain ⟨l, e, h1⟩ := sy_xc_ok h; subst e
  obtain ⟨a1, l, e, h2⟩ := sy_xi_ok h1; subst e
  obtain ⟨a2, l, e, h3⟩ := sy_xi_ok h2; subst e
  obtain ⟨e, h4⟩ := sy_xn_ok h3; subst e
  exact ⟨_, h4, fun r1 h0 => ⟨qX12_net, rfl, rfl, jtX12_net _ _ M r1 h0⟩⟩
/-! X2_owesMore StairMeter$House owesMore (I)I ['A', 'I'] -/
def juX2_owesMore_4 (k : Nat → Int32 → Int32 → Int32 → sy_M → sy_O) (ls st : List Value) (M : sy_M) : sy_O := sy_xa ls fun r0 l => sy_xi l fun a1 l => sy_xi l fun a2 l => sy_xi l fun a3 l => sy_xn l (sy_xn st (k r0 a1 a2 a3 M))
theorem jwX2_owesMore_4 {d : Nat} {k : Nat → Int32 → Int32 → Int32 → sy_M → sy_O} (hk : ∀ (r0 : Nat) (a1 : Int32) (a2 : Int32) (a3 : Int32) (M : sy_M) (r : xe_R × sy_M), k r0 a1 a2 a3 M = some r → sy_E (d) qX2_owesMore 4 [.ref r0, .int a1, .int a2, .int a3] [] M r) : ∀ ls st M r, juX2_owesMore_4 k ls st M = some r → sy_E d qX2_owesMore 4 ls st M r := by
  intro ls st M r h
  obtain ⟨r0, l, e, h1⟩ := sy_xa_ok h; subst e
  obtain ⟨a1, l, e, h2⟩ := sy_xi_ok h1; subst e
  obtain ⟨a2, l, e, h3⟩ := sy_xi_ok h2; subst e
  obtain ⟨a3, l, e, h4⟩ := sy_xi_ok h3; subst e
  obtain ⟨e, h5⟩ := sy_xn_ok h4; subst e
  obtain ⟨e, h6⟩ := sy_xn_ok h5; subst e
  exact hk r0 a1 a2 a3 M r h6
def jgX2_owesMore_4 (k4 : Nat → Int32 → Int32 → Int32 → sy_M → sy_O) (r0 : Nat) (a1 : Int32) (a2 : Int32) (a3 : Int32) (M : sy_M) : sy_O :=
  sy_bs (sy_is 2 r0) <|
  if a3 < (M r0 3) then
    sy_bs (sy_is 2 r0) <|
    sy_bi (jfX2_owed r0 a1 a3 M) fun v2 M1 =>
    sy_bs (sy_is 2 r0) <|
    sy_bi (jfX2_owed r0 a3 a1 M1) fun v4 M3 =>
    let v5 := (a2 + (v2 - v4))
    let v6 := a3 + 1
    k4 r0 a1 v5 v6 M3
  else
    sy_ri a2 M
def jfX2_owesMore_4 : Nat → Nat → Int32 → Int32 → Int32 → sy_M → sy_O
  | 0, _, _, _, _, _ => none
  | n + 1, r0, a1, a2, a3, M => jgX2_owesMore_4 (jfX2_owesMore_4 n) r0 a1 a2 a3 M
set_option maxRecDepth 100000 in
theorem jrX2_owesMore_4 (k4 : Nat → Int32 → Int32 → Int32 → sy_M → sy_O) (r0 : Nat) (a1 : Int32) (a2 : Int32) (a3 : Int32) (M : sy_M) : sy_run skX2 qX2_owesMore [(4, .iload_n 3, 1, []), (5, .aload_n 0, 1, []), (6, .getfield 27, 3, []), (9, .if_icmp .ge 25, 3, []), (12, .iload_n 2, 1, []), (13, .aload_n 0, 1, []), (14, .iload_n 1, 1, []), (15, .iload_n 3, 1, []), (16, .invokevirtual 92, 3, []), (19, .aload_n 0, 1, []), (20, .iload_n 3, 1, []), (21, .iload_n 1, 1, []), (22, .invokevirtual 92, 3, []), (25, .isub, 1, []), (26, .iadd, 1, []), (27, .istore_n 2, 1, []), (28, .iinc 3 1, 3, []), (31, .goto (-27), 3, []), (34, .iload_n 2, 1, [false, false, true, false]), (35, .ireturn, 1, [])] [(19, 0, jcX2_owed)] [(4, juX2_owesMore_4 k4)] 21 [] 4 [.ref r0, .int a1, .int a2, .int a3] [] M = jgX2_owesMore_4 k4 r0 a1 a2 a3 M := rfl
theorem jtX2_owesMore_4 : ∀ n : Nat, ∀ (r0 : Nat) (a1 : Int32) (a2 : Int32) (a3 : Int32) (M : sy_M) (r : xe_R × sy_M), jfX2_owesMore_4 n r0 a1 a2 a3 M = some r → sy_E (3) qX2_owesMore 4 [.ref r0, .int a1, .int a2, .int a3] [] M r := by
  intro n
  induction n with
  | zero => intro r0 a1 a2 a3 M r h; exact absurd (show (none : sy_O) = some r from h) (by simp)
  | succ n ih => intro r0 a1 a2 a3 M r h; exact sy_run_by (d := 2) ((jrX2_owesMore_4 _ _ _ _ _ M).trans h) hkX2 (by decide +kernel) (sy_cs_cons (jeX2_owed.deep (by decide)) sy_cs_nil) (sy_us_cons (jwX2_owesMore_4 ih) sy_us_nil)
def jfX2_owesMore (r0 : Nat) (a1 : Int32) (M : sy_M) : sy_O :=
  jfX2_owesMore_4 sy_F r0 a1 0 0 M
set_option maxRecDepth 100000 in
theorem jrX2_owesMore (r0 : Nat) (a1 : Int32) (M : sy_M) : sy_run skX2 qX2_owesMore [(0, .iconst 0, 1, []), (1, .istore_n 2, 1, []), (2, .iconst 0, 1, []), (3, .istore_n 3, 1, [])] [] [(4, juX2_owesMore_4 (jfX2_owesMore_4 sy_F))] 5 [] 0 [.ref r0, .int a1, xe_no, xe_no] [] M = jfX2_owesMore r0 a1 M := rfl
theorem jtX2_owesMore : ∀ (r0 : Nat) (a1 : Int32) (M : sy_M) (r : xe_R × sy_M), jfX2_owesMore r0 a1 M = some r → sy_E (3) qX2_owesMore 0 [.ref r0, .int a1, xe_no, xe_no] [] M r := by
  intro r0 a1 M r h
  exact sy_run_by (d := 2) ((jrX2_owesMore _ _ M).trans h) hkX2 (by decide +kernel) sy_cs_nil (sy_us_cons (jwX2_owesMore_4 (jtX2_owesMore_4 sy_F)) sy_us_nil)
def jcX2_owesMore (as : List Value) (M : sy_M) (K : sy_O → sy_O) : sy_O := sy_xa as fun r0 l => sy_xi l fun a1 l => sy_xn l (K (jfX2_owesMore r0 a1 M))
theorem jeX2_owesMore : sy_snd (3) 22 (jcX2_owesMore) := by
  intro as M K r h
  obtain ⟨r0, l, e, h1⟩ := sy_xa_ok h; subst e
  obtain ⟨a1, l, e, h2⟩ := sy_xi_ok h1; subst e
  obtain ⟨e, h3⟩ := sy_xn_ok h2; subst e
  exact ⟨_, h3, fun r1 h0 => ⟨qX2_owesMore, rfl, rfl, jtX2_owesMore _ _ M r1 h0⟩⟩
/-! X11_debt StairMeter debt ()I [('R', 0)] -/
def juX11_debt_4 (k : Int32 → Int32 → sy_M → sy_O) (ls st : List Value) (M : sy_M) : sy_O := sy_xc 0 ls fun l => sy_xi l fun a1 l => sy_xi l fun a2 l => sy_xn l (sy_xn st (k a1 a2 M))
theorem jwX11_debt_4 {d : Nat} {k : Int32 → Int32 → sy_M → sy_O} (hk : ∀ (a1 : Int32) (a2 : Int32) (M : sy_M) (r : xe_R × sy_M), k a1 a2 M = some r → sy_E (d) qX11_debt 4 [.ref 0, .int a1, .int a2] [] M r) : ∀ ls st M r, juX11_debt_4 k ls st M = some r → sy_E d qX11_debt 4 ls st M r := by
  intro ls st M r h
  obtain ⟨l, e, h1⟩ := sy_xc_ok h; subst e
  obtain ⟨a1, l, e, h2⟩ := sy_xi_ok h1; subst e
  obtain ⟨a2, l, e, h3⟩ := sy_xi_ok h2; subst e
  obtain ⟨e, h4⟩ := sy_xn_ok h3; subst e
  obtain ⟨e, h5⟩ := sy_xn_ok h4; subst e
  exact hk a1 a2 M r h5
def jgX11_debt_4 (k4 : Int32 → Int32 → sy_M → sy_O) (a1 : Int32) (a2 : Int32) (M : sy_M) : sy_O :=
  if a2 < (M 9 3) then
    sy_bi (jfX2_owesMore 9 a2 M) fun v2 M1 =>
    sy_bi (jfJ9_max_7cf53 0 v2 M1) fun v4 M3 =>
    let v5 := (a1 + v4)
    let v6 := a2 + 1
    k4 v5 v6 M3
  else
    sy_ri a1 M
def jfX11_debt_4 : Nat → Int32 → Int32 → sy_M → sy_O
  | 0, _, _, _ => none
  | n + 1, a1, a2, M => jgX11_debt_4 (jfX11_debt_4 n) a1 a2 M
set_option maxRecDepth 100000 in
theorem jrX11_debt_4 (k4 : Int32 → Int32 → sy_M → sy_O) (a1 : Int32) (a2 : Int32) (M : sy_M) : sy_run skX11 qX11_debt [(4, .iload_n 2, 1, []), (5, .aload_n 0, 1, []), (6, .getfield 28, 3, []), (9, .getfield 207, 3, []), (12, .if_icmp .ge 24, 3, []), (15, .iload_n 1, 1, []), (16, .iconst 0, 1, []), (17, .aload_n 0, 1, []), (18, .getfield 28, 3, []), (21, .iload_n 2, 1, []), (22, .invokevirtual 386, 3, []), (25, .invokestatic 324, 3, []), (28, .iadd, 1, []), (29, .istore_n 1, 1, []), (30, .iinc 2 1, 3, []), (33, .goto (-29), 3, []), (36, .iload_n 1, 1, [false, true, false]), (37, .ireturn, 1, [])] [(22, 0, jcX2_owesMore), (359, 0, jcJ9_max_7cf53)] [(4, juX11_debt_4 k4)] 19 [] 4 [.ref 0, .int a1, .int a2] [] M = jgX11_debt_4 k4 a1 a2 M := rfl
theorem jtX11_debt_4 : ∀ n : Nat, ∀ (a1 : Int32) (a2 : Int32) (M : sy_M) (r : xe_R × sy_M), jfX11_debt_4 n a1 a2 M = some r → sy_E (4) qX11_debt 4 [.ref 0, .int a1, .int a2] [] M r := by
  intro n
  induction n with
  | zero => intro a1 a2 M r h; exact absurd (show (none : sy_O) = some r from h) (by simp)
  | succ n ih => intro a1 a2 M r h; exact sy_run_by (d := 3) ((jrX11_debt_4 _ _ _ M).trans h) hkX11 (by decide +kernel) (sy_cs_cons (jeX2_owesMore.deep (by decide)) (sy_cs_cons (jeJ9_max_7cf53.deep (by decide)) sy_cs_nil)) (sy_us_cons (jwX11_debt_4 ih) sy_us_nil)
def jfX11_debt (M : sy_M) : sy_O :=
  jfX11_debt_4 sy_F 0 0 M
set_option maxRecDepth 100000 in
theorem jrX11_debt (M : sy_M) : sy_run skX11 qX11_debt [(0, .iconst 0, 1, []), (1, .istore_n 1, 1, []), (2, .iconst 0, 1, []), (3, .istore_n 2, 1, [])] [] [(4, juX11_debt_4 (jfX11_debt_4 sy_F))] 5 [] 0 [.ref 0, xe_no, xe_no] [] M = jfX11_debt M := rfl
theorem jtX11_debt : ∀ (M : sy_M) (r : xe_R × sy_M), jfX11_debt M = some r → sy_E (4) qX11_debt 0 [.ref 0, xe_no, xe_no] [] M r := by
  intro  M r h
  exact sy_run_by (d := 3) ((jrX11_debt M).trans h) hkX11 (by decide +kernel) sy_cs_nil (sy_us_cons (jwX11_debt_4 (jtX11_debt_4 sy_F)) sy_us_nil)
def jcX11_debt (as : List Value) (M : sy_M) (K : sy_O → sy_O) : sy_O := sy_xc 0 as fun l => sy_xn l (K (jfX11_debt M))
theorem jeX11_debt : sy_snd (4) 157 (jcX11_debt) := by
  intro as M K r h
  obtain ⟨l, e, h1⟩ := sy_xc_ok h; subst e
  obtain ⟨e, h2⟩ := sy_xn_ok h1; subst e
  exact ⟨_, h2, fun r1 h0 => ⟨qX11_debt, rfl, rfl, jtX11_debt  M r1 h0⟩⟩
/-! X12_owesOf StairMeterModel owesOf (I)I [('R', 121), 'I'] -/
def juX12_owesOf_4 (k : Int32 → Int32 → Int32 → sy_M → sy_O) (ls st : List Value) (M : sy_M) : sy_O := sy_xc 121 ls fun l => sy_xi l fun a1 l => sy_xi l fun a2 l => sy_xi l fun a3 l => sy_xn l (sy_xn st (k a1 a2 a3 M))
theorem jwX12_owesOf_4 {d : Nat} {k : Int32 → Int32 → Int32 → sy_M → sy_O} (hk : ∀ (a1 : Int32) (a2 : Int32) (a3 : Int32) (M : sy_M) (r : xe_R × sy_M), k a1 a2 a3 M = some r → sy_E (d) qX12_owesOf 4 [.ref 121, .int a1, .int a2, .int a3] [] M r) : ∀ ls st M r, juX12_owesOf_4 k ls st M = some r → sy_E d qX12_owesOf 4 ls st M r := by
  intro ls st M r h
  obtain ⟨l, e, h1⟩ := sy_xc_ok h; subst e
  obtain ⟨a1, l, e, h2⟩ := sy_xi_ok h1; subst e
  obtain ⟨a2, l, e, h3⟩ := sy_xi_ok h2; subst e
  obtain ⟨a3, l, e, h4⟩ := sy_xi_ok h3; subst e
  obtain ⟨e, h5⟩ := sy_xn_ok h4; subst e
  obtain ⟨e, h6⟩ := sy_xn_ok h5; subst e
  exact hk a1 a2 a3 M r h6
def jgX12_owesOf_4 (k4 : Int32 → Int32 → Int32 → sy_M → sy_O) (a1 : Int32) (a2 : Int32) (a3 : Int32) (M : sy_M) : sy_O :=
  if a3 < (M 122 3) then
    sy_bi (jfX12_owed a1 a3 M) fun v2 M1 =>
    sy_bi (jfX12_owed a3 a1 M1) fun v4 M3 =>
    let v5 := (a2 + (v2 - v4))
    let v6 := a3 + 1
    k4 a1 v5 v6 M3
  else
    sy_ri a2 M
def jfX12_owesOf_4 : Nat → Int32 → Int32 → Int32 → sy_M → sy_O
  | 0, _, _, _, _ => none
  | n + 1, a1, a2, a3, M => jgX12_owesOf_4 (jfX12_owesOf_4 n) a1 a2 a3 M
set_option maxRecDepth 100000 in
theorem jrX12_owesOf_4 (k4 : Int32 → Int32 → Int32 → sy_M → sy_O) (a1 : Int32) (a2 : Int32) (a3 : Int32) (M : sy_M) : sy_run skX12 qX12_owesOf [(4, .iload_n 3, 1, []), (5, .aload_n 0, 1, []), (6, .getfield 7, 3, []), (9, .iconst 3, 1, []), (10, .iaload, 1, []), (11, .if_icmp .ge 25, 3, []), (14, .iload_n 2, 1, []), (15, .aload_n 0, 1, []), (16, .iload_n 1, 1, []), (17, .iload_n 3, 1, []), (18, .invokevirtual 302, 3, []), (21, .aload_n 0, 1, []), (22, .iload_n 3, 1, []), (23, .iload_n 1, 1, []), (24, .invokevirtual 302, 3, []), (27, .isub, 1, []), (28, .iadd, 1, []), (29, .istore_n 2, 1, []), (30, .iinc 3 1, 3, []), (33, .goto (-29), 3, []), (36, .iload_n 2, 1, [false, false, true, false]), (37, .ireturn, 1, [])] [(189, 0, jcX12_owed)] [(4, juX12_owesOf_4 k4)] 23 [] 4 [.ref 121, .int a1, .int a2, .int a3] [] M = jgX12_owesOf_4 k4 a1 a2 a3 M := rfl
theorem jtX12_owesOf_4 : ∀ n : Nat, ∀ (a1 : Int32) (a2 : Int32) (a3 : Int32) (M : sy_M) (r : xe_R × sy_M), jfX12_owesOf_4 n a1 a2 a3 M = some r → sy_E (2) qX12_owesOf 4 [.ref 121, .int a1, .int a2, .int a3] [] M r := by
  intro n
  induction n with
  | zero => intro a1 a2 a3 M r h; exact absurd (show (none : sy_O) = some r from h) (by simp)
  | succ n ih => intro a1 a2 a3 M r h; exact sy_run_by (d := 1) ((jrX12_owesOf_4 _ _ _ _ M).trans h) hkX12 (by decide +kernel) (sy_cs_cons (jeX12_owed.deep (by decide)) sy_cs_nil) (sy_us_cons (jwX12_owesOf_4 ih) sy_us_nil)
def jfX12_owesOf (a1 : Int32) (M : sy_M) : sy_O :=
  jfX12_owesOf_4 sy_F a1 0 0 M
set_option maxRecDepth 100000 in
theorem jrX12_owesOf (a1 : Int32) (M : sy_M) : sy_run skX12 qX12_owesOf [(0, .iconst 0, 1, []), (1, .istore_n 2, 1, []), (2, .iconst 0, 1, []), (3, .istore_n 3, 1, [])] [] [(4, juX12_owesOf_4 (jfX12_owesOf_4 sy_F))] 5 [] 0 [.ref 121, .int a1, xe_no, xe_no] [] M = jfX12_owesOf a1 M := rfl
theorem jtX12_owesOf : ∀ (a1 : Int32) (M : sy_M) (r : xe_R × sy_M), jfX12_owesOf a1 M = some r → sy_E (2) qX12_owesOf 0 [.ref 121, .int a1, xe_no, xe_no] [] M r := by
  intro a1 M r h
  exact sy_run_by (d := 1) ((jrX12_owesOf _ M).trans h) hkX12 (by decide +kernel) sy_cs_nil (sy_us_cons (jwX12_owesOf_4 (jtX12_owesOf_4 sy_F)) sy_us_nil)
def jcX12_owesOf (as : List Value) (M : sy_M) (K : sy_O → sy_O) : sy_O := sy_xc 121 as fun l => sy_xi l fun a1 l => sy_xn l (K (jfX12_owesOf a1 M))
theorem jeX12_owesOf : sy_snd (2) 300 (jcX12_owesOf) := by
  intro as M K r h
  obtain ⟨l, e, h1⟩ := sy_xc_ok h; subst e
  obtain ⟨a1, l, e, h2⟩ := sy_xi_ok h1; subst e
  obtain ⟨e, h3⟩ := sy_xn_ok h2; subst e
  exact ⟨_, h3, fun r1 h0 => ⟨qX12_owesOf, rfl, rfl, jtX12_owesOf _ M r1 h0⟩⟩
/-! X12_debt StairMeterModel debt ()I [('R', 121)] -/
def juX12_debt_9 (k : Int32 → Int32 → sy_M → sy_O) (ls st : List Value) (M : sy_M) : sy_O := sy_xc 121 ls fun l => sy_xi l fun a1 l => sy_xi l fun a2 l => sy_xn l (sy_xn st (k a1 a2 M))
theorem jwX12_debt_9 {d : Nat} {k : Int32 → Int32 → sy_M → sy_O} (hk : ∀ (a1 : Int32) (a2 : Int32) (M : sy_M) (r : xe_R × sy_M), k a1 a2 M = some r → sy_E (d) qX12_debt 9 [.ref 121, .int a1, .int a2] [] M r) : ∀ ls st M r, juX12_debt_9 k ls st M = some r → sy_E d qX12_debt 9 ls st M r := by
  intro ls st M r h
  obtain ⟨l, e, h1⟩ := sy_xc_ok h; subst e
  obtain ⟨a1, l, e, h2⟩ := sy_xi_ok h1; subst e
  obtain ⟨a2, l, e, h3⟩ := sy_xi_ok h2; subst e
  obtain ⟨e, h4⟩ := sy_xn_ok h3; subst e
  obtain ⟨e, h5⟩ := sy_xn_ok h4; subst e
  exact hk a1 a2 M r h5
def jgX12_debt_9 (k9 : Int32 → Int32 → sy_M → sy_O) (a1 : Int32) (a2 : Int32) (M : sy_M) : sy_O :=
  if a2 < (M 122 3) then
    sy_bi (jfX12_owesOf a2 M) fun v2 M1 =>
    sy_bi (jfX12_greater 0 v2 M1) fun v4 M3 =>
    let v5 := (a1 + v4)
    let v6 := a2 + 1
    k9 v5 v6 M3
  else
    sy_ri a1 M
def jfX12_debt_9 : Nat → Int32 → Int32 → sy_M → sy_O
  | 0, _, _, _ => none
  | n + 1, a1, a2, M => jgX12_debt_9 (jfX12_debt_9 n) a1 a2 M
set_option maxRecDepth 100000 in
theorem jrX12_debt_9 (k9 : Int32 → Int32 → sy_M → sy_O) (a1 : Int32) (a2 : Int32) (M : sy_M) : sy_run skX12 qX12_debt [(9, .iload_n 2, 1, []), (10, .aload_n 0, 1, []), (11, .getfield 7, 3, []), (14, .iconst 3, 1, []), (15, .iaload, 1, []), (16, .if_icmp .ge 21, 3, []), (19, .iload_n 1, 1, []), (20, .iconst 0, 1, []), (21, .aload_n 0, 1, []), (22, .iload_n 2, 1, []), (23, .invokevirtual 382, 3, []), (26, .invokestatic 333, 3, []), (29, .iadd, 1, []), (30, .istore_n 1, 1, []), (31, .iinc 2 1, 3, []), (34, .goto (-25), 3, []), (37, .iload_n 1, 1, [false, true, false]), (38, .ireturn, 1, [])] [(300, 0, jcX12_owesOf), (184, 0, jcX12_greater)] [(9, juX12_debt_9 k9)] 19 [] 9 [.ref 121, .int a1, .int a2] [] M = jgX12_debt_9 k9 a1 a2 M := rfl
theorem jtX12_debt_9 : ∀ n : Nat, ∀ (a1 : Int32) (a2 : Int32) (M : sy_M) (r : xe_R × sy_M), jfX12_debt_9 n a1 a2 M = some r → sy_E (3) qX12_debt 9 [.ref 121, .int a1, .int a2] [] M r := by
  intro n
  induction n with
  | zero => intro a1 a2 M r h; exact absurd (show (none : sy_O) = some r from h) (by simp)
  | succ n ih => intro a1 a2 M r h; exact sy_run_by (d := 2) ((jrX12_debt_9 _ _ _ M).trans h) hkX12 (by decide +kernel) (sy_cs_cons (jeX12_owesOf.deep (by decide)) (sy_cs_cons (jeX12_greater.deep (by decide)) sy_cs_nil)) (sy_us_cons (jwX12_debt_9 ih) sy_us_nil)
def jfX12_debt (M : sy_M) : sy_O :=
  let M1 := sy_upd M 121 0 0
  jfX12_debt_9 sy_F 0 0 M1
set_option maxRecDepth 100000 in
theorem jrX12_debt (M : sy_M) : sy_run skX12 qX12_debt [(0, .aload_n 0, 1, []), (1, .iconst 0, 1, []), (2, .putfield 45, 3, []), (5, .iconst 0, 1, []), (6, .istore_n 1, 1, []), (7, .iconst 0, 1, []), (8, .istore_n 2, 1, [])] [] [(9, juX12_debt_9 (jfX12_debt_9 sy_F))] 8 [] 0 [.ref 121, xe_no, xe_no] [] M = jfX12_debt M := rfl
theorem jtX12_debt : ∀ (M : sy_M) (r : xe_R × sy_M), jfX12_debt M = some r → sy_E (3) qX12_debt 0 [.ref 121, xe_no, xe_no] [] M r := by
  intro  M r h
  exact sy_run_by (d := 2) ((jrX12_debt M).trans h) hkX12 (by decide +kernel) sy_cs_nil (sy_us_cons (jwX12_debt_9 (jtX12_debt_9 sy_F)) sy_us_nil)
def jcX12_debt (as : List Value) (M : sy_M) (K : sy_O → sy_O) : sy_O := sy_xc 121 as fun l => sy_xn l (K (jfX12_debt M))
theorem jeX12_debt : sy_snd (3) 301 (jcX12_debt) := by
  intro as M K r h
  obtain ⟨l, e, h1⟩ := sy_xc_ok h; subst e
  obtain ⟨e, h2⟩ := sy_xn_ok h1; subst e
  exact ⟨_, h2, fun r1 h0 => ⟨qX12_debt, rfl, rfl, jtX12_debt  M r1 h0⟩⟩
end
