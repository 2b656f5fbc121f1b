/-! ===== functions of the methods (3); written by wip/whole/run_f.py ===== -/
noncomputable section
/-! X12_sum StairMeterModel sum ()I [('R', 121)] -/
def juX12_sum_5 (k : Int32 → sy_M → sy_O) (ls st : List Value) (M : sy_M) : sy_O := sy_xc 121 ls fun l => sy_xi l fun a1 l => sy_xn l (sy_xn st (k a1 M))
theorem jwX12_sum_5 {d : Nat} {k : Int32 → sy_M → sy_O} (hk : ∀ (a1 : Int32) (M : sy_M) (r : xe_R × sy_M), k a1 M = some r → sy_E (d) qX12_sum 5 [.ref 121, .int a1] [] M r) : ∀ ls st M r, juX12_sum_5 k ls st M = some r → sy_E d qX12_sum 5 ls st M r := by
  intro ls st M r h
  obtain ⟨l, e, h1⟩ := sy_xc_ok h; subst e
  obtain ⟨a1, l, e, h2⟩ := sy_xi_ok h1; subst e
  obtain ⟨e, h3⟩ := sy_xn_ok h2; subst e
  obtain ⟨e, h4⟩ := sy_xn_ok h3; subst e
  exact hk a1 M r h4
def jgX12_sum_5 (k5 : Int32 → sy_M → sy_O) (a1 : Int32) (M : sy_M) : sy_O :=
  if (M 121 12) = (-1) then
    sy_bi (jfX12_isSign 43 M) fun v2 M1 =>
    if v2 = 0 then
      sy_ri a1 M1
    else
      let M3 := sy_upd M1 121 11 ((M1 121 11) + 1)
      sy_bi (jfX12_part M3) fun v5 M4 =>
      let v6 := (a1 + v5)
      k5 v6 M4
  else
    sy_ri a1 M
def jfX12_sum_5 : Nat → Int32 → sy_M → sy_O
  | 0, _, _ => none
  | n + 1, a1, M => jgX12_sum_5 (jfX12_sum_5 n) a1 M
set_option maxRecDepth 100000 in
theorem jrX12_sum_5 (k5 : Int32 → sy_M → sy_O) (a1 : Int32) (M : sy_M) : sy_run skX12 qX12_sum [(5, .aload_n 0, 1, []), (6, .getfield 25, 3, []), (9, .iconst (-1), 1, []), (10, .if_icmp .ne 32, 3, []), (13, .aload_n 0, 1, []), (14, .bipush 43, 2, []), (16, .invokevirtual 168, 3, []), (19, .ifCond .eq 23, 3, []), (22, .aload_n 0, 1, []), (23, .dup, 1, []), (24, .getfield 76, 3, []), (27, .iconst 1, 1, []), (28, .iadd, 1, []), (29, .putfield 76, 3, []), (32, .iload_n 1, 1, []), (33, .aload_n 0, 1, []), (34, .invokevirtual 194, 3, []), (37, .iadd, 1, []), (38, .istore_n 1, 1, []), (39, .goto (-34), 3, []), (42, .iload_n 1, 1, [false, true]), (43, .ireturn, 1, [])] [(202, 0, jcX12_isSign), (218, 0, jcX12_part)] [(5, juX12_sum_5 k5)] 23 [] 5 [.ref 121, .int a1] [] M = jgX12_sum_5 k5 a1 M := rfl
theorem jtX12_sum_5 : ∀ n : Nat, ∀ (a1 : Int32) (M : sy_M) (r : xe_R × sy_M), jfX12_sum_5 n a1 M = some r → sy_E (6) qX12_sum 5 [.ref 121, .int a1] [] M r := by
  intro n
  induction n with
  | zero => intro a1 M r h; exact absurd (show (none : sy_O) = some r from h) (by simp)
  | succ n ih => intro a1 M r h; exact sy_run_by (d := 5) ((jrX12_sum_5 _ _ M).trans h) hkX12 (by decide +kernel) (sy_cs_cons (jeX12_isSign.deep (by decide)) (sy_cs_cons (jeX12_part.deep (by decide)) sy_cs_nil)) (sy_us_cons (jwX12_sum_5 ih) sy_us_nil)
def jfX12_sum (M : sy_M) : sy_O :=
  sy_bi (jfX12_part M) fun v2 M1 =>
  jfX12_sum_5 sy_F v2 M1
set_option maxRecDepth 100000 in
theorem jrX12_sum (M : sy_M) : sy_run skX12 qX12_sum [(0, .aload_n 0, 1, []), (1, .invokevirtual 194, 3, []), (4, .istore_n 1, 1, [])] [(218, 0, jcX12_part)] [(5, juX12_sum_5 (jfX12_sum_5 sy_F))] 4 [] 0 [.ref 121, xe_no] [] M = jfX12_sum M := rfl
theorem jtX12_sum : ∀ (M : sy_M) (r : xe_R × sy_M), jfX12_sum M = some r → sy_E (6) qX12_sum 0 [.ref 121, xe_no] [] M r := by
  intro  M r h
  exact sy_run_by (d := 5) ((jrX12_sum M).trans h) hkX12 (by decide +kernel) (sy_cs_cons (jeX12_part.deep (by decide)) sy_cs_nil) (sy_us_cons (jwX12_sum_5 (jtX12_sum_5 sy_F)) sy_us_nil)
def jcX12_sum (as : List Value) (M : sy_M) (K : sy_O → sy_O) : sy_O := sy_xc 121 as fun l => sy_xn l (K (jfX12_sum M))
theorem jeX12_sum : sy_snd (6) 219 (jcX12_sum) := by
  intro as M K r h
  obtain ⟨l, e, h1⟩ := sy_xc_ok h; subst e
  obtain ⟨e, h2⟩ := sy_xn_ok h1; subst e
  exact ⟨_, h2, fun r1 h0 => ⟨qX12_sum, rfl, rfl, jtX12_sum  M r1 h0⟩⟩
/-! X12_plain StairMeterModel plain ()Z [('R', 121)] -/
def juX12_plain_73 (k : Int32 → Int32 → sy_M → sy_O) (ls st : List Value) (M : sy_M) : sy_O := sy_xc 121 ls fun l => sy_xi l fun a1 l => sy_xi l fun a2 l => sy_xv l fun _ l => sy_xn l (sy_xn st (k a1 a2 M))
theorem jwX12_plain_73 {d : Nat} {k : Int32 → Int32 → sy_M → sy_O} (hk : ∀ (w3 : Value) (a1 : Int32) (a2 : Int32) (M : sy_M) (r : xe_R × sy_M), k a1 a2 M = some r → sy_E (d) qX12_plain 73 [.ref 121, .int a1, .int a2, w3] [] M r) : ∀ ls st M r, juX12_plain_73 k ls st M = some r → sy_E d qX12_plain 73 ls st M r := by
  intro ls st M r h
  obtain ⟨l, e, h1⟩ := sy_xc_ok h; subst e
  obtain ⟨a1, l, e, h2⟩ := sy_xi_ok h1; subst e
  obtain ⟨a2, l, e, h3⟩ := sy_xi_ok h2; subst e
  obtain ⟨w3, l, e, h4⟩ := sy_xv_ok h3; subst e
  obtain ⟨e, h5⟩ := sy_xn_ok h4; subst e
  obtain ⟨e, h6⟩ := sy_xn_ok h5; subst e
  exact hk _ a1 a2 M r h6
def jfX12_plain_73 (a1 : Int32) (a2 : Int32) (M : sy_M) : sy_O :=
  let M1 := sy_upd M 121 11 ((M 121 11) + 1)
  sy_bi (jfX12_sum M1) fun v3 M2 =>
  if a2 = 0 then
    if v3 < a1 then
      sy_ri 1 M2
    else
      sy_ri 0 M2
  else
    if a1 < v3 then
      sy_ri 1 M2
    else
      sy_ri 0 M2
set_option maxRecDepth 100000 in
theorem jrX12_plain_73 (w3 : Value) (a1 : Int32) (a2 : Int32) (M : sy_M) : sy_run skX12 qX12_plain [(73, .aload_n 0, 1, [true, true, true, false]), (74, .dup, 1, []), (75, .getfield 76, 3, []), (78, .iconst 1, 1, []), (79, .iadd, 1, []), (80, .putfield 76, 3, []), (83, .aload_n 0, 1, []), (84, .invokevirtual 208, 3, []), (87, .istore_n 3, 1, []), (88, .iload_n 2, 1, []), (89, .ifCond .eq 16, 3, []), (92, .iload_n 1, 1, []), (93, .iload_n 3, 1, []), (94, .if_icmp .ge 7, 3, []), (97, .iconst 1, 1, []), (98, .goto 17, 3, []), (101, .iconst 0, 1, [false, false, false, false]), (102, .goto 13, 3, []), (105, .iload_n 1, 1, [false, true, false, true]), (106, .iload_n 3, 1, []), (107, .if_icmp .le 7, 3, []), (110, .iconst 1, 1, []), (111, .goto 4, 3, []), (114, .iconst 0, 1, [false, false, false, false]), (115, .ireturn, 1, [false, false, false, false])] [(219, 0, jcX12_sum)] [] 26 [] 73 [.ref 121, .int a1, .int a2, w3] [] M = jfX12_plain_73 a1 a2 M := rfl
theorem jtX12_plain_73 : ∀ (w3 : Value) (a1 : Int32) (a2 : Int32) (M : sy_M) (r : xe_R × sy_M), jfX12_plain_73 a1 a2 M = some r → sy_E (7) qX12_plain 73 [.ref 121, .int a1, .int a2, w3] [] M r := by
  intro w3 a1 a2 M r h
  exact sy_run_by (d := 6) ((jrX12_plain_73 _ _ _ M).trans h) hkX12 (by decide +kernel) (sy_cs_cons (jeX12_sum.deep (by decide)) sy_cs_nil) sy_us_nil
def jfX12_plain (M : sy_M) : sy_O :=
  sy_bi (jfX12_has 1500006 M) fun v2 M1 =>
  if v2 = 0 then
    sy_bi (jfX12_has 1500007 M1) fun v4 M3 =>
    if v4 = 0 then
      sy_bi (jfX12_sum M3) fun v6 M5 =>
      if (M5 121 12) = (-1) then
        sy_bi (jfX12_isSign 60 M5) fun v8 M7 =>
        if v8 = 0 then
          sy_bi (jfX12_isSign 62 M7) fun v10 M9 =>
          if v10 = 0 then
            sy_bv (jfX12_wrong (M9 121 11) M9) fun M11 =>
            sy_ri 0 M11
          else
            jfX12_plain_73 v6 v8 M9
        else
          jfX12_plain_73 v6 v8 M7
      else
        sy_ri 0 M5
    else
      sy_bb (sy_bo (M3 121 16)) <| sy_ri (M3 121 16) M3
  else
    sy_bb (sy_bo (M1 121 15)) <| sy_ri (M1 121 15) M1
set_option maxRecDepth 100000 in
theorem jrX12_plain (M : sy_M) : sy_run skX12 qX12_plain [(0, .aload_n 0, 1, []), (1, .ldc 197, 2, []), (3, .invokevirtual 105, 3, []), (6, .ifCond .eq 8, 3, []), (9, .aload_n 0, 1, []), (10, .getfield 199, 3, []), (13, .ireturn, 1, []), (14, .aload_n 0, 1, [true, false, false, false]), (15, .ldc 203, 2, []), (17, .invokevirtual 105, 3, []), (20, .ifCond .eq 8, 3, []), (23, .aload_n 0, 1, []), (24, .getfield 205, 3, []), (27, .ireturn, 1, []), (28, .aload_n 0, 1, [true, false, false, false]), (29, .invokevirtual 208, 3, []), (32, .istore_n 1, 1, []), (33, .aload_n 0, 1, []), (34, .getfield 25, 3, []), (37, .iconst (-1), 1, []), (38, .if_icmp .eq 5, 3, []), (41, .iconst 0, 1, []), (42, .ireturn, 1, []), (43, .aload_n 0, 1, [true, true, false, false]), (44, .bipush 60, 2, []), (46, .invokevirtual 168, 3, []), (49, .istore_n 2, 1, []), (50, .iload_n 2, 1, []), (51, .ifCond .ne 22, 3, []), (54, .aload_n 0, 1, []), (55, .bipush 62, 2, []), (57, .invokevirtual 168, 3, []), (60, .ifCond .ne 13, 3, []), (63, .aload_n 0, 1, []), (64, .aload_n 0, 1, []), (65, .getfield 76, 3, []), (68, .invokevirtual 101, 3, []), (71, .iconst 0, 1, []), (72, .ireturn, 1, [])] [(203, 0, jcX12_has), (219, 0, jcX12_sum), (202, 0, jcX12_isSign), (204, 1, jcX12_wrong)] [(73, juX12_plain_73 (jfX12_plain_73))] 40 [] 0 [.ref 121, xe_no, xe_no, xe_no] [] M = jfX12_plain M := rfl
theorem jtX12_plain : ∀ (M : sy_M) (r : xe_R × sy_M), jfX12_plain M = some r → sy_E (7) qX12_plain 0 [.ref 121, xe_no, xe_no, xe_no] [] M r := by
  intro  M r h
  exact sy_run_by (d := 6) ((jrX12_plain M).trans h) hkX12 (by decide +kernel) (sy_cs_cons (jeX12_has.deep (by decide)) (sy_cs_cons (jeX12_sum.deep (by decide)) (sy_cs_cons (jeX12_isSign.deep (by decide)) (sy_cs_cons (jeX12_wrong.deep (by decide)) sy_cs_nil)))) (sy_us_cons (jwX12_plain_73 (jtX12_plain_73)) sy_us_nil)
def jcX12_plain (as : List Value) (M : sy_M) (K : sy_O → sy_O) : sy_O := sy_xc 121 as fun l => sy_xn l (K (jfX12_plain M))
theorem jeX12_plain : sy_snd (7) 220 (jcX12_plain) := by
  intro as M K r h
  obtain ⟨l, e, h1⟩ := sy_xc_ok h; subst e
  obtain ⟨e, h2⟩ := sy_xn_ok h1; subst e
  exact ⟨_, h2, fun r1 h0 => ⟨qX12_plain, rfl, rfl, jtX12_plain  M r1 h0⟩⟩
/-! X12_atom StairMeterModel atom ()Z [('R', 121)] -/
def juX12_atom_138 (k : Int32 → sy_M → sy_O) (ls st : List Value) (M : sy_M) : sy_O := sy_xc 121 ls fun l => sy_xv l fun _ l => sy_xv l fun _ l => sy_xi l fun a3 l => sy_xn l (sy_xn st (k a3 M))
theorem jwX12_atom_138 {d : Nat} {k : Int32 → sy_M → sy_O} (hk : ∀ (w1 : Value) (w2 : Value) (a3 : Int32) (M : sy_M) (r : xe_R × sy_M), k a3 M = some r → sy_E (d) qX12_atom 138 [.ref 121, w1, w2, .int a3] [] M r) : ∀ ls st M r, juX12_atom_138 k ls st M = some r → sy_E d qX12_atom 138 ls st M r := by
  intro ls st M r h
  obtain ⟨l, e, h1⟩ := sy_xc_ok h; subst e
  obtain ⟨w1, l, e, h2⟩ := sy_xv_ok h1; subst e
  obtain ⟨w2, l, e, h3⟩ := sy_xv_ok h2; subst e
  obtain ⟨a3, l, e, h4⟩ := sy_xi_ok h3; subst e
  obtain ⟨e, h5⟩ := sy_xn_ok h4; subst e
  obtain ⟨e, h6⟩ := sy_xn_ok h5; subst e
  exact hk _ _ a3 M r h6
def juX12_atom_128 (k : Int32 → sy_M → sy_O) (ls st : List Value) (M : sy_M) : sy_O := sy_xc 121 ls fun l => sy_xv l fun _ l => sy_xv l fun _ l => sy_xi l fun a3 l => sy_xn l (sy_xn st (k a3 M))
theorem jwX12_atom_128 {d : Nat} {k : Int32 → sy_M → sy_O} (hk : ∀ (w1 : Value) (w2 : Value) (a3 : Int32) (M : sy_M) (r : xe_R × sy_M), k a3 M = some r → sy_E (d) qX12_atom 128 [.ref 121, w1, w2, .int a3] [] M r) : ∀ ls st M r, juX12_atom_128 k ls st M = some r → sy_E d qX12_atom 128 ls st M r := by
  intro ls st M r h
  obtain ⟨l, e, h1⟩ := sy_xc_ok h; subst e
  obtain ⟨w1, l, e, h2⟩ := sy_xv_ok h1; subst e
  obtain ⟨w2, l, e, h3⟩ := sy_xv_ok h2; subst e
  obtain ⟨a3, l, e, h4⟩ := sy_xi_ok h3; subst e
  obtain ⟨e, h5⟩ := sy_xn_ok h4; subst e
  obtain ⟨e, h6⟩ := sy_xn_ok h5; subst e
  exact hk _ _ a3 M r h6
def juX12_atom_84 (k : Int32 → sy_M → sy_O) (ls st : List Value) (M : sy_M) : sy_O := sy_xc 121 ls fun l => sy_xv l fun _ l => sy_xv l fun _ l => sy_xv l fun _ l => sy_xn l (sy_xi st fun s0 l => sy_xn l (k s0 M))
theorem jwX12_atom_84 {d : Nat} {k : Int32 → sy_M → sy_O} (hk : ∀ (w1 : Value) (w2 : Value) (w3 : Value) (s0 : Int32) (M : sy_M) (r : xe_R × sy_M), k s0 M = some r → sy_E (d) qX12_atom 84 [.ref 121, w1, w2, w3] [.int s0] M r) : ∀ ls st M r, juX12_atom_84 k ls st M = some r → sy_E d qX12_atom 84 ls st M r := by
  intro ls st M r h
  obtain ⟨l, e, h1⟩ := sy_xc_ok h; subst e
  obtain ⟨w1, l, e, h2⟩ := sy_xv_ok h1; subst e
  obtain ⟨w2, l, e, h3⟩ := sy_xv_ok h2; subst e
  obtain ⟨w3, l, e, h4⟩ := sy_xv_ok h3; subst e
  obtain ⟨e, h5⟩ := sy_xn_ok h4; subst e
  obtain ⟨s0, l, e, h6⟩ := sy_xi_ok h5; subst e
  obtain ⟨e, h7⟩ := sy_xn_ok h6; subst e
  exact hk _ _ _ s0 M r h7
def juX12_atom_40 (k : Int32 → Int32 → sy_M → sy_O) (ls st : List Value) (M : sy_M) : sy_O := sy_xc 121 ls fun l => sy_xi l fun a1 l => sy_xi l fun a2 l => sy_xv l fun _ l => sy_xn l (sy_xn st (k a1 a2 M))
theorem jwX12_atom_40 {d : Nat} {k : Int32 → Int32 → sy_M → sy_O} (hk : ∀ (w3 : Value) (a1 : Int32) (a2 : Int32) (M : sy_M) (r : xe_R × sy_M), k a1 a2 M = some r → sy_E (d) qX12_atom 40 [.ref 121, .int a1, .int a2, w3] [] M r) : ∀ ls st M r, juX12_atom_40 k ls st M = some r → sy_E d qX12_atom 40 ls st M r := by
  intro ls st M r h
  obtain ⟨l, e, h1⟩ := sy_xc_ok h; subst e
  obtain ⟨a1, l, e, h2⟩ := sy_xi_ok h1; subst e
  obtain ⟨a2, l, e, h3⟩ := sy_xi_ok h2; subst e
  obtain ⟨w3, l, e, h4⟩ := sy_xv_ok h3; subst e
  obtain ⟨e, h5⟩ := sy_xn_ok h4; subst e
  obtain ⟨e, h6⟩ := sy_xn_ok h5; subst e
  exact hk _ a1 a2 M r h6
def jfX12_atom_138 (rc : sy_M → sy_O) (a3 : Int32) (M : sy_M) : sy_O :=
  let M1 := sy_upd M 121 13 ((M 121 13) - 1)
  sy_bb (sy_bo a3) <| sy_ri a3 M1
set_option maxRecDepth 100000 in
theorem jrX12_atom_138 (rc : sy_M → sy_O) (w1 : Value) (w2 : Value) (a3 : Int32) (M : sy_M) : sy_run skX12 qX12_atom [(138, .aload_n 0, 1, [true, false, false, true]), (139, .dup, 1, []), (140, .getfield 159, 3, []), (143, .iconst 1, 1, []), (144, .isub, 1, []), (145, .putfield 159, 3, []), (148, .iload_n 3, 1, []), (149, .ireturn, 1, [])] [] [] 9 [] 138 [.ref 121, w1, w2, .int a3] [] M = jfX12_atom_138 rc a3 M := rfl
theorem jtX12_atom_138 {rc : sy_M → sy_O} {d : Nat} (hd : 7 ≤ d) (hrc : sy_snd d 221 (chd_A rc)) : ∀ (w1 : Value) (w2 : Value) (a3 : Int32) (M : sy_M) (r : xe_R × sy_M), jfX12_atom_138 rc a3 M = some r → sy_E (d + 3) qX12_atom 138 [.ref 121, w1, w2, .int a3] [] M r := by
  intro w1 w2 a3 M r h
  exact sy_run_by (d := d + 2) ((jrX12_atom_138 _ _ _ _ M).trans h) hkX12 (by decide +kernel) sy_cs_nil sy_us_nil
def jfX12_atom_128 (rc : sy_M → sy_O) (a3 : Int32) (M : sy_M) : sy_O :=
  let M1 := sy_upd M 121 11 ((M 121 11) + 1)
  jfX12_atom_138 rc a3 M1
set_option maxRecDepth 100000 in
theorem jrX12_atom_128 (rc : sy_M → sy_O) (w1 : Value) (w2 : Value) (a3 : Int32) (M : sy_M) : sy_run skX12 qX12_atom [(128, .aload_n 0, 1, [true, false, false, true]), (129, .dup, 1, []), (130, .getfield 76, 3, []), (133, .iconst 1, 1, []), (134, .iadd, 1, []), (135, .putfield 76, 3, [])] [] [(138, juX12_atom_138 (jfX12_atom_138 rc))] 7 [] 128 [.ref 121, w1, w2, .int a3] [] M = jfX12_atom_128 rc a3 M := rfl
theorem jtX12_atom_128 {rc : sy_M → sy_O} {d : Nat} (hd : 7 ≤ d) (hrc : sy_snd d 221 (chd_A rc)) : ∀ (w1 : Value) (w2 : Value) (a3 : Int32) (M : sy_M) (r : xe_R × sy_M), jfX12_atom_128 rc a3 M = some r → sy_E (d + 3) qX12_atom 128 [.ref 121, w1, w2, .int a3] [] M r := by
  intro w1 w2 a3 M r h
  exact sy_run_by (d := d + 2) ((jrX12_atom_128 _ _ _ _ M).trans h) hkX12 (by decide +kernel) sy_cs_nil (sy_us_cons (jwX12_atom_138 (jtX12_atom_138 hd hrc)) sy_us_nil)
def jfX12_atom_84 (rc : sy_M → sy_O) (s0 : Int32) (M : sy_M) : sy_O :=
  jfX12_atom_138 rc s0 M
set_option maxRecDepth 100000 in
theorem jrX12_atom_84 (rc : sy_M → sy_O) (w1 : Value) (w2 : Value) (w3 : Value) (s0 : Int32) (M : sy_M) : sy_run skX12 qX12_atom [(84, .istore_n 3, 1, [true, false, false, false]), (85, .goto 53, 3, [])] [] [(138, juX12_atom_138 (jfX12_atom_138 rc))] 3 [] 84 [.ref 121, w1, w2, w3] [.int s0] M = jfX12_atom_84 rc s0 M := rfl
theorem jtX12_atom_84 {rc : sy_M → sy_O} {d : Nat} (hd : 7 ≤ d) (hrc : sy_snd d 221 (chd_A rc)) : ∀ (w1 : Value) (w2 : Value) (w3 : Value) (s0 : Int32) (M : sy_M) (r : xe_R × sy_M), jfX12_atom_84 rc s0 M = some r → sy_E (d + 3) qX12_atom 84 [.ref 121, w1, w2, w3] [.int s0] M r := by
  intro w1 w2 w3 s0 M r h
  exact sy_run_by (d := d + 2) ((jrX12_atom_84 _ _ _ _ _ M).trans h) hkX12 (by decide +kernel) sy_cs_nil (sy_us_cons (jwX12_atom_138 (jtX12_atom_138 hd hrc)) sy_us_nil)
def jfX12_atom_40 (rc : sy_M → sy_O) (a1 : Int32) (a2 : Int32) (M : sy_M) : sy_O :=
  if (M 121 13) = 6 then
    sy_bv (jfX12_wrong a1 M) fun M10 =>
    sy_ri 0 M10
  else
    let M1 := sy_upd M 121 13 ((M 121 13) + 1)
    if a2 = 0 then
      let M2 := sy_upd M1 121 11 ((M1 121 11) + 1)
      sy_bi (jfX12_some rc M2) fun v4 M3 =>
      if (M3 121 12) = (-1) then
        sy_bi (jfX12_isSign 41 M3) fun v6 M5 =>
        if v6 = 0 then
          sy_bv (jfX12_wrong (M5 121 11) M5) fun M7 =>
          jfX12_atom_128 rc v4 M7
        else
          jfX12_atom_128 rc v4 M5
      else
        jfX12_atom_128 rc v4 M3
    else
      sy_bi (rc M1) fun v9 M8 =>
      if v9 = 0 then
        jfX12_atom_84 rc 1 M8
      else
        jfX12_atom_84 rc 0 M8
set_option maxRecDepth 100000 in
theorem jrX12_atom_40 (rc : sy_M → sy_O) (w3 : Value) (a1 : Int32) (a2 : Int32) (M : sy_M) : sy_run skX12 qX12_atom [(40, .aload_n 0, 1, [true, true, true, false]), (41, .getfield 159, 3, []), (44, .bipush 6, 2, []), (46, .if_icmp .ne 10, 3, []), (49, .aload_n 0, 1, []), (50, .iload_n 1, 1, []), (51, .invokevirtual 101, 3, []), (54, .iconst 0, 1, []), (55, .ireturn, 1, []), (56, .aload_n 0, 1, [true, false, true, false]), (57, .dup, 1, []), (58, .getfield 159, 3, []), (61, .iconst 1, 1, []), (62, .iadd, 1, []), (63, .putfield 159, 3, []), (66, .iconst 0, 1, []), (67, .istore_n 3, 1, []), (68, .iload_n 2, 1, []), (69, .ifCond .eq 19, 3, []), (72, .aload_n 0, 1, []), (73, .invokevirtual 217, 3, []), (76, .ifCond .ne 7, 3, []), (79, .iconst 1, 1, []), (80, .goto 4, 3, []), (83, .iconst 0, 1, [true, false, false, false]), (88, .aload_n 0, 1, [true, false, false, false]), (89, .dup, 1, []), (90, .getfield 76, 3, []), (93, .iconst 1, 1, []), (94, .iadd, 1, []), (95, .putfield 76, 3, []), (98, .aload_n 0, 1, []), (99, .invokevirtual 220, 3, []), (102, .istore_n 3, 1, []), (103, .aload_n 0, 1, []), (104, .getfield 25, 3, []), (107, .iconst (-1), 1, []), (108, .if_icmp .ne 20, 3, []), (111, .aload_n 0, 1, []), (112, .bipush 41, 2, []), (114, .invokevirtual 168, 3, []), (117, .ifCond .ne 11, 3, []), (120, .aload_n 0, 1, []), (121, .aload_n 0, 1, []), (122, .getfield 76, 3, []), (125, .invokevirtual 101, 3, [])] [(223, 0, jcX12_some rc), (202, 0, jcX12_isSign), (204, 1, jcX12_wrong), (221, 0, chd_A rc)] [(128, juX12_atom_128 (jfX12_atom_128 rc)), (84, juX12_atom_84 (jfX12_atom_84 rc))] 47 [] 40 [.ref 121, .int a1, .int a2, w3] [] M = jfX12_atom_40 rc a1 a2 M := rfl
theorem jtX12_atom_40 {rc : sy_M → sy_O} {d : Nat} (hd : 7 ≤ d) (hrc : sy_snd d 221 (chd_A rc)) : ∀ (w3 : Value) (a1 : Int32) (a2 : Int32) (M : sy_M) (r : xe_R × sy_M), jfX12_atom_40 rc a1 a2 M = some r → sy_E (d + 3) qX12_atom 40 [.ref 121, .int a1, .int a2, w3] [] M r := by
  intro w3 a1 a2 M r h
  exact sy_run_by (d := d + 2) ((jrX12_atom_40 _ _ _ _ M).trans h) hkX12 (by decide +kernel) (sy_cs_cons ((jeX12_some hd hrc).deep (by omega)) (sy_cs_cons (jeX12_isSign.deep (by omega)) (sy_cs_cons (jeX12_wrong.deep (by omega)) (sy_cs_cons (hrc.deep (by omega)) sy_cs_nil)))) (sy_us_cons (jwX12_atom_128 (jtX12_atom_128 hd hrc)) (sy_us_cons (jwX12_atom_84 (jtX12_atom_84 hd hrc)) sy_us_nil))
def jgX12_atom (rc : sy_M → sy_O) (M : sy_M) : sy_O :=
  if (M 121 12) = (-1) then
    sy_bi (jfX12_here M) fun v2 M1 =>
    sy_bi (jfX12_has 1500005 M1) fun v4 M3 =>
    if v4 = 0 then
      sy_bi (jfX12_isSign 40 M3) fun v6 M5 =>
      if v6 = 0 then
        sy_bi (jfX12_plain M5) fun v8 M7 =>
        sy_bb (sy_bo v8) <| sy_ri v8 M7
      else
        jfX12_atom_40 rc v2 v4 M5
    else
      jfX12_atom_40 rc v2 v4 M3
  else
    sy_ri 0 M
set_option maxRecDepth 100000 in
theorem jrX12_atom (rc : sy_M → sy_O) (M : sy_M) : sy_run skX12 qX12_atom [(0, .aload_n 0, 1, []), (1, .getfield 25, 3, []), (4, .iconst (-1), 1, []), (5, .if_icmp .eq 5, 3, []), (8, .iconst 0, 1, []), (9, .ireturn, 1, []), (10, .aload_n 0, 1, [true, false, false, false]), (11, .invokevirtual 98, 3, []), (14, .istore_n 1, 1, []), (15, .aload_n 0, 1, []), (16, .ldc 211, 2, []), (18, .invokevirtual 105, 3, []), (21, .istore_n 2, 1, []), (22, .iload_n 2, 1, []), (23, .ifCond .ne 17, 3, []), (26, .aload_n 0, 1, []), (27, .bipush 40, 2, []), (29, .invokevirtual 168, 3, []), (32, .ifCond .ne 8, 3, []), (35, .aload_n 0, 1, []), (36, .invokevirtual 213, 3, []), (39, .ireturn, 1, [])] [(205, 0, jcX12_here), (203, 0, jcX12_has), (202, 0, jcX12_isSign), (220, 0, jcX12_plain)] [(40, juX12_atom_40 (jfX12_atom_40 rc))] 23 [] 0 [.ref 121, xe_no, xe_no, xe_no] [] M = jgX12_atom rc M := rfl
theorem jtX12_atom {rc : sy_M → sy_O} {d : Nat} (hd : 7 ≤ d) (hrc : sy_snd d 221 (chd_A rc)) : ∀ (M : sy_M) (r : xe_R × sy_M), jgX12_atom rc M = some r → sy_E (d + 3) qX12_atom 0 [.ref 121, xe_no, xe_no, xe_no] [] M r := by
  intro  M r h
  exact sy_run_by (d := d + 2) ((jrX12_atom _ M).trans h) hkX12 (by decide +kernel) (sy_cs_cons (jeX12_here.deep (by omega)) (sy_cs_cons (jeX12_has.deep (by omega)) (sy_cs_cons (jeX12_isSign.deep (by omega)) (sy_cs_cons (jeX12_plain.deep (by omega)) sy_cs_nil)))) (sy_us_cons (jwX12_atom_40 (jtX12_atom_40 hd hrc)) sy_us_nil)
def jfX12_atom : Nat → sy_M → sy_O
  | 0, _ => none
  | n + 1, M => jgX12_atom (jfX12_atom n) M
def jcX12_atom (rc : sy_M → sy_O) (as : List Value) (M : sy_M) (K : sy_O → sy_O) : sy_O := sy_xc 121 as fun l => sy_xn l (K (jgX12_atom rc M))
theorem jeX12_atom {rc : sy_M → sy_O} {d : Nat} (hd : 7 ≤ d) (hrc : sy_snd d 221 (chd_A rc)) : sy_snd (d + 3) 221 (jcX12_atom rc) := by
  intro as M K r h
  obtain ⟨l, e, h1⟩ := sy_xc_ok h; subst e
  obtain ⟨e, h2⟩ := sy_xn_ok h1; subst e
  exact ⟨_, h2, fun r1 h0 => ⟨qX12_atom, rfl, rfl, jtX12_atom hd hrc  M r1 h0⟩⟩
theorem eall_A : ∀ n, sy_snd (7 + 3 * n) 221 (chd_A (jfX12_atom n)) := by
  intro n
  induction n with
  | zero =>
    intro as M K r h
    obtain ⟨l, e, h1⟩ := sy_xc_ok h; subst e
    obtain ⟨e, h2⟩ := sy_xn_ok h1; subst e
    exact ⟨_, h2, fun r1 h0 => absurd (show (none : sy_O) = some r1 from h0) (by simp)⟩
  | succ n ih =>
    intro as M K r h
    exact ((jeX12_atom (by omega) ih).deep (by omega)) as M K r h
/-! X12_lawLine StairMeterModel lawLine ()V [('R', 121)] -/
def juX12_lawLine_134 (k : Int32 → Int32 → Int32 → sy_M → sy_O) (ls st : List Value) (M : sy_M) : sy_O := sy_xc 121 ls fun l => sy_xi l fun a1 l => sy_xi l fun a2 l => sy_xv l fun _ l => sy_xn l (sy_xi st fun s0 l => sy_xc 121 l fun l => sy_xn l (k a1 a2 s0 M))
theorem jwX12_lawLine_134 {d : Nat} {k : Int32 → Int32 → Int32 → sy_M → sy_O} (hk : ∀ (w3 : Value) (a1 : Int32) (a2 : Int32) (s0 : Int32) (M : sy_M) (r : xe_R × sy_M), k a1 a2 s0 M = some r → sy_E (d) qX12_lawLine 134 [.ref 121, .int a1, .int a2, w3] [.int s0, .ref 121] M r) : ∀ ls st M r, juX12_lawLine_134 k ls st M = some r → sy_E d qX12_lawLine 134 ls st M r := by
  intro ls st M r h
  obtain ⟨l, e, h1⟩ := sy_xc_ok h; subst e
  obtain ⟨a1, l, e, h2⟩ := sy_xi_ok h1; subst e
  obtain ⟨a2, l, e, h3⟩ := sy_xi_ok h2; subst e
  obtain ⟨w3, l, e, h4⟩ := sy_xv_ok h3; subst e
  obtain ⟨e, h5⟩ := sy_xn_ok h4; subst e
  obtain ⟨s0, l, e, h6⟩ := sy_xi_ok h5; subst e
  obtain ⟨l, e, h7⟩ := sy_xc_ok h6; subst e
  obtain ⟨e, h8⟩ := sy_xn_ok h7; subst e
  exact hk _ a1 a2 s0 M r h8
def juX12_lawLine_129 (k : Int32 → Int32 → sy_M → sy_O) (ls st : List Value) (M : sy_M) : sy_O := sy_xc 121 ls fun l => sy_xi l fun a1 l => sy_xi l fun a2 l => sy_xv l fun _ l => sy_xn l (sy_xc 121 st fun l => sy_xn l (k a1 a2 M))
theorem jwX12_lawLine_129 {d : Nat} {k : Int32 → Int32 → sy_M → sy_O} (hk : ∀ (w3 : Value) (a1 : Int32) (a2 : Int32) (M : sy_M) (r : xe_R × sy_M), k a1 a2 M = some r → sy_E (d) qX12_lawLine 129 [.ref 121, .int a1, .int a2, w3] [.ref 121] M r) : ∀ ls st M r, juX12_lawLine_129 k ls st M = some r → sy_E d qX12_lawLine 129 ls st M r := by
  intro ls st M r h
  obtain ⟨l, e, h1⟩ := sy_xc_ok h; subst e
  obtain ⟨a1, l, e, h2⟩ := sy_xi_ok h1; subst e
  obtain ⟨a2, l, e, h3⟩ := sy_xi_ok h2; subst e
  obtain ⟨w3, l, e, h4⟩ := sy_xv_ok h3; subst e
  obtain ⟨e, h5⟩ := sy_xn_ok h4; subst e
  obtain ⟨l, e, h6⟩ := sy_xc_ok h5; subst e
  obtain ⟨e, h7⟩ := sy_xn_ok h6; subst e
  exact hk _ a1 a2 M r h7
def juX12_lawLine_102 (k : Int32 → Int32 → Int32 → sy_M → sy_O) (ls st : List Value) (M : sy_M) : sy_O := sy_xc 121 ls fun l => sy_xi l fun a1 l => sy_xi l fun a2 l => sy_xv l fun _ l => sy_xn l (sy_xi st fun s0 l => sy_xn l (k a1 a2 s0 M))
theorem jwX12_lawLine_102 {d : Nat} {k : Int32 → Int32 → Int32 → sy_M → sy_O} (hk : ∀ (w3 : Value) (a1 : Int32) (a2 : Int32) (s0 : Int32) (M : sy_M) (r : xe_R × sy_M), k a1 a2 s0 M = some r → sy_E (d) qX12_lawLine 102 [.ref 121, .int a1, .int a2, w3] [.int s0] M r) : ∀ ls st M r, juX12_lawLine_102 k ls st M = some r → sy_E d qX12_lawLine 102 ls st M r := by
  intro ls st M r h
  obtain ⟨l, e, h1⟩ := sy_xc_ok h; subst e
  obtain ⟨a1, l, e, h2⟩ := sy_xi_ok h1; subst e
  obtain ⟨a2, l, e, h3⟩ := sy_xi_ok h2; subst e
  obtain ⟨w3, l, e, h4⟩ := sy_xv_ok h3; subst e
  obtain ⟨e, h5⟩ := sy_xn_ok h4; subst e
  obtain ⟨s0, l, e, h6⟩ := sy_xi_ok h5; subst e
  obtain ⟨e, h7⟩ := sy_xn_ok h6; subst e
  exact hk _ a1 a2 s0 M r h7
def juX12_lawLine_97 (k : Int32 → Int32 → sy_M → sy_O) (ls st : List Value) (M : sy_M) : sy_O := sy_xc 121 ls fun l => sy_xi l fun a1 l => sy_xi l fun a2 l => sy_xv l fun _ l => sy_xn l (sy_xn st (k a1 a2 M))
theorem jwX12_lawLine_97 {d : Nat} {k : Int32 → Int32 → sy_M → sy_O} (hk : ∀ (w3 : Value) (a1 : Int32) (a2 : Int32) (M : sy_M) (r : xe_R × sy_M), k a1 a2 M = some r → sy_E (d) qX12_lawLine 97 [.ref 121, .int a1, .int a2, w3] [] M r) : ∀ ls st M r, juX12_lawLine_97 k ls st M = some r → sy_E d qX12_lawLine 97 ls st M r := by
  intro ls st M r h
  obtain ⟨l, e, h1⟩ := sy_xc_ok h; subst e
  obtain ⟨a1, l, e, h2⟩ := sy_xi_ok h1; subst e
  obtain ⟨a2, l, e, h3⟩ := sy_xi_ok h2; subst e
  obtain ⟨w3, l, e, h4⟩ := sy_xv_ok h3; subst e
  obtain ⟨e, h5⟩ := sy_xn_ok h4; subst e
  obtain ⟨e, h6⟩ := sy_xn_ok h5; subst e
  exact hk _ a1 a2 M r h6
def juX12_lawLine_71 (k : Int32 → Int32 → sy_M → sy_O) (ls st : List Value) (M : sy_M) : sy_O := sy_xc 121 ls fun l => sy_xi l fun a1 l => sy_xv l fun _ l => sy_xv l fun _ l => sy_xn l (sy_xi st fun s0 l => sy_xn l (k a1 s0 M))
theorem jwX12_lawLine_71 {d : Nat} {k : Int32 → Int32 → sy_M → sy_O} (hk : ∀ (w2 : Value) (w3 : Value) (a1 : Int32) (s0 : Int32) (M : sy_M) (r : xe_R × sy_M), k a1 s0 M = some r → sy_E (d) qX12_lawLine 71 [.ref 121, .int a1, w2, w3] [.int s0] M r) : ∀ ls st M r, juX12_lawLine_71 k ls st M = some r → sy_E d qX12_lawLine 71 ls st M r := by
  intro ls st M r h
  obtain ⟨l, e, h1⟩ := sy_xc_ok h; subst e
  obtain ⟨a1, l, e, h2⟩ := sy_xi_ok h1; subst e
  obtain ⟨w2, l, e, h3⟩ := sy_xv_ok h2; subst e
  obtain ⟨w3, l, e, h4⟩ := sy_xv_ok h3; subst e
  obtain ⟨e, h5⟩ := sy_xn_ok h4; subst e
  obtain ⟨s0, l, e, h6⟩ := sy_xi_ok h5; subst e
  obtain ⟨e, h7⟩ := sy_xn_ok h6; subst e
  exact hk _ _ a1 s0 M r h7
def juX12_lawLine_40 (k : Int32 → sy_M → sy_O) (ls st : List Value) (M : sy_M) : sy_O := sy_xc 121 ls fun l => sy_xv l fun _ l => sy_xv l fun _ l => sy_xv l fun _ l => sy_xn l (sy_xi st fun s0 l => sy_xn l (k s0 M))
theorem jwX12_lawLine_40 {d : Nat} {k : Int32 → sy_M → sy_O} (hk : ∀ (w1 : Value) (w2 : Value) (w3 : Value) (s0 : Int32) (M : sy_M) (r : xe_R × sy_M), k s0 M = some r → sy_E (d) qX12_lawLine 40 [.ref 121, w1, w2, w3] [.int s0] M r) : ∀ ls st M r, juX12_lawLine_40 k ls st M = some r → sy_E d qX12_lawLine 40 ls st M r := by
  intro ls st M r h
  obtain ⟨l, e, h1⟩ := sy_xc_ok h; subst e
  obtain ⟨w1, l, e, h2⟩ := sy_xv_ok h1; subst e
  obtain ⟨w2, l, e, h3⟩ := sy_xv_ok h2; subst e
  obtain ⟨w3, l, e, h4⟩ := sy_xv_ok h3; subst e
  obtain ⟨e, h5⟩ := sy_xn_ok h4; subst e
  obtain ⟨s0, l, e, h6⟩ := sy_xi_ok h5; subst e
  obtain ⟨e, h7⟩ := sy_xn_ok h6; subst e
  exact hk _ _ _ s0 M r h7
def jfX12_lawLine_134 (a1 : Int32) (a2 : Int32) (s0 : Int32) (M : sy_M) : sy_O :=
  sy_bb (sy_bo s0) <|
  let M1 := sy_upd M 121 18 s0
  if a1 = 0 then
    let M4 := sy_upd M1 121 17 ((M1 121 17) + a2)
    sy_rv M4
  else
    if a1 = 1 then
      let M3 := sy_upd M1 121 17 ((M1 121 17) + (-a2))
      sy_rv M3
    else
      let M2 := sy_upd M1 121 17 ((M1 121 17) + 0)
      sy_rv M2
set_option maxRecDepth 100000 in
theorem jrX12_lawLine_134 (w3 : Value) (a1 : Int32) (a2 : Int32) (s0 : Int32) (M : sy_M) : sy_run skX12 qX12_lawLine [(134, .putfield 238, 3, [true, true, true, false]), (137, .aload_n 0, 1, []), (138, .dup, 1, []), (139, .getfield 241, 3, []), (142, .iload_n 1, 1, []), (143, .ifCond .ne 7, 3, []), (146, .iload_n 2, 1, []), (147, .goto 14, 3, []), (150, .iload_n 1, 1, [false, true, true, false]), (151, .iconst 1, 1, []), (152, .if_icmp .ne 8, 3, []), (155, .iload_n 2, 1, []), (156, .ineg, 1, []), (157, .goto 4, 3, []), (160, .iconst 0, 1, [false, false, false, false]), (161, .iadd, 1, [false, false, false, false]), (162, .putfield 241, 3, []), (165, .return_, 1, [])] [] [] 19 [] 134 [.ref 121, .int a1, .int a2, w3] [.int s0, .ref 121] M = jfX12_lawLine_134 a1 a2 s0 M := rfl
theorem jtX12_lawLine_134 : ∀ (w3 : Value) (a1 : Int32) (a2 : Int32) (s0 : Int32) (M : sy_M) (r : xe_R × sy_M), jfX12_lawLine_134 a1 a2 s0 M = some r → sy_E (46) qX12_lawLine 134 [.ref 121, .int a1, .int a2, w3] [.int s0, .ref 121] M r := by
  intro w3 a1 a2 s0 M r h
  exact sy_run_by (d := 45) ((jrX12_lawLine_134 _ _ _ _ M).trans h) hkX12 (by decide +kernel) sy_cs_nil sy_us_nil
def jfX12_lawLine_129 (a1 : Int32) (a2 : Int32) (M : sy_M) : sy_O :=
  jfX12_lawLine_134 a1 a2 1 M
set_option maxRecDepth 100000 in
theorem jrX12_lawLine_129 (w3 : Value) (a1 : Int32) (a2 : Int32) (M : sy_M) : sy_run skX12 qX12_lawLine [(129, .iconst 1, 1, [true, true, true, false]), (130, .goto 4, 3, [])] [] [(134, juX12_lawLine_134 (jfX12_lawLine_134))] 3 [] 129 [.ref 121, .int a1, .int a2, w3] [.ref 121] M = jfX12_lawLine_129 a1 a2 M := rfl
theorem jtX12_lawLine_129 : ∀ (w3 : Value) (a1 : Int32) (a2 : Int32) (M : sy_M) (r : xe_R × sy_M), jfX12_lawLine_129 a1 a2 M = some r → sy_E (46) qX12_lawLine 129 [.ref 121, .int a1, .int a2, w3] [.ref 121] M r := by
  intro w3 a1 a2 M r h
  exact sy_run_by (d := 45) ((jrX12_lawLine_129 _ _ _ M).trans h) hkX12 (by decide +kernel) sy_cs_nil (sy_us_cons (jwX12_lawLine_134 (jtX12_lawLine_134)) sy_us_nil)
def jfX12_lawLine_102 (a1 : Int32) (a2 : Int32) (s0 : Int32) (M : sy_M) : sy_O :=
  if (M 121 12) = (-1) then
    if s0 = 0 then
      sy_rv M
    else
      if (M 121 18) = 0 then
        if a1 = 2 then
          jfX12_lawLine_129 a1 a2 M
        else
          jfX12_lawLine_134 a1 a2 0 M
      else
        jfX12_lawLine_129 a1 a2 M
  else
    sy_rv M
set_option maxRecDepth 100000 in
theorem jrX12_lawLine_102 (w3 : Value) (a1 : Int32) (a2 : Int32) (s0 : Int32) (M : sy_M) : sy_run skX12 qX12_lawLine [(102, .istore_n 3, 1, [true, true, true, false]), (103, .aload_n 0, 1, []), (104, .getfield 25, 3, []), (107, .iconst (-1), 1, []), (108, .if_icmp .ne 7, 3, []), (111, .iload_n 3, 1, []), (112, .ifCond .ne 4, 3, []), (115, .return_, 1, [false, false, false, false]), (116, .aload_n 0, 1, [true, true, true, false]), (117, .aload_n 0, 1, []), (118, .getfield 238, 3, []), (121, .ifCond .ne 8, 3, []), (124, .iload_n 1, 1, []), (125, .iconst 2, 1, []), (126, .if_icmp .ne 7, 3, []), (133, .iconst 0, 1, [true, true, true, false])] [] [(129, juX12_lawLine_129 (jfX12_lawLine_129)), (134, juX12_lawLine_134 (jfX12_lawLine_134))] 17 [] 102 [.ref 121, .int a1, .int a2, w3] [.int s0] M = jfX12_lawLine_102 a1 a2 s0 M := rfl
theorem jtX12_lawLine_102 : ∀ (w3 : Value) (a1 : Int32) (a2 : Int32) (s0 : Int32) (M : sy_M) (r : xe_R × sy_M), jfX12_lawLine_102 a1 a2 s0 M = some r → sy_E (46) qX12_lawLine 102 [.ref 121, .int a1, .int a2, w3] [.int s0] M r := by
  intro w3 a1 a2 s0 M r h
  exact sy_run_by (d := 45) ((jrX12_lawLine_102 _ _ _ _ M).trans h) hkX12 (by decide +kernel) sy_cs_nil (sy_us_cons (jwX12_lawLine_129 (jtX12_lawLine_129)) (sy_us_cons (jwX12_lawLine_134 (jtX12_lawLine_134)) sy_us_nil))
def jfX12_lawLine_97 (a1 : Int32) (a2 : Int32) (M : sy_M) : sy_O :=
  jfX12_lawLine_102 a1 a2 1 M
set_option maxRecDepth 100000 in
theorem jrX12_lawLine_97 (w3 : Value) (a1 : Int32) (a2 : Int32) (M : sy_M) : sy_run skX12 qX12_lawLine [(97, .iconst 1, 1, [true, true, true, false]), (98, .goto 4, 3, [])] [] [(102, juX12_lawLine_102 (jfX12_lawLine_102))] 3 [] 97 [.ref 121, .int a1, .int a2, w3] [] M = jfX12_lawLine_97 a1 a2 M := rfl
theorem jtX12_lawLine_97 : ∀ (w3 : Value) (a1 : Int32) (a2 : Int32) (M : sy_M) (r : xe_R × sy_M), jfX12_lawLine_97 a1 a2 M = some r → sy_E (46) qX12_lawLine 97 [.ref 121, .int a1, .int a2, w3] [] M r := by
  intro w3 a1 a2 M r h
  exact sy_run_by (d := 45) ((jrX12_lawLine_97 _ _ _ M).trans h) hkX12 (by decide +kernel) sy_cs_nil (sy_us_cons (jwX12_lawLine_102 (jtX12_lawLine_102)) sy_us_nil)
def jfX12_lawLine_71 (a1 : Int32) (s0 : Int32) (M : sy_M) : sy_O :=
  if (M 121 12) = (-1) then
    sy_bi (jfX12_has 1500004 M) fun v2 M1 =>
    if v2 = 0 then
      jfX12_lawLine_97 a1 s0 M1
    else
      sy_bi (jfX12_some (jfX12_atom sy_D) M1) fun v4 M3 =>
      if v4 = 0 then
        jfX12_lawLine_102 a1 s0 0 M3
      else
        jfX12_lawLine_97 a1 s0 M3
  else
    sy_rv M
set_option maxRecDepth 100000 in
theorem jrX12_lawLine_71 (w2 : Value) (w3 : Value) (a1 : Int32) (s0 : Int32) (M : sy_M) : sy_run skX12 qX12_lawLine [(71, .istore_n 2, 1, [true, true, false, false]), (72, .aload_n 0, 1, []), (73, .getfield 25, 3, []), (76, .iconst (-1), 1, []), (77, .if_icmp .eq 4, 3, []), (80, .return_, 1, []), (81, .aload_n 0, 1, [true, true, true, false]), (82, .ldc 236, 2, []), (84, .invokevirtual 105, 3, []), (87, .ifCond .eq 10, 3, []), (90, .aload_n 0, 1, []), (91, .invokevirtual 220, 3, []), (94, .ifCond .eq 7, 3, []), (101, .iconst 0, 1, [true, true, true, false])] [(203, 0, jcX12_has), (223, 0, jcX12_some (jfX12_atom sy_D))] [(97, juX12_lawLine_97 (jfX12_lawLine_97)), (102, juX12_lawLine_102 (jfX12_lawLine_102))] 15 [] 71 [.ref 121, .int a1, w2, w3] [.int s0] M = jfX12_lawLine_71 a1 s0 M := rfl
theorem jtX12_lawLine_71 : ∀ (w2 : Value) (w3 : Value) (a1 : Int32) (s0 : Int32) (M : sy_M) (r : xe_R × sy_M), jfX12_lawLine_71 a1 s0 M = some r → sy_E (46) qX12_lawLine 71 [.ref 121, .int a1, w2, w3] [.int s0] M r := by
  intro w2 w3 a1 s0 M r h
  exact sy_run_by (d := 45) ((jrX12_lawLine_71 _ _ _ _ M).trans h) hkX12 (by decide +kernel) (sy_cs_cons (jeX12_has.deep (by decide)) (sy_cs_cons ((jeX12_some (by omega) (eall_A sy_D)).deep (by rw [sy_D_eq]; decide)) sy_cs_nil)) (sy_us_cons (jwX12_lawLine_97 (jtX12_lawLine_97)) (sy_us_cons (jwX12_lawLine_102 (jtX12_lawLine_102)) sy_us_nil))
def jfX12_lawLine_40 (s0 : Int32) (M : sy_M) : sy_O :=
  if s0 = (-1) then
    sy_bv (jfX12_wrong (M 121 11) M) fun M3 =>
    sy_rv M3
  else
    if s0 = 2 then
      jfX12_lawLine_71 s0 0 M
    else
      sy_bi (jfX12_figures 0 60 M) fun v2 M1 =>
      jfX12_lawLine_71 s0 v2 M1
set_option maxRecDepth 100000 in
theorem jrX12_lawLine_40 (w1 : Value) (w2 : Value) (w3 : Value) (s0 : Int32) (M : sy_M) : sy_run skX12 qX12_lawLine [(40, .istore_n 1, 1, [true, false, false, false]), (41, .iload_n 1, 1, []), (42, .iconst (-1), 1, []), (43, .if_icmp .ne 12, 3, []), (46, .aload_n 0, 1, []), (47, .aload_n 0, 1, []), (48, .getfield 76, 3, []), (51, .invokevirtual 101, 3, []), (54, .return_, 1, []), (55, .iload_n 1, 1, [true, true, false, false]), (56, .iconst 2, 1, []), (57, .if_icmp .ne 7, 3, []), (60, .iconst 0, 1, []), (61, .goto 10, 3, []), (64, .aload_n 0, 1, [true, true, false, false]), (65, .iconst 0, 1, []), (66, .bipush 60, 2, []), (68, .invokevirtual 109, 3, [])] [(206, 0, jcX12_figures), (204, 1, jcX12_wrong)] [(71, juX12_lawLine_71 (jfX12_lawLine_71))] 19 [] 40 [.ref 121, w1, w2, w3] [.int s0] M = jfX12_lawLine_40 s0 M := rfl
theorem jtX12_lawLine_40 : ∀ (w1 : Value) (w2 : Value) (w3 : Value) (s0 : Int32) (M : sy_M) (r : xe_R × sy_M), jfX12_lawLine_40 s0 M = some r → sy_E (46) qX12_lawLine 40 [.ref 121, w1, w2, w3] [.int s0] M r := by
  intro w1 w2 w3 s0 M r h
  exact sy_run_by (d := 45) ((jrX12_lawLine_40 _ _ _ _ M).trans h) hkX12 (by decide +kernel) (sy_cs_cons (jeX12_figures.deep (by decide)) (sy_cs_cons (jeX12_wrong.deep (by decide)) sy_cs_nil)) (sy_us_cons (jwX12_lawLine_71 (jtX12_lawLine_71)) sy_us_nil)
def jfX12_lawLine (M : sy_M) : sy_O :=
  sy_bi (jfX12_has 1500001 M) fun v2 M1 =>
  if v2 = 0 then
    sy_bi (jfX12_has 1500002 M1) fun v4 M3 =>
    if v4 = 0 then
      sy_bi (jfX12_has 1500003 M3) fun v6 M5 =>
      if v6 = 0 then
        jfX12_lawLine_40 (-1) M5
      else
        jfX12_lawLine_40 2 M5
    else
      jfX12_lawLine_40 1 M3
  else
    jfX12_lawLine_40 0 M1
set_option maxRecDepth 100000 in
theorem jrX12_lawLine (M : sy_M) : sy_run skX12 qX12_lawLine [(0, .aload_n 0, 1, []), (1, .ldc 230, 2, []), (3, .invokevirtual 105, 3, []), (6, .ifCond .eq 7, 3, []), (9, .iconst 0, 1, []), (10, .goto 30, 3, []), (13, .aload_n 0, 1, [true, false, false, false]), (14, .ldc 232, 2, []), (16, .invokevirtual 105, 3, []), (19, .ifCond .eq 7, 3, []), (22, .iconst 1, 1, []), (23, .goto 17, 3, []), (26, .aload_n 0, 1, [true, false, false, false]), (27, .ldc 234, 2, []), (29, .invokevirtual 105, 3, []), (32, .ifCond .eq 7, 3, []), (35, .iconst 2, 1, []), (36, .goto 4, 3, []), (39, .iconst (-1), 1, [true, false, false, false])] [(203, 0, jcX12_has)] [(40, juX12_lawLine_40 (jfX12_lawLine_40))] 20 [] 0 [.ref 121, xe_no, xe_no, xe_no] [] M = jfX12_lawLine M := rfl
theorem jtX12_lawLine : ∀ (M : sy_M) (r : xe_R × sy_M), jfX12_lawLine M = some r → sy_E (46) qX12_lawLine 0 [.ref 121, xe_no, xe_no, xe_no] [] M r := by
  intro  M r h
  exact sy_run_by (d := 45) ((jrX12_lawLine M).trans h) hkX12 (by decide +kernel) (sy_cs_cons (jeX12_has.deep (by decide)) sy_cs_nil) (sy_us_cons (jwX12_lawLine_40 (jtX12_lawLine_40)) sy_us_nil)
def jcX12_lawLine (as : List Value) (M : sy_M) (K : sy_O → sy_O) : sy_O := sy_xc 121 as fun l => sy_xn l (K (jfX12_lawLine M))
theorem jeX12_lawLine : sy_snd (46) 224 (jcX12_lawLine) := by
  intro as M K r h
  obtain ⟨l, e, h1⟩ := sy_xc_ok h; subst e
  obtain ⟨e, h2⟩ := sy_xn_ok h1; subst e
  exact ⟨_, h2, fun r1 h0 => ⟨qX12_lawLine, rfl, rfl, jtX12_lawLine  M r1 h0⟩⟩
/-! X12_read StairMeterModel read (Z)I [('R', 121), 'I'] -/
def juX12_read_106 (k : Int32 → Int32 → sy_M → sy_O) (ls st : List Value) (M : sy_M) : sy_O := sy_xc 121 ls fun l => sy_xi l fun a1 l => sy_xv l fun _ l => sy_xi l fun a3 l => sy_xn l (sy_xn st (k a1 a3 M))
theorem jwX12_read_106 {d : Nat} {k : Int32 → Int32 → sy_M → sy_O} (hk : ∀ (w2 : Value) (a1 : Int32) (a3 : Int32) (M : sy_M) (r : xe_R × sy_M), k a1 a3 M = some r → sy_E (d) qX12_read 106 [.ref 121, .int a1, w2, .int a3] [] M r) : ∀ ls st M r, juX12_read_106 k ls st M = some r → sy_E d qX12_read 106 ls st M r := by
  intro ls st M r h
  obtain ⟨l, e, h1⟩ := sy_xc_ok h; subst e
  obtain ⟨a1, l, e, h2⟩ := sy_xi_ok h1; subst e
  obtain ⟨w2, l, e, h3⟩ := sy_xv_ok h2; subst e
  obtain ⟨a3, l, e, h4⟩ := sy_xi_ok h3; subst e
  obtain ⟨e, h5⟩ := sy_xn_ok h4; subst e
  obtain ⟨e, h6⟩ := sy_xn_ok h5; subst e
  exact hk _ a1 a3 M r h6
def juX12_read_80 (k : Int32 → Int32 → Int32 → sy_M → sy_O) (ls st : List Value) (M : sy_M) : sy_O := sy_xc 121 ls fun l => sy_xi l fun a1 l => sy_xi l fun a2 l => sy_xi l fun a3 l => sy_xn l (sy_xn st (k a1 a2 a3 M))
theorem jwX12_read_80 {d : Nat} {k : Int32 → Int32 → Int32 → sy_M → sy_O} (hk : ∀ (a1 : Int32) (a2 : Int32) (a3 : Int32) (M : sy_M) (r : xe_R × sy_M), k a1 a2 a3 M = some r → sy_E (d) qX12_read 80 [.ref 121, .int a1, .int a2, .int a3] [] M r) : ∀ ls st M r, juX12_read_80 k ls st M = some r → sy_E d qX12_read 80 ls st M r := by
  intro ls st M r h
  obtain ⟨l, e, h1⟩ := sy_xc_ok h; subst e
  obtain ⟨a1, l, e, h2⟩ := sy_xi_ok h1; subst e
  obtain ⟨a2, l, e, h3⟩ := sy_xi_ok h2; subst e
  obtain ⟨a3, l, e, h4⟩ := sy_xi_ok h3; subst e
  obtain ⟨e, h5⟩ := sy_xn_ok h4; subst e
  obtain ⟨e, h6⟩ := sy_xn_ok h5; subst e
  exact hk a1 a2 a3 M r h6
def juX12_read_51 (k : Int32 → Int32 → Int32 → Int32 → Int32 → sy_M → sy_O) (ls st : List Value) (M : sy_M) : sy_O := sy_xc 121 ls fun l => sy_xi l fun a1 l => sy_xi l fun a2 l => sy_xi l fun a3 l => sy_xn l (sy_xi st fun s0 l => sy_xi l fun s1 l => sy_xn l (k a1 a2 a3 s0 s1 M))
theorem jwX12_read_51 {d : Nat} {k : Int32 → Int32 → Int32 → Int32 → Int32 → sy_M → sy_O} (hk : ∀ (a1 : Int32) (a2 : Int32) (a3 : Int32) (s0 : Int32) (s1 : Int32) (M : sy_M) (r : xe_R × sy_M), k a1 a2 a3 s0 s1 M = some r → sy_E (d) qX12_read 51 [.ref 121, .int a1, .int a2, .int a3] [.int s0, .int s1] M r) : ∀ ls st M r, juX12_read_51 k ls st M = some r → sy_E d qX12_read 51 ls st M r := by
  intro ls st M r h
  obtain ⟨l, e, h1⟩ := sy_xc_ok h; subst e
  obtain ⟨a1, l, e, h2⟩ := sy_xi_ok h1; subst e
  obtain ⟨a2, l, e, h3⟩ := sy_xi_ok h2; subst e
  obtain ⟨a3, l, e, h4⟩ := sy_xi_ok h3; subst e
  obtain ⟨e, h5⟩ := sy_xn_ok h4; subst e
  obtain ⟨s0, l, e, h6⟩ := sy_xi_ok h5; subst e
  obtain ⟨s1, l, e, h7⟩ := sy_xi_ok h6; subst e
  obtain ⟨e, h8⟩ := sy_xn_ok h7; subst e
  exact hk a1 a2 a3 s0 s1 M r h8
def juX12_read_23 (k : Int32 → Int32 → Int32 → sy_M → sy_O) (ls st : List Value) (M : sy_M) : sy_O := sy_xc 121 ls fun l => sy_xi l fun a1 l => sy_xi l fun a2 l => sy_xi l fun a3 l => sy_xn l (sy_xn st (k a1 a2 a3 M))
theorem jwX12_read_23 {d : Nat} {k : Int32 → Int32 → Int32 → sy_M → sy_O} (hk : ∀ (a1 : Int32) (a2 : Int32) (a3 : Int32) (M : sy_M) (r : xe_R × sy_M), k a1 a2 a3 M = some r → sy_E (d) qX12_read 23 [.ref 121, .int a1, .int a2, .int a3] [] M r) : ∀ ls st M r, juX12_read_23 k ls st M = some r → sy_E d qX12_read 23 ls st M r := by
  intro ls st M r h
  obtain ⟨l, e, h1⟩ := sy_xc_ok h; subst e
  obtain ⟨a1, l, e, h2⟩ := sy_xi_ok h1; subst e
  obtain ⟨a2, l, e, h3⟩ := sy_xi_ok h2; subst e
  obtain ⟨a3, l, e, h4⟩ := sy_xi_ok h3; subst e
  obtain ⟨e, h5⟩ := sy_xn_ok h4; subst e
  obtain ⟨e, h6⟩ := sy_xn_ok h5; subst e
  exact hk a1 a2 a3 M r h6
def juX12_read_20 (k : Int32 → Int32 → sy_M → sy_O) (ls st : List Value) (M : sy_M) : sy_O := sy_xc 121 ls fun l => sy_xi l fun a1 l => sy_xv l fun _ l => sy_xv l fun _ l => sy_xn l (sy_xi st fun s0 l => sy_xn l (k a1 s0 M))
theorem jwX12_read_20 {d : Nat} {k : Int32 → Int32 → sy_M → sy_O} (hk : ∀ (w2 : Value) (w3 : Value) (a1 : Int32) (s0 : Int32) (M : sy_M) (r : xe_R × sy_M), k a1 s0 M = some r → sy_E (d) qX12_read 20 [.ref 121, .int a1, w2, w3] [.int s0] M r) : ∀ ls st M r, juX12_read_20 k ls st M = some r → sy_E d qX12_read 20 ls st M r := by
  intro ls st M r h
  obtain ⟨l, e, h1⟩ := sy_xc_ok h; subst e
  obtain ⟨a1, l, e, h2⟩ := sy_xi_ok h1; subst e
  obtain ⟨w2, l, e, h3⟩ := sy_xv_ok h2; subst e
  obtain ⟨w3, l, e, h4⟩ := sy_xv_ok h3; subst e
  obtain ⟨e, h5⟩ := sy_xn_ok h4; subst e
  obtain ⟨s0, l, e, h6⟩ := sy_xi_ok h5; subst e
  obtain ⟨e, h7⟩ := sy_xn_ok h6; subst e
  exact hk _ _ a1 s0 M r h7
def jfX12_read_106 (k23 : Int32 → Int32 → Int32 → sy_M → sy_O) (a1 : Int32) (a3 : Int32) (M : sy_M) : sy_O :=
  k23 a1 0 a3 M
set_option maxRecDepth 100000 in
theorem jrX12_read_106 (k23 : Int32 → Int32 → Int32 → sy_M → sy_O) (w2 : Value) (a1 : Int32) (a3 : Int32) (M : sy_M) : sy_run skX12 qX12_read [(106, .iconst 0, 1, [true, true, false, true]), (107, .istore_n 2, 1, []), (108, .goto (-85), 3, [])] [] [(23, juX12_read_23 k23)] 4 [] 106 [.ref 121, .int a1, w2, .int a3] [] M = jfX12_read_106 k23 a1 a3 M := rfl
theorem jtX12_read_106 {k23 : Int32 → Int32 → Int32 → sy_M → sy_O} (hk23 : ∀ (a1 : Int32) (a2 : Int32) (a3 : Int32) (M : sy_M) (r : xe_R × sy_M), k23 a1 a2 a3 M = some r → sy_E (47) qX12_read 23 [.ref 121, .int a1, .int a2, .int a3] [] M r) : ∀ (w2 : Value) (a1 : Int32) (a3 : Int32) (M : sy_M) (r : xe_R × sy_M), jfX12_read_106 k23 a1 a3 M = some r → sy_E (47) qX12_read 106 [.ref 121, .int a1, w2, .int a3] [] M r := by
  intro w2 a1 a3 M r h
  exact sy_run_by (d := 46) ((jrX12_read_106 _ _ _ _ M).trans h) hkX12 (by decide +kernel) sy_cs_nil (sy_us_cons (jwX12_read_23 hk23) sy_us_nil)
def jfX12_read_80 (k23 : Int32 → Int32 → Int32 → sy_M → sy_O) (a1 : Int32) (a2 : Int32) (a3 : Int32) (M : sy_M) : sy_O :=
  let v1 := a3 + 1
  sy_bv (jfX12_skip M) fun M2 =>
  if (M2 121 12) = (-1) then
    if (M2 121 11) = (M2 121 10) then
      jfX12_read_106 k23 a1 v1 M2
    else
      sy_bi (jfX12_isSign 59 M2) fun v4 M3 =>
      if v4 = 0 then
        sy_bv (jfX12_wrong (M3 121 11) M3) fun M5 =>
        k23 a1 a2 v1 M5
      else
        let M6 := sy_upd M3 121 11 ((M3 121 11) + 1)
        k23 a1 a2 v1 M6
  else
    jfX12_read_106 k23 a1 v1 M2
set_option maxRecDepth 100000 in
theorem jrX12_read_80 (k23 : Int32 → Int32 → Int32 → sy_M → sy_O) (a1 : Int32) (a2 : Int32) (a3 : Int32) (M : sy_M) : sy_run skX12 qX12_read [(80, .iinc 3 1, 3, []), (83, .aload_n 0, 1, []), (84, .invokevirtual 85, 3, []), (87, .aload_n 0, 1, []), (88, .getfield 25, 3, []), (91, .iconst (-1), 1, []), (92, .if_icmp .ne 14, 3, []), (95, .aload_n 0, 1, []), (96, .getfield 76, 3, []), (99, .aload_n 0, 1, []), (100, .getfield 79, 3, []), (103, .if_icmp .ne 8, 3, []), (111, .aload_n 0, 1, []), (112, .bipush 59, 2, []), (114, .invokevirtual 168, 3, []), (117, .ifCond .eq 16, 3, []), (120, .aload_n 0, 1, []), (121, .dup, 1, []), (122, .getfield 76, 3, []), (125, .iconst 1, 1, []), (126, .iadd, 1, []), (127, .putfield 76, 3, []), (130, .goto (-107), 3, []), (133, .aload_n 0, 1, []), (134, .aload_n 0, 1, []), (135, .getfield 76, 3, []), (138, .invokevirtual 101, 3, []), (141, .goto (-118), 3, [])] [(201, 1, jcX12_skip), (202, 0, jcX12_isSign), (204, 1, jcX12_wrong)] [(106, juX12_read_106 (jfX12_read_106 k23)), (23, juX12_read_23 k23)] 29 [] 80 [.ref 121, .int a1, .int a2, .int a3] [] M = jfX12_read_80 k23 a1 a2 a3 M := rfl
theorem jtX12_read_80 {k23 : Int32 → Int32 → Int32 → sy_M → sy_O} (hk23 : ∀ (a1 : Int32) (a2 : Int32) (a3 : Int32) (M : sy_M) (r : xe_R × sy_M), k23 a1 a2 a3 M = some r → sy_E (47) qX12_read 23 [.ref 121, .int a1, .int a2, .int a3] [] M r) : ∀ (a1 : Int32) (a2 : Int32) (a3 : Int32) (M : sy_M) (r : xe_R × sy_M), jfX12_read_80 k23 a1 a2 a3 M = some r → sy_E (47) qX12_read 80 [.ref 121, .int a1, .int a2, .int a3] [] M r := by
  intro a1 a2 a3 M r h
  exact sy_run_by (d := 46) ((jrX12_read_80 _ _ _ _ M).trans h) hkX12 (by decide +kernel) (sy_cs_cons (jeX12_skip.deep (by decide)) (sy_cs_cons (jeX12_isSign.deep (by decide)) (sy_cs_cons (jeX12_wrong.deep (by decide)) sy_cs_nil))) (sy_us_cons (jwX12_read_106 (jtX12_read_106 hk23)) (sy_us_cons (jwX12_read_23 hk23) sy_us_nil))
def jfX12_read_51 (k23 : Int32 → Int32 → Int32 → sy_M → sy_O) (a1 : Int32) (a2 : Int32) (a3 : Int32) (s0 : Int32) (s1 : Int32) (M : sy_M) : sy_O :=
  if s1 = s0 then
    sy_bv (jfX12_wrong (M 121 11) M) fun M3 =>
    jfX12_read_80 k23 a1 a2 a3 M3
  else
    if a1 = 0 then
      sy_bv (jfX12_houseLine M) fun M1 =>
      jfX12_read_80 k23 a1 a2 a3 M1
    else
      sy_bv (jfX12_lawLine M) fun M2 =>
      jfX12_read_80 k23 a1 a2 a3 M2
set_option maxRecDepth 100000 in
theorem jrX12_read_51 (k23 : Int32 → Int32 → Int32 → sy_M → sy_O) (a1 : Int32) (a2 : Int32) (a3 : Int32) (s0 : Int32) (s1 : Int32) (M : sy_M) : sy_run skX12 qX12_read [(51, .if_icmp .ne 14, 3, []), (54, .aload_n 0, 1, []), (55, .aload_n 0, 1, []), (56, .getfield 76, 3, []), (59, .invokevirtual 101, 3, []), (62, .goto 18, 3, []), (65, .iload_n 1, 1, []), (66, .ifCond .eq 10, 3, []), (69, .aload_n 0, 1, []), (70, .invokevirtual 162, 3, []), (73, .goto 7, 3, []), (76, .aload_n 0, 1, []), (77, .invokevirtual 165, 3, [])] [(212, 1, jcX12_houseLine), (224, 1, jcX12_lawLine), (204, 1, jcX12_wrong)] [(80, juX12_read_80 (jfX12_read_80 k23))] 14 [] 51 [.ref 121, .int a1, .int a2, .int a3] [.int s0, .int s1] M = jfX12_read_51 k23 a1 a2 a3 s0 s1 M := rfl
theorem jtX12_read_51 {k23 : Int32 → Int32 → Int32 → sy_M → sy_O} (hk23 : ∀ (a1 : Int32) (a2 : Int32) (a3 : Int32) (M : sy_M) (r : xe_R × sy_M), k23 a1 a2 a3 M = some r → sy_E (47) qX12_read 23 [.ref 121, .int a1, .int a2, .int a3] [] M r) : ∀ (a1 : Int32) (a2 : Int32) (a3 : Int32) (s0 : Int32) (s1 : Int32) (M : sy_M) (r : xe_R × sy_M), jfX12_read_51 k23 a1 a2 a3 s0 s1 M = some r → sy_E (47) qX12_read 51 [.ref 121, .int a1, .int a2, .int a3] [.int s0, .int s1] M r := by
  intro a1 a2 a3 s0 s1 M r h
  exact sy_run_by (d := 46) ((jrX12_read_51 _ _ _ _ _ _ M).trans h) hkX12 (by decide +kernel) (sy_cs_cons (jeX12_houseLine.deep (by decide)) (sy_cs_cons (jeX12_lawLine.deep (by decide)) (sy_cs_cons (jeX12_wrong.deep (by decide)) sy_cs_nil))) (sy_us_cons (jwX12_read_80 (jtX12_read_80 hk23)) sy_us_nil)
def jgX12_read_23 (k23 : Int32 → Int32 → Int32 → sy_M → sy_O) (a1 : Int32) (a2 : Int32) (a3 : Int32) (M : sy_M) : sy_O :=
  if a2 = 0 then
    sy_ri a3 M
  else
    if (M 121 12) = (-1) then
      sy_bv (jfX12_skip M) fun M1 =>
      if a1 = 0 then
        jfX12_read_51 k23 a1 a2 a3 14 a3 M1
      else
        jfX12_read_51 k23 a1 a2 a3 12 a3 M1
    else
      sy_ri a3 M
def jfX12_read_23 : Nat → Int32 → Int32 → Int32 → sy_M → sy_O
  | 0, _, _, _, _ => none
  | n + 1, a1, a2, a3, M => jgX12_read_23 (jfX12_read_23 n) a1 a2 a3 M
set_option maxRecDepth 100000 in
theorem jrX12_read_23 (k23 : Int32 → Int32 → Int32 → sy_M → sy_O) (a1 : Int32) (a2 : Int32) (a3 : Int32) (M : sy_M) : sy_run skX12 qX12_read [(23, .iload_n 2, 1, []), (24, .ifCond .eq 120, 3, []), (27, .aload_n 0, 1, []), (28, .getfield 25, 3, []), (31, .iconst (-1), 1, []), (32, .if_icmp .ne 112, 3, []), (35, .aload_n 0, 1, []), (36, .invokevirtual 85, 3, []), (39, .iload_n 3, 1, []), (40, .iload_n 1, 1, []), (41, .ifCond .eq 8, 3, []), (44, .bipush 12, 2, []), (46, .goto 5, 3, []), (49, .bipush 14, 2, []), (144, .iload_n 3, 1, [false, false, false, true]), (145, .ireturn, 1, [])] [(201, 1, jcX12_skip)] [(51, juX12_read_51 (jfX12_read_51 k23))] 17 [] 23 [.ref 121, .int a1, .int a2, .int a3] [] M = jgX12_read_23 k23 a1 a2 a3 M := rfl
theorem jtX12_read_23 : ∀ n : Nat, ∀ (a1 : Int32) (a2 : Int32) (a3 : Int32) (M : sy_M) (r : xe_R × sy_M), jfX12_read_23 n a1 a2 a3 M = some r → sy_E (47) qX12_read 23 [.ref 121, .int a1, .int a2, .int a3] [] M r := by
  intro n
  induction n with
  | zero => intro a1 a2 a3 M r h; exact absurd (show (none : sy_O) = some r from h) (by simp)
  | succ n ih => intro a1 a2 a3 M r h; exact sy_run_by (d := 46) ((jrX12_read_23 _ _ _ _ M).trans h) hkX12 (by decide +kernel) (sy_cs_cons (jeX12_skip.deep (by decide)) sy_cs_nil) (sy_us_cons (jwX12_read_51 (jtX12_read_51 ih)) sy_us_nil)
def jfX12_read_20 (a1 : Int32) (s0 : Int32) (M : sy_M) : sy_O :=
  jfX12_read_23 sy_F a1 s0 0 M
set_option maxRecDepth 100000 in
theorem jrX12_read_20 (w2 : Value) (w3 : Value) (a1 : Int32) (s0 : Int32) (M : sy_M) : sy_run skX12 qX12_read [(20, .istore_n 2, 1, [true, true, false, false]), (21, .iconst 0, 1, []), (22, .istore_n 3, 1, [])] [] [(23, juX12_read_23 (jfX12_read_23 sy_F))] 4 [] 20 [.ref 121, .int a1, w2, w3] [.int s0] M = jfX12_read_20 a1 s0 M := rfl
theorem jtX12_read_20 : ∀ (w2 : Value) (w3 : Value) (a1 : Int32) (s0 : Int32) (M : sy_M) (r : xe_R × sy_M), jfX12_read_20 a1 s0 M = some r → sy_E (47) qX12_read 20 [.ref 121, .int a1, w2, w3] [.int s0] M r := by
  intro w2 w3 a1 s0 M r h
  exact sy_run_by (d := 46) ((jrX12_read_20 _ _ _ _ M).trans h) hkX12 (by decide +kernel) sy_cs_nil (sy_us_cons (jwX12_read_23 (jtX12_read_23 sy_F)) sy_us_nil)
def jfX12_read (a1 : Int32) (M : sy_M) : sy_O :=
  sy_bv (jfX12_skip M) fun M1 =>
  if (M1 121 11) < (M1 121 10) then
    jfX12_read_20 a1 1 M1
  else
    jfX12_read_20 a1 0 M1
set_option maxRecDepth 100000 in
theorem jrX12_read (a1 : Int32) (M : sy_M) : sy_run skX12 qX12_read [(0, .aload_n 0, 1, []), (1, .invokevirtual 85, 3, []), (4, .aload_n 0, 1, []), (5, .getfield 76, 3, []), (8, .aload_n 0, 1, []), (9, .getfield 79, 3, []), (12, .if_icmp .ge 7, 3, []), (15, .iconst 1, 1, []), (16, .goto 4, 3, []), (19, .iconst 0, 1, [true, true, false, false])] [(201, 1, jcX12_skip)] [(20, juX12_read_20 (jfX12_read_20))] 11 [] 0 [.ref 121, .int a1, xe_no, xe_no] [] M = jfX12_read a1 M := rfl
theorem jtX12_read : ∀ (a1 : Int32) (M : sy_M) (r : xe_R × sy_M), jfX12_read a1 M = some r → sy_E (47) qX12_read 0 [.ref 121, .int a1, xe_no, xe_no] [] M r := by
  intro a1 M r h
  exact sy_run_by (d := 46) ((jrX12_read _ M).trans h) hkX12 (by decide +kernel) (sy_cs_cons (jeX12_skip.deep (by decide)) sy_cs_nil) (sy_us_cons (jwX12_read_20 (jtX12_read_20)) sy_us_nil)
def jcX12_read (as : List Value) (M : sy_M) (K : sy_O → sy_O) : sy_O := sy_xc 121 as fun l => sy_xi l fun a1 l => sy_xn l (K (jfX12_read a1 M))
theorem jeX12_read : sy_snd (47) 214 (jcX12_read) := by
  intro as M K r h
  obtain ⟨l, e, h1⟩ := sy_xc_ok h; subst e
  obtain ⟨a1, l, e, h2⟩ := sy_xi_ok h1; subst e
  obtain ⟨e, h3⟩ := sy_xn_ok h2; subst e
  exact ⟨_, h3, fun r1 h0 => ⟨qX12_read, rfl, rfl, jtX12_read _ M r1 h0⟩⟩
/-! X12_comesBack StairMeterModel comesBack ()V [('R', 121)] -/
def juX12_comesBack_2 (k : Int32 → sy_M → sy_O) (ls st : List Value) (M : sy_M) : sy_O := sy_xc 121 ls fun l => sy_xi l fun a1 l => sy_xn l (sy_xn st (k a1 M))
theorem jwX12_comesBack_2 {d : Nat} {k : Int32 → sy_M → sy_O} (hk : ∀ (a1 : Int32) (M : sy_M) (r : xe_R × sy_M), k a1 M = some r → sy_E (d) qX12_comesBack 2 [.ref 121, .int a1] [] M r) : ∀ ls st M r, juX12_comesBack_2 k ls st M = some r → sy_E d qX12_comesBack 2 ls st M r := by
  intro ls st M r h
  obtain ⟨l, e, h1⟩ := sy_xc_ok h; subst e
  obtain ⟨a1, l, e, h2⟩ := sy_xi_ok h1; subst e
  obtain ⟨e, h3⟩ := sy_xn_ok h2; subst e
  obtain ⟨e, h4⟩ := sy_xn_ok h3; subst e
  exact hk a1 M r h4
def jgX12_comesBack_2 (k2 : Int32 → sy_M → sy_O) (a1 : Int32) (M : sy_M) : sy_O :=
  if a1 < 426 then
    sy_bx (xe_in a1 426) <|
    sy_bx (xe_in a1 826) <|
    let M1 := sy_upd M 122 (Int32.toNatClampNeg a1) (M 124 (Int32.toNatClampNeg a1))
    let v2 := a1 + 1
    k2 v2 M1
  else
    sy_rv M
def jfX12_comesBack_2 : Nat → Int32 → sy_M → sy_O
  | 0, _, _ => none
  | n + 1, a1, M => jgX12_comesBack_2 (jfX12_comesBack_2 n) a1 M
set_option maxRecDepth 100000 in
theorem jrX12_comesBack_2 (k2 : Int32 → sy_M → sy_O) (a1 : Int32) (M : sy_M) : sy_run skX12 qX12_comesBack [(2, .iload_n 1, 1, []), (3, .sipush 426, 3, []), (6, .if_icmp .ge 21, 3, []), (9, .aload_n 0, 1, []), (10, .getfield 7, 3, []), (13, .iload_n 1, 1, []), (14, .aload_n 0, 1, []), (15, .getfield 16, 3, []), (18, .iload_n 1, 1, []), (19, .iaload, 1, []), (20, .iastore, 1, []), (21, .iinc 1 1, 3, []), (24, .goto (-22), 3, []), (27, .return_, 1, [false, false])] [] [(2, juX12_comesBack_2 k2)] 15 [] 2 [.ref 121, .int a1] [] M = jgX12_comesBack_2 k2 a1 M := rfl
theorem jtX12_comesBack_2 : ∀ n : Nat, ∀ (a1 : Int32) (M : sy_M) (r : xe_R × sy_M), jfX12_comesBack_2 n a1 M = some r → sy_E (1) qX12_comesBack 2 [.ref 121, .int a1] [] M r := by
  intro n
  induction n with
  | zero => intro a1 M r h; exact absurd (show (none : sy_O) = some r from h) (by simp)
  | succ n ih => intro a1 M r h; exact sy_run_by (d := 0) ((jrX12_comesBack_2 _ _ M).trans h) hkX12 (by decide +kernel) sy_cs_nil (sy_us_cons (jwX12_comesBack_2 ih) sy_us_nil)
def jfX12_comesBack (M : sy_M) : sy_O :=
  jfX12_comesBack_2 sy_F 0 M
set_option maxRecDepth 100000 in
theorem jrX12_comesBack (M : sy_M) : sy_run skX12 qX12_comesBack [(0, .iconst 0, 1, []), (1, .istore_n 1, 1, [])] [] [(2, juX12_comesBack_2 (jfX12_comesBack_2 sy_F))] 3 [] 0 [.ref 121, xe_no] [] M = jfX12_comesBack M := rfl
theorem jtX12_comesBack : ∀ (M : sy_M) (r : xe_R × sy_M), jfX12_comesBack M = some r → sy_E (1) qX12_comesBack 0 [.ref 121, xe_no] [] M r := by
  intro  M r h
  exact sy_run_by (d := 0) ((jrX12_comesBack M).trans h) hkX12 (by decide +kernel) sy_cs_nil (sy_us_cons (jwX12_comesBack_2 (jtX12_comesBack_2 sy_F)) sy_us_nil)
def jcX12_comesBack (as : List Value) (M : sy_M) (K : sy_O → sy_O) : sy_O := sy_xc 121 as fun l => sy_xn l (K (jfX12_comesBack M))
theorem jeX12_comesBack : sy_snd (1) 216 (jcX12_comesBack) := by
  intro as M K r h
  obtain ⟨l, e, h1⟩ := sy_xc_ok h; subst e
  obtain ⟨e, h2⟩ := sy_xn_ok h1; subst e
  exact ⟨_, h2, fun r1 h0 => ⟨qX12_comesBack, rfl, rfl, jtX12_comesBack  M r1 h0⟩⟩
/-! X12_house StairMeterModel house ()I [('R', 121)] -/
def juX12_house_43 (k : Int32 → sy_M → sy_O) (ls st : List Value) (M : sy_M) : sy_O := sy_xc 121 ls fun l => sy_xv l fun _ l => sy_xn l (sy_xi st fun s0 l => sy_xc 121 l fun l => sy_xn l (k s0 M))
theorem jwX12_house_43 {d : Nat} {k : Int32 → sy_M → sy_O} (hk : ∀ (w1 : Value) (s0 : Int32) (M : sy_M) (r : xe_R × sy_M), k s0 M = some r → sy_E (d) qX12_house 43 [.ref 121, w1] [.int s0, .ref 121] M r) : ∀ ls st M r, juX12_house_43 k ls st M = some r → sy_E d qX12_house 43 ls st M r := by
  intro ls st M r h
  obtain ⟨l, e, h1⟩ := sy_xc_ok h; subst e
  obtain ⟨w1, l, e, h2⟩ := sy_xv_ok h1; subst e
  obtain ⟨e, h3⟩ := sy_xn_ok h2; subst e
  obtain ⟨s0, l, e, h4⟩ := sy_xi_ok h3; subst e
  obtain ⟨l, e, h5⟩ := sy_xc_ok h4; subst e
  obtain ⟨e, h6⟩ := sy_xn_ok h5; subst e
  exact hk _ s0 M r h6
def jfX12_house_43 (s0 : Int32) (M : sy_M) : sy_O :=
  let M1 := sy_upd M 121 0 s0
  if 0 < (M1 121 0) then
    sy_bv (jfX12_comesBack M1) fun M4 =>
    sy_ri 0 M4
  else
    let M2 := sy_upd M1 122 0 ((M1 122 0) + 1)
    let M3 := sy_upd M2 121 6 0
    sy_ri (M3 122 0) M3
set_option maxRecDepth 100000 in
theorem jrX12_house_43 (w1 : Value) (s0 : Int32) (M : sy_M) : sy_run skX12 qX12_house [(43, .putfield 45, 3, [true, false]), (46, .aload_n 0, 1, []), (47, .getfield 45, 3, []), (50, .ifCond .le 9, 3, []), (53, .aload_n 0, 1, []), (54, .invokevirtual 182, 3, []), (57, .iconst 0, 1, []), (58, .ireturn, 1, []), (59, .aload_n 0, 1, [true, false]), (60, .getfield 7, 3, []), (63, .iconst 0, 1, []), (64, .dup2, 1, []), (65, .iaload, 1, []), (66, .iconst 1, 1, []), (67, .iadd, 1, []), (68, .iastore, 1, []), (69, .aload_n 0, 1, []), (70, .iconst 0, 1, []), (71, .putfield 185, 3, []), (74, .aload_n 0, 1, []), (75, .getfield 7, 3, []), (78, .iconst 0, 1, []), (79, .iaload, 1, []), (80, .ireturn, 1, [])] [(216, 1, jcX12_comesBack)] [] 25 [] 43 [.ref 121, w1] [.int s0, .ref 121] M = jfX12_house_43 s0 M := rfl
theorem jtX12_house_43 : ∀ (w1 : Value) (s0 : Int32) (M : sy_M) (r : xe_R × sy_M), jfX12_house_43 s0 M = some r → sy_E (48) qX12_house 43 [.ref 121, w1] [.int s0, .ref 121] M r := by
  intro w1 s0 M r h
  exact sy_run_by (d := 47) ((jrX12_house_43 _ _ M).trans h) hkX12 (by decide +kernel) (sy_cs_cons (jeX12_comesBack.deep (by decide)) sy_cs_nil) sy_us_nil
def jfX12_house (M : sy_M) : sy_O :=
  sy_bv (jfX12_putsAside M) fun M1 =>
  sy_bv (jfX12_begins M1) fun M2 =>
  sy_bi (jfX12_read 0 M2) fun v4 M3 =>
  if (M3 121 12) = (-1) then
    if (M3 122 0) = 12 then
      jfX12_house_43 2 M3
    else
      jfX12_house_43 0 M3
  else
    jfX12_house_43 1 M3
set_option maxRecDepth 100000 in
theorem jrX12_house (M : sy_M) : sy_run skX12 qX12_house [(0, .aload_n 0, 1, []), (1, .invokevirtual 172, 3, []), (4, .aload_n 0, 1, []), (5, .invokevirtual 175, 3, []), (8, .aload_n 0, 1, []), (9, .iconst 0, 1, []), (10, .invokevirtual 178, 3, []), (13, .istore_n 1, 1, []), (14, .aload_n 0, 1, []), (15, .aload_n 0, 1, []), (16, .getfield 25, 3, []), (19, .iconst (-1), 1, []), (20, .if_icmp .eq 7, 3, []), (23, .iconst 1, 1, []), (24, .goto 19, 3, []), (27, .aload_n 0, 1, [true, false]), (28, .getfield 7, 3, []), (31, .iconst 0, 1, []), (32, .iaload, 1, []), (33, .bipush 12, 2, []), (35, .if_icmp .ne 7, 3, []), (38, .iconst 2, 1, []), (39, .goto 4, 3, []), (42, .iconst 0, 1, [true, false])] [(215, 1, jcX12_putsAside), (213, 1, jcX12_begins), (214, 0, jcX12_read)] [(43, juX12_house_43 (jfX12_house_43))] 25 [] 0 [.ref 121, xe_no] [] M = jfX12_house M := rfl
theorem jtX12_house : ∀ (M : sy_M) (r : xe_R × sy_M), jfX12_house M = some r → sy_E (48) qX12_house 0 [.ref 121, xe_no] [] M r := by
  intro  M r h
  exact sy_run_by (d := 47) ((jrX12_house M).trans h) hkX12 (by decide +kernel) (sy_cs_cons (jeX12_putsAside.deep (by decide)) (sy_cs_cons (jeX12_begins.deep (by decide)) (sy_cs_cons (jeX12_read.deep (by decide)) sy_cs_nil))) (sy_us_cons (jwX12_house_43 (jtX12_house_43)) sy_us_nil)
def jcX12_house (as : List Value) (M : sy_M) (K : sy_O → sy_O) : sy_O := sy_xc 121 as fun l => sy_xn l (K (jfX12_house M))
theorem jeX12_house : sy_snd (48) 217 (jcX12_house) := by
  intro as M K r h
  obtain ⟨l, e, h1⟩ := sy_xc_ok h; subst e
  obtain ⟨e, h2⟩ := sy_xn_ok h1; subst e
  exact ⟨_, h2, fun r1 h0 => ⟨qX12_house, rfl, rfl, jtX12_house  M r1 h0⟩⟩
/-! X12_thrown StairMeterModel thrown ()I [('R', 121)] -/
def jfX12_thrown (M : sy_M) : sy_O :=
  sy_ri (M 121 0) M
set_option maxRecDepth 100000 in
theorem jrX12_thrown (M : sy_M) : sy_run skX12 qX12_thrown [(0, .aload_n 0, 1, []), (1, .getfield 45, 3, []), (4, .ireturn, 1, [])] [] [] 4 [] 0 [.ref 121] [] M = jfX12_thrown M := rfl
theorem jtX12_thrown : ∀ (M : sy_M) (r : xe_R × sy_M), jfX12_thrown M = some r → sy_E (1) qX12_thrown 0 [.ref 121] [] M r := by
  intro  M r h
  exact sy_run_by (d := 0) ((jrX12_thrown M).trans h) hkX12 (by decide +kernel) sy_cs_nil sy_us_nil
def jcX12_thrown (as : List Value) (M : sy_M) (K : sy_O → sy_O) : sy_O := sy_xc 121 as fun l => sy_xn l (K (jfX12_thrown M))
theorem jeX12_thrown : sy_snd (1) 181 (jcX12_thrown) := by
  intro as M K r h
  obtain ⟨l, e, h1⟩ := sy_xc_ok h; subst e
  obtain ⟨e, h2⟩ := sy_xn_ok h1; subst e
  exact ⟨_, h2, fun r1 h0 => ⟨qX12_thrown, rfl, rfl, jtX12_thrown  M r1 h0⟩⟩
/-! X4_clear StairMeter$Law clear ()V ['A'] -/
def jfX4_clear (r0 : Nat) (M : sy_M) : sy_O :=
  sy_bs (sy_is 4 r0) <|
  let M1 := sy_upd M r0 5 0
  sy_bs (sy_is 4 r0) <|
  let M2 := sy_upd M1 r0 6 0
  sy_rv M2
set_option maxRecDepth 100000 in
theorem jrX4_clear (r0 : Nat) (M : sy_M) : sy_run skX4 qX4_clear [(0, .aload_n 0, 1, []), (1, .iconst 0, 1, []), (2, .putfield 27, 3, []), (5, .aload_n 0, 1, []), (6, .iconst 0, 1, []), (7, .putfield 31, 3, []), (10, .return_, 1, [])] [] [] 8 [] 0 [.ref r0] [] M = jfX4_clear r0 M := rfl
theorem jtX4_clear : ∀ (r0 : Nat) (M : sy_M) (r : xe_R × sy_M), jfX4_clear r0 M = some r → sy_E (1) qX4_clear 0 [.ref r0] [] M r := by
  intro r0 M r h
  exact sy_run_by (d := 0) ((jrX4_clear _ M).trans h) hkX4 (by decide +kernel) sy_cs_nil sy_us_nil
def jcX4_clear (as : List Value) (M : sy_M) (K : sy_O → sy_O) : sy_O := sy_xa as fun r0 l => sy_xn l (K (jfX4_clear r0 M))
theorem jeX4_clear : sy_snd (1) 38 (jcX4_clear) := by
  intro as M K r h
  obtain ⟨r0, l, e, h1⟩ := sy_xa_ok h; subst e
  obtain ⟨e, h2⟩ := sy_xn_ok h1; subst e
  exact ⟨_, h2, fun r1 h0 => ⟨qX4_clear, rfl, rfl, jtX4_clear _ M r1 h0⟩⟩
/-! X5_kindOf StairMeter$LawLines kindOf (I)I ['I'] -/
def jfX5_kindOf (a0 : Int32) (M : sy_M) : sy_O :=
  if a0 = 273 then
    sy_ri 0 M
  else
    if a0 = 274 then
      sy_ri 1 M
    else
      sy_ri 2 M
set_option maxRecDepth 100000 in
theorem jrX5_kindOf (a0 : Int32) (M : sy_M) : sy_run skX5 qX5_kindOf [(0, .iload_n 0, 1, []), (1, .sipush 273, 3, []), (4, .if_icmp .ne 5, 3, []), (7, .iconst 0, 1, []), (8, .ireturn, 1, []), (9, .iload_n 0, 1, []), (10, .sipush 274, 3, []), (13, .if_icmp .ne 7, 3, []), (16, .iconst 1, 1, []), (17, .goto 4, 3, []), (20, .iconst 2, 1, [false]), (21, .ireturn, 1, [false])] [] [] 13 [] 0 [.int a0] [] M = jfX5_kindOf a0 M := rfl
theorem jtX5_kindOf : ∀ (a0 : Int32) (M : sy_M) (r : xe_R × sy_M), jfX5_kindOf a0 M = some r → sy_E (1) qX5_kindOf 0 [.int a0] [] M r := by
  intro a0 M r h
  exact sy_run_by (d := 0) ((jrX5_kindOf _ M).trans h) hkX5 (by decide +kernel) sy_cs_nil sy_us_nil
def jcX5_kindOf (as : List Value) (M : sy_M) (K : sy_O → sy_O) : sy_O := sy_xi as fun a0 l => sy_xn l (K (jfX5_kindOf a0 M))
theorem jeX5_kindOf : sy_snd (1) 49 (jcX5_kindOf) := by
  intro as M K r h
  obtain ⟨a0, l, e, h1⟩ := sy_xi_ok h; subst e
  obtain ⟨e, h2⟩ := sy_xn_ok h1; subst e
  exact ⟨_, h2, fun r1 h0 => ⟨qX5_kindOf, rfl, rfl, jtX5_kindOf _ M r1 h0⟩⟩
/-! X4_addLine StairMeter$Law addLine (III)V ['A', 'I', 'I', 'I'] -/
def jfX4_addLine (r0 : Nat) (a1 : Int32) (a2 : Int32) (a3 : Int32) (M : sy_M) : sy_O :=
  sy_bs (sy_is 4 r0) <|
  if (M r0 6) < 0 then
    sy_rv M
  else
    sy_bs (sy_is 4 r0) <|
    if (M r0 6) < 12 then
      sy_bs (sy_is 4 r0) <|
      sy_bs (sy_is 4 r0) <|
      sy_bx (xe_in (M r0 6) (sy_li (r0 + 1))) <|
      let M1 := sy_upd M (r0 + 1) (Int32.toNatClampNeg (M r0 6)) a1
      sy_bs (sy_is 4 r0) <|
      sy_bs (sy_is 4 r0) <|
      sy_bx (xe_in (M1 r0 6) (sy_li (r0 + 2))) <|
      let M2 := sy_upd M1 (r0 + 2) (Int32.toNatClampNeg (M1 r0 6)) a2
      sy_bs (sy_is 4 r0) <|
      sy_bs (sy_is 4 r0) <|
      sy_bx (xe_in (M2 r0 6) (sy_li (r0 + 3))) <|
      let M3 := sy_upd M2 (r0 + 3) (Int32.toNatClampNeg (M2 r0 6)) a3
      sy_bs (sy_is 4 r0) <|
      sy_bs (sy_is 4 r0) <|
      sy_bs (sy_is 4 r0) <|
      sy_bx (xe_in (M3 r0 6) (sy_li (r0 + 4))) <|
      let M4 := sy_upd M3 (r0 + 4) (Int32.toNatClampNeg (M3 r0 6)) (M3 r0 5)
      sy_bs (sy_is 4 r0) <|
      sy_bs (sy_is 4 r0) <|
      let M5 := sy_upd M4 r0 6 ((M4 r0 6) + 1)
      sy_rv M5
    else
      sy_rv M
set_option maxRecDepth 100000 in
theorem jrX4_addLine (r0 : Nat) (a1 : Int32) (a2 : Int32) (a3 : Int32) (M : sy_M) : sy_run skX4 qX4_addLine [(0, .aload_n 0, 1, []), (1, .getfield 31, 3, []), (4, .ifCond .lt 65, 3, []), (7, .aload_n 0, 1, []), (8, .getfield 31, 3, []), (11, .bipush 12, 2, []), (13, .if_icmp .ge 56, 3, []), (16, .aload_n 0, 1, []), (17, .getfield 9, 3, []), (20, .aload_n 0, 1, []), (21, .getfield 31, 3, []), (24, .iload_n 1, 1, []), (25, .iastore, 1, []), (26, .aload_n 0, 1, []), (27, .getfield 15, 3, []), (30, .aload_n 0, 1, []), (31, .getfield 31, 3, []), (34, .iload_n 2, 1, []), (35, .iastore, 1, []), (36, .aload_n 0, 1, []), (37, .getfield 18, 3, []), (40, .aload_n 0, 1, []), (41, .getfield 31, 3, []), (44, .iload_n 3, 1, []), (45, .iastore, 1, []), (46, .aload_n 0, 1, []), (47, .getfield 21, 3, []), (50, .aload_n 0, 1, []), (51, .getfield 31, 3, []), (54, .aload_n 0, 1, []), (55, .getfield 27, 3, []), (58, .iastore, 1, []), (59, .aload_n 0, 1, []), (60, .dup, 1, []), (61, .getfield 31, 3, []), (64, .iconst 1, 1, []), (65, .iadd, 1, []), (66, .putfield 31, 3, []), (69, .return_, 1, [false, false, false, false])] [] [] 40 [] 0 [.ref r0, .int a1, .int a2, .int a3] [] M = jfX4_addLine r0 a1 a2 a3 M := rfl
theorem jtX4_addLine : ∀ (r0 : Nat) (a1 : Int32) (a2 : Int32) (a3 : Int32) (M : sy_M) (r : xe_R × sy_M), jfX4_addLine r0 a1 a2 a3 M = some r → sy_E (1) qX4_addLine 0 [.ref r0, .int a1, .int a2, .int a3] [] M r := by
  intro r0 a1 a2 a3 M r h
  exact sy_run_by (d := 0) ((jrX4_addLine _ _ _ _ M).trans h) hkX4 (by decide +kernel) sy_cs_nil sy_us_nil
def jcX4_addLine (as : List Value) (M : sy_M) (K : sy_O → sy_O) : sy_O := sy_xa as fun r0 l => sy_xi l fun a1 l => sy_xi l fun a2 l => sy_xi l fun a3 l => sy_xn l (K (jfX4_addLine r0 a1 a2 a3 M))
theorem jeX4_addLine : sy_snd (1) 40 (jcX4_addLine) := by
  intro as M K r h
  obtain ⟨r0, l, e, h1⟩ := sy_xa_ok h; subst e
  obtain ⟨a1, l, e, h2⟩ := sy_xi_ok h1; subst e
  obtain ⟨a2, l, e, h3⟩ := sy_xi_ok h2; subst e
  obtain ⟨a3, l, e, h4⟩ := sy_xi_ok h3; subst e
  obtain ⟨e, h5⟩ := sy_xn_ok h4; subst e
  exact ⟨_, h5, fun r1 h0 => ⟨qX4_addLine, rfl, rfl, jtX4_addLine _ _ _ _ M r1 h0⟩⟩
/-! X4_land StairMeter$Law land (I)V ['A', 'I'] -/
def juX4_land_4 (k : Nat → Int32 → Int32 → sy_M → sy_O) (ls st : List Value) (M : sy_M) : sy_O := sy_xa ls fun r0 l => sy_xv l fun _ l => sy_xi l fun a2 l => sy_xi l fun a3 l => sy_xv l fun _ l => sy_xn l (sy_xn st (k r0 a2 a3 M))
theorem jwX4_land_4 {d : Nat} {k : Nat → Int32 → Int32 → sy_M → sy_O} (hk : ∀ (w1 : Value) (w4 : Value) (r0 : Nat) (a2 : Int32) (a3 : Int32) (M : sy_M) (r : xe_R × sy_M), k r0 a2 a3 M = some r → sy_E (d) qX4_land 4 [.ref r0, w1, .int a2, .int a3, w4] [] M r) : ∀ ls st M r, juX4_land_4 k ls st M = some r → sy_E d qX4_land 4 ls st M r := by
  intro ls st M r h
  obtain ⟨r0, l, e, h1⟩ := sy_xa_ok h; subst e
  obtain ⟨w1, l, e, h2⟩ := sy_xv_ok h1; subst e
  obtain ⟨a2, l, e, h3⟩ := sy_xi_ok h2; subst e
  obtain ⟨a3, l, e, h4⟩ := sy_xi_ok h3; subst e
  obtain ⟨w4, l, e, h5⟩ := sy_xv_ok h4; subst e
  obtain ⟨e, h6⟩ := sy_xn_ok h5; subst e
  obtain ⟨e, h7⟩ := sy_xn_ok h6; subst e
  exact hk _ _ r0 a2 a3 M r h7
def jgX4_land_4 (k4 : Nat → Int32 → Int32 → sy_M → sy_O) (r0 : Nat) (a2 : Int32) (a3 : Int32) (M : sy_M) : sy_O :=
  if a3 < 512 then
    if a2 < 0 then
      sy_rv M
    else
      if a2 < 512 then
        sy_bs (sy_is 4 r0) <|
        sy_bx (xe_in a2 (sy_len M (r0 + 5))) <|
        let v1 := (((M (r0 + 5) (Int32.toNatClampNeg a2)) >>> (4 &&& 31)) - 1)
        sy_bs (sy_is 4 r0) <|
        sy_bs (sy_is 4 r0) <|
        sy_bx (xe_in a2 (sy_len M (r0 + 5))) <|
        sy_bs (sy_is 4 r0) <|
        sy_bx (xe_in a2 (sy_li (r0 + 5))) <|
        let M2 := sy_upd M (r0 + 5) (Int32.toNatClampNeg a2) (((M (r0 + 5) (Int32.toNatClampNeg a2)) &&& 15) + (16 * (M r0 5)))
        let v3 := a3 + 1
        k4 r0 v1 v3 M2
      else
        sy_rv M
  else
    sy_rv M
def jfX4_land_4 : Nat → Nat → Int32 → Int32 → sy_M → sy_O
  | 0, _, _, _, _ => none
  | n + 1, r0, a2, a3, M => jgX4_land_4 (jfX4_land_4 n) r0 a2 a3 M
set_option maxRecDepth 100000 in
theorem jrX4_land_4 (k4 : Nat → Int32 → Int32 → sy_M → sy_O) (w1 : Value) (w4 : Value) (r0 : Nat) (a2 : Int32) (a3 : Int32) (M : sy_M) : sy_run skX4 qX4_land [(4, .iload_n 3, 1, [true, false, true, true, false]), (5, .sipush 512, 3, []), (8, .if_icmp .ge 58, 3, []), (11, .iload_n 2, 1, []), (12, .ifCond .lt 54, 3, []), (15, .iload_n 2, 1, []), (16, .sipush 512, 3, []), (19, .if_icmp .ge 47, 3, []), (22, .aload_n 0, 1, []), (23, .getfield 24, 3, []), (26, .iload_n 2, 1, []), (27, .iaload, 1, []), (28, .iconst 4, 1, []), (29, .ishr, 1, []), (30, .iconst 1, 1, []), (31, .isub, 1, []), (32, .istore 4, 2, []), (34, .aload_n 0, 1, []), (35, .getfield 24, 3, []), (38, .iload_n 2, 1, []), (39, .aload_n 0, 1, []), (40, .getfield 24, 3, []), (43, .iload_n 2, 1, []), (44, .iaload, 1, []), (45, .bipush 15, 2, []), (47, .iand, 1, []), (48, .bipush 16, 2, []), (50, .aload_n 0, 1, []), (51, .getfield 27, 3, []), (54, .imul, 1, []), (55, .iadd, 1, []), (56, .iastore, 1, []), (57, .iload 4, 2, []), (59, .istore_n 2, 1, []), (60, .iinc 3 1, 3, []), (63, .goto (-59), 3, []), (66, .return_, 1, [false, false, false, false, false])] [] [(4, juX4_land_4 k4)] 38 [] 4 [.ref r0, w1, .int a2, .int a3, w4] [] M = jgX4_land_4 k4 r0 a2 a3 M := rfl
theorem jtX4_land_4 : ∀ n : Nat, ∀ (w1 : Value) (w4 : Value) (r0 : Nat) (a2 : Int32) (a3 : Int32) (M : sy_M) (r : xe_R × sy_M), jfX4_land_4 n r0 a2 a3 M = some r → sy_E (1) qX4_land 4 [.ref r0, w1, .int a2, .int a3, w4] [] M r := by
  intro n
  induction n with
  | zero => intro w1 w4 r0 a2 a3 M r h; exact absurd (show (none : sy_O) = some r from h) (by simp)
  | succ n ih => intro w1 w4 r0 a2 a3 M r h; exact sy_run_by (d := 0) ((jrX4_land_4 _ _ _ _ _ _ M).trans h) hkX4 (by decide +kernel) sy_cs_nil (sy_us_cons (jwX4_land_4 ih) sy_us_nil)
def jfX4_land (r0 : Nat) (a1 : Int32) (M : sy_M) : sy_O :=
  jfX4_land_4 sy_F r0 a1 0 M
set_option maxRecDepth 100000 in
theorem jrX4_land (r0 : Nat) (a1 : Int32) (M : sy_M) : sy_run skX4 qX4_land [(0, .iload_n 1, 1, []), (1, .istore_n 2, 1, []), (2, .iconst 0, 1, []), (3, .istore_n 3, 1, [])] [] [(4, juX4_land_4 (jfX4_land_4 sy_F))] 5 [] 0 [.ref r0, .int a1, xe_no, xe_no, xe_no] [] M = jfX4_land r0 a1 M := rfl
theorem jtX4_land : ∀ (r0 : Nat) (a1 : Int32) (M : sy_M) (r : xe_R × sy_M), jfX4_land r0 a1 M = some r → sy_E (1) qX4_land 0 [.ref r0, .int a1, xe_no, xe_no, xe_no] [] M r := by
  intro r0 a1 M r h
  exact sy_run_by (d := 0) ((jrX4_land _ _ M).trans h) hkX4 (by decide +kernel) sy_cs_nil (sy_us_cons (jwX4_land_4 (jtX4_land_4 sy_F)) sy_us_nil)
def jcX4_land (as : List Value) (M : sy_M) (K : sy_O → sy_O) : sy_O := sy_xa as fun r0 l => sy_xi l fun a1 l => sy_xn l (K (jfX4_land r0 a1 M))
theorem jeX4_land : sy_snd (1) 43 (jcX4_land) := by
  intro as M K r h
  obtain ⟨r0, l, e, h1⟩ := sy_xa_ok h; subst e
  obtain ⟨a1, l, e, h2⟩ := sy_xi_ok h1; subst e
  obtain ⟨e, h3⟩ := sy_xn_ok h2; subst e
  exact ⟨_, h3, fun r1 h0 => ⟨qX4_land, rfl, rfl, jtX4_land _ _ M r1 h0⟩⟩
/-! X4_add StairMeter$Law add (II)V ['A', 'I', 'I'] -/
def jfX4_add (r0 : Nat) (a1 : Int32) (a2 : Int32) (M : sy_M) : sy_O :=
  sy_bs (sy_is 4 r0) <|
  if (M r0 5) < 0 then
    sy_rv M
  else
    sy_bs (sy_is 4 r0) <|
    if (M r0 5) < 512 then
      sy_bs (sy_is 4 r0) <|
      sy_bs (sy_is 4 r0) <|
      sy_bx (xe_in (M r0 5) (sy_li (r0 + 5))) <|
      let M1 := sy_upd M (r0 + 5) (Int32.toNatClampNeg (M r0 5)) (a1 + (16 * a2))
      sy_bs (sy_is 4 r0) <|
      sy_bs (sy_is 4 r0) <|
      let M2 := sy_upd M1 r0 5 ((M1 r0 5) + 1)
      sy_rv M2
    else
      sy_rv M
set_option maxRecDepth 100000 in
theorem jrX4_add (r0 : Nat) (a1 : Int32) (a2 : Int32) (M : sy_M) : sy_run skX4 qX4_add [(0, .aload_n 0, 1, []), (1, .getfield 27, 3, []), (4, .ifCond .lt 38, 3, []), (7, .aload_n 0, 1, []), (8, .getfield 27, 3, []), (11, .sipush 512, 3, []), (14, .if_icmp .ge 28, 3, []), (17, .aload_n 0, 1, []), (18, .getfield 24, 3, []), (21, .aload_n 0, 1, []), (22, .getfield 27, 3, []), (25, .iload_n 1, 1, []), (26, .bipush 16, 2, []), (28, .iload_n 2, 1, []), (29, .imul, 1, []), (30, .iadd, 1, []), (31, .iastore, 1, []), (32, .aload_n 0, 1, []), (33, .dup, 1, []), (34, .getfield 27, 3, []), (37, .iconst 1, 1, []), (38, .iadd, 1, []), (39, .putfield 27, 3, []), (42, .return_, 1, [false, false, false])] [] [] 25 [] 0 [.ref r0, .int a1, .int a2] [] M = jfX4_add r0 a1 a2 M := rfl
theorem jtX4_add : ∀ (r0 : Nat) (a1 : Int32) (a2 : Int32) (M : sy_M) (r : xe_R × sy_M), jfX4_add r0 a1 a2 M = some r → sy_E (1) qX4_add 0 [.ref r0, .int a1, .int a2] [] M r := by
  intro r0 a1 a2 M r h
  exact sy_run_by (d := 0) ((jrX4_add _ _ _ M).trans h) hkX4 (by decide +kernel) sy_cs_nil sy_us_nil
def jcX4_add (as : List Value) (M : sy_M) (K : sy_O → sy_O) : sy_O := sy_xa as fun r0 l => sy_xi l fun a1 l => sy_xi l fun a2 l => sy_xn l (K (jfX4_add r0 a1 a2 M))
theorem jeX4_add : sy_snd (1) 41 (jcX4_add) := by
  intro as M K r h
  obtain ⟨r0, l, e, h1⟩ := sy_xa_ok h; subst e
  obtain ⟨a1, l, e, h2⟩ := sy_xi_ok h1; subst e
  obtain ⟨a2, l, e, h3⟩ := sy_xi_ok h2; subst e
  obtain ⟨e, h4⟩ := sy_xn_ok h3; subst e
  exact ⟨_, h4, fun r1 h0 => ⟨qX4_add, rfl, rfl, jtX4_add _ _ _ M r1 h0⟩⟩
/-! X4_addJump StairMeter$Law addJump (II)I ['A', 'I', 'I'] -/
def jfX4_addJump (r0 : Nat) (a1 : Int32) (a2 : Int32) (M : sy_M) : sy_O :=
  sy_bs (sy_is 4 r0) <|
  sy_bv (jfX4_add r0 a1 (a2 + 1) M) fun M1 =>
  sy_bs (sy_is 4 r0) <|
  sy_ri ((M1 r0 5) - 1) M1
set_option maxRecDepth 100000 in
theorem jrX4_addJump (r0 : Nat) (a1 : Int32) (a2 : Int32) (M : sy_M) : sy_run skX4 qX4_addJump [(0, .aload_n 0, 1, []), (1, .iload_n 1, 1, []), (2, .iload_n 2, 1, []), (3, .iconst 1, 1, []), (4, .iadd, 1, []), (5, .invokevirtual 40, 3, []), (8, .aload_n 0, 1, []), (9, .getfield 27, 3, []), (12, .iconst 1, 1, []), (13, .isub, 1, []), (14, .ireturn, 1, [])] [(41, 1, jcX4_add)] [] 12 [] 0 [.ref r0, .int a1, .int a2] [] M = jfX4_addJump r0 a1 a2 M := rfl
theorem jtX4_addJump : ∀ (r0 : Nat) (a1 : Int32) (a2 : Int32) (M : sy_M) (r : xe_R × sy_M), jfX4_addJump r0 a1 a2 M = some r → sy_E (2) qX4_addJump 0 [.ref r0, .int a1, .int a2] [] M r := by
  intro r0 a1 a2 M r h
  exact sy_run_by (d := 1) ((jrX4_addJump _ _ _ M).trans h) hkX4 (by decide +kernel) (sy_cs_cons (jeX4_add.deep (by decide)) sy_cs_nil) sy_us_nil
def jcX4_addJump (as : List Value) (M : sy_M) (K : sy_O → sy_O) : sy_O := sy_xa as fun r0 l => sy_xi l fun a1 l => sy_xi l fun a2 l => sy_xn l (K (jfX4_addJump r0 a1 a2 M))
theorem jeX4_addJump : sy_snd (2) 42 (jcX4_addJump) := by
  intro as M K r h
  obtain ⟨r0, l, e, h1⟩ := sy_xa_ok h; subst e
  obtain ⟨a1, l, e, h2⟩ := sy_xi_ok h1; subst e
  obtain ⟨a2, l, e, h3⟩ := sy_xi_ok h2; subst e
  obtain ⟨e, h4⟩ := sy_xn_ok h3; subst e
  exact ⟨_, h4, fun r1 h0 => ⟨qX4_addJump, rfl, rfl, jtX4_addJump _ _ _ M r1 h0⟩⟩
def chd_B (rc : Int32 → sy_M → sy_O) (as : List Value) (M : sy_M) (K : sy_O → sy_O) : sy_O := sy_xc 48 as fun l => sy_xi l fun a1 l => sy_xn l (K (rc a1 M))
/-! X5_readAll StairMeter$LawLines readAll (I)Z [('R', 48), 'I'] -/
def juX5_readAll_59 (k : Int32 → Int32 → sy_M → sy_O) (ls st : List Value) (M : sy_M) : sy_O := sy_xc 48 ls fun l => sy_xv l fun _ l => sy_xi l fun a2 l => sy_xi l fun a3 l => sy_xv l fun _ l => sy_xn l (sy_xn st (k a2 a3 M))
theorem jwX5_readAll_59 {d : Nat} {k : Int32 → Int32 → sy_M → sy_O} (hk : ∀ (w1 : Value) (w4 : Value) (a2 : Int32) (a3 : Int32) (M : sy_M) (r : xe_R × sy_M), k a2 a3 M = some r → sy_E (d) qX5_readAll 59 [.ref 48, w1, .int a2, .int a3, w4] [] M r) : ∀ ls st M r, juX5_readAll_59 k ls st M = some r → sy_E d qX5_readAll 59 ls st M r := by
  intro ls st M r h
  obtain ⟨l, e, h1⟩ := sy_xc_ok h; subst e
  obtain ⟨w1, l, e, h2⟩ := sy_xv_ok h1; subst e
  obtain ⟨a2, l, e, h3⟩ := sy_xi_ok h2; subst e
  obtain ⟨a3, l, e, h4⟩ := sy_xi_ok h3; subst e
  obtain ⟨w4, l, e, h5⟩ := sy_xv_ok h4; subst e
  obtain ⟨e, h6⟩ := sy_xn_ok h5; subst e
  obtain ⟨e, h7⟩ := sy_xn_ok h6; subst e
  exact hk _ _ a2 a3 M r h7
def juX5_readAll_11 (k : Int32 → Int32 → Int32 → Int32 → sy_M → sy_O) (ls st : List Value) (M : sy_M) : sy_O := sy_xc 48 ls fun l => sy_xi l fun a1 l => sy_xi l fun a2 l => sy_xi l fun a3 l => sy_xi l fun a4 l => sy_xn l (sy_xn st (k a1 a2 a3 a4 M))
theorem jwX5_readAll_11 {d : Nat} {k : Int32 → Int32 → Int32 → Int32 → sy_M → sy_O} (hk : ∀ (a1 : Int32) (a2 : Int32) (a3 : Int32) (a4 : Int32) (M : sy_M) (r : xe_R × sy_M), k a1 a2 a3 a4 M = some r → sy_E (d) qX5_readAll 11 [.ref 48, .int a1, .int a2, .int a3, .int a4] [] M r) : ∀ ls st M r, juX5_readAll_11 k ls st M = some r → sy_E d qX5_readAll 11 ls st M r := by
  intro ls st M r h
  obtain ⟨l, e, h1⟩ := sy_xc_ok h; subst e
  obtain ⟨a1, l, e, h2⟩ := sy_xi_ok h1; subst e
  obtain ⟨a2, l, e, h3⟩ := sy_xi_ok h2; subst e
  obtain ⟨a3, l, e, h4⟩ := sy_xi_ok h3; subst e
  obtain ⟨a4, l, e, h5⟩ := sy_xi_ok h4; subst e
  obtain ⟨e, h6⟩ := sy_xn_ok h5; subst e
  obtain ⟨e, h7⟩ := sy_xn_ok h6; subst e
  exact hk a1 a2 a3 a4 M r h7
def jfX5_readAll_59 (rc : Int32 → sy_M → sy_O) (a2 : Int32) (a3 : Int32) (M : sy_M) : sy_O :=
  sy_bv (jfX4_land 35 a2 M) fun M1 =>
  sy_bb (sy_bo a3) <| sy_ri a3 M1
set_option maxRecDepth 100000 in
theorem jrX5_readAll_59 (rc : Int32 → sy_M → sy_O) (w1 : Value) (w4 : Value) (a2 : Int32) (a3 : Int32) (M : sy_M) : sy_run skX5 qX5_readAll [(59, .aload_n 0, 1, [true, false, true, true, false]), (60, .getfield 9, 3, []), (63, .iload_n 2, 1, []), (64, .invokevirtual 60, 3, []), (67, .iload_n 3, 1, []), (68, .ireturn, 1, [])] [(43, 1, jcX4_land)] [] 7 [] 59 [.ref 48, w1, .int a2, .int a3, w4] [] M = jfX5_readAll_59 rc a2 a3 M := rfl
theorem jtX5_readAll_59 {rc : Int32 → sy_M → sy_O} {d : Nat} (hd : 2 ≤ d) (hrc : sy_snd d 52 (chd_B rc)) : ∀ (w1 : Value) (w4 : Value) (a2 : Int32) (a3 : Int32) (M : sy_M) (r : xe_R × sy_M), jfX5_readAll_59 rc a2 a3 M = some r → sy_E (d + 1) qX5_readAll 59 [.ref 48, w1, .int a2, .int a3, w4] [] M r := by
  intro w1 w4 a2 a3 M r h
  exact sy_run_by (d := d) ((jrX5_readAll_59 _ _ _ _ _ M).trans h) hkX5 (by decide +kernel) (sy_cs_cons (jeX4_land.deep (by omega)) sy_cs_nil) sy_us_nil
def jgX5_readAll_11 (rc : Int32 → sy_M → sy_O) (k11 : Int32 → Int32 → Int32 → Int32 → sy_M → sy_O) (a1 : Int32) (a2 : Int32) (a3 : Int32) (a4 : Int32) (M : sy_M) : sy_O :=
  if a4 < 400 then
    if a3 = 0 then
      jfX5_readAll_59 rc a2 a3 M
    else
      sy_bi (jfX10_takes 278 M) fun v2 M1 =>
      if v2 = 0 then
        jfX5_readAll_59 rc a2 a3 M1
      else
        sy_bi (jfX4_addJump 35 8 a2 M1) fun v4 M3 =>
        sy_bi (rc a1 M3) fun v6 M5 =>
        let v7 := a4 + 1
        k11 a1 v4 v6 v7 M5
  else
    jfX5_readAll_59 rc a2 a3 M
def jfX5_readAll_11 (rc : Int32 → sy_M → sy_O) : Nat → Int32 → Int32 → Int32 → Int32 → sy_M → sy_O
  | 0, _, _, _, _, _ => none
  | n + 1, a1, a2, a3, a4, M => jgX5_readAll_11 rc (jfX5_readAll_11 rc n) a1 a2 a3 a4 M
set_option maxRecDepth 100000 in
theorem jrX5_readAll_11 (rc : Int32 → sy_M → sy_O) (k11 : Int32 → Int32 → Int32 → Int32 → sy_M → sy_O) (a1 : Int32) (a2 : Int32) (a3 : Int32) (a4 : Int32) (M : sy_M) : sy_run skX5 qX5_readAll [(11, .iload 4, 2, []), (13, .sipush 400, 3, []), (16, .if_icmp .ge 43, 3, []), (19, .iload_n 3, 1, []), (20, .ifCond .eq 39, 3, []), (23, .aload_n 0, 1, []), (24, .getfield 15, 3, []), (27, .sipush 278, 3, []), (30, .invokevirtual 29, 3, []), (33, .ifCond .eq 26, 3, []), (36, .aload_n 0, 1, []), (37, .getfield 9, 3, []), (40, .bipush 8, 2, []), (42, .iload_n 2, 1, []), (43, .invokevirtual 57, 3, []), (46, .istore_n 2, 1, []), (47, .aload_n 0, 1, []), (48, .iload_n 1, 1, []), (49, .invokevirtual 64, 3, []), (52, .istore_n 3, 1, []), (53, .iinc 4 1, 3, []), (56, .goto (-45), 3, [])] [(86, 0, jcX10_takes), (42, 0, jcX4_addJump), (52, 0, chd_B rc)] [(59, juX5_readAll_59 (jfX5_readAll_59 rc)), (11, juX5_readAll_11 k11)] 23 [] 11 [.ref 48, .int a1, .int a2, .int a3, .int a4] [] M = jgX5_readAll_11 rc k11 a1 a2 a3 a4 M := rfl
theorem jtX5_readAll_11 {rc : Int32 → sy_M → sy_O} {d : Nat} (hd : 2 ≤ d) (hrc : sy_snd d 52 (chd_B rc)) : ∀ n : Nat, ∀ (a1 : Int32) (a2 : Int32) (a3 : Int32) (a4 : Int32) (M : sy_M) (r : xe_R × sy_M), jfX5_readAll_11 rc n a1 a2 a3 a4 M = some r → sy_E (d + 1) qX5_readAll 11 [.ref 48, .int a1, .int a2, .int a3, .int a4] [] M r := by
  intro n
  induction n with
  | zero => intro a1 a2 a3 a4 M r h; exact absurd (show (none : sy_O) = some r from h) (by simp)
  | succ n ih => intro a1 a2 a3 a4 M r h; exact sy_run_by (d := d) ((jrX5_readAll_11 _ _ _ _ _ _ M).trans h) hkX5 (by decide +kernel) (sy_cs_cons (jeX10_takes.deep (by omega)) (sy_cs_cons (jeX4_addJump.deep (by omega)) (sy_cs_cons (hrc.deep (by omega)) sy_cs_nil))) (sy_us_cons (jwX5_readAll_59 (jtX5_readAll_59 hd hrc)) (sy_us_cons (jwX5_readAll_11 ih) sy_us_nil))
def jfX5_readAll (rc : Int32 → sy_M → sy_O) (a1 : Int32) (M : sy_M) : sy_O :=
  sy_bi (rc a1 M) fun v2 M1 =>
  jfX5_readAll_11 rc sy_F a1 (-1) v2 0 M1
set_option maxRecDepth 100000 in
theorem jrX5_readAll (rc : Int32 → sy_M → sy_O) (a1 : Int32) (M : sy_M) : sy_run skX5 qX5_readAll [(0, .iconst (-1), 1, []), (1, .istore_n 2, 1, []), (2, .aload_n 0, 1, []), (3, .iload_n 1, 1, []), (4, .invokevirtual 64, 3, []), (7, .istore_n 3, 1, []), (8, .iconst 0, 1, []), (9, .istore 4, 2, [])] [(52, 0, chd_B rc)] [(11, juX5_readAll_11 (jfX5_readAll_11 rc sy_F))] 9 [] 0 [.ref 48, .int a1, xe_no, xe_no, xe_no] [] M = jfX5_readAll rc a1 M := rfl
theorem jtX5_readAll {rc : Int32 → sy_M → sy_O} {d : Nat} (hd : 2 ≤ d) (hrc : sy_snd d 52 (chd_B rc)) : ∀ (a1 : Int32) (M : sy_M) (r : xe_R × sy_M), jfX5_readAll rc a1 M = some r → sy_E (d + 1) qX5_readAll 0 [.ref 48, .int a1, xe_no, xe_no, xe_no] [] M r := by
  intro a1 M r h
  exact sy_run_by (d := d) ((jrX5_readAll _ _ M).trans h) hkX5 (by decide +kernel) (sy_cs_cons (hrc.deep (by omega)) sy_cs_nil) (sy_us_cons (jwX5_readAll_11 (jtX5_readAll_11 hd hrc sy_F)) sy_us_nil)
def jcX5_readAll (rc : Int32 → sy_M → sy_O) (as : List Value) (M : sy_M) (K : sy_O → sy_O) : sy_O := sy_xc 48 as fun l => sy_xi l fun a1 l => sy_xn l (K (jfX5_readAll rc a1 M))
theorem jeX5_readAll {rc : Int32 → sy_M → sy_O} {d : Nat} (hd : 2 ≤ d) (hrc : sy_snd d 52 (chd_B rc)) : sy_snd (d + 1) 51 (jcX5_readAll rc) := by
  intro as M K r h
  obtain ⟨l, e, h1⟩ := sy_xc_ok h; subst e
  obtain ⟨a1, l, e, h2⟩ := sy_xi_ok h1; subst e
  obtain ⟨e, h3⟩ := sy_xn_ok h2; subst e
  exact ⟨_, h3, fun r1 h0 => ⟨qX5_readAll, rfl, rfl, jtX5_readAll hd hrc _ M r1 h0⟩⟩
/-! X5_readAny StairMeter$LawLines readAny (I)Z [('R', 48), 'I'] -/
def juX5_readAny_59 (k : Int32 → Int32 → sy_M → sy_O) (ls st : List Value) (M : sy_M) : sy_O := sy_xc 48 ls fun l => sy_xv l fun _ l => sy_xi l fun a2 l => sy_xi l fun a3 l => sy_xv l fun _ l => sy_xn l (sy_xn st (k a2 a3 M))
theorem jwX5_readAny_59 {d : Nat} {k : Int32 → Int32 → sy_M → sy_O} (hk : ∀ (w1 : Value) (w4 : Value) (a2 : Int32) (a3 : Int32) (M : sy_M) (r : xe_R × sy_M), k a2 a3 M = some r → sy_E (d) qX5_readAny 59 [.ref 48, w1, .int a2, .int a3, w4] [] M r) : ∀ ls st M r, juX5_readAny_59 k ls st M = some r → sy_E d qX5_readAny 59 ls st M r := by
  intro ls st M r h
  obtain ⟨l, e, h1⟩ := sy_xc_ok h; subst e
  obtain ⟨w1, l, e, h2⟩ := sy_xv_ok h1; subst e
  obtain ⟨a2, l, e, h3⟩ := sy_xi_ok h2; subst e
  obtain ⟨a3, l, e, h4⟩ := sy_xi_ok h3; subst e
  obtain ⟨w4, l, e, h5⟩ := sy_xv_ok h4; subst e
  obtain ⟨e, h6⟩ := sy_xn_ok h5; subst e
  obtain ⟨e, h7⟩ := sy_xn_ok h6; subst e
  exact hk _ _ a2 a3 M r h7
def juX5_readAny_11 (k : Int32 → Int32 → Int32 → Int32 → sy_M → sy_O) (ls st : List Value) (M : sy_M) : sy_O := sy_xc 48 ls fun l => sy_xi l fun a1 l => sy_xi l fun a2 l => sy_xi l fun a3 l => sy_xi l fun a4 l => sy_xn l (sy_xn st (k a1 a2 a3 a4 M))
theorem jwX5_readAny_11 {d : Nat} {k : Int32 → Int32 → Int32 → Int32 → sy_M → sy_O} (hk : ∀ (a1 : Int32) (a2 : Int32) (a3 : Int32) (a4 : Int32) (M : sy_M) (r : xe_R × sy_M), k a1 a2 a3 a4 M = some r → sy_E (d) qX5_readAny 11 [.ref 48, .int a1, .int a2, .int a3, .int a4] [] M r) : ∀ ls st M r, juX5_readAny_11 k ls st M = some r → sy_E d qX5_readAny 11 ls st M r := by
  intro ls st M r h
  obtain ⟨l, e, h1⟩ := sy_xc_ok h; subst e
  obtain ⟨a1, l, e, h2⟩ := sy_xi_ok h1; subst e
  obtain ⟨a2, l, e, h3⟩ := sy_xi_ok h2; subst e
  obtain ⟨a3, l, e, h4⟩ := sy_xi_ok h3; subst e
  obtain ⟨a4, l, e, h5⟩ := sy_xi_ok h4; subst e
  obtain ⟨e, h6⟩ := sy_xn_ok h5; subst e
  obtain ⟨e, h7⟩ := sy_xn_ok h6; subst e
  exact hk a1 a2 a3 a4 M r h7
def jfX5_readAny_59 (rc : Int32 → sy_M → sy_O) (a2 : Int32) (a3 : Int32) (M : sy_M) : sy_O :=
  sy_bv (jfX4_land 35 a2 M) fun M1 =>
  sy_bb (sy_bo a3) <| sy_ri a3 M1
set_option maxRecDepth 100000 in
theorem jrX5_readAny_59 (rc : Int32 → sy_M → sy_O) (w1 : Value) (w4 : Value) (a2 : Int32) (a3 : Int32) (M : sy_M) : sy_run skX5 qX5_readAny [(59, .aload_n 0, 1, [true, false, true, true, false]), (60, .getfield 9, 3, []), (63, .iload_n 2, 1, []), (64, .invokevirtual 60, 3, []), (67, .iload_n 3, 1, []), (68, .ireturn, 1, [])] [(43, 1, jcX4_land)] [] 7 [] 59 [.ref 48, w1, .int a2, .int a3, w4] [] M = jfX5_readAny_59 rc a2 a3 M := rfl
theorem jtX5_readAny_59 {rc : Int32 → sy_M → sy_O} {d : Nat} (hd : 2 ≤ d) (hrc : sy_snd d 52 (chd_B rc)) : ∀ (w1 : Value) (w4 : Value) (a2 : Int32) (a3 : Int32) (M : sy_M) (r : xe_R × sy_M), jfX5_readAny_59 rc a2 a3 M = some r → sy_E (d + 2) qX5_readAny 59 [.ref 48, w1, .int a2, .int a3, w4] [] M r := by
  intro w1 w4 a2 a3 M r h
  exact sy_run_by (d := d + 1) ((jrX5_readAny_59 _ _ _ _ _ M).trans h) hkX5 (by decide +kernel) (sy_cs_cons (jeX4_land.deep (by omega)) sy_cs_nil) sy_us_nil
def jgX5_readAny_11 (rc : Int32 → sy_M → sy_O) (k11 : Int32 → Int32 → Int32 → Int32 → sy_M → sy_O) (a1 : Int32) (a2 : Int32) (a3 : Int32) (a4 : Int32) (M : sy_M) : sy_O :=
  if a4 < 400 then
    if a3 = 0 then
      jfX5_readAny_59 rc a2 a3 M
    else
      sy_bi (jfX10_takes 277 M) fun v2 M1 =>
      if v2 = 0 then
        jfX5_readAny_59 rc a2 a3 M1
      else
        sy_bi (jfX4_addJump 35 7 a2 M1) fun v4 M3 =>
        sy_bi (jfX5_readAll rc a1 M3) fun v6 M5 =>
        let v7 := a4 + 1
        k11 a1 v4 v6 v7 M5
  else
    jfX5_readAny_59 rc a2 a3 M
def jfX5_readAny_11 (rc : Int32 → sy_M → sy_O) : Nat → Int32 → Int32 → Int32 → Int32 → sy_M → sy_O
  | 0, _, _, _, _, _ => none
  | n + 1, a1, a2, a3, a4, M => jgX5_readAny_11 rc (jfX5_readAny_11 rc n) a1 a2 a3 a4 M
set_option maxRecDepth 100000 in
theorem jrX5_readAny_11 (rc : Int32 → sy_M → sy_O) (k11 : Int32 → Int32 → Int32 → Int32 → sy_M → sy_O) (a1 : Int32) (a2 : Int32) (a3 : Int32) (a4 : Int32) (M : sy_M) : sy_run skX5 qX5_readAny [(11, .iload 4, 2, []), (13, .sipush 400, 3, []), (16, .if_icmp .ge 43, 3, []), (19, .iload_n 3, 1, []), (20, .ifCond .eq 39, 3, []), (23, .aload_n 0, 1, []), (24, .getfield 15, 3, []), (27, .sipush 277, 3, []), (30, .invokevirtual 29, 3, []), (33, .ifCond .eq 26, 3, []), (36, .aload_n 0, 1, []), (37, .getfield 9, 3, []), (40, .bipush 7, 2, []), (42, .iload_n 2, 1, []), (43, .invokevirtual 57, 3, []), (46, .istore_n 2, 1, []), (47, .aload_n 0, 1, []), (48, .iload_n 1, 1, []), (49, .invokevirtual 54, 3, []), (52, .istore_n 3, 1, []), (53, .iinc 4 1, 3, []), (56, .goto (-45), 3, [])] [(86, 0, jcX10_takes), (42, 0, jcX4_addJump), (51, 0, jcX5_readAll rc)] [(59, juX5_readAny_59 (jfX5_readAny_59 rc)), (11, juX5_readAny_11 k11)] 23 [] 11 [.ref 48, .int a1, .int a2, .int a3, .int a4] [] M = jgX5_readAny_11 rc k11 a1 a2 a3 a4 M := rfl
theorem jtX5_readAny_11 {rc : Int32 → sy_M → sy_O} {d : Nat} (hd : 2 ≤ d) (hrc : sy_snd d 52 (chd_B rc)) : ∀ n : Nat, ∀ (a1 : Int32) (a2 : Int32) (a3 : Int32) (a4 : Int32) (M : sy_M) (r : xe_R × sy_M), jfX5_readAny_11 rc n a1 a2 a3 a4 M = some r → sy_E (d + 2) qX5_readAny 11 [.ref 48, .int a1, .int a2, .int a3, .int a4] [] M r := by
  intro n
  induction n with
  | zero => intro a1 a2 a3 a4 M r h; exact absurd (show (none : sy_O) = some r from h) (by simp)
  | succ n ih => intro a1 a2 a3 a4 M r h; exact sy_run_by (d := d + 1) ((jrX5_readAny_11 _ _ _ _ _ _ M).trans h) hkX5 (by decide +kernel) (sy_cs_cons (jeX10_takes.deep (by omega)) (sy_cs_cons (jeX4_addJump.deep (by omega)) (sy_cs_cons ((jeX5_readAll hd hrc).deep (by omega)) sy_cs_nil))) (sy_us_cons (jwX5_readAny_59 (jtX5_readAny_59 hd hrc)) (sy_us_cons (jwX5_readAny_11 ih) sy_us_nil))
def jfX5_readAny (rc : Int32 → sy_M → sy_O) (a1 : Int32) (M : sy_M) : sy_O :=
  sy_bi (jfX5_readAll rc a1 M) fun v2 M1 =>
  jfX5_readAny_11 rc sy_F a1 (-1) v2 0 M1
set_option maxRecDepth 100000 in
theorem jrX5_readAny (rc : Int32 → sy_M → sy_O) (a1 : Int32) (M : sy_M) : sy_run skX5 qX5_readAny [(0, .iconst (-1), 1, []), (1, .istore_n 2, 1, []), (2, .aload_n 0, 1, []), (3, .iload_n 1, 1, []), (4, .invokevirtual 54, 3, []), (7, .istore_n 3, 1, []), (8, .iconst 0, 1, []), (9, .istore 4, 2, [])] [(51, 0, jcX5_readAll rc)] [(11, juX5_readAny_11 (jfX5_readAny_11 rc sy_F))] 9 [] 0 [.ref 48, .int a1, xe_no, xe_no, xe_no] [] M = jfX5_readAny rc a1 M := rfl
theorem jtX5_readAny {rc : Int32 → sy_M → sy_O} {d : Nat} (hd : 2 ≤ d) (hrc : sy_snd d 52 (chd_B rc)) : ∀ (a1 : Int32) (M : sy_M) (r : xe_R × sy_M), jfX5_readAny rc a1 M = some r → sy_E (d + 2) qX5_readAny 0 [.ref 48, .int a1, xe_no, xe_no, xe_no] [] M r := by
  intro a1 M r h
  exact sy_run_by (d := d + 1) ((jrX5_readAny _ _ M).trans h) hkX5 (by decide +kernel) (sy_cs_cons ((jeX5_readAll hd hrc).deep (by omega)) sy_cs_nil) (sy_us_cons (jwX5_readAny_11 (jtX5_readAny_11 hd hrc sy_F)) sy_us_nil)
def jcX5_readAny (rc : Int32 → sy_M → sy_O) (as : List Value) (M : sy_M) (K : sy_O → sy_O) : sy_O := sy_xc 48 as fun l => sy_xi l fun a1 l => sy_xn l (K (jfX5_readAny rc a1 M))
theorem jeX5_readAny {rc : Int32 → sy_M → sy_O} {d : Nat} (hd : 2 ≤ d) (hrc : sy_snd d 52 (chd_B rc)) : sy_snd (d + 2) 50 (jcX5_readAny rc) := by
  intro as M K r h
  obtain ⟨l, e, h1⟩ := sy_xc_ok h; subst e
  obtain ⟨a1, l, e, h2⟩ := sy_xi_ok h1; subst e
  obtain ⟨e, h3⟩ := sy_xn_ok h2; subst e
  exact ⟨_, h3, fun r1 h0 => ⟨qX5_readAny, rfl, rfl, jtX5_readAny hd hrc _ M r1 h0⟩⟩
/-! X5_partOf StairMeter$LawLines partOf (I)I ['I'] -/
def jfX5_partOf (a0 : Int32) (M : sy_M) : sy_O :=
  if a0 = 260 then
    sy_ri 0 M
  else if a0 = 261 then
    sy_ri 1 M
  else if a0 = 262 then
    sy_ri (-1) M
  else if a0 = 263 then
    sy_ri (-1) M
  else if a0 = 264 then
    sy_ri 2 M
  else if a0 = 265 then
    sy_ri (-1) M
  else if a0 = 266 then
    sy_ri (-1) M
  else if a0 = 267 then
    sy_ri (-1) M
  else if a0 = 268 then
    sy_ri (-1) M
  else if a0 = 269 then
    sy_ri (-1) M
  else if a0 = 270 then
    sy_ri (-1) M
  else if a0 = 271 then
    sy_ri 6 M
  else if a0 = 272 then
    sy_ri (-1) M
  else if a0 = 273 then
    sy_ri (-1) M
  else if a0 = 274 then
    sy_ri (-1) M
  else if a0 = 275 then
    sy_ri (-1) M
  else if a0 = 276 then
    sy_ri (-1) M
  else if a0 = 277 then
    sy_ri (-1) M
  else if a0 = 278 then
    sy_ri (-1) M
  else if a0 = 279 then
    sy_ri (-1) M
  else if a0 = 280 then
    sy_ri (-1) M
  else if a0 = 281 then
    sy_ri (-1) M
  else if a0 = 282 then
    sy_ri 3 M
  else if a0 = 283 then
    sy_ri 4 M
  else if a0 = 284 then
    sy_ri 5 M
  else sy_ri (-1) M
set_option maxRecDepth 100000 in
theorem jrX5_partOf (a0 : Int32) (M : sy_M) : sy_run skX5 qX5_partOf [(0, .iload_n 0, 1, []), (1, .tableswitch 130 260 284 #[115, 117, 130, 130, 119, 130, 130, 130, 130, 130, 130, 127, 130, 130, 130, 130, 130, 130, 130, 130, 130, 130, 121, 123, 125], 115, []), (116, .iconst 0, 1, [false]), (117, .ireturn, 1, []), (118, .iconst 1, 1, [false]), (119, .ireturn, 1, []), (120, .iconst 2, 1, [false]), (121, .ireturn, 1, []), (122, .iconst 3, 1, [false]), (123, .ireturn, 1, []), (124, .iconst 4, 1, [false]), (125, .ireturn, 1, []), (126, .iconst 5, 1, [false]), (127, .ireturn, 1, []), (128, .bipush 6, 2, [false]), (130, .ireturn, 1, []), (131, .iconst (-1), 1, [false]), (132, .ireturn, 1, [])] [] [] 19 [] 0 [.int a0] [] M = jfX5_partOf a0 M := rfl
theorem jtX5_partOf : ∀ (a0 : Int32) (M : sy_M) (r : xe_R × sy_M), jfX5_partOf a0 M = some r → sy_E (1) qX5_partOf 0 [.int a0] [] M r := by
  intro a0 M r h
  exact sy_run_by (d := 0) ((jrX5_partOf _ M).trans h) hkX5 (by decide +kernel) sy_cs_nil sy_us_nil
def jcX5_partOf (as : List Value) (M : sy_M) (K : sy_O → sy_O) : sy_O := sy_xi as fun a0 l => sy_xn l (K (jfX5_partOf a0 M))
theorem jeX5_partOf : sy_snd (1) 55 (jcX5_partOf) := by
  intro as M K r h
  obtain ⟨a0, l, e, h1⟩ := sy_xi_ok h; subst e
  obtain ⟨e, h2⟩ := sy_xn_ok h1; subst e
  exact ⟨_, h2, fun r1 h0 => ⟨qX5_partOf, rfl, rfl, jtX5_partOf _ M r1 h0⟩⟩
/-! X5_readSum StairMeter$LawLines readSum ()Z [('R', 48)] -/
def juX5_readSum_113 (k : sy_M → sy_O) (ls st : List Value) (M : sy_M) : sy_O := sy_xc 48 ls fun l => sy_xv l fun _ l => sy_xv l fun _ l => sy_xv l fun _ l => sy_xv l fun _ l => sy_xn l (sy_xn st (k M))
theorem jwX5_readSum_113 {d : Nat} {k : sy_M → sy_O} (hk : ∀ (w1 : Value) (w2 : Value) (w3 : Value) (w4 : Value) (M : sy_M) (r : xe_R × sy_M), k M = some r → sy_E (d) qX5_readSum 113 [.ref 48, w1, w2, w3, w4] [] M r) : ∀ ls st M r, juX5_readSum_113 k ls st M = some r → sy_E d qX5_readSum 113 ls st M r := by
  intro ls st M r h
  obtain ⟨l, e, h1⟩ := sy_xc_ok h; subst e
  obtain ⟨w1, l, e, h2⟩ := sy_xv_ok h1; subst e
  obtain ⟨w2, l, e, h3⟩ := sy_xv_ok h2; subst e
  obtain ⟨w3, l, e, h4⟩ := sy_xv_ok h3; subst e
  obtain ⟨w4, l, e, h5⟩ := sy_xv_ok h4; subst e
  obtain ⟨e, h6⟩ := sy_xn_ok h5; subst e
  obtain ⟨e, h7⟩ := sy_xn_ok h6; subst e
  exact hk _ _ _ _ M r h7
def juX5_readSum_106 (k : Int32 → Int32 → sy_M → sy_O) (ls st : List Value) (M : sy_M) : sy_O := sy_xc 48 ls fun l => sy_xv l fun _ l => sy_xi l fun a2 l => sy_xv l fun _ l => sy_xv l fun _ l => sy_xn l (sy_xi st fun s0 l => sy_xn l (k a2 s0 M))
theorem jwX5_readSum_106 {d : Nat} {k : Int32 → Int32 → sy_M → sy_O} (hk : ∀ (w1 : Value) (w3 : Value) (w4 : Value) (a2 : Int32) (s0 : Int32) (M : sy_M) (r : xe_R × sy_M), k a2 s0 M = some r → sy_E (d) qX5_readSum 106 [.ref 48, w1, .int a2, w3, w4] [.int s0] M r) : ∀ ls st M r, juX5_readSum_106 k ls st M = some r → sy_E d qX5_readSum 106 ls st M r := by
  intro ls st M r h
  obtain ⟨l, e, h1⟩ := sy_xc_ok h; subst e
  obtain ⟨w1, l, e, h2⟩ := sy_xv_ok h1; subst e
  obtain ⟨a2, l, e, h3⟩ := sy_xi_ok h2; subst e
  obtain ⟨w3, l, e, h4⟩ := sy_xv_ok h3; subst e
  obtain ⟨w4, l, e, h5⟩ := sy_xv_ok h4; subst e
  obtain ⟨e, h6⟩ := sy_xn_ok h5; subst e
  obtain ⟨s0, l, e, h7⟩ := sy_xi_ok h6; subst e
  obtain ⟨e, h8⟩ := sy_xn_ok h7; subst e
  exact hk _ _ _ a2 s0 M r h8
def juX5_readSum_105 (k : Int32 → sy_M → sy_O) (ls st : List Value) (M : sy_M) : sy_O := sy_xc 48 ls fun l => sy_xv l fun _ l => sy_xi l fun a2 l => sy_xv l fun _ l => sy_xv l fun _ l => sy_xn l (sy_xn st (k a2 M))
theorem jwX5_readSum_105 {d : Nat} {k : Int32 → sy_M → sy_O} (hk : ∀ (w1 : Value) (w3 : Value) (w4 : Value) (a2 : Int32) (M : sy_M) (r : xe_R × sy_M), k a2 M = some r → sy_E (d) qX5_readSum 105 [.ref 48, w1, .int a2, w3, w4] [] M r) : ∀ ls st M r, juX5_readSum_105 k ls st M = some r → sy_E d qX5_readSum 105 ls st M r := by
  intro ls st M r h
  obtain ⟨l, e, h1⟩ := sy_xc_ok h; subst e
  obtain ⟨w1, l, e, h2⟩ := sy_xv_ok h1; subst e
  obtain ⟨a2, l, e, h3⟩ := sy_xi_ok h2; subst e
  obtain ⟨w3, l, e, h4⟩ := sy_xv_ok h3; subst e
  obtain ⟨w4, l, e, h5⟩ := sy_xv_ok h4; subst e
  obtain ⟨e, h6⟩ := sy_xn_ok h5; subst e
  obtain ⟨e, h7⟩ := sy_xn_ok h6; subst e
  exact hk _ _ _ a2 M r h7
def juX5_readSum_78 (k : Int32 → sy_M → sy_O) (ls st : List Value) (M : sy_M) : sy_O := sy_xc 48 ls fun l => sy_xv l fun _ l => sy_xi l fun a2 l => sy_xv l fun _ l => sy_xv l fun _ l => sy_xn l (sy_xn st (k a2 M))
theorem jwX5_readSum_78 {d : Nat} {k : Int32 → sy_M → sy_O} (hk : ∀ (w1 : Value) (w3 : Value) (w4 : Value) (a2 : Int32) (M : sy_M) (r : xe_R × sy_M), k a2 M = some r → sy_E (d) qX5_readSum 78 [.ref 48, w1, .int a2, w3, w4] [] M r) : ∀ ls st M r, juX5_readSum_78 k ls st M = some r → sy_E d qX5_readSum 78 ls st M r := by
  intro ls st M r h
  obtain ⟨l, e, h1⟩ := sy_xc_ok h; subst e
  obtain ⟨w1, l, e, h2⟩ := sy_xv_ok h1; subst e
  obtain ⟨a2, l, e, h3⟩ := sy_xi_ok h2; subst e
  obtain ⟨w3, l, e, h4⟩ := sy_xv_ok h3; subst e
  obtain ⟨w4, l, e, h5⟩ := sy_xv_ok h4; subst e
  obtain ⟨e, h6⟩ := sy_xn_ok h5; subst e
  obtain ⟨e, h7⟩ := sy_xn_ok h6; subst e
  exact hk _ _ _ a2 M r h7
def juX5_readSum_59 (k : Int32 → sy_M → sy_O) (ls st : List Value) (M : sy_M) : sy_O := sy_xc 48 ls fun l => sy_xv l fun _ l => sy_xi l fun a2 l => sy_xv l fun _ l => sy_xv l fun _ l => sy_xn l (sy_xn st (k a2 M))
theorem jwX5_readSum_59 {d : Nat} {k : Int32 → sy_M → sy_O} (hk : ∀ (w1 : Value) (w3 : Value) (w4 : Value) (a2 : Int32) (M : sy_M) (r : xe_R × sy_M), k a2 M = some r → sy_E (d) qX5_readSum 59 [.ref 48, w1, .int a2, w3, w4] [] M r) : ∀ ls st M r, juX5_readSum_59 k ls st M = some r → sy_E d qX5_readSum 59 ls st M r := by
  intro ls st M r h
  obtain ⟨l, e, h1⟩ := sy_xc_ok h; subst e
  obtain ⟨w1, l, e, h2⟩ := sy_xv_ok h1; subst e
  obtain ⟨a2, l, e, h3⟩ := sy_xi_ok h2; subst e
  obtain ⟨w3, l, e, h4⟩ := sy_xv_ok h3; subst e
  obtain ⟨w4, l, e, h5⟩ := sy_xv_ok h4; subst e
  obtain ⟨e, h6⟩ := sy_xn_ok h5; subst e
  obtain ⟨e, h7⟩ := sy_xn_ok h6; subst e
  exact hk _ _ _ a2 M r h7
def juX5_readSum_4 (k : Int32 → Int32 → sy_M → sy_O) (ls st : List Value) (M : sy_M) : sy_O := sy_xc 48 ls fun l => sy_xi l fun a1 l => sy_xi l fun a2 l => sy_xv l fun _ l => sy_xv l fun _ l => sy_xn l (sy_xn st (k a1 a2 M))
theorem jwX5_readSum_4 {d : Nat} {k : Int32 → Int32 → sy_M → sy_O} (hk : ∀ (w3 : Value) (w4 : Value) (a1 : Int32) (a2 : Int32) (M : sy_M) (r : xe_R × sy_M), k a1 a2 M = some r → sy_E (d) qX5_readSum 4 [.ref 48, .int a1, .int a2, w3, w4] [] M r) : ∀ ls st M r, juX5_readSum_4 k ls st M = some r → sy_E d qX5_readSum 4 ls st M r := by
  intro ls st M r h
  obtain ⟨l, e, h1⟩ := sy_xc_ok h; subst e
  obtain ⟨a1, l, e, h2⟩ := sy_xi_ok h1; subst e
  obtain ⟨a2, l, e, h3⟩ := sy_xi_ok h2; subst e
  obtain ⟨w3, l, e, h4⟩ := sy_xv_ok h3; subst e
  obtain ⟨w4, l, e, h5⟩ := sy_xv_ok h4; subst e
  obtain ⟨e, h6⟩ := sy_xn_ok h5; subst e
  obtain ⟨e, h7⟩ := sy_xn_ok h6; subst e
  exact hk _ _ a1 a2 M r h7
def jfX5_readSum_113 (M : sy_M) : sy_O :=
  if (M 1 7) = (-1) then
    sy_ri 1 M
  else
    sy_ri 0 M
set_option maxRecDepth 100000 in
theorem jrX5_readSum_113 (w1 : Value) (w2 : Value) (w3 : Value) (w4 : Value) (M : sy_M) : sy_run skX5 qX5_readSum [(113, .aload_n 0, 1, [true, false, false, false, false]), (114, .getfield 15, 3, []), (117, .getfield 80, 3, []), (120, .iconst (-1), 1, []), (121, .if_icmp .ne 7, 3, []), (124, .iconst 1, 1, []), (125, .goto 4, 3, []), (128, .iconst 0, 1, [false, false, false, false, false]), (129, .ireturn, 1, [false, false, false, false, false])] [] [] 10 [] 113 [.ref 48, w1, w2, w3, w4] [] M = jfX5_readSum_113 M := rfl
theorem jtX5_readSum_113 : ∀ (w1 : Value) (w2 : Value) (w3 : Value) (w4 : Value) (M : sy_M) (r : xe_R × sy_M), jfX5_readSum_113 M = some r → sy_E (2) qX5_readSum 113 [.ref 48, w1, w2, w3, w4] [] M r := by
  intro w1 w2 w3 w4 M r h
  exact sy_run_by (d := 1) ((jrX5_readSum_113 _ _ _ _ M).trans h) hkX5 (by decide +kernel) sy_cs_nil sy_us_nil
def jfX5_readSum_106 (k4 : Int32 → Int32 → sy_M → sy_O) (a2 : Int32) (s0 : Int32) (M : sy_M) : sy_O :=
  let v1 := a2 + 1
  k4 s0 v1 M
set_option maxRecDepth 100000 in
theorem jrX5_readSum_106 (k4 : Int32 → Int32 → sy_M → sy_O) (w1 : Value) (w3 : Value) (w4 : Value) (a2 : Int32) (s0 : Int32) (M : sy_M) : sy_run skX5 qX5_readSum [(106, .istore_n 1, 1, [true, false, true, false, false]), (107, .iinc 2 1, 3, []), (110, .goto (-106), 3, [])] [] [(4, juX5_readSum_4 k4)] 4 [] 106 [.ref 48, w1, .int a2, w3, w4] [.int s0] M = jfX5_readSum_106 k4 a2 s0 M := rfl
theorem jtX5_readSum_106 {k4 : Int32 → Int32 → sy_M → sy_O} (hk4 : ∀ (w3 : Value) (w4 : Value) (a1 : Int32) (a2 : Int32) (M : sy_M) (r : xe_R × sy_M), k4 a1 a2 M = some r → sy_E (2) qX5_readSum 4 [.ref 48, .int a1, .int a2, w3, w4] [] M r) : ∀ (w1 : Value) (w3 : Value) (w4 : Value) (a2 : Int32) (s0 : Int32) (M : sy_M) (r : xe_R × sy_M), jfX5_readSum_106 k4 a2 s0 M = some r → sy_E (2) qX5_readSum 106 [.ref 48, w1, .int a2, w3, w4] [.int s0] M r := by
  intro w1 w3 w4 a2 s0 M r h
  exact sy_run_by (d := 1) ((jrX5_readSum_106 _ _ _ _ _ _ M).trans h) hkX5 (by decide +kernel) sy_cs_nil (sy_us_cons (jwX5_readSum_4 hk4) sy_us_nil)
def jfX5_readSum_105 (k4 : Int32 → Int32 → sy_M → sy_O) (a2 : Int32) (M : sy_M) : sy_O :=
  jfX5_readSum_106 k4 a2 0 M
set_option maxRecDepth 100000 in
theorem jrX5_readSum_105 (k4 : Int32 → Int32 → sy_M → sy_O) (w1 : Value) (w3 : Value) (w4 : Value) (a2 : Int32) (M : sy_M) : sy_run skX5 qX5_readSum [(105, .iconst 0, 1, [true, false, true, false, false])] [] [(106, juX5_readSum_106 (jfX5_readSum_106 k4))] 2 [] 105 [.ref 48, w1, .int a2, w3, w4] [] M = jfX5_readSum_105 k4 a2 M := rfl
theorem jtX5_readSum_105 {k4 : Int32 → Int32 → sy_M → sy_O} (hk4 : ∀ (w3 : Value) (w4 : Value) (a1 : Int32) (a2 : Int32) (M : sy_M) (r : xe_R × sy_M), k4 a1 a2 M = some r → sy_E (2) qX5_readSum 4 [.ref 48, .int a1, .int a2, w3, w4] [] M r) : ∀ (w1 : Value) (w3 : Value) (w4 : Value) (a2 : Int32) (M : sy_M) (r : xe_R × sy_M), jfX5_readSum_105 k4 a2 M = some r → sy_E (2) qX5_readSum 105 [.ref 48, w1, .int a2, w3, w4] [] M r := by
  intro w1 w3 w4 a2 M r h
  exact sy_run_by (d := 1) ((jrX5_readSum_105 _ _ _ _ _ M).trans h) hkX5 (by decide +kernel) sy_cs_nil (sy_us_cons (jwX5_readSum_106 (jtX5_readSum_106 hk4)) sy_us_nil)
def jfX5_readSum_78 (k4 : Int32 → Int32 → sy_M → sy_O) (a2 : Int32) (M : sy_M) : sy_O :=
  if (M 1 7) = (-1) then
    sy_bi (jfX10_takes 43 M) fun v2 M1 =>
    if v2 = 0 then
      jfX5_readSum_105 k4 a2 M1
    else
      jfX5_readSum_106 k4 a2 1 M1
  else
    jfX5_readSum_105 k4 a2 M
set_option maxRecDepth 100000 in
theorem jrX5_readSum_78 (k4 : Int32 → Int32 → sy_M → sy_O) (w1 : Value) (w3 : Value) (w4 : Value) (a2 : Int32) (M : sy_M) : sy_run skX5 qX5_readSum [(78, .aload_n 0, 1, [true, false, true, false, false]), (79, .getfield 15, 3, []), (82, .getfield 80, 3, []), (85, .iconst (-1), 1, []), (86, .if_icmp .ne 19, 3, []), (89, .aload_n 0, 1, []), (90, .getfield 15, 3, []), (93, .bipush 43, 2, []), (95, .invokevirtual 29, 3, []), (98, .ifCond .eq 7, 3, []), (101, .iconst 1, 1, []), (102, .goto 4, 3, [])] [(86, 0, jcX10_takes)] [(105, juX5_readSum_105 (jfX5_readSum_105 k4)), (106, juX5_readSum_106 (jfX5_readSum_106 k4))] 13 [] 78 [.ref 48, w1, .int a2, w3, w4] [] M = jfX5_readSum_78 k4 a2 M := rfl
theorem jtX5_readSum_78 {k4 : Int32 → Int32 → sy_M → sy_O} (hk4 : ∀ (w3 : Value) (w4 : Value) (a1 : Int32) (a2 : Int32) (M : sy_M) (r : xe_R × sy_M), k4 a1 a2 M = some r → sy_E (2) qX5_readSum 4 [.ref 48, .int a1, .int a2, w3, w4] [] M r) : ∀ (w1 : Value) (w3 : Value) (w4 : Value) (a2 : Int32) (M : sy_M) (r : xe_R × sy_M), jfX5_readSum_78 k4 a2 M = some r → sy_E (2) qX5_readSum 78 [.ref 48, w1, .int a2, w3, w4] [] M r := by
  intro w1 w3 w4 a2 M r h
  exact sy_run_by (d := 1) ((jrX5_readSum_78 _ _ _ _ _ M).trans h) hkX5 (by decide +kernel) (sy_cs_cons (jeX10_takes.deep (by decide)) sy_cs_nil) (sy_us_cons (jwX5_readSum_105 (jtX5_readSum_105 hk4)) (sy_us_cons (jwX5_readSum_106 (jtX5_readSum_106 hk4)) sy_us_nil))
def jfX5_readSum_59 (k4 : Int32 → Int32 → sy_M → sy_O) (a2 : Int32) (M : sy_M) : sy_O :=
  sy_bi (jfX10_takesNumber 0 999 M) fun v2 M1 =>
  sy_bv (jfX4_add 35 0 v2 M1) fun M3 =>
  jfX5_readSum_78 k4 a2 M3
set_option maxRecDepth 100000 in
theorem jrX5_readSum_59 (k4 : Int32 → Int32 → sy_M → sy_O) (w1 : Value) (w3 : Value) (w4 : Value) (a2 : Int32) (M : sy_M) : sy_run skX5 qX5_readSum [(59, .aload_n 0, 1, [true, false, true, false, false]), (60, .getfield 9, 3, []), (63, .iconst 0, 1, []), (64, .aload_n 0, 1, []), (65, .getfield 15, 3, []), (68, .iconst 0, 1, []), (69, .sipush 999, 3, []), (72, .invokevirtual 39, 3, []), (75, .invokevirtual 67, 3, [])] [(87, 0, jcX10_takesNumber), (41, 1, jcX4_add)] [(78, juX5_readSum_78 (jfX5_readSum_78 k4))] 10 [] 59 [.ref 48, w1, .int a2, w3, w4] [] M = jfX5_readSum_59 k4 a2 M := rfl
theorem jtX5_readSum_59 {k4 : Int32 → Int32 → sy_M → sy_O} (hk4 : ∀ (w3 : Value) (w4 : Value) (a1 : Int32) (a2 : Int32) (M : sy_M) (r : xe_R × sy_M), k4 a1 a2 M = some r → sy_E (2) qX5_readSum 4 [.ref 48, .int a1, .int a2, w3, w4] [] M r) : ∀ (w1 : Value) (w3 : Value) (w4 : Value) (a2 : Int32) (M : sy_M) (r : xe_R × sy_M), jfX5_readSum_59 k4 a2 M = some r → sy_E (2) qX5_readSum 59 [.ref 48, w1, .int a2, w3, w4] [] M r := by
  intro w1 w3 w4 a2 M r h
  exact sy_run_by (d := 1) ((jrX5_readSum_59 _ _ _ _ _ M).trans h) hkX5 (by decide +kernel) (sy_cs_cons (jeX10_takesNumber.deep (by decide)) (sy_cs_cons (jeX4_add.deep (by decide)) sy_cs_nil)) (sy_us_cons (jwX5_readSum_78 (jtX5_readSum_78 hk4)) sy_us_nil)
def jgX5_readSum_4 (k4 : Int32 → Int32 → sy_M → sy_O) (a1 : Int32) (a2 : Int32) (M : sy_M) : sy_O :=
  if a2 < 400 then
    if a1 = 0 then
      jfX5_readSum_113 M
    else
      sy_bi (jfX10_thing M) fun v2 M1 =>
      sy_bi (jfX5_partOf v2 M1) fun v4 M3 =>
      if v4 = (-1) then
        jfX5_readSum_59 k4 a2 M3
      else
        sy_bi (jfX10_takes v2 M3) fun v6 M5 =>
        if v6 = 0 then
          jfX5_readSum_59 k4 a2 M5
        else
          sy_bv (jfX4_add 35 1 v4 M5) fun M7 =>
          jfX5_readSum_78 k4 a2 M7
  else
    jfX5_readSum_113 M
def jfX5_readSum_4 : Nat → Int32 → Int32 → sy_M → sy_O
  | 0, _, _, _ => none
  | n + 1, a1, a2, M => jgX5_readSum_4 (jfX5_readSum_4 n) a1 a2 M
set_option maxRecDepth 100000 in
theorem jrX5_readSum_4 (k4 : Int32 → Int32 → sy_M → sy_O) (w3 : Value) (w4 : Value) (a1 : Int32) (a2 : Int32) (M : sy_M) : sy_run skX5 qX5_readSum [(4, .iload_n 2, 1, [true, true, true, false, false]), (5, .sipush 400, 3, []), (8, .if_icmp .ge 105, 3, []), (11, .iload_n 1, 1, []), (12, .ifCond .eq 101, 3, []), (15, .aload_n 0, 1, []), (16, .getfield 15, 3, []), (19, .invokevirtual 19, 3, []), (22, .istore_n 3, 1, []), (23, .iload_n 3, 1, []), (24, .invokestatic 77, 3, []), (27, .istore 4, 2, []), (29, .iload 4, 2, []), (31, .iconst (-1), 1, []), (32, .if_icmp .eq 27, 3, []), (35, .aload_n 0, 1, []), (36, .getfield 15, 3, []), (39, .iload_n 3, 1, []), (40, .invokevirtual 29, 3, []), (43, .ifCond .eq 16, 3, []), (46, .aload_n 0, 1, []), (47, .getfield 9, 3, []), (50, .iconst 1, 1, []), (51, .iload 4, 2, []), (53, .invokevirtual 67, 3, []), (56, .goto 22, 3, [])] [(85, 0, jcX10_thing), (55, 0, jcX5_partOf), (86, 0, jcX10_takes), (41, 1, jcX4_add)] [(113, juX5_readSum_113 (jfX5_readSum_113)), (59, juX5_readSum_59 (jfX5_readSum_59 k4)), (78, juX5_readSum_78 (jfX5_readSum_78 k4))] 27 [] 4 [.ref 48, .int a1, .int a2, w3, w4] [] M = jgX5_readSum_4 k4 a1 a2 M := rfl
theorem jtX5_readSum_4 : ∀ n : Nat, ∀ (w3 : Value) (w4 : Value) (a1 : Int32) (a2 : Int32) (M : sy_M) (r : xe_R × sy_M), jfX5_readSum_4 n a1 a2 M = some r → sy_E (2) qX5_readSum 4 [.ref 48, .int a1, .int a2, w3, w4] [] M r := by
  intro n
  induction n with
  | zero => intro w3 w4 a1 a2 M r h; exact absurd (show (none : sy_O) = some r from h) (by simp)
  | succ n ih => intro w3 w4 a1 a2 M r h; exact sy_run_by (d := 1) ((jrX5_readSum_4 _ _ _ _ _ M).trans h) hkX5 (by decide +kernel) (sy_cs_cons (jeX10_thing.deep (by decide)) (sy_cs_cons (jeX5_partOf.deep (by decide)) (sy_cs_cons (jeX10_takes.deep (by decide)) (sy_cs_cons (jeX4_add.deep (by decide)) sy_cs_nil)))) (sy_us_cons (jwX5_readSum_113 (jtX5_readSum_113)) (sy_us_cons (jwX5_readSum_59 (jtX5_readSum_59 ih)) (sy_us_cons (jwX5_readSum_78 (jtX5_readSum_78 ih)) sy_us_nil)))
def jfX5_readSum (M : sy_M) : sy_O :=
  jfX5_readSum_4 sy_F 1 0 M
set_option maxRecDepth 100000 in
theorem jrX5_readSum (M : sy_M) : sy_run skX5 qX5_readSum [(0, .iconst 1, 1, []), (1, .istore_n 1, 1, []), (2, .iconst 0, 1, []), (3, .istore_n 2, 1, [])] [] [(4, juX5_readSum_4 (jfX5_readSum_4 sy_F))] 5 [] 0 [.ref 48, xe_no, xe_no, xe_no, xe_no] [] M = jfX5_readSum M := rfl
theorem jtX5_readSum : ∀ (M : sy_M) (r : xe_R × sy_M), jfX5_readSum M = some r → sy_E (2) qX5_readSum 0 [.ref 48, xe_no, xe_no, xe_no, xe_no] [] M r := by
  intro  M r h
  exact sy_run_by (d := 1) ((jrX5_readSum M).trans h) hkX5 (by decide +kernel) sy_cs_nil (sy_us_cons (jwX5_readSum_4 (jtX5_readSum_4 sy_F)) sy_us_nil)
def jcX5_readSum (as : List Value) (M : sy_M) (K : sy_O → sy_O) : sy_O := sy_xc 48 as fun l => sy_xn l (K (jfX5_readSum M))
theorem jeX5_readSum : sy_snd (2) 54 (jcX5_readSum) := by
  intro as M K r h
  obtain ⟨l, e, h1⟩ := sy_xc_ok h; subst e
  obtain ⟨e, h2⟩ := sy_xn_ok h1; subst e
  exact ⟨_, h2, fun r1 h0 => ⟨qX5_readSum, rfl, rfl, jtX5_readSum  M r1 h0⟩⟩
/-! X5_readOrder StairMeter$LawLines readOrder ()Z [('R', 48)] -/
def juX5_readOrder_53 (k : sy_M → sy_O) (ls st : List Value) (M : sy_M) : sy_O := sy_xv ls fun _ l => sy_xv l fun _ l => sy_xn l (sy_xn st (k M))
theorem jwX5_readOrder_53 {d : Nat} {k : sy_M → sy_O} (hk : ∀ (w0 : Value) (w1 : Value) (M : sy_M) (r : xe_R × sy_M), k M = some r → sy_E (d) qX5_readOrder 53 [w0, w1] [] M r) : ∀ ls st M r, juX5_readOrder_53 k ls st M = some r → sy_E d qX5_readOrder 53 ls st M r := by
  intro ls st M r h
  obtain ⟨w0, l, e, h1⟩ := sy_xv_ok h; subst e
  obtain ⟨w1, l, e, h2⟩ := sy_xv_ok h1; subst e
  obtain ⟨e, h3⟩ := sy_xn_ok h2; subst e
  obtain ⟨e, h4⟩ := sy_xn_ok h3; subst e
  exact hk _ _ M r h4
def juX5_readOrder_23 (k : Int32 → Int32 → sy_M → sy_O) (ls st : List Value) (M : sy_M) : sy_O := sy_xc 48 ls fun l => sy_xi l fun a1 l => sy_xn l (sy_xi st fun s0 l => sy_xc 35 l fun l => sy_xn l (k a1 s0 M))
theorem jwX5_readOrder_23 {d : Nat} {k : Int32 → Int32 → sy_M → sy_O} (hk : ∀ (a1 : Int32) (s0 : Int32) (M : sy_M) (r : xe_R × sy_M), k a1 s0 M = some r → sy_E (d) qX5_readOrder 23 [.ref 48, .int a1] [.int s0, .ref 35] M r) : ∀ ls st M r, juX5_readOrder_23 k ls st M = some r → sy_E d qX5_readOrder 23 ls st M r := by
  intro ls st M r h
  obtain ⟨l, e, h1⟩ := sy_xc_ok h; subst e
  obtain ⟨a1, l, e, h2⟩ := sy_xi_ok h1; subst e
  obtain ⟨e, h3⟩ := sy_xn_ok h2; subst e
  obtain ⟨s0, l, e, h4⟩ := sy_xi_ok h3; subst e
  obtain ⟨l, e, h5⟩ := sy_xc_ok h4; subst e
  obtain ⟨e, h6⟩ := sy_xn_ok h5; subst e
  exact hk a1 s0 M r h6
def jfX5_readOrder_53 (M : sy_M) : sy_O :=
  sy_ri 1 M
set_option maxRecDepth 100000 in
theorem jrX5_readOrder_53 (w0 : Value) (w1 : Value) (M : sy_M) : sy_run skX5 qX5_readOrder [(53, .iconst 1, 1, [false, false]), (54, .goto 4, 3, []), (58, .ireturn, 1, [false, false])] [] [] 4 [] 53 [w0, w1] [] M = jfX5_readOrder_53 M := rfl
theorem jtX5_readOrder_53 : ∀ (w0 : Value) (w1 : Value) (M : sy_M) (r : xe_R × sy_M), jfX5_readOrder_53 M = some r → sy_E (2) qX5_readOrder 53 [w0, w1] [] M r := by
  intro w0 w1 M r h
  exact sy_run_by (d := 1) ((jrX5_readOrder_53 _ _ M).trans h) hkX5 (by decide +kernel) sy_cs_nil sy_us_nil
def jfX5_readOrder_23 (a1 : Int32) (s0 : Int32) (M : sy_M) : sy_O :=
  sy_bv (jfX4_add 35 s0 0 M) fun M1 =>
  if a1 = 0 then
    sy_bi (jfX10_takes 62 M1) fun v3 M2 =>
    if v3 = 0 then
      sy_bi (jfX10_fails M2) fun v5 M4 =>
      if v5 = 0 then
        sy_ri 0 M4
      else
        jfX5_readOrder_53 M4
    else
      jfX5_readOrder_53 M2
  else
    jfX5_readOrder_53 M1
set_option maxRecDepth 100000 in
theorem jrX5_readOrder_23 (a1 : Int32) (s0 : Int32) (M : sy_M) : sy_run skX5 qX5_readOrder [(23, .iconst 0, 1, []), (24, .invokevirtual 67, 3, []), (27, .iload_n 1, 1, []), (28, .ifCond .ne 25, 3, []), (31, .aload_n 0, 1, []), (32, .getfield 15, 3, []), (35, .bipush 62, 2, []), (37, .invokevirtual 29, 3, []), (40, .ifCond .ne 13, 3, []), (43, .aload_n 0, 1, []), (44, .getfield 15, 3, []), (47, .invokevirtual 33, 3, []), (50, .ifCond .eq 7, 3, []), (57, .iconst 0, 1, [false, false]), (58, .ireturn, 1, [false, false])] [(41, 1, jcX4_add), (86, 0, jcX10_takes), (88, 0, jcX10_fails)] [(53, juX5_readOrder_53 (jfX5_readOrder_53))] 16 [] 23 [.ref 48, .int a1] [.int s0, .ref 35] M = jfX5_readOrder_23 a1 s0 M := rfl
theorem jtX5_readOrder_23 : ∀ (a1 : Int32) (s0 : Int32) (M : sy_M) (r : xe_R × sy_M), jfX5_readOrder_23 a1 s0 M = some r → sy_E (2) qX5_readOrder 23 [.ref 48, .int a1] [.int s0, .ref 35] M r := by
  intro a1 s0 M r h
  exact sy_run_by (d := 1) ((jrX5_readOrder_23 _ _ M).trans h) hkX5 (by decide +kernel) (sy_cs_cons (jeX4_add.deep (by decide)) (sy_cs_cons (jeX10_takes.deep (by decide)) (sy_cs_cons (jeX10_fails.deep (by decide)) sy_cs_nil))) (sy_us_cons (jwX5_readOrder_53 (jtX5_readOrder_53)) sy_us_nil)
def jfX5_readOrder (M : sy_M) : sy_O :=
  sy_bi (jfX10_takes 60 M) fun v2 M1 =>
  if v2 = 0 then
    jfX5_readOrder_23 v2 3 M1
  else
    jfX5_readOrder_23 v2 2 M1
set_option maxRecDepth 100000 in
theorem jrX5_readOrder (M : sy_M) : sy_run skX5 qX5_readOrder [(0, .aload_n 0, 1, []), (1, .getfield 15, 3, []), (4, .bipush 60, 2, []), (6, .invokevirtual 29, 3, []), (9, .istore_n 1, 1, []), (10, .aload_n 0, 1, []), (11, .getfield 9, 3, []), (14, .iload_n 1, 1, []), (15, .ifCond .eq 7, 3, []), (18, .iconst 2, 1, []), (19, .goto 4, 3, []), (22, .iconst 3, 1, [])] [(86, 0, jcX10_takes)] [(23, juX5_readOrder_23 (jfX5_readOrder_23))] 13 [] 0 [.ref 48, xe_no] [] M = jfX5_readOrder M := rfl
theorem jtX5_readOrder : ∀ (M : sy_M) (r : xe_R × sy_M), jfX5_readOrder M = some r → sy_E (2) qX5_readOrder 0 [.ref 48, xe_no] [] M r := by
  intro  M r h
  exact sy_run_by (d := 1) ((jrX5_readOrder M).trans h) hkX5 (by decide +kernel) (sy_cs_cons (jeX10_takes.deep (by decide)) sy_cs_nil) (sy_us_cons (jwX5_readOrder_23 (jtX5_readOrder_23)) sy_us_nil)
def jcX5_readOrder (as : List Value) (M : sy_M) (K : sy_O → sy_O) : sy_O := sy_xc 48 as fun l => sy_xn l (K (jfX5_readOrder M))
theorem jeX5_readOrder : sy_snd (2) 53 (jcX5_readOrder) := by
  intro as M K r h
  obtain ⟨l, e, h1⟩ := sy_xc_ok h; subst e
  obtain ⟨e, h2⟩ := sy_xn_ok h1; subst e
  exact ⟨_, h2, fun r1 h0 => ⟨qX5_readOrder, rfl, rfl, jtX5_readOrder  M r1 h0⟩⟩
/-! X5_readAtom StairMeter$LawLines readAtom (I)Z [('R', 48), 'I'] -/
def juX5_readAtom_194 (k : Int32 → sy_M → sy_O) (ls st : List Value) (M : sy_M) : sy_O := sy_xc 48 ls fun l => sy_xv l fun _ l => sy_xv l fun _ l => sy_xv l fun _ l => sy_xn l (sy_xi st fun s0 l => sy_xn l (k s0 M))
theorem jwX5_readAtom_194 {d : Nat} {k : Int32 → sy_M → sy_O} (hk : ∀ (w1 : Value) (w2 : Value) (w3 : Value) (s0 : Int32) (M : sy_M) (r : xe_R × sy_M), k s0 M = some r → sy_E (d) qX5_readAtom 194 [.ref 48, w1, w2, w3] [.int s0] M r) : ∀ ls st M r, juX5_readAtom_194 k ls st M = some r → sy_E d qX5_readAtom 194 ls st M r := by
  intro ls st M r h
  obtain ⟨l, e, h1⟩ := sy_xc_ok h; subst e
  obtain ⟨w1, l, e, h2⟩ := sy_xv_ok h1; subst e
  obtain ⟨w2, l, e, h3⟩ := sy_xv_ok h2; subst e
  obtain ⟨w3, l, e, h4⟩ := sy_xv_ok h3; subst e
  obtain ⟨e, h5⟩ := sy_xn_ok h4; subst e
  obtain ⟨s0, l, e, h6⟩ := sy_xi_ok h5; subst e
  obtain ⟨e, h7⟩ := sy_xn_ok h6; subst e
  exact hk _ _ _ s0 M r h7
def juX5_readAtom_193 (k : sy_M → sy_O) (ls st : List Value) (M : sy_M) : sy_O := sy_xc 48 ls fun l => sy_xv l fun _ l => sy_xv l fun _ l => sy_xv l fun _ l => sy_xn l (sy_xn st (k M))
theorem jwX5_readAtom_193 {d : Nat} {k : sy_M → sy_O} (hk : ∀ (w1 : Value) (w2 : Value) (w3 : Value) (M : sy_M) (r : xe_R × sy_M), k M = some r → sy_E (d) qX5_readAtom 193 [.ref 48, w1, w2, w3] [] M r) : ∀ ls st M r, juX5_readAtom_193 k ls st M = some r → sy_E d qX5_readAtom 193 ls st M r := by
  intro ls st M r h
  obtain ⟨l, e, h1⟩ := sy_xc_ok h; subst e
  obtain ⟨w1, l, e, h2⟩ := sy_xv_ok h1; subst e
  obtain ⟨w2, l, e, h3⟩ := sy_xv_ok h2; subst e
  obtain ⟨w3, l, e, h4⟩ := sy_xv_ok h3; subst e
  obtain ⟨e, h5⟩ := sy_xn_ok h4; subst e
  obtain ⟨e, h6⟩ := sy_xn_ok h5; subst e
  exact hk _ _ _ M r h6
def juX5_readAtom_112 (k : sy_M → sy_O) (ls st : List Value) (M : sy_M) : sy_O := sy_xv ls fun _ l => sy_xv l fun _ l => sy_xv l fun _ l => sy_xv l fun _ l => sy_xn l (sy_xn st (k M))
theorem jwX5_readAtom_112 {d : Nat} {k : sy_M → sy_O} (hk : ∀ (w0 : Value) (w1 : Value) (w2 : Value) (w3 : Value) (M : sy_M) (r : xe_R × sy_M), k M = some r → sy_E (d) qX5_readAtom 112 [w0, w1, w2, w3] [] M r) : ∀ ls st M r, juX5_readAtom_112 k ls st M = some r → sy_E d qX5_readAtom 112 ls st M r := by
  intro ls st M r h
  obtain ⟨w0, l, e, h1⟩ := sy_xv_ok h; subst e
  obtain ⟨w1, l, e, h2⟩ := sy_xv_ok h1; subst e
  obtain ⟨w2, l, e, h3⟩ := sy_xv_ok h2; subst e
  obtain ⟨w3, l, e, h4⟩ := sy_xv_ok h3; subst e
  obtain ⟨e, h5⟩ := sy_xn_ok h4; subst e
  obtain ⟨e, h6⟩ := sy_xn_ok h5; subst e
  exact hk _ _ _ _ M r h6
def juX5_readAtom_35 (k : Int32 → sy_M → sy_O) (ls st : List Value) (M : sy_M) : sy_O := sy_xc 48 ls fun l => sy_xi l fun a1 l => sy_xv l fun _ l => sy_xv l fun _ l => sy_xn l (sy_xn st (k a1 M))
theorem jwX5_readAtom_35 {d : Nat} {k : Int32 → sy_M → sy_O} (hk : ∀ (w2 : Value) (w3 : Value) (a1 : Int32) (M : sy_M) (r : xe_R × sy_M), k a1 M = some r → sy_E (d) qX5_readAtom 35 [.ref 48, .int a1, w2, w3] [] M r) : ∀ ls st M r, juX5_readAtom_35 k ls st M = some r → sy_E d qX5_readAtom 35 ls st M r := by
  intro ls st M r h
  obtain ⟨l, e, h1⟩ := sy_xc_ok h; subst e
  obtain ⟨a1, l, e, h2⟩ := sy_xi_ok h1; subst e
  obtain ⟨w2, l, e, h3⟩ := sy_xv_ok h2; subst e
  obtain ⟨w3, l, e, h4⟩ := sy_xv_ok h3; subst e
  obtain ⟨e, h5⟩ := sy_xn_ok h4; subst e
  obtain ⟨e, h6⟩ := sy_xn_ok h5; subst e
  exact hk _ _ a1 M r h6
def juX5_readAtom_21 (k : Int32 → sy_M → sy_O) (ls st : List Value) (M : sy_M) : sy_O := sy_xc 48 ls fun l => sy_xi l fun a1 l => sy_xv l fun _ l => sy_xv l fun _ l => sy_xn l (sy_xn st (k a1 M))
theorem jwX5_readAtom_21 {d : Nat} {k : Int32 → sy_M → sy_O} (hk : ∀ (w2 : Value) (w3 : Value) (a1 : Int32) (M : sy_M) (r : xe_R × sy_M), k a1 M = some r → sy_E (d) qX5_readAtom 21 [.ref 48, .int a1, w2, w3] [] M r) : ∀ ls st M r, juX5_readAtom_21 k ls st M = some r → sy_E d qX5_readAtom 21 ls st M r := by
  intro ls st M r h
  obtain ⟨l, e, h1⟩ := sy_xc_ok h; subst e
  obtain ⟨a1, l, e, h2⟩ := sy_xi_ok h1; subst e
  obtain ⟨w2, l, e, h3⟩ := sy_xv_ok h2; subst e
  obtain ⟨w3, l, e, h4⟩ := sy_xv_ok h3; subst e
  obtain ⟨e, h5⟩ := sy_xn_ok h4; subst e
  obtain ⟨e, h6⟩ := sy_xn_ok h5; subst e
  exact hk _ _ a1 M r h6
def jfX5_readAtom_194 (rc : Int32 → sy_M → sy_O) (s0 : Int32) (M : sy_M) : sy_O :=
  sy_bv (jfX4_add 35 4 0 M) fun M1 =>
  sy_bb (sy_bo s0) <| sy_ri s0 M1
set_option maxRecDepth 100000 in
theorem jrX5_readAtom_194 (rc : Int32 → sy_M → sy_O) (w1 : Value) (w2 : Value) (w3 : Value) (s0 : Int32) (M : sy_M) : sy_run skX5 qX5_readAtom [(194, .istore_n 3, 1, [true, false, false, false]), (195, .aload_n 0, 1, []), (196, .getfield 9, 3, []), (199, .iconst 4, 1, []), (200, .iconst 0, 1, []), (201, .invokevirtual 67, 3, []), (204, .iload_n 3, 1, []), (205, .ireturn, 1, [])] [(41, 1, jcX4_add)] [] 9 [] 194 [.ref 48, w1, w2, w3] [.int s0] M = jfX5_readAtom_194 rc s0 M := rfl
theorem jtX5_readAtom_194 {rc : Int32 → sy_M → sy_O} {d : Nat} (hd : 2 ≤ d) (hrc : sy_snd d 52 (chd_B rc)) : ∀ (w1 : Value) (w2 : Value) (w3 : Value) (s0 : Int32) (M : sy_M) (r : xe_R × sy_M), jfX5_readAtom_194 rc s0 M = some r → sy_E (d + 3) qX5_readAtom 194 [.ref 48, w1, w2, w3] [.int s0] M r := by
  intro w1 w2 w3 s0 M r h
  exact sy_run_by (d := d + 2) ((jrX5_readAtom_194 _ _ _ _ _ M).trans h) hkX5 (by decide +kernel) (sy_cs_cons (jeX4_add.deep (by omega)) sy_cs_nil) sy_us_nil
def jfX5_readAtom_193 (rc : Int32 → sy_M → sy_O) (M : sy_M) : sy_O :=
  jfX5_readAtom_194 rc 0 M
set_option maxRecDepth 100000 in
theorem jrX5_readAtom_193 (rc : Int32 → sy_M → sy_O) (w1 : Value) (w2 : Value) (w3 : Value) (M : sy_M) : sy_run skX5 qX5_readAtom [(193, .iconst 0, 1, [true, false, false, false])] [] [(194, juX5_readAtom_194 (jfX5_readAtom_194 rc))] 2 [] 193 [.ref 48, w1, w2, w3] [] M = jfX5_readAtom_193 rc M := rfl
theorem jtX5_readAtom_193 {rc : Int32 → sy_M → sy_O} {d : Nat} (hd : 2 ≤ d) (hrc : sy_snd d 52 (chd_B rc)) : ∀ (w1 : Value) (w2 : Value) (w3 : Value) (M : sy_M) (r : xe_R × sy_M), jfX5_readAtom_193 rc M = some r → sy_E (d + 3) qX5_readAtom 193 [.ref 48, w1, w2, w3] [] M r := by
  intro w1 w2 w3 M r h
  exact sy_run_by (d := d + 2) ((jrX5_readAtom_193 _ _ _ _ M).trans h) hkX5 (by decide +kernel) sy_cs_nil (sy_us_cons (jwX5_readAtom_194 (jtX5_readAtom_194 hd hrc)) sy_us_nil)
def jfX5_readAtom_112 (rc : Int32 → sy_M → sy_O) (M : sy_M) : sy_O :=
  sy_ri 1 M
set_option maxRecDepth 100000 in
theorem jrX5_readAtom_112 (rc : Int32 → sy_M → sy_O) (w0 : Value) (w1 : Value) (w2 : Value) (w3 : Value) (M : sy_M) : sy_run skX5 qX5_readAtom [(112, .iconst 1, 1, [false, false, false, false]), (113, .goto 4, 3, []), (117, .ireturn, 1, [false, false, false, false])] [] [] 4 [] 112 [w0, w1, w2, w3] [] M = jfX5_readAtom_112 rc M := rfl
theorem jtX5_readAtom_112 {rc : Int32 → sy_M → sy_O} {d : Nat} (hd : 2 ≤ d) (hrc : sy_snd d 52 (chd_B rc)) : ∀ (w0 : Value) (w1 : Value) (w2 : Value) (w3 : Value) (M : sy_M) (r : xe_R × sy_M), jfX5_readAtom_112 rc M = some r → sy_E (d + 3) qX5_readAtom 112 [w0, w1, w2, w3] [] M r := by
  intro w0 w1 w2 w3 M r h
  exact sy_run_by (d := d + 2) ((jrX5_readAtom_112 _ _ _ _ _ M).trans h) hkX5 (by decide +kernel) sy_cs_nil sy_us_nil
def jfX5_readAtom_35 (rc : Int32 → sy_M → sy_O) (a1 : Int32) (M : sy_M) : sy_O :=
  sy_bi (jfX10_takes 279 M) fun v2 M1 =>
  if v2 = 0 then
    sy_bi (jfX10_takes 40 M1) fun v4 M3 =>
    if v4 = 0 then
      sy_bi (jfX10_takes 280 M3) fun v6 M5 =>
      if v6 = 0 then
        sy_bi (jfX10_takes 281 M5) fun v8 M7 =>
        if v8 = 0 then
          sy_bi (jfX5_readSum M7) fun v10 M9 =>
          if v10 = 0 then
            jfX5_readAtom_193 rc M9
          else
            sy_bi (jfX5_readOrder M9) fun v12 M11 =>
            if v12 = 0 then
              jfX5_readAtom_193 rc M11
            else
              sy_bi (jfX5_readSum M11) fun v14 M13 =>
              if v14 = 0 then
                jfX5_readAtom_193 rc M13
              else
                jfX5_readAtom_194 rc 1 M13
        else
          sy_bv (jfX4_add 35 5 8 M7) fun M15 =>
          sy_ri 1 M15
      else
        sy_bv (jfX4_add 35 5 7 M5) fun M16 =>
        sy_ri 1 M16
    else
      sy_bi (jfX5_readAny rc (a1 + 1) M3) fun v18 M17 =>
      if v18 = 0 then
        sy_ri 0 M17
      else
        sy_bi (jfX10_takes 41 M17) fun v20 M19 =>
        if v20 = 0 then
          sy_bi (jfX10_fails M19) fun v22 M21 =>
          if v22 = 0 then
            sy_ri 0 M21
          else
            jfX5_readAtom_112 rc M21
        else
          jfX5_readAtom_112 rc M19
  else
    sy_bi (rc (a1 + 1) M1) fun v24 M23 =>
    sy_bv (jfX4_add 35 6 0 M23) fun M25 =>
    sy_bb (sy_bo v24) <| sy_ri v24 M25
set_option maxRecDepth 100000 in
theorem jrX5_readAtom_35 (rc : Int32 → sy_M → sy_O) (w2 : Value) (w3 : Value) (a1 : Int32) (M : sy_M) : sy_run skX5 qX5_readAtom [(35, .aload_n 0, 1, [true, true, false, false]), (36, .getfield 15, 3, []), (39, .sipush 279, 3, []), (42, .invokevirtual 29, 3, []), (45, .ifCond .eq 23, 3, []), (48, .aload_n 0, 1, []), (49, .iload_n 1, 1, []), (50, .iconst 1, 1, []), (51, .iadd, 1, []), (52, .invokevirtual 64, 3, []), (55, .istore_n 3, 1, []), (56, .aload_n 0, 1, []), (57, .getfield 9, 3, []), (60, .bipush 6, 2, []), (62, .iconst 0, 1, []), (63, .invokevirtual 67, 3, []), (66, .iload_n 3, 1, []), (67, .ireturn, 1, []), (68, .aload_n 0, 1, [true, true, false, false]), (69, .getfield 15, 3, []), (72, .bipush 40, 2, []), (74, .invokevirtual 29, 3, []), (77, .ifCond .eq 41, 3, []), (80, .aload_n 0, 1, []), (81, .iload_n 1, 1, []), (82, .iconst 1, 1, []), (83, .iadd, 1, []), (84, .invokevirtual 47, 3, []), (87, .ifCond .eq 29, 3, []), (90, .aload_n 0, 1, []), (91, .getfield 15, 3, []), (94, .bipush 41, 2, []), (96, .invokevirtual 29, 3, []), (99, .ifCond .ne 13, 3, []), (102, .aload_n 0, 1, []), (103, .getfield 15, 3, []), (106, .invokevirtual 33, 3, []), (109, .ifCond .eq 7, 3, []), (116, .iconst 0, 1, [false, false, false, false]), (117, .ireturn, 1, [false, false, false, false]), (118, .aload_n 0, 1, [true, false, false, false]), (119, .getfield 15, 3, []), (122, .sipush 280, 3, []), (125, .invokevirtual 29, 3, []), (128, .ifCond .eq 15, 3, []), (131, .aload_n 0, 1, []), (132, .getfield 9, 3, []), (135, .iconst 5, 1, []), (136, .bipush 7, 2, []), (138, .invokevirtual 67, 3, []), (141, .iconst 1, 1, []), (142, .ireturn, 1, []), (143, .aload_n 0, 1, [true, false, false, false]), (144, .getfield 15, 3, []), (147, .sipush 281, 3, []), (150, .invokevirtual 29, 3, []), (153, .ifCond .eq 15, 3, []), (156, .aload_n 0, 1, []), (157, .getfield 9, 3, []), (160, .iconst 5, 1, []), (161, .bipush 8, 2, []), (163, .invokevirtual 67, 3, []), (166, .iconst 1, 1, []), (167, .ireturn, 1, []), (168, .aload_n 0, 1, [true, false, false, false]), (169, .invokevirtual 71, 3, []), (172, .ifCond .eq 21, 3, []), (175, .aload_n 0, 1, []), (176, .invokevirtual 74, 3, []), (179, .ifCond .eq 14, 3, []), (182, .aload_n 0, 1, []), (183, .invokevirtual 71, 3, []), (186, .ifCond .eq 7, 3, []), (189, .iconst 1, 1, []), (190, .goto 4, 3, [])] [(86, 0, jcX10_takes), (54, 0, jcX5_readSum), (53, 0, jcX5_readOrder), (41, 1, jcX4_add), (50, 0, jcX5_readAny rc), (88, 0, jcX10_fails), (52, 0, chd_B rc)] [(193, juX5_readAtom_193 (jfX5_readAtom_193 rc)), (194, juX5_readAtom_194 (jfX5_readAtom_194 rc)), (112, juX5_readAtom_112 (jfX5_readAtom_112 rc))] 76 [] 35 [.ref 48, .int a1, w2, w3] [] M = jfX5_readAtom_35 rc a1 M := rfl
theorem jtX5_readAtom_35 {rc : Int32 → sy_M → sy_O} {d : Nat} (hd : 2 ≤ d) (hrc : sy_snd d 52 (chd_B rc)) : ∀ (w2 : Value) (w3 : Value) (a1 : Int32) (M : sy_M) (r : xe_R × sy_M), jfX5_readAtom_35 rc a1 M = some r → sy_E (d + 3) qX5_readAtom 35 [.ref 48, .int a1, w2, w3] [] M r := by
  intro w2 w3 a1 M r h
  exact sy_run_by (d := d + 2) ((jrX5_readAtom_35 _ _ _ _ M).trans h) hkX5 (by decide +kernel) (sy_cs_cons (jeX10_takes.deep (by omega)) (sy_cs_cons (jeX5_readSum.deep (by omega)) (sy_cs_cons (jeX5_readOrder.deep (by omega)) (sy_cs_cons (jeX4_add.deep (by omega)) (sy_cs_cons ((jeX5_readAny hd hrc).deep (by omega)) (sy_cs_cons (jeX10_fails.deep (by omega)) (sy_cs_cons (hrc.deep (by omega)) sy_cs_nil))))))) (sy_us_cons (jwX5_readAtom_193 (jtX5_readAtom_193 hd hrc)) (sy_us_cons (jwX5_readAtom_194 (jtX5_readAtom_194 hd hrc)) (sy_us_cons (jwX5_readAtom_112 (jtX5_readAtom_112 hd hrc)) sy_us_nil)))
def jfX5_readAtom_21 (rc : Int32 → sy_M → sy_O) (a1 : Int32) (M : sy_M) : sy_O :=
  if a1 < 6 then
    jfX5_readAtom_35 rc a1 M
  else
    sy_bi (jfX10_fails M) fun v2 M1 =>
    sy_bb (sy_bo v2) <| sy_ri v2 M1
set_option maxRecDepth 100000 in
theorem jrX5_readAtom_21 (rc : Int32 → sy_M → sy_O) (w2 : Value) (w3 : Value) (a1 : Int32) (M : sy_M) : sy_run skX5 qX5_readAtom [(21, .iload_n 1, 1, [true, true, false, false]), (22, .bipush 6, 2, []), (24, .if_icmp .lt 11, 3, []), (27, .aload_n 0, 1, []), (28, .getfield 15, 3, []), (31, .invokevirtual 33, 3, []), (34, .ireturn, 1, [])] [(88, 0, jcX10_fails)] [(35, juX5_readAtom_35 (jfX5_readAtom_35 rc))] 8 [] 21 [.ref 48, .int a1, w2, w3] [] M = jfX5_readAtom_21 rc a1 M := rfl
theorem jtX5_readAtom_21 {rc : Int32 → sy_M → sy_O} {d : Nat} (hd : 2 ≤ d) (hrc : sy_snd d 52 (chd_B rc)) : ∀ (w2 : Value) (w3 : Value) (a1 : Int32) (M : sy_M) (r : xe_R × sy_M), jfX5_readAtom_21 rc a1 M = some r → sy_E (d + 3) qX5_readAtom 21 [.ref 48, .int a1, w2, w3] [] M r := by
  intro w2 w3 a1 M r h
  exact sy_run_by (d := d + 2) ((jrX5_readAtom_21 _ _ _ _ M).trans h) hkX5 (by decide +kernel) (sy_cs_cons (jeX10_fails.deep (by omega)) sy_cs_nil) (sy_us_cons (jwX5_readAtom_35 (jtX5_readAtom_35 hd hrc)) sy_us_nil)
def jgX5_readAtom (rc : Int32 → sy_M → sy_O) (a1 : Int32) (M : sy_M) : sy_O :=
  sy_bi (jfX10_thing M) fun v2 M1 =>
  if v2 = 279 then
    jfX5_readAtom_21 rc a1 M1
  else
    if v2 = 40 then
      jfX5_readAtom_21 rc a1 M1
    else
      jfX5_readAtom_35 rc a1 M1
set_option maxRecDepth 100000 in
theorem jrX5_readAtom (rc : Int32 → sy_M → sy_O) (a1 : Int32) (M : sy_M) : sy_run skX5 qX5_readAtom [(0, .aload_n 0, 1, []), (1, .getfield 15, 3, []), (4, .invokevirtual 19, 3, []), (7, .istore_n 2, 1, []), (8, .iload_n 2, 1, []), (9, .sipush 279, 3, []), (12, .if_icmp .eq 9, 3, []), (15, .iload_n 2, 1, []), (16, .bipush 40, 2, []), (18, .if_icmp .ne 17, 3, [])] [(85, 0, jcX10_thing)] [(21, juX5_readAtom_21 (jfX5_readAtom_21 rc)), (35, juX5_readAtom_35 (jfX5_readAtom_35 rc))] 11 [] 0 [.ref 48, .int a1, xe_no, xe_no] [] M = jgX5_readAtom rc a1 M := rfl
theorem jtX5_readAtom {rc : Int32 → sy_M → sy_O} {d : Nat} (hd : 2 ≤ d) (hrc : sy_snd d 52 (chd_B rc)) : ∀ (a1 : Int32) (M : sy_M) (r : xe_R × sy_M), jgX5_readAtom rc a1 M = some r → sy_E (d + 3) qX5_readAtom 0 [.ref 48, .int a1, xe_no, xe_no] [] M r := by
  intro a1 M r h
  exact sy_run_by (d := d + 2) ((jrX5_readAtom _ _ M).trans h) hkX5 (by decide +kernel) (sy_cs_cons (jeX10_thing.deep (by omega)) sy_cs_nil) (sy_us_cons (jwX5_readAtom_21 (jtX5_readAtom_21 hd hrc)) (sy_us_cons (jwX5_readAtom_35 (jtX5_readAtom_35 hd hrc)) sy_us_nil))
def jfX5_readAtom : Nat → Int32 → sy_M → sy_O
  | 0, _, _ => none
  | n + 1, a1, M => jgX5_readAtom (jfX5_readAtom n) a1 M
def jcX5_readAtom (rc : Int32 → sy_M → sy_O) (as : List Value) (M : sy_M) (K : sy_O → sy_O) : sy_O := sy_xc 48 as fun l => sy_xi l fun a1 l => sy_xn l (K (jgX5_readAtom rc a1 M))
theorem jeX5_readAtom {rc : Int32 → sy_M → sy_O} {d : Nat} (hd : 2 ≤ d) (hrc : sy_snd d 52 (chd_B rc)) : sy_snd (d + 3) 52 (jcX5_readAtom rc) := by
  intro as M K r h
  obtain ⟨l, e, h1⟩ := sy_xc_ok h; subst e
  obtain ⟨a1, l, e, h2⟩ := sy_xi_ok h1; subst e
  obtain ⟨e, h3⟩ := sy_xn_ok h2; subst e
  exact ⟨_, h3, fun r1 h0 => ⟨qX5_readAtom, rfl, rfl, jtX5_readAtom hd hrc _ M r1 h0⟩⟩
theorem eall_B : ∀ n, sy_snd (2 + 3 * n) 52 (chd_B (jfX5_readAtom n)) := by
  intro n
  induction n with
  | zero =>
    intro as M K r h
    obtain ⟨l, e, h1⟩ := sy_xc_ok h; subst e
    obtain ⟨a1, l, e, h2⟩ := sy_xi_ok h1; subst e
    obtain ⟨e, h3⟩ := sy_xn_ok h2; subst e
    exact ⟨_, h3, fun r1 h0 => absurd (show (none : sy_O) = some r1 from h0) (by simp)⟩
  | succ n ih =>
    intro as M K r h
    exact ((jeX5_readAtom (by omega) ih).deep (by omega)) as M K r h
/-! X5_readLine StairMeter$LawLines readLine ()Z [('R', 48)] -/
def juX5_readLine_116 (k : Int32 → Int32 → Int32 → sy_M → sy_O) (ls st : List Value) (M : sy_M) : sy_O := sy_xc 48 ls fun l => sy_xi l fun a1 l => sy_xi l fun a2 l => sy_xi l fun a3 l => sy_xn l (sy_xn st (k a1 a2 a3 M))
theorem jwX5_readLine_116 {d : Nat} {k : Int32 → Int32 → Int32 → sy_M → sy_O} (hk : ∀ (a1 : Int32) (a2 : Int32) (a3 : Int32) (M : sy_M) (r : xe_R × sy_M), k a1 a2 a3 M = some r → sy_E (d) qX5_readLine 116 [.ref 48, .int a1, .int a2, .int a3] [] M r) : ∀ ls st M r, juX5_readLine_116 k ls st M = some r → sy_E d qX5_readLine 116 ls st M r := by
  intro ls st M r h
  obtain ⟨l, e, h1⟩ := sy_xc_ok h; subst e
  obtain ⟨a1, l, e, h2⟩ := sy_xi_ok h1; subst e
  obtain ⟨a2, l, e, h3⟩ := sy_xi_ok h2; subst e
  obtain ⟨a3, l, e, h4⟩ := sy_xi_ok h3; subst e
  obtain ⟨e, h5⟩ := sy_xn_ok h4; subst e
  obtain ⟨e, h6⟩ := sy_xn_ok h5; subst e
  exact hk a1 a2 a3 M r h6
def juX5_readLine_77 (k : Int32 → Int32 → sy_M → sy_O) (ls st : List Value) (M : sy_M) : sy_O := sy_xc 48 ls fun l => sy_xi l fun a1 l => sy_xv l fun _ l => sy_xv l fun _ l => sy_xn l (sy_xi st fun s0 l => sy_xn l (k a1 s0 M))
theorem jwX5_readLine_77 {d : Nat} {k : Int32 → Int32 → sy_M → sy_O} (hk : ∀ (w2 : Value) (w3 : Value) (a1 : Int32) (s0 : Int32) (M : sy_M) (r : xe_R × sy_M), k a1 s0 M = some r → sy_E (d) qX5_readLine 77 [.ref 48, .int a1, w2, w3] [.int s0] M r) : ∀ ls st M r, juX5_readLine_77 k ls st M = some r → sy_E d qX5_readLine 77 ls st M r := by
  intro ls st M r h
  obtain ⟨l, e, h1⟩ := sy_xc_ok h; subst e
  obtain ⟨a1, l, e, h2⟩ := sy_xi_ok h1; subst e
  obtain ⟨w2, l, e, h3⟩ := sy_xv_ok h2; subst e
  obtain ⟨w3, l, e, h4⟩ := sy_xv_ok h3; subst e
  obtain ⟨e, h5⟩ := sy_xn_ok h4; subst e
  obtain ⟨s0, l, e, h6⟩ := sy_xi_ok h5; subst e
  obtain ⟨e, h7⟩ := sy_xn_ok h6; subst e
  exact hk _ _ a1 s0 M r h7
def juX5_readLine_58 (k : Int32 → sy_M → sy_O) (ls st : List Value) (M : sy_M) : sy_O := sy_xc 48 ls fun l => sy_xi l fun a1 l => sy_xv l fun _ l => sy_xv l fun _ l => sy_xn l (sy_xn st (k a1 M))
theorem jwX5_readLine_58 {d : Nat} {k : Int32 → sy_M → sy_O} (hk : ∀ (w2 : Value) (w3 : Value) (a1 : Int32) (M : sy_M) (r : xe_R × sy_M), k a1 M = some r → sy_E (d) qX5_readLine 58 [.ref 48, .int a1, w2, w3] [] M r) : ∀ ls st M r, juX5_readLine_58 k ls st M = some r → sy_E d qX5_readLine 58 ls st M r := by
  intro ls st M r h
  obtain ⟨l, e, h1⟩ := sy_xc_ok h; subst e
  obtain ⟨a1, l, e, h2⟩ := sy_xi_ok h1; subst e
  obtain ⟨w2, l, e, h3⟩ := sy_xv_ok h2; subst e
  obtain ⟨w3, l, e, h4⟩ := sy_xv_ok h3; subst e
  obtain ⟨e, h5⟩ := sy_xn_ok h4; subst e
  obtain ⟨e, h6⟩ := sy_xn_ok h5; subst e
  exact hk _ _ a1 M r h6
def jfX5_readLine_116 (a1 : Int32) (a2 : Int32) (a3 : Int32) (M : sy_M) : sy_O :=
  sy_bv (jfX4_addLine 35 a1 a2 a3 M) fun M1 =>
  sy_ri 1 M1
set_option maxRecDepth 100000 in
theorem jrX5_readLine_116 (a1 : Int32) (a2 : Int32) (a3 : Int32) (M : sy_M) : sy_run skX5 qX5_readLine [(116, .aload_n 0, 1, []), (117, .getfield 9, 3, []), (120, .iload_n 1, 1, []), (121, .iload_n 2, 1, []), (122, .iload_n 3, 1, []), (123, .invokevirtual 50, 3, []), (126, .iconst 1, 1, []), (127, .ireturn, 1, [])] [(40, 1, jcX4_addLine)] [] 9 [] 116 [.ref 48, .int a1, .int a2, .int a3] [] M = jfX5_readLine_116 a1 a2 a3 M := rfl
theorem jtX5_readLine_116 : ∀ (a1 : Int32) (a2 : Int32) (a3 : Int32) (M : sy_M) (r : xe_R × sy_M), jfX5_readLine_116 a1 a2 a3 M = some r → sy_E (41) qX5_readLine 116 [.ref 48, .int a1, .int a2, .int a3] [] M r := by
  intro a1 a2 a3 M r h
  exact sy_run_by (d := 40) ((jrX5_readLine_116 _ _ _ M).trans h) hkX5 (by decide +kernel) (sy_cs_cons (jeX4_addLine.deep (by decide)) sy_cs_nil) sy_us_nil
def jfX5_readLine_77 (a1 : Int32) (s0 : Int32) (M : sy_M) : sy_O :=
  if s0 = (-1) then
    sy_ri 0 M
  else
    let v1 := (M 35 5)
    sy_bi (jfX10_takes 276 M) fun v3 M2 =>
    if v3 = 0 then
      jfX5_readLine_116 a1 s0 v1 M2
    else
      sy_bi (jfX5_readAny (jfX5_readAtom sy_D) 0 M2) fun v5 M4 =>
      if v5 = 0 then
        sy_ri 0 M4
      else
        jfX5_readLine_116 a1 s0 v1 M4
set_option maxRecDepth 100000 in
theorem jrX5_readLine_77 (w2 : Value) (w3 : Value) (a1 : Int32) (s0 : Int32) (M : sy_M) : sy_run skX5 qX5_readLine [(77, .istore_n 2, 1, [true, true, false, false]), (78, .iload_n 2, 1, []), (79, .iconst (-1), 1, []), (80, .if_icmp .ne 5, 3, []), (83, .iconst 0, 1, []), (84, .ireturn, 1, []), (85, .aload_n 0, 1, [true, true, true, false]), (86, .getfield 9, 3, []), (89, .getfield 43, 3, []), (92, .istore_n 3, 1, []), (93, .aload_n 0, 1, []), (94, .getfield 15, 3, []), (97, .sipush 276, 3, []), (100, .invokevirtual 29, 3, []), (103, .ifCond .eq 13, 3, []), (106, .aload_n 0, 1, []), (107, .iconst 0, 1, []), (108, .invokevirtual 47, 3, []), (111, .ifCond .ne 5, 3, []), (114, .iconst 0, 1, []), (115, .ireturn, 1, [])] [(86, 0, jcX10_takes), (50, 0, jcX5_readAny (jfX5_readAtom sy_D))] [(116, juX5_readLine_116 (jfX5_readLine_116))] 22 [] 77 [.ref 48, .int a1, w2, w3] [.int s0] M = jfX5_readLine_77 a1 s0 M := rfl
theorem jtX5_readLine_77 : ∀ (w2 : Value) (w3 : Value) (a1 : Int32) (s0 : Int32) (M : sy_M) (r : xe_R × sy_M), jfX5_readLine_77 a1 s0 M = some r → sy_E (41) qX5_readLine 77 [.ref 48, .int a1, w2, w3] [.int s0] M r := by
  intro w2 w3 a1 s0 M r h
  exact sy_run_by (d := 40) ((jrX5_readLine_77 _ _ _ _ M).trans h) hkX5 (by decide +kernel) (sy_cs_cons (jeX10_takes.deep (by decide)) (sy_cs_cons ((jeX5_readAny (by omega) (eall_B sy_D)).deep (by rw [sy_D_eq]; decide)) sy_cs_nil)) (sy_us_cons (jwX5_readLine_116 (jtX5_readLine_116)) sy_us_nil)
def jfX5_readLine_58 (a1 : Int32) (M : sy_M) : sy_O :=
  if a1 = 2 then
    jfX5_readLine_77 a1 0 M
  else
    sy_bi (jfX10_takesNumber 0 60 M) fun v2 M1 =>
    jfX5_readLine_77 a1 v2 M1
set_option maxRecDepth 100000 in
theorem jrX5_readLine_58 (w2 : Value) (w3 : Value) (a1 : Int32) (M : sy_M) : sy_run skX5 qX5_readLine [(58, .iload_n 1, 1, [true, true, false, false]), (59, .iconst 2, 1, []), (60, .if_icmp .ne 7, 3, []), (63, .iconst 0, 1, []), (64, .goto 13, 3, []), (67, .aload_n 0, 1, [true, true, false, false]), (68, .getfield 15, 3, []), (71, .iconst 0, 1, []), (72, .bipush 60, 2, []), (74, .invokevirtual 39, 3, [])] [(87, 0, jcX10_takesNumber)] [(77, juX5_readLine_77 (jfX5_readLine_77))] 11 [] 58 [.ref 48, .int a1, w2, w3] [] M = jfX5_readLine_58 a1 M := rfl
theorem jtX5_readLine_58 : ∀ (w2 : Value) (w3 : Value) (a1 : Int32) (M : sy_M) (r : xe_R × sy_M), jfX5_readLine_58 a1 M = some r → sy_E (41) qX5_readLine 58 [.ref 48, .int a1, w2, w3] [] M r := by
  intro w2 w3 a1 M r h
  exact sy_run_by (d := 40) ((jrX5_readLine_58 _ _ _ M).trans h) hkX5 (by decide +kernel) (sy_cs_cons (jeX10_takesNumber.deep (by decide)) sy_cs_nil) (sy_us_cons (jwX5_readLine_77 (jtX5_readLine_77)) sy_us_nil)
def jfX5_readLine (M : sy_M) : sy_O :=
  sy_bi (jfX10_thing M) fun v2 M1 =>
  sy_bi (jfX5_kindOf v2 M1) fun v4 M3 =>
  sy_bi (jfX10_takes 273 M3) fun v6 M5 =>
  if v6 = 0 then
    sy_bi (jfX10_takes 274 M5) fun v8 M7 =>
    if v8 = 0 then
      sy_bi (jfX10_takes 275 M7) fun v10 M9 =>
      if v10 = 0 then
        sy_bi (jfX10_fails M9) fun v12 M11 =>
        sy_bb (sy_bo v12) <| sy_ri v12 M11
      else
        jfX5_readLine_58 v4 M9
    else
      jfX5_readLine_58 v4 M7
  else
    jfX5_readLine_58 v4 M5
set_option maxRecDepth 100000 in
theorem jrX5_readLine (M : sy_M) : sy_run skX5 qX5_readLine [(0, .aload_n 0, 1, []), (1, .getfield 15, 3, []), (4, .invokevirtual 19, 3, []), (7, .invokestatic 25, 3, []), (10, .istore_n 1, 1, []), (11, .aload_n 0, 1, []), (12, .getfield 15, 3, []), (15, .sipush 273, 3, []), (18, .invokevirtual 29, 3, []), (21, .ifCond .ne 37, 3, []), (24, .aload_n 0, 1, []), (25, .getfield 15, 3, []), (28, .sipush 274, 3, []), (31, .invokevirtual 29, 3, []), (34, .ifCond .ne 24, 3, []), (37, .aload_n 0, 1, []), (38, .getfield 15, 3, []), (41, .sipush 275, 3, []), (44, .invokevirtual 29, 3, []), (47, .ifCond .ne 11, 3, []), (50, .aload_n 0, 1, []), (51, .getfield 15, 3, []), (54, .invokevirtual 33, 3, []), (57, .ireturn, 1, [])] [(85, 0, jcX10_thing), (49, 0, jcX5_kindOf), (86, 0, jcX10_takes), (88, 0, jcX10_fails)] [(58, juX5_readLine_58 (jfX5_readLine_58))] 25 [] 0 [.ref 48, xe_no, xe_no, xe_no] [] M = jfX5_readLine M := rfl
theorem jtX5_readLine : ∀ (M : sy_M) (r : xe_R × sy_M), jfX5_readLine M = some r → sy_E (41) qX5_readLine 0 [.ref 48, xe_no, xe_no, xe_no] [] M r := by
  intro  M r h
  exact sy_run_by (d := 40) ((jrX5_readLine M).trans h) hkX5 (by decide +kernel) (sy_cs_cons (jeX10_thing.deep (by decide)) (sy_cs_cons (jeX5_kindOf.deep (by decide)) (sy_cs_cons (jeX10_takes.deep (by decide)) (sy_cs_cons (jeX10_fails.deep (by decide)) sy_cs_nil)))) (sy_us_cons (jwX5_readLine_58 (jtX5_readLine_58)) sy_us_nil)
def jcX5_readLine (as : List Value) (M : sy_M) (K : sy_O → sy_O) : sy_O := sy_xc 48 as fun l => sy_xn l (K (jfX5_readLine M))
theorem jeX5_readLine : sy_snd (41) 48 (jcX5_readLine) := by
  intro as M K r h
  obtain ⟨l, e, h1⟩ := sy_xc_ok h; subst e
  obtain ⟨e, h2⟩ := sy_xn_ok h1; subst e
  exact ⟨_, h2, fun r1 h0 => ⟨qX5_readLine, rfl, rfl, jtX5_readLine  M r1 h0⟩⟩
end
