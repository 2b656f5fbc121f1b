/-! ===== what the machine over numbers says is what our small machine does ===== -/
def sy_E (d : Nat) (q : xe_M) (pc : Nat) (ls st : List Value) (M : sy_M) (r : xe_R × sy_M) : Prop := xe_End d q pc ls st (sy_enc M) (r.1, sy_enc r.2)
def sy_EC (d y : Nat) (as : List Value) (M : sy_M) (r : xe_R × sy_M) : Prop := ∃ q1, zP[y]? = some q1 ∧ (as.all xs_kn && Nat.ble (xe_cat as) (xe_max q1)) = true ∧ sy_E d q1 0 (xe_ent (xe_max q1) as) [] M r
/-- what a callee says is what it does -/
def sy_snd (d y : Nat) (f : List Value → sy_M → (sy_O → sy_O) → sy_O) : Prop := ∀ as M K r, f as M K = some r → ∃ o, K o = some r ∧ ∀ r1, o = some r1 → sy_EC d y as M r1
def sy_cs (d : Nat) : sy_C → Prop
  | [] => True
  | x :: l => sy_snd d x.1 x.2.2 ∧ sy_cs d l
def sy_us (d : Nat) (q : xe_M) : sy_U → Prop
  | [] => True
  | x :: l => (∀ ls st M r, x.2 ls st M = some r → sy_E d q x.1 ls st M r) ∧ sy_us d q l
theorem sy_nl_eq : ∀ (l : List Value) (k : List Value → sy_O), sy_nl l k = k l
  | [], _ => rfl
  | v :: l, k => by
    have := sy_nl_eq l (fun l1 => k (v :: l1))
    exact this
theorem sy_kp_eq (b : List Bool) (ls : List Value) (k : List Value → sy_O) : sy_kp b ls k = k (xe_keep b ls) := by
  cases b with
  | nil =>
    have : xe_keep [] ls = ls := by cases ls <;> rfl
    rw [this]
    rfl
  | cons x b => exact sy_nl_eq _ _
theorem sy_rg_ok {m : Nat} {n : Int} (h : sy_rg m n = true) : -(m : Int) - 1 ≤ n ∧ n ≤ m := by
  cases n with
  | ofNat k =>
    have : k ≤ m := Nat.le_of_ble_eq_true h
    simp
    omega
  | negSucc k =>
    have : k ≤ m := Nat.le_of_ble_eq_true h
    rw [Int.negSucc_eq]
    omega
theorem sy_nn_ok {n : Int} (h : sy_nn n = true) : 0 ≤ n := by
  cases n with
  | ofNat k => simp
  | negSucc k => cases h
theorem sy_push8 {n : Int} (h1 : -128 ≤ n) (h2 : n ≤ 127) : (Int8.ofInt n).toInt32 = Int32.ofInt n := by
  apply Int32.toInt.inj
  rw [Int8.toInt_toInt32, Int8.toInt_ofInt_of_le (by omega) (by omega), Int32.toInt_ofInt_of_le (by omega) (by omega)]
theorem sy_push16 {n : Int} (h1 : -32768 ≤ n) (h2 : n ≤ 32767) : (Int16.ofInt n).toInt32 = Int32.ofInt n := by
  apply Int32.toInt.inj
  rw [Int16.toInt_toInt32, Int16.toInt_ofInt_of_le (by omega) (by omega), Int32.toInt_ofInt_of_le (by omega) (by omega)]
theorem sy_cs_nil {d : Nat} : sy_cs d [] := trivial
theorem sy_cs_cons {d : Nat} {x : Nat × Nat × (List Value → sy_M → (sy_O → sy_O) → sy_O)} {l : sy_C} (h : sy_snd d x.1 x.2.2) (hl : sy_cs d l) : sy_cs d (x :: l) := ⟨h, hl⟩
theorem sy_us_nil {d : Nat} {q : xe_M} : sy_us d q [] := trivial
theorem sy_us_cons {d : Nat} {q : xe_M} {x : Nat × (List Value → List Value → sy_M → sy_O)} {l : sy_U} (h : ∀ ls st M r, x.2 ls st M = some r → sy_E d q x.1 ls st M r) (hl : sy_us d q l) : sy_us d q (x :: l) := ⟨h, hl⟩
theorem sy_cond {c : Bool} {A : sy_O} {r : xe_R × sy_M} (h : sy_b c A = some r) : c = true ∧ A = some r := by
  cases c with
  | true => exact ⟨rfl, h⟩
  | false => exact absurd (show (none : sy_O) = some r from h) (by simp)
theorem sy_condX {c : Bool} {A : sy_O} {r : xe_R × sy_M} (h : sy_bx c A = some r) : c = true ∧ A = some r := by
  cases c with
  | true => exact ⟨rfl, h⟩
  | false => exact absurd (show (none : sy_O) = some r from h) (by simp)
theorem sy_condB {c : Bool} {A : sy_O} {r : xe_R × sy_M} (h : sy_bb c A = some r) : c = true ∧ A = some r := by
  cases c with
  | true => exact ⟨rfl, h⟩
  | false => exact absurd (show (none : sy_O) = some r from h) (by simp)
theorem sy_condS {c : Bool} {A : sy_O} {r : xe_R × sy_M} (h : sy_bs c A = some r) : c = true ∧ A = some r := by
  cases c with
  | true => exact ⟨rfl, h⟩
  | false => exact absurd (show (none : sy_O) = some r from h) (by simp)
theorem sy_find_ok {d : Nat} : ∀ {ct : sy_C} {y kd : Nat} {f : List Value → sy_M → (sy_O → sy_O) → sy_O}, sy_cs d ct → sy_find ct y = some (kd, f) → sy_snd d y f
  | [], _, _, _, _, h => by cases h
  | x :: l, y, kd, f, hc, h => by
    unfold sy_find at h
    cases hb : Nat.beq x.1 y with
    | true =>
      rw [hb] at h
      have h : x.2 = (kd, f) := Option.some.inj h
      have e := Nat.eq_of_beq_eq_true hb
      have h1 := hc.1
      rw [h, e] at h1
      exact h1
    | false =>
      rw [hb] at h
      exact sy_find_ok hc.2 h
theorem sy_if_ok {c : ClassFile.Cond} {x y : Int32} {t f : sy_O} {r : xe_R × sy_M} (h : sy_if c x y t f = some r) : (xe_cmp c x y = true ∧ t = some r) ∨ (xe_cmp c x y = false ∧ f = some r) := by
  cases c <;> dsimp only [sy_if] at h <;> split at h <;> rename_i hx
  · exact Or.inl ⟨decide_eq_true hx, h⟩
  · exact Or.inr ⟨decide_eq_false hx, h⟩
  · exact Or.inr ⟨decide_eq_false (fun z => z hx), h⟩
  · exact Or.inl ⟨decide_eq_true hx, h⟩
  · exact Or.inl ⟨decide_eq_true hx, h⟩
  · exact Or.inr ⟨decide_eq_false hx, h⟩
  · exact Or.inr ⟨decide_eq_false (fun z => absurd hx (Int32.not_lt.mpr z)), h⟩
  · exact Or.inl ⟨decide_eq_true (Int32.not_lt.mp hx), h⟩
  · exact Or.inl ⟨decide_eq_true hx, h⟩
  · exact Or.inr ⟨decide_eq_false hx, h⟩
  · exact Or.inr ⟨decide_eq_false (fun z => absurd hx (Int32.not_lt.mpr z)), h⟩
  · exact Or.inl ⟨decide_eq_true (Int32.not_lt.mp hx), h⟩
theorem sy_jump_ok {pc : Nat} {off : Int} {ls st : List Value} {M : sy_M} {k : sy_K} {r : xe_R × sy_M} (h : sy_jump pc off ls st M k = some r) : (∀ hh, xe_jump pc off ls st hh = some (.inl (((pc : Int) + off).toNat, ls, st, hh))) ∧ k ((pc : Int) + off).toNat ls st M = some r := by
  unfold sy_jump at h
  obtain ⟨hc, h⟩ := sy_cond h
  exact ⟨fun hh => by unfold xe_jump; rw [if_pos (sy_nn_ok hc)], h⟩
theorem sy_sw_ok {pc : Nat} {x : Int32} {dflt : Int} {ls st : List Value} {M : sy_M} {k : sy_K} {r : xe_R × sy_M} : ∀ (os : List Int) (lo : Int), -1000 ≤ lo → lo + os.length ≤ 1001 → sy_sw pc x dflt ls st M k lo os = some r → (∃ (j : Nat) (o : Int), os[j]? = some o ∧ x.toInt = lo + j ∧ sy_jump pc o ls st M k = some r) ∨ ((∀ j : Nat, j < os.length → x.toInt ≠ lo + j) ∧ sy_jump pc dflt ls st M k = some r)
  | [], lo, _, _, h => Or.inr ⟨fun j hj => absurd hj (Nat.not_lt_zero _), h⟩
  | o :: os, lo, h1, h2, h => by
    have h2' : lo + (os.length + 1 : Int) ≤ 1001 := by simpa using h2
    have el : (Int32.ofInt lo).toInt = lo := Int32.toInt_ofInt_of_le (by omega) (by omega)
    unfold sy_sw at h
    dsimp only at h
    split at h
    · rename_i hx
      exact Or.inl ⟨0, o, rfl, by rw [hx, el]; simp, h⟩
    · rename_i hx
      rcases sy_sw_ok os (lo + 1) (by omega) (by omega) h with ⟨j, o1, a1, a2, a3⟩ | ⟨a1, a2⟩
      · exact Or.inl ⟨j + 1, o1, by simpa using a1, by rw [a2]; simp; omega, a3⟩
      · refine Or.inr ⟨fun j hj => ?_, a2⟩
        cases j with
        | zero =>
          intro e
          apply hx
          rw [← Int32.toInt_inj, el, e]
          simp
        | succ j =>
          have := a1 j (by simpa using hj)
          intro e
          apply this
          rw [e]
          simp
          omega
theorem sy_rc_is {as : List Value} {c : Nat} {M : sy_M} (h : sy_rc as c = true) : xe_recv (sy_enc M) as c = true := by
  unfold sy_rc at h
  split at h
  · rename_i a _
    obtain ⟨r, hr, e⟩ := sy_is_row h
    have := sy_row_lt hr
    unfold xe_recv
    dsimp only
    rw [sy_hp_row M hr]
    dsimp only
    rw [e, Nat.beq_refl]
    simp [Nat.blt_eq]
    omega
  · cases h
theorem sy_rc_not {as : List Value} {c e : Nat} {M : sy_M} (h : sy_rc as c = true) (hn : c ≠ e) : xe_recv (sy_enc M) as e = false := by
  unfold sy_rc at h
  split at h
  · obtain ⟨r, hr, e1⟩ := sy_is_row h
    unfold xe_recv
    dsimp only
    rw [sy_hp_row M hr]
    dsimp only
    have : Nat.beq r.1 e = false := by
      cases hb : Nat.beq r.1 e with
      | false => rfl
      | true => exact absurd (e1.symm.trans (Nat.eq_of_beq_eq_true hb)) hn
    rw [this]
    rfl
  · cases h
theorem sy_hs_ok {pc c : Nat} {k : Nat → sy_O} {r : xe_R × sy_M} : ∀ {hs : List (Nat × Nat × Nat × Nat)}, sy_hs hs pc c k = some r → ∃ p, xe_find hs pc c = some p ∧ k p = some r
  | [], h => by cases h
  | x :: l, h => by
    unfold sy_hs at h
    dsimp only at h
    unfold xe_find
    cases hb : (Nat.ble x.1 pc && Nat.blt pc x.2.1) with
    | true =>
      rw [hb] at h
      rw [Bool.and_eq_true] at hb
      have b1 := Nat.le_of_ble_eq_true hb.1
      have b2 : pc < x.2.1 := by simpa [Nat.blt_eq] using hb.2
      dsimp only at h
      split at h
      · rename_i e
        refine ⟨x.2.2.1, ?_, h⟩
        rw [e]
        simp [b1, b2]
      · rename_i e
        obtain ⟨p, h1, h2⟩ := sy_hs_ok h
        refine ⟨p, ?_, h2⟩
        have : Nat.beq x.2.2.2 c = false := by
          cases hq : Nat.beq x.2.2.2 c with
          | false => rfl
          | true => exact absurd (Nat.eq_of_beq_eq_true hq).symm e
        rw [this]
        simp [h1]
    | false =>
      rw [hb] at h
      dsimp only at h
      obtain ⟨p, h1, h2⟩ := sy_hs_ok h
      refine ⟨p, ?_, h2⟩
      have : (decide (x.1 ≤ pc) && (decide (pc < x.2.1) && Nat.beq x.2.2.2 c)) = false := by
        cases hq : decide (x.1 ≤ pc) with
        | false => rfl
        | true =>
          have q1 := of_decide_eq_true hq
          cases hp : decide (pc < x.2.1) with
          | false => rfl
          | true =>
            have q2 := of_decide_eq_true hp
            have : Nat.ble x.1 pc = true := Nat.ble_eq_true_of_le q1
            rw [this] at hb
            have : Nat.blt pc x.2.1 = true := by simpa [Nat.blt_eq] using q2
            rw [this] at hb
            cases hb
      rw [this]
      simpa using h1
/-- behind a call -/
theorem sy_inv_ok {d : Nat} {q : xe_M} {ct : sy_C} {pc y len : Nat} {i : Instr} {b : List Bool} {as ls0 ls rest st : List Value} {M : sy_M} {k : sy_K} {r : xe_R × sy_M} (hat : xe_at (xe_code q) pc = some (i, len, b)) (hct : sy_cs d ct) (hk : ∀ pc1 ls1 st1 M1 r, k pc1 ls1 st1 M1 = some r → sy_E (d + 1) q pc1 ls1 st1 M1 r)
    (hs : xe_cat rest ≤ 8 → ∀ call, xe_step q zK call pc i (xe_keep b ls0) st (sy_enc M) = xe_back q pc ls rest (call y as (sy_enc M))) (h : sy_inv q ct pc y as ls rest M k = some r) : sy_E (d + 1) q pc ls0 st M r := by
  unfold sy_inv at h
  obtain ⟨hc, h⟩ := sy_cond h
  have hs := hs (Nat.le_of_ble_eq_true hc)
  split at h
  · rename_i kd f hf
    obtain ⟨o, g, go⟩ := sy_find_ok hct hf as M _ r h
    clear h
    have h := g
    clear g
    unfold sy_back at h
    dsimp only at h
    split at h
    · rename_i hh
      unfold sy_bi at h
      split at h
      · rename_i v M1
        obtain ⟨q1, e1, e2, e3⟩ := go _ rfl
        exact xe_End.call hat hs e1 e2 e3 rfl (hk _ _ _ _ _ h)
      · rename_i c M1
        obtain ⟨q1, e1, e2, e3⟩ := go _ rfl
        have h : (Sum.inr c, M1) = r := Option.some.inj h
        rw [← h]
        exact xe_End.callT hat hs e1 e2 e3 (by unfold xe_back; rw [hh]; rfl)
      · cases h
    · rename_i hh
      unfold sy_bv at h
      split at h
      · rename_i M1
        obtain ⟨q1, e1, e2, e3⟩ := go _ rfl
        exact xe_End.call hat hs e1 e2 e3 rfl (hk _ _ _ _ _ h)
      · rename_i c M1
        obtain ⟨q1, e1, e2, e3⟩ := go _ rfl
        have h : (Sum.inr c, M1) = r := Option.some.inj h
        rw [← h]
        exact xe_End.callT hat hs e1 e2 e3 (by unfold xe_back; rw [hh]; rfl)
      · cases h
    · rename_i hh
      unfold sy_br at h
      split at h
      · rename_i a M1
        obtain ⟨q1, e1, e2, e3⟩ := go _ rfl
        exact xe_End.call hat hs e1 e2 e3 rfl (hk _ _ _ _ _ h)
      · rename_i M1
        obtain ⟨q1, e1, e2, e3⟩ := go _ rfl
        exact xe_End.call hat hs e1 e2 e3 rfl (hk _ _ _ _ _ h)
      · rename_i c M1
        obtain ⟨q1, e1, e2, e3⟩ := go _ rfl
        have h : (Sum.inr c, M1) = r := Option.some.inj h
        rw [← h]
        exact xe_End.callT hat hs e1 e2 e3 (by unfold xe_back; rw [hh]; rfl)
      · cases h
    · unfold sy_hi at h
      split at h
      · rename_i v M1
        obtain ⟨q1, e1, e2, e3⟩ := go _ rfl
        exact xe_End.call hat hs e1 e2 e3 rfl (hk _ _ _ _ _ h)
      · rename_i c M1
        obtain ⟨q1, e1, e2, e3⟩ := go _ rfl
        obtain ⟨p, hp, h⟩ := sy_hs_ok h
        exact xe_End.call hat hs e1 e2 e3 (by unfold xe_back; dsimp only; rw [hp]; rfl) (hk _ _ _ _ _ h)
      · cases h
    · cases h
  · cases h
theorem sy_cn_lt {c j : Nat} (h : j < sy_cn c) : c < 12 := by
  unfold sy_cn at h
  cases hb : Nat.blt c 12 with
  | true => simpa [Nat.blt_eq] using hb
  | false => rw [hb] at h; exact absurd h (Nat.not_lt_zero _)
theorem sy_getf_ok {d : Nat} {q : xe_M} {pc idx len : Nat} {b : List Bool} {ls0 st : List Value} {M : sy_M} {k : sy_K} {r : xe_R × sy_M} (hat : xe_at (xe_code q) pc = some (.getfield idx, len, b)) (hk : ∀ pc1 ls1 st1 M1 r, k pc1 ls1 st1 M1 = some r → sy_E (d + 1) q pc1 ls1 st1 M1 r) (h : sy_getf (xe_lk (xe_link q)) q pc idx (xe_keep b ls0) st M k = some r) : sy_E (d + 1) q pc ls0 st M r := by
  unfold sy_getf at h
  dsimp only at h
  split at h
  · rename_i a rest
    split at h
    · rename_i ci j c hlk
      obtain ⟨hj, h⟩ := sy_cond h
      obtain ⟨hi, h⟩ := sy_condS h
      have hj : j < sy_cn ci := by simpa [Nat.blt_eq] using hj
      have hci := sy_cn_lt hj
      obtain ⟨w, hw, e⟩ := sy_is_row hi
      have hw1 : w.1 < 1000 := by omega
      obtain ⟨f1, f2⟩ := sy_row_fld hw hw1 (by rw [e]; exact hj)
      have ha := sy_row_lt hw
      have hcond : (Nat.beq w.1 ci && (Nat.blt j w.2.1 && Nat.blt a 1500000)) = true := by
        rw [e, Nat.beq_refl, f1, e]
        simp [Nat.blt_eq]
        omega
      have key : ∀ v, sy_val w M a j = v → k (pc + 3) (xe_keep b ls0) (v :: rest) M = some r → sy_E (d + 1) q pc ls0 (.ref a :: rest) M r := by
        intro v hv h
        refine xe_End.step hat (fun call => ?_) (hk _ _ _ _ _ h)
        dsimp only [xe_step, xe_getf]
        rw [sy_hp_row M hw]
        dsimp only
        rw [hlk]
        refine (if_pos hcond).trans ?_
        show some (Sum.inl (pc + 3, xe_keep b ls0, sy_val w M a j :: rest, sy_enc M)) = _
        rw [hv]
      split at h
      · rename_i hrf
        rw [e, hrf] at f2
        exact key _ (sy_val_int (by omega) (by omega) f2 (fun _ => by rw [f1, e]; exact hj)) h
      · rename_i n hrf
        rw [e, hrf] at f2
        exact key _ (sy_val_ref (by omega) f2) h
      · rename_i n hrf
        rw [e, hrf] at f2
        exact key _ (sy_val_ref (by omega) f2) h
    · rename_i ci j c hlk
      obtain ⟨hc, h⟩ := sy_cond h
      rw [Bool.and_eq_true, Bool.or_eq_true, Bool.and_eq_true, Bool.and_eq_true, Nat.beq_eq, Nat.beq_eq, Nat.beq_eq, Nat.beq_eq, Nat.beq_eq] at hc
      obtain ⟨hj, hc⟩ := hc
      refine xe_End.step hat (fun call => ?_) (hk _ _ _ _ _ h)
      dsimp only [xe_step, xe_getf]
      rcases hc with ⟨ha, hci⟩ | ⟨ha, hci⟩
      · subst ha; subst hj
        rw [sy_hp_row M (r := (3, 2, [(0, 1), (1, 14)])) rfl]
        dsimp only
        rw [hlk, hci]
        rfl
      · subst ha; subst hj
        rw [sy_hp_row M (r := (5, 2, [(0, 1), (1, 35)])) rfl]
        dsimp only
        rw [hlk]
        refine (if_pos (by rw [hci]; cases Nat.beq 5 ci <;> rfl)).trans rfl
    · cases h
  · cases h
theorem sy_putf_ok {d : Nat} {q : xe_M} {pc idx len : Nat} {b : List Bool} {ls0 st : List Value} {M : sy_M} {k : sy_K} {r : xe_R × sy_M} (hat : xe_at (xe_code q) pc = some (.putfield idx, len, b)) (hk : ∀ pc1 ls1 st1 M1 r, k pc1 ls1 st1 M1 = some r → sy_E (d + 1) q pc1 ls1 st1 M1 r) (h : sy_putf (xe_lk (xe_link q)) q pc idx (xe_keep b ls0) st M k = some r) : sy_E (d + 1) q pc ls0 st M r := by
  unfold sy_putf at h
  dsimp only at h
  split at h
  · rename_i x a rest
    split at h
    · rename_i ci j c hlk
      obtain ⟨hj, h⟩ := sy_cond h
      obtain ⟨hi, h⟩ := sy_condS h
      have hj : j < sy_cn ci := by simpa [Nat.blt_eq] using hj
      have hci := sy_cn_lt hj
      obtain ⟨w, hw, e⟩ := sy_is_row hi
      obtain ⟨f1, f2⟩ := sy_row_fld hw (by omega) (by rw [e]; exact hj)
      have ha := sy_row_lt hw
      split at h
      · rename_i hrf
        rw [e, hrf] at f2
        obtain ⟨h1, h⟩ := sy_cond h
        obtain ⟨h2, h⟩ := sy_condB h
        refine xe_End.step hat (fun call => ?_) (hk _ _ _ _ _ h)
        dsimp only [xe_step, xe_putf]
        rw [sy_hp_row M hw]
        dsimp only
        rw [hlk]
        rw [Bool.and_eq_true, Bool.or_eq_true, Nat.beq_eq, Nat.beq_eq] at h1
        have hfit : xe_fit (c.toNat / 10) (.int x) = true := by
          unfold xe_fit sy_bo at *
          rcases h1.1 with z | z
          · rw [z]; rfl
          · rw [z] at h2 ⊢
            simpa using h2
        have hcond : (Nat.beq w.1 ci && (Nat.blt j w.2.1 && (xe_fit (c.toNat / 10) (.int x) && (decide (a < 1000000) && (Nat.blt (c.toNat % 10) 2 || (Nat.beq (c.toNat % 10) 2 && Nat.beq (xe_rk q) 103)))))) = true := by
          have ha2 : a < 1000000 := Nat.lt_trans ha (by decide)
          have hj2 : Nat.blt j (sy_cn ci) = true := by simpa [Nat.blt_eq] using hj
          rw [e, Nat.beq_refl, f1, e, hfit, h1.2, decide_eq_true ha2, hj2]
          rfl
        refine (if_pos hcond).trans ?_
        show some (Sum.inl (pc + 3, xe_keep b ls0, rest, xe_put (sy_enc M) a (w.1, w.2.1, xe_upd (sy_val w M a) j (.int x)))) = _
        rw [sy_put_int hw (by omega) (by omega) f2 (fun _ => by rw [f1, e]; exact hj)]
      · cases h
    · cases h
  · cases h
theorem sy_new_ok {d : Nat} {q : xe_M} {pc idx len : Nat} {b : List Bool} {ls0 st : List Value} {M : sy_M} {r : xe_R × sy_M} (hat : xe_at (xe_code q) pc = some (.new idx, len, b)) (h : sy_new (xe_lk (xe_link q)) q pc idx (xe_keep b ls0) st M = some r) : sy_E (d + 1) q pc ls0 st M r := by
  unfold sy_new at h
  dsimp only at h
  split at h
  · rename_i c z hlk hh
    obtain ⟨h1, h⟩ := sy_cond h
    obtain ⟨h2, h⟩ := sy_condX h
    have h1 := Nat.le_of_ble_eq_true h1
    unfold xe_in at h2
    rw [Bool.and_eq_true, decide_eq_true_eq, decide_eq_true_eq] at h2
    have h : (Sum.inr c, sy_upd M 133 0 (M 133 0 + 1)) = r := Option.some.inj h
    rw [← h]
    have hn : (M 133 0 + 1).toNatClampNeg = (M 133 0).toNatClampNeg + 1 := by
      have e1 := Int32.cast_toNatClampNeg _ h2.1
      have e2 : (M 133 0 + 1).toInt = (M 133 0).toInt + 1 := by
        rw [Int32.toInt_add]
        have : (1 : Int32).toInt = 1 := rfl
        rw [this]
        exact Int.bmod_eq_of_le (by omega) (by omega)
      unfold Int32.toNatClampNeg at h2 e1 ⊢
      omega
    refine xe_End.last hat (fun call => ?_)
    dsimp only [xe_step, xe_new1]
    rw [hlk, hh]
    have hf : (xe_fits (sy_enc M) 6 && decide (xe_cat st ≤ 8)) = true := by
      unfold xe_fits sy_enc
      rw [decide_eq_true h1]
      simp [Nat.ble_eq]
      omega
    refine (if_pos hf).trans ?_
    have he : sy_enc (sy_upd M 133 0 (M 133 0 + 1)) = ((sy_enc M).1 + 1, (sy_enc M).2.1 + 6, (sy_enc M).2.2) := by
      unfold sy_enc
      rw [sy_upd_at, hn]
      refine Prod.ext (by dsimp only; omega) (Prod.ext (by dsimp only; omega) ?_)
      funext a
      show sy_hp _ a = sy_hp M a
      unfold sy_hp
      cases hr : sy_row a with
      | none =>
        dsimp only
        rw [sy_upd_ne _ _ _ _ (by decide)]
        have : (fun j => Value.int (sy_upd M 133 0 (M 133 0 + 1) 1000000 j)) = fun j => Value.int (M 1000000 j) := by
          funext j
          rw [sy_upd_ne _ _ _ _ (by decide)]
        rw [this]
      | some w =>
        have := sy_row_lt hr
        dsimp only
        have : sy_val w (sy_upd M 133 0 (M 133 0 + 1)) a = sy_val w M a := by
          funext j
          unfold sy_val sy_rl
          rw [sy_upd_ne _ _ _ _ (by omega), sy_upd_ne _ _ _ _ (by omega), sy_upd_ne _ _ _ _ (by omega)]
        rw [this]
    show some (Sum.inr (Sum.inr c, ((sy_enc M).1 + 1, (sy_enc M).2.1 + 6, (sy_enc M).2.2))) = _
    rw [← he]
  · cases h
theorem sy_tx_some {a : Nat} {t : List Int32} (ht : sy_tx a = some t) : ¬ a < 1500000 ∧ zbyt[a - 1500000]? = some t := by
  unfold sy_tx at ht
  by_cases hb : a < 1500000
  · have : Nat.blt a 1500000 = true := by simpa [Nat.blt_eq] using hb
    rw [this, cond_true] at ht
    cases ht
  · have : Nat.blt a 1500000 = false := by
      cases hq : Nat.blt a 1500000 with
      | false => rfl
      | true => exact absurd (by simpa [Nat.blt_eq] using hq) hb
    rw [this, cond_false] at ht
    exact ⟨hb, ht⟩
theorem sy_tx_hp {a : Nat} (M : sy_M) (h : sy_st a = true) : 1500000 ≤ a ∧ (sy_enc M).2.2 a = some (2000, sy_sl a, fun j => .int (sy_sc a j)) := by
  unfold sy_st at h
  cases ht : sy_tx a with
  | none => rw [ht] at h; cases h
  | some t =>
    obtain ⟨h1, h2⟩ := sy_tx_some ht
    have h3 : 1500000 ≤ a := Nat.le_of_not_lt h1
    refine ⟨h3, ?_⟩
    have e : (sy_enc M).2.2 a = sy_hp M a := rfl
    rw [e]
    unfold sy_hp
    have hno : sy_row a = none := sy_row_no (Nat.le_trans (by decide) h3)
    have hne : ¬ a = 1000000 := fun z => absurd (z ▸ h3) (by decide)
    rw [hno]
    have e2 : (if a = 1000000 then some (1500, (M 134 0).toNatClampNeg, fun j => Value.int (M 1000000 j)) else xs_SPof zbyt a) = xs_SPof zbyt a := if_neg hne
    refine e2.trans ?_
    unfold xs_SPof
    rw [if_neg h1, h2]
    unfold sy_sl sy_sc
    rw [ht]
theorem sy_call3 {q : xe_M} {call : Nat → List Value → xe_H → Option (xe_R × xe_H)} {kd pc idx y n : Nat} {z : Int} {ls st : List Value} {h : xe_H} (hlk : xe_lk (xe_link q) idx = (3, y, n, z)) {as rest : List Value} (hp : xe_pop n [] st = some (as, rest)) (hc : (kd == 0 && decide (xe_cat rest ≤ 8)) = true) : xe_call q call kd pc idx ls st h = xe_back q pc ls rest (call y as h) := by
  have e : xe_call q call kd pc idx ls st h = (match xe_pop n [] st with
    | some (as, rest) => if kd == 0 && decide (xe_cat rest ≤ 8) then xe_back q pc ls rest (call y as h) else none
    | none => none) := by
    unfold xe_call
    rw [hlk]
    rfl
  rw [e, hp]
  exact if_pos hc
theorem sy_call4 {q : xe_M} {call : Nat → List Value → xe_H → Option (xe_R × xe_H)} {kd pc idx y n : Nat} {z : Int} {ls st : List Value} {h : xe_H} (hlk : xe_lk (xe_link q) idx = (4, y, n, z) ∨ xe_lk (xe_link q) idx = (8, y, n, z)) {as rest : List Value} (hp : xe_pop (n + 1) [] st = some (as, rest)) (hc : (kd == 1 && (decide (xe_cat rest ≤ 8) && xe_recv h as z.toNat)) = true) : xe_call q call kd pc idx ls st h = xe_back q pc ls rest (call y as h) := by
  have e : xe_call q call kd pc idx ls st h = (match xe_pop (n + 1) [] st with
    | some (as, rest) => if kd == 1 && (decide (xe_cat rest ≤ 8) && xe_recv h as z.toNat) then xe_back q pc ls rest (call y as h) else none
    | none => none) := by
    unfold xe_call
    rcases hlk with hlk | hlk
    · rw [hlk]
      rfl
    · rw [hlk]
      rfl
  rw [e, hp]
  exact if_pos hc
theorem sy_call5 {q : xe_M} {call : Nat → List Value → xe_H → Option (xe_R × xe_H)} {kd pc idx y y2 : Nat} {z : Int} {ls st : List Value} {h : xe_H} (hlk : xe_lk (xe_link q) idx = (5, y, y2, z)) {as rest : List Value} (hp : xe_pop 1 [] st = some (as, rest)) (hc : (kd == 1 && decide (xe_cat rest ≤ 8)) = true) : xe_call q call kd pc idx ls st h = (if xe_recv h as z.toNat then xe_back q pc ls rest (call y as h) else if xe_recv h as (z.toNat + 2) then xe_back q pc ls rest (call y2 as h) else none) := by
  have e : xe_call q call kd pc idx ls st h = (match xe_pop 1 [] st with
    | some (as, rest) => if kd == 1 && decide (xe_cat rest ≤ 8) then (if xe_recv h as z.toNat then xe_back q pc ls rest (call y as h) else if xe_recv h as (z.toNat + 2) then xe_back q pc ls rest (call y2 as h) else none) else none
    | none => none) := by
    unfold xe_call
    rw [hlk]
    rfl
  rw [e, hp]
  exact if_pos hc
theorem sy_call9 {q : xe_M} {call : Nat → List Value → xe_H → Option (xe_R × xe_H)} {pc idx y n : Nat} {z : Int} {ls st : List Value} {h : xe_H} (hlk : xe_lk (xe_link q) idx = (9, y, n, z)) : xe_call q call 0 pc idx ls st h = xe_copy pc ls st h := by
  unfold xe_call
  rw [hlk]
  rfl
theorem sy_call_ok {d : Nat} {q : xe_M} {ct : sy_C} {kd pc idx len : Nat} {i : Instr} {b : List Bool} {ls0 st : List Value} {M : sy_M} {k : sy_K} {r : xe_R × sy_M} (hat : xe_at (xe_code q) pc = some (i, len, b)) (hi : ∀ call, xe_step q zK call pc i (xe_keep b ls0) st (sy_enc M) = xe_call q call kd pc idx (xe_keep b ls0) st (sy_enc M)) (hct : sy_cs d ct) (hk : ∀ pc1 ls1 st1 M1 r, k pc1 ls1 st1 M1 = some r → sy_E (d + 1) q pc1 ls1 st1 M1 r) (h : sy_call (xe_lk (xe_link q)) q ct kd pc idx (xe_keep b ls0) st M k = some r) : sy_E (d + 1) q pc ls0 st M r := by
  unfold sy_call at h
  dsimp only at h
  split at h
  · rename_i y n z hlk
    split at h
    · rename_i as rest hp
      obtain ⟨h1, g⟩ := sy_cond h
      have h1 := Nat.eq_of_beq_eq_true h1
      refine sy_inv_ok (ls := xe_keep b ls0) hat hct hk (fun hcat call => ?_) g
      rw [hi]
      exact sy_call3 hlk hp (by rw [decide_eq_true hcat, h1]; rfl)
    · cases h
  · rename_i y n c hlk
    split at h
    · rename_i as rest hp
      obtain ⟨h1, g⟩ := sy_cond h
      obtain ⟨h2, g⟩ := sy_condS g
      have h1 := And.intro (Nat.eq_of_beq_eq_true h1) h2
      refine sy_inv_ok (ls := xe_keep b ls0) hat hct hk (fun hcat call => ?_) g
      rw [hi]
      exact sy_call4 (Or.inl hlk) hp (by rw [decide_eq_true hcat, h1.1, sy_rc_is h1.2]; rfl)
    · cases h
  · rename_i y n c hlk
    split at h
    · rename_i as rest hp
      obtain ⟨h1, g⟩ := sy_cond h
      obtain ⟨h2, g⟩ := sy_condS g
      have h1 := And.intro (Nat.eq_of_beq_eq_true h1) h2
      refine sy_inv_ok (ls := xe_keep b ls0) hat hct hk (fun hcat call => ?_) g
      rw [hi]
      exact sy_call4 (Or.inr hlk) hp (by rw [decide_eq_true hcat, h1.1, sy_rc_is h1.2]; rfl)
    · cases h
  · rename_i y y2 c hlk
    split at h
    · rename_i as rest hp
      cases hb : (Nat.beq kd 1 && sy_rc as c.toNat) with
      | true =>
        rw [hb] at h
        have g : sy_inv q ct pc y as (xe_keep b ls0) rest M k = some r := h
        rw [Bool.and_eq_true, Nat.beq_eq] at hb
        refine sy_inv_ok (ls := xe_keep b ls0) hat hct hk (fun hcat call => ?_) g
        rw [hi]
        rw [sy_call5 hlk hp (by rw [decide_eq_true hcat, hb.1]; rfl), if_pos (sy_rc_is hb.2)]
      | false =>
        rw [hb] at h
        have h : sy_b (Nat.beq kd 1 && sy_rc as (c.toNat + 2)) (sy_inv q ct pc y2 as (xe_keep b ls0) rest M k) = some r := h
        obtain ⟨h1, g⟩ := sy_cond h
        rw [Bool.and_eq_true, Nat.beq_eq] at h1
        refine sy_inv_ok (ls := xe_keep b ls0) hat hct hk (fun hcat call => ?_) g
        rw [hi]
        have hrn : xe_recv (sy_enc M) as c.toNat = false := sy_rc_not h1.2 (by omega)
        rw [sy_call5 hlk hp (by rw [decide_eq_true hcat, h1.1]; rfl), if_neg (by rw [hrn]; exact Bool.false_ne_true), if_pos (sy_rc_is h1.2)]
    · cases h
  · rename_i z1 z2 z3 hlk
    split at h
    · rename_i n dp a sp bb rest
      obtain ⟨h1, g⟩ := sy_cond h
      obtain ⟨hok, g⟩ := sy_condB g
      rw [Bool.and_eq_true, Nat.beq_eq] at h1
      obtain ⟨h0, hcat⟩ := h1
      have hcat := Nat.le_of_ble_eq_true hcat
      unfold sy_cok at hok
      simp only [Bool.and_eq_true, decide_eq_true_eq] at hok
      obtain ⟨g1, g2, g3, g4, g5, g6, g7⟩ := hok
      obtain ⟨wa, hwa, ea⟩ := sy_is_row g1
      obtain ⟨wb, hwb, eb⟩ := sy_is_row g2
      have la := sy_row_lt hwa
      have lb := sy_row_lt hwb
      have na := sy_row_arr hwa (Or.inl ea)
      have nb := sy_row_arr hwb (Or.inl eb)
      have lna : sy_li a = wa.2.1 := by
        unfold sy_li sy_ln
        rw [hwa]
        dsimp only
        rw [ea]
        rfl
      have lnb : sy_li bb = wb.2.1 := by
        unfold sy_li sy_ln
        rw [hwb]
        dsimp only
        rw [eb]
        rfl
      rw [lnb] at g6
      rw [lna] at g7
      refine xe_End.step hat (fun call => ?_) (hk _ _ _ _ _ g)
      rw [hi, h0, sy_call9 hlk]
      unfold xe_copy
      dsimp only
      rw [sy_hp_row M hwa, sy_hp_row M hwb]
      dsimp only
      have hall : (List.range n.toNatClampNeg).all (fun i => xe_fit 0 (sy_val wb M bb (sp.toNatClampNeg + i))) = true := by
        rw [List.all_eq_true]
        intro i _
        rw [sy_val_int (by omega) (by omega) (by rw [nb]; rfl) (fun z => by omega)]
        rfl
      refine (if_pos (by rw [ea, eb, hall, decide_eq_true g3, decide_eq_true g4, decide_eq_true g5, decide_eq_true g6, decide_eq_true g7, decide_eq_true hcat, decide_eq_true (p := a < 1000000 ∧ bb < 1000000) ⟨Nat.lt_trans la (by decide), Nat.lt_trans lb (by decide)⟩]; rfl)).trans ?_
      have : xe_put (sy_enc M) a (wa.1, wa.2.1, va_cpy (sy_val wb M bb) (sy_val wa M a) sp.toNatClampNeg dp.toNatClampNeg n.toNatClampNeg) = sy_enc (sy_cpy M bb sp.toNatClampNeg a dp.toNatClampNeg n.toNatClampNeg) := by
        refine sy_enc_put hwa (fun j => ?_) (fun c hc => ?_)
        · rw [sy_val_int (by omega) (by omega) (by rw [na]; rfl) (fun z => by omega)]
          unfold va_cpy sy_cpy
          rw [if_pos rfl]
          split
          · exact sy_val_int (by omega) (by omega) (by rw [nb]; rfl) (fun z => by omega)
          · exact sy_val_int (by omega) (by omega) (by rw [na]; rfl) (fun z => by omega)
        · funext j
          unfold sy_cpy
          rw [if_neg hc]
      rw [this]
    · cases h
  · rename_i z1 z2 hlk
    split at h
    · rename_i a rest
      obtain ⟨h1, g⟩ := sy_cond h
      obtain ⟨hok, g⟩ := sy_condB g
      rw [Bool.and_eq_true, Nat.beq_eq] at h1
      obtain ⟨h0, hcat⟩ := h1
      have hcat := Nat.le_of_ble_eq_true hcat
      obtain ⟨t1, t2⟩ := sy_tx_hp M hok
      refine xe_End.step hat (fun call => ?_) (hk _ _ _ _ _ g)
      rw [hi, h0, xe_call170 hlk]
      dsimp only
      rw [t2]
      dsimp only
      rw [if_pos (by rw [decide_eq_true hcat]; simp [Nat.ble_eq, t1])]
    · cases h
  · rename_i z1 z2 hlk
    split at h
    · rename_i i1 a rest
      obtain ⟨h1, g⟩ := sy_cond h
      obtain ⟨hok, g⟩ := sy_condX g
      rw [Bool.and_eq_true] at hok
      obtain ⟨hok, hin⟩ := hok
      rw [Bool.and_eq_true, Nat.beq_eq] at h1
      obtain ⟨h0, hcat⟩ := h1
      have hcat := Nat.le_of_ble_eq_true hcat
      obtain ⟨t1, t2⟩ := sy_tx_hp M hok
      refine xe_End.step hat (fun call => ?_) (hk _ _ _ _ _ g)
      rw [hi, h0, xe_call171 hlk]
      dsimp only
      rw [t2]
      dsimp only
      rw [if_pos (by rw [decide_eq_true hcat, hin]; simp [Nat.ble_eq, t1])]
    · cases h
  · cases h
theorem sy_in_lt {i : Int32} {n : Nat} (h : xe_in i n = true) : i.toNatClampNeg < n := by
  unfold xe_in at h
  rw [Bool.and_eq_true, decide_eq_true_eq, decide_eq_true_eq] at h
  exact h.2
theorem sy_row58 : ∃ w, sy_row 58 = some w ∧ w.1 = 1004 ∧ w.2.1 = 12 ∧ ∀ j, j < 12 → sy_lkr w.2.2 j = some (59 + 5 * j) := by
  refine ⟨_, rfl, rfl, rfl, ?_⟩
  decide +kernel
set_option maxRecDepth 100000 in
theorem sy_step_ok {d : Nat} {q : xe_M} {ct : sy_C} {pc len : Nat} {i : Instr} {b : List Bool} {ls0 st : List Value} {M : sy_M} {k : sy_K} {r : xe_R × sy_M} (hat : xe_at (xe_code q) pc = some (i, len, b)) (hct : sy_cs d ct) (hk : ∀ pc1 ls1 st1 M1 r, k pc1 ls1 st1 M1 = some r → sy_E (d + 1) q pc1 ls1 st1 M1 r) (h : sy_step (xe_lk (xe_link q)) q ct pc i (xe_keep b ls0) st M k = some r) : sy_E (d + 1) q pc ls0 st M r := by
  cases i with
  | iconst n =>
    dsimp only [sy_step] at h
    exact xe_End.step hat (fun _ => rfl) (hk _ _ _ _ _ h)
  | bipush n =>
    dsimp only [sy_step] at h
    obtain ⟨hc, h⟩ := sy_cond h
    have hc := sy_rg_ok hc
    exact xe_End.step hat (fun _ => by dsimp only [xe_step]; rw [sy_push8 (by omega) (by omega)]) (hk _ _ _ _ _ h)
  | sipush n =>
    dsimp only [sy_step] at h
    obtain ⟨hc, h⟩ := sy_cond h
    have hc := sy_rg_ok hc
    exact xe_End.step hat (fun _ => by dsimp only [xe_step]; rw [sy_push16 (by omega) (by omega)]) (hk _ _ _ _ _ h)
  | lconst n =>
    dsimp only [sy_step] at h
    exact xe_End.step hat (fun _ => rfl) (hk _ _ _ _ _ h)
  | aconst_null =>
    dsimp only [sy_step] at h
    exact xe_End.step hat (fun _ => rfl) (hk _ _ _ _ _ h)
  | iload k1 =>
    dsimp only [sy_step] at h
    split at h
    · rename_i hm; exact xe_End.step hat (fun _ => by dsimp only [xe_step]; rw [hm]; try rfl) (hk _ _ _ _ _ h)
    · cases h
  | iload_n k1 =>
    dsimp only [sy_step] at h
    split at h
    · rename_i hm; exact xe_End.step hat (fun _ => by dsimp only [xe_step]; rw [hm]; try rfl) (hk _ _ _ _ _ h)
    · cases h
  | lload k1 =>
    dsimp only [sy_step] at h
    split at h
    · rename_i hm; exact xe_End.step hat (fun _ => by dsimp only [xe_step]; rw [hm]; try rfl) (hk _ _ _ _ _ h)
    · cases h
  | lload_n k1 =>
    dsimp only [sy_step] at h
    split at h
    · rename_i hm; exact xe_End.step hat (fun _ => by dsimp only [xe_step]; rw [hm]; try rfl) (hk _ _ _ _ _ h)
    · cases h
  | aload k1 =>
    dsimp only [sy_step] at h
    split at h
    · rename_i hm; exact xe_End.step hat (fun _ => by dsimp only [xe_step]; rw [hm]; try rfl) (hk _ _ _ _ _ h)
    · rename_i hm; exact xe_End.step hat (fun _ => by dsimp only [xe_step]; rw [hm]; try rfl) (hk _ _ _ _ _ h)
    · cases h
  | aload_n k1 =>
    dsimp only [sy_step] at h
    split at h
    · rename_i hm; exact xe_End.step hat (fun _ => by dsimp only [xe_step]; rw [hm]; try rfl) (hk _ _ _ _ _ h)
    · rename_i hm; exact xe_End.step hat (fun _ => by dsimp only [xe_step]; rw [hm]; try rfl) (hk _ _ _ _ _ h)
    · cases h
  | istore k1 =>
    dsimp only [sy_step] at h
    split at h
    · obtain ⟨hc, h⟩ := sy_cond h; rw [sy_nl_eq] at h; exact xe_End.step hat (fun _ => by dsimp only [xe_step]; rw [if_pos (by simpa [Nat.blt_eq] using hc)]) (hk _ _ _ _ _ h)
    · cases h
  | istore_n k1 =>
    dsimp only [sy_step] at h
    split at h
    · obtain ⟨hc, h⟩ := sy_cond h; rw [sy_nl_eq] at h; exact xe_End.step hat (fun _ => by dsimp only [xe_step]; rw [if_pos (by simpa [Nat.blt_eq] using hc)]) (hk _ _ _ _ _ h)
    · cases h
  | lstore k1 =>
    dsimp only [sy_step] at h
    split at h
    · obtain ⟨hc, h⟩ := sy_cond h; rw [sy_nl_eq] at h; exact xe_End.step hat (fun _ => by dsimp only [xe_step]; rw [if_pos (by simpa [Nat.blt_eq] using hc)]) (hk _ _ _ _ _ h)
    · cases h
  | lstore_n k1 =>
    dsimp only [sy_step] at h
    split at h
    · obtain ⟨hc, h⟩ := sy_cond h; rw [sy_nl_eq] at h; exact xe_End.step hat (fun _ => by dsimp only [xe_step]; rw [if_pos (by simpa [Nat.blt_eq] using hc)]) (hk _ _ _ _ _ h)
    · cases h
  | astore k1 =>
    dsimp only [sy_step] at h
    split at h
    · obtain ⟨hc, h⟩ := sy_cond h; rw [sy_nl_eq] at h; exact xe_End.step hat (fun _ => by dsimp only [xe_step]; rw [if_pos (by simpa [Nat.blt_eq] using hc)]) (hk _ _ _ _ _ h)
    · obtain ⟨hc, h⟩ := sy_cond h; rw [sy_nl_eq] at h; exact xe_End.step hat (fun _ => by dsimp only [xe_step]; rw [if_pos (by simpa [Nat.blt_eq] using hc)]) (hk _ _ _ _ _ h)
    · cases h
  | astore_n k1 =>
    dsimp only [sy_step] at h
    split at h
    · obtain ⟨hc, h⟩ := sy_cond h; rw [sy_nl_eq] at h; exact xe_End.step hat (fun _ => by dsimp only [xe_step]; rw [if_pos (by simpa [Nat.blt_eq] using hc)]) (hk _ _ _ _ _ h)
    · obtain ⟨hc, h⟩ := sy_cond h; rw [sy_nl_eq] at h; exact xe_End.step hat (fun _ => by dsimp only [xe_step]; rw [if_pos (by simpa [Nat.blt_eq] using hc)]) (hk _ _ _ _ _ h)
    · cases h
  | iinc k1 n =>
    dsimp only [sy_step] at h
    split at h
    · rename_i hm; rw [sy_nl_eq] at h; exact xe_End.step hat (fun _ => by dsimp only [xe_step]; rw [hm]; try rfl) (hk _ _ _ _ _ h)
    · cases h
  | iadd =>
    dsimp only [sy_step] at h
    split at h
    · exact xe_End.step hat (fun _ => rfl) (hk _ _ _ _ _ h)
    · cases h
  | isub =>
    dsimp only [sy_step] at h
    split at h
    · exact xe_End.step hat (fun _ => rfl) (hk _ _ _ _ _ h)
    · cases h
  | imul =>
    dsimp only [sy_step] at h
    split at h
    · exact xe_End.step hat (fun _ => rfl) (hk _ _ _ _ _ h)
    · cases h
  | iand =>
    dsimp only [sy_step] at h
    split at h
    · exact xe_End.step hat (fun _ => rfl) (hk _ _ _ _ _ h)
    · cases h
  | ior =>
    dsimp only [sy_step] at h
    split at h
    · exact xe_End.step hat (fun _ => rfl) (hk _ _ _ _ _ h)
    · cases h
  | ixor =>
    dsimp only [sy_step] at h
    split at h
    · exact xe_End.step hat (fun _ => rfl) (hk _ _ _ _ _ h)
    · cases h
  | ishl =>
    dsimp only [sy_step] at h
    split at h
    · exact xe_End.step hat (fun _ => rfl) (hk _ _ _ _ _ h)
    · cases h
  | ishr =>
    dsimp only [sy_step] at h
    split at h
    · exact xe_End.step hat (fun _ => rfl) (hk _ _ _ _ _ h)
    · cases h
  | iushr =>
    dsimp only [sy_step] at h
    split at h
    · exact xe_End.step hat (fun _ => rfl) (hk _ _ _ _ _ h)
    · cases h
  | idiv =>
    dsimp only [sy_step] at h
    split at h
    · split at h
      · cases h
      · rename_i hy; exact xe_End.step hat (fun _ => by dsimp only [xe_step]; rw [if_neg hy]) (hk _ _ _ _ _ h)
    · cases h
  | irem =>
    dsimp only [sy_step] at h
    split at h
    · split at h
      · cases h
      · rename_i hy; exact xe_End.step hat (fun _ => by dsimp only [xe_step]; rw [if_neg hy]) (hk _ _ _ _ _ h)
    · cases h
  | ineg =>
    dsimp only [sy_step] at h
    split at h
    · exact xe_End.step hat (fun _ => rfl) (hk _ _ _ _ _ h)
    · cases h
  | ladd =>
    dsimp only [sy_step] at h
    split at h
    · exact xe_End.step hat (fun _ => rfl) (hk _ _ _ _ _ h)
    · cases h
  | lmul =>
    dsimp only [sy_step] at h
    split at h
    · exact xe_End.step hat (fun _ => rfl) (hk _ _ _ _ _ h)
    · cases h
  | ldiv =>
    dsimp only [sy_step] at h
    split at h
    · split at h
      · cases h
      · rename_i hy; exact xe_End.step hat (fun _ => by dsimp only [xe_step]; rw [if_neg hy]) (hk _ _ _ _ _ h)
    · cases h
  | lcmp =>
    dsimp only [sy_step] at h
    split at h
    · exact xe_End.step hat (fun _ => rfl) (hk _ _ _ _ _ h)
    · cases h
  | i2l =>
    dsimp only [sy_step] at h
    split at h
    · exact xe_End.step hat (fun _ => rfl) (hk _ _ _ _ _ h)
    · cases h
  | l2i =>
    dsimp only [sy_step] at h
    split at h
    · exact xe_End.step hat (fun _ => rfl) (hk _ _ _ _ _ h)
    · cases h
  | i2c =>
    dsimp only [sy_step] at h
    split at h
    · exact xe_End.step hat (fun _ => rfl) (hk _ _ _ _ _ h)
    · cases h
  | dup =>
    dsimp only [sy_step] at h
    split at h
    · obtain ⟨hc, h⟩ := sy_cond h; exact xe_End.step hat (fun _ => by dsimp only [xe_step]; rw [if_pos (Nat.eq_of_beq_eq_true hc)]) (hk _ _ _ _ _ h)
    · cases h
  | dup2 =>
    dsimp only [sy_step] at h
    split at h
    · obtain ⟨hc, h⟩ := sy_cond h; rw [Bool.and_eq_true, Nat.beq_eq, Nat.beq_eq] at hc; exact xe_End.step hat (fun _ => by dsimp only [xe_step]; rw [if_pos hc]) (hk _ _ _ _ _ h)
    · cases h
  | pop =>
    dsimp only [sy_step] at h
    split at h
    · obtain ⟨hc, h⟩ := sy_cond h; exact xe_End.step hat (fun _ => by dsimp only [xe_step]; rw [if_pos (Nat.eq_of_beq_eq_true hc)]) (hk _ _ _ _ _ h)
    · cases h
  | goto off =>
    dsimp only [sy_step] at h
    obtain ⟨hj, h⟩ := sy_jump_ok h
    exact xe_End.step hat (fun _ => hj _) (hk _ _ _ _ _ h)
  | ifCond c off =>
    dsimp only [sy_step] at h
    split at h
    · obtain ⟨hc, h⟩ := sy_cond h
      rcases sy_if_ok h with ⟨hx, h⟩ | ⟨hx, h⟩
      · exact xe_End.step hat (fun _ => by dsimp only [xe_step]; rw [if_pos (sy_nn_ok hc), if_pos hx]) (hk _ _ _ _ _ h)
      · exact xe_End.step hat (fun _ => by dsimp only [xe_step]; rw [if_pos (sy_nn_ok hc), if_neg (by rw [hx]; exact Bool.false_ne_true)]) (hk _ _ _ _ _ h)
    · cases h
  | if_icmp c off =>
    dsimp only [sy_step] at h
    split at h
    · obtain ⟨hc, h⟩ := sy_cond h
      rcases sy_if_ok h with ⟨hx, h⟩ | ⟨hx, h⟩
      · exact xe_End.step hat (fun _ => by dsimp only [xe_step]; rw [if_pos (sy_nn_ok hc), if_pos hx]) (hk _ _ _ _ _ h)
      · exact xe_End.step hat (fun _ => by dsimp only [xe_step]; rw [if_pos (sy_nn_ok hc), if_neg (by rw [hx]; exact Bool.false_ne_true)]) (hk _ _ _ _ _ h)
    · cases h
  | ifnonnull off =>
    dsimp only [sy_step] at h
    split at h
    · obtain ⟨hj, h⟩ := sy_jump_ok h
      exact xe_End.step hat (fun _ => hj _) (hk _ _ _ _ _ h)
    · exact xe_End.step hat (fun _ => rfl) (hk _ _ _ _ _ h)
    · cases h
  | tableswitch dflt lo hi offs =>
    dsimp only [sy_step] at h
    split at h
    · rename_i x rest
      obtain ⟨hc, h⟩ := sy_cond h
      have hc := of_decide_eq_true hc
      rcases sy_sw_ok offs.toList lo hc.2.1 (by omega) h with ⟨j, o, a1, a2, a3⟩ | ⟨a1, a2⟩
      · obtain ⟨hj, a3⟩ := sy_jump_ok a3
        have hlt : j < offs.toList.length := by
          rcases Nat.lt_or_ge j offs.toList.length with z | z
          · exact z
          · rw [List.getElem?_eq_none z] at a1; cases a1
        refine xe_End.step hat (fun _ => ?_) (hk _ _ _ _ _ a3)
        dsimp only [xe_step]
        rw [if_neg (by omega)]
        have : (x.toInt - lo).toNat = j := by omega
        rw [this, a1]
        exact hj _
      · obtain ⟨hj, a2⟩ := sy_jump_ok a2
        refine xe_End.step hat (fun _ => ?_) (hk _ _ _ _ _ a2)
        dsimp only [xe_step]
        rw [if_pos]
        · exact hj _
        · rcases Int.lt_or_le x.toInt lo with z | z
          · exact Or.inl z
          · refine Or.inr ?_
            rcases Int.lt_or_le hi x.toInt with y | y
            · exact y
            · exact absurd (by omega) (a1 (x.toInt - lo).toNat (by omega))
    · cases h
  | ldc idx =>
    dsimp only [sy_step] at h
    split at h
    · rename_i hm; exact xe_End.step hat (fun _ => by dsimp only [xe_step]; rw [hm]; try rfl) (hk _ _ _ _ _ h)
    · rename_i hm; exact xe_End.step hat (fun _ => by dsimp only [xe_step]; rw [hm]; try rfl) (hk _ _ _ _ _ h)
    · cases h
  | ldc_w idx =>
    dsimp only [sy_step] at h
    split at h
    · rename_i hm; exact xe_End.step hat (fun _ => by dsimp only [xe_step]; rw [hm]; try rfl) (hk _ _ _ _ _ h)
    · cases h
  | ldc2_w idx =>
    dsimp only [sy_step] at h
    split at h
    · rename_i hm; exact xe_End.step hat (fun _ => by dsimp only [xe_step]; rw [hm]; try rfl) (hk _ _ _ _ _ h)
    · cases h
  | getfield idx =>
    dsimp only [sy_step] at h
    exact sy_getf_ok hat hk h
  | putfield idx =>
    dsimp only [sy_step] at h
    exact sy_putf_ok hat hk h
  | arraylength =>
    dsimp only [sy_step] at h
    split at h
    · rename_i a rest
      obtain ⟨hc, h⟩ := sy_condB h
      refine xe_End.step hat (fun _ => ?_) (hk _ _ _ _ _ h)
      dsimp only [xe_step]
      rw [Bool.or_eq_true, Nat.beq_eq] at hc
      by_cases ha : a = 1000000
      · subst ha
        rw [sy_hp_script]
        rfl
      · obtain ⟨w, hw, e⟩ := sy_is_row (hc.resolve_right ha)
        have hl := sy_row_lt hw
        rw [sy_hp_row M hw]
        dsimp only
        have e2 : sy_len M a = w.2.1 := by
          unfold sy_len sy_li sy_ln
          have : Nat.beq a 1000000 = false := by
            cases hb : Nat.beq a 1000000 with
            | false => rfl
            | true => exact absurd (Nat.eq_of_beq_eq_true hb) ha
          rw [this, hw]
          dsimp only [cond_false]
          rw [e]
          rfl
        rw [e2, if_pos (by rw [e]; simp [Nat.blt_eq]; omega)]
    · cases h
  | iaload =>
    dsimp only [sy_step] at h
    split at h
    · rename_i i1 a rest
      obtain ⟨hc, h⟩ := sy_condX h
      refine xe_End.step hat (fun _ => ?_) (hk _ _ _ _ _ h)
      dsimp only [xe_step, xe_ld]
      by_cases ha : a = 1000000
      · subst ha
        rw [sy_hp_script]
        dsimp only
        have hc : xe_in i1 (M 134 0).toNatClampNeg = true := hc
        rw [if_pos (by rw [hc]; rfl)]
      · have e2 : sy_len M a = sy_ln 1000 a := by
          unfold sy_len sy_li
          have : Nat.beq a 1000000 = false := by
            cases hb : Nat.beq a 1000000 with
            | false => rfl
            | true => exact absurd (Nat.eq_of_beq_eq_true hb) ha
          rw [this]
          rfl
        rw [e2] at hc
        obtain ⟨w, hw, e, e3⟩ := sy_ln_row (sy_in_lt hc)
        have hl := sy_row_lt hw
        rw [sy_hp_row M hw]
        dsimp only
        rw [if_pos (by rw [e, e3, hc]; simp [Nat.blt_eq]; omega), sy_val_int (by omega) (by omega) (by rw [sy_row_arr hw (Or.inl e)]; rfl) (fun z => by omega)]
    · cases h
  | baload =>
    dsimp only [sy_step] at h
    split at h
    · rename_i i1 a rest
      obtain ⟨hc, h⟩ := sy_condX h
      refine xe_End.step hat (fun _ => ?_) (hk _ _ _ _ _ h)
      dsimp only [xe_step, xe_ld]
      obtain ⟨w, hw, e, e3⟩ := sy_ln_row (sy_in_lt hc)
      have hl := sy_row_lt hw
      rw [sy_hp_row M hw]
      dsimp only
      rw [if_pos (by rw [e, e3, hc]; simp [Nat.blt_eq]; omega), sy_val_int (by omega) (by omega) (by rw [sy_row_arr hw (Or.inr (Or.inr e))]; rfl) (fun z => by omega)]
    · cases h
  | laload =>
    dsimp only [sy_step] at h
    split at h
    · rename_i i1 a rest
      obtain ⟨hc, h⟩ := sy_condX h
      refine xe_End.step hat (fun _ => ?_) (hk _ _ _ _ _ h)
      dsimp only [xe_step, xe_ld]
      obtain ⟨w, hw, e, e3⟩ := sy_ln_row (sy_in_lt hc)
      have hl := sy_row_lt hw
      rw [sy_hp_row M hw]
      dsimp only
      rw [if_pos (by rw [e, e3, hc]; simp [Nat.blt_eq]; omega), sy_val_long e]
    · cases h
  | aaload =>
    dsimp only [sy_step] at h
    split at h
    · rename_i i1 a rest
      obtain ⟨ha, h⟩ := sy_cond h
      obtain ⟨hc, g⟩ := sy_condX h
      have ha := Nat.eq_of_beq_eq_true ha
      subst ha
      refine xe_End.step hat (fun _ => ?_) (hk _ _ _ _ _ g)
      dsimp only [xe_step, xe_ld]
      obtain ⟨w, hw, e, e3, e4⟩ := sy_row58
      rw [sy_hp_row M hw]
      dsimp only
      rw [if_pos (by rw [e, e3, hc]; simp [Nat.blt_eq]), sy_val_ref (by omega) (e4 _ (sy_in_lt hc))]
    · cases h
  | iastore =>
    dsimp only [sy_step] at h
    split at h
    · rename_i v i1 a rest
      obtain ⟨hc, h⟩ := sy_condX h
      obtain ⟨w, hw, e, e3⟩ := sy_ln_row (sy_in_lt hc)
      have hl := sy_row_lt hw
      refine xe_End.step hat (fun _ => ?_) (hk _ _ _ _ _ h)
      dsimp only [xe_step, xe_sto]
      rw [sy_hp_row M hw]
      dsimp only
      have hc : xe_in i1 (sy_ln 1000 a) = true := hc
      have hfit : xe_fit 0 (.int v) = true := rfl
      have ha2 : a < 1000000 := Nat.lt_trans hl (by decide)
      rw [if_pos (by rw [e, e3, hc, hfit, decide_eq_true ha2]; rfl), sy_put_int hw (by omega) (by omega) (by rw [sy_row_arr hw (Or.inl e)]; rfl) (fun z => by omega)]
    · cases h
  | bastore =>
    dsimp only [sy_step] at h
    split at h
    · rename_i v i1 a rest
      obtain ⟨hc, h⟩ := sy_condX h
      obtain ⟨hb, h⟩ := sy_condB h
      obtain ⟨w, hw, e, e3⟩ := sy_ln_row (sy_in_lt hc)
      have hl := sy_row_lt hw
      refine xe_End.step hat (fun _ => ?_) (hk _ _ _ _ _ h)
      dsimp only [xe_step, xe_sto]
      rw [sy_hp_row M hw]
      dsimp only
      have hc : xe_in i1 (sy_ln 1002 a) = true := hc
      have hfit : xe_fit 2 (.int v) = true := (by unfold xe_fit; unfold sy_bo at hb; simpa using hb)
      have ha2 : a < 1000000 := Nat.lt_trans hl (by decide)
      rw [if_pos (by rw [e, e3, hc, hfit, decide_eq_true ha2]; rfl), sy_put_int hw (by omega) (by omega) (by rw [sy_row_arr hw (Or.inr (Or.inr e))]; rfl) (fun z => by omega)]
    · cases h
  | lastore =>
    dsimp only [sy_step] at h
    split at h
    · rename_i v i1 a rest
      obtain ⟨hc, h⟩ := sy_condX h
      obtain ⟨w, hw, e, e3⟩ := sy_ln_row (sy_in_lt hc)
      have hl := sy_row_lt hw
      refine xe_End.step hat (fun _ => ?_) (hk _ _ _ _ _ h)
      dsimp only [xe_step, xe_sto]
      rw [sy_hp_row M hw]
      dsimp only
      have hc : xe_in i1 (sy_ln 1001 a) = true := hc
      have hfit : xe_fit 1 (.long v) = true := rfl
      have ha2 : a < 1000000 := Nat.lt_trans hl (by decide)
      rw [if_pos (by rw [e, e3, hc, hfit, decide_eq_true ha2]; rfl), sy_put_long hw e]
    · cases h
  | new idx =>
    dsimp only [sy_step] at h
    exact sy_new_ok hat h
  | invokestatic idx =>
    dsimp only [sy_step] at h
    exact sy_call_ok hat (fun _ => rfl) hct hk h
  | invokevirtual idx =>
    dsimp only [sy_step] at h
    exact sy_call_ok hat (fun _ => rfl) hct hk h
  | invokespecial idx =>
    dsimp only [sy_step] at h
    exact sy_call_ok hat (fun _ => rfl) hct hk h
  | ireturn =>
    dsimp only [sy_step] at h
    split at h
    · split at h
      · rename_i hr
        have h := Option.some.inj h
        rw [← h]
        exact xe_End.last hat (fun _ => by dsimp only [xe_step]; rw [hr]; rfl)
      · rename_i hr
        obtain ⟨hc, h⟩ := sy_condB h
        have h := Option.some.inj h
        rw [← h]
        exact xe_End.last hat (fun _ => by dsimp only [xe_step]; rw [hr]; exact if_pos (by unfold sy_bo at hc; simpa using hc))
      · cases h
    · cases h
  | areturn =>
    dsimp only [sy_step] at h
    split at h
    · obtain ⟨hc, h⟩ := sy_cond h
      have h := Option.some.inj h
      rw [← h]
      exact xe_End.last hat (fun _ => by dsimp only [xe_step]; rw [if_pos hc])
    · obtain ⟨hc, h⟩ := sy_cond h
      have h := Option.some.inj h
      rw [← h]
      exact xe_End.last hat (fun _ => by dsimp only [xe_step]; rw [if_pos hc])
    · cases h
  | return_ =>
    dsimp only [sy_step] at h
    split at h
    · obtain ⟨hc, h⟩ := sy_cond h
      have h := Option.some.inj h
      rw [← h]
      exact xe_End.last hat (fun _ => by dsimp only [xe_step]; rw [if_pos hc])
    · cases h
  | _ => cases h
theorem sy_go_ok {d : Nat} {q : xe_M} : ∀ {cu : sy_U} {pc : Nat} {ls st : List Value} {M : sy_M} {z : sy_O} {r : xe_R × sy_M}, sy_us d q cu → (z = some r → sy_E d q pc ls st M r) → sy_go cu pc ls st M z = some r → sy_E d q pc ls st M r
  | [], _, _, _, _, _, _, _, hz, h => hz h
  | x :: l, pc, ls, st, M, z, r, hu, hz, h => by
    unfold sy_go at h
    dsimp only at h
    cases hb : Nat.beq x.1 pc with
    | true =>
      rw [hb] at h
      have e := Nat.eq_of_beq_eq_true hb
      rw [← e]
      exact hu.1 ls st M r h
    | false =>
      rw [hb] at h
      exact sy_go_ok hu.2 hz h
/-- the rows of a piece are the method's -/
def sy_sub (q : xe_M) (C : List xe_I) : Bool := C.all fun r => decide (xe_at (xe_code q) r.1 = some r.2)
theorem sy_srch_ok : ∀ {C : List xe_I} {pc : Nat} {r : xe_I} {t : List xe_I}, sy_srch C pc = some (r, t) → r.1 = pc ∧ r ∈ C ∧ ∀ x ∈ t, x ∈ C
  | [], _, _, _, h => by cases h
  | c :: l, pc, r, t, h => by
    unfold sy_srch at h
    cases hb : Nat.beq c.1 pc with
    | true =>
      rw [hb] at h
      have h : (c, l) = (r, t) := Option.some.inj h
      have h1 : c = r := congrArg Prod.fst h
      have h2 : l = t := congrArg Prod.snd h
      subst h1; subst h2
      exact ⟨Nat.eq_of_beq_eq_true hb, List.mem_cons_self, fun x hx => List.mem_cons_of_mem _ hx⟩
    | false =>
      rw [hb] at h
      obtain ⟨h1, h2, h3⟩ := sy_srch_ok h
      exact ⟨h1, List.mem_cons_of_mem _ h2, fun x hx => List.mem_cons_of_mem _ (h3 x hx)⟩
theorem sy_ftch_ok {C rest : List xe_I} {pc : Nat} {r : xe_I} {t : List xe_I} (hr : ∀ x ∈ rest, x ∈ C) (h : sy_ftch C rest pc = some (r, t)) : r.1 = pc ∧ r ∈ C ∧ ∀ x ∈ t, x ∈ C := by
  cases rest with
  | nil => exact sy_srch_ok h
  | cons c l =>
    have h : (bif Nat.beq c.1 pc then some (c, l) else sy_srch C pc) = some (r, t) := h
    cases hb : Nat.beq c.1 pc with
    | true =>
      rw [hb] at h
      have h : (c, l) = (r, t) := Option.some.inj h
      have h1 : c = r := congrArg Prod.fst h
      have h2 : l = t := congrArg Prod.snd h
      subst h1; subst h2
      exact ⟨Nat.eq_of_beq_eq_true hb, hr _ List.mem_cons_self, fun x hx => hr x (List.mem_cons_of_mem _ hx)⟩
    | false =>
      rw [hb] at h
      exact sy_srch_ok h
theorem sy_run_ok {d : Nat} {q : xe_M} {C : List xe_I} {ct : sy_C} {cu : sy_U} (hC : sy_sub q C = true) (hct : sy_cs d ct) (hcu : sy_us (d + 1) q cu) : ∀ (n : Nat) (rest : List xe_I) (pc : Nat) (ls st : List Value) (M : sy_M) (r : xe_R × sy_M), (∀ x ∈ rest, x ∈ C) → sy_run (xe_lk (xe_link q)) q C ct cu n rest pc ls st M = some r → sy_E (d + 1) q pc ls st M r
  | 0, _, _, _, _, _, _, _, h => by cases h
  | n + 1, rest, pc, ls, st, M, r, hr, h => by
    unfold sy_run at h
    split at h
    · cases h
    · rename_i w t hf
      obtain ⟨h1, h2, h3⟩ := sy_ftch_ok hr hf
      have hat : xe_at (xe_code q) w.1 = some (w.2.1, w.2.2.1, w.2.2.2) := by
        unfold sy_sub at hC
        rw [List.all_eq_true] at hC
        exact of_decide_eq_true (hC w h2)
      rw [← h1]
      rw [sy_kp_eq] at h
      exact sy_step_ok hat hct (fun pc1 ls1 st1 M1 r1 g => sy_go_ok hcu (fun hz => sy_run_ok hC hct hcu n t pc1 ls1 st1 M1 r1 h3 hz) g) h
theorem sy_run_by {d : Nat} {lk : Nat → xe_L} {q : xe_M} {C : List xe_I} {ct : sy_C} {cu : sy_U} {n pc : Nat} {ls st : List Value} {M : sy_M} {r : xe_R × sy_M} (h : sy_run lk q C ct cu n [] pc ls st M = some r) (hL : ∀ idx, lk idx = xe_lk (xe_link q) idx) (hC : sy_sub q C = true) (hct : sy_cs d ct) (hcu : sy_us (d + 1) q cu) : sy_E (d + 1) q pc ls st M r := by
  have e : lk = xe_lk (xe_link q) := funext hL
  subst e
  exact sy_run_ok hC hct hcu n [] pc ls st M r (fun x hx => by cases hx) h
theorem sy_snd.deep {d d1 y : Nat} {f : List Value → sy_M → (sy_O → sy_O) → sy_O} (h : sy_snd d y f) (hd : d ≤ d1) : sy_snd d1 y f := by
  intro as M K r hr
  obtain ⟨o, h1, h2⟩ := h as M K r hr
  refine ⟨o, h1, fun r1 e => ?_⟩
  obtain ⟨q1, a1, a2, a3⟩ := h2 r1 e
  exact ⟨q1, a1, a2, xe_End.deep hd a3⟩
theorem sy_lk_no {N : Nat} : ∀ {l : List (Nat × xe_L)} {idx : Nat}, l.all (fun r => Nat.blt r.1 N) = true → N ≤ idx → xe_lk l idx = (999, 0, 0, 0)
  | [], _, _, _ => rfl
  | r :: l, idx, h, hi => by
    rw [List.all_cons, Bool.and_eq_true] at h
    unfold xe_lk
    have h1 : r.1 < N := by simpa [Nat.blt_eq] using h.1
    rw [if_neg (by rw [Nat.beq_eq]; omega)]
    exact sy_lk_no h.2 hi
theorem sy_lk_by {N : Nat} {t : Nat → xe_L} {l : List (Nat × xe_L)} (h : l.all (fun r => Nat.blt r.1 N) = true) (h1 : ∀ i : Fin N, t i.1 = xe_lk l i.1) (idx : Nat) : (bif Nat.blt idx N then t idx else (999, 0, 0, 0)) = xe_lk l idx := by
  cases hb : Nat.blt idx N with
  | true => exact h1 ⟨idx, by simpa [Nat.blt_eq] using hb⟩
  | false =>
    rw [sy_lk_no h]
    · rfl
    · rcases Nat.lt_or_ge idx N with z | z
      · have : Nat.blt idx N = true := by simpa [Nat.blt_eq] using z
        rw [this] at hb
        cases hb
      · exact z
theorem sy_E.deep {d d1 : Nat} {q : xe_M} {pc : Nat} {ls st : List Value} {M : sy_M} {r : xe_R × sy_M} (hd : d ≤ d1) (e : sy_E d q pc ls st M r) : sy_E d1 q pc ls st M r := xe_End.deep hd e
theorem sy_EC.deep {d d1 y : Nat} {as : List Value} {M : sy_M} {r : xe_R × sy_M} (hd : d ≤ d1) (e : sy_EC d y as M r) : sy_EC d1 y as M r := by
  obtain ⟨q1, h1, h2, h3⟩ := e
  exact ⟨q1, h1, h2, h3.deep hd⟩
theorem sy_xi_ok {l : List Value} {f : Int32 → List Value → sy_O} {r : xe_R × sy_M} (h : sy_xi l f = some r) : ∃ x t, l = .int x :: t ∧ f x t = some r := by
  unfold sy_xi at h
  dsimp only at h
  split at h
  · exact ⟨_, _, rfl, h⟩
  · cases h
theorem sy_xl_ok {l : List Value} {f : Int64 → List Value → sy_O} {r : xe_R × sy_M} (h : sy_xl l f = some r) : ∃ x t, l = .long x :: t ∧ f x t = some r := by
  unfold sy_xl at h
  dsimp only at h
  split at h
  · exact ⟨_, _, rfl, h⟩
  · cases h
theorem sy_xa_ok {l : List Value} {f : Nat → List Value → sy_O} {r : xe_R × sy_M} (h : sy_xa l f = some r) : ∃ x t, l = .ref x :: t ∧ f x t = some r := by
  unfold sy_xa at h
  dsimp only at h
  split at h
  · exact ⟨_, _, rfl, h⟩
  · cases h
theorem sy_xc_ok {a : Nat} {l : List Value} {f : List Value → sy_O} {r : xe_R × sy_M} (h : sy_xc a l f = some r) : ∃ t, l = .ref a :: t ∧ f t = some r := by
  unfold sy_xc at h
  dsimp only at h
  split at h
  · obtain ⟨hc, g⟩ := sy_cond h
    have hc := Nat.eq_of_beq_eq_true hc
    subst hc
    exact ⟨_, rfl, g⟩
  · cases h
theorem sy_xv_ok {l : List Value} {f : Value → List Value → sy_O} {r : xe_R × sy_M} (h : sy_xv l f = some r) : ∃ x t, l = x :: t ∧ f x t = some r := by
  unfold sy_xv at h
  dsimp only at h
  split at h
  · exact ⟨_, _, rfl, h⟩
  · cases h
theorem sy_xo_ok {l : List Value} {f : List Value → sy_O} {r : xe_R × sy_M} (h : sy_xo l f = some r) : ∃ t, l = xe_no :: t ∧ f t = some r := by
  unfold sy_xo at h
  dsimp only at h
  split at h
  · exact ⟨_, rfl, h⟩
  · cases h
theorem sy_xn_ok {l : List Value} {f : sy_O} {r : xe_R × sy_M} (h : sy_xn l f = some r) : l = [] ∧ f = some r := by
  unfold sy_xn at h
  dsimp only at h
  split at h
  · exact ⟨rfl, h⟩
  · cases h
