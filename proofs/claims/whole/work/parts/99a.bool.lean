/-! ===== the reference's booleans stay booleans: our small machine keeps them so ===== -/
def bh (h : xe_H) : Prop := 121 < h.1 ∧ ∃ (n : Nat) (f : Nat → Value), h.2.2 121 = some (11, n, f) ∧ ∀ j, j = 15 ∨ j = 16 ∨ j = 18 → xe_fit 2 (f j) = true
def bhN (x : xe_N) : Prop := match x with
  | .inl y => bh y.2.2.2
  | .inr y => bh y.2
def bqp (x : Option xe_N) : Prop := ∀ y, x = some y → bhN y
theorem bqp_n : bqp none := fun _ h => by cases h
theorem bqp_l {pc : Nat} {ls st : List Value} {h : xe_H} (hb : bh h) : bqp (some (.inl (pc, ls, st, h))) := fun y e => by
  have e := Option.some.inj e
  rw [← e]
  exact hb
theorem bqp_r {r : xe_R} {h : xe_H} (hb : bh h) : bqp (some (.inr (r, h))) := fun y e => by
  have e := Option.some.inj e
  rw [← e]
  exact hb
/-- a link keeps them -/
def lnk1 (l : xe_L) : Bool := bif Nat.beq l.1 1 && (Nat.beq l.2.1 11 && (Nat.beq l.2.2.1 15 || (Nat.beq l.2.2.1 16 || Nat.beq l.2.2.1 18))) then Nat.beq (l.2.2.2.toNat / 10) 2 else (!(Nat.beq l.1 2) || (!(Nat.beq l.2.1 11) && !(Nat.beq l.2.2.2.toNat 11)))
def lnkb (q : xe_M) : Bool := (xe_link q).all (fun r => lnk1 r.2)
theorem lnk_at : ∀ {l : List (Nat × xe_L)} {i : Nat}, l.all (fun r => lnk1 r.2) = true → lnk1 (xe_lk l i) = true
  | [], _, _ => rfl
  | r :: l, i, h => by
    rw [List.all_cons, Bool.and_eq_true] at h
    unfold xe_lk
    split
    · exact h.1
    · exact lnk_at h.2
theorem bh_put {h : xe_H} {a : Nat} {o : xe_O} {f : Nat → Value} (hb : bh h) (ho : h.2.2 a = some o) (hf : o.1 = 11 → ∀ j, j = 15 ∨ j = 16 ∨ j = 18 → xe_fit 2 (o.2.2 j) = true → xe_fit 2 (f j) = true) : bh (xe_put h a (o.1, o.2.1, f)) := by
  obtain ⟨h1, n, g, e, hg⟩ := hb
  refine ⟨h1, ?_⟩
  by_cases c : a = 121
  · subst c
    have : o = (11, n, g) := Option.some.inj (ho.symm.trans e)
    subst this
    exact ⟨n, f, (if_pos rfl : (if (121 : Nat) = 121 then some ((11, n, f) : xe_O) else h.2.2 121) = some (11, n, f)), fun j hj => hf rfl j hj (hg j hj)⟩
  · refine ⟨n, g, ?_, hg⟩
    show (if 121 = a then _ else h.2.2 121) = _
    rw [if_neg (fun z => c z.symm)]; exact e
theorem bh_new {h : xe_H} {o : xe_O} (hb : bh h) : bh (xe_new h o) := by
  obtain ⟨h1, n, g, e, hg⟩ := hb
  refine ⟨Nat.lt_succ_of_lt h1, n, g, ?_, hg⟩
  show (if 121 = h.1 then _ else h.2.2 121) = _
  rw [if_neg (fun z => Nat.lt_irrefl 121 (Nat.lt_of_lt_of_eq h1 z.symm))]; exact e
theorem bqp_putf {q : xe_M} (hq : lnkb q = true) {pc idx : Nat} {ls st : List Value} {h : xe_H} (hb : bh h) : bqp (xe_putf q pc idx ls st h) := by
  have hl := lnk_at (i := idx) hq
  unfold xe_putf
  split
  · split
    · rename_i o ho
      split
      · rename_i ci k c e
        rw [e] at hl
        split
        · rename_i hc
          refine bqp_l (bh_put hb ho (fun h12 j hj old => ?_))
          rw [Bool.and_eq_true, Bool.and_eq_true, Bool.and_eq_true] at hc
          unfold xe_upd
          split
          · rename_i ej
            have e1 : ci = 11 := (Nat.eq_of_beq_eq_true hc.1).symm.trans h12
            subst e1
            subst ej
            have e2 : c.toNat / 10 = 2 := by
              rcases hj with z | z | z <;> (subst z; exact Nat.eq_of_beq_eq_true hl)
            rw [← e2]
            exact hc.2.2.1
          · exact old
        · exact bqp_n
      · rename_i ci k c e
        rw [e] at hl
        split
        · rename_i hc
          refine bqp_l (bh_put hb ho (fun h12 => ?_))
          rw [Bool.and_eq_true, Bool.or_eq_true] at hc
          have hl2 : (!(Nat.beq ci 11) && !(Nat.beq c.toNat 11)) = true := hl
          rw [Bool.and_eq_true] at hl2
          rcases hc.1 with z | z
          · rw [← Nat.eq_of_beq_eq_true z, h12] at hl2
            exact absurd hl2.1 (by decide)
          · rw [← Nat.eq_of_beq_eq_true z, h12] at hl2
            exact absurd hl2.2 (by decide)
        · exact bqp_n
      · exact bqp_n
    · exact bqp_n
  · exact bqp_n
theorem bqp_getf {q : xe_M} {pc idx : Nat} {ls st : List Value} {h : xe_H} (hb : bh h) : bqp (xe_getf q pc idx ls st h) := by
  unfold xe_getf
  repeat' split
  all_goals first | exact bqp_n | exact bqp_l hb
theorem bqp_ld {tag tag2 pc : Nat} {ls st : List Value} {h : xe_H} (hb : bh h) : bqp (xe_ld h pc ls st tag tag2) := by
  unfold xe_ld
  repeat' split
  all_goals first | exact bqp_n | exact bqp_l hb
theorem bqp_sto {tag kind pc : Nat} (ht : tag ≠ 11) {ls st : List Value} {h : xe_H} (hb : bh h) : bqp (xe_sto h pc ls st tag kind) := by
  unfold xe_sto
  split
  · split
    · rename_i o ho
      split
      · rename_i hc
        refine bqp_l (bh_put hb ho (fun h12 => ?_))
        rw [Bool.and_eq_true] at hc
        exact absurd ((eq_of_beq hc.1).symm.trans h12) ht
      · exact bqp_n
    · exact bqp_n
  · exact bqp_n
theorem bqp_jump {pc : Nat} {off : Int} {ls st : List Value} {h : xe_H} (hb : bh h) : bqp (xe_jump pc off ls st h) := by
  unfold xe_jump
  split
  · exact bqp_l hb
  · exact bqp_n
theorem bqp_copy {pc : Nat} {ls st : List Value} {h : xe_H} (hb : bh h) : bqp (xe_copy pc ls st h) := by
  unfold xe_copy
  split
  · split
    · rename_i o o2 ho ho2
      split
      · rename_i hc
        refine bqp_l (bh_put hb ho2 (fun h12 => ?_))
        rw [Bool.and_eq_true, Bool.and_eq_true] at hc
        have := hc.2.1
        rw [h12] at this
        exact absurd this (by decide)
      · exact bqp_n
    · exact bqp_n
  · exact bqp_n
theorem bqp_back {q : xe_M} {pc : Nat} {ls rest : List Value} {x : Option (xe_R × xe_H)} (hx : ∀ r, x = some r → bh r.2) : bqp (xe_back q pc ls rest x) := by
  unfold xe_back
  split
  · exact bqp_l (hx _ rfl)
  · split
    · exact bqp_l (hx _ rfl)
    · split
      · exact bqp_r (hx _ rfl)
      · exact bqp_n
  · exact bqp_n
theorem bqp_new1 {q : xe_M} {K : xe_K} {pc idx : Nat} {ls st : List Value} {h : xe_H} (hb : bh h) : bqp (xe_new1 q K pc idx ls st h) := by
  unfold xe_new1
  repeat' split
  all_goals first | exact bqp_n | exact bqp_l (bh_new hb) | exact bqp_r ⟨Nat.lt_succ_of_lt hb.1, hb.2⟩
theorem bqp_newa {pc len tag : Nat} {v : Value} {ls st : List Value} {h : xe_H} (hb : bh h) : bqp (xe_newa pc len ls st h tag v) := by
  unfold xe_newa
  repeat' split
  all_goals first | exact bqp_n | exact bqp_l (bh_new hb)
theorem bqp_call {q : xe_M} {call : Nat → List Value → xe_H → Option (xe_R × xe_H)} (hc : ∀ y as h r, bh h → call y as h = some r → bh r.2) {kd pc idx : Nat} {ls st : List Value} {h : xe_H} (hb : bh h) : bqp (xe_call q call kd pc idx ls st h) := by
  unfold xe_call
  repeat' split
  all_goals first | exact bqp_n | exact bqp_back (fun r e => hc _ _ _ r hb e) | exact bqp_l hb | exact bqp_copy hb
set_option maxHeartbeats 4000000 in
theorem bqp_step {q : xe_M} (hq : lnkb q = true) {K : xe_K} {call : Nat → List Value → xe_H → Option (xe_R × xe_H)} (hc : ∀ y as h r, bh h → call y as h = some r → bh r.2) {pc : Nat} {i : Instr} {ls st : List Value} {h : xe_H} (hb : bh h) : bqp (xe_step q K call pc i ls st h) := by
  cases i with
  | putfield idx => exact bqp_putf hq hb
  | getfield idx => exact bqp_getf hb
  | invokestatic idx => exact bqp_call hc hb
  | invokevirtual idx => exact bqp_call hc hb
  | invokespecial idx => exact bqp_call hc hb
  | new idx => exact bqp_new1 hb
  | newarray t => cases t <;> first | exact bqp_newa hb | exact bqp_n
  | iaload => exact bqp_ld hb
  | laload => exact bqp_ld hb
  | baload => exact bqp_ld hb
  | aaload => exact bqp_ld hb
  | iastore => exact bqp_sto (by decide) hb
  | lastore => exact bqp_sto (by decide) hb
  | bastore => exact bqp_sto (by decide) hb
  | goto off => exact bqp_jump hb
  | _ =>
    first
    | exact bqp_n
    | exact bqp_l hb
    | (unfold xe_step
       dsimp only
       repeat' split
       all_goals first | exact bqp_n | exact bqp_l hb | exact bqp_r hb | exact bqp_jump hb | exact bqp_sto (by decide) hb | exact bqp_newa hb)
theorem zP_lnk : zP.all lnkb = true := by decide +kernel
theorem bh_run : ∀ (n d : Nat) (q : xe_M) (pc : Nat) (ls st : List Value) (h : xe_H) (r : xe_R × xe_H), lnkb q = true → bh h → xe_run zP zK n d q pc ls st h = some r → bh r.2
  | 0, _, _, _, _, _, _, _, _, _, hr => by cases hr
  | n + 1, d, q, pc, ls, st, h, r, hq, hb, hr => by
    have hcf : ∀ y as h r, bh h → xe_cf zP zK n d y as h = some r → bh r.2 := by
      intro y as hh rr hbb hy
      cases d with
      | zero => cases hy
      | succ e =>
        cases hp : zP[y]? with
        | none => simp only [xe_cf, hp] at hy; cases hy
        | some q1 =>
          simp only [xe_cf, hp] at hy
          split at hy
          · exact bh_run n e q1 0 _ _ _ _ (List.all_eq_true.mp zP_lnk q1 (List.mem_of_getElem? hp)) hbb hy
          · cases hy
    rw [xe_run_succ] at hr
    split at hr
    · cases hr
    · rename_i i len b hat
      have st := bqp_step (K := zK) (pc := pc) (i := i) (ls := xe_keep b ls) (st := st) hq hcf hb
      split at hr
      · cases hr
      · rename_i pc1 ls1 st1 h1 hs
        exact bh_run n d q pc1 ls1 st1 h1 r hq (st _ hs) hr
      · rename_i rr hs
        have e := Option.some.inj hr
        rw [← e]
        exact st _ hs
theorem bo_row : ∃ r, sy_row 121 = some r ∧ r.1 = 11 ∧ ∀ j, j = 15 ∨ j = 16 ∨ j = 18 → sy_lkr r.2.2 j = none ∧ j < r.2.1 := by
  have key : (match sy_row 121 with
    | some r => Nat.beq r.1 11 && [15, 16, 18].all (fun j => (sy_lkr r.2.2 j).isNone && Nat.blt j r.2.1)
    | none => false) = true := by decide +kernel
  cases h : sy_row 121 with
  | none => rw [h] at key; cases key
  | some r =>
    rw [h] at key
    have key : (Nat.beq r.1 11 && [15, 16, 18].all (fun j => (sy_lkr r.2.2 j).isNone && Nat.blt j r.2.1)) = true := key
    rw [Bool.and_eq_true, List.all_eq_true] at key
    refine ⟨r, rfl, Nat.eq_of_beq_eq_true key.1, fun j hj => ?_⟩
    have := key.2 j (by rcases hj with z | z | z <;> subst z <;> simp)
    rw [Bool.and_eq_true] at this
    exact ⟨Option.isNone_iff_eq_none.mp this.1, by simpa [Nat.blt_eq] using this.2⟩
theorem bo_fit (x : Int32) : xe_fit 2 (.int x) = sy_bo x := by
  first | rfl | (simp [xe_fit, sy_bo]; done)
theorem bo_enc {M : sy_M} : bh (sy_enc M) ↔ bo M := by
  obtain ⟨r, hr, h12, hj⟩ := bo_row
  have e := sy_hp_row M hr
  have ev : ∀ j, j = 15 ∨ j = 16 ∨ j = 18 → sy_val r M 121 j = .int (M 121 j) := fun j h => sy_val_int (by rw [h12]; decide) (by rw [h12]; decide) (hj j h).1 (fun _ => (hj j h).2)
  constructor
  · rintro ⟨_, n, f, e1, hf⟩
    have : (r.1, r.2.1, sy_val r M 121) = (11, n, f) := Option.some.inj (e.symm.trans e1)
    have ef : sy_val r M 121 = f := congrArg (fun z => z.2.2) this
    have g : ∀ j, j = 15 ∨ j = 16 ∨ j = 18 → sy_bo (M 121 j) = true := fun j h => by
      have := hf j h
      rw [← ef, ev j h, bo_fit] at this
      exact this
    exact ⟨g 15 (by omega), g 16 (by omega), g 18 (by omega)⟩
  · intro hb
    refine ⟨?_, r.2.1, sy_val r M 121, ?_, fun j h => ?_⟩
    · show 121 < 133 + (M 133 0).toNatClampNeg
      omega
    · rw [e, h12]
    · rw [ev j h, bo_fit]
      rcases h with z | z | z
      · subst z; exact hb.1
      · subst z; exact hb.2.1
      · subst z; exact hb.2.2
theorem bo_E {q : xe_M} {d pc : Nat} {ls st : List Value} {M M1 : sy_M} {r : xe_R} (hq : lnkb q = true) (h : sy_E d q pc ls st M (r, M1)) (hb : bo M) : bo M1 := by
  obtain ⟨n, hn⟩ := h
  exact bo_enc.mp (bh_run n d q pc ls st _ _ hq (bo_enc.mpr hb) hn)
