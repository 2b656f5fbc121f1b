/-! ===== the start: the constructors' run ===== -/
theorem cf_mono {n n1 d : Nat} (hn : n ≤ n1) : ∀ y as h r, xe_cf zP zK n d y as h = some r → xe_cf zP zK n1 d y as h = some r := by
  intro y as h r hy
  cases d with
  | zero => cases hy
  | succ e =>
    cases hq : zP[y]? with
    | none => simp only [xe_cf, hq] at hy; cases hy
    | some q1 =>
      simp only [xe_cf, hq] at hy ⊢
      split at hy
      · rename_i hb
        rw [if_pos hb]
        exact xe_mono n n1 e e q1 0 _ _ _ _ hn (Nat.le_refl _) hy
      · cases hy
/-- so many instructions of one method -/
def xe_tr (n d : Nat) (q : xe_M) : Nat → Nat → List Value → List Value → xe_H → Option (Nat × List Value × List Value × xe_H)
  | 0, pc, ls, st, h => some (pc, ls, st, h)
  | m + 1, pc, ls, st, h => match xe_at (xe_code q) pc with
    | none => none
    | some (i, _, b) => match xe_step q zK (xe_cf zP zK n d) pc i (xe_keep b ls) st h with
      | some (.inl (pc1, ls1, st1, h1)) => xe_tr n d q m pc1 ls1 st1 h1
      | _ => none
theorem xe_tr_s (n d : Nat) (q : xe_M) (m pc : Nat) (ls st : List Value) (h : xe_H) : xe_tr n d q (m + 1) pc ls st h = (match xe_at (xe_code q) pc with
    | none => none
    | some (i, _, b) => match xe_step q zK (xe_cf zP zK n d) pc i (xe_keep b ls) st h with
      | some (.inl (pc1, ls1, st1, h1)) => xe_tr n d q m pc1 ls1 st1 h1
      | _ => none) := rfl
theorem tr_End {n d : Nat} {q : xe_M} {pc1 : Nat} {ls1 st1 : List Value} {h1 : xe_H} {r : xe_R × xe_H} (E : xe_End d q pc1 ls1 st1 h1 r) : ∀ (m pc : Nat) (ls st : List Value) (h : xe_H), xe_tr n d q m pc ls st h = some (pc1, ls1, st1, h1) → xe_End d q pc ls st h r
  | 0, pc, ls, st, h, e => by
    have e := Option.some.inj e
    cases e
    exact E
  | m + 1, pc, ls, st, h, e => by
    rw [xe_tr_s] at e
    split at e
    · cases e
    · rename_i i len b hat
      split at e
      · rename_i pc2 ls2 st2 h2 hs
        obtain ⟨k, hk⟩ := tr_End E m pc2 ls2 st2 h2 e
        refine ⟨k + n + 1, ?_⟩
        rw [xe_run_succ, hat]
        dsimp only
        rw [xe_step_mono (cf_mono (by omega)) hs]
        exact xe_mono k (k + n) d d _ _ _ _ _ _ (by omega) (Nat.le_refl _) hk
      · cases e
section
variable {s : xe_O}
theorem ph_run : ∀ (n d : Nat) (q : xe_M) (pc : Nat) (ls st : List Value) (h : xe_H) (r : xe_R × xe_H), Wh h → xe_run zP zK n d q pc ls st h = some r → xe_run zP zK n d q pc ls st (ph s h) = some (r.1, ph s r.2) ∧ Wh r.2
  | 0, _, _, _, _, _, _, _, _, hr => by cases hr
  | n + 1, d, q, pc, ls, st, h, r, hw, hr => by
    have hcf : ∀ y as h r, Wh h → xe_cf zP zK n d y as h = some r → xe_cf zP zK n d y as (ph s h) = some (r.1, ph s r.2) ∧ Wh r.2 := by
      intro y as hh rr hbb hy
      cases d with
      | zero => cases hy
      | succ e =>
        cases hp : zP[y]? with
        | none => simp only [xe_cf, hp] at hy; cases hy
        | some q1 =>
          simp only [xe_cf, hp] at hy ⊢
          split at hy
          · rename_i hb
            rw [if_pos hb]
            exact ph_run n e q1 0 _ _ _ _ hbb hy
          · cases hy
    rw [xe_run_succ] at hr ⊢
    split at hr
    · cases hr
    · rename_i i len b hat
      have F := fzq_step (s := s) hw (q := q) (pc := pc) (i := i) (ls := xe_keep b ls) (st := st) hcf
      split at hr
      · cases hr
      · rename_i pc1 ls1 st1 h1 hs
        obtain ⟨e1, w1⟩ := F _ hs
        rw [e1]
        exact ph_run n d q pc1 ls1 st1 h1 r w1 hr
      · rename_i rr hs
        obtain ⟨e1, w1⟩ := F _ hs
        have e := Option.some.inj hr
        rw [e1, ← e]
        exact ⟨rfl, w1⟩
theorem ph_cf {n d : Nat} : ∀ y as h r, Wh h → xe_cf zP zK n d y as h = some r → xe_cf zP zK n d y as (ph s h) = some (r.1, ph s r.2) ∧ Wh r.2 := by
  intro y as hh rr hbb hy
  cases d with
  | zero => cases hy
  | succ e =>
    cases hp : zP[y]? with
    | none => simp only [xe_cf, hp] at hy; cases hy
    | some q1 =>
      simp only [xe_cf, hp] at hy ⊢
      split at hy
      · rename_i hb
        rw [if_pos hb]
        exact ph_run n e q1 0 _ _ _ _ hbb hy
      · cases hy
theorem ph_tr {n d : Nat} {q : xe_M} {pc1 : Nat} {ls1 st1 : List Value} {h1 : xe_H} : ∀ (m pc : Nat) (ls st : List Value) (h : xe_H), Wh h → xe_tr n d q m pc ls st h = some (pc1, ls1, st1, h1) → xe_tr n d q m pc ls st (ph s h) = some (pc1, ls1, st1, ph s h1) ∧ Wh h1
  | 0, pc, ls, st, h, hw, e => by
    have e := Option.some.inj e
    cases e
    exact ⟨rfl, hw⟩
  | m + 1, pc, ls, st, h, hw, e => by
    rw [xe_tr_s] at e ⊢
    split at e
    · cases e
    · rename_i i len b hat
      have F := fzq_step (s := s) hw (q := q) (pc := pc) (i := i) (ls := xe_keep b ls) (st := st) (ph_cf (s := s) (n := n) (d := d))
      split at e
      · rename_i pc2 ls2 st2 h2 hs
        obtain ⟨e1, w1⟩ := F _ hs
        rw [e1]
        exact ph_tr m pc2 ls2 st2 h2 w1 e
      · cases e
end
/-! the run itself -/
def h00 : xe_H := (0, 0, xs_SPof zbyt)
theorem wh00 : Wh h00 := ⟨Nat.zero_le _, fun _ _ => rfl, fun a o _ h => absurd h (Nat.not_lt_zero a)⟩
def R0 : Option (Nat × List Value × List Value × xe_H) := xe_tr 4000 500 qL_law_ 13 0 (xe_ent 7 [.ref 1000000]) [] h00
def Hget (x : Option (Nat × List Value × List Value × xe_H)) : xe_H := match x with
  | some y => y.2.2.2
  | none => (0, 0, fun _ => none)
def H0 : xe_H := Hget R0
def l23 : List Value := [.ref 1000000, .ref 0, .ref 121, .ref 132, .int (Int32.ofNat 0), xe_no, xe_no]
def vok (r : Nat × Nat × List (Nat × Nat)) (v : Value) (j : Nat) : Bool := bif Nat.beq r.1 1001 then decide (v = .long 0) else match sy_lkr r.2.2 j with
  | some x => decide (v = .ref x)
  | none => bif Nat.beq r.1 1004 then false else match v with
    | .int _ => true
    | _ => false
def Z (h : xe_H) (a j : Nat) : Int32 := match h.2.2 a with
  | some o => (match o.2.2 j with
    | .int x => x
    | _ => 0)
  | none => 0
def chk1 (h : xe_H) : Bool := Nat.beq h.1 133 && (Nat.beq h.2.1 18264 && (List.range 133).all (fun a => match sy_row a, h.2.2 a with
  | some r, some o => Nat.beq o.1 r.1 && (Nat.beq o.2.1 r.2.1 && (r.2.2.all (fun x => Nat.blt x.1 r.2.1) && (List.range r.2.1).all (fun j => vok r (o.2.2 j) j)))
  | _, _ => false))
def okr (x : Int32) (i : Nat) : Bool := decide (0 ≤ x) && decide (x.toNatClampNeg ≤ tbl i)
def chk2 (h : xe_H) : Bool :=
  (List.range 126).all (fun i => Nat.beq i 1 || (Nat.beq i 2 || (Nat.beq i 11 || (Nat.beq i 13 || okr (Z h 122 i) i)))) &&
  (decide (Z h 122 3 = 0) && (decide (Z h 122 7 ≠ 0) && (decide (Z h 122 12 = 0) && (decide (Z h 122 1 = -1) &&
  ((List.range 63).all (fun i => decide (Z h 10 i = Z h 122 (14 + i))) && ((List.range 49).all (fun i => decide (Z h 11 i = Z h 122 (77 + i))) &&
  (decide (Z h 9 3 = Z h 122 3) && (decide (Z h 9 4 = Z h 122 0) && ((List.range 8).all (fun i => decide (Z h 9 (i + 5) = Z h 122 (i + 4))) && (decide (Z h 9 13 = Z h 122 13) &&
  ((List.range 7).all (fun p => decide (Z h 122 (14 + 9 * p + 6) = 0) && (decide (Z h 122 (14 + 9 * p + 7) = 0) && decide (Z h 122 (14 + 9 * p + 8) = 0))) &&
  (List.range 7).all (fun p => (List.range 7).all (fun o => decide (Z h 122 (77 + 7 * p + o) = 0))))))))))))))
def chk3 (h : xe_H) : Bool :=
  decide (Z h 12 0 = 60) && (decide (Z h 12 2 = 0) && (decide (Z h 12 3 = 0) && (decide (Z h 29 6 = -1) && (decide (Z h 0 16 = 0) && (decide (Z h 121 3 = 0) &&
  (decide (Z h 57 1 = 0) && (decide (Z h 121 6 = 0) && (decide (Z h 57 2 = 0) && (decide (Z h 17 0 = 60) && (decide (Z h 27 0 = 60) && ((List.range 12).all (fun k => sy_is 2 (59 + 5 * k) && decide (Z h (59 + 5 * k + 3) 0 = 60)) &&
  (decide (Z h 22 0 = 0) && (decide (Z h 22 3 = 0) && (decide (Z h 1 4 = 0) && (decide (Z h 121 8 = 0) && (decide (Z h 0 17 = Z h 121 12) && (decide (Z h 121 19 = 0) &&
  (sy_bo (Z h 121 15) && (sy_bo (Z h 121 16) && sy_bo (Z h 121 18))))))))))))))))))))
def chk (x : Option (Nat × List Value × List Value × xe_H)) : Bool := match x with
  | some (pc, ls, st, h) => Nat.beq pc 23 && (decide (ls = l23) && (st.isEmpty && (chk1 h && (chk2 h && chk3 h))))
  | none => false
set_option maxRecDepth 1000000 in
theorem R0_chk : chk R0 = true := by decide +kernel
theorem R0_eq : R0 = some (23, l23, [], H0) ∧ chk1 H0 = true ∧ chk2 H0 = true ∧ chk3 H0 = true := by
  have h := R0_chk
  unfold H0
  generalize R0 = x at h ⊢
  match x, h with
  | none, h => cases h
  | some (pc, ls, st, hh), h =>
    have h : (Nat.beq pc 23 && (decide (ls = l23) && (st.isEmpty && (chk1 hh && (chk2 hh && chk3 hh))))) = true := h
    rw [Bool.and_eq_true, Bool.and_eq_true, Bool.and_eq_true, Bool.and_eq_true, Bool.and_eq_true, decide_eq_true_iff] at h
    obtain ⟨h1, h2, h3, h4, h5, h6⟩ := h
    have e1 := Nat.eq_of_beq_eq_true h1
    have e3 := List.isEmpty_iff.mp h3
    subst e1 h2 e3
    exact ⟨rfl, h4, h5, h6⟩
