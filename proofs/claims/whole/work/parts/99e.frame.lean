/-! ===== the start: what runs without the script runs beside it ===== -/
def dfl (t : Nat) : Value := if t = 1000 ∨ t = 1002 then .int 0 else if t = 1001 then .long 0 else .null
def Wh (h : xe_H) : Prop := h.1 ≤ 600000 ∧ (∀ a, h.1 ≤ a → h.2.2 a = xs_SPof zbyt a) ∧ (∀ a o, h.2.2 a = some o → a < h.1 → ∀ j, o.2.1 ≤ j → o.2.2 j = dfl o.1)
def WhN (x : xe_N) : Prop := match x with
  | .inl y => Wh y.2.2.2
  | .inr y => Wh y.2
/-- the heap with a cell for the script -/
def ph (s : xe_O) (h : xe_H) : xe_H := (h.1, h.2.1, fun b => if b = 1000000 then some s else h.2.2 b)
def phN (s : xe_O) (x : xe_N) : xe_N := match x with
  | .inl y => .inl (y.1, y.2.1, y.2.2.1, ph s y.2.2.2)
  | .inr y => .inr (y.1, ph s y.2)
def fzq (s : xe_O) (X X1 : Option xe_N) : Prop := ∀ y, X = some y → X1 = some (phN s y) ∧ WhN y
section
variable {s : xe_O} {h : xe_H}
theorem fzq_n {X1 : Option xe_N} : fzq s none X1 := fun _ e => by cases e
theorem fzq_l {pc : Nat} {ls st : List Value} (hw : Wh h) : fzq s (some (.inl (pc, ls, st, h))) (some (.inl (pc, ls, st, ph s h))) := fun y e => by
  have e := Option.some.inj e
  rw [← e]
  exact ⟨rfl, hw⟩
theorem fzq_r {r : xe_R} (hw : Wh h) : fzq s (some (.inr (r, h))) (some (.inr (r, ph s h))) := fun y e => by
  have e := Option.some.inj e
  rw [← e]
  exact ⟨rfl, hw⟩
theorem fzq_ite {c : Prop} [Decidable c] {A A1 B B1 : Option xe_N} (h1 : c → fzq s A A1) (h2 : ¬ c → fzq s B B1) : fzq s (if c then A else B) (if c then A1 else B1) := by
  by_cases hc : c
  · rw [if_pos hc, if_pos hc]; exact h1 hc
  · rw [if_neg hc, if_neg hc]; exact h2 hc
theorem SP_none {a : Nat} (ha : a < 1500000) : xs_SPof zbyt a = none := if_pos ha
theorem wh_lt (hw : Wh h) {a : Nat} {o : xe_O} (e : h.2.2 a = some o) (ha : a < 1500000) : a < h.1 := by
  refine Classical.byContradiction fun c => ?_
  rw [hw.2.1 a (Nat.le_of_not_lt c), SP_none ha] at e
  cases e
theorem ph_at (hw : Wh h) {a : Nat} {o : xe_O} (e : h.2.2 a = some o) : (ph s h).2.2 a = some o := by
  show (if a = 1000000 then some s else h.2.2 a) = _
  by_cases c : a = 1000000
  · have h1 := wh_lt hw e (by omega)
    have h2 := hw.1
    omega
  · rw [if_neg c]; exact e
theorem ph_put {a : Nat} {o : xe_O} (ha : a < 1000000) : xe_put (ph s h) a o = ph s (xe_put h a o) := by
  refine Prod.ext rfl (Prod.ext rfl ?_)
  funext b
  show (if b = a then some o else if b = 1000000 then some s else h.2.2 b) = (if b = 1000000 then some s else if b = a then some o else h.2.2 b)
  by_cases c : b = a
  · rw [if_pos c, if_neg (by omega), if_pos c]
  · rw [if_neg c, if_neg c]
theorem wh_put (hw : Wh h) {a : Nat} {o : xe_O} {f : Nat → Value} (e : h.2.2 a = some o) (ha : a < 1000000) (hf : ∀ j, o.2.1 ≤ j → f j = o.2.2 j) : Wh (xe_put h a (o.1, o.2.1, f)) := by
  have la := wh_lt hw e (by omega)
  refine ⟨hw.1, fun b hb => ?_, fun b o2 e2 hb j hj => ?_⟩
  · show (if b = a then _ else h.2.2 b) = _
    have hb : h.1 ≤ b := hb
    rw [if_neg (by omega)]; exact hw.2.1 b hb
  · have e2 : (if b = a then some (o.1, o.2.1, f) else h.2.2 b) = some o2 := e2
    by_cases c : b = a
    · rw [if_pos c] at e2
      have e2 := Option.some.inj e2
      subst e2
      have hj : o.2.1 ≤ j := hj
      show f j = dfl o.1
      rw [hf j hj]; exact hw.2.2 a o e la j hj
    · rw [if_neg c] at e2
      exact hw.2.2 b o2 e2 hb j hj
theorem ph_new {o : xe_O} (hf : h.1 < 1000000) : xe_new (ph s h) o = ph s (xe_new h o) := by
  refine Prod.ext rfl (Prod.ext rfl ?_)
  funext b
  show (if b = h.1 then some o else if b = 1000000 then some s else h.2.2 b) = (if b = 1000000 then some s else if b = h.1 then some o else h.2.2 b)
  by_cases c : b = h.1
  · rw [if_pos c, if_neg (by omega), if_pos c]
  · rw [if_neg c, if_neg c]
theorem wh_new (hw : Wh h) {o : xe_O} (hf : h.1 + 1 ≤ 600000) (hd : ∀ j, o.2.1 ≤ j → o.2.2 j = dfl o.1) : Wh (xe_new h o) := by
  refine ⟨hf, fun b hb => ?_, fun b o2 e2 hb j hj => ?_⟩
  · have hb : h.1 + 1 ≤ b := hb
    show (if b = h.1 then _ else h.2.2 b) = _
    rw [if_neg (by omega)]; exact hw.2.1 b (by omega)
  · have e2 : (if b = h.1 then some o else h.2.2 b) = some o2 := e2
    have hb : b < h.1 + 1 := hb
    by_cases c : b = h.1
    · rw [if_pos c] at e2
      have e2 := Option.some.inj e2
      subst e2
      exact hd j hj
    · rw [if_neg c] at e2
      exact hw.2.2 b o2 e2 (by omega) j hj
theorem wh_thr (hw : Wh h) {n : Nat} (hf : h.1 + 1 ≤ 600000) : Wh (h.1 + 1, h.2.1 + n, h.2.2) := by
  refine ⟨hf, fun b hb => ?_, fun b o2 e2 hb j hj => ?_⟩
  · have hb : h.1 + 1 ≤ b := hb
    exact hw.2.1 b (by omega)
  · have hb : b < h.1 + 1 := hb
    exact hw.2.2 b o2 e2 (wh_lt hw e2 (by omega)) j hj
theorem fits_1 {n : Nat} (e : xe_fits h n = true) : h.1 + 1 ≤ 600000 := by
  unfold xe_fits at e
  rw [Bool.and_eq_true] at e
  exact Nat.le_of_ble_eq_true e.1
theorem in_lt {i : Int32} {n : Nat} (e : xe_in i n = true) : i.toNatClampNeg < n := by
  unfold xe_in at e
  rw [Bool.and_eq_true, decide_eq_true_iff, decide_eq_true_iff] at e
  exact e.2
theorem upd_ge {f : Nat → Value} {k n j : Nat} {v : Value} (h1 : k < n) (h2 : n ≤ j) : xe_upd f k v j = f j := if_neg (by omega)
theorem fzq_ld (hw : Wh h) {pc tag tag2 : Nat} {ls st : List Value} : fzq s (xe_ld h pc ls st tag tag2) (xe_ld (ph s h) pc ls st tag tag2) := by
  unfold xe_ld
  split
  · rename_i i a rest
    cases e : h.2.2 a with
    | none => exact fzq_n
    | some o =>
      have e2 := ph_at (s := s) hw e
      simp only [e2]
      exact fzq_ite (fun _ => fzq_l hw) (fun _ => fzq_n)
  · exact fzq_n
theorem fzq_sto (hw : Wh h) {pc tag kind : Nat} {ls st : List Value} : fzq s (xe_sto h pc ls st tag kind) (xe_sto (ph s h) pc ls st tag kind) := by
  unfold xe_sto
  split
  · rename_i v i a rest
    cases e : h.2.2 a with
    | none => exact fzq_n
    | some o =>
      have e2 := ph_at (s := s) hw e
      simp only [e2]
      refine fzq_ite (fun hc => ?_) (fun _ => fzq_n)
      rw [Bool.and_eq_true, Bool.and_eq_true, Bool.and_eq_true, decide_eq_true_iff] at hc
      rw [ph_put hc.2.2.2]
      exact fzq_l (wh_put hw e hc.2.2.2 (fun j hj => upd_ge (in_lt hc.2.1) hj))
  · exact fzq_n
theorem fzq_getf (hw : Wh h) {q : xe_M} {pc idx : Nat} {ls st : List Value} : fzq s (xe_getf q pc idx ls st h) (xe_getf q pc idx ls st (ph s h)) := by
  unfold xe_getf
  split
  · rename_i a rest
    cases e : h.2.2 a with
    | none => exact fzq_n
    | some o =>
      have e2 := ph_at (s := s) hw e
      simp only [e2]
      split
      · exact fzq_ite (fun _ => fzq_l hw) (fun _ => fzq_n)
      · exact fzq_ite (fun _ => fzq_l hw) (fun _ => fzq_n)
      · exact fzq_n
  · exact fzq_n
theorem fzq_putf (hw : Wh h) {q : xe_M} {pc idx : Nat} {ls st : List Value} : fzq s (xe_putf q pc idx ls st h) (xe_putf q pc idx ls st (ph s h)) := by
  unfold xe_putf
  split
  · rename_i v a rest
    cases e : h.2.2 a with
    | none => exact fzq_n
    | some o =>
      have e2 := ph_at (s := s) hw e
      simp only [e2]
      split
      · refine fzq_ite (fun hc => ?_) (fun _ => fzq_n)
        rw [Bool.and_eq_true, Bool.and_eq_true, Bool.and_eq_true, Bool.and_eq_true, decide_eq_true_iff] at hc
        have hk := hc.2.1
        rw [Nat.blt_eq] at hk
        rw [ph_put hc.2.2.2.1]
        exact fzq_l (wh_put hw e hc.2.2.2.1 (fun j hj => upd_ge hk hj))
      · refine fzq_ite (fun hc => ?_) (fun _ => fzq_n)
        rw [Bool.and_eq_true, Bool.and_eq_true, Bool.and_eq_true, Bool.and_eq_true, decide_eq_true_iff] at hc
        have hk := hc.2.1
        rw [Nat.blt_eq] at hk
        rw [ph_put hc.2.2.2.1]
        exact fzq_l (wh_put hw e hc.2.2.2.1 (fun j hj => upd_ge hk hj))
      · exact fzq_n
  · exact fzq_n
theorem fzq_jump (hw : Wh h) {pc : Nat} {off : Int} {ls st : List Value} : fzq s (xe_jump pc off ls st h) (xe_jump pc off ls st (ph s h)) := by
  unfold xe_jump
  exact fzq_ite (fun _ => fzq_l hw) (fun _ => fzq_n)
theorem fzq_copy (hw : Wh h) {pc : Nat} {ls st : List Value} : fzq s (xe_copy pc ls st h) (xe_copy pc ls st (ph s h)) := by
  unfold xe_copy
  split
  · rename_i n dp a sp b rest
    cases e : h.2.2 b with
    | none => exact fzq_n
    | some o =>
      cases e1 : h.2.2 a with
      | none => exact fzq_n
      | some o2 =>
        have e2 := ph_at (s := s) hw e
        have e3 := ph_at (s := s) hw e1
        simp only [e2, e3]
        refine fzq_ite (fun hc => ?_) (fun _ => fzq_n)
        simp only [Bool.and_eq_true, decide_eq_true_iff] at hc
        obtain ⟨_, _, _, _, _, _, c1, c2, _⟩ := hc
        rw [ph_put c2.1]
        refine fzq_l (wh_put hw e1 c2.1 (fun j hj => ?_))
        unfold va_cpy
        rw [if_neg (by omega)]
  · exact fzq_n
theorem fzq_back {q : xe_M} {pc : Nat} {ls rest : List Value} {X X1 : Option (xe_R × xe_H)} (hx : ∀ r, X = some r → X1 = some (r.1, ph s r.2) ∧ Wh r.2) : fzq s (xe_back q pc ls rest X) (xe_back q pc ls rest X1) := by
  cases X with
  | none => exact fzq_n
  | some r =>
    obtain ⟨e1, w1⟩ := hx r rfl
    obtain ⟨r, h⟩ := r
    rw [e1]
    cases r with
    | inl v => exact fzq_l w1
    | inr c =>
      show fzq s (match xe_find (xe_hand q) pc c with
        | some p => some (.inl (p, ls, [.ref (h.1 - 1)], h))
        | none => match xe_hand q with
          | [] => some (.inr (.inr c, h))
          | _ => none) (match xe_find (xe_hand q) pc c with
        | some p => some (.inl (p, ls, [.ref ((ph s h).1 - 1)], ph s h))
        | none => match xe_hand q with
          | [] => some (.inr (.inr c, ph s h))
          | _ => none)
      cases xe_find (xe_hand q) pc c with
      | some p => exact fzq_l w1
      | none =>
        cases xe_hand q with
        | nil => exact fzq_r w1
        | cons _ _ => exact fzq_n
theorem rv (hw : Wh h) (as : List Value) : (∀ ci, xe_recv (ph s h) as ci = xe_recv h as ci) ∨ (∀ ci, xe_recv h as ci = false) := by
  unfold xe_recv
  split
  · rename_i a l
    cases e : h.2.2 a with
    | none => exact Or.inr (fun _ => rfl)
    | some o =>
      left
      intro ci
      have e2 := ph_at (s := s) hw e
      simp only [e2]
  · exact Or.inl (fun _ => rfl)
theorem fzq_newa (hw : Wh h) {pc len tag : Nat} {v : Value} {ls st : List Value} (hv : v = dfl tag) : fzq s (xe_newa pc len ls st h tag v) (xe_newa pc len ls st (ph s h) tag v) := by
  unfold xe_newa
  split
  · rename_i n rest
    refine fzq_ite (fun hc => ?_) (fun _ => fzq_n)
    rw [Bool.and_eq_true, Bool.and_eq_true] at hc
    have hf : h.1 + 1 ≤ 600000 := fits_1 hc.2.2
    rw [ph_new (by omega)]
    exact fzq_l (wh_new hw hf (fun _ _ => hv))
  · exact fzq_n
theorem zK_ok : ∀ ci r, zK[ci]? = some r → ci < 12 ∧ ∀ j, r.1 ≤ j → r.2.getD j .null = .null := by
  intro ci r e
  have hl : ci < 12 := by
    have := (List.getElem?_eq_some_iff.mp e).1
    have e12 : zK.length = 12 := by decide +kernel
    omega
  refine ⟨hl, fun j hj => ?_⟩
  have ok : zK.all (fun r => Nat.ble r.2.length r.1) = true := by decide +kernel
  have h1 := List.all_eq_true.mp ok r (List.mem_of_getElem? e)
  have h2 : r.2.length ≤ r.1 := Nat.le_of_ble_eq_true h1
  rw [List.getD_eq_getElem?_getD, List.getElem?_eq_none_iff.mpr (by omega)]
  rfl
theorem fzq_new1 (hw : Wh h) {q : xe_M} {pc idx : Nat} {ls st : List Value} : fzq s (xe_new1 q zK pc idx ls st h) (xe_new1 q zK pc idx ls st (ph s h)) := by
  unfold xe_new1
  split
  · rename_i c n _ _
    split
    · refine fzq_ite (fun hc => ?_) (fun _ => fzq_n)
      rw [Bool.and_eq_true] at hc
      exact fzq_r (h := (h.1 + 1, h.2.1 + n, h.2.2)) (wh_thr hw (fits_1 hc.1))
    · exact fzq_n
  · rename_i ci _ _ _
    cases e : zK[ci]? with
    | none => exact fzq_n
    | some r =>
      refine fzq_ite (fun hc => ?_) (fun _ => fzq_n)
      have hf := fits_1 hc
      obtain ⟨hl, hj⟩ := zK_ok ci r e
      rw [ph_new (by omega)]
      refine fzq_l (wh_new hw hf (fun j h1 => ?_))
      show r.2.getD j .null = dfl ci
      rw [hj j h1]
      unfold dfl
      rw [if_neg (by omega), if_neg (by omega)]
  · exact fzq_n
theorem fzq_call (hw : Wh h) {q : xe_M} {call call1 : Nat → List Value → xe_H → Option (xe_R × xe_H)} (hc : ∀ y as h r, Wh h → call y as h = some r → call1 y as (ph s h) = some (r.1, ph s r.2) ∧ Wh r.2) {kd pc idx : Nat} {ls st : List Value} : fzq s (xe_call q call kd pc idx ls st h) (xe_call q call1 kd pc idx ls st (ph s h)) := by
  have bk : ∀ {y : Nat} {as rest : List Value}, fzq s (xe_back q pc ls rest (call y as h)) (xe_back q pc ls rest (call1 y as (ph s h))) := fun {y as rest} => fzq_back (fun r e => hc y as h r hw e)
  unfold xe_call
  split
  · split
    · exact fzq_ite (fun _ => bk) (fun _ => fzq_n)
    · exact fzq_n
  · split
    · rename_i as rest _
      rcases rv (s := s) hw as with z | z
      · simp only [z]
        exact fzq_ite (fun _ => bk) (fun _ => fzq_n)
      · simp only [z, Bool.and_false, Bool.false_eq_true, if_false]
        exact fzq_n
    · exact fzq_n
  · split
    · rename_i as rest _
      rcases rv (s := s) hw as with z | z
      · simp only [z]
        exact fzq_ite (fun _ => bk) (fun _ => fzq_n)
      · simp only [z, Bool.and_false, Bool.false_eq_true, if_false]
        exact fzq_n
    · exact fzq_n
  · split
    · rename_i as rest _
      rcases rv (s := s) hw as with z | z
      · simp only [z]
        exact fzq_ite (fun _ => fzq_ite (fun _ => bk) (fun _ => fzq_ite (fun _ => bk) (fun _ => fzq_n))) (fun _ => fzq_n)
      · simp only [z, Bool.false_eq_true, if_false, ite_self]
        exact fzq_n
    · exact fzq_n
  · split
    · exact fzq_ite (fun _ => bk) (fun _ => fzq_n)
    · exact fzq_n
  · split
    · exact fzq_ite (fun _ => fzq_l hw) (fun _ => fzq_n)
    · exact fzq_n
  · exact fzq_ite (fun _ => fzq_copy hw) (fun _ => fzq_n)
  · split
    · rename_i a rest
      cases e : h.2.2 a with
      | none => exact fzq_n
      | some o =>
        have e2 := ph_at (s := s) hw e
        simp only [e2]
        exact fzq_ite (fun _ => fzq_l hw) (fun _ => fzq_n)
    · exact fzq_n
  · split
    · rename_i i a rest
      cases e : h.2.2 a with
      | none => exact fzq_n
      | some o =>
        have e2 := ph_at (s := s) hw e
        simp only [e2]
        exact fzq_ite (fun _ => fzq_l hw) (fun _ => fzq_n)
    · exact fzq_n
  · exact fzq_n
set_option maxHeartbeats 4000000 in
theorem fzq_step (hw : Wh h) {q : xe_M} {call call1 : Nat → List Value → xe_H → Option (xe_R × xe_H)} (hc : ∀ y as h r, Wh h → call y as h = some r → call1 y as (ph s h) = some (r.1, ph s r.2) ∧ Wh r.2) {pc : Nat} {i : Instr} {ls st : List Value} : fzq s (xe_step q zK call pc i ls st h) (xe_step q zK call1 pc i ls st (ph s h)) := by
  cases i with
  | putfield idx => exact fzq_putf hw
  | getfield idx => exact fzq_getf hw
  | invokestatic idx => exact fzq_call hw hc
  | invokevirtual idx => exact fzq_call hw hc
  | invokespecial idx => exact fzq_call hw hc
  | new idx => exact fzq_new1 hw
  | newarray t => cases t <;> first | exact fzq_newa hw rfl | exact fzq_n
  | iaload => exact fzq_ld hw
  | laload => exact fzq_ld hw
  | baload => exact fzq_ld hw
  | aaload => exact fzq_ld hw
  | iastore => exact fzq_sto hw
  | lastore => exact fzq_sto hw
  | bastore => exact fzq_sto hw
  | goto off => exact fzq_jump hw
  | aastore =>
    unfold xe_step
    dsimp only
    split
    · rename_i b l
      rcases rv (s := s) hw [.ref b] with z | z
      · simp only [z]
        exact fzq_ite (fun _ => fzq_sto hw) (fun _ => fzq_n)
      · simp only [z, Bool.false_eq_true, if_false]
        exact fzq_n
    · exact fzq_n
  | arraylength =>
    unfold xe_step
    dsimp only
    split
    · rename_i a rest
      cases e : h.2.2 a with
      | none => exact fzq_n
      | some o =>
        have e2 := ph_at (s := s) hw e
        simp only [e2]
        exact fzq_ite (fun _ => fzq_l hw) (fun _ => fzq_n)
    · exact fzq_n
  | anewarray idx =>
    unfold xe_step
    dsimp only
    split
    · exact fzq_newa hw rfl
    · exact fzq_n
  | tableswitch dflt lo hi offs =>
    unfold xe_step
    dsimp only
    split
    · refine fzq_ite (fun _ => fzq_jump hw) (fun _ => ?_)
      split
      · exact fzq_jump hw
      · exact fzq_n
    · exact fzq_n
  | _ =>
    first
    | exact fzq_n
    | exact fzq_l hw
    | (unfold xe_step
       dsimp only
       repeat' (first | exact fzq_n | exact fzq_l hw | exact fzq_r hw | exact fzq_jump hw | (refine fzq_ite (fun _ => ?_) (fun _ => ?_)) | split))
end
