/-! ===== ends: more room changes no answer ===== -/
theorem xe_back_mono {q : xe_M} {pc : Nat} {ls rest : List Value} {x x' : Option (xe_R × xe_H)} (hx : ∀ r, x = some r → x' = some r) {res : xe_N} (h : xe_back q pc ls rest x = some res) : xe_back q pc ls rest x' = some res := by
  cases x with
  | none => cases h
  | some r => rw [hx r rfl]; exact h
theorem xe_call_mono {q : xe_M} {call call' : Nat → List Value → xe_H → Option (xe_R × xe_H)} (hc : ∀ y as h r, call y as h = some r → call' y as h = some r) {kd pc idx : Nat} {ls st : List Value} {h : xe_H} {res : xe_N} (hs : xe_call q call kd pc idx ls st h = some res) : xe_call q call' kd pc idx ls st h = some res := by
  unfold xe_call at hs ⊢
  split at hs
  · split at hs
    · split at hs
      · rename_i hb
        rw [if_pos hb]
        exact xe_back_mono (hc _ _ _) hs
      · cases hs
    · cases hs
  · split at hs
    · split at hs
      · rename_i hb
        rw [if_pos hb]
        exact xe_back_mono (hc _ _ _) hs
      · cases hs
    · cases hs
  · split at hs
    · split at hs
      · rename_i hb
        rw [if_pos hb]
        exact xe_back_mono (hc _ _ _) hs
      · cases hs
    · cases hs
  · split at hs
    · split at hs
      · rename_i hb
        rw [if_pos hb]
        split at hs
        · rename_i hb2
          rw [if_pos hb2]
          exact xe_back_mono (hc _ _ _) hs
        · rename_i hb2
          rw [if_neg hb2]
          split at hs
          · rename_i hb3
            rw [if_pos hb3]
            exact xe_back_mono (hc _ _ _) hs
          · cases hs
      · cases hs
    · cases hs
  · split at hs
    · split at hs
      · rename_i hb
        rw [if_pos hb]
        exact xe_back_mono (hc _ _ _) hs
      · cases hs
    · cases hs
  · exact hs
  · exact hs
  · exact hs
  · exact hs
  · exact hs
theorem xe_step_mono {q : xe_M} {K : xe_K} {call call' : Nat → List Value → xe_H → Option (xe_R × xe_H)} (hc : ∀ y as h r, call y as h = some r → call' y as h = some r) {pc : Nat} {i : Instr} {ls st : List Value} {h : xe_H} {res : xe_N} (hs : xe_step q K call pc i ls st h = some res) : xe_step q K call' pc i ls st h = some res := by
  cases i with
  | invokestatic idx => exact xe_call_mono hc hs
  | invokevirtual idx => exact xe_call_mono hc hs
  | invokespecial idx => exact xe_call_mono hc hs
  | newarray t => cases t <;> exact hs
  | _ => exact hs
/-- what a call answers -/
def xe_cf (P : List xe_M) (K : xe_K) (n d : Nat) (y : Nat) (as : List Value) (h1 : xe_H) : Option (xe_R × xe_H) := match d, P[y]? with
  | d1 + 1, some q1 => if as.all xs_kn && Nat.ble (xe_cat as) (xe_max q1) then xe_run P K n d1 q1 0 (xe_ent (xe_max q1) as) [] h1 else none
  | _, _ => none
theorem xe_run_succ (P : List xe_M) (K : xe_K) (n d : Nat) (q : xe_M) (pc : Nat) (ls st : List Value) (h : xe_H) : xe_run P K (n + 1) d q pc ls st h = (match xe_at (xe_code q) pc with
    | none => none
    | some (i, _, b) => match xe_step q K (xe_cf P K n d) pc i (xe_keep b ls) st h with
      | none => none
      | some (.inl (pc1, ls1, st1, h1)) => xe_run P K n d q pc1 ls1 st1 h1
      | some (.inr r) => some r) := rfl
theorem xe_mono {P : List xe_M} {K : xe_K} : ∀ (n n1 d d1 : Nat) (q : xe_M) (pc : Nat) (ls st : List Value) (h : xe_H) (r : xe_R × xe_H), n ≤ n1 → d ≤ d1 → xe_run P K n d q pc ls st h = some r → xe_run P K n1 d1 q pc ls st h = some r
  | 0, _, _, _, _, _, _, _, _, _, _, _, hr => by cases hr
  | n + 1, 0, _, _, _, _, _, _, _, _, hn, _, _ => by omega
  | n + 1, n1 + 1, d, d1, q, pc, ls, st, h, r, hn, hd, hr => by
    have hcf : ∀ y as h r, xe_cf P K n d y as h = some r → xe_cf P K n1 d1 y as h = some r := by
      intro y as hh rr hy
      cases d with
      | zero => cases hy
      | succ e =>
        cases d1 with
        | zero => omega
        | succ e1 =>
          cases hq : P[y]? with
          | none => simp only [xe_cf, hq] at hy; cases hy
          | some q1 =>
            simp only [xe_cf, hq] at hy ⊢
            split at hy
            · rename_i hb
              rw [if_pos hb]
              exact xe_mono n n1 e e1 q1 0 _ _ _ _ (by omega) (by omega) hy
            · cases hy
    rw [xe_run_succ] at hr ⊢
    split at hr
    · cases hr
    · rename_i i len b hat
      split at hr
      · cases hr
      · rename_i pc1 ls1 st1 h1 hs
        rw [xe_step_mono hcf hs]
        exact xe_mono n n1 d d1 q pc1 ls1 st1 h1 r (by omega) hd hr
      · rename_i rr hs
        rw [xe_step_mono hcf hs]
        exact hr
/-- from here, in depth d, it comes to the end r -/
def xe_End (d : Nat) (q : xe_M) (pc : Nat) (ls st : List Value) (h : xe_H) (r : xe_R × xe_H) : Prop := ∃ n, xe_run zP zK n d q pc ls st h = some r
theorem xe_End.deep {d d1 : Nat} {q : xe_M} {pc : Nat} {ls st : List Value} {h : xe_H} {r : xe_R × xe_H} (hd : d ≤ d1) (e : xe_End d q pc ls st h r) : xe_End d1 q pc ls st h r := by
  obtain ⟨n, hn⟩ := e
  exact ⟨n, xe_mono n n d d1 q pc ls st h r (Nat.le_refl _) hd hn⟩
/-- one instruction that is no call -/
theorem xe_End.step {d : Nat} {q : xe_M} {pc pc1 len : Nat} {i : Instr} {b : List Bool} {ls st ls1 st1 : List Value} {h h1 : xe_H} {r : xe_R × xe_H} (hat : xe_at (xe_code q) pc = some (i, len, b)) (hs : ∀ call, xe_step q zK call pc i (xe_keep b ls) st h = some (.inl (pc1, ls1, st1, h1))) (e : xe_End d q pc1 ls1 st1 h1 r) : xe_End d q pc ls st h r := by
  obtain ⟨n, hn⟩ := e
  refine ⟨n + 1, ?_⟩
  rw [xe_run_succ, hat]
  dsimp only
  rw [hs]
  exact hn
/-- the last instruction -/
theorem xe_End.last {d : Nat} {q : xe_M} {pc len : Nat} {i : Instr} {b : List Bool} {ls st : List Value} {h : xe_H} {r : xe_R × xe_H} (hat : xe_at (xe_code q) pc = some (i, len, b)) (hs : ∀ call, xe_step q zK call pc i (xe_keep b ls) st h = some (.inr r)) : xe_End d q pc ls st h r :=
  ⟨1, by rw [xe_run_succ, hat]; dsimp only; rw [hs]⟩
/-- a call that comes back, or whose throw is caught -/
theorem xe_End.call {d : Nat} {q q1 : xe_M} {pc pc1 len y : Nat} {i : Instr} {b : List Bool} {ls st ls2 rest as ls1 st1 : List Value} {h h2 h1 : xe_H} {r1 : xe_R} {r : xe_R × xe_H} (hat : xe_at (xe_code q) pc = some (i, len, b)) (hs : ∀ call, xe_step q zK call pc i (xe_keep b ls) st h = xe_back q pc ls2 rest (call y as h)) (hq : zP[y]? = some q1) (hk : (as.all xs_kn && Nat.ble (xe_cat as) (xe_max q1)) = true) (e1 : xe_End d q1 0 (xe_ent (xe_max q1) as) [] h (r1, h1)) (hb : xe_back q pc ls2 rest (some (r1, h1)) = some (.inl (pc1, ls1, st1, h2))) (e2 : xe_End (d + 1) q pc1 ls1 st1 h2 r) : xe_End (d + 1) q pc ls st h r := by
  obtain ⟨n1, hn1⟩ := e1
  obtain ⟨n2, hn2⟩ := e2
  refine ⟨n1 + n2 + 1, ?_⟩
  have g1 := xe_mono n1 (n1 + n2) d d _ _ _ _ _ _ (by omega) (Nat.le_refl _) hn1
  have g2 := xe_mono n2 (n1 + n2) (d + 1) (d + 1) _ _ _ _ _ _ (by omega) (Nat.le_refl _) hn2
  have hc : xe_cf zP zK (n1 + n2) (d + 1) y as h = some (r1, h1) := by
    simp only [xe_cf, hq]
    rw [if_pos hk]
    exact g1
  rw [xe_run_succ, hat]
  dsimp only
  rw [hs, hc, hb]
  exact g2
/-- a call whose throw goes on -/
theorem xe_End.callT {d : Nat} {q q1 : xe_M} {pc len y : Nat} {i : Instr} {b : List Bool} {ls st ls2 rest as : List Value} {h h1 : xe_H} {r1 : xe_R} {r : xe_R × xe_H} (hat : xe_at (xe_code q) pc = some (i, len, b)) (hs : ∀ call, xe_step q zK call pc i (xe_keep b ls) st h = xe_back q pc ls2 rest (call y as h)) (hq : zP[y]? = some q1) (hk : (as.all xs_kn && Nat.ble (xe_cat as) (xe_max q1)) = true) (e1 : xe_End d q1 0 (xe_ent (xe_max q1) as) [] h (r1, h1)) (hb : xe_back q pc ls2 rest (some (r1, h1)) = some (.inr r)) : xe_End (d + 1) q pc ls st h r := by
  obtain ⟨n1, hn1⟩ := e1
  refine ⟨n1 + 1, ?_⟩
  have hc : xe_cf zP zK n1 (d + 1) y as h = some (r1, h1) := by
    simp only [xe_cf, hq]
    rw [if_pos hk]
    exact hn1
  rw [xe_run_succ, hat]
  dsimp only
  rw [hs, hc, hb]
