/-! ===== what a function leaves alone ===== -/
def sy_nw (W : List (Nat × Option Nat)) (a j : Nat) : Bool := W.all fun x => !(Nat.beq x.1 a && (match x.2 with
  | none => true
  | some i => Nat.beq i j))
def sy_eqw (W : List (Nat × Option Nat)) (M0 M : sy_M) : Prop := ∀ a j, sy_nw W a j = true → M a j = M0 a j
def sy_fr (W : List (Nat × Option Nat)) (M0 : sy_M) (o : sy_O) : Prop := ∀ r, o = some r → sy_eqw W M0 r.2
theorem sy_eqw_refl {W : List (Nat × Option Nat)} {M : sy_M} : sy_eqw W M M := fun _ _ _ => rfl
theorem sy_nw_at {W : List (Nat × Option Nat)} {a j i : Nat} {x : Nat × Option Nat} (h : sy_nw W a j = true) (hx : W[i]? = some x) : (Nat.beq x.1 a && (match x.2 with
  | none => true
  | some i => Nat.beq i j)) = false := by
  unfold sy_nw at h
  rw [List.all_eq_true] at h
  have := h x (List.mem_of_getElem? hx)
  simpa using this
theorem sy_eqw_ua {W : List (Nat × Option Nat)} {M0 M : sy_M} {a j : Nat} {v : Int32} (e : sy_eqw W M0 M) (i : Nat) (h : W[i]? = some (a, none)) : sy_eqw W M0 (sy_upd M a j v) := by
  intro b l hn
  have := sy_nw_at hn h
  rw [sy_upd_ne]
  · exact e b l hn
  · intro z
    subst z
    simp at this
theorem sy_eqw_uf {W : List (Nat × Option Nat)} {M0 M : sy_M} {a j : Nat} {v : Int32} (e : sy_eqw W M0 M) (i : Nat) (h : W[i]? = some (a, some j)) : sy_eqw W M0 (sy_upd M a j v) := by
  intro b l hn
  have := sy_nw_at hn h
  by_cases hb : b = a
  · subst hb
    rw [sy_upd_ni]
    · exact e b l hn
    · intro z
      subst z
      simp at this
  · rw [sy_upd_ne _ _ _ _ hb]
    exact e b l hn
theorem sy_eqw_wl {W : List (Nat × Option Nat)} {M0 M : sy_M} {a j : Nat} {v : Int64} (e : sy_eqw W M0 M) (i : Nat) (h : W[i]? = some (a, none)) : sy_eqw W M0 (sy_wl M a j v) := sy_eqw_ua (sy_eqw_ua e i h) i h
theorem sy_eqw_cp {W : List (Nat × Option Nat)} {M0 M : sy_M} {b sp a dp n : Nat} (e : sy_eqw W M0 M) (i : Nat) (h : W[i]? = some (a, none)) : sy_eqw W M0 (sy_cpy M b sp a dp n) := by
  intro c l hn
  have := sy_nw_at hn h
  unfold sy_cpy
  rw [if_neg]
  · exact e c l hn
  · intro z
    subst z
    simp at this
theorem sy_fr_none {W : List (Nat × Option Nat)} {M0 : sy_M} : sy_fr W M0 none := fun _ h => by cases h
theorem sy_fr_end {W : List (Nat × Option Nat)} {M0 M : sy_M} {x : xe_R} (e : sy_eqw W M0 M) : sy_fr W M0 (some (x, M)) := fun r h => by
  have h := Option.some.inj h
  rw [← h]
  exact e
theorem sy_fr_cond {W : List (Nat × Option Nat)} {M0 : sy_M} {c : Bool} {A : sy_O} (h : sy_fr W M0 A) : sy_fr W M0 (bif c then A else none) := by
  cases c
  · exact sy_fr_none
  · exact h
theorem sy_fr_ite {W : List (Nat × Option Nat)} {M0 : sy_M} {c : Prop} [Decidable c] {A B : sy_O} (h : sy_fr W M0 A) (h2 : sy_fr W M0 B) : sy_fr W M0 (if c then A else B) := by
  split
  · exact h
  · exact h2
theorem sy_fr_bi {W : List (Nat × Option Nat)} {M0 : sy_M} {x : sy_O} {k : Int32 → sy_M → sy_O} (hx : sy_fr W M0 x) (hk : ∀ v M1, sy_eqw W M0 M1 → sy_fr W M0 (k v M1)) : sy_fr W M0 (sy_bi x k) := by
  unfold sy_bi
  split
  · exact hk _ _ (hx _ rfl)
  · exact sy_fr_end (hx _ rfl)
  · exact sy_fr_none
theorem sy_fr_bv {W : List (Nat × Option Nat)} {M0 : sy_M} {x : sy_O} {k : sy_M → sy_O} (hx : sy_fr W M0 x) (hk : ∀ M1, sy_eqw W M0 M1 → sy_fr W M0 (k M1)) : sy_fr W M0 (sy_bv x k) := by
  unfold sy_bv
  split
  · exact hk _ (hx _ rfl)
  · exact sy_fr_end (hx _ rfl)
  · exact sy_fr_none
theorem sy_fr_br {W : List (Nat × Option Nat)} {M0 : sy_M} {x : sy_O} {k : Nat → sy_M → sy_O} {kn : sy_M → sy_O} (hx : sy_fr W M0 x) (hk : ∀ v M1, sy_eqw W M0 M1 → sy_fr W M0 (k v M1)) (hn : ∀ M1, sy_eqw W M0 M1 → sy_fr W M0 (kn M1)) : sy_fr W M0 (sy_br x k kn) := by
  unfold sy_br
  split
  · exact hk _ _ (hx _ rfl)
  · exact hn _ (hx _ rfl)
  · exact sy_fr_end (hx _ rfl)
  · exact sy_fr_none
theorem sy_fr_hi {W : List (Nat × Option Nat)} {M0 : sy_M} {x : sy_O} {k : Int32 → sy_M → sy_O} {kt : Nat → sy_M → sy_O} (hx : sy_fr W M0 x) (hk : ∀ v M1, sy_eqw W M0 M1 → sy_fr W M0 (k v M1)) (ht : ∀ v M1, sy_eqw W M0 M1 → sy_fr W M0 (kt v M1)) : sy_fr W M0 (sy_hi x k kt) := by
  unfold sy_hi
  split
  · exact hk _ _ (hx _ rfl)
  · exact ht _ _ (hx _ rfl)
  · exact sy_fr_none
theorem sy_subw_ix {W1 W : List (Nat × Option Nat)} (ps : List Nat) (h : W1.map some = ps.map (fun i => W[i]?)) : ∀ a j, sy_nw W a j = true → sy_nw W1 a j = true := by
  intro a j hn
  unfold sy_nw
  rw [List.all_eq_true]
  intro x hx
  have hm : some x ∈ W1.map some := List.mem_map_of_mem hx
  rw [h, List.mem_map] at hm
  obtain ⟨i, _, hi⟩ := hm
  have := sy_nw_at hn hi
  rw [this]
  rfl
theorem sy_fr_up {W1 W : List (Nat × Option Nat)} {M0 M : sy_M} {o : sy_O} (e : sy_eqw W M0 M) (h : sy_fr W1 M o) (hs : ∀ a j, sy_nw W a j = true → sy_nw W1 a j = true) : sy_fr W M0 o := by
  intro r hr a j hn
  rw [h r hr a j (hs a j hn)]
  exact e a j hn
/-- a place that is left alone -/
theorem sy_fr_at {W : List (Nat × Option Nat)} {M0 M : sy_M} {x : xe_R} {o : sy_O} (h : sy_fr W M0 o) (ho : o = some (x, M)) (a j : Nat) (hn : sy_nw W a j = true) : M a j = M0 a j := h (x, M) ho a j hn
