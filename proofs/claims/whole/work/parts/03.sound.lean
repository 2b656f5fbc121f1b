/-! ===== WHAT OUR SMALL MACHINE SAYS HOLDS OF THE MACHINE ITSELF ===== -/
theorem xs_weaken {tb : Tables} {e : Env} {g : Frame} {below : List Frame} {a b : State} (h : Steps tb e (g :: below) a b) : Steps tb e below a b := by
  obtain ⟨n, hn, w⟩ := h
  refine ⟨n, hn, fun k hk => ?_⟩
  obtain ⟨above, h1, h2, h3⟩ := w k hk
  refine ⟨above ++ [g], by rw [h1]; simp, by simp, fun x hx => ?_⟩
  cases above with
  | nil => exact h2 rfl
  | cons y l => cases l <;> simp at hx
/-- the addresses (ours to the machine's), the first of ours, the classes' numbers, their fields' slots -/
abbrev xs_D : Type := (Nat → Nat) × Nat × (Nat → ClassId) × (Nat → Nat → Nat)
def xs_T (D : xs_D) : Value → Value
  | .ref a => .ref (D.1 a)
  | v => v
theorem xs_T_cat (D : xs_D) (v : Value) : (xs_T D v).category = v.category := by cases v <;> rfl
theorem xs_T_cats (D : xs_D) (l : List Value) : ((l.map (xs_T D)).map fun v => v.category).sum = xe_cat l := by
  unfold xe_cat
  rw [List.map_map]
  congr 1
  exact List.map_congr_left fun v _ => xs_T_cat D v
/-- a cell of ours, in the machine's heap -/
def xs_C (D : xs_D) (a : Nat) (o : xe_O) (H : Heap) : Prop :=
  ∃ cell : Cell, H[D.1 a]? = some cell ∧ cell.cls = D.2.2.1 o.1 ∧ (a < 1000000 → cell.vm = .none) ∧ cell.vm ≠ .unknown ∧ cell.vm.isStatics = false ∧ (1000 ≤ o.1 → cell.slots.size = o.2.1) ∧ (∀ k, k < o.2.1 → cell.slots[D.2.2.2 o.1 k]? = some (xs_T D (o.2.2 k))) ∧ ∀ x y, x < o.2.1 → y < o.2.1 → x ≠ y → D.2.2.2 o.1 x ≠ D.2.2.2 o.1 y
/-- the heap of ours, and the machine's: SP what lies at the special places and never changes, G what is known of what was there before -/
def xs_R (SP : Nat → Option xe_O) (G : State → Heap → Prop) (D : xs_D) (U : State) (h : xe_H) (H : Heap) : Prop :=
  H.size = D.2.1 + h.1 ∧ (∀ a o, h.2.2 a = some o → a < 1500000 → xs_C D a o H ∧ (a < h.1 ∨ 1000000 ≤ a)) ∧ (∀ a, 1500000 ≤ a → h.2.2 a = SP a) ∧ G U H ∧ (h.1 ≤ 600000 ∧ h.2.1 ≤ 7300000) ∧ ∀ (q : Nat) (cell : Cell), D.2.1 ≤ q → H[q]? = some cell → cell.vm.isStatics = false
/-- what is known of what was there before stays -/
def xs_G (D : xs_D) (G : State → Heap → Prop) : Prop := ∀ (U V : State) (H H1 : Heap), U.vm.Alike V.vm → (∀ q, q < D.2.1 → H1[q]? = H[q]?) → G U H → G V H1
/-- our addresses: from the base on; what was there before lies below it -/
def xs_A (D : xs_D) : Prop := (∀ k, k < 1000000 → D.1 k = D.2.1 + k) ∧ (∀ a, 1000000 ≤ a → D.1 a < D.2.1) ∧ ∀ t k, 1000 ≤ t → D.2.2.2 t k = k
theorem xs_R.moved {SP : Nat → Option xe_O} {G : State → Heap → Prop} {D : xs_D} {U V : State} {h : xe_H} {H : Heap} (hG : xs_G D G) (hvm : U.vm.Alike V.vm) (hR : xs_R SP G D U h H) : xs_R SP G D V h H :=
  ⟨hR.1, hR.2.1, hR.2.2.1, hG U V H H hvm (fun _ _ => rfl) hR.2.2.2.1, hR.2.2.2.2⟩
theorem xs_C.kept {D : xs_D} {a : Nat} {o : xe_O} {H H1 : Heap} (h : xs_C D a o H) (he : H1[D.1 a]? = H[D.1 a]?) : xs_C D a o H1 := by
  obtain ⟨cell, h1, h2⟩ := h
  exact ⟨cell, by rw [he]; exact h1, h2⟩
theorem xs_A.inj {D : xs_D} (hA : xs_A D) {a b : Nat} (ha : a < 1000000) (h : D.1 b = D.1 a) : b = a := by
  rcases Nat.lt_or_ge b 1000000 with q | q
  · have h1 := hA.1 a ha
    have h2 := hA.1 b q
    omega
  · have h1 := hA.1 a ha
    have h2 := hA.2.1 b q
    omega
/-- one cell is written -/
theorem xs_R.put {SP : Nat → Option xe_O} {G : State → Heap → Prop} {D : xs_D} {U : State} {h : xe_H} {H H1 : Heap} (hG : xs_G D G) (hA : xs_A D) (hR : xs_R SP G D U h H) {a : Nat} {o : xe_O} (ha : a < 1000000) (hl : a < h.1) (hz : H1.size = H.size) (hC : xs_C D a o H1) (ho : ∀ q, q ≠ D.1 a → H1[q]? = H[q]?) : xs_R SP G D U (xe_put h a o) H1 := by
  refine ⟨hz.trans hR.1, fun b o2 hb hne => ?_, fun b hb => ?_, hG U U H H1 (Vm.Alike.refl _) (fun q hq => ho q (fun z => ?_)) hR.2.2.2.1, hR.2.2.2.2.1, fun q cq hq hcq => ?_⟩
  · by_cases e : b = a
    · subst e
      simp only [xe_put, if_true] at hb
      cases hb
      exact ⟨hC, Or.inl hl⟩
    · simp only [xe_put, if_neg e] at hb
      obtain ⟨h1, h2⟩ := hR.2.1 b o2 hb hne
      exact ⟨h1.kept (ho _ (fun z => e (hA.inj ha z))), h2⟩
  · have e : b ≠ a := by omega
    simp only [xe_put, if_neg e]
    exact hR.2.2.1 b hb
  · have := hA.1 a ha
    omega
  · by_cases e : q = D.1 a
    · obtain ⟨cell, h1, -, -, -, h5, -⟩ := hC
      rw [e, h1] at hcq
      cases hcq
      exact h5
    · rw [ho q e] at hcq
      exact hR.2.2.2.2.2 q cq hq hcq
/-- one cell comes -/
theorem xs_R.new {SP : Nat → Option xe_O} {G : State → Heap → Prop} {D : xs_D} {U : State} {h : xe_H} {H H1 : Heap} (hG : xs_G D G) (hR : xs_R SP G D U h H) {o : xe_O} (hA : xs_A D) (hr : h.1 + 1 ≤ 600000 ∧ h.2.1 + o.2.1 ≤ 7300000) (hz : H1.size = H.size + 1) (hC : xs_C D h.1 o H1) (ho : ∀ q, q < H.size → H1[q]? = H[q]?) : xs_R SP G D U (xe_new h o) H1 := by
  refine ⟨by rw [hz, hR.1]; exact Nat.add_assoc _ _ _, fun b o2 hb hne => ?_, fun b hb => ?_, hG U U H H1 (Vm.Alike.refl _) (fun q hq => ho q ?_) hR.2.2.2.1, hr, fun q cq hq hcq => ?_⟩
  · by_cases e : b = h.1
    · subst e
      simp only [xe_new, if_true] at hb
      cases hb
      exact ⟨hC, Or.inl (Nat.lt_succ_self _)⟩
    · simp only [xe_new, if_neg e] at hb
      obtain ⟨h1, h2⟩ := hR.2.1 b o2 hb hne
      obtain ⟨cell, hc, hr⟩ := h1
      exact ⟨⟨cell, by rw [ho _ (Array.getElem?_eq_some_iff.mp hc).1]; exact hc, hr⟩, h2.imp (fun z => Nat.lt_succ_of_lt z) id⟩
  · have e : b ≠ h.1 := by omega
    simp only [xe_new, if_neg e]
    exact hR.2.2.1 b hb
  · have := hR.1
    omega
  · rcases Nat.lt_or_ge q H.size with e | e
    · rw [ho q e] at hcq
      exact hR.2.2.2.2.2 q cq hq hcq
    · have e2 : q = D.1 h.1 := by
        have h3 := (Array.getElem?_eq_some_iff.mp hcq).1
        have h4 := hR.1
        rw [hA.1 _ (by omega)]
        omega
      obtain ⟨cell, h1, -, -, -, h5, -⟩ := hC
      rw [e2, h1] at hcq
      cases hcq
      exact h5
/-- a cell comes of which nothing is kept -/
theorem xs_R.more {SP : Nat → Option xe_O} {G : State → Heap → Prop} {D : xs_D} {U : State} {h : xe_H} {H H1 : Heap} (hG : xs_G D G) (hR : xs_R SP G D U h H) {n : Nat} (hr : h.1 + 1 ≤ 600000 ∧ n ≤ 7300000) (hz : H1.size = H.size + 1) (hst : ∀ cell : Cell, H1[H.size]? = some cell → cell.vm.isStatics = false) (ho : ∀ q, q < H.size → H1[q]? = H[q]?) : xs_R SP G D U (h.1 + 1, n, h.2.2) H1 := by
  refine ⟨by rw [hz, hR.1]; exact Nat.add_assoc _ _ _, fun b o2 hb hne => ?_, hR.2.2.1, hG U U H H1 (Vm.Alike.refl _) (fun q hq => ho q ?_) hR.2.2.2.1, hr, fun q cq hq hcq => ?_⟩
  · obtain ⟨h1, h2⟩ := hR.2.1 b o2 hb hne
    obtain ⟨cell, hc, hr⟩ := h1
    exact ⟨⟨cell, by rw [ho _ (Array.getElem?_eq_some_iff.mp hc).1]; exact hc, hr⟩, h2.imp (fun z => Nat.lt_succ_of_lt z) id⟩
  · have := hR.1
    omega
  · rcases Nat.lt_or_ge q H.size with e | e
    · rw [ho q e] at hcq
      exact hR.2.2.2.2.2 q cq hq hcq
    · have e2 : q = H.size := by
        have h3 := (Array.getElem?_eq_some_iff.mp hcq).1
        omega
      rw [e2] at hcq
      exact hst cq hcq
/-- the locals of ours, and the machine's -/
def xs_L (D : xs_D) (ls : Array Slot) (nL : Nat) (l : List Value) : Prop := ls.size = nL ∧ lv_wf ls ∧ l.length = nL ∧ ∀ (i : Nat) (v : Value), l[i]? = some v → xs_kn v = true → ls[i]? = some (Slot.val (xs_T D v))
def xs_ls (D : xs_D) (l : List Value) : List (Nat × Value) := l.zipIdx.filterMap fun q => if xs_kn q.1 then some (q.2, xs_T D q.1) else none
theorem xs_ls_mem {D : xs_D} {l : List Value} {i : Nat} {v : Value} : (i, v) ∈ xs_ls D l ↔ ∃ w, l[i]? = some w ∧ xs_kn w = true ∧ xs_T D w = v := by
  unfold xs_ls
  rw [List.mem_filterMap]
  constructor
  · rintro ⟨⟨w, j⟩, h1, h2⟩
    rw [List.mem_zipIdx_iff_getElem?] at h1
    dsimp only at h1 h2
    split at h2
    · rename_i hk
      cases h2
      exact ⟨w, h1, hk, rfl⟩
    · cases h2
  · rintro ⟨w, h1, h2, h3⟩
    exact ⟨(w, i), List.mem_zipIdx_iff_getElem?.mpr h1, by dsimp only; rw [if_pos h2, h3]⟩
theorem xs_L.has {D : xs_D} {ls : Array Slot} {nL : Nat} {l : List Value} (h : xs_L D ls nL l) : lv_has ls nL (xs_ls D l) := by
  refine ⟨h.1, h.2.1, fun q hq => ?_⟩
  obtain ⟨i, v⟩ := q
  obtain ⟨w, h1, h2, h3⟩ := xs_ls_mem.mp hq
  dsimp only
  rw [← h3]
  exact h.2.2.2 i w h1 h2
theorem xs_kill_len (l : List Value) (i : Nat) : (xe_kill l i).length = l.length := by
  unfold xe_kill
  split
  · rfl
  · split
    · simp
    · rfl
theorem xs_kill_get {l : List Value} {i j : Nat} {w : Value} (h : (xe_kill l i)[j]? = some w) (hk : xs_kn w = true) : l[j]? = some w ∧ ¬ (j + 1 = i ∧ w.category = 2) := by
  unfold xe_kill at h
  split at h
  · exact ⟨h, fun z => absurd z.1 (by omega)⟩
  · rename_i i
    split at h
    · rename_i x hx
      by_cases e : i = j
      · subst e
        rw [List.getElem?_set_self (List.getElem?_eq_some_iff.mp hx).1] at h
        cases h
        cases hk
      · rw [List.getElem?_set_ne e] at h
        exact ⟨h, fun z => e (by omega)⟩
    · rename_i hx
      refine ⟨h, fun z => ?_⟩
      have e : j = i := by omega
      subst e
      cases w with
      | long x => exact hx x h
      | double x => cases hk
      | int x => exact absurd z.2 (by simp [Value.category])
      | null => exact absurd z.2 (by simp [Value.category])
      | ref x => exact absurd z.2 (by simp [Value.category])
      | float x => cases hk
      | retAddr x => cases hk
theorem xs_L.set1 {D : xs_D} {ls ls' : Array Slot} {nL : Nat} {l : List Value} {i : Nat} {v : Value} (h : xs_L D ls nL l) (h' : lv_has ls' nL ((i, xs_T D v) :: (xs_ls D l).filter (fun q => !(q.1 == i) && !(q.1 + 1 == i && q.2.category == 2)))) : xs_L D ls' nL (xe_set1 l i v) := by
  refine ⟨h'.1, h'.2.1, by unfold xe_set1; rw [List.length_set, xs_kill_len]; exact h.2.2.1, fun j w hj hk => ?_⟩
  unfold xe_set1 at hj
  by_cases e : i = j
  · subst e
    rw [List.getElem?_set] at hj
    rw [if_pos rfl] at hj
    split at hj
    · cases hj
      exact h'.2.2 (i, xs_T D v) List.mem_cons_self
    · cases hj
  · rw [List.getElem?_set_ne e] at hj
    obtain ⟨h1, h2⟩ := xs_kill_get hj hk
    refine h'.2.2 (j, xs_T D w) (List.mem_cons_of_mem _ (List.mem_filter.mpr ⟨xs_ls_mem.mpr ⟨w, h1, hk, rfl⟩, ?_⟩))
    rw [xs_T_cat]
    simp only [Bool.and_eq_true, Bool.not_eq_true', beq_eq_false_iff_ne, Bool.and_eq_false_iff]
    refine ⟨fun z => e z.symm, ?_⟩
    by_cases q : j + 1 = i
    · exact Or.inr (fun z => h2 ⟨q, z⟩)
    · exact Or.inl q
theorem xs_L.set2 {D : xs_D} {ls ls' : Array Slot} {nL : Nat} {l : List Value} {i : Nat} {v : Value} (h : xs_L D ls nL l) (h' : lv_has ls' nL ((i, xs_T D v) :: (xs_ls D l).filter (fun q => !(q.1 == i) && (!(q.1 == i + 1) && !(q.1 + 1 == i && q.2.category == 2))))) : xs_L D ls' nL (xe_set2 l i v) := by
  refine ⟨h'.1, h'.2.1, by unfold xe_set2; rw [List.length_set, List.length_set, xs_kill_len]; exact h.2.2.1, fun j w hj hk => ?_⟩
  unfold xe_set2 at hj
  by_cases e2 : i + 1 = j
  · subst e2
    rw [List.getElem?_set, if_pos rfl] at hj
    split at hj
    · cases hj
      cases hk
    · cases hj
  · rw [List.getElem?_set_ne e2] at hj
    by_cases e : i = j
    · subst e
      rw [List.getElem?_set] at hj
      rw [if_pos rfl] at hj
      split at hj
      · cases hj
        exact h'.2.2 (i, xs_T D v) List.mem_cons_self
      · cases hj
    · rw [List.getElem?_set_ne e] at hj
      obtain ⟨h1, h2⟩ := xs_kill_get hj hk
      refine h'.2.2 (j, xs_T D w) (List.mem_cons_of_mem _ (List.mem_filter.mpr ⟨xs_ls_mem.mpr ⟨w, h1, hk, rfl⟩, ?_⟩))
      rw [xs_T_cat]
      simp only [Bool.and_eq_true, Bool.not_eq_true', beq_eq_false_iff_ne, Bool.and_eq_false_iff]
      refine ⟨fun z => e z.symm, fun z => e2 z.symm, ?_⟩
      by_cases q : j + 1 = i
      · exact Or.inr (fun z => h2 ⟨q, z⟩)
      · exact Or.inl q
theorem xs_keep_len : ∀ (b : List Bool) (l : List Value), (xe_keep b l).length = l.length
  | [], l => by unfold xe_keep; rfl
  | true :: b, [] => by unfold xe_keep; rfl
  | false :: b, [] => by unfold xe_keep; rfl
  | true :: b, v :: l => by simp [xe_keep, xs_keep_len b l]
  | false :: b, v :: l => by simp [xe_keep, xs_keep_len b l]
theorem xs_keep_get : ∀ (b : List Bool) (l : List Value) (i : Nat) (v : Value), (xe_keep b l)[i]? = some v → xs_kn v = true → l[i]? = some v
  | [], l, i, v, h, _ => by unfold xe_keep at h; exact h
  | true :: b, [], i, v, h, _ => by unfold xe_keep at h; exact h
  | false :: b, [], i, v, h, _ => by unfold xe_keep at h; exact h
  | true :: b, w :: l, 0, v, h, _ => by simp [xe_keep] at h; simp [h]
  | true :: b, w :: l, i + 1, v, h, hk => by
    simp only [xe_keep, List.getElem?_cons_succ] at h ⊢
    exact xs_keep_get b l i v h hk
  | false :: b, w :: l, 0, v, h, hk => by
    simp only [xe_keep, List.getElem?_cons_zero, Option.some.injEq] at h
    subst h
    cases hk
  | false :: b, w :: l, i + 1, v, h, hk => by
    simp only [xe_keep, List.getElem?_cons_succ] at h ⊢
    exact xs_keep_get b l i v h hk
theorem xs_L.keep {D : xs_D} {ls : Array Slot} {nL : Nat} {l : List Value} (h : xs_L D ls nL l) (b : List Bool) : xs_L D ls nL (xe_keep b l) :=
  ⟨h.1, h.2.1, (xs_keep_len b l).trans h.2.2.1, fun i v hi hk => h.2.2.2 i v (xs_keep_get b l i v hi hk) hk⟩
theorem xs_ent_get : ∀ (vs : List Value) (n j i : Nat) (v : Value), (∀ w ∈ vs, xs_kn w = true) → (xe_ent n vs)[i]? = some v → xs_kn v = true → (j + i, v) ∈ lv_args j vs
  | [], n, j, i, v, _, h, hk => by
    unfold xe_ent at h
    rw [List.getElem?_replicate] at h
    split at h
    · cases h
      cases hk
    · cases h
  | w :: vs, n, j, i, v, hw, h, hk => by
    have ih := xs_ent_get vs
    have hw2 : ∀ w ∈ vs, xs_kn w = true := fun q hq => hw q (List.mem_cons_of_mem _ hq)
    have one : ∀ (z : Value), lv_args j (z :: vs) = (j, z) :: lv_args (j + 1) vs → (z :: xe_ent (n - 1) vs)[i]? = some v → (j + i, v) ∈ lv_args j (z :: vs) := by
      intro z e h
      rw [e]
      match i, h with
      | 0, h => simp at h; subst h; exact List.mem_cons_self
      | i + 1, h =>
        simp only [List.getElem?_cons_succ] at h
        have := ih (n - 1) (j + 1) i v hw2 h hk
        rw [show j + (i + 1) = j + 1 + i by omega]
        exact List.mem_cons_of_mem _ this
    cases w with
    | long x =>
      simp only [xe_ent] at h
      show (j + i, v) ∈ (j, Value.long x) :: lv_args (j + 2) vs
      match i, h with
      | 0, h => simp at h; subst h; exact List.mem_cons_self
      | 1, h => simp at h; subst h; cases hk
      | i + 2, h =>
        simp only [List.getElem?_cons_succ] at h
        have := ih (n - 2) (j + 2) i v hw2 h hk
        rw [show j + (i + 2) = j + 2 + i by omega]
        exact List.mem_cons_of_mem _ this
    | int x => exact one _ rfl h
    | null => exact one _ rfl h
    | ref x => exact one _ rfl h
    | float x => exact absurd (hw _ List.mem_cons_self) (by simp [xs_kn])
    | retAddr x => exact absurd (hw _ List.mem_cons_self) (by simp [xs_kn])
    | double x => exact absurd (hw _ List.mem_cons_self) (by simp [xs_kn])
theorem xs_ent_len : ∀ (vs : List Value) (n : Nat), (lg_sl vs).length ≤ n → (∀ w ∈ vs, xs_kn w = true) → (xe_ent n vs).length = n
  | [], n, _, _ => by simp [xe_ent]
  | w :: vs, n, h, hw => by
    have ih := xs_ent_len vs
    have hw2 : ∀ w ∈ vs, xs_kn w = true := fun q hq => hw q (List.mem_cons_of_mem _ hq)
    have e : lg_sl (w :: vs) = (if w.category = 2 then [Slot.val w, .second] else [.val w]) ++ lg_sl vs := rfl
    rw [e, List.length_append] at h
    cases w with
    | long x =>
      have h : 2 + (lg_sl vs).length ≤ n := h
      simp only [xe_ent, List.length_cons]
      rw [ih (n - 2) (by omega) hw2]
      omega
    | int x =>
      have h : 1 + (lg_sl vs).length ≤ n := h
      simp only [xe_ent, List.length_cons]
      rw [ih (n - 1) (by omega) hw2]
      omega
    | null =>
      have h : 1 + (lg_sl vs).length ≤ n := h
      simp only [xe_ent, List.length_cons]
      rw [ih (n - 1) (by omega) hw2]
      omega
    | ref x =>
      have h : 1 + (lg_sl vs).length ≤ n := h
      simp only [xe_ent, List.length_cons]
      rw [ih (n - 1) (by omega) hw2]
      omega
    | float x => exact absurd (hw _ List.mem_cons_self) (by simp [xs_kn])
    | retAddr x => exact absurd (hw _ List.mem_cons_self) (by simp [xs_kn])
    | double x => exact absurd (hw _ List.mem_cons_self) (by simp [xs_kn])
theorem xs_lg_map (D : xs_D) : ∀ (vs : List Value), (lg_sl (vs.map (xs_T D))).length = (lg_sl vs).length
  | [] => rfl
  | v :: vs => by
    have e : ∀ (w : Value) (ws : List Value), lg_sl (w :: ws) = (if w.category = 2 then [Slot.val w, .second] else [.val w]) ++ lg_sl ws := fun _ _ => rfl
    rw [List.map_cons, e, e, List.length_append, List.length_append, xs_lg_map D vs, xs_T_cat]
    split <;> rfl
theorem xs_args_map (D : xs_D) : ∀ (vs : List Value) (j i : Nat) (v : Value), (i, v) ∈ lv_args j vs → (i, xs_T D v) ∈ lv_args j (vs.map (xs_T D))
  | [], _, _, _, h => by cases h
  | w :: vs, j, i, v, h => by
    show (i, xs_T D v) ∈ (j, xs_T D w) :: lv_args (if (xs_T D w).category = 2 then j + 2 else j + 1) (vs.map (xs_T D))
    have h : (i, v) ∈ (j, w) :: lv_args (if w.category = 2 then j + 2 else j + 1) vs := h
    rw [xs_T_cat]
    rcases List.mem_cons.mp h with e | e
    · cases e
      exact List.mem_cons_self
    · exact List.mem_cons_of_mem _ (xs_args_map D vs _ i v e)
/-- the locals at a method's entry -/
theorem xs_L.entry (D : xs_D) {vs : List Value} {n : Nat} (h : (lg_sl vs).length ≤ n) (hw : ∀ w ∈ vs, xs_kn w = true) :
    xs_L D ((lg_sl (vs.map (xs_T D)) ++ List.replicate (n - (lg_sl (vs.map (xs_T D))).length) Slot.unset).toArray) n (xe_ent n vs) := by
  have h2 := lv_entry (vs.map (xs_T D)) (n := n) (by rw [xs_lg_map]; exact h)
  refine ⟨h2.1, h2.2.1, xs_ent_len vs n h hw, fun i v hi hk => ?_⟩
  have := xs_ent_get vs n 0 i v hw hi hk
  rw [Nat.zero_add] at this
  exact h2.2.2 (i, xs_T D v) (xs_args_map D vs 0 i v this)
