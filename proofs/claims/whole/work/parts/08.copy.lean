/-! ===== System.arraycopy of ints ===== -/
section XY
variable {p : Program} {l : Launch} {e : Env} {R : Room} {s : State} {m : MethodId} {args : Array Value} {below : List Frame} {meth : Method} {c : Code} {H : Heap} {locs : List Loc} {cells slots : Nat} {Q : State → Prop}
variable {cl : List vw_C} {EX : List (Nat × String)} {STR : List (String × Nat × String × Nat)} {WS : List Cond} {PI : List xs_MI} {D : xs_D} {SP : Nat → Option xe_O} {G : State → Heap → Prop} {h h0 h1 : xe_H}
theorem xs_nn {z : Int32} (hz : 0 ≤ z) : z.toInt = (z.toNatClampNeg : Int) := by
  have hz0 : (0 : Int) ≤ z.toInt := by simpa using Int32.le_iff_toInt_le.mp hz
  show z.toInt = ((z.toInt.toNat : Nat) : Int)
  omega
theorem xs_copy {own : String} {idx pc pc1 nL : Nat} {ls st l1 st1 : List Value} {lsM : Array Slot} (hs : xe_copy pc ls st h = some (.inl (pc1, l1, st1, h1))) (hx : p.tables.exec = Jvm.exec) (hown : s.vm.findClass own = some m.cls) (hw1 : (Cond.methodLink own idx arraycopyName).before args s = true) (hw2 : (Cond.native arraycopyName).before args s = true) (hw3 : (Cond.static arraycopyName).before args s = true) (hw4 : (Cond.initialized "java/lang/System").before args s = true)
    (hK : xs_K cl EX STR D s) (hG : xs_G D G) (hA : xs_A D) (hR : xs_R SP G D s h H) (hL : xs_L D lsM nL ls) (hml : nL = c.maxLocals) (hlocs : ∀ q ∈ locs, D.2.1 ≤ q.base) (hRf : 20 ≤ R.frames) (hRl : 200 ≤ R.locals) (hdg : decode c.code pc = .ok (.invokestatic idx, 3))
    (kk : ∀ (H1 : Heap) (locs1 : List Loc), xs_R SP G D s h1 H1 → h1.1 = h.1 → h1.2.1 = h.2.1 → l1 = ls → (∀ q ∈ locs1, D.2.1 ≤ q.base) → W p l e R s m args below meth c H1 locs1 cells slots Q (F0 m pc1 lsM (st1.map (xs_T D)))) :
    W p l e R s m args below meth c H locs cells slots Q (F0 m pc lsM (st.map (xs_T D))) := by
  unfold xe_copy at hs
  split at hs
  · rename_i n dp a sp b rest
    split at hs
    · rename_i o o2 ho ho2
      split at hs
      · rename_i hb
        simp only [Bool.and_eq_true, beq_iff_eq, decide_eq_true_eq, List.all_eq_true, List.mem_range] at hb
        obtain ⟨t1, t2, n0, dp0, sp0, hl1, hl2, ⟨ha, hb6⟩, hcat, hall⟩ := hb
        have hs2 := Sum.inl.inj (Option.some.inj hs)
        simp only [Prod.mk.injEq] at hs2
        obtain ⟨rfl, rfl, rfl, hs3⟩ := hs2
        have hs4 : xe_put h a (o2.1, o2.2.1, va_cpy o.2.2 o2.2.2 sp.toNatClampNeg dp.toNatClampNeg n.toNatClampNeg) = h1 := hs3
        subst hs4
        obtain ⟨⟨cs, q1, q2, q3, q4, q5, q6, q7, q8⟩, -⟩ := hR.2.1 b o ho (Nat.lt_trans hb6 (by decide))
        obtain ⟨⟨cd, r1, r2, r3, r4, r5, r6, r7, r8⟩, hlt⟩ := hR.2.1 a o2 ho2 (Nat.lt_trans ha (by decide))
        have zs := q6 (by omega)
        have zd := r6 (by omega)
        obtain ⟨⟨kA, comp, k1, k2, -⟩, -⟩ := hK.2.1 1000 .int (by decide)
        have hget : ∀ j, j < o.2.1 → cs.slots[j]? = some (xs_T D (o.2.2 j)) := fun j hj => by
          have := q7 j hj
          rw [hA.2.2 _ _ (by omega)] at this
          exact this
        have hgetD : ∀ i, i < n.toNatClampNeg → cs.slots.getD (sp.toNatClampNeg + i) .null = xs_T D (o.2.2 (sp.toNatClampNeg + i)) := fun i hi => by
          rw [Array.getD_eq_getD_getElem?, hget _ (by omega)]
          rfl
        intro T hT X
        obtain ⟨vm1, X1, stp⟩ := X.arraycopy hx hown hw1 hw2 hw3 hw4 (src := D.1 b) (dst := D.1 a) (cs := cs) (cd := cd) (srcPos := sp) (destPos := dp) (n := n) (by rw [hT]; exact q1) (by rw [hT]; exact r1)
          (fun k hk => by rw [hk] at q5; cases q5) (fun k hk => by rw [hk] at r5; cases r5) q4 r4 (by rw [q2, t1]; exact k1) (by rw [r2, t2]; exact k1) k2 k2 (by decide) (Int32.not_lt.mpr sp0) (Int32.not_lt.mpr dp0) (Int32.not_lt.mpr n0)
          (by rw [xs_nn sp0, xs_nn n0, zs]; omega) (by rw [xs_nn dp0, xs_nn n0, zd]; omega)
          (fun vm2 _ i hi => by
            rw [hgetD i hi]
            have hf := hall i hi
            cases hv : o.2.2 (sp.toNatClampNeg + i) with
            | int x => exact ⟨rfl, trivial⟩
            | _ => rw [hv] at hf; simp [xe_fit] at hf)
          (g := F0 m pc lsM (.int n :: .int dp :: .ref (D.1 a) :: .int sp :: .ref (D.1 b) :: rest.map (xs_T D))) rfl (by show lsM.size = _; rw [hL.1, hml]) (rest := rest.map (xs_T D)) rfl hdg (by omega) (by show 2 * 0 + _ + _ ≤ _; rw [xs_T_cats]; show 2 * 0 + xe_cat rest + (5 + 2 + 11) ≤ R.locals; omega)
        have hal : D.1 a < H.size := (Array.getElem?_eq_some_iff.mp r1).1
        have hheap : ((T.setVm vm1).setCell (D.1 a) (copied cs cd sp dp n)).heap = H.setIfInBounds (D.1 a) (copied cs cd sp dp n) := by rw [← hT]; rfl
        obtain ⟨f1, f2, f3, -, -⟩ := Cell.storeRun_facts cd dp.toNatClampNeg (cs.stretch sp.toNatClampNeg n.toNatClampNeg)
        have hC : xs_C D a (o2.1, o2.2.1, va_cpy o.2.2 o2.2.2 sp.toNatClampNeg dp.toNatClampNeg n.toNatClampNeg) (H.setIfInBounds (D.1 a) (copied cs cd sp dp n)) := by
          refine ⟨copied cs cd sp dp n, by simp [Array.getElem?_setIfInBounds, hal], f1.trans r2, fun z => f2.trans (r3 z), ?_, ?_, fun z => f3.trans (r6 z), fun k hk => ?_, r8⟩
          · show (cd.storeRun _ _).vm ≠ _
            rw [f2]
            exact r4
          · show (cd.storeRun _ _).vm.isStatics = _
            rw [f2]
            exact r5
          · have hk : k < o2.2.1 := hk
            have hr7 := r7 k hk
            show (cd.storeRun dp.toNatClampNeg (cs.stretch sp.toNatClampNeg n.toNatClampNeg)).slots[D.2.2.2 o2.1 k]? = some (xs_T D (va_cpy o.2.2 o2.2.2 sp.toNatClampNeg dp.toNatClampNeg n.toNatClampNeg k))
            rw [hA.2.2 _ _ (by omega)] at hr7 ⊢
            rw [Cell.storeRun_get _ _ _ _ (by rw [Cell.stretch_length, zd]; exact hl2)]
            rw [Cell.stretch_length]
            simp only [va_cpy]
            by_cases hin : dp.toNatClampNeg ≤ k ∧ k < dp.toNatClampNeg + n.toNatClampNeg
            · rw [if_pos hin, if_pos hin]
              simp only [Cell.stretch, List.getElem?_map]
              rw [List.getElem?_range (by omega)]
              simp only [Option.map_some]
              rw [hgetD _ (by omega)]
            · rw [if_neg hin, if_neg hin]
              exact hr7
        obtain ⟨t, a1, b1⟩ := kk _ _ (hR.put hG hA ha (hlt.elim id (fun z => absurd ha (Nat.not_lt.mpr z))) (by simp) hC (fun q hq => by simp [Array.getElem?_setIfInBounds, Ne.symm hq])) rfl rfl rfl (fun q hq => by
          rcases List.mem_append.mp hq with z | z
          · exact hlocs q z
          · obtain ⟨w, -, hw⟩ := List.mem_map.mp z
            rw [← hw]
            show D.2.1 ≤ D.1 a
            rw [hA.1 a ha]
            exact Nat.le_add_right _ _) _ hheap X1
        exact ⟨t, stp t a1, b1⟩
      · cases hs
    · cases hs
  · cases hs
end XY
