/-! ===== one instruction that is no call ===== -/
/-- the row stands in the bytes -/
def xs_dec (cc : ByteArray) (pc : Nat) (i : Instr) : Prop := if xe_len i = 0 then ∃ len, decode cc pc = .ok (i, len) else decode cc pc = .ok (i, xe_len i)
def xe_isInv : Instr → Bool
  | .invokestatic _ => true
  | .invokevirtual _ => true
  | .invokespecial _ => true
  | _ => false
section XP
variable {p : Program} {l : Launch} {e : Env} {R : Room} {s : State} {m : MethodId} {args : Array Value} {below : List Frame} {meth : Method} {c : Code} {H : Heap} {locs : List Loc} {cells slots : Nat} {Q : State → Prop}
variable {cl : List vw_C} {EX : List (Nat × String)} {STR : List (String × Nat × String × Nat)} {WS : List Cond} {PI : List xs_MI} {D : xs_D} {SP : Nat → Option xe_O} {G : State → Heap → Prop} {h h0 h1 : xe_H}
theorem xs_jump {pc pc1 : Nat} {off : Int} {ls st l1 st1 : List Value} (hs : xe_jump pc off ls st h = some (.inl (pc1, l1, st1, h1))) : (pc : Int) + off = (pc1 : Int) ∧ l1 = ls ∧ st1 = st ∧ h1 = h := by
  unfold xe_jump at hs
  split at hs
  · rename_i z
    cases hs
    exact ⟨by omega, rfl, rfl, rfl⟩
  · cases hs
theorem xs_AT1000 {t : Nat} {ty : FieldType} (h : (t, ty) ∈ xs_AT) : 1000 ≤ t := by
  simp only [xs_AT, List.mem_cons, Prod.mk.injEq, List.not_mem_nil, or_false] at h
  omega
theorem xs_newarr {q : xe_M} {K : xe_K} {call : Nat → List Value → xe_H → Option (xe_R × xe_H)} {pc pc1 nL t : Nat} {at0 : ArrayType} {ty : FieldType} {dv : Value} {ls st l1 st1 : List Value} {lsM : Array Slot}
    (hs : xe_step q K call pc (.newarray at0) ls st h = some (.inl (pc1, l1, st1, h1))) (hd : decode c.code pc = .ok (.newarray at0, 2)) (hty : newarray.typeOf at0 = ty) (hAT : (t, ty) ∈ xs_AT) (ht15 : t < 1500) (hst : ∀ u : Unit, xe_step q K call pc (.newarray at0) ls st h = xe_newa pc 2 ls st h t dv) (hdv : defaultValue ty = dv) (hb8 : componentBytes ty ≤ 8)
    (hx : p.tables.exec = Jvm.exec) (harr : (Cond.arrayClass ty).before args s = true) (hK : xs_K cl EX STR D s) (hG : xs_G D G) (hA : xs_A D)
    (hR : xs_R SP G D s h H) (hL : xs_L D lsM nL ls) (hc : cells + h0.1 = h.1) (hsl : slots + h0.2.1 = h.2.1) (hRc : 600000 ≤ R.cells + h0.1) (hRs : 7300000 ≤ R.slots + h0.2.1) (hlocs : ∀ q ∈ locs, D.2.1 ≤ q.base)
    (kk : ∀ (H1 : Heap) (ls1 : Array Slot) (locs1 : List Loc) (cells1 slots1 : Nat), xs_R SP G D s h1 H1 → xs_L D ls1 nL l1 → cells1 + h0.1 = h1.1 → slots1 + h0.2.1 = h1.2.1 → (∀ q ∈ locs1, D.2.1 ≤ q.base) → W p l e R s m args below meth c H1 locs1 cells1 slots1 Q (F0 m pc1 ls1 (st1.map (xs_T D)))) :
    W p l e R s m args below meth c H locs cells slots Q (F0 m pc lsM (st.map (xs_T D))) := by
  rw [hst ()] at hs
  unfold xe_newa at hs
  split at hs
  · rename_i n0 rest0
    split at hs
    · rename_i hb
      simp only [xe_fits, Bool.and_eq_true, decide_eq_true_eq, Nat.ble_eq] at hb
      cases hs
      subst hty
      have hmul : n0.toNatClampNeg * componentBytes (newarray.typeOf at0) ≤ 536870912 := Nat.le_trans (Nat.mul_le_mul hb.2.1 hb8) (by decide)
      have ht1 := xs_AT1000 hAT
      have hz : H.size = D.1 h.1 := by rw [hR.1, hA.1 _ (by omega)]
      refine va_newaK hx rfl harr rfl hd rfl (Int32.not_lt.mpr hb.1) rfl hmul (by omega) (by omega) hz (fun H1 cA e1 e2 e3 hAr f1 => ?_)
      have k4 := (hK.2.1 t _ hAT).2 ht15
      have hcA : cA = D.2.2.1 t := Option.some.inj (f1.symm.trans k4)
      have hdvT : xs_T D dv = dv := by rw [← hdv]; cases newarray.typeOf at0 <;> rfl
      have hC : xs_C D h.1 (t, n0.toNatClampNeg, fun _ => dv) H1 := by
        refine ⟨_, e1, hcA, fun _ => rfl, (fun z => by cases z), rfl, fun _ => arrV_size _ _ _, fun k hk => ?_, fun x y _ _ hxy => ?_⟩
        · have hk : k < n0.toNatClampNeg := hk
          show (arrV cA n0.toNatClampNeg _).slots[D.2.2.2 t k]? = some (xs_T D dv)
          rw [hA.2.2 _ _ ht1, arrV_read _ _ hk, hdv, hdvT]
        · show D.2.2.2 t x ≠ D.2.2.2 t y
          rw [hA.2.2 _ _ ht1, hA.2.2 _ _ ht1]
          exact hxy
      have hR1 := hR.new hG hA ⟨hb.2.2.1, hb.2.2.2⟩ (by rw [e2, hz]) hC (fun q hq => e3 q (by rw [← hz]; exact hq))
      exact kk _ lsM locs (cells + 1) (slots + n0.toNatClampNeg) hR1 hL (by show _ = h.1 + 1; omega) (by show _ = h.2.1 + n0.toNatClampNeg; omega) hlocs
    · cases hs
  · cases hs
set_option maxHeartbeats 4000000 in
theorem xs_pure {own : String} {q : xe_M} {K : xe_K} {call : Nat → List Value → xe_H → Option (xe_R × xe_H)} {pc pc1 nL : Nat} {i : Instr} {ls st l1 st1 : List Value} {lsM : Array Slot}
    (hs : xe_step q K call pc i ls st h = some (.inl (pc1, l1, st1, h1))) (hinv : xe_isInv i = false) (hd : xs_dec c.code pc i)
    (hx : p.tables.exec = Jvm.exec) (hown : s.vm.findClass own = some m.cls) (hts : ∀ w ∈ WS, w.before args s = true) (hCV : xs_CV cl WS) (hK : xs_K cl EX STR D s) (hG : xs_G D G) (hA : xs_A D) (hLK : ∀ idx, xs_LK cl EX STR WS K PI own idx (xe_lk (xe_link q) idx)) (hWA : Cond.arrayClass .int ∈ WS ∧ Cond.arrayClass .long ∈ WS ∧ Cond.arrayClass .boolean ∈ WS) (hAO : Cond.arrayOver (.object "StairMeter$House") ∈ WS) (hcl2 : ∃ T N, cl[2]? = some ("StairMeter$House", T, N))
    (hfin : xe_rk q = 103 → meth.name = "<init>") (hR : xs_R SP G D s h H) (hL : xs_L D lsM nL ls) (hc : cells + h0.1 = h.1) (hsl : slots + h0.2.1 = h.2.1) (hRc : 600000 ≤ R.cells + h0.1) (hRs : 7300000 ≤ R.slots + h0.2.1) (hlocs : ∀ q ∈ locs, D.2.1 ≤ q.base)
    (kk : ∀ (H1 : Heap) (ls1 : Array Slot) (locs1 : List Loc) (cells1 slots1 : Nat), xs_R SP G D s h1 H1 → xs_L D ls1 nL l1 → cells1 + h0.1 = h1.1 → slots1 + h0.2.1 = h1.2.1 → (∀ q ∈ locs1, D.2.1 ≤ q.base) → W p l e R s m args below meth c H1 locs1 cells1 slots1 Q (F0 m pc1 ls1 (st1.map (xs_T D)))) :
    W p l e R s m args below meth c H locs cells slots Q (F0 m pc lsM (st.map (xs_T D))) := by
  cases i with
  | iconst n =>
    cases hs
    have hd : decode c.code pc = .ok (.iconst n, 1) := hd
    exact lv_iconst hx rfl hd rfl (kk H lsM locs cells slots hR hL hc hsl hlocs)
  | bipush n =>
    cases hs
    have hd : decode c.code pc = .ok (.bipush n, 2) := hd
    exact lv_bipush hx rfl hd rfl (kk H lsM locs cells slots hR hL hc hsl hlocs)
  | sipush n =>
    cases hs
    have hd : decode c.code pc = .ok (.sipush n, 3) := hd
    exact lv_sipush hx rfl hd rfl (kk H lsM locs cells slots hR hL hc hsl hlocs)
  | lconst n =>
    cases hs
    have hd : decode c.code pc = .ok (.lconst n, 1) := hd
    exact lv_lconst hx rfl hd rfl (kk H lsM locs cells slots hR hL hc hsl hlocs)
  | aconst_null =>
    cases hs
    have hd : decode c.code pc = .ok (.aconst_null, 1) := hd
    exact lv_null hx rfl hd (kk H lsM locs cells slots hR hL hc hsl hlocs)
  | iload k =>
    have hd : decode c.code pc = .ok (.iload k, 2) := hd
    simp only [xe_step] at hs
    split at hs
    · rename_i x hv
      cases hs
      exact lv_iload hx rfl hd (hL.2.2.2 k _ hv rfl) (kk H lsM locs cells slots hR hL hc hsl hlocs)
    · cases hs
  | iload_n k =>
    have hd : decode c.code pc = .ok (.iload_n k, 1) := hd
    simp only [xe_step] at hs
    split at hs
    · rename_i x hv
      cases hs
      exact lv_iload_n hx rfl hd rfl (hL.2.2.2 k _ hv rfl) (kk H lsM locs cells slots hR hL hc hsl hlocs)
    · cases hs
  | lload k =>
    have hd : decode c.code pc = .ok (.lload k, 2) := hd
    simp only [xe_step] at hs
    split at hs
    · rename_i x hv
      cases hs
      exact lv_lload hx rfl hd (hL.2.2.2 k _ hv rfl) (kk H lsM locs cells slots hR hL hc hsl hlocs)
    · cases hs
  | lload_n k =>
    have hd : decode c.code pc = .ok (.lload_n k, 1) := hd
    simp only [xe_step] at hs
    split at hs
    · rename_i x hv
      cases hs
      exact lv_lload_n hx rfl hd rfl (hL.2.2.2 k _ hv rfl) (kk H lsM locs cells slots hR hL hc hsl hlocs)
    · cases hs
  | aload k =>
    have hd : decode c.code pc = .ok (.aload k, 2) := hd
    simp only [xe_step] at hs
    split at hs
    · rename_i x hv
      cases hs
      exact lv_aload hx rfl hd (hL.2.2.2 k _ hv rfl) (kk H lsM locs cells slots hR hL hc hsl hlocs)
    · rename_i hv
      cases hs
      exact lv_aloadN hx rfl hd (hL.2.2.2 k _ hv rfl) (kk H lsM locs cells slots hR hL hc hsl hlocs)
    · cases hs
  | aload_n k =>
    have hd : decode c.code pc = .ok (.aload_n k, 1) := hd
    simp only [xe_step] at hs
    split at hs
    · rename_i x hv
      cases hs
      exact lv_aload_n hx rfl hd rfl (hL.2.2.2 k _ hv rfl) (kk H lsM locs cells slots hR hL hc hsl hlocs)
    · rename_i hv
      cases hs
      exact lv_aload_nN hx rfl hd rfl (hL.2.2.2 k _ hv rfl) (kk H lsM locs cells slots hR hL hc hsl hlocs)
    · cases hs
  | istore k =>
    have hd : decode c.code pc = .ok (.istore k, 2) := hd
    simp only [xe_step] at hs
    split at hs
    · split at hs
      · rename_i hk
        cases hs
        exact lv_istore hx rfl hd hL.has (by rw [← hL.2.2.1]; exact hk) rfl (fun ls' h' => kk H ls' locs cells slots hR (hL.set1 h') hc hsl hlocs)
      · cases hs
    · cases hs
  | istore_n k =>
    have hd : decode c.code pc = .ok (.istore_n k, 1) := hd
    simp only [xe_step] at hs
    split at hs
    · split at hs
      · rename_i hk
        cases hs
        exact lv_istore_n hx rfl hd rfl hL.has (by rw [← hL.2.2.1]; exact hk) rfl (fun ls' h' => kk H ls' locs cells slots hR (hL.set1 h') hc hsl hlocs)
      · cases hs
    · cases hs
  | lstore k =>
    have hd : decode c.code pc = .ok (.lstore k, 2) := hd
    simp only [xe_step] at hs
    split at hs
    · split at hs
      · rename_i hk
        cases hs
        exact lv_lstore hx rfl hd hL.has (by rw [← hL.2.2.1]; exact hk) rfl (fun ls' h' => kk H ls' locs cells slots hR (hL.set2 h') hc hsl hlocs)
      · cases hs
    · cases hs
  | lstore_n k =>
    have hd : decode c.code pc = .ok (.lstore_n k, 1) := hd
    simp only [xe_step] at hs
    split at hs
    · split at hs
      · rename_i hk
        cases hs
        exact lv_lstore_n hx rfl hd rfl hL.has (by rw [← hL.2.2.1]; exact hk) rfl (fun ls' h' => kk H ls' locs cells slots hR (hL.set2 h') hc hsl hlocs)
      · cases hs
    · cases hs
  | astore k =>
    have hd : decode c.code pc = .ok (.astore k, 2) := hd
    simp only [xe_step] at hs
    split at hs
    · split at hs
      · rename_i hk
        cases hs
        exact lv_astore hx rfl hd hL.has (by rw [← hL.2.2.1]; exact hk) rfl (fun ls' h' => kk H ls' locs cells slots hR (hL.set1 h') hc hsl hlocs)
      · cases hs
    · split at hs
      · rename_i hk
        cases hs
        exact lv_astoreN hx rfl hd hL.has (by rw [← hL.2.2.1]; exact hk) rfl (fun ls' h' => kk H ls' locs cells slots hR (hL.set1 h') hc hsl hlocs)
      · cases hs
    · cases hs
  | astore_n k =>
    have hd : decode c.code pc = .ok (.astore_n k, 1) := hd
    simp only [xe_step] at hs
    split at hs
    · split at hs
      · rename_i hk
        cases hs
        exact lv_astore_n hx rfl hd rfl hL.has (by rw [← hL.2.2.1]; exact hk) rfl (fun ls' h' => kk H ls' locs cells slots hR (hL.set1 h') hc hsl hlocs)
      · cases hs
    · split at hs
      · rename_i hk
        cases hs
        exact lv_astore_nN hx rfl hd rfl hL.has (by rw [← hL.2.2.1]; exact hk) rfl (fun ls' h' => kk H ls' locs cells slots hR (hL.set1 h') hc hsl hlocs)
      · cases hs
    · cases hs
  | iinc k n =>
    have hd : decode c.code pc = .ok (.iinc k n, 3) := hd
    simp only [xe_step] at hs
    split at hs
    · rename_i x hv
      cases hs
      obtain ⟨j, hj⟩ := List.getElem?_of_mem (xs_ls_mem (D := D) (v := .int x).mpr ⟨_, hv, rfl, rfl⟩)
      exact lv_iinc hx rfl hd hL.has hj rfl (by rw [← hL.2.2.1]; exact (List.getElem?_eq_some_iff.mp hv).1) rfl (fun ls' h' => kk H ls' locs cells slots hR (hL.set1 (v := .int _) h') hc hsl hlocs)
    · cases hs
  | iadd =>
    have hd : decode c.code pc = .ok (.iadd, 1) := hd
    simp only [xe_step] at hs
    split at hs
    · cases hs
      exact lv_iadd hx rfl hd (kk H lsM locs cells slots hR hL hc hsl hlocs)
    · cases hs
  | isub =>
    have hd : decode c.code pc = .ok (.isub, 1) := hd
    simp only [xe_step] at hs
    split at hs
    · cases hs
      exact lv_isub hx rfl hd (kk H lsM locs cells slots hR hL hc hsl hlocs)
    · cases hs
  | imul =>
    have hd : decode c.code pc = .ok (.imul, 1) := hd
    simp only [xe_step] at hs
    split at hs
    · cases hs
      exact lv_imul hx rfl hd (kk H lsM locs cells slots hR hL hc hsl hlocs)
    · cases hs
  | iand =>
    have hd : decode c.code pc = .ok (.iand, 1) := hd
    simp only [xe_step] at hs
    split at hs
    · cases hs
      exact lv_iand hx rfl hd (kk H lsM locs cells slots hR hL hc hsl hlocs)
    · cases hs
  | ior =>
    have hd : decode c.code pc = .ok (.ior, 1) := hd
    simp only [xe_step] at hs
    split at hs
    · cases hs
      exact lv_ior hx rfl hd (kk H lsM locs cells slots hR hL hc hsl hlocs)
    · cases hs
  | ixor =>
    have hd : decode c.code pc = .ok (.ixor, 1) := hd
    simp only [xe_step] at hs
    split at hs
    · cases hs
      exact lv_ixor hx rfl hd (kk H lsM locs cells slots hR hL hc hsl hlocs)
    · cases hs
  | ishl =>
    have hd : decode c.code pc = .ok (.ishl, 1) := hd
    simp only [xe_step] at hs
    split at hs
    · cases hs
      exact lv_ishl hx rfl hd (kk H lsM locs cells slots hR hL hc hsl hlocs)
    · cases hs
  | ishr =>
    have hd : decode c.code pc = .ok (.ishr, 1) := hd
    simp only [xe_step] at hs
    split at hs
    · cases hs
      exact lv_ishr hx rfl hd (kk H lsM locs cells slots hR hL hc hsl hlocs)
    · cases hs
  | ineg =>
    have hd : decode c.code pc = .ok (.ineg, 1) := hd
    simp only [xe_step] at hs
    split at hs
    · cases hs
      exact lv_ineg hx rfl hd (kk H lsM locs cells slots hR hL hc hsl hlocs)
    · cases hs
  | ladd =>
    have hd : decode c.code pc = .ok (.ladd, 1) := hd
    simp only [xe_step] at hs
    split at hs
    · cases hs
      exact lv_ladd hx rfl hd (kk H lsM locs cells slots hR hL hc hsl hlocs)
    · cases hs
  | lmul =>
    have hd : decode c.code pc = .ok (.lmul, 1) := hd
    simp only [xe_step] at hs
    split at hs
    · cases hs
      exact lv_lmul hx rfl hd (kk H lsM locs cells slots hR hL hc hsl hlocs)
    · cases hs
  | iushr =>
    have hd : decode c.code pc = .ok (.iushr, 1) := hd
    simp only [xe_step] at hs
    split at hs
    · cases hs
      exact lv_iushr hx rfl hd rfl (kk H lsM locs cells slots hR hL hc hsl hlocs)
    · cases hs
  | i2l =>
    have hd : decode c.code pc = .ok (.i2l, 1) := hd
    simp only [xe_step] at hs
    split at hs
    · cases hs
      exact lv_i2l hx rfl hd rfl (kk H lsM locs cells slots hR hL hc hsl hlocs)
    · cases hs
  | l2i =>
    have hd : decode c.code pc = .ok (.l2i, 1) := hd
    simp only [xe_step] at hs
    split at hs
    · cases hs
      exact lv_l2i hx rfl hd rfl (kk H lsM locs cells slots hR hL hc hsl hlocs)
    · cases hs
  | i2c =>
    have hd : decode c.code pc = .ok (.i2c, 1) := hd
    simp only [xe_step] at hs
    split at hs
    · cases hs
      exact lv_i2c hx rfl hd rfl (kk H lsM locs cells slots hR hL hc hsl hlocs)
    · cases hs
  | lcmp =>
    have hd : decode c.code pc = .ok (.lcmp, 1) := hd
    simp only [xe_step] at hs
    split at hs
    · cases hs
      exact W.lcmp hx rfl hd (kk H lsM locs cells slots hR hL hc hsl hlocs)
    · cases hs
  | idiv =>
    have hd : decode c.code pc = .ok (.idiv, 1) := hd
    simp only [xe_step] at hs
    split at hs
    · split at hs
      · cases hs
      · rename_i hne
        cases hs
        exact lv_idiv hx rfl hd hne (kk H lsM locs cells slots hR hL hc hsl hlocs)
    · cases hs
  | irem =>
    have hd : decode c.code pc = .ok (.irem, 1) := hd
    simp only [xe_step] at hs
    split at hs
    · split at hs
      · cases hs
      · rename_i hne
        cases hs
        exact lv_irem hx rfl hd hne (kk H lsM locs cells slots hR hL hc hsl hlocs)
    · cases hs
  | ldiv =>
    have hd : decode c.code pc = .ok (.ldiv, 1) := hd
    simp only [xe_step] at hs
    split at hs
    · split at hs
      · cases hs
      · rename_i hne
        cases hs
        exact lv_ldiv hx rfl hd hne (kk H lsM locs cells slots hR hL hc hsl hlocs)
    · cases hs
  | dup =>
    have hd : decode c.code pc = .ok (.dup, 1) := hd
    simp only [xe_step] at hs
    split at hs
    · split at hs
      · rename_i hv
        cases hs
        exact lv_dup hx rfl hd (by rw [xs_T_cat]; exact hv) (kk H lsM locs cells slots hR hL hc hsl hlocs)
      · cases hs
    · cases hs
  | pop =>
    have hd : decode c.code pc = .ok (.pop, 1) := hd
    simp only [xe_step] at hs
    split at hs
    · split at hs
      · rename_i hv
        cases hs
        exact lv_pop hx rfl hd (by rw [xs_T_cat]; exact hv) (kk H lsM locs cells slots hR hL hc hsl hlocs)
      · cases hs
    · cases hs
  | dup2 =>
    have hd : decode c.code pc = .ok (.dup2, 1) := hd
    simp only [xe_step] at hs
    split at hs
    · split at hs
      · rename_i hv
        cases hs
        exact lv_dup2_11 hx rfl hd (by rw [xs_T_cat]; exact hv.1) (by rw [xs_T_cat]; exact hv.2) (kk H lsM locs cells slots hR hL hc hsl hlocs)
      · cases hs
    · cases hs
  | goto off =>
    have hd : decode c.code pc = .ok (.goto off, 3) := hd
    obtain ⟨e1, rfl, rfl, rfl⟩ := xs_jump hs
    exact lv_goto hx rfl hd e1 (kk H lsM locs cells slots hR hL hc hsl hlocs)
  | ifCond cd off =>
    have hd : decode c.code pc = .ok (.ifCond cd off, 3) := hd
    simp only [xe_step] at hs
    split at hs
    · split at hs
      · rename_i hz
        have e1 : (pc : Int) + off = ((((pc : Int) + off).toNat : Nat) : Int) := by omega
        split at hs
        · rename_i hv
          cases hs
          cases cd with
          | eq => exact lv_if_eq hx rfl hd e1 (fun _ => (kk H lsM locs cells slots hR hL hc hsl hlocs)) (fun z => absurd (of_decide_eq_true hv) z)
          | ne => exact lv_if_ne hx rfl hd e1 (fun _ => (kk H lsM locs cells slots hR hL hc hsl hlocs)) (fun z => absurd z (of_decide_eq_true hv))
          | lt => exact lv_if_lt hx rfl hd e1 (fun _ => (kk H lsM locs cells slots hR hL hc hsl hlocs)) (fun z => absurd (of_decide_eq_true hv) z)
          | ge => exact lv_if_ge hx rfl hd e1 (fun _ => (kk H lsM locs cells slots hR hL hc hsl hlocs)) (fun z => absurd (of_decide_eq_true hv) z)
          | gt => exact lv_if_gt hx rfl hd e1 (fun _ => (kk H lsM locs cells slots hR hL hc hsl hlocs)) (fun z => absurd (of_decide_eq_true hv) z)
          | le => exact lv_if_le hx rfl hd e1 (fun _ => (kk H lsM locs cells slots hR hL hc hsl hlocs)) (fun z => absurd (of_decide_eq_true hv) z)
        · rename_i hv
          cases hs
          cases cd with
          | eq => exact lv_if_eq hx rfl hd e1 (fun z => absurd (decide_eq_true z) hv) (fun _ => (kk H lsM locs cells slots hR hL hc hsl hlocs))
          | ne => exact lv_if_ne hx rfl hd e1 (fun z => absurd (decide_eq_true z) hv) (fun _ => (kk H lsM locs cells slots hR hL hc hsl hlocs))
          | lt => exact lv_if_lt hx rfl hd e1 (fun z => absurd (decide_eq_true z) hv) (fun _ => (kk H lsM locs cells slots hR hL hc hsl hlocs))
          | ge => exact lv_if_ge hx rfl hd e1 (fun z => absurd (decide_eq_true z) hv) (fun _ => (kk H lsM locs cells slots hR hL hc hsl hlocs))
          | gt => exact lv_if_gt hx rfl hd e1 (fun z => absurd (decide_eq_true z) hv) (fun _ => (kk H lsM locs cells slots hR hL hc hsl hlocs))
          | le => exact lv_if_le hx rfl hd e1 (fun z => absurd (decide_eq_true z) hv) (fun _ => (kk H lsM locs cells slots hR hL hc hsl hlocs))
      · cases hs
    · cases hs
  | if_icmp cd off =>
    have hd : decode c.code pc = .ok (.if_icmp cd off, 3) := hd
    simp only [xe_step] at hs
    split at hs
    · split at hs
      · rename_i hz
        have e1 : (pc : Int) + off = ((((pc : Int) + off).toNat : Nat) : Int) := by omega
        split at hs
        · rename_i hv
          cases hs
          cases cd with
          | eq => exact lv_icmp_eq hx rfl hd e1 (fun _ => (kk H lsM locs cells slots hR hL hc hsl hlocs)) (fun z => absurd (of_decide_eq_true hv) z)
          | ne => exact lv_icmp_ne hx rfl hd e1 (fun _ => (kk H lsM locs cells slots hR hL hc hsl hlocs)) (fun z => absurd z (of_decide_eq_true hv))
          | lt => exact lv_icmp_lt hx rfl hd e1 (fun _ => (kk H lsM locs cells slots hR hL hc hsl hlocs)) (fun z => absurd (of_decide_eq_true hv) z)
          | ge => exact lv_icmp_ge hx rfl hd e1 (fun _ => (kk H lsM locs cells slots hR hL hc hsl hlocs)) (fun z => absurd (of_decide_eq_true hv) z)
          | gt => exact lv_icmp_gt hx rfl hd e1 (fun _ => (kk H lsM locs cells slots hR hL hc hsl hlocs)) (fun z => absurd (of_decide_eq_true hv) z)
          | le => exact lv_icmp_le hx rfl hd e1 (fun _ => (kk H lsM locs cells slots hR hL hc hsl hlocs)) (fun z => absurd (of_decide_eq_true hv) z)
        · rename_i hv
          cases hs
          cases cd with
          | eq => exact lv_icmp_eq hx rfl hd e1 (fun z => absurd (decide_eq_true z) hv) (fun _ => (kk H lsM locs cells slots hR hL hc hsl hlocs))
          | ne => exact lv_icmp_ne hx rfl hd e1 (fun z => absurd (decide_eq_true z) hv) (fun _ => (kk H lsM locs cells slots hR hL hc hsl hlocs))
          | lt => exact lv_icmp_lt hx rfl hd e1 (fun z => absurd (decide_eq_true z) hv) (fun _ => (kk H lsM locs cells slots hR hL hc hsl hlocs))
          | ge => exact lv_icmp_ge hx rfl hd e1 (fun z => absurd (decide_eq_true z) hv) (fun _ => (kk H lsM locs cells slots hR hL hc hsl hlocs))
          | gt => exact lv_icmp_gt hx rfl hd e1 (fun z => absurd (decide_eq_true z) hv) (fun _ => (kk H lsM locs cells slots hR hL hc hsl hlocs))
          | le => exact lv_icmp_le hx rfl hd e1 (fun z => absurd (decide_eq_true z) hv) (fun _ => (kk H lsM locs cells slots hR hL hc hsl hlocs))
      · cases hs
    · cases hs
  | ifnonnull off =>
    have hd : decode c.code pc = .ok (.ifnonnull off, 3) := hd
    simp only [xe_step] at hs
    split at hs
    · obtain ⟨e1, rfl, rfl, rfl⟩ := xs_jump hs
      exact lv_ifnonnull hx rfl hd e1 (kk H lsM locs cells slots hR hL hc hsl hlocs)
    · cases hs
      exact lv_ifnonnullN hx rfl hd (kk H lsM locs cells slots hR hL hc hsl hlocs)
    · cases hs
  | tableswitch dflt lo hi offs =>
    have hd : ∃ len, decode c.code pc = .ok (.tableswitch dflt lo hi offs, len) := hd
    obtain ⟨len, hd⟩ := hd
    simp only [xe_step] at hs
    split at hs
    · split at hs
      · rename_i hv
        obtain ⟨e1, rfl, rfl, rfl⟩ := xs_jump hs
        exact lv_tableOut hx rfl hd hv e1 (kk H lsM locs cells slots hR hL hc hsl hlocs)
      · rename_i hv
        split at hs
        · rename_i off ho
          obtain ⟨e1, rfl, rfl, rfl⟩ := xs_jump hs
          exact lv_tableIn hx rfl hd (fun z => hv (Or.inl z)) (fun z => hv (Or.inr z)) (by rw [← Array.getElem?_toList]; exact ho) e1 (kk H lsM locs cells slots hR hL hc hsl hlocs)
        · cases hs
    · cases hs
  | ldc idx =>
    have hd : decode c.code pc = .ok (.ldc idx, 2) := hd
    have hk := hLK idx
    simp only [xe_step] at hs
    split at hs
    · rename_i u1 u2 v hv
      rw [hv] at hk
      cases hs
      exact lv_ldc hx rfl hown (hts _ hk) hd (kk H lsM locs cells slots hR hL hc hsl hlocs)
    · rename_i a u1 u2 hv
      rw [hv] at hk
      obtain ⟨tx, hk⟩ := hk
      cases hs
      exact va_ldcS hx rfl hown (hK.2.2.2.1 _ _ _ _ hk) hd (kk H lsM locs cells slots hR hL hc hsl hlocs)
    · cases hs
  | ldc_w idx =>
    have hd : decode c.code pc = .ok (.ldc_w idx, 3) := hd
    have hk := hLK idx
    simp only [xe_step] at hs
    split at hs
    · rename_i u1 u2 v hv
      rw [hv] at hk
      cases hs
      exact lv_ldcw hx rfl hown (hts _ hk) hd (kk H lsM locs cells slots hR hL hc hsl hlocs)
    · cases hs
  | ldc2_w idx =>
    have hd : decode c.code pc = .ok (.ldc2_w idx, 3) := hd
    have hk := hLK idx
    simp only [xe_step] at hs
    split at hs
    · rename_i u1 u2 v hv
      rw [hv] at hk
      cases hs
      exact lv_ldc2 hx rfl hown (hts _ hk) hd (kk H lsM locs cells slots hR hL hc hsl hlocs)
    · cases hs
  | getfield idx =>
    have hd : decode c.code pc = .ok (.getfield idx, 3) := hd
    have hk := hLK idx
    simp only [xe_step, xe_getf] at hs
    split at hs
    · split at hs
      · rename_i o ho
        split at hs
        · rename_i ci k c0 hv
          rw [hv] at hk
          split at hs
          · rename_i hb
            simp only [Bool.and_eq_true, Nat.beq_eq, Nat.blt_eq] at hb
            cases hs
            exact xs_getfield hx hown hts hCV hK hk.1 hR ho hb.1 hb.2.1 hb.2.2 hd (kk H lsM locs cells slots hR hL hc hsl hlocs)
          · cases hs
        · rename_i ci k c0 hv
          rw [hv] at hk
          split at hs
          · rename_i hb
            simp only [Bool.and_eq_true, Bool.or_eq_true, Nat.beq_eq, Nat.blt_eq] at hb
            cases hs
            rcases hb.1 with e | e
            · exact xs_getfield hx hown hts hCV hK hk.1 hR ho e hb.2.1 hb.2.2 hd (kk H lsM locs cells slots hR hL hc hsl hlocs)
            · exact xs_getfield hx hown hts hCV hK hk.2.1 hR ho e hb.2.1 hb.2.2 hd (kk H lsM locs cells slots hR hL hc hsl hlocs)
          · cases hs
        · cases hs
      · cases hs
    · cases hs
  | putfield idx =>
    have hd : decode c.code pc = .ok (.putfield idx, 3) := hd
    have hk := hLK idx
    simp only [xe_step, xe_putf] at hs
    split at hs
    · split at hs
      · rename_i o ho
        split at hs
        · rename_i ci k c0 hv
          rw [hv] at hk
          split at hs
          · rename_i hb
            simp only [Bool.and_eq_true, Bool.or_eq_true, Nat.beq_eq, Nat.blt_eq, decide_eq_true_eq] at hb
            cases hs
            rcases hb.2.2.2.2 with e | e
            · exact xs_putfield hx hown hts hCV hK hG hA (hk.2.1 e) (fun z => by cases z) hR ho hb.1 hb.2.1 hb.2.2.2.1 hb.2.2.1 hlocs hd (fun H1 locs1 hR1 hlocs1 => kk H1 lsM locs1 cells slots hR1 hL hc hsl hlocs1)
            · exact xs_putfield hx hown hts hCV hK hG hA (hk.2.2 e.1) (fun _ => hfin e.2) hR ho hb.1 hb.2.1 hb.2.2.2.1 hb.2.2.1 hlocs hd (fun H1 locs1 hR1 hlocs1 => kk H1 lsM locs1 cells slots hR1 hL hc hsl hlocs1)
          · cases hs
        · rename_i ci k c0 hv
          rw [hv] at hk
          split at hs
          · rename_i hb
            simp only [Bool.and_eq_true, Bool.or_eq_true, Nat.beq_eq, Nat.blt_eq, decide_eq_true_eq] at hb
            cases hs
            rcases hb.1 with e | e
            · exact xs_putfield hx hown hts hCV hK hG hA hk.2.2.1 (fun _ => hfin hb.2.2.2.2) hR ho e hb.2.1 hb.2.2.2.1 hb.2.2.1 hlocs hd (fun H1 locs1 hR1 hlocs1 => kk H1 lsM locs1 cells slots hR1 hL hc hsl hlocs1)
            · exact xs_putfield hx hown hts hCV hK hG hA hk.2.2.2 (fun _ => hfin hb.2.2.2.2) hR ho e hb.2.1 hb.2.2.2.1 hb.2.2.1 hlocs hd (fun H1 locs1 hR1 hlocs1 => kk H1 lsM locs1 cells slots hR1 hL hc hsl hlocs1)
          · cases hs
        · cases hs
      · cases hs
    · cases hs
  | iaload =>
    have hd : decode c.code pc = .ok (.iaload, 1) := hd
    simp only [xe_step, xe_ld] at hs
    split at hs
    · split at hs
      · rename_i o ho
        split at hs
        · rename_i hb
          simp only [Bool.and_eq_true, Bool.or_eq_true, beq_iff_eq, Nat.blt_eq] at hb
          cases hs
          have ht : ∃ t, (t, FieldType.int) ∈ xs_AT ∧ o.1 = t ∧ 1000 ≤ t := by
            rcases hb.1 with z | z
            · exact ⟨_, by decide, z, by decide⟩
            · exact ⟨_, by decide, z, by decide⟩
          obtain ⟨t, ht, et, h1000⟩ := ht
          obtain ⟨cell, q1, q2, q3, q4, q5, q6, q7, q8⟩ := xs_arr (t := 0) hA hR ho hb.2.2 (by rw [et]; exact h1000) hb.2.1
          exact W.iald hx rfl q1 (xs_arrOf hK ht (by rw [q2, et]) q5) q4 q7 q8 rfl rfl hd (kk H lsM locs cells slots hR hL hc hsl hlocs)
        · cases hs
      · cases hs
    · cases hs
  | laload =>
    have hd : decode c.code pc = .ok (.laload, 1) := hd
    simp only [xe_step, xe_ld] at hs
    split at hs
    · split at hs
      · rename_i o ho
        split at hs
        · rename_i hb
          simp only [Bool.and_eq_true, Bool.or_eq_true, beq_iff_eq, Nat.blt_eq] at hb
          cases hs
          have ht : ∃ t, (t, FieldType.long) ∈ xs_AT ∧ o.1 = t ∧ 1000 ≤ t := by
            rcases hb.1 with z | z
            · exact ⟨_, by decide, z, by decide⟩
            · exact ⟨_, by decide, z, by decide⟩
          obtain ⟨t, ht, et, h1000⟩ := ht
          obtain ⟨cell, q1, q2, q3, q4, q5, q6, q7, q8⟩ := xs_arr (t := 0) hA hR ho hb.2.2 (by rw [et]; exact h1000) hb.2.1
          exact W.lald hx rfl q1 (xs_arrOf hK ht (by rw [q2, et]) q5) q4 q7 q8 rfl rfl hd (kk H lsM locs cells slots hR hL hc hsl hlocs)
        · cases hs
      · cases hs
    · cases hs
  | baload =>
    have hd : decode c.code pc = .ok (.baload, 1) := hd
    simp only [xe_step, xe_ld] at hs
    split at hs
    · split at hs
      · rename_i o ho
        split at hs
        · rename_i hb
          simp only [Bool.and_eq_true, Bool.or_eq_true, beq_iff_eq, Nat.blt_eq] at hb
          cases hs
          have ht : ∃ t, (t, FieldType.boolean) ∈ xs_AT ∧ o.1 = t ∧ 1000 ≤ t := by
            rcases hb.1 with z | z
            · exact ⟨_, by decide, z, by decide⟩
            · exact ⟨_, by decide, z, by decide⟩
          obtain ⟨t, ht, et, h1000⟩ := ht
          obtain ⟨cell, q1, q2, q3, q4, q5, q6, q7, q8⟩ := xs_arr (t := 0) hA hR ho hb.2.2 (by rw [et]; exact h1000) hb.2.1
          exact W.zald hx rfl q1 (xs_arrOf hK ht (by rw [q2, et]) q5) q4 q7 q8 rfl rfl hd (kk H lsM locs cells slots hR hL hc hsl hlocs)
        · cases hs
      · cases hs
    · cases hs
  | aaload =>
    have hd : decode c.code pc = .ok (.aaload, 1) := hd
    simp only [xe_step, xe_ld] at hs
    split at hs
    · split at hs
      · rename_i o ho
        split at hs
        · rename_i hb
          simp only [Bool.and_eq_true, Bool.or_eq_true, beq_iff_eq, Nat.blt_eq, or_self] at hb
          cases hs
          obtain ⟨cell, q1, q2, q3, q4, q5, q6, q7, q8⟩ := xs_arr (t := 0) hA hR ho hb.2.2 (by rw [hb.1]; decide) hb.2.1
          exact W.aald hx rfl q1 (xs_arrOf (t := 1004) (ty := .object "StairMeter$House") hK (by decide) (by rw [q2, hb.1]) q5) rfl q4 q7 q8 rfl rfl hd (kk H lsM locs cells slots hR hL hc hsl hlocs)
        · cases hs
      · cases hs
    · cases hs
  | iastore =>
    have hd : decode c.code pc = .ok (.iastore, 1) := hd
    simp only [xe_step, xe_sto] at hs
    split at hs
    · split at hs
      · rename_i o ho
        split at hs
        · rename_i hb
          simp only [Bool.and_eq_true, beq_iff_eq, decide_eq_true_eq] at hb
          cases hs
          obtain ⟨cell, q1, q2, q3, q4, q5, q6, q7, q8⟩ := xs_arr (t := 0) hA hR ho (Nat.lt_trans hb.2.2.2 (by decide)) (by rw [hb.1]; decide) hb.2.1
          rename_i v i0 a0 rest0
          cases v with
          | int x =>
            refine W.iast hx rfl q1 (xs_arrOf (t := 1000) (ty := .int) hK (by decide) (by rw [q2, hb.1]) q5) q4 q7 rfl rfl hd (fun H1 e1 e2 e3 => ?_)
            exact kk H1 lsM _ cells slots (hR.ast (v := .int x) hG hA ho hb.2.2.2 (by rw [hb.1]; decide) hb.2.1 q1 e1 e2 e3) hL hc hsl (xs_locs1 hA hb.2.2.2 hlocs)
          | _ => exact absurd hb.2.2.1 (by simp [xe_fit])
        · cases hs
      · cases hs
    · cases hs
  | lastore =>
    have hd : decode c.code pc = .ok (.lastore, 1) := hd
    simp only [xe_step, xe_sto] at hs
    split at hs
    · split at hs
      · rename_i o ho
        split at hs
        · rename_i hb
          simp only [Bool.and_eq_true, beq_iff_eq, decide_eq_true_eq] at hb
          cases hs
          obtain ⟨cell, q1, q2, q3, q4, q5, q6, q7, q8⟩ := xs_arr (t := 0) hA hR ho (Nat.lt_trans hb.2.2.2 (by decide)) (by rw [hb.1]; decide) hb.2.1
          rename_i v i0 a0 rest0
          cases v with
          | long x =>
            refine W.last hx rfl q1 (xs_arrOf (t := 1001) (ty := .long) hK (by decide) (by rw [q2, hb.1]) q5) q4 q7 rfl rfl hd (fun H1 e1 e2 e3 => ?_)
            exact kk H1 lsM _ cells slots (hR.ast (v := .long x) hG hA ho hb.2.2.2 (by rw [hb.1]; decide) hb.2.1 q1 e1 e2 e3) hL hc hsl (xs_locs1 hA hb.2.2.2 hlocs)
          | _ => exact absurd hb.2.2.1 (by simp [xe_fit])
        · cases hs
      · cases hs
    · cases hs
  | bastore =>
    have hd : decode c.code pc = .ok (.bastore, 1) := hd
    simp only [xe_step, xe_sto] at hs
    split at hs
    · split at hs
      · rename_i o ho
        split at hs
        · rename_i hb
          simp only [Bool.and_eq_true, beq_iff_eq, decide_eq_true_eq] at hb
          cases hs
          obtain ⟨cell, q1, q2, q3, q4, q5, q6, q7, q8⟩ := xs_arr (t := 0) hA hR ho (Nat.lt_trans hb.2.2.2 (by decide)) (by rw [hb.1]; decide) hb.2.1
          rename_i v i0 a0 rest0
          cases v with
          | int x =>
            refine W.zast hx rfl q1 (xs_arrOf (t := 1002) (ty := .boolean) hK (by decide) (by rw [q2, hb.1]) q5) q4 q7 rfl rfl hd (fun H1 e1 e2 e3 => ?_)
            have hn := (xs_fit (D := D) (ty := .boolean) hb.2.2.1 (Or.inr (Or.inl ⟨rfl, rfl⟩))).1
            exact kk H1 lsM _ cells slots (hR.ast (v := .int x) hG hA ho hb.2.2.2 (by rw [hb.1]; decide) hb.2.1 q1 (by rw [e1]; exact congrArg (fun z => some (cell.setSlot i0.toNatClampNeg z)) hn) e2 e3) hL hc hsl (xs_locs1 hA hb.2.2.2 hlocs)
          | _ => exact absurd hb.2.2.1 (by simp [xe_fit])
        · cases hs
      · cases hs
    · cases hs
  | aastore =>
    have hd : decode c.code pc = .ok (.aastore, 1) := hd
    simp only [xe_step] at hs
    split at hs
    · split at hs
      · rename_i b0 rest0 hrc
        simp only [xe_sto] at hs
        split at hs
        · rename_i v i0 a0 rest1 hst
          cases hst
          split at hs
          · rename_i o ho
            split at hs
            · rename_i hb
              simp only [Bool.and_eq_true, beq_iff_eq, decide_eq_true_eq] at hb
              cases hs
              obtain ⟨cell, q1, q2, q3, q4, q5, q6, q7, q8⟩ := xs_arr (t := 0) hA hR ho (Nat.lt_trans hb.2.2.2 (by decide)) (by rw [hb.1]; decide) hb.2.1
              obtain ⟨⟨kA, comp, k1, k2, k3⟩, -⟩ := hK.2.1 1004 (.object "StairMeter$House") (by decide)
              obtain ⟨T2, N2, hc2⟩ := hcl2
              have hCA := (hK.1 2 _ hc2).2
              obtain ⟨hfc, kC, hkC, hkind⟩ := id hCA
              have hcomp : comp = D.2.2.1 2 := Option.some.inj ((k3 _ rfl).symm.trans hfc)
              simp only [xe_recv] at hrc
              split at hrc
              · rename_i o2 ho2
                simp only [Bool.and_eq_true, Nat.beq_eq, Nat.blt_eq] at hrc
                obtain ⟨⟨cv, r1, r2, r3, r4, r5, -⟩, -⟩ := hR.2.1 _ o2 ho2 hrc.2
                refine W.aast hx rfl (v := D.1 b0) (cv := cv) (kcomp := kC) (kv := kC) q1 (fun z hz => by rw [hz] at q5; cases q5) q4 (by rw [q2, hb.1]; exact k1) k2 rfl (by rw [hcomp]; exact hkC) ⟨fun z => q7 (Or.inl z), Nat.not_le.mp (fun z => q7 (Or.inr z))⟩ r1 (fun z hz => by rw [hz] at r5; cases r5) (by rw [r2, hrc.1]; exact hkC) (by rw [r2, hrc.1, hcomp]; exact va_assign hCA) rfl rfl hd (fun H1 e1 e2 e3 => ?_)
                exact kk H1 lsM _ cells slots (hR.ast (v := .ref b0) hG hA ho hb.2.2.2 (by rw [hb.1]; decide) hb.2.1 q1 e1 e2 e3) hL hc hsl (xs_locs1 hA hb.2.2.2 hlocs)
              · cases hrc
            · cases hs
          · cases hs
        · cases hs
      · cases hs
    · cases hs
  | arraylength =>
    have hd : decode c.code pc = .ok (.arraylength, 1) := hd
    simp only [xe_step] at hs
    split at hs
    · split at hs
      · rename_i o ho
        split at hs
        · rename_i hb
          simp only [Bool.and_eq_true, Bool.or_eq_true, beq_iff_eq, Nat.blt_eq] at hb
          cases hs
          have ht : (o.1, FieldType.int) ∈ xs_AT := by
            rcases hb.1 with z | z
            · rw [z]; decide
            · rw [z]; decide
          obtain ⟨⟨cell, q1, q2, q3, q4, q5, q6, q7, q8⟩, -⟩ := hR.2.1 _ o ho hb.2
          exact W.alen hx rfl q1 (xs_arrOf hK ht q2 q5) (by rw [q6 (xs_AT1000 ht)]) rfl rfl hd (kk H lsM locs cells slots hR hL hc hsl hlocs)
        · cases hs
      · cases hs
    · cases hs
  | newarray at0 =>
    have hd : decode c.code pc = .ok (.newarray at0, 2) := hd
    cases at0 with
    | int => exact xs_newarr (ty := .int) (t := 1000) (dv := .int 0) hs hd rfl (by decide) (by decide) (fun _ => rfl) rfl (by decide) hx (hts _ hWA.1) hK hG hA hR hL hc hsl hRc hRs hlocs kk
    | long => exact xs_newarr (ty := .long) (t := 1001) (dv := .long 0) hs hd rfl (by decide) (by decide) (fun _ => rfl) rfl (by decide) hx (hts _ hWA.2.1) hK hG hA hR hL hc hsl hRc hRs hlocs kk
    | boolean => exact xs_newarr (ty := .boolean) (t := 1002) (dv := .int 0) hs hd rfl (by decide) (by decide) (fun _ => rfl) rfl (by decide) hx (hts _ hWA.2.2) hK hG hA hR hL hc hsl hRc hRs hlocs kk
    | _ => exact absurd hs (by simp [xe_step])
  | anewarray idx =>
    have hd : decode c.code pc = .ok (.anewarray idx, 3) := hd
    have hk := hLK idx
    simp only [xe_step] at hs
    split at hs
    · rename_i u1 u2 hv
      rw [hv] at hk
      obtain ⟨C, T, N, ty, vs, c1, c2, c3, c4, -⟩ := hk
      obtain ⟨T2, N2, hc2⟩ := hcl2
      have hC : C = "StairMeter$House" := by
        rw [hc2] at c1
        cases c1
        rfl
      subst hC
      have hk := c4
      unfold xe_newa at hs
      split at hs
      · rename_i n0 rest0
        split at hs
        · rename_i hb
          simp only [xe_fits, Bool.and_eq_true, decide_eq_true_eq, Nat.ble_eq] at hb
          cases hs
          refine W.anew hx rfl hown (hts _ hk) (hts _ hAO) rfl hd rfl (Int32.not_lt.mpr hb.1) (by have := hb.2.1; omega) (by omega) (by omega) (fun cA kA comp f1 f2 f3 f4 => ?_)
          have k4 := (hK.2.1 1004 (.object "StairMeter$House") (by decide)).2 (by decide)
          have hcA : cA = D.2.2.1 1004 := Option.some.inj (f1.symm.trans k4)
          have hz : H.size = D.1 h.1 := by rw [hR.1, hA.1 _ (by omega)]
          have hC : xs_C D h.1 (1004, n0.toNatClampNeg, fun _ => .null) (H.push ({ cls := cA, slots := Array.replicate n0.toNatClampNeg .null, vm := .none } : Cell)) := by
            refine ⟨_, by rw [← hz]; exact Array.getElem?_push_size, hcA, fun _ => rfl, (fun z => by cases z), rfl, fun _ => by simp, fun k hk => ?_, fun x y _ _ hxy => ?_⟩
            · have hk : k < n0.toNatClampNeg := hk
              rw [hA.2.2 1004 _ (by decide)]
              simp [hk, xs_T]
            · rw [hA.2.2 1004 _ (by decide), hA.2.2 1004 _ (by decide)]
              exact hxy
          have hR1 := hR.new hG hA ⟨hb.2.2.1, hb.2.2.2⟩ (by rw [Array.size_push]) hC (fun q hq => by rw [Array.getElem?_push, if_neg (Nat.ne_of_lt hq)])
          rw [hz]
          exact kk _ lsM locs (cells + 1) (slots + n0.toNatClampNeg) hR1 hL (by show _ = h.1 + 1; omega) (by show _ = h.2.1 + n0.toNatClampNeg; omega) hlocs
        · cases hs
      · cases hs
    · cases hs
  | new idx =>
    have hd : decode c.code pc = .ok (.new idx, 3) := hd
    have hk := hLK idx
    simp only [xe_step, xe_new1] at hs
    split at hs
    · split at hs
      · split at hs <;> cases hs
      · cases hs
    · rename_i ci u1 u2 hv
      rw [hv] at hk
      obtain ⟨C, T, N, ty, vs, c1, c2, c3, c4, c5, c6, c7, c8⟩ := hk
      rw [c3] at hs
      dsimp only at hs
      split at hs
      · rename_i hb
        simp only [xe_fits, Bool.and_eq_true, Nat.ble_eq] at hb
        cases hs
        refine W.newc hx rfl hown (hts _ c4) (hts _ c5) (hts _ c6) rfl hd (by omega) (by omega) (fun cC kC f1 f2 f3 f4 => ?_)
        obtain ⟨hS, hfc, -⟩ := hK.1 ci _ c1
        have hcC : cC = D.2.2.1 ci := Option.some.inj (f1.symm.trans hfc)
        have hz : H.size = D.1 h.1 := by rw [hR.1, hA.1 _ (by omega)]
        obtain ⟨hws, ⟨ty0, hty0⟩, hnm⟩ := hCV ci C T N c1
        have hC : xs_C D h.1 (ci, N, fun k => vs.getD k .null) (H.push ({ cls := cC, slots := kC.instanceTypes.map defaultValue, vm := .none } : Cell)) := by
          refine ⟨_, by rw [← hz]; exact Array.getElem?_push_size, hcC, fun _ => rfl, (fun z => by cases z), rfl, fun z => absurd z (by show ¬ 1000 ≤ ci; omega), fun k hk => ?_, fun x y hxN hyN hne => ?_⟩
          · obtain ⟨cf, kf, fi, fd, hi, he⟩ := hS k hk
            have h3 := (u_facts f1 f2 (u_lays hts hws hk) hi).2.2
            rw [(State.fieldFound?_type hi (c7 k hk)).2, he] at h3
            show (kC.instanceTypes.map defaultValue)[D.2.2.2 ci k]? = some (xs_T D (vs.getD k .null))
            rw [(c8 k hk).2 D, ← (c8 k hk).1, Array.getElem?_map, h3]
            rfl
          · obtain ⟨_, _, _, fa, hia, ea⟩ := hS x hxN
            obtain ⟨_, _, _, fb, hib, eb⟩ := hS y hyN
            show D.2.2.2 ci x ≠ D.2.2.2 ci y
            rw [← ea, ← eb]
            refine u_apart (u_lays hts hws hxN) (u_lays hts hws hyN) hia hib ?_
            rw [(State.fieldFound?_type hia (hty0 x hxN)).1, (State.fieldFound?_type hib (hty0 y hyN)).1]
            exact hnm x hxN y hyN hne
        have hR1 := hR.new hG hA ⟨hb.1, hb.2⟩ (by rw [Array.size_push]) hC (fun q hq => by rw [Array.getElem?_push, if_neg (Nat.ne_of_lt hq)])
        rw [hz]
        exact kk _ lsM locs (cells + 1) (slots + N) hR1 hL (by show _ = h.1 + 1; omega) (by show _ = h.2.1 + N; omega) hlocs
      · cases hs
    · cases hs
  | ireturn =>
    simp only [xe_step] at hs
    repeat' (split at hs)
    all_goals cases hs
  | areturn =>
    simp only [xe_step] at hs
    repeat' (split at hs)
    all_goals cases hs
  | return_ =>
    simp only [xe_step] at hs
    repeat' (split at hs)
    all_goals cases hs
  | invokestatic idx =>
    cases hinv
  | invokevirtual idx =>
    cases hinv
  | invokespecial idx =>
    cases hinv
  | _ => exact absurd hs (by simp [xe_step])
end XP
