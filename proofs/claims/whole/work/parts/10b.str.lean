/-! ===== String's length and charAt ===== -/
def xs_pq (mx : Nat) : xe_M := ([], [], mx, 0, [])
theorem xs_fin {below : List Frame} {EX : List (Nat × String)} {SP : Nat → Option xe_O} {G : State → Heap → Prop} {D : xs_D} {s : State} {args : Array Value} {h h0 : xe_H} {H : Heap} {cells slots : Nat} (hR : xs_R SP G D s h H) (hc : cells + h0.1 = h.1) (hsl : slots + h0.2.1 = h.2.1) (v : Option Value) (t : State) (q : MQ below (fun _ _ o t => o = .returned (v.map (xs_T D)) ∧ t.heap = H) args s cells slots (fun a => D.2.1 ≤ a) t) : xs_Q EX SP G D s below h0 (.inl v) h t := by
  obtain ⟨o, m1, m2, ⟨m3, m3h⟩, L, ⟨m4, m5, m6⟩, m7⟩ := q
  exact ⟨o, L, cells, slots, m1, m2, m3, by rw [m3h]; exact hR, m5, m6, m7, hc, hsl⟩
/-- what is known of the texts, and of two statics -/
def xs_GS (N : Nat) (byt : List (List Int32)) (D : xs_D) (U : State) (H : Heap) : Prop :=
  ((∀ i, i < N → va_O "java/lang/String" (D.1 (1500000 + i)) (fun q => D.2.1 ≤ q) U H ∧ va_OF "java/lang/String" "coder" "B" (.int 0) (D.1 (1500000 + i)) (fun q => D.2.1 ≤ q) U H ∧ va_OF "java/lang/String" "value" "[B" (.ref (D.1 (1600000 + i))) (D.1 (1500000 + i)) (fun q => D.2.1 ≤ q) U H ∧ va_T .byte (D.1 (1600000 + i)) ((byt.map List.length).getD i 0) (fun j => .int ((byt.getD i []).getD j 0)) (fun q => D.2.1 ≤ q) U H) ∧ True) ∧ va_Z "java/lang/String" "COMPACT_STRINGS" "Z" (.int 1) (fun q => D.2.1 ≤ q) U H ∧ va_Zq "jdk/internal/util/Preconditions" "SIOOBE_FORMATTER" "Ljava/util/function/BiFunction;" (fun q => D.2.1 ≤ q) U H
def xs_miLen : xs_MI := (⟨"java/lang/String", "length", "()I"⟩, prog_25_method_54_code, some .int, [])
def xs_miCoder : xs_MI := (⟨"java/lang/String", "coder", "()B"⟩, prog_25_method_152_code, some .byte, [])
def xs_miChar : xs_MI := (⟨"java/lang/String", "charAt", "(I)C"⟩, prog_25_method_56_code, some .char, [])
def xs_miLat : xs_MI := (⟨"java/lang/String", "isLatin1", "()Z"⟩, prog_25_method_154_code, some .boolean, [])
def xs_miChk : xs_MI := (⟨"java/lang/String", "checkIndex", "(II)V"⟩, prog_25_method_155_code, none, [])
def xs_miL1 : xs_MI := (⟨"java/lang/StringLatin1", "charAt", "([BI)C"⟩, prog_26_method_2_code, some .char, [])
def xs_miPre : xs_MI := (⟨"jdk/internal/util/Preconditions", "checkIndex", "(IILjava/util/function/BiFunction;)I"⟩, prog_34_method_11_code, some .int, [])
section XS
variable {p : Program} {l : Launch} {e : Env} {R : Room} {s : State} {m : MethodId} {args : Array Value} {below : List Frame} {meth : Method} {c : Code} {H : Heap} {locs : List Loc} {cells slots : Nat}
variable {EX : List (Nat × String)} {D : xs_D} {SP : Nat → Option xe_O} {G : State → Heap → Prop} {h h0 : xe_H} {N : Nat} {byt : List (List Int32)}
theorem xs_bCoder (hx : p.tables.exec = Jvm.exec) (hts : ∀ w ∈ zWS, w.before args s = true) (hIs : xs_Is (xs_pq 1) xs_miCoder s m meth c) (hZ : ∀ U H, G U H → xs_GS N byt D U H) (hR : xs_R SP G D s h H) (hc : cells + h0.1 = h.1) (hsl : slots + h0.2.1 = h.2.1) (hlocs : ∀ q ∈ locs, D.2.1 ≤ q.base) {i : Nat} (hi : i < N) :
    W p l e R s m args below meth c H locs cells slots (xs_Q EX SP G D s below h0 (.inl (some (.int 0))) h) (entryFrame m [Value.ref (D.1 (1500000 + i))].toArray 1) := by
  obtain ⟨i1, i2, i3, i4, i5, i6, i7, i8, i9⟩ := id hIs
  have hown : s.vm.findClass "java/lang/String" = some m.cls := findClass_of_methodNamed i1
  obtain ⟨hS, hZ1, hZ2⟩ := hZ _ _ hR.2.2.2.1
  obtain ⟨s1, s2, s3, s4⟩ := hS.1 i hi
  obtain ⟨cf, kf, fi, f, a, cell, z1, z2, z3, z4, z5, z6, z7, -⟩ := hZ1
  obtain ⟨cf2, kf2, fi2, f2, cell2, y1, y2, y3, y4, y5, -⟩ := s2
  rw [lg_entry_eq]
  refine W.gets hx i4 hown (hts _ (xs_mw 909 (by decide +kernel) rfl)) z1 z2 z3 z4 z5 (by intro z; rw [z] at z6; cases z6) z7 rfl (show decode prog_25_method_152_code 0 = .ok (.getstatic 38, 3) by decide +kernel) (show W p l e R s m args below meth c H locs cells slots _ (F0 m 3 _ [Value.int 1]) from ?_)
  refine lv_if_eq hx i4 (show decode prog_25_method_152_code 3 = .ok (.ifCond .eq 10, 3) by decide +kernel) (tgt := 13) (by decide) (fun z => absurd z (by decide)) (fun _ => ?_)
  refine lv_aload_n hx i4 (show decode prog_25_method_152_code 6 = .ok (.aload_n 0, 1) by decide +kernel) rfl rfl ?_
  refine W.getf hx i4 hown (hts _ (xs_mw 2233 (by decide +kernel) rfl)) y1 y2 y3 y4 y5 rfl rfl (show decode prog_25_method_152_code 7 = .ok (.getfield 15, 3) by decide +kernel) (show W p l e R s m args below meth c H locs cells slots _ (F0 m 10 _ [Value.int 0]) from ?_)
  refine lv_goto hx i4 (show decode prog_25_method_152_code 10 = .ok (.goto 4, 3) by decide +kernel) (tgt := 14) (by decide) ?_
  exact xs_Wmono (xs_fin hR hc hsl (some (.int 0))) (W.zret hx i4 i6 (by decide) (fun t ht _ => ⟨rfl, ht⟩) hlocs (show decode prog_25_method_152_code 14 = .ok (.ireturn, 1) by decide +kernel) i7)
theorem xs_bLat (hx : p.tables.exec = Jvm.exec) (hts : ∀ w ∈ zWS, w.before args s = true) (hIs : xs_Is (xs_pq 1) xs_miLat s m meth c) (hZ : ∀ U H, G U H → xs_GS N byt D U H) (hR : xs_R SP G D s h H) (hc : cells + h0.1 = h.1) (hsl : slots + h0.2.1 = h.2.1) (hlocs : ∀ q ∈ locs, D.2.1 ≤ q.base) {i : Nat} (hi : i < N) :
    W p l e R s m args below meth c H locs cells slots (xs_Q EX SP G D s below h0 (.inl (some (.int 1))) h) (entryFrame m [Value.ref (D.1 (1500000 + i))].toArray 1) := by
  obtain ⟨i1, i2, i3, i4, i5, i6, i7, i8, i9⟩ := id hIs
  have hown : s.vm.findClass "java/lang/String" = some m.cls := findClass_of_methodNamed i1
  obtain ⟨hS, hZ1, hZ2⟩ := hZ _ _ hR.2.2.2.1
  obtain ⟨s1, s2, s3, s4⟩ := hS.1 i hi
  obtain ⟨cf, kf, fi, f, a, cell, z1, z2, z3, z4, z5, z6, z7, -⟩ := hZ1
  obtain ⟨cf2, kf2, fi2, f2, cell2, y1, y2, y3, y4, y5, -⟩ := s2
  rw [lg_entry_eq]
  refine W.gets hx i4 hown (hts _ (xs_mw 909 (by decide +kernel) rfl)) z1 z2 z3 z4 z5 (by intro z; rw [z] at z6; cases z6) z7 rfl (show decode prog_25_method_154_code 0 = .ok (.getstatic 38, 3) by decide +kernel) (show W p l e R s m args below meth c H locs cells slots _ (F0 m 3 _ [Value.int 1]) from ?_)
  refine lv_if_eq hx i4 (show decode prog_25_method_154_code 3 = .ok (.ifCond .eq 14, 3) by decide +kernel) (tgt := 17) (by decide) (fun z => absurd z (by decide)) (fun _ => ?_)
  refine lv_aload_n hx i4 (show decode prog_25_method_154_code 6 = .ok (.aload_n 0, 1) by decide +kernel) rfl rfl ?_
  refine W.getf hx i4 hown (hts _ (xs_mw 2233 (by decide +kernel) rfl)) y1 y2 y3 y4 y5 rfl rfl (show decode prog_25_method_154_code 7 = .ok (.getfield 15, 3) by decide +kernel) (show W p l e R s m args below meth c H locs cells slots _ (F0 m 10 _ [Value.int 0]) from ?_)
  refine lv_if_ne hx i4 (show decode prog_25_method_154_code 10 = .ok (.ifCond .ne 7, 3) by decide +kernel) (tgt := 17) (by decide) (fun z => absurd rfl z) (fun _ => ?_)
  refine lv_iconst hx i4 (show decode prog_25_method_154_code 13 = .ok (.iconst 1, 1) by decide +kernel) rfl ?_
  refine lv_goto hx i4 (show decode prog_25_method_154_code 14 = .ok (.goto 4, 3) by decide +kernel) (tgt := 18) (by decide) ?_
  exact xs_Wmono (xs_fin hR hc hsl (some (.int 1))) (W.zret hx i4 i6 (by decide) (fun t ht _ => ⟨rfl, ht⟩) hlocs (show decode prog_25_method_154_code 18 = .ok (.ireturn, 1) by decide +kernel) i7)
theorem xs_bPre (hx : p.tables.exec = Jvm.exec) (hIs : xs_Is (xs_pq 3) xs_miPre s m meth c) (hR : xs_R SP G D s h H) (hc : cells + h0.1 = h.1) (hsl : slots + h0.2.1 = h.2.1) (hlocs : ∀ q ∈ locs, D.2.1 ≤ q.base) {j n : Int32} {fmt : Value} (hf : fmt.category = 1) (h1 : ¬ j < 0) (h2 : j < n) :
    W p l e R s m args below meth c H locs cells slots (xs_Q EX SP G D s below h0 (.inl (some (.int j))) h) (entryFrame m [Value.int j, .int n, fmt].toArray 3) := by
  obtain ⟨i1, i2, i3, i4, i5, i6, i7, i8, i9⟩ := id hIs
  have hlen : (lg_sl [Value.int j, .int n, fmt]).length ≤ 3 := by
    have e : lg_sl [Value.int j, .int n, fmt] = [.val (.int j), .val (.int n)] ++ (if fmt.category = 2 then [Slot.val fmt, .second] else [.val fmt]) := by simp [lg_sl, Value.category]
    rw [e, hf]
    simp
  have hL := (lv_entry [Value.int j, .int n, fmt] (n := 3) hlen).2.2
  have l0 := hL (0, .int j) (by simp [lv_args])
  have l1 := hL (1, .int n) (by simp [lv_args, Value.category])
  rw [lg_entry_eq]
  generalize (lg_sl [Value.int j, .int n, fmt] ++ List.replicate (3 - (lg_sl [Value.int j, .int n, fmt]).length) Slot.unset).toArray = ls at l0 l1
  refine lv_iload_n hx i4 (show decode prog_34_method_11_code 0 = .ok (.iload_n 0, 1) by decide +kernel) rfl l0 ?_
  refine lv_if_lt hx i4 (show decode prog_34_method_11_code 1 = .ok (.ifCond .lt 8, 3) by decide +kernel) (tgt := 9) (by decide) (fun z => absurd z h1) (fun _ => ?_)
  refine lv_iload_n hx i4 (show decode prog_34_method_11_code 4 = .ok (.iload_n 0, 1) by decide +kernel) rfl l0 ?_
  refine lv_iload_n hx i4 (show decode prog_34_method_11_code 5 = .ok (.iload_n 1, 1) by decide +kernel) rfl l1 ?_
  refine lv_icmp_lt hx i4 (show decode prog_34_method_11_code 6 = .ok (.if_icmp .lt 10, 3) by decide +kernel) (tgt := 16) (by decide) (fun _ => ?_) (fun z => absurd h2 z)
  refine lv_iload_n hx i4 (show decode prog_34_method_11_code 16 = .ok (.iload_n 0, 1) by decide +kernel) rfl l0 ?_
  exact xs_Wmono (xs_fin hR hc hsl (some (.int j))) (W.iret hx i4 i6 (fun t ht _ => ⟨rfl, ht⟩) hlocs (show decode prog_34_method_11_code 17 = .ok (.ireturn, 1) by decide +kernel) i7)
theorem xs_bChk (hx : p.tables.exec = Jvm.exec) (hts : ∀ w ∈ zWS, w.before args s = true) (hIs : xs_Is (xs_pq 2) xs_miChk s m meth c) (hG : xs_G D G) (hZ : ∀ U H, G U H → xs_GS N byt D U H) (hR : xs_R SP G D s h H) (hc : cells + h0.1 = h.1) (hsl : slots + h0.2.1 = h.2.1) (hRc : 600000 ≤ R.cells + h0.1) (hRs : 7300000 ≤ R.slots + h0.2.1) (hlocs : ∀ q ∈ locs, D.2.1 ≤ q.base) (hRf : 21 ≤ R.frames) (hRl : 300 ≤ R.locals) {j n : Int32} (h1 : ¬ j < 0) (h2 : j < n) :
    W p l e R s m args below meth c H locs cells slots (xs_Q EX SP G D s below h0 (.inl none) h) (entryFrame m [Value.int j, .int n].toArray 2) := by
  obtain ⟨i1, i2, i3, i4, i5, i6, i7, i8, i9⟩ := id hIs
  have hown : s.vm.findClass "java/lang/String" = some m.cls := findClass_of_methodNamed i1
  obtain ⟨hS, hZ1, hZ2⟩ := hZ _ _ hR.2.2.2.1
  obtain ⟨fmt, hf, cf, kf, fi, f, a, cell, z1, z2, z3, z4, z5, z6, z7, -⟩ : ∃ fmt : Value, fmt.category = 1 ∧ va_Z "jdk/internal/util/Preconditions" "SIOOBE_FORMATTER" "Ljava/util/function/BiFunction;" fmt (fun q => D.2.1 ≤ q) s H := by
    rcases hZ2 with z | ⟨t, z⟩
    · exact ⟨_, rfl, z⟩
    · exact ⟨_, rfl, z⟩
  rw [lg_entry_eq]
  refine lv_iload_n hx i4 (show decode prog_25_method_155_code 0 = .ok (.iload_n 0, 1) by decide +kernel) rfl rfl ?_
  refine lv_iload_n hx i4 (show decode prog_25_method_155_code 1 = .ok (.iload_n 1, 1) by decide +kernel) rfl rfl ?_
  refine W.gets hx i4 hown (hts _ (xs_mw 925 (by decide +kernel) rfl)) z1 z2 z3 z4 z5 (by intro z; rw [z] at z6; cases z6) z7 rfl (show decode prog_25_method_155_code 2 = .ok (.getstatic 1053, 3) by decide +kernel) (show W p l e R s m args below meth c H locs cells slots _ (F0 m 5 _ [fmt, Value.int n, .int j]) from ?_)
  have hcw := hts _ (xs_mw 929 (by decide +kernel) rfl : Cond.code xs_miPre.1 xs_miPre.2.1 3 (some .int) ∈ zWS)
  refine xs_callW (EX := EX) (q1 := xs_pq 3) (mi1 := xs_miPre) (asM := [.int j, .int n, fmt]) (rest := []) (r := .inl (some (.int j))) (h1 := h) (d := 0) (xs_invS (idx := 1059) (q := xs_pq 3) (mi := xs_miPre) hx hown (Or.inl (hts _ (xs_mw 927 (by decide +kernel) rfl))) (hts _ (xs_mw 928 (by decide +kernel) rfl)) (hts _ (xs_mw 180 (by decide +kernel) rfl)) ⟨by decide +kernel, by decide +kernel⟩ (xs_Is.of hcw) rfl (show _ = some 3 from (by decide +kernel : Option.map (fun d => d.parameters.length) (parseMethodDescriptor xs_miPre.1.desc) = some 3)) rfl rfl (by rw [i4]; exact (show decode prog_25_method_155_code 5 = .ok (.invokestatic 1059, 3) by decide +kernel))) hcw (by decide +kernel) (by decide) rfl (by rw [i5]; rfl) rfl (by rw [i4]; exact (show decode prog_25_method_155_code 5 = .ok (.invokestatic 1059, 3) by decide +kernel)) (by decide) hG hR hc hsl hRc hRs hlocs (by omega) (by omega) ?_ ?_ ?_
  · intro R1 s1 m1 below1 meth1 c1 hIs1 hW1 hR1 hheap1 g1 g2 g3 g4
    exact xs_bPre hx hIs1 hR1 (Nat.zero_add _) (Nat.zero_add _) (fun q hq => by cases hq) hf h1 h2
  · intro v hv H1 locs1 cells1 slots1 hR2 hc2 hsl2 hlocs2
    cases hv
    show W p l e R s m args below meth c H1 locs1 cells1 slots1 _ (F0 m 8 _ [Value.int j])
    refine lv_pop hx i4 (show decode prog_25_method_155_code 8 = .ok (.pop, 1) by decide +kernel) rfl ?_
    exact xs_Wmono (xs_fin hR2 hc2 hsl2 none) (W.vret hx i4 i6 (fun t ht _ => ⟨rfl, ht⟩) hlocs2 (show decode prog_25_method_155_code 9 = .ok (.return_, 1) by decide +kernel) i7)
  · intro cx hcx
    cases hcx
/-- what is asked of a text's bytes -/
def xs_chOK (x : Int32) : Bool := decide (((x &&& 255).toUInt32 % 65536).toInt32 = x) && decide (narrow .char (.int x) = .int x)
theorem xs_bL1 (hx : p.tables.exec = Jvm.exec) (hts : ∀ w ∈ zWS, w.before args s = true) (hIs : xs_Is (xs_pq 2) xs_miL1 s m meth c) (hG : xs_G D G) (hZ : ∀ U H, G U H → xs_GS N byt D U H) (hR : xs_R SP G D s h H) (hc : cells + h0.1 = h.1) (hsl : slots + h0.2.1 = h.2.1) (hRc : 600000 ≤ R.cells + h0.1) (hRs : 7300000 ≤ R.slots + h0.2.1) (hlocs : ∀ q ∈ locs, D.2.1 ≤ q.base) (hRf : 22 ≤ R.frames) (hRl : 400 ≤ R.locals) {i : Nat} (hi : i < N) {j : Int32} (h1 : ¬ j < 0) (h2 : j.toNatClampNeg < (byt.map List.length).getD i 0) (h3 : (byt.map List.length).getD i 0 < 2 ^ 31) (h4 : xs_chOK ((byt.getD i []).getD j.toNatClampNeg 0) = true) :
    W p l e R s m args below meth c H locs cells slots (xs_Q EX SP G D s below h0 (.inl (some (.int ((byt.getD i []).getD j.toNatClampNeg 0)))) h) (entryFrame m [Value.ref (D.1 (1600000 + i)), .int j].toArray 2) := by
  obtain ⟨i1, i2, i3, i4, i5, i6, i7, i8, i9⟩ := id hIs
  have hown : s.vm.findClass "java/lang/StringLatin1" = some m.cls := findClass_of_methodNamed i1
  have hlt : j < Int32.ofNat ((byt.map List.length).getD i 0) := by
    rw [Int32.lt_iff_toInt_lt] at h1 ⊢
    have e1 : (Int32.ofNat ((byt.map List.length).getD i 0)).toInt = (((byt.map List.length).getD i 0 : Nat) : Int) := Int32.toInt_ofNat_of_lt h3
    have e2 : ((j.toNatClampNeg : Nat) : Int) = j.toInt := by
      have : (0 : Int32).toInt = 0 := rfl
      show ((j.toInt.toNat : Nat) : Int) = _
      omega
    omega
  obtain ⟨hS, hZ1, hZ2⟩ := hZ _ _ hR.2.2.2.1
  obtain ⟨s1, s2, s3, cell, t1, t2, t3, t4, t5, t6, -⟩ := hS.1 i hi
  simp only [xs_chOK, Bool.and_eq_true, decide_eq_true_eq] at h4
  rw [lg_entry_eq]
  refine lv_iload_n hx i4 (show decode prog_26_method_2_code 0 = .ok (.iload_n 1, 1) by decide +kernel) rfl rfl ?_
  refine lv_aload_n hx i4 (show decode prog_26_method_2_code 1 = .ok (.aload_n 0, 1) by decide +kernel) rfl rfl ?_
  refine W.alen hx i4 t1 t2 t5 rfl rfl (show decode prog_26_method_2_code 2 = .ok (.arraylength, 1) by decide +kernel) (show W p l e R s m args below meth c H locs cells slots _ (F0 m 3 _ [Value.int (Int32.ofNat ((byt.map List.length).getD i 0)), .int j]) from ?_)
  have hcw := hts _ (xs_mw 924 (by decide +kernel) rfl : Cond.code xs_miChk.1 xs_miChk.2.1 2 none ∈ zWS)
  refine xs_callW (EX := EX) (q1 := xs_pq 2) (mi1 := xs_miChk) (asM := [.int j, .int (Int32.ofNat ((byt.map List.length).getD i 0))]) (rest := []) (r := .inl none) (h1 := h) (d := 1) (xs_invS (idx := 9) (q := xs_pq 2) (mi := xs_miChk) hx hown (Or.inl (hts _ (xs_mw 922 (by decide +kernel) rfl))) (hts _ (xs_mw 923 (by decide +kernel) rfl)) (hts _ (xs_mw 178 (by decide +kernel) rfl)) ⟨by decide +kernel, by decide +kernel⟩ (xs_Is.of hcw) rfl (show _ = some 2 from (by decide +kernel : Option.map (fun d => d.parameters.length) (parseMethodDescriptor xs_miChk.1.desc) = some 2)) rfl rfl (by rw [i4]; exact (show decode prog_26_method_2_code 3 = .ok (.invokestatic 9, 3) by decide +kernel))) hcw (by decide +kernel) (by decide) rfl (by rw [i5]; rfl) rfl (by rw [i4]; exact (show decode prog_26_method_2_code 3 = .ok (.invokestatic 9, 3) by decide +kernel)) (by decide) hG hR hc hsl hRc hRs hlocs (by omega) (by omega) ?_ ?_ ?_
  · intro R1 s1 m1 below1 meth1 c1 hIs1 hW1 hR1 hheap1 g1 g2 g3 g4
    exact xs_bChk hx (fun w hw => xs_word (zsteady w hw) hW1 (hts w hw)) hIs1 hG hZ hR1 (Nat.zero_add _) (Nat.zero_add _) g1 g2 (fun q hq => by cases hq) (by omega) (by omega) h1 hlt
  · intro v hv H1 locs1 cells1 slots1 hR2 hc2 hsl2 hlocs2
    cases hv
    obtain ⟨hS, hZ1, hZ2⟩ := hZ _ _ hR2.2.2.2.1
    obtain ⟨s1, s2, s3, cell, t1, t2, t3, t4, t5, t6, -⟩ := hS.1 i hi
    show W p l e R s m args below meth c H1 locs1 cells1 slots1 _ (F0 m 6 _ [])
    refine lv_aload_n hx i4 (show decode prog_26_method_2_code 6 = .ok (.aload_n 0, 1) by decide +kernel) rfl rfl ?_
    refine lv_iload_n hx i4 (show decode prog_26_method_2_code 7 = .ok (.iload_n 1, 1) by decide +kernel) rfl rfl ?_
    refine W.bald (j := j) hx i4 t1 t2 t3 (fun z => z.elim h1 (fun z => absurd (Nat.lt_of_lt_of_le h2 t4) (Nat.not_lt_of_le z))) (t6 _ h2) rfl rfl (show decode prog_26_method_2_code 8 = .ok (.baload, 1) by decide +kernel) (show W p l e R s m args below meth c H1 locs1 cells1 slots1 _ (F0 m 9 _ [Value.int ((byt.getD i []).getD j.toNatClampNeg 0)]) from ?_)
    refine lv_sipush hx i4 (show decode prog_26_method_2_code 9 = .ok (.sipush 255, 3) by decide +kernel) (v := 255) (by decide) ?_
    refine lv_iand hx i4 (show decode prog_26_method_2_code 12 = .ok (.iand, 1) by decide +kernel) ?_
    refine lv_i2c hx i4 (show decode prog_26_method_2_code 13 = .ok (.i2c, 1) by decide +kernel) h4.1 ?_
    exact xs_Wmono (xs_fin hR2 hc2 hsl2 (some (.int _))) (W.zret hx i4 i6 h4.2 (fun t ht _ => ⟨rfl, ht⟩) hlocs2 (show decode prog_26_method_2_code 14 = .ok (.ireturn, 1) by decide +kernel) i7)
  · intro cx hcx
    cases hcx
theorem xs_bChar (hx : p.tables.exec = Jvm.exec) (hts : ∀ w ∈ zWS, w.before args s = true) (hIs : xs_Is (xs_pq 2) xs_miChar s m meth c) (hG : xs_G D G) (hZ : ∀ U H, G U H → xs_GS N byt D U H) (hR : xs_R SP G D s h H) (hc : cells + h0.1 = h.1) (hsl : slots + h0.2.1 = h.2.1) (hRc : 600000 ≤ R.cells + h0.1) (hRs : 7300000 ≤ R.slots + h0.2.1) (hlocs : ∀ q ∈ locs, D.2.1 ≤ q.base) (hRf : 23 ≤ R.frames) (hRl : 500 ≤ R.locals) {i : Nat} (hi : i < N) {j : Int32} (h1 : ¬ j < 0) (h2 : j.toNatClampNeg < (byt.map List.length).getD i 0) (h3 : (byt.map List.length).getD i 0 < 2 ^ 31) (h4 : xs_chOK ((byt.getD i []).getD j.toNatClampNeg 0) = true) :
    W p l e R s m args below meth c H locs cells slots (xs_Q EX SP G D s below h0 (.inl (some (.int ((byt.getD i []).getD j.toNatClampNeg 0)))) h) (entryFrame m [Value.ref (D.1 (1500000 + i)), .int j].toArray 2) := by
  obtain ⟨i1, i2, i3, i4, i5, i6, i7, i8, i9⟩ := id hIs
  have hown : s.vm.findClass "java/lang/String" = some m.cls := findClass_of_methodNamed i1
  obtain ⟨hS, hZ1, hZ2⟩ := hZ _ _ hR.2.2.2.1
  obtain ⟨⟨cellK, o1, o2, o3, -⟩, -, -, -⟩ := hS.1 i hi
  rw [lg_entry_eq]
  refine lv_aload_n hx i4 (show decode prog_25_method_56_code 0 = .ok (.aload_n 0, 1) by decide +kernel) rfl rfl ?_
  have hcw := hts _ (xs_mw 918 (by decide +kernel) rfl : Cond.code xs_miLat.1 xs_miLat.2.1 1 (some .boolean) ∈ zWS)
  refine xs_callW (EX := EX) (q1 := xs_pq 1) (mi1 := xs_miLat) (asM := [.ref (D.1 (1500000 + i))]) (rest := []) (r := .inl (some (.int 1))) (h1 := h) (d := 2) (xs_invV (idx := 492) (q := xs_pq 1) (mi := xs_miLat) (as := []) (rest := []) hx hown (Or.inl (hts _ (xs_mw 915 (by decide +kernel) rfl))) (hts _ (xs_mw 916 (by decide +kernel) rfl)) (hts _ (xs_mw 917 (by decide +kernel) rfl)) ⟨by decide +kernel, by decide +kernel⟩ o1 o2 o3 (xs_Is.of hcw) rfl (show _ = some 0 from (by decide +kernel : Option.map (fun d => d.parameters.length) (parseMethodDescriptor xs_miLat.1.desc) = some 0)) rfl rfl (by rw [i4]; exact (show decode prog_25_method_56_code 1 = .ok (.invokevirtual 492, 3) by decide +kernel))) hcw (by decide +kernel) (by decide) rfl (by rw [i5]; rfl) rfl (by rw [i4]; exact (show decode prog_25_method_56_code 1 = .ok (.invokevirtual 492, 3) by decide +kernel)) (by decide) hG hR hc hsl hRc hRs hlocs (by omega) (by omega) ?_ ?_ ?_
  · intro R1 s1 m1 below1 meth1 c1 hIs1 hW1 hR1 hheap1 g1 g2 g3 g4
    exact xs_bLat hx (fun w hw => xs_word (zsteady w hw) hW1 (hts w hw)) hIs1 hZ hR1 (Nat.zero_add _) (Nat.zero_add _) (fun q hq => by cases hq) hi
  · intro v hv H1 locs1 cells1 slots1 hR2 hc2 hsl2 hlocs2
    cases hv
    obtain ⟨hS, hZ1, hZ2⟩ := hZ _ _ hR2.2.2.2.1
    obtain ⟨-, -, ⟨cf2, kf2, fi2, f2, cell2, y1, y2, y3, y4, y5, -⟩, -⟩ := hS.1 i hi
    show W p l e R s m args below meth c H1 locs1 cells1 slots1 _ (F0 m 4 _ [Value.int 1])
    refine lv_if_eq hx i4 (show decode prog_25_method_56_code 4 = .ok (.ifCond .eq 12, 3) by decide +kernel) (tgt := 16) (by decide) (fun z => absurd z (by decide)) (fun _ => ?_)
    refine lv_aload_n hx i4 (show decode prog_25_method_56_code 7 = .ok (.aload_n 0, 1) by decide +kernel) rfl rfl ?_
    refine W.getf hx i4 hown (hts _ (xs_mw 2232 (by decide +kernel) rfl)) y1 y2 y3 y4 y5 rfl rfl (show decode prog_25_method_56_code 8 = .ok (.getfield 9, 3) by decide +kernel) (show W p l e R s m args below meth c H1 locs1 cells1 slots1 _ (F0 m 11 _ [Value.ref (D.1 (1600000 + i))]) from ?_)
    refine lv_iload_n hx i4 (show decode prog_25_method_56_code 11 = .ok (.iload_n 1, 1) by decide +kernel) rfl rfl ?_
    have hcw := hts _ (xs_mw 921 (by decide +kernel) rfl : Cond.code xs_miL1.1 xs_miL1.2.1 2 (some .char) ∈ zWS)
    refine xs_callW (EX := EX) (q1 := xs_pq 2) (mi1 := xs_miL1) (asM := [.ref (D.1 (1600000 + i)), .int j]) (rest := []) (r := .inl (some (.int ((byt.getD i []).getD j.toNatClampNeg 0)))) (h1 := h) (d := 2) (xs_invS (idx := 495) (q := xs_pq 2) (mi := xs_miL1) hx hown (Or.inl (hts _ (xs_mw 919 (by decide +kernel) rfl))) (hts _ (xs_mw 920 (by decide +kernel) rfl)) (hts _ (xs_mw 179 (by decide +kernel) rfl)) ⟨by decide +kernel, by decide +kernel⟩ (xs_Is.of hcw) rfl (show _ = some 2 from (by decide +kernel : Option.map (fun d => d.parameters.length) (parseMethodDescriptor xs_miL1.1.desc) = some 2)) rfl rfl (by rw [i4]; exact (show decode prog_25_method_56_code 12 = .ok (.invokestatic 495, 3) by decide +kernel))) hcw (by decide +kernel) (by decide) rfl (by rw [i5]; rfl) rfl (by rw [i4]; exact (show decode prog_25_method_56_code 12 = .ok (.invokestatic 495, 3) by decide +kernel)) (by decide) hG hR2 hc2 hsl2 hRc hRs hlocs2 (by omega) (by omega) ?_ ?_ ?_
    · intro R1 s1 m1 below1 meth1 c1 hIs1 hW1 hR1 hheap1 g1 g2 g3 g4
      exact xs_bL1 hx (fun w hw => xs_word (zsteady w hw) hW1 (hts w hw)) hIs1 hG hZ hR1 (Nat.zero_add _) (Nat.zero_add _) g1 g2 (fun q hq => by cases hq) (by omega) (by omega) hi h1 h2 h3 h4
    · intro v hv H3 locs3 cells3 slots3 hR3 hc3 hsl3 hlocs3
      cases hv
      simp only [xs_chOK, Bool.and_eq_true, decide_eq_true_eq] at h4
      exact xs_Wmono (xs_fin hR3 hc3 hsl3 (some (.int _))) (W.zret hx i4 i6 h4.2 (fun t ht _ => ⟨rfl, ht⟩) hlocs3 (show decode prog_25_method_56_code 15 = .ok (.ireturn, 1) by decide +kernel) i7)
    · intro cx hcx
      cases hcx
  · intro cx hcx
    cases hcx
theorem xs_bLen (hx : p.tables.exec = Jvm.exec) (hts : ∀ w ∈ zWS, w.before args s = true) (hIs : xs_Is (xs_pq 1) xs_miLen s m meth c) (hG : xs_G D G) (hZ : ∀ U H, G U H → xs_GS N byt D U H) (hR : xs_R SP G D s h H) (hc : cells + h0.1 = h.1) (hsl : slots + h0.2.1 = h.2.1) (hRc : 600000 ≤ R.cells + h0.1) (hRs : 7300000 ≤ R.slots + h0.2.1) (hlocs : ∀ q ∈ locs, D.2.1 ≤ q.base) (hRf : 23 ≤ R.frames) (hRl : 500 ≤ R.locals) {i : Nat} (hi : i < N) :
    W p l e R s m args below meth c H locs cells slots (xs_Q EX SP G D s below h0 (.inl (some (.int (Int32.ofNat ((byt.map List.length).getD i 0))))) h) (entryFrame m [Value.ref (D.1 (1500000 + i))].toArray 1) := by
  obtain ⟨i1, i2, i3, i4, i5, i6, i7, i8, i9⟩ := id hIs
  have hown : s.vm.findClass "java/lang/String" = some m.cls := findClass_of_methodNamed i1
  obtain ⟨hS, hZ1, hZ2⟩ := hZ _ _ hR.2.2.2.1
  obtain ⟨⟨cellK, o1, o2, o3, -⟩, -, ⟨cf2, kf2, fi2, f2, cell2, y1, y2, y3, y4, y5, -⟩, cell, t1, t2, t3, t4, t5, t6, -⟩ := hS.1 i hi
  rw [lg_entry_eq]
  refine lv_aload_n hx i4 (show decode prog_25_method_54_code 0 = .ok (.aload_n 0, 1) by decide +kernel) rfl rfl ?_
  refine W.getf hx i4 hown (hts _ (xs_mw 2232 (by decide +kernel) rfl)) y1 y2 y3 y4 y5 rfl rfl (show decode prog_25_method_54_code 1 = .ok (.getfield 9, 3) by decide +kernel) (show W p l e R s m args below meth c H locs cells slots _ (F0 m 4 _ [Value.ref (D.1 (1600000 + i))]) from ?_)
  refine W.alen hx i4 t1 t2 t5 rfl rfl (show decode prog_25_method_54_code 4 = .ok (.arraylength, 1) by decide +kernel) (show W p l e R s m args below meth c H locs cells slots _ (F0 m 5 _ [Value.int (Int32.ofNat ((byt.map List.length).getD i 0))]) from ?_)
  refine lv_aload_n hx i4 (show decode prog_25_method_54_code 5 = .ok (.aload_n 0, 1) by decide +kernel) rfl rfl ?_
  have hcw := hts _ (xs_mw 908 (by decide +kernel) rfl : Cond.code xs_miCoder.1 xs_miCoder.2.1 1 (some .byte) ∈ zWS)
  refine xs_callW (EX := EX) (q1 := xs_pq 1) (mi1 := xs_miCoder) (asM := [.ref (D.1 (1500000 + i))]) (rest := [.int (Int32.ofNat ((byt.map List.length).getD i 0))]) (r := .inl (some (.int 0))) (h1 := h) (d := 2) (xs_invV (idx := 335) (q := xs_pq 1) (mi := xs_miCoder) (as := []) (rest := [.int (Int32.ofNat ((byt.map List.length).getD i 0))]) hx hown (Or.inl (hts _ (xs_mw 905 (by decide +kernel) rfl))) (hts _ (xs_mw 906 (by decide +kernel) rfl)) (hts _ (xs_mw 907 (by decide +kernel) rfl)) ⟨by decide +kernel, by decide +kernel⟩ o1 o2 o3 (xs_Is.of hcw) rfl (show _ = some 0 from (by decide +kernel : Option.map (fun d => d.parameters.length) (parseMethodDescriptor xs_miCoder.1.desc) = some 0)) rfl rfl (by rw [i4]; exact (show decode prog_25_method_54_code 6 = .ok (.invokevirtual 335, 3) by decide +kernel))) hcw (by decide +kernel) (by decide) rfl (by rw [i5]; rfl) rfl (by rw [i4]; exact (show decode prog_25_method_54_code 6 = .ok (.invokevirtual 335, 3) by decide +kernel)) (show 1 ≤ 8 by decide) hG hR hc hsl hRc hRs hlocs (by omega) (by omega) ?_ ?_ ?_
  · intro R1 s1 m1 below1 meth1 c1 hIs1 hW1 hR1 hheap1 g1 g2 g3 g4
    exact xs_bCoder hx (fun w hw => xs_word (zsteady w hw) hW1 (hts w hw)) hIs1 hZ hR1 (Nat.zero_add _) (Nat.zero_add _) (fun q hq => by cases hq) hi
  · intro v hv H1 locs1 cells1 slots1 hR2 hc2 hsl2 hlocs2
    cases hv
    show W p l e R s m args below meth c H1 locs1 cells1 slots1 _ (F0 m 9 _ [Value.int 0, .int (Int32.ofNat ((byt.map List.length).getD i 0))])
    refine lv_ishr hx i4 (show decode prog_25_method_54_code 9 = .ok (.ishr, 1) by decide +kernel) ?_
    have e : ∀ x : Int32, x >>> ((0 : Int32) &&& 31) = x := by
      intro x
      rw [show ((0 : Int32) &&& 31) = 0 from rfl]
      exact Int32.shiftRight_zero
    rw [e]
    exact xs_Wmono (xs_fin hR2 hc2 hsl2 (some (.int _))) (W.iret hx i4 i6 (fun t ht _ => ⟨rfl, ht⟩) hlocs2 (show decode prog_25_method_54_code 10 = .ok (.ireturn, 1) by decide +kernel) i7)
  · intro cx hcx
    cases hcx
end XS
/-- the texts, as our machine has them -/
def xs_SPof (byt : List (List Int32)) (a : Nat) : Option xe_O := if a < 1500000 then none else match byt[a - 1500000]? with
  | some b => some (2000, b.length, fun j => .int (b.getD j 0))
  | none => none
theorem xe_call170 {q : xe_M} {call : Nat → List Value → xe_H → Option (xe_R × xe_H)} {pc idx n : Nat} {z : Int} {ls st : List Value} {h : xe_H} (hlk : xe_lk (xe_link q) idx = (17, 0, n, z)) : xe_call q call 1 pc idx ls st h = (match st with
    | .ref a :: rest => match h.2.2 a with
      | some o => if (1 == 1) && (Nat.beq o.1 2000 && (Nat.ble 1500000 a && decide (xe_cat rest ≤ 8))) then some (.inl (pc + 3, ls, .int o.2.1.toInt32 :: rest, h)) else none
      | none => none
    | _ => none) := by
  unfold xe_call
  rw [hlk]
  rfl
theorem xe_call171 {q : xe_M} {call : Nat → List Value → xe_H → Option (xe_R × xe_H)} {pc idx n : Nat} {z : Int} {ls st : List Value} {h : xe_H} (hlk : xe_lk (xe_link q) idx = (17, 1, n, z)) : xe_call q call 1 pc idx ls st h = (match st with
    | .int i :: .ref a :: rest => match h.2.2 a with
      | some o => if (1 == 1) && (Nat.beq o.1 2000 && (Nat.ble 1500000 a && (xe_in i o.2.1 && decide (xe_cat rest ≤ 8)))) then some (.inl (pc + 3, ls, o.2.2 i.toNatClampNeg :: rest, h)) else none
      | none => none
    | _ => none) := by
  unfold xe_call
  rw [hlk]
  rfl
theorem xs_SI_of {STR : List (String × Nat × String × Nat)} {cl : List vw_C} {EX : List (Nat × String)} {D : xs_D} {G : State → Heap → Prop} {l : Launch} {byt : List (List Int32)} (hG : xs_G D G) (hZ : ∀ U H, G U H → xs_GS byt.length byt D U H) (hb : ∀ b ∈ byt, b.length < 2 ^ 31 ∧ ∀ x ∈ b, xs_chOK x = true) : xs_SI cl EX STR zWS D (xs_SPof byt) G l := by
  intro p e R s m args below meth c H locs cells slots Q q mi K PI h h0 h1 pc pc1 idx id n z ls st l1 st1 lsM call hAt hLK hlk hcall hR hL hc hsl hRc hRs hlocs hRf hRl hdg kk
  obtain ⟨hx, hIs, hts, hK⟩ := hAt
  have hown : s.vm.findClass mi.1.cls = some m.cls := findClass_of_methodNamed hIs.1
  have hLK : Cond.methodLink mi.1.cls idx (xs_strN id) ∈ zWS := hLK
  have hsz : lsM.size = c.maxLocals := by rw [hL.1, hIs.2.2.2.2.1]
  have text : ∀ (a : Nat) (o : xe_O), h.2.2 a = some o → 1500000 ≤ a → ∃ (i : Nat) (b : List Int32), a = 1500000 + i ∧ i < byt.length ∧ byt[i]? = some b ∧ o = (2000, b.length, fun j => .int (b.getD j 0)) := by
    intro a o ho ha
    rw [hR.2.2.1 a ha] at ho
    unfold xs_SPof at ho
    rw [if_neg (by omega)] at ho
    split at ho
    · rename_i b hb1
      cases ho
      have := (List.getElem?_eq_some_iff.mp hb1).1
      exact ⟨a - 1500000, b, by omega, this, hb1, rfl⟩
    · cases ho
  match id, hLK, hlk, hcall with
  | 0, hLK, hlk, hcall =>
    rw [xe_call170 hlk] at hcall
    split at hcall
    · rename_i a rest hst
      split at hcall
      · rename_i o ho
        split at hcall
        · rename_i hg
          simp only [Bool.and_eq_true, Nat.ble_eq, decide_eq_true_eq] at hg
          cases hcall
          obtain ⟨i, b, rfl, hi, hbi, rfl⟩ := text a o ho hg.2.2.1
          have hlen : (byt.map List.length).getD i 0 = b.length := by
            rw [List.getD_eq_getElem?_getD, List.getElem?_map, hbi]
            rfl
          obtain ⟨hS, hZ1, hZ2⟩ := hZ _ _ hR.2.2.2.1
          obtain ⟨⟨cellK, o1, o2, o3, -⟩, -, -, -⟩ := hS.1 i hi
          have hcw := hts _ (xs_mw 904 (by decide +kernel) rfl : Cond.code xs_miLen.1 xs_miLen.2.1 1 (some .int) ∈ zWS)
          refine xs_callW (EX := EX) (q1 := xs_pq 1) (mi1 := xs_miLen) (asM := [.ref (D.1 (1500000 + i))]) (rest := rest) (r := .inl (some (.int (Int32.ofNat ((byt.map List.length).getD i 0))))) (h1 := h) (d := 5) (xs_invV (q := xs_pq 1) (mi := xs_miLen) (as := []) (rest := rest.map (xs_T D)) hx hown (Or.inl (hts _ hLK)) (hts _ (xs_mw 902 (by decide +kernel) rfl)) (hts _ (xs_mw 903 (by decide +kernel) rfl)) ⟨by decide +kernel, by decide +kernel⟩ o1 o2 o3 (xs_Is.of hcw) rfl (show _ = some 0 from (by decide +kernel : Option.map (fun d => d.parameters.length) (parseMethodDescriptor xs_miLen.1.desc) = some 0)) rfl rfl hdg) hcw (by decide +kernel) (by decide) rfl hsz rfl hdg hg.2.2.2 hG hR hc hsl hRc hRs hlocs (by omega) (by omega) ?_ ?_ ?_
          · intro R1 s1 m1 below1 meth1 c1 hIs1 hW1 hR1 hheap1 g1 g2 g3 g4
            exact xs_bLen hx (fun w hw => xs_word (zsteady w hw) hW1 (hts w hw)) hIs1 hG hZ hR1 (Nat.zero_add _) (Nat.zero_add _) g1 g2 (fun q hq => by cases hq) (by omega) (by omega) hi
          · intro v hv H1 locs1 cells1 slots1 hR2 hc2 hsl2 hlocs2
            cases hv
            rw [hlen]
            exact kk rfl rfl H1 locs1 cells1 slots1 hR2 hc2 hsl2 hlocs2
          · intro cx hcx
            cases hcx
        · cases hcall
      · cases hcall
    · cases hcall
  | 1, hLK, hlk, hcall =>
    rw [xe_call171 hlk] at hcall
    split at hcall
    · rename_i j a rest hst
      split at hcall
      · rename_i o ho
        split at hcall
        · rename_i hg
          simp only [Bool.and_eq_true, Nat.ble_eq, decide_eq_true_eq] at hg
          cases hcall
          obtain ⟨i, b, rfl, hi, hbi, rfl⟩ := text a o ho hg.2.2.1
          have hlen : (byt.map List.length).getD i 0 = b.length := by
            rw [List.getD_eq_getElem?_getD, List.getElem?_map, hbi]
            rfl
          have hbd : byt.getD i [] = b := by
            rw [List.getD_eq_getElem?_getD, hbi]
            rfl
          have hin := hg.2.2.2.1
          simp only [xe_in, Bool.and_eq_true, decide_eq_true_eq] at hin
          obtain ⟨b1, b2⟩ := hb b (List.mem_of_getElem? hbi)
          have hj0 : ¬ j < 0 := by
            have := hin.1
            rw [Int32.le_iff_toInt_le] at this
            rw [Int32.lt_iff_toInt_lt]
            omega
          have hch : xs_chOK ((byt.getD i []).getD j.toNatClampNeg 0) = true := by
            rw [hbd, List.getD_eq_getElem?_getD, List.getElem?_eq_getElem hin.2]
            exact b2 _ (List.getElem_mem _)
          obtain ⟨hS, hZ1, hZ2⟩ := hZ _ _ hR.2.2.2.1
          obtain ⟨⟨cellK, o1, o2, o3, -⟩, -, -, -⟩ := hS.1 i hi
          have hcw := hts _ (xs_mw 914 (by decide +kernel) rfl : Cond.code xs_miChar.1 xs_miChar.2.1 2 (some .char) ∈ zWS)
          refine xs_callW (EX := EX) (q1 := xs_pq 2) (mi1 := xs_miChar) (asM := [.ref (D.1 (1500000 + i)), .int j]) (rest := rest) (r := .inl (some (.int ((byt.getD i []).getD j.toNatClampNeg 0)))) (h1 := h) (d := 5) (xs_invV (q := xs_pq 2) (mi := xs_miChar) (as := [.int j]) (rest := rest.map (xs_T D)) hx hown (Or.inl (hts _ hLK)) (hts _ (xs_mw 912 (by decide +kernel) rfl)) (hts _ (xs_mw 913 (by decide +kernel) rfl)) ⟨by decide +kernel, by decide +kernel⟩ o1 o2 o3 (xs_Is.of hcw) rfl (show _ = some 1 from (by decide +kernel : Option.map (fun d => d.parameters.length) (parseMethodDescriptor xs_miChar.1.desc) = some 1)) rfl rfl hdg) hcw (by decide +kernel) (by decide) rfl hsz rfl hdg hg.2.2.2.2 hG hR hc hsl hRc hRs hlocs (by omega) (by omega) ?_ ?_ ?_
          · intro R1 s1 m1 below1 meth1 c1 hIs1 hW1 hR1 hheap1 g1 g2 g3 g4
            exact xs_bChar hx (fun w hw => xs_word (zsteady w hw) hW1 (hts w hw)) hIs1 hG hZ hR1 (Nat.zero_add _) (Nat.zero_add _) g1 g2 (fun q hq => by cases hq) (by omega) (by omega) hi hj0 (by rw [hlen]; exact hin.2) (by rw [hlen]; exact b1) hch
          · intro v hv H1 locs1 cells1 slots1 hR2 hc2 hsl2 hlocs2
            cases hv
            rw [hbd]
            exact kk rfl rfl H1 locs1 cells1 slots1 hR2 hc2 hsl2 hlocs2
          · intro cx hcx
            cases hcx
        · cases hcall
      · cases hcall
    · cases hcall
  | id + 2, hLK, hlk, hcall =>
    unfold xe_call at hcall
    rw [hlk] at hcall
    cases hcall
