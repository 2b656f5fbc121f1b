/-! ===== the law's run ===== -/
/-- the law's run, as our machine has it, is the law's run -/
theorem xs_begin {p : Program} {l : Launch} {e : Env} {s : State} {m : MethodId} {below : List Frame} {meth : Method} {c : Code} (hflags : l.flags = flags0) {b L : Nat} {xs : Nat → Int32} (C0 : lw_At p s m meth c b L xs) {n d : Nat} {h1 : xe_H} (hd : d ≤ 500)
    (hrun : xe_run zP zK n d qL_law_ 0 (xe_ent 7 [.ref 1000000]) [] (xs_h0 L xs) = some (.inl (some (.int 1)), h1)) : W p l e room_1 s m #[Value.ref b] below meth c s.heap [] 0 0 (lw_Z below #[Value.ref b] s) (entryFrame m ([Value.ref b] : List Value).toArray 7) := by
  obtain ⟨hx, hIs, hts, hX, hb, hgv⟩ := C0
  obtain ⟨D, hbase, hDb, hA, hK, hR⟩ := xs_D_of hts hX hb hgv
  intro T hT X
  have htr : e.platform.stackTraces = false := Launch.traces_off hflags X.admits
  have hL := xs_L.entry D (vs := [.ref 1000000]) (n := 7) (by decide) (by intro w hw; cases hw with | head => rfl | tail _ h => cases h)
  have hSI : xs_SI zcl zEX zSTR zWS D (xs_SPof zbyt) (xs_GA zbyt D) l := xs_SI_of (xs_GA_G zbyt D) (fun U H h => h.1) zbyt_ok
  have hAt : xs_At zcl zEX zSTR zWS D p s m #[Value.ref b] meth c qL_law_ zmiL := ⟨hx, hIs, fun w h => hts w (List.mem_filter.mp h).1, hK⟩
  have K := xs_main zST (xs_GA_G zbyt D) hA hSI (fun U args h => xs_GA_refs zbyt D U args h) n d qL_law_ zmiL vL_law_ 0 _ [] (xs_h0 L xs) _ h1 hrun (p := p) (e := e) (R := room_1) (s := s) (m := m) (args := #[Value.ref b]) (below := below) (meth := meth) (c := c) (H := s.heap) (locs := []) (cells := 0) (slots := 0) (h0 := xs_h0 L xs) htr hAt hR hL rfl rfl (show 600000 ≤ 600128 + 0 by decide) (show 7300000 ≤ 7301098 + 0 by decide) (fun q hq => by cases hq) (by show 30 + d ≤ 2048; omega) (by show 1200 + 100 * d ≤ 84000; omega)
  have eT : ([Value.ref 1000000] : List Value).map (xs_T D) = [Value.ref b] := by
    show [Value.ref (D.1 1000000)] = _
    rw [hDb]
  rw [lg_entry_eq]
  rw [eT] at K
  obtain ⟨t, st, o, L1, mc, ms, t1, t2, t3, t4, t5, t6, t7, t8, t9⟩ := K T hT X
  have t3 : o = .returned (some (.int 1)) := t3
  have cap := t4.2.2.2.2.1
  refine ⟨t, st, o, t1, t2, t3, ⟨_, t3⟩, t5, State.sameButNew.weaken t6 (fun x hx hlt => ?_) ?_ ?_⟩
  · have h7 := t7 x hx
    rw [hbase] at h7
    exact absurd hlt (Nat.not_lt_of_le h7)
  · have : mc + 0 = h1.1 := t8
    omega
  · have : ms + 0 = h1.2.1 := t9
    omega
