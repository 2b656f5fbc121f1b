/-! ===== calls of two lodgers: checks; warmer, owes, net, isHome, needs ===== -/
section
variable {A : (Nat → Int32) → Nat → Int32 × Bool} {tx : (Nat → Int32) → Prop} {L0 : Int32} {S : Nat → Int32} {e : Nat} {M : sy_M}
def opB (A : (Nat → Int32) → Nat → Int32 × Bool) (tx : (Nat → Int32) → Prop) (L0 : Int32) (S : Nat → Int32) (e : Nat) (x : sy_O) (y : sy_M → sy_O) : Prop := ∃ (c : Nat) (b : Bool) (M1 M3 : sy_M), x = sy_ri (Int32.ofNat c) M1 ∧ y M1 = sy_ri (bz b) M3 ∧ M3 121 0 = Int32.ofNat c ∧ c < 4 ∧ (c = 0 → sy_rl M3 132 0 = bif b then Int64.ofNat 1 else Int64.ofNat 0) ∧ Inv A tx L0 S (e + 1) M3 ∧ M1 134 0 = L0 ∧ M1 1000000 = S
theorem opB_q (I : Inv A tx L0 S e M) {x : sy_O} {y : sy_M → sy_O} {k0 : Int32 → sy_M → sy_O} {kt : Nat → sy_M → sy_O} {b : Bool} (hc : ∃ M1, x = sy_ri (bz b) M1 ∧ fq M M1) (hk : ∀ M1, k0 (bz b) M1 = sy_ri 0 (sy_wl M1 132 0 (bif b then Int64.ofNat 1 else Int64.ofNat 0))) (hr : ∀ N, rq M N → ∃ N1, y N = sy_ri (bz b) N1 ∧ N1 121 0 = (Int32.ofNat 0) ∧ fr N N1) : opB A tx L0 S e (sy_hi x k0 kt) y := by
  obtain ⟨M1, e1, f1⟩ := hc
  have f2 := f1.trans (fq_wl (v := bif b then Int64.ofNat 1 else Int64.ofNat 0))
  obtain ⟨M3, e3, t3, f3⟩ := hr _ (fq_rq f2)
  refine ⟨0, b, sy_wl M1 132 0 (bif b then Int64.ofNat 1 else Int64.ofNat 0), M3, ?_, e3, t3, by decide, fun _ => ?_, Inv_q I f2 f3, ?_, ?_⟩
  · rw [e1, sy_hi_ri, hk]; rfl
  · rw [sy_rl_cg (f3.1 132 (by unfold rx; omega)), sy_rl_wl, if_pos ⟨rfl, rfl⟩]
  · rw [f2.1 134 (by unfold qs; omega)]; exact I.2.2.2.2.2.2.2.2.2.1
  · rw [f2.1 1000000 (by unfold qs; omega)]; exact I.2.2.2.2.2.2.2.2.2.2
theorem opB_x (I : Inv A tx L0 S e M) {x : sy_O} {y : sy_M → sy_O} {k0 : Int32 → sy_M → sy_O} {kt : Nat → sy_M → sy_O} {cl c : Nat} (hc : x = sy_rt cl (sx M)) (hk : kt cl (sx M) = sy_ri (Int32.ofNat c) (sx M)) (h0 : c ≠ 0) (h4 : c < 4) (hr : ∀ N, rq M N → ∃ N1, y N = sy_ri (bz false) N1 ∧ N1 121 0 = Int32.ofNat c ∧ fr N N1) : opB A tx L0 S e (sy_hi x k0 kt) y := by
  have r : rq M (sx M) := fun a h1 h2 => by unfold sx; rw [sy_upd_st, syc_ne _ _ (by omega)]
  obtain ⟨M3, e3, t3, f3⟩ := hr _ r
  have I1 := Inv_x I
  refine ⟨c, false, sx M, M3, ?_, e3, t3, h4, fun z => absurd z h0, ?_, I1.2.2.2.2.2.2.2.2.2.1, I1.2.2.2.2.2.2.2.2.2.2⟩
  · rw [hc, sy_hi_rt, hk]
  · obtain ⟨k, hk, ek⟩ := I1.2.2.2.2.2.2.2.2.1
    refine Inv_congr I1 (fun a ha => f3.1 a (by unfold keepc at ha; unfold rx; omega)) f3.2 (dk_congr I1.2.2.2.2.1 (f3.1 22 (by unfold rx; omega))) ⟨k, hk, ?_⟩
    rw [f3.1 133 (by unfold rx; omega)]; exact ek
theorem ck_two {n : Nat} (h7 : n ≤ 7) (h9 : M 9 3 = Int32.ofNat n) (hx : xe_in (M 133 0) 100000 = true) (a b : Int32) : (∃ p o, p < n ∧ o < n ∧ p ≠ o ∧ a = Int32.ofNat p ∧ b = Int32.ofNat o ∧ jfX11_checkTwo a b M = sy_rv M ∧ ∀ N : sy_M, N 122 3 = Int32.ofNat n → jfX12_areTwo a b N = sy_rv (thr N 0)) ∨ (∃ cl c, ((cl = 22 ∧ c = 1) ∨ (cl = 20 ∧ c = 2)) ∧ jfX11_checkTwo a b M = sy_rt cl (sx M) ∧ ∀ N : sy_M, N 122 3 = Int32.ofNat n → jfX12_areTwo a b N = sy_rv (thr N c)) := by
  rcases ck_lodger h7 h9 hx a with ⟨p, hp, ea, ck, sa⟩ | ⟨sa, ck⟩
  · rcases ck_lodger h7 h9 hx b with ⟨o, ho, eb, ck2, sb⟩ | ⟨sb, ck2⟩
    · subst ea eb
      by_cases h : p = o
      · subst h
        refine Or.inr ⟨20, 2, Or.inr ⟨rfl, rfl⟩, ?_, fun N eN => ?_⟩
        · simp only [jfX11_checkTwo, ck, sy_bv_rv, if_true, hx, sy_bx_t]
          rfl
        · simp (disch := omega) only [zL, zlt, zle, zeq, zadd, zmul, zin, zix, zsh1, Nat.add_zero, Nat.zero_add, Nat.mul_zero, if_true, if_false, if_pos, if_neg, sy_bi_ri, sy_bi_rt, sy_bv_rv, sy_bv_rt, sy_br_rr, sy_br_rn, sy_hi_ri, sy_hi_rt, sy_bs_t, sy_bx_t, sy_bb_t, bz_bo, ite_bz0, ite_bz1, jfX12_areTwo, jfX12_areTwo_17, m_isLodger, eN, sa, sb, cond_true, thr_up]
      · refine Or.inl ⟨p, o, hp, ho, h, rfl, rfl, ?_, fun N eN => ?_⟩
        · simp (disch := omega) only [zL, zlt, zle, zeq, zadd, zmul, zin, zix, zsh1, Nat.add_zero, Nat.zero_add, Nat.mul_zero, if_true, if_false, if_pos, if_neg, sy_bi_ri, sy_bi_rt, sy_bv_rv, sy_bv_rt, sy_br_rr, sy_br_rn, sy_hi_ri, sy_hi_rt, sy_bs_t, sy_bx_t, sy_bb_t, bz_bo, ite_bz0, ite_bz1, jfX11_checkTwo, ck, ck2]
        · simp (disch := omega) only [zL, zlt, zle, zeq, zadd, zmul, zin, zix, zsh1, Nat.add_zero, Nat.zero_add, Nat.mul_zero, if_true, if_false, if_pos, if_neg, sy_bi_ri, sy_bi_rt, sy_bv_rv, sy_bv_rt, sy_br_rr, sy_br_rn, sy_hi_ri, sy_hi_rt, sy_bs_t, sy_bx_t, sy_bb_t, bz_bo, ite_bz0, ite_bz1, jfX12_areTwo, jfX12_areTwo_17, m_isLodger, eN, sa, sb, cond_true, thr_up]
    · refine Or.inr ⟨22, 1, Or.inl ⟨rfl, rfl⟩, ?_, fun N eN => ?_⟩
      · simp (disch := omega) only [zL, zlt, zle, zeq, zadd, zmul, zin, zix, zsh1, Nat.add_zero, Nat.zero_add, Nat.mul_zero, if_true, if_false, if_pos, if_neg, sy_bi_ri, sy_bi_rt, sy_bv_rv, sy_bv_rt, sy_br_rr, sy_br_rn, sy_hi_ri, sy_hi_rt, sy_bs_t, sy_bx_t, sy_bb_t, bz_bo, ite_bz0, ite_bz1, jfX11_checkTwo, ck, ck2]
      · simp (disch := omega) only [zL, zlt, zle, zeq, zadd, zmul, zin, zix, zsh1, Nat.add_zero, Nat.zero_add, Nat.mul_zero, if_true, if_false, if_pos, if_neg, sy_bi_ri, sy_bi_rt, sy_bv_rv, sy_bv_rt, sy_br_rr, sy_br_rn, sy_hi_ri, sy_hi_rt, sy_bs_t, sy_bx_t, sy_bb_t, bz_bo, ite_bz0, ite_bz1, jfX12_areTwo, jfX12_areTwo_17, m_isLodger, eN, sa, sb, cond_true, cond_false, thr_up]
  · refine Or.inr ⟨22, 1, Or.inl ⟨rfl, rfl⟩, ?_, fun N eN => ?_⟩
    · simp (disch := omega) only [zL, zlt, zle, zeq, zadd, zmul, zin, zix, zsh1, Nat.add_zero, Nat.zero_add, Nat.mul_zero, if_true, if_false, if_pos, if_neg, sy_bi_ri, sy_bi_rt, sy_bv_rv, sy_bv_rt, sy_br_rr, sy_br_rn, sy_hi_ri, sy_hi_rt, sy_bs_t, sy_bx_t, sy_bb_t, bz_bo, ite_bz0, ite_bz1, jfX11_checkTwo, ck]
    · simp (disch := omega) only [zL, zlt, zle, zeq, zadd, zmul, zin, zix, zsh1, Nat.add_zero, Nat.zero_add, Nat.mul_zero, if_true, if_false, if_pos, if_neg, sy_bi_ri, sy_bi_rt, sy_bv_rv, sy_bv_rt, sy_br_rr, sy_br_rn, sy_hi_ri, sy_hi_rt, sy_bs_t, sy_bx_t, sy_bb_t, bz_bo, ite_bz0, ite_bz1, jfX12_areTwo, jfX12_areTwo_17, m_isLodger, eN, sa, cond_true, cond_false, thr_up]
/-! rooms changed -/
def sp_room (f : Nat → Int32) (p o : Nat) : Nat → Int32 := rs (rs (rs (rs f (14 + 9 * p) (f (14 + 9 * o))) (14 + 9 * p + 3) (f (14 + 9 * o + 3))) (14 + 9 * o) (f (14 + 9 * p))) (14 + 9 * o + 3) (f (14 + 9 * p + 3))
theorem m_rooms {p o : Nat} (hp : p < 7) (ho : o < 7) (hne : p ≠ o) : jfX12_rooms (Int32.ofNat p) (Int32.ofNat o) M = sy_rv (syc M 122 (sp_room (M 122) p o)) := by
  unfold sp_room
  simp (disch := omega) only [zL, zlt, zle, zeq, zadd, zmul, zin, zix, zsh1, Nat.add_zero, Nat.zero_add, Nat.mul_zero, if_true, if_false, if_pos, if_neg, sy_bi_ri, sy_bi_rt, sy_bv_rv, sy_bv_rt, sy_br_rr, sy_br_rn, sy_hi_ri, sy_hi_rt, sy_bs_t, sy_bx_t, sy_bb_t, bz_bo, ite_bz0, ite_bz1, jfX12_rooms, m_of, m_lays, syc_at, syc_st, rs_ne]
theorem c_swapRooms {h p o : Nat} {f : Nat → Int32} (H : hw M h f) (hp : p < 7) (ho : o < 7) (hne : p ≠ o) : ∃ M1, jfX2_swapRooms h (Int32.ofNat p) (Int32.ofNat o) M = sy_rv M1 ∧ hw M1 h (sp_room f p o) ∧ fh h M M1 := by
  obtain ⟨N1, e1, w1, f1⟩ := c_setw H (p := p) (w := 0) (f (14 + 9 * o)) hp (by decide)
  obtain ⟨N2, e2, w2, f2⟩ := c_setw w1 (p := p) (w := 3) (f (14 + 9 * o + 3)) hp (by decide)
  obtain ⟨N3, e3, w3, f3⟩ := c_setw w2 (p := o) (w := 0) (f (14 + 9 * p)) ho (by decide)
  obtain ⟨N4, e4, w4, f4⟩ := c_setw w3 (p := o) (w := 3) (f (14 + 9 * p + 3)) ho (by decide)
  refine ⟨N4, ?_, w4, ((f1.trans f2).trans f3).trans f4⟩
  have r3 : rs f (14 + 9 * p) (f (14 + 9 * o)) (14 + 9 * o + 3) = f (14 + 9 * o + 3) := rs_ne _ _ (by omega)
  simp (disch := omega) only [jfX2_swapRooms, H.1.1, sy_bs_t, zL, c_get H.1, Nat.add_zero, sy_bi_ri, e1, sy_bv_rv, c_get w1.1, r3, e2, e3, e4]
theorem sp_room_2 (f : Nat → Int32) {p o : Nat} (hne : p ≠ o) : sp_room (sp_room f p o) p o = f := by
  have a1 : sp_room f p o (14 + 9 * p) = f (14 + 9 * o) := by
    unfold sp_room
    simp (disch := omega) only [rs_ne, rs_at]
  have a2 : sp_room f p o (14 + 9 * p + 3) = f (14 + 9 * o + 3) := by
    unfold sp_room
    simp (disch := omega) only [rs_ne, rs_at]
  have a3 : sp_room f p o (14 + 9 * o) = f (14 + 9 * p) := by
    unfold sp_room
    simp (disch := omega) only [rs_ne, rs_at]
  have a4 : sp_room f p o (14 + 9 * o + 3) = f (14 + 9 * p + 3) := by
    unfold sp_room
    simp (disch := omega) only [rs_ne, rs_at]
  funext i
  generalize hg : sp_room f p o = g at a1 a2 a3 a4
  unfold sp_room
  rw [a1, a2, a3, a4]
  unfold rs
  by_cases h4 : i = 14 + 9 * o + 3
  · rw [if_pos h4, h4]
  · rw [if_neg h4]
    by_cases h3 : i = 14 + 9 * o
    · rw [if_pos h3, h3]
    · rw [if_neg h3]
      by_cases h2 : i = 14 + 9 * p + 3
      · rw [if_pos h2, h2]
      · rw [if_neg h2]
        by_cases h1 : i = 14 + 9 * p
        · rw [if_pos h1, h1]
        · rw [if_neg h1, ← hg]
          unfold sp_room
          rw [rs_ne _ _ h4, rs_ne _ _ h3, rs_ne _ _ h2, rs_ne _ _ h1]
theorem sp_room_ne {f : Nat → Int32} {p o i : Nat} (h1 : i ≠ 14 + 9 * p) (h2 : i ≠ 14 + 9 * p + 3) (h3 : i ≠ 14 + 9 * o) (h4 : i ≠ 14 + 9 * o + 3) : sp_room f p o i = f i := by
  unfold sp_room
  rw [rs_ne _ _ h4, rs_ne _ _ h3, rs_ne _ _ h2, rs_ne _ _ h1]
theorem gr_room {n p o : Nat} {f : Nat → Int32} (G : gr f n) (hp : p < n) (ho : o < n) (hne : p ≠ o) : gr (sp_room f p o) n := by
  obtain ⟨h1, h2, h7, h4, h5, h6⟩ := G
  obtain ⟨a, ha, e1⟩ := rb_burns h1 (p := p) (by omega)
  obtain ⟨b, hb, e2⟩ := rb_bears h1 (p := p) (by omega)
  obtain ⟨c, hc, e3⟩ := rb_burns h1 (p := o) (by omega)
  obtain ⟨d, hd, e4⟩ := rb_bears h1 (p := o) (by omega)
  refine ⟨?_, (sp_room_ne (by omega) (by omega) (by omega) (by omega)).trans h2, h7, ?_, ?_, ?_⟩
  · unfold sp_room
    rw [e1, e2, e3, e4]
    exact rb_set (rb_set (rb_set (rb_set h1 (by rw [tbl_u0 (by omega)]; exact hc)) (by rw [tbl_u (by omega) (by decide)]; exact hd)) (by rw [tbl_u0 (by omega)]; exact ha)) (by rw [tbl_u (by omega) (by decide)]; exact hb)
  · intro h q hq
    rw [sp_room_ne (by omega) (by omega) (by omega) (by omega)] at h
    rw [sp_room_ne (by omega) (by omega) (by omega) (by omega)]
    exact h4 h q hq
  · intro q hq hq7
    obtain ⟨e1, e2, e3, e4⟩ := h5 q hq hq7
    refine ⟨?_, ?_, ?_, fun o ho => ⟨?_, ?_⟩⟩
    · rw [sp_room_ne (by omega) (by omega) (by omega) (by omega)]; exact e1
    · rw [sp_room_ne (by omega) (by omega) (by omega) (by omega)]; exact e2
    · rw [sp_room_ne (by omega) (by omega) (by omega) (by omega)]; exact e3
    · rw [sp_room_ne (by omega) (by omega) (by omega) (by omega)]; exact (e4 o ho).1
    · rw [sp_room_ne (by omega) (by omega) (by omega) (by omega)]; exact (e4 o ho).2
  · refine ⟨by rw [sp_room_ne (by omega) (by omega) (by omega) (by omega)]; exact h6.1, fun q hq => ?_⟩
    by_cases q1 : q = p
    · subst q1
      have : sp_room f q o (14 + 9 * q) = f (14 + 9 * o) := by
        unfold sp_room
        simp (disch := omega) only [rs_ne, rs_at]
      rw [this]; exact h6.2 o ho
    · by_cases q2 : q = o
      · subst q2
        have : sp_room f p q (14 + 9 * q) = f (14 + 9 * p) := by
          unfold sp_room
          simp (disch := omega) only [rs_ne, rs_at]
        rw [this]; exact h6.2 p hp
      · rw [sp_room_ne (by omega) (by omega) (by omega) (by omega)]; exact h6.2 q hq
theorem sp_gv_room {f g : Nat → Int32} {p o i : Nat} : sp_gv (sp_room f p o) g i = sp_gv f g i := by
  unfold sp_gv
  rw [sp_room_ne (by omega) (by omega) (by omega) (by omega), sp_room_ne (by omega) (by omega) (by omega) (by omega)]
theorem ts_room {f : Nat → Int32} {p o : Nat} (hp : p < 7) (ho : o < 7) : tsame f (sp_room f p o) := ⟨sp_room_ne (by omega) (by omega) (by omega) (by omega), sp_room_ne (by omega) (by omega) (by omega) (by omega), fun i hi => sp_room_ne (by omega) (by omega) (by omega) (by omega)⟩
theorem o_warmer (hM : mAK A tx) (I : Inv A tx L0 S e M) (he : e < 90000) (a b : Int32) : opB A tx L0 S e (jfL_warmer a b M) (jfX12_warmer a b) := by
  obtain ⟨n, G, H, ht, hA, hl⟩ := id I.1
  have hn := G.2.1
  have h7 := G.2.2.1
  obtain ⟨xk, hxk, exk⟩ := I.2.2.2.2.2.2.2.2.1
  have hx := xok he hxk exk
  have h9 : M 9 3 = Int32.ofNat n := (hv_3 H.1).trans hn
  have D19 := I.2.2.2.2.1
  unfold jfL_warmer
  rcases ck_two h7 h9 hx a b with ⟨p, o, hp, ho, hne, ea, eb, ck, mk⟩ | ⟨cl, c, hcc, ck, mk⟩
  · subst ea eb
    refine opB_q I (b := decide (sp_gv (M 122) (sp_gs A n false false (sp_room (M 122) p o) 48).1 p < sp_gv (M 122) (sp_gs A n false false (M 122) 48).1 p) && decide (sp_gv (M 122) (sp_gs A n false false (sp_room (M 122) p o) 48).1 o < sp_gv (M 122) (sp_gs A n false false (M 122) 48).1 o)) ?_ ?_ ?_
    · obtain ⟨M1, e1, s1, f1⟩ := q_st H G hA D19
      obtain ⟨w, hw0, ew⟩ := rb_waits G.1 (p := p) (by omega)
      obtain ⟨M2, e2, s2, w2, f2⟩ := c_griefBy (w := w) s1 hp hw0
      have eg : sp_gw A n (M 122) p w = (sp_gs A n false false (M 122) 48).1 := by
        unfold sp_gw
        rw [← ew, rs_self]
      have egf : sp_gf A n (M 122) p w = sp_gv (M 122) (sp_gs A n false false (M 122) 48).1 p := by
        unfold sp_gf
        rw [eg]
      rw [eg] at w2
      rw [egf] at e2
      obtain ⟨M3, e3, a3, f3⟩ := q_over s2.1 s2.2.1 s2.2.2.1 s2.2.2.2.1 s2.2.2.2.2
      obtain ⟨M4, e4, w4, f4⟩ := c_swapRooms a3.1 (p := p) (o := o) (by omega) (by omega) hne
      have g4 := gr_room G hp ho hne
      obtain ⟨M5, e5, n5, f5⟩ := c_learn w4.1 g4.2.1 h7
      have a5 : ah A M5 n (sp_room (M 122) p o) := ⟨hw_congr w4 (fun a c1 c2 => f5 a (by omega) (by omega)), g4, cAK_cp a3.2.2.1 (lcp_of (fun c c1 c2 => by rw [f5 c (by omega) (by omega)]; exact f4 c (by omega))) (ts_room (by omega) (by omega)), n5⟩
      obtain ⟨M6, e6, a6, f6⟩ := c_runA (dr := false) (k := 48) a5 (by decide)
      replace e6 : jfX11_run (Int32.ofNat 48) (Int32.ofNat 0) M5 = _ := e6
      have E : ∀ a, (a < 19 ∨ 23 < a) → a ≠ 50 → a ≠ 51 → a ≠ 52 → M6 a = M2 a := by
        intro a c1 c2 c3 c4
        rw [f6 a (by omega) c4, f5 a c2 c3, f4 a (by omega), f3 a (by omega) c4]
      have H9 : hv M6 9 (M 122) := hv_congr s2.1.1 (E _ (by omega) (by omega) (by omega) (by omega)) (E _ (by omega) (by omega) (by omega) (by omega)) (E _ (by omega) (by omega) (by omega) (by omega))
      refine ⟨M6, ?_, f1.trans ((s2.fq f2).trans ⟨fun a ha => ?_, fun _ => a6.1.dk⟩)⟩
      · simp (disch := omega) only [zL, zlt, zle, zeq, zadd, zmul, zin, zix, zsh1, Nat.add_zero, Nat.zero_add, Nat.mul_zero, if_true, if_false, if_pos, if_neg, sy_bi_ri, sy_bi_rt, sy_bv_rv, sy_bv_rt, sy_br_rr, sy_br_rn, sy_hi_ri, sy_hi_rt, sy_bs_t, sy_bx_t, sy_bb_t, bz_bo, ite_bz0, ite_bz1, jfX11_warmer, jfX11_warmer_70, ck, e1, c_get s1.1.1, ew, e2, c_griefAhead s2.1.1 w2.1, e3, e4, e5, e6, c_griefAhead H9 a6.1.1]
        by_cases q1 : sp_gv (M 122) (sp_gs A n false false (sp_room (M 122) p o) 48).1 p < sp_gv (M 122) (sp_gs A n false false (M 122) 48).1 p
        · rw [if_pos q1, decide_eq_true q1]
          by_cases q2 : sp_gv (M 122) (sp_gs A n false false (sp_room (M 122) p o) 48).1 o < sp_gv (M 122) (sp_gs A n false false (M 122) 48).1 o
          · rw [if_pos q2, decide_eq_true q2]; rfl
          · rw [if_neg q2, decide_eq_false q2]; rfl
        · rw [if_neg q1, decide_eq_false q1]; rfl
      · unfold qs at ha
        exact E a (by omega) (by omega) (by omega) (by omega)
    · intro M1
      generalize (decide (sp_gv (M 122) (sp_gs A n false false (sp_room (M 122) p o) 48).1 p < sp_gv (M 122) (sp_gs A n false false (M 122) 48).1 p) && decide (sp_gv (M 122) (sp_gs A n false false (sp_room (M 122) p o) 48).1 o < sp_gv (M 122) (sp_gs A n false false (M 122) 48).1 o)) = b
      cases b <;> rfl
    · intro N hN
      have eN : N 122 3 = Int32.ofNat n := by rw [hN 122 (by omega) (by omega)]; exact hn
      have r := rc_thr (c := 0) (rc_of I G ht hN)
      obtain ⟨N1, e1, f1, g1, _⟩ := m_grieves hM r
      have r1 := rc_ft r f1
      have r2 : rc tx false (syc N1 122 (sp_room (M 122) p o)) n (sp_room (M 122) p o) := ⟨syc_at _ _ _, gr_room G hp ho hne, hM.1 _ _ ht (ts_room (by omega) (by omega)), by rw [syc_ne _ _ (by decide)]; exact r1.2.2.2⟩
      obtain ⟨N3, e3, f3, g3, _⟩ := m_grieves hM r2
      have r3 := rc_ft r2 f3
      refine ⟨syc N3 122 (M 122), ?_, ?_, ?_⟩
      · have g1p := g1 p hp
        have g1o := g1 o ho
        have g3p := g3 p hp
        have g3o := g3 o ho
        rw [sp_gv_room] at g3p g3o
        simp (disch := omega) only [zL, zlt, zle, zeq, zadd, zmul, zin, zix, zsh1, Nat.add_zero, Nat.zero_add, Nat.mul_zero, if_true, if_false, if_pos, if_neg, sy_bi_ri, sy_bi_rt, sy_bv_rv, sy_bv_rt, sy_br_rr, sy_br_rn, sy_hi_ri, sy_hi_rt, sy_bs_t, sy_bx_t, sy_bb_t, bz_bo, ite_bz0, ite_bz1, jfX12_warmer, jfX12_warmer_71, mk N eN, thr_0, e1, g1p, g1o, m_rooms, r1.1, e3, r3.1, sp_room_2, syc_ne, g3p, g3o]
        by_cases q1 : sp_gv (M 122) (sp_gs A n false false (sp_room (M 122) p o) 48).1 p < sp_gv (M 122) (sp_gs A n false false (M 122) 48).1 p
        · rw [if_pos q1, decide_eq_true q1]
          by_cases q2 : sp_gv (M 122) (sp_gs A n false false (sp_room (M 122) p o) 48).1 o < sp_gv (M 122) (sp_gs A n false false (M 122) 48).1 o
          · rw [if_pos q2, decide_eq_true q2]; rfl
          · rw [if_neg q2, decide_eq_false q2]; rfl
        · rw [if_neg q1, decide_eq_false q1]; rfl
      · rw [syc_ne _ _ (by decide), f3.2 0 (by omega), syc_ne _ _ (by decide), f1.2 0 (by omega), thr_0]
      · refine (fr_thr (c := 0)).trans ⟨fun a ha => ?_, fun j hj => ?_⟩
        · by_cases ea : a = 122
          · subst ea; rw [syc_at, r.1]
          · rw [syc_ne _ _ ea, f3.1 a ha, syc_ne _ _ ea, f1.1 a ha]
        · rw [syc_ne _ _ (by decide), f3.2 j (by omega), syc_ne _ _ (by decide), f1.2 j (by omega)]
  · have hc0 : c ≠ 0 ∧ c < 4 := by omega
    refine opB_x I (cl := cl) (c := c) ?_ ?_ hc0.1 hc0.2 ?_
    · simp only [jfX11_warmer, ck, sy_bv_rt]
    · rcases hcc with ⟨h1, h2⟩ | ⟨h1, h2⟩ <;> subst h1 h2 <;> rfl
    · intro N hN
      have eN : N 122 3 = Int32.ofNat n := by rw [hN 122 (by omega) (by omega)]; exact hn
      refine ⟨thr N c, ?_, thr_0 _ _, fr_thr⟩
      simp (disch := omega) only [zL, zlt, zle, zeq, zadd, zmul, zin, zix, zsh1, Nat.add_zero, Nat.zero_add, Nat.mul_zero, if_true, if_false, if_pos, if_neg, sy_bi_ri, sy_bi_rt, sy_bv_rv, sy_bv_rt, sy_br_rr, sy_br_rn, sy_hi_ri, sy_hi_rt, sy_bs_t, sy_bx_t, sy_bb_t, bz_bo, ite_bz0, ite_bz1, jfX12_warmer, mk N eN, thr_0]
      rfl
end
