/-! ===== calls that look ahead ===== -/
section
variable {A : (Nat → Int32) → Nat → Int32 × Bool} {tx : (Nat → Int32) → Prop} {L0 : Int32} {S : Nat → Int32} {e : Nat} {M : sy_M}
theorem rc_thr {n : Nat} {nf : Bool} {g : Nat → Int32} {N : sy_M} {c : Nat} (h : rc tx nf N n g) : rc tx nf (thr N c) n g := ⟨(thr_ne _ _ (by decide)).trans h.1, h.2.1, h.2.2.1, (thr_j _ _ (by decide)).trans h.2.2.2⟩
theorem rc_of {n : Nat} {N : sy_M} (I : Inv A tx L0 S e M) (G : gr (M 122) n) (ht : tx (M 122)) (hN : rq M N) : rc tx false N n (M 122) := ⟨hN 122 (by omega) (by omega), G, ht, by rw [hN 121 (by omega) (by omega)]; exact I.2.2.2.2.2.2.2.1⟩
theorem o_out (hM : mAK A tx) (I : Inv A tx L0 S e M) : opN A tx L0 S e (jfX11_out M) (jfX12_out) := by
  obtain ⟨n, G, H, ht, hA, hl⟩ := id I.1
  refine opN_q I (v := sp_fdk A n false 96 0 (M 122)) ?_ ?_
  · obtain ⟨M1, e1, f1⟩ := c_firstDark H G hA I.2.2.2.2.1
    exact ⟨M1, by simp only [jfX11_out, e1, sy_bi_ri], f1⟩
  · intro N hN
    obtain ⟨N1, e1, f1, f2, f3⟩ := m_firstDark hM (rc_thr (c := 0) (rc_of I G ht hN))
    refine ⟨N1, by simp (disch := omega) only [zL, zlt, zle, zeq, zadd, zmul, zin, zix, zsh1, Nat.add_zero, Nat.zero_add, Nat.mul_zero, if_true, if_false, if_pos, if_neg, sy_bi_ri, sy_bi_rt, sy_bv_rv, sy_bv_rt, sy_br_rr, sy_br_rn, sy_hi_ri, sy_hi_rt, sy_bs_t, sy_bx_t, sy_bb_t, bz_bo, ite_bz0, ite_bz1, jfX12_out, thr_up, e1], ⟨fun a ha => (f1 a ha).trans (fr_thr.1 a ha), fun j hj => ?_⟩⟩
    rcases (show j = 19 ∨ (j ≠ 19 ∧ j ≠ 0 ∧ (j < 9 ∨ j = 12)) by omega) with h | ⟨h, h0, h2⟩
    · rw [h, f3]; rw [hN 121 (by omega) (by omega)]; exact I.2.2.2.2.2.2.2.1.symm
    · rw [f2 j h2, thr_j _ _ h0]
theorem o_lasts (hM : mAK A tx) (I : Inv A tx L0 S e M) : opN A tx L0 S e (jfX11_lasts M) (jfX12_lasts) := by
  obtain ⟨n, G, H, ht, hA, hl⟩ := id I.1
  refine opN_q I (v := sp_fdk A n false 96 0 (M 122)) ?_ ?_
  · obtain ⟨M1, e1, f1⟩ := c_firstDark H G hA I.2.2.2.2.1
    exact ⟨M1, by simp only [jfX11_lasts, e1, sy_bi_ri], f1⟩
  · intro N hN
    have r := rc_thr (c := 0) (rc_of I G ht hN)
    have r2 : rc tx true (syc (thr N 0) 121 (rs (thr N 0 121) 19 (Int32.ofNat 1))) n (M 122) := ⟨(syc_ne _ _ (by decide)).trans r.1, r.2.1, r.2.2.1, by rw [syc_at, rs_at]; rfl⟩
    obtain ⟨N1, e1, f1, f2, f3⟩ := m_firstDark hM r2
    refine ⟨N1, by simp (disch := omega) only [zL, zlt, zle, zeq, zadd, zmul, zin, zix, zsh1, Nat.add_zero, Nat.zero_add, Nat.mul_zero, if_true, if_false, if_pos, if_neg, sy_bi_ri, sy_bi_rt, sy_bv_rv, sy_bv_rt, sy_br_rr, sy_br_rn, sy_hi_ri, sy_hi_rt, sy_bs_t, sy_bx_t, sy_bb_t, bz_bo, ite_bz0, ite_bz1, jfX12_lasts, thr_up, sy_upd_st (thr N 0), e1], ⟨fun a ha => ?_, fun j hj => ?_⟩⟩
    · rw [f1 a ha, syc_ne _ _ (by unfold rx at ha; omega)]
      exact fr_thr.1 a ha
    · rcases (show j = 19 ∨ (j ≠ 19 ∧ j ≠ 0 ∧ (j < 9 ∨ j = 12)) by omega) with h | ⟨h, h0, h2⟩
      · rw [h, f3]; rw [hN 121 (by omega) (by omega)]; exact I.2.2.2.2.2.2.2.1.symm
      · rw [f2 j h2, syc_at, rs_ne _ _ h, thr_j _ _ h0]
/-- who feeds first -/
def sp_fe (A : (Nat → Int32) → Nat → Int32 × Bool) (n : Nat) : Nat → (Nat → Int32) → Int32
  | 0, _ => -(Int32.ofNat 1)
  | m + 1, g => if (sp_pass A n false false g).2 < (Int32.ofNat 0) then sp_fe A n m (sp_pass A n false false g).1 else (sp_pass A n false false g).2
theorem sp_fe_gs (A : (Nat → Int32) → Nat → Int32 × Bool) (n : Nat) : ∀ (m i : Nat) (x : (Nat → Int32) × Int32 × Int32 × Int32), (sy_fo (fun _ x => ((sp_pass A n false false x.1).1, x.2.1 + bz (decide ((sp_pass A n false false x.1).2 ≠ -(Int32.ofNat 2))), (if (sp_pass A n false false x.1).2 < (Int32.ofNat 0) then x.2.2.1 else x.2.2.1 + (Int32.ofNat 1)), (if (sp_pass A n false false x.1).2 < (Int32.ofNat 0) then x.2.2.2 else if x.2.2.2 = -(Int32.ofNat 1) then (sp_pass A n false false x.1).2 else x.2.2.2))) m i x).2.2.2 = if x.2.2.2 = -(Int32.ofNat 1) then sp_fe A n m x.1 else x.2.2.2
  | 0, i, x => by
    unfold sp_fe
    show x.2.2.2 = _
    split
    · rename_i h; exact h
    · rfl
  | m + 1, i, x => by
    rw [sy_fo_succ, sp_fe_gs A n m (i + 1)]
    unfold sp_fe
    by_cases h : (sp_pass A n false false x.1).2 < (Int32.ofNat 0)
    · simp only [if_pos h]
      cases m <;> rfl
    · simp only [if_neg h]
      by_cases h1 : x.2.2.2 = -(Int32.ofNat 1)
      · have : (sp_pass A n false false x.1).2 ≠ -(Int32.ofNat 1) := by
          intro z
          rw [z] at h
          exact h (by decide)
        simp only [if_pos h1, if_neg this]
      · simp only [if_neg h1]
theorem c_feeder {n : Nat} {f : Nat → Int32} (H : hw M 9 f) (G : gr f n) (hA : cAK A 29 M f) (D : dk M 19) : ∃ M1, jfX11_feeder M = sy_ri (sp_fe A n 96 f) M1 ∧ fq M M1 := by
  obtain ⟨M1, e1, a1, w1, f1⟩ := q_start H G hA D
  unfold jfX11_feeder
  rw [e1, sy_bv_rv]
  have key := sy_ind (n := 96) (F := sy_F) (fun k i (a : (Nat → Int32) × sy_M) => jfX11_feeder_6 k (Int32.ofNat (i + 1)) a.2) (fun i a => ah A a.2 n a.1 ∧ fp 19 M1 a.2) (fun m i a c => ∃ M2, c = sy_ri (sp_fe A n m a.1) M2 ∧ fq M1 M2) ?_ ?_ (f, M1) ⟨a1, fp_rfl⟩ (by rw [sy_F_eq]; omega)
  · obtain ⟨M2, e2, f2⟩ := key
    exact ⟨M2, e2, f1.trans f2⟩
  · intro k ⟨g, N⟩ ⟨h1, h2⟩
    refine ⟨N, ?_, h1.fq h2⟩
    show jgX11_feeder_6 (jfX11_feeder_6 k) (Int32.ofNat (96 + 1)) N = _
    simp (disch := omega) only [zL, zlt, zle, zeq, zadd, zmul, zin, zix, zsh1, Nat.add_zero, Nat.zero_add, Nat.mul_zero, if_true, if_false, if_pos, if_neg, sy_bi_ri, sy_bi_rt, sy_bv_rv, sy_bv_rt, sy_br_rr, sy_br_rn, sy_hi_ri, sy_hi_rt, sy_bs_t, sy_bx_t, sy_bb_t, bz_bo, ite_bz0, ite_bz1, jgX11_feeder_6]
    rfl
  · intro m k i ⟨g, N⟩ hi ⟨h1, h2⟩
    obtain ⟨N1, e3, a3, f3⟩ := c_passA (dr := false) h1
    replace e3 : jfX8_pass 19 29 (Int32.ofNat 0) N = _ := e3
    by_cases hl : (sp_pass A n false false g).2 < (Int32.ofNat 0)
    · refine Or.inl ⟨((sp_pass A n false false g).1, N1), ?_, ⟨a3, h2.trans f3⟩, ?_⟩
      · show jgX11_feeder_6 (jfX11_feeder_6 (k + 1)) (Int32.ofNat (i + 1)) N = _
        simp (disch := omega) only [zL, zlt, zle, zeq, zadd, zmul, zin, zix, zsh1, Nat.add_zero, Nat.zero_add, Nat.mul_zero, if_true, if_false, if_pos, if_neg, sy_bi_ri, sy_bi_rt, sy_bv_rv, sy_bv_rt, sy_br_rr, sy_br_rn, sy_hi_ri, sy_hi_rt, sy_bs_t, sy_bx_t, sy_bb_t, bz_bo, ite_bz0, ite_bz1, jgX11_feeder_6, e3, hl]
      · rintro c ⟨M2, e4, f4⟩
        refine ⟨M2, ?_, f4⟩
        rw [e4]
        unfold sp_fe
        rw [if_pos hl]
        cases m <;> rfl
    · refine Or.inr ⟨N1, ?_, a3.fq (h2.trans f3)⟩
      show jgX11_feeder_6 (jfX11_feeder_6 (k + 1)) (Int32.ofNat (i + 1)) N = _
      unfold sp_fe
      simp (disch := omega) only [zL, zlt, zle, zeq, zadd, zmul, zin, zix, zsh1, Nat.add_zero, Nat.zero_add, Nat.mul_zero, if_true, if_false, if_pos, if_neg, sy_bi_ri, sy_bi_rt, sy_bv_rv, sy_bv_rt, sy_br_rr, sy_br_rn, sy_hi_ri, sy_hi_rt, sy_bs_t, sy_bx_t, sy_bb_t, bz_bo, ite_bz0, ite_bz1, jgX11_feeder_6, e3, hl]
/-- put aside, so many ticks, and back: what it leaves as it was -/
theorem m_look {n : Nat} {N N1 : sy_M} {f g : Nat → Int32} (h1 : N 122 = f) (h3 : fm (syc N 124 (sp_aside 426 f (N 124))) N1) (hr : N1 122 = g) (ht : tsame f g) : ∃ N2, jfX12_comesBack N1 = sy_rv N2 ∧ fr N N2 ∧ N2 = syc N1 122 f := by
  refine ⟨_, m_back (N := N1) (N0 := N) (f := f) (by rw [h3.1 124 (by decide) (by decide) (by decide), syc_at]) (fun i hi => by rw [hr]; exact ht.2.2 i hi), ⟨fun a ha => ?_, fun j hj => ?_⟩, rfl⟩
  · unfold rx at ha
    by_cases e : a = 122
    · subst e
      rw [syc_at, h1]
    · rw [syc_ne _ _ e, h3.1 a (by omega) e (by omega), syc_ne _ _ (by omega)]
  · rw [syc_ne _ _ (by decide), h3.2 j (by omega), syc_ne _ _ (by decide)]
theorem o_feeder (hM : mAK A tx) (I : Inv A tx L0 S e M) : opN A tx L0 S e (jfX11_feeder M) (jfX12_feeder) := by
  obtain ⟨n, G, H, ht, hA, hl⟩ := id I.1
  refine opN_q I (v := sp_fe A n 96 (M 122)) (c_feeder H G hA I.2.2.2.2.1) ?_
  intro N hN
  have r := rc_thr (c := 0) (rc_of I G ht hN)
  have r2 : rc tx false (syc (thr N 0) 124 (sp_aside 426 (M 122) (thr N 0 124))) n (M 122) := rc_aside r
  obtain ⟨N1, e1, r1, _, g2, f1⟩ := m_goesA hM (dr := false) (k := 96) r2 (by decide)
  obtain ⟨N2, e2, f2, e3⟩ := m_look (n := n) r.1 f1 r1.1 (sp_gs_gr G 96).2.1
  refine ⟨N2, ?_, fr_thr.trans f2⟩
  have e4 : N2 121 21 = sp_fe A n 96 (M 122) := by
    rw [e3, syc_ne _ _ (by decide), g2]
    unfold sp_gs
    rw [sp_fe_gs]
    rfl
  replace e1 : jfX12_goes (Int32.ofNat 96) (Int32.ofNat 0) (syc (thr N 0) 124 (sp_aside 426 (M 122) (thr N 0 124))) = _ := e1
  simp (disch := omega) only [zL, zlt, zle, zeq, zadd, zmul, zin, zix, zsh1, Nat.add_zero, Nat.zero_add, Nat.mul_zero, if_true, if_false, if_pos, if_neg, sy_bi_ri, sy_bi_rt, sy_bv_rv, sy_bv_rt, sy_br_rr, sy_br_rn, sy_hi_ri, sy_hi_rt, sy_bs_t, sy_bx_t, sy_bb_t, bz_bo, ite_bz0, ite_bz1, jfX12_feeder, thr_up, m_putsAside, r.1, e1, e2, e4]
end
