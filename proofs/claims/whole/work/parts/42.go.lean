/-! ===== many ticks ===== -/
/-- the row, how many were dark, how many fed, who fed first -/
def sp_gs (A : (Nat → Int32) → Nat → Int32 × Bool) (n : Nat) (nf dr : Bool) (f : Nat → Int32) (k : Nat) : (Nat → Int32) × Int32 × Int32 × Int32 :=
  sy_fo (fun _ x => ((sp_pass A n nf dr x.1).1, x.2.1 + bz (decide ((sp_pass A n nf dr x.1).2 ≠ -(Int32.ofNat 2))), (if (sp_pass A n nf dr x.1).2 < (Int32.ofNat 0) then x.2.2.1 else x.2.2.1 + (Int32.ofNat 1)), (if (sp_pass A n nf dr x.1).2 < (Int32.ofNat 0) then x.2.2.2 else if x.2.2.2 = -(Int32.ofNat 1) then (sp_pass A n nf dr x.1).2 else x.2.2.2))) k 0 (f, (Int32.ofNat 0), (Int32.ofNat 0), -(Int32.ofNat 1))
theorem sp_gs_succ (A : (Nat → Int32) → Nat → Int32 × Bool) (n : Nat) (nf dr : Bool) (f : Nat → Int32) (k : Nat) : sp_gs A n nf dr f (k + 1) = ((sp_pass A n nf dr (sp_gs A n nf dr f k).1).1, (sp_gs A n nf dr f k).2.1 + bz (decide ((sp_pass A n nf dr (sp_gs A n nf dr f k).1).2 ≠ -(Int32.ofNat 2))), (if (sp_pass A n nf dr (sp_gs A n nf dr f k).1).2 < (Int32.ofNat 0) then (sp_gs A n nf dr f k).2.2.1 else (sp_gs A n nf dr f k).2.2.1 + (Int32.ofNat 1)), (if (sp_pass A n nf dr (sp_gs A n nf dr f k).1).2 < (Int32.ofNat 0) then (sp_gs A n nf dr f k).2.2.2 else if (sp_gs A n nf dr f k).2.2.2 = -(Int32.ofNat 1) then (sp_pass A n nf dr (sp_gs A n nf dr f k).1).2 else (sp_gs A n nf dr f k).2.2.2)) := by
  unfold sp_gs
  rw [sy_fo_last]
theorem sp_gs_gr {A : (Nat → Int32) → Nat → Int32 × Bool} {n : Nat} {nf dr : Bool} {f : Nat → Int32} (G : gr f n) (k : Nat) : gr (sp_gs A n nf dr f k).1 n ∧ hsame f (sp_gs A n nf dr f k).1 := by
  induction k with
  | zero => exact ⟨G, hsame_rfl⟩
  | succ k ih =>
    rw [sp_gs_succ]
    exact ⟨gr_pass ih.1, ih.2.trans (sp_pass_rb ih.1.1 ih.1.2.2.1).2⟩
theorem m_goes {A : (Nat → Int32) → Nat → Int32 × Bool} {tx : (Nat → Int32) → Prop} (hA : mAK A tx) {M : sy_M} {n k : Nat} {nf dr : Bool} (G : gr (M 122) n) (ht : tx (M 122)) (hf : M 121 19 = bz nf) (hk : k ≤ 96) : ∃ M1, jfX12_goes (Int32.ofNat k) (bz dr) M = sy_ri (sp_gs A n nf dr (M 122) k).2.1 M1 ∧ M1 122 = (sp_gs A n nf dr (M 122) k).1 ∧ M1 121 20 = (sp_gs A n nf dr (M 122) k).2.2.1 ∧ M1 121 21 = (sp_gs A n nf dr (M 122) k).2.2.2 ∧ fm M M1 := by
  unfold jfX12_goes
  refine sy_forR (n := k) (F := sy_F) (R := fun c => ∃ M1, c = sy_ri (sp_gs A n nf dr (M 122) k).2.1 M1 ∧ M1 122 = (sp_gs A n nf dr (M 122) k).1 ∧ M1 121 20 = (sp_gs A n nf dr (M 122) k).2.2.1 ∧ M1 121 21 = (sp_gs A n nf dr (M 122) k).2.2.2 ∧ fm M M1) (fun q i (a : Int32 × sy_M) => jfX12_goes_15 q (Int32.ofNat k) (bz dr) a.1 (Int32.ofNat i) a.2) (fun i a => a.1 = (sp_gs A n nf dr (M 122) i).2.1 ∧ a.2 122 = (sp_gs A n nf dr (M 122) i).1 ∧ a.2 121 20 = (sp_gs A n nf dr (M 122) i).2.2.1 ∧ a.2 121 21 = (sp_gs A n nf dr (M 122) i).2.2.2 ∧ fm M a.2) ?_ ?_ ((Int32.ofNat 0), sy_upd (sy_upd M 121 20 0) 121 21 (-1)) ?_ (by rw [sy_F_eq]; omega)
  · intro q i ⟨c, N⟩ hi ⟨h1, h2, h3, h4, h5⟩
    have g := sp_gs_gr (A := A) (nf := nf) (dr := dr) G i
    simp only at h1 h2 h3 h4 h5
    obtain ⟨N1, e1, r1, f1, d1, d2⟩ := m_passes hA (M := N) (n := n) (nf := nf) (dr := dr) (by rw [h2]; exact g.1.1) (by rw [h2]; exact hA.1 _ _ ht g.2.1) (by rw [h2]; exact g.1.2.1) G.2.2.1 ((h5.2 19 (by omega)).trans hf)
    rw [h2] at e1 r1 d1 d2
    rw [h3] at d1
    rw [h4] at d2
    refine Or.inl ⟨((sp_gs A n nf dr (M 122) (i + 1)).2.1, N1), ?_, rfl, ?_, ?_, ?_, h5.trans f1⟩
    · show jgX12_goes_15 (jfX12_goes_15 q) (Int32.ofNat k) (bz dr) c (Int32.ofNat i) N = _
      rw [sp_gs_succ, h1]
      simp (disch := omega) only [zL, zlt, zle, zeq, zadd, zmul, zin, zix, zsh1, Nat.add_zero, Nat.zero_add, Nat.mul_zero, if_true, if_false, if_pos, if_neg, sy_bi_ri, sy_bi_rt, sy_bv_rv, sy_bv_rt, sy_br_rr, sy_br_rn, sy_hi_ri, sy_hi_rt, sy_bs_t, sy_bx_t, sy_bb_t, bz_bo, ite_bz0, ite_bz1, jgX12_goes_15, jfX12_goes_35, e1]
      cases decide ((sp_pass A n nf dr (sp_gs A n nf dr (M 122) i).1).2 ≠ -(Int32.ofNat 2)) <;> rfl
    · rw [sp_gs_succ]; exact r1
    · rw [sp_gs_succ]; exact d1
    · rw [sp_gs_succ]; exact d2
  · intro q ⟨c, N⟩ ⟨h1, h2, h3, h4, h5⟩
    refine ⟨N, ?_, h2, h3, h4, h5⟩
    show jgX12_goes_15 (jfX12_goes_15 q) (Int32.ofNat k) (bz dr) c (Int32.ofNat k) N = _
    simp only at h1
    rw [← h1]
    simp (disch := omega) only [zL, zlt, zle, zeq, zadd, zmul, zin, zix, zsh1, Nat.add_zero, Nat.zero_add, Nat.mul_zero, if_true, if_false, if_pos, if_neg, sy_bi_ri, sy_bi_rt, sy_bv_rv, sy_bv_rt, sy_br_rr, sy_br_rn, sy_hi_ri, sy_hi_rt, sy_bs_t, sy_bx_t, sy_bb_t, bz_bo, ite_bz0, ite_bz1, jgX12_goes_15]
  · rw [sy_upd_st, sy_upd_st]
    refine ⟨rfl, ?_, ?_, ?_, fun a h1 h2 h3 => ?_, fun j hj => ?_⟩
    · simp (disch := omega) only [syc_ne]; rfl
    · simp (disch := omega) only [syc_at, rs_ne, rs_at]; rfl
    · simp (disch := omega) only [syc_at, rs_at]; rfl
    · simp (disch := omega) only [syc_ne]
    · simp (disch := omega) only [syc_at, rs_ne]
/-- the class goes ahead -/
theorem c_run {A : (Nat → Int32) → Nat → Int32 × Bool} {M : sy_M} {n k : Nat} {f : Nat → Int32} {dr : Bool} (H : hw M 19 f) (G : gr f n) (hA : cAK A 29 M f) (hN : nt M n f) (hk : k ≤ 96) : ∃ M1, jfX11_run (Int32.ofNat k) (bz dr) M = sy_ri (sp_gs A n false dr f k).2.2.1 M1 ∧ hw M1 19 (sp_gs A n false dr f k).1 ∧ fp 19 M M1 := by
  unfold jfX11_run
  refine sy_forR (n := k) (F := sy_F) (R := fun c => ∃ M1, c = sy_ri (sp_gs A n false dr f k).2.2.1 M1 ∧ hw M1 19 (sp_gs A n false dr f k).1 ∧ fp 19 M M1) (fun q i (a : Int32 × sy_M) => jfX11_run_5 q (Int32.ofNat k) (bz dr) a.1 (Int32.ofNat i) a.2) (fun i a => a.1 = (sp_gs A n false dr f i).2.2.1 ∧ hw a.2 19 (sp_gs A n false dr f i).1 ∧ fp 19 M a.2) ?_ ?_ ((Int32.ofNat 0), M) ⟨rfl, H, fp_rfl⟩ (by rw [sy_F_eq]; omega)
  · intro q i ⟨c, N⟩ hi ⟨h1, h2, h3⟩
    have g := sp_gs_gr (A := A) (nf := false) (dr := dr) G i
    simp only at h1 h2 h3
    obtain ⟨N1, e1, w1, f1⟩ := c_pass (dr := dr) h2 g.1 (cAK_cp hA (lcp_of (fun c c1 c2 => h3 c (by omega) (by omega))) g.2.1) (nt_congr (nt_same g.2.2.2.2.2.2.1 G.2.2.1 hN) (h3 _ (by omega) (by omega)) (h3 _ (by omega) (by omega)))
    refine Or.inl ⟨((sp_gs A n false dr f (i + 1)).2.2.1, N1), ?_, rfl, ?_, h3.trans f1⟩
    · show jgX11_run_5 (jfX11_run_5 q) (Int32.ofNat k) (bz dr) c (Int32.ofNat i) N = _
      rw [sp_gs_succ, h1]
      simp (disch := omega) only [zL, zlt, zle, zeq, zadd, zmul, zin, zix, zsh1, Nat.add_zero, Nat.zero_add, Nat.mul_zero, if_true, if_false, if_pos, if_neg, sy_bi_ri, sy_bi_rt, sy_bv_rv, sy_bv_rt, sy_br_rr, sy_br_rn, sy_hi_ri, sy_hi_rt, sy_bs_t, sy_bx_t, sy_bb_t, bz_bo, ite_bz0, ite_bz1, jgX11_run_5, jfX11_run_33, e1]
      split <;> rfl
    · rw [sp_gs_succ]; exact w1
  · intro q ⟨c, N⟩ ⟨h1, h2, h3⟩
    refine ⟨N, ?_, h2, h3⟩
    show jgX11_run_5 (jfX11_run_5 q) (Int32.ofNat k) (bz dr) c (Int32.ofNat k) N = _
    simp only at h1
    rw [← h1]
    simp (disch := omega) only [zL, zlt, zle, zeq, zadd, zmul, zin, zix, zsh1, Nat.add_zero, Nat.zero_add, Nat.mul_zero, if_true, if_false, if_pos, if_neg, sy_bi_ri, sy_bi_rt, sy_bv_rv, sy_bv_rt, sy_br_rr, sy_br_rn, sy_hi_ri, sy_hi_rt, sy_bs_t, sy_bx_t, sy_bb_t, bz_bo, ite_bz0, ite_bz1, jgX11_run_5]
/-- what comes back is what was put aside -/
theorem aside_back {f g h : Nat → Int32} (e : ∀ i, 426 ≤ i → h i = f i) : sp_aside 426 (sp_aside 426 f g) h = f := by
  funext i
  unfold sp_aside
  by_cases hi : i < 426
  · rw [if_pos hi, if_pos hi]
  · rw [if_neg hi]; exact e i (by omega)
def thr (N : sy_M) (c : Nat) : sy_M := syc N 121 (rs (N 121) 0 (Int32.ofNat c))
theorem thr_0 (N : sy_M) (c : Nat) : thr N c 121 0 = Int32.ofNat c := by unfold thr; rw [syc_at, rs_at]
theorem thr_ne (N : sy_M) (c : Nat) {a : Nat} (h : a ≠ 121) : thr N c a = N a := syc_ne _ _ h
theorem thr_j (N : sy_M) (c : Nat) {j : Nat} (h : j ≠ 0) : thr N c 121 j = N 121 j := by unfold thr; rw [syc_at, rs_ne _ _ h]
theorem thr_up (N : sy_M) (c : Nat) : sy_upd N 121 0 (Int32.ofNat c) = thr N c := sy_upd_st _ _ _ _
theorem fr_thr {N : sy_M} {c : Nat} : fr N (thr N c) := ⟨fun a ha => thr_ne _ _ (by unfold rx at ha; omega), fun j hj => thr_j _ _ (by omega)⟩
theorem fm_fr {N N1 : sy_M} (h : fm N N1) (e : N1 122 = N 122) : fr N N1 := ⟨fun a ha => by
  unfold rx at ha
  by_cases h2 : a = 122
  · rw [h2, e]
  · exact h.1 a (by omega) h2 (by omega), fun j hj => h.2 j (by omega)⟩
