/-! ===== ticks ahead ===== -/
/-- a loop whose end is told by a recursion -/
theorem sy_ind {α : Type} {F n : Nat} (L : Nat → Nat → α → sy_O) (P : Nat → α → Prop) (R : Nat → Nat → α → sy_O → Prop) (h0 : ∀ k a, P n a → R 0 n a (L (k + 1) n a)) (hs : ∀ m k i a, i + (m + 1) = n → P i a → (∃ a', L (k + 2) i a = L (k + 1) (i + 1) a' ∧ P (i + 1) a' ∧ ∀ c, R m (i + 1) a' c → R (m + 1) i a c) ∨ R (m + 1) i a (L (k + 2) i a)) (a : α) (hp : P 0 a) (hF : n < F) : R n 0 a (L F 0 a) := by
  have key : ∀ (m i k : Nat) (a : α), i + m = n → P i a → R m i a (L (k + m + 1) i a) := by
    intro m
    induction m with
    | zero =>
      intro i k a h p
      have : i = n := by omega
      subst this
      exact h0 k a p
    | succ m ih =>
      intro i k a h p
      rcases hs m (k + m) i a h p with ⟨a', e, p', r⟩ | r
      · rw [show k + (m + 1) + 1 = k + m + 2 by omega, e]
        exact r _ (ih (i + 1) k a' (by omega) p')
      · exact r
  have := key n 0 (F - n - 1) a (by omega) hp
  rwa [show F - n - 1 + n + 1 = F by omega] at this
/-- the class stands ahead at a row -/
def ah (A : (Nat → Int32) → Nat → Int32 × Bool) (N : sy_M) (n : Nat) (g : Nat → Int32) : Prop := hw N 19 g ∧ gr g n ∧ cAK A 29 N g ∧ nt N n g
theorem c_passA {A : (Nat → Int32) → Nat → Int32 × Bool} {N : sy_M} {n : Nat} {g : Nat → Int32} {dr : Bool} (h : ah A N n g) : ∃ N1, jfX8_pass 19 29 (bz dr) N = sy_ri (sp_pass A n false dr g).2 N1 ∧ ah A N1 n (sp_pass A n false dr g).1 ∧ fp 19 N N1 := by
  obtain ⟨h1, h2, h3, h4⟩ := h
  obtain ⟨N1, e1, w1, f1⟩ := c_pass (dr := dr) h1 h2 h3 h4
  have k := (sp_pass_rb (A := A) (nf := false) (dr := dr) h2.1 h2.2.2.1).2
  exact ⟨N1, e1, ⟨w1, gr_pass h2, cAK_cp h3 (lcp_of (fun c c1 c2 => f1 c (by omega) (by omega))) k.1, nt_congr (nt_same k.2.2.2.2.2.1 h2.2.2.1 h4) (f1 _ (by omega) (by omega)) (f1 _ (by omega) (by omega))⟩, f1⟩
theorem c_runA {A : (Nat → Int32) → Nat → Int32 × Bool} {N : sy_M} {n k : Nat} {g : Nat → Int32} {dr : Bool} (h : ah A N n g) (hk : k ≤ 96) : ∃ N1, jfX11_run (Int32.ofNat k) (bz dr) N = sy_ri (sp_gs A n false dr g k).2.2.1 N1 ∧ ah A N1 n (sp_gs A n false dr g k).1 ∧ fp 19 N N1 := by
  obtain ⟨h1, h2, h3, h4⟩ := h
  obtain ⟨N1, e1, w1, f1⟩ := c_run (dr := dr) h1 h2 h3 h4 hk
  have k := sp_gs_gr (A := A) (nf := false) (dr := dr) h2 k
  exact ⟨N1, e1, ⟨w1, k.1, cAK_cp h3 (lcp_of (fun c c1 c2 => f1 c (by omega) (by omega))) k.2.1, nt_congr (nt_same k.2.2.2.2.2.2.1 h2.2.2.1 h4) (f1 _ (by omega) (by omega)) (f1 _ (by omega) (by omega))⟩, f1⟩
theorem ah.fq {A : (Nat → Int32) → Nat → Int32 × Bool} {N N1 : sy_M} {n : Nat} {g : Nat → Int32} (h : ah A N1 n g) (f : fp 19 N N1) : fq N N1 := ⟨fun a ha => f a (by unfold qs at ha; omega) (by unfold qs at ha; omega), fun _ => h.1.dk⟩
/-- the reference stands at a row -/
def rc (tx : (Nat → Int32) → Prop) (nf : Bool) (N : sy_M) (n : Nat) (g : Nat → Int32) : Prop := N 122 = g ∧ gr g n ∧ tx g ∧ N 121 19 = bz nf
theorem m_passA {A : (Nat → Int32) → Nat → Int32 × Bool} {tx : (Nat → Int32) → Prop} (hA : mAK A tx) {N : sy_M} {n : Nat} {nf dr : Bool} {g : Nat → Int32} (h : rc tx nf N n g) : ∃ N1, jfX12_passes (bz dr) N = sy_ri (bz (decide ((sp_pass A n nf dr g).2 ≠ -(Int32.ofNat 2)))) N1 ∧ rc tx nf N1 n (sp_pass A n nf dr g).1 ∧ fm N N1 := by
  obtain ⟨h1, h2, h3, h4⟩ := h
  subst h1
  obtain ⟨N1, e1, r1, f1, _⟩ := m_passes hA (dr := dr) h2.1 h3 h2.2.1 h2.2.2.1 h4
  have k := (sp_pass_rb (A := A) (nf := nf) (dr := dr) h2.1 h2.2.2.1).2
  exact ⟨N1, e1, ⟨r1, gr_pass h2, hA.1 _ _ h3 k.1, (f1.2 19 (by omega)).trans h4⟩, f1⟩
theorem m_goesA {A : (Nat → Int32) → Nat → Int32 × Bool} {tx : (Nat → Int32) → Prop} (hA : mAK A tx) {N : sy_M} {n k : Nat} {nf dr : Bool} {g : Nat → Int32} (h : rc tx nf N n g) (hk : k ≤ 96) : ∃ N1, jfX12_goes (Int32.ofNat k) (bz dr) N = sy_ri (sp_gs A n nf dr g k).2.1 N1 ∧ rc tx nf N1 n (sp_gs A n nf dr g k).1 ∧ N1 121 20 = (sp_gs A n nf dr g k).2.2.1 ∧ N1 121 21 = (sp_gs A n nf dr g k).2.2.2 ∧ fm N N1 := by
  obtain ⟨h1, h2, h3, h4⟩ := h
  subst h1
  obtain ⟨N1, e1, r1, f2, f3, f1⟩ := m_goes hA (dr := dr) (k := k) h2 h3 h4 hk
  have q := sp_gs_gr (A := A) (nf := nf) (dr := dr) h2 k
  exact ⟨N1, e1, ⟨r1, q.1, hA.1 _ _ h3 q.2.1, (f1.2 19 (by omega)).trans h4⟩, f2, f3, f1⟩
theorem fq_learn {M M1 : sy_M} (h : ∀ a, a ≠ 50 → a ≠ 51 → M1 a = M a) : fq M M1 := ⟨fun a ha => h a (by unfold qs at ha; omega) (by unfold qs at ha; omega), fun d => dk_congr d (h _ (by omega) (by omega))⟩
theorem q_learn {M : sy_M} {n : Nat} {f : Nat → Int32} (H : hw M 9 f) (G : gr f n) : ∃ M1, jfX8_learn 9 M = sy_rv M1 ∧ nt M1 n f ∧ hw M1 9 f ∧ fq M M1 := by
  obtain ⟨M1, e1, n1, f1⟩ := c_learn H.1 G.2.1 G.2.2.1
  exact ⟨M1, e1, n1, hw_congr H (fun a c1 c2 => f1 a (by omega) (by omega)), fq_learn f1⟩
/-- the house goes ahead from now -/
theorem q_over {A : (Nat → Int32) → Nat → Int32 × Bool} {M : sy_M} {n : Nat} {f : Nat → Int32} (H : hw M 9 f) (G : gr f n) (hA : cAK A 29 M f) (hN : nt M n f) (D : dk M 19) : ∃ M1, jfX2_takeOver 19 9 M = sy_rv M1 ∧ ah A M1 n f ∧ fp 19 M M1 := by
  obtain ⟨M1, e1, w1, f1⟩ := c_takeOver H D (by decide) (by decide)
  exact ⟨M1, e1, ⟨w1, G, cAK_cp hA (lcp_of (fun c c1 c2 => f1 c (by omega))) tsame_rfl, nt_congr hN (f1 _ (by omega)) (f1 _ (by omega))⟩, f1.fp⟩
theorem q_start {A : (Nat → Int32) → Nat → Int32 × Bool} {M : sy_M} {n : Nat} {f : Nat → Int32} (H : hw M 9 f) (G : gr f n) (hA : cAK A 29 M f) (D : dk M 19) : ∃ M1, jfX11_start M = sy_rv M1 ∧ ah A M1 n f ∧ hw M1 9 f ∧ fq M M1 := by
  obtain ⟨M1, e1, n1, w1, f1⟩ := q_learn H G
  obtain ⟨M2, e2, a2, f2⟩ := q_over w1 G (cAK_cp hA (lcp_of (fun c c1 c2 => f1.1 c (by unfold qs; omega))) tsame_rfl) n1 (f1.2 D)
  refine ⟨M2, ?_, a2, hw_congr w1 (fun a c1 c2 => f2 a (by omega) (by omega)), f1.trans (a2.fq f2)⟩
  simp only [jfX11_start, e1, e2, sy_bv_rv]
/-! the first dark tick -/
def sp_fdk (A : (Nat → Int32) → Nat → Int32 × Bool) (n : Nat) (nf : Bool) : Nat → Nat → (Nat → Int32) → Int32
  | 0, _, _ => -(Int32.ofNat 1)
  | m + 1, i, g => if (sp_pass A n nf false g).2 = -(Int32.ofNat 2) then sp_fdk A n nf m (i + 1) (sp_pass A n nf false g).1 else Int32.ofNat (i + 1)
theorem sp_p1_nf {A : (Nat → Int32) → Nat → Int32 × Bool} {n : Nat} {nf : Bool} {g : Nat → Int32} {s a : Int32} (h7 : n ≤ 7) : ((sp_p1 A n nf g s a).2 = -(Int32.ofNat 2) ↔ ¬ g 6 < a) := by
  unfold sp_p1
  by_cases h : g 6 < a
  · rw [if_pos h]
    have : (sp_pd A n nf g s).2 ≠ -(Int32.ofNat 2) := by
      unfold sp_pd
      cases nf
      · simp only [cond_false]
        rcases sp_who_is A (sp_chill (sp_dark g) n s) n s with e | ⟨q, hq, e, hc⟩
        · rw [e]; decide
        · rw [e]
          intro z
          have : ¬ (Int32.ofNat q < (Int32.ofNat 0)) := znn q (by omega)
          rw [z] at this
          exact this (by decide)
      · simp only [cond_true]; decide
    exact ⟨fun z => absurd z this, fun z => absurd h z⟩
  · rw [if_neg h]
    exact ⟨fun _ => h, fun _ => rfl⟩
theorem sp_pass_nf {A : (Nat → Int32) → Nat → Int32 × Bool} {n : Nat} {nf : Bool} {g : Nat → Int32} (h7 : n ≤ 7) : ((sp_pass A n nf false g).2 = -(Int32.ofNat 2) ↔ (sp_pass A n false false g).2 = -(Int32.ofNat 2)) ∧ ((sp_pass A n false false g).2 = -(Int32.ofNat 2) → (sp_pass A n nf false g).1 = (sp_pass A n false false g).1) := by
  unfold sp_pass
  simp only [cond_false]
  refine ⟨(sp_p1_nf h7).trans (sp_p1_nf h7).symm, fun h => ?_⟩
  have := (sp_p1_nf h7).mp h
  unfold sp_p1
  rw [if_neg this, if_neg this]
theorem sp_fdk_nf (A : (Nat → Int32) → Nat → Int32 × Bool) {n : Nat} (nf : Bool) (h7 : n ≤ 7) : ∀ (m i : Nat) (g : Nat → Int32), sp_fdk A n nf m i g = sp_fdk A n false m i g
  | 0, _, _ => rfl
  | m + 1, i, g => by
    unfold sp_fdk
    have k := sp_pass_nf (A := A) (nf := nf) (g := g) h7
    by_cases h : (sp_pass A n false false g).2 = -(Int32.ofNat 2)
    · rw [if_pos (k.1.mpr h), if_pos h, k.2 h]
      exact sp_fdk_nf A nf h7 m (i + 1) _
    · rw [if_neg (fun z => h (k.1.mp z)), if_neg h]
theorem c_firstDark {A : (Nat → Int32) → Nat → Int32 × Bool} {M : sy_M} {n : Nat} {f : Nat → Int32} (H : hw M 9 f) (G : gr f n) (hA : cAK A 29 M f) (D : dk M 19) : ∃ M1, jfX11_firstDark M = sy_ri (sp_fdk A n false 96 0 f) M1 ∧ fq M M1 := by
  obtain ⟨M1, e1, a1, w1, f1⟩ := q_start H G hA D
  unfold jfX11_firstDark
  rw [e1, sy_bv_rv]
  have key := sy_ind (n := 96) (F := sy_F) (fun k i (a : (Nat → Int32) × sy_M) => jfX11_firstDark_6 k (Int32.ofNat (i + 1)) a.2) (fun i a => ah A a.2 n a.1 ∧ fp 19 M1 a.2) (fun m i a c => ∃ M2, c = sy_ri (sp_fdk A n false m i a.1) M2 ∧ fq M1 M2) ?_ ?_ (f, M1) ⟨a1, fp_rfl⟩ (by rw [sy_F_eq]; omega)
  · obtain ⟨M2, e2, f2⟩ := key
    exact ⟨M2, e2, f1.trans f2⟩
  · intro k ⟨g, N⟩ ⟨h1, h2⟩
    refine ⟨N, ?_, h1.fq h2⟩
    show jgX11_firstDark_6 (jfX11_firstDark_6 k) (Int32.ofNat (96 + 1)) N = _
    simp (disch := omega) only [zL, zlt, zle, zeq, zadd, zmul, zin, zix, zsh1, Nat.add_zero, Nat.zero_add, Nat.mul_zero, if_true, if_false, if_pos, if_neg, sy_bi_ri, sy_bi_rt, sy_bv_rv, sy_bv_rt, sy_br_rr, sy_br_rn, sy_hi_ri, sy_hi_rt, sy_bs_t, sy_bx_t, sy_bb_t, bz_bo, ite_bz0, ite_bz1, jgX11_firstDark_6]
    rfl
  · intro m k i ⟨g, N⟩ hi ⟨h1, h2⟩
    obtain ⟨N1, e3, a3, f3⟩ := c_passA (dr := false) h1
    replace e3 : jfX8_pass 19 29 (Int32.ofNat 0) N = _ := e3
    by_cases hl : (sp_pass A n false false g).2 = -(Int32.ofNat 2)
    · refine Or.inl ⟨((sp_pass A n false false g).1, N1), ?_, ⟨a3, h2.trans f3⟩, ?_⟩
      · show jgX11_firstDark_6 (jfX11_firstDark_6 (k + 1)) (Int32.ofNat (i + 1)) N = _
        simp (disch := omega) only [zL, zlt, zle, zeq, zadd, zmul, zin, zix, zsh1, Nat.add_zero, Nat.zero_add, Nat.mul_zero, if_true, if_false, if_pos, if_neg, sy_bi_ri, sy_bi_rt, sy_bv_rv, sy_bv_rt, sy_br_rr, sy_br_rn, sy_hi_ri, sy_hi_rt, sy_bs_t, sy_bx_t, sy_bb_t, bz_bo, ite_bz0, ite_bz1, jgX11_firstDark_6, e3, hl]
      · rintro c ⟨M2, e4, f4⟩
        refine ⟨M2, ?_, f4⟩
        rw [e4]
        unfold sp_fdk
        rw [if_pos hl]
        cases m <;> rfl
    · refine Or.inr ⟨N1, ?_, a3.fq (h2.trans f3)⟩
      show jgX11_firstDark_6 (jfX11_firstDark_6 (k + 1)) (Int32.ofNat (i + 1)) N = _
      unfold sp_fdk
      simp (disch := omega) only [zL, zlt, zle, zeq, zadd, zmul, zin, zix, zsh1, Nat.add_zero, Nat.zero_add, Nat.mul_zero, if_true, if_false, if_pos, if_neg, sy_bi_ri, sy_bi_rt, sy_bv_rv, sy_bv_rt, sy_br_rr, sy_br_rn, sy_hi_ri, sy_hi_rt, sy_bs_t, sy_bx_t, sy_bb_t, bz_bo, ite_bz0, ite_bz1, jgX11_firstDark_6, e3]
/-- behind a look ahead all is as it was -/
theorem m_back {N N0 : sy_M} {f : Nat → Int32} (e1 : N 124 = sp_aside 426 f (N0 124)) (e2 : ∀ i, 426 ≤ i → N 122 i = f i) : jfX12_comesBack N = sy_rv (syc N 122 f) := by
  rw [m_comesBack, e1, aside_back e2]
theorem rc_aside {tx : (Nat → Int32) → Prop} {n : Nat} {nf : Bool} {g q : Nat → Int32} {N : sy_M} (h : rc tx nf N n g) : rc tx nf (syc N 124 q) n g := ⟨(syc_ne _ _ (by decide)).trans h.1, h.2.1, h.2.2.1, by rw [syc_ne _ _ (by decide)]; exact h.2.2.2⟩
theorem m_firstDark {A : (Nat → Int32) → Nat → Int32 × Bool} {tx : (Nat → Int32) → Prop} (hA : mAK A tx) {M : sy_M} {n : Nat} {nf : Bool} {f : Nat → Int32} (h : rc tx nf M n f) : ∃ M1, jfX12_firstDark M = sy_ri (sp_fdk A n false 96 0 f) M1 ∧ (∀ a, ¬ rx a → M1 a = M a) ∧ (∀ j, j < 9 ∨ j = 12 → M1 121 j = M 121 j) ∧ M1 121 19 = (Int32.ofNat 0) := by
  obtain ⟨h1, h2, h3, h4⟩ := h
  have hb : ∀ (a : Int32) (g : Nat → Int32) (N : sy_M), rc tx nf N n g → tsame f g → fm (syc M 124 (sp_aside 426 f (M 124))) N → ∃ M1, jfX12_firstDark_35 a N = sy_ri a M1 ∧ (∀ a, ¬ rx a → M1 a = M a) ∧ (∀ j, j < 9 ∨ j = 12 → M1 121 j = M 121 j) ∧ M1 121 19 = (Int32.ofNat 0) := by
    intro a g N k1 k2 k3
    refine ⟨syc (syc N 122 f) 121 (rs (N 121) 19 (Int32.ofNat 0)), ?_, ?_, ?_, ?_⟩
    · have := m_back (N := N) (N0 := M) (f := f) (by rw [k3.1 124 (by decide) (by decide) (by decide), syc_at]) (fun i hi => by rw [k1.1]; exact k2.2.2 i hi)
      simp (disch := omega) only [zL, zlt, zle, zeq, zadd, zmul, zin, zix, zsh1, Nat.add_zero, Nat.zero_add, Nat.mul_zero, if_true, if_false, if_pos, if_neg, sy_bi_ri, sy_bi_rt, sy_bv_rv, sy_bv_rt, sy_br_rr, sy_br_rn, sy_hi_ri, sy_hi_rt, sy_bs_t, sy_bx_t, sy_bb_t, bz_bo, ite_bz0, ite_bz1, jfX12_firstDark_35, this, sy_upd_st, syc_ne]
    · intro c hc
      unfold rx at hc
      rw [syc_ne _ _ (by omega)]
      by_cases e : c = 122
      · subst e
        rw [syc_at, h1]
      · rw [syc_ne _ _ e, k3.1 c (by omega) e (by omega), syc_ne _ _ (by omega)]
    · intro j hj
      rw [syc_at, rs_ne _ _ (by omega), k3.2 j (by omega), syc_ne _ _ (by decide)]
    · rw [syc_at, rs_at]
  unfold jfX12_firstDark
  rw [m_putsAside, sy_bv_rv, h1]
  have key := sy_ind (n := 96) (F := sy_F) (fun k i (a : (Nat → Int32) × sy_M) => jfX12_firstDark_8 k (-1) (Int32.ofNat (i + 1)) a.2) (fun i a => rc tx nf a.2 n a.1 ∧ tsame f a.1 ∧ fm (syc M 124 (sp_aside 426 f (M 124))) a.2) (fun m i a c => ∃ M2, c = sy_ri (sp_fdk A n nf m i a.1) M2 ∧ (∀ a, ¬ rx a → M2 a = M a) ∧ (∀ j, j < 9 ∨ j = 12 → M2 121 j = M 121 j) ∧ M2 121 19 = (Int32.ofNat 0)) ?_ ?_ (f, syc M 124 (sp_aside 426 f (M 124))) ⟨rc_aside ⟨h1, h2, h3, h4⟩, tsame_rfl, fm_rfl⟩ (by rw [sy_F_eq]; omega)
  · obtain ⟨M2, e2, f2⟩ := key
    rw [sp_fdk_nf A nf h2.2.2.1] at e2
    exact ⟨M2, e2, f2⟩
  · intro k ⟨g, N⟩ ⟨k1, k2, k3⟩
    obtain ⟨M2, e2, f2⟩ := hb (-(Int32.ofNat 1)) g N k1 k2 k3
    refine ⟨M2, ?_, f2⟩
    show jgX12_firstDark_8 (jfX12_firstDark_8 k) (-1) (Int32.ofNat (96 + 1)) N = _
    simp (disch := omega) only [zL, zlt, zle, zeq, zadd, zmul, zin, zix, zsh1, Nat.add_zero, Nat.zero_add, Nat.mul_zero, if_true, if_false, if_pos, if_neg, sy_bi_ri, sy_bi_rt, sy_bv_rv, sy_bv_rt, sy_br_rr, sy_br_rn, sy_hi_ri, sy_hi_rt, sy_bs_t, sy_bx_t, sy_bb_t, bz_bo, ite_bz0, ite_bz1, jgX12_firstDark_8, e2]
    rfl
  · intro m k i ⟨g, N⟩ hi ⟨k1, k2, k3⟩
    obtain ⟨N1, e3, a3, f3⟩ := m_passA hA (dr := false) k1
    have ts := k2.trans (sp_pass_rb (A := A) (nf := nf) (dr := false) k1.2.1.1 k1.2.1.2.2.1).2.1
    replace e3 : jfX12_passes (Int32.ofNat 0) N = _ := e3
    by_cases hl : (sp_pass A n nf false g).2 = -(Int32.ofNat 2)
    · refine Or.inl ⟨((sp_pass A n nf false g).1, N1), ?_, ⟨a3, ts, k3.trans f3⟩, ?_⟩
      · show jgX12_firstDark_8 (jfX12_firstDark_8 (k + 1)) (-1) (Int32.ofNat (i + 1)) N = _
        rw [decide_eq_false (fun z => z hl)] at e3
        simp (disch := omega) only [zL, zlt, zle, zeq, zadd, zmul, zin, zix, zsh1, Nat.add_zero, Nat.zero_add, Nat.mul_zero, if_true, if_false, if_pos, if_neg, sy_bi_ri, sy_bi_rt, sy_bv_rv, sy_bv_rt, sy_br_rr, sy_br_rn, sy_hi_ri, sy_hi_rt, sy_bs_t, sy_bx_t, sy_bb_t, bz_bo, ite_bz0, ite_bz1, jgX12_firstDark_8, jfX12_firstDark_29, e3]
        rfl
      · rintro c ⟨M2, e4, f4⟩
        refine ⟨M2, ?_, f4⟩
        rw [e4]
        unfold sp_fdk
        rw [if_pos hl]
        cases m <;> rfl
    · obtain ⟨M2, e2, f2⟩ := hb (Int32.ofNat (i + 1)) _ N1 a3 ts (k3.trans f3)
      refine Or.inr ⟨M2, ?_, f2⟩
      have hne : Int32.ofNat (i + 1) ≠ -(Int32.ofNat 1) := by
        intro z
        have : ¬ (Int32.ofNat (i + 1) < (Int32.ofNat 0)) := znn _ (by omega)
        rw [z] at this
        exact this (by decide)
      rw [decide_eq_true (show (sp_pass A n nf false g).2 ≠ -(Int32.ofNat 2) from hl)] at e3
      have s1 : jgX12_firstDark_8 (jfX12_firstDark_8 (k + 1)) (-1) (Int32.ofNat (i + 1)) N = jfX12_firstDark_8 (k + 1) (Int32.ofNat (i + 1)) (Int32.ofNat (i + 1 + 1)) N1 := by
        simp (disch := omega) only [zL, zlt, zle, zeq, zadd, zmul, zin, zix, zsh1, Nat.add_zero, Nat.zero_add, Nat.mul_zero, if_true, if_false, if_pos, if_neg, sy_bi_ri, sy_bi_rt, sy_bv_rv, sy_bv_rt, sy_br_rr, sy_br_rn, sy_hi_ri, sy_hi_rt, sy_bs_t, sy_bx_t, sy_bb_t, bz_bo, ite_bz0, ite_bz1, jgX12_firstDark_8, jfX12_firstDark_29, e3]
        rfl
      have s2 : jgX12_firstDark_8 (jfX12_firstDark_8 k) (Int32.ofNat (i + 1)) (Int32.ofNat (i + 1 + 1)) N1 = sy_ri (Int32.ofNat (i + 1)) M2 := by
        unfold jgX12_firstDark_8
        rw [if_neg (show ¬ (Int32.ofNat (i + 1) = -1) from hne), e2]
        split <;> rfl
      refine (show _ = _ from s1).trans ((show _ = _ from s2).trans ?_)
      unfold sp_fdk
      rw [if_neg hl]
