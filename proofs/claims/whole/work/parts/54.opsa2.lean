/-! ===== poorest, rests, miser, alike ===== -/
section
variable {A : (Nat → Int32) → Nat → Int32 × Bool} {tx : (Nat → Int32) → Prop} {L0 : Int32} {S : Nat → Int32} {e : Nat} {M : sy_M}
theorem sp_ow_le {n : Nat} {f : Nat → Int32} (H : rb f) (p : Nat) (hp : p < 7) : ∀ m : Nat, m ≤ 7 → ∃ k : Int, -99 * (m : Int) ≤ k ∧ k ≤ 99 * (m : Int) ∧ sp_ow f m p = Int32.ofInt k := by
  intro m
  unfold sp_ow
  induction m with
  | zero => exact fun _ => ⟨0, by omega, by omega, rfl⟩
  | succ m ih =>
    intro h
    obtain ⟨k, h1, h2, e⟩ := ih (by omega)
    obtain ⟨a, ha, e1⟩ := rb_owed H hp (o := m) (by omega)
    obtain ⟨b, hb, e2⟩ := rb_owed H (p := m) (o := p) (by omega) hp
    refine ⟨k + ((a : Int) - (b : Int)), by omega, by omega, ?_⟩
    rw [sy_fo_last, e, Nat.zero_add, e1, e2, zi_nat, zi_nat, zi_sub, zi_add]
def sp_wo (f : Nat → Int32) (n p : Nat) : Int32 := f (14 + 9 * p + 5) - sp_ow f n p
theorem sp_wo_lt {n p : Nat} {f : Nat → Int32} (H : rb f) (h7 : n ≤ 7) (hp : p < 7) : sp_wo f n p < (Int32.ofNat 2000000000) := by
  obtain ⟨k, h1, h2, e⟩ := sp_ow_le (n := n) H p hp n h7
  obtain ⟨c, hc, e2⟩ := rb_coins H hp
  unfold sp_wo
  rw [e, e2, zi_nat, zi_nat, zi_sub, zi_lt (by omega) (by omega) (by omega) (by omega)]
  omega
def sp_po (f : Nat → Int32) (n : Nat) : Nat → Int32 × Int32
  | 0 => (-(Int32.ofNat 1), (Int32.ofNat 0))
  | i + 1 => if i = 0 ∨ sp_wo f n i < (sp_po f n i).2 then (Int32.ofNat i, sp_wo f n i) else sp_po f n i
theorem sp_po_s (f : Nat → Int32) (n i : Nat) : sp_po f n (i + 1) = if i = 0 ∨ sp_wo f n i < (sp_po f n i).2 then (Int32.ofNat i, sp_wo f n i) else sp_po f n i := rfl
theorem sp_po_ne (f : Nat → Int32) (n : Nat) : ∀ i, 0 < i → i ≤ 7 → (sp_po f n i).1 ≠ -(Int32.ofNat 1)
  | 0, h, _ => by omega
  | i + 1, _, h7 => by
    rw [sp_po_s]
    by_cases h : i = 0 ∨ sp_wo f n i < (sp_po f n i).2
    · rw [if_pos h]
      intro z
      have : ¬ (Int32.ofNat i < (Int32.ofNat 0)) := znn _ (by omega)
      rw [show Int32.ofNat i = -(Int32.ofNat 1) from z] at this
      exact this (by decide)
    · rw [if_neg h]
      exact sp_po_ne f n i (by omega) (by omega)
theorem o_poorest (I : Inv A tx L0 S e M) : opN A tx L0 S e (jfX11_poorest M) (jfX12_poorest) := by
  obtain ⟨n, G, H, ht, hA, hl⟩ := id I.1
  have hn := G.2.1
  have h7 := G.2.2.1
  refine opN_q I (v := (sp_po (M 122) n n).1) ⟨M, ?_, fq_rfl⟩ (fun N hN => ⟨thr N 0, ?_, fr_thr⟩)
  · unfold jfX11_poorest
    refine sy_forR (n := n) (F := sy_F) (R := fun c => c = sy_ri (sp_po (M 122) n n).1 M) (fun k i (_ : Unit) => jfX11_poorest_6 k (sp_po (M 122) n i).1 (sp_po (M 122) n i).2 (Int32.ofNat i) M) (fun _ _ => True) ?_ ?_ () trivial (by rw [sy_F_eq]; omega)
    · intro k i _ hi _
      refine Or.inl ⟨(), ?_, trivial⟩
      show jgX11_poorest_6 (jfX11_poorest_6 k) (sp_po (M 122) n i).1 (sp_po (M 122) n i).2 (Int32.ofNat i) M = _
      have wo : M 122 (14 + 9 * i + 5) - sp_ow (M 122) n i = sp_wo (M 122) n i := rfl
      rw [sp_po_s]
      simp (disch := omega) only [zL, zlt, zle, zeq, zadd, zmul, zin, zix, zsh1, Nat.add_zero, Nat.zero_add, Nat.mul_zero, if_true, if_false, if_pos, if_neg, sy_bi_ri, sy_bi_rt, sy_bv_rv, sy_bv_rt, sy_br_rr, sy_br_rn, sy_hi_ri, sy_hi_rt, sy_bs_t, sy_bx_t, sy_bb_t, bz_bo, ite_bz0, ite_bz1, jgX11_poorest_6, jfX11_poorest_48, jfX11_poorest_53, hv_3 H.1, hn, c_get H.1, c_owesMore H.1 hn h7, wo]
      by_cases h0 : i = 0
      · subst h0
        rw [if_pos (show (sp_po (M 122) n 0).1 = -(Int32.ofNat 1) from rfl), if_pos (Or.inl rfl)]
      · rw [if_neg (sp_po_ne (M 122) n i (by omega) (by omega))]
        by_cases h1 : sp_wo (M 122) n i < (sp_po (M 122) n i).2
        · rw [if_pos h1, if_pos (Or.inr h1)]
        · rw [if_neg h1, if_neg (fun z => z.elim h0 h1)]
    · intro k _ _
      show jgX11_poorest_6 (jfX11_poorest_6 k) (sp_po (M 122) n n).1 (sp_po (M 122) n n).2 (Int32.ofNat n) M = _
      simp (disch := omega) only [zL, zlt, zle, zeq, zadd, zmul, zin, zix, zsh1, Nat.add_zero, Nat.zero_add, Nat.mul_zero, if_true, if_false, if_pos, if_neg, sy_bi_ri, sy_bi_rt, sy_bv_rv, sy_bv_rt, sy_br_rr, sy_br_rn, sy_hi_ri, sy_hi_rt, sy_bs_t, sy_bx_t, sy_bb_t, bz_bo, ite_bz0, ite_bz1, jgX11_poorest_6, hv_3 H.1, hn]
  · have e122 : thr N 0 122 = M 122 := (thr_ne _ _ (by decide)).trans (hN 122 (by omega) (by omega))
    show (jfX12_poorest_13 sy_F (-1) 2000000000 0 (sy_upd N 121 0 (Int32.ofNat 0))) = _
    rw [thr_up]
    refine sy_forR (n := n) (F := sy_F) (R := fun c => c = sy_ri (sp_po (M 122) n n).1 (thr N 0)) (fun k i (_ : Unit) => jfX12_poorest_13 k (sp_po (M 122) n i).1 (if i = 0 then (Int32.ofNat 2000000000) else (sp_po (M 122) n i).2) (Int32.ofNat i) (thr N 0)) (fun _ _ => True) ?_ ?_ () trivial (by rw [sy_F_eq]; omega)
    · intro k i _ hi _
      refine Or.inl ⟨(), ?_, trivial⟩
      show jgX12_poorest_13 (jfX12_poorest_13 k) (sp_po (M 122) n i).1 (if i = 0 then (Int32.ofNat 2000000000) else (sp_po (M 122) n i).2) (Int32.ofNat i) (thr N 0) = _
      have wo : M 122 (14 + 9 * i + 5) - sp_ow (M 122) n i = sp_wo (M 122) n i := rfl
      rw [sp_po_s, if_neg (show ¬ i + 1 = 0 by omega)]
      by_cases h0 : i = 0
      · subst h0
        simp (disch := omega) only [zL, zlt, zle, zeq, zadd, zmul, zin, zix, zsh1, Nat.add_zero, Nat.zero_add, Nat.mul_zero, if_true, if_false, if_pos, if_neg, sy_bi_ri, sy_bi_rt, sy_bv_rv, sy_bv_rt, sy_br_rr, sy_br_rn, sy_hi_ri, sy_hi_rt, sy_bs_t, sy_bx_t, sy_bb_t, bz_bo, ite_bz0, ite_bz1, jgX12_poorest_13, jfX12_poorest_51, e122, hn, m_of, m_owesOf e122 hn h7]
        rw [if_pos (show M 122 (14 + 5) - sp_ow (M 122) n 0 < (Int32.ofNat 2000000000) from sp_wo_lt G.1 h7 (p := 0) (by omega)), if_pos (Or.inl trivial)]
        rfl
      · rw [if_neg h0]
        simp (disch := omega) only [zL, zlt, zle, zeq, zadd, zmul, zin, zix, zsh1, Nat.add_zero, Nat.zero_add, Nat.mul_zero, if_true, if_false, if_pos, if_neg, sy_bi_ri, sy_bi_rt, sy_bv_rv, sy_bv_rt, sy_br_rr, sy_br_rn, sy_hi_ri, sy_hi_rt, sy_bs_t, sy_bx_t, sy_bb_t, bz_bo, ite_bz0, ite_bz1, jgX12_poorest_13, jfX12_poorest_51, e122, hn, m_of, m_owesOf e122 hn h7, wo]
        by_cases h1 : sp_wo (M 122) n i < (sp_po (M 122) n i).2
        · rw [if_pos h1, if_pos (Or.inr h1)]
        · rw [if_neg h1, if_neg (fun z => z.elim h0 h1)]
    · intro k _ _
      show jgX12_poorest_13 (jfX12_poorest_13 k) (sp_po (M 122) n n).1 _ (Int32.ofNat n) (thr N 0) = _
      simp (disch := omega) only [zL, zlt, zle, zeq, zadd, zmul, zin, zix, zsh1, Nat.add_zero, Nat.zero_add, Nat.mul_zero, if_true, if_false, if_pos, if_neg, sy_bi_ri, sy_bi_rt, sy_bv_rv, sy_bv_rt, sy_br_rr, sy_br_rn, sy_hi_ri, sy_hi_rt, sy_bs_t, sy_bx_t, sy_bb_t, bz_bo, ite_bz0, ite_bz1, jgX12_poorest_13, e122, hn]
/-! rests -/
def sp_ga (f : Nat → Int32) (p a b : Nat) (w : Int32) : Int32 := if a = 0 then (if b = 0 then w - (Int32.ofNat 2) else w - (Int32.ofNat 4)) else (if b = 0 then w else -(f (14 + 9 * p + 6) + (Int32.ofNat 1)))
theorem c_gain {p a b : Nat} {f : Nat → Int32} {w : Int32} (H : hv M 9 f) (hp : p < 7) (ha : a < 2) (hb : b < 2) : jfX11_gain (Int32.ofNat p) (Int32.ofNat a) (Int32.ofNat b) w M = sy_ri (sp_ga f p a b w) M := by
  unfold sp_ga
  simp (disch := omega) only [zL, zlt, zle, zeq, zadd, zmul, zin, zix, zsh1, Nat.add_zero, Nat.zero_add, Nat.mul_zero, if_true, if_false, if_pos, if_neg, sy_bi_ri, sy_bi_rt, sy_bv_rv, sy_bv_rt, sy_br_rr, sy_br_rn, sy_hi_ri, sy_hi_rt, sy_bs_t, sy_bx_t, sy_bb_t, bz_bo, ite_bz0, ite_bz1, jfX11_gain, c_get H]
  split <;> split <;> rfl
theorem neg1 (x : Int32) : -x - (Int32.ofNat 1) = -(x + (Int32.ofNat 1)) := by
  rw [show ((Int32.ofNat 1) : Int32) = 1 from rfl]
  grind
def sp_wm (f : Nat → Int32) (n : Nat) : Int32 := f 7 / sp_max (Int32.ofNat 1) (sp_burn f n (sp_home f n (f 4)))
theorem sp_mx1 {n : Nat} {f : Nat → Int32} {s : Int32} (H : rb f) (h7 : n ≤ 7) : sp_max (Int32.ofNat 1) (sp_burn f n s) ≠ (Int32.ofNat 0) := by
  obtain ⟨k, hk, e⟩ := sp_burn_le (s := s) H n h7
  rw [e, zmax (by omega) (by omega)]
  intro z
  rw [zeq (by omega) (by omega)] at z
  omega
theorem m_hasBy {n p a b : Nat} {f : Nat → Int32} (hf : M 122 = f) (hb0 : rb f) (hn : f 3 = Int32.ofNat n) (h7 : n ≤ 7) (hp : p < 7) (ha : a < 2) (hb : b < 2) : jfX12_hasBy (Int32.ofNat p) (Int32.ofNat a) (Int32.ofNat b) M = sy_ri (sp_ga f p a b (sp_wm f n)) M := by
  subst hf
  have e3 := m_needsIn (t := M 122 4) hn h7
  unfold sp_needs at e3
  have e4 := sp_mx1 (s := sp_home (M 122) n (M 122 4)) hb0 h7
  unfold sp_ga sp_wm
  simp (disch := omega) only [jfX12_hasBy, e3, sy_bi_ri, zL, m_greater, m_of, neg1, zeq]
  rw [if_neg e4]
  by_cases h1 : a = 0
  · rw [if_pos h1, if_pos h1]
    by_cases h2 : b = 0
    · rw [if_pos h2, if_pos h2]
    · rw [if_neg h2, if_neg h2]
  · rw [if_neg h1, if_neg h1]
    by_cases h2 : b = 0
    · rw [if_pos h2, if_pos h2]
    · rw [if_neg h2, if_neg h2]
def sp_rs (f : Nat → Int32) (p o : Nat) (w : Int32) (m : Nat) : Int32 := sy_fo (fun k s => if sp_ga f p (k / 2) (k % 2) w < sp_ga f p (1 - k / 2) (k % 2) w then s else if sp_ga f o (k % 2) (k / 2) w < sp_ga f o (1 - k % 2) (k / 2) w then s else s ||| (Int32.ofNat 1) <<< Int32.ofNat k) m 0 (Int32.ofNat 0)
theorem sp_rs_s (f : Nat → Int32) (p o : Nat) (w : Int32) (k : Nat) : sp_rs f p o w (k + 1) = if sp_ga f p (k / 2) (k % 2) w < sp_ga f p (1 - k / 2) (k % 2) w then sp_rs f p o w k else if sp_ga f o (k % 2) (k / 2) w < sp_ga f o (1 - k % 2) (k / 2) w then sp_rs f p o w k else sp_rs f p o w k ||| (Int32.ofNat 1) <<< Int32.ofNat k := by
  unfold sp_rs
  rw [sy_fo_last, Nat.zero_add]
theorem k4 : ∀ k : Fin 4, (Int32.ofNat k.1 >>> (Int32.ofNat 1)) = Int32.ofNat (k.1 / 2) ∧ (Int32.ofNat k.1 &&& (Int32.ofNat 1)) = Int32.ofNat (k.1 % 2) := by decide +kernel
theorem c_isContent {p a b : Nat} {f : Nat → Int32} {w : Int32} (H : hv M 9 f) (hp : p < 7) (ha : a < 2) (hb : b < 2) : jfX11_isContent (Int32.ofNat p) (Int32.ofNat a) (Int32.ofNat b) w M = sy_ri (bz (decide (¬ sp_ga f p a b w < sp_ga f p (1 - a) b w))) M := by
  have e1 : (Int32.ofNat 1) - Int32.ofNat a = Int32.ofNat (1 - a) := zsub (by omega)
  simp (disch := omega) only [zL, zlt, zle, zeq, zadd, zmul, zin, zix, zsh1, Nat.add_zero, Nat.zero_add, Nat.mul_zero, if_true, if_false, if_pos, if_neg, sy_bi_ri, sy_bi_rt, sy_bv_rv, sy_bv_rt, sy_br_rr, sy_br_rn, sy_hi_ri, sy_hi_rt, sy_bs_t, sy_bx_t, sy_bb_t, bz_bo, ite_bz0, ite_bz1, jfX11_isContent, c_gain H, e1]
  by_cases h : sp_ga f p a b w < sp_ga f p (1 - a) b w
  · rw [if_pos h, decide_eq_false (fun z => z h)]; rfl
  · rw [if_neg h, decide_eq_true h]; rfl
theorem o_rests (I : Inv A tx L0 S e M) (he : e < 90000) (a b : Int32) : opT A tx L0 S e (jfL_rests a b M) (jfX12_rests a b) := by
  obtain ⟨n, G, H, ht, hA, hl⟩ := id I.1
  have hn := G.2.1
  have h7 := G.2.2.1
  obtain ⟨xk, hxk, exk⟩ := I.2.2.2.2.2.2.2.2.1
  have hx := xok he hxk exk
  have h9 : M 9 3 = Int32.ofNat n := (hv_3 H.1).trans hn
  have D19 := I.2.2.2.2.1
  unfold jfL_rests
  rcases ck_two h7 h9 hx a b with ⟨p, o, hp, ho, hne, ea, eb, ck, mk⟩ | ⟨cl, c, hcc, ck, mk⟩
  · subst ea eb
    refine opT_q I (v := sp_rs (M 122) p o (sp_wm (M 122) n) 4) ?_ (fun N hN => ⟨thr N 0, ?_, thr_0 _ _, fr_thr⟩)
    · obtain ⟨M1, e1, n1, w1, f1⟩ := q_learn H G
      obtain ⟨t, ht2, e4⟩ := rb_tick G.1
      refine ⟨M1, ?_, f1⟩
      have e5 : M1 9 5 = Int32.ofNat t := (hv_5 w1.1).trans e4
      have e8 : M1 9 8 = M 122 7 := hv_8 w1.1
      have mx := sp_mx1 (s := sp_home (M 122) n (Int32.ofNat t)) G.1 h7
      have e0 : jfX11_rests (Int32.ofNat p) (Int32.ofNat o) M = jfX11_rests_50 sy_F (Int32.ofNat p) (Int32.ofNat o) (sp_wm (M 122) n) (Int32.ofNat 0) (Int32.ofNat 0) M1 := by
        unfold sp_wm
        rw [e4]
        simp (disch := omega) only [jfX11_rests, ck, sy_bv_rv, e1, e5, c_needsAt n1, sy_bi_ri, zL, c_max, e8]
        rw [if_neg mx]
      rw [e0]
      generalize sp_wm (M 122) n = w
      refine sy_forR (n := 4) (F := sy_F) (R := fun c => c = sy_ri (sp_rs (M 122) p o w 4) M1) (fun k i (_ : Unit) => jfX11_rests_50 k (Int32.ofNat p) (Int32.ofNat o) w (sp_rs (M 122) p o w i) (Int32.ofNat i) M1) (fun _ _ => True) ?_ ?_ () trivial (by rw [sy_F_eq]; omega)
      · intro k i _ hi _
        refine Or.inl ⟨(), ?_, trivial⟩
        show jgX11_rests_50 (jfX11_rests_50 k) (Int32.ofNat p) (Int32.ofNat o) w (sp_rs (M 122) p o w i) (Int32.ofNat i) M1 = _
        obtain ⟨k1, k2⟩ := k4 ⟨i, hi⟩
        rw [sp_rs_s]
        simp only [] at k1 k2
        simp (disch := omega) only [jgX11_rests_50, jfX11_rests_103, zL, zlt, if_pos, k1, k2, c_isContent w1.1, sy_bi_ri, ite_bz0, zadd, zsh1]
        by_cases q1 : sp_ga (M 122) p (i / 2) (i % 2) w < sp_ga (M 122) p (1 - i / 2) (i % 2) w
        · rw [if_pos q1, decide_eq_false (fun z => z q1)]; rfl
        · rw [if_neg q1, decide_eq_true q1, cond_true]
          by_cases q2 : sp_ga (M 122) o (i % 2) (i / 2) w < sp_ga (M 122) o (1 - i % 2) (i / 2) w
          · rw [if_pos q2, decide_eq_false (fun z => z q2)]; rfl
          · rw [if_neg q2, decide_eq_true q2]; rfl
      · intro k _ _
        show jgX11_rests_50 (jfX11_rests_50 k) (Int32.ofNat p) (Int32.ofNat o) w (sp_rs (M 122) p o w 4) (Int32.ofNat 4) M1 = _
        simp (disch := omega) only [zL, zlt, zle, zeq, zadd, zmul, zin, zix, zsh1, Nat.add_zero, Nat.zero_add, Nat.mul_zero, if_true, if_false, if_pos, if_neg, sy_bi_ri, sy_bi_rt, sy_bv_rv, sy_bv_rt, sy_br_rr, sy_br_rn, sy_hi_ri, sy_hi_rt, sy_bs_t, sy_bx_t, sy_bb_t, bz_bo, ite_bz0, ite_bz1, jgX11_rests_50]
    · have e122 : thr N 0 122 = M 122 := (thr_ne _ _ (by decide)).trans (hN 122 (by omega) (by omega))
      have eN : N 122 3 = Int32.ofNat n := by rw [hN 122 (by omega) (by omega)]; exact hn
      have hb := fun (p a b : Nat) (hp : p < 7) (ha : a < 2) (hb : b < 2) => m_hasBy (M := thr N 0) e122 G.1 hn h7 hp ha hb
      have e0 : jfX12_rests (Int32.ofNat p) (Int32.ofNat o) N = jfX12_rests_20 sy_F (Int32.ofNat p) (Int32.ofNat o) (Int32.ofNat 0) (Int32.ofNat 0) (thr N 0) := by
        simp (disch := omega) only [zL, zlt, zle, zeq, zadd, zmul, zin, zix, zsh1, Nat.add_zero, Nat.zero_add, Nat.mul_zero, if_true, if_false, if_pos, if_neg, sy_bi_ri, sy_bi_rt, sy_bv_rv, sy_bv_rt, sy_br_rr, sy_br_rn, sy_hi_ri, sy_hi_rt, sy_bs_t, sy_bx_t, sy_bb_t, bz_bo, ite_bz0, ite_bz1, jfX12_rests, mk N eN, thr_0]
      rw [e0]
      generalize sp_wm (M 122) n = w at hb
      refine sy_forR (n := 4) (F := sy_F) (R := fun c => c = sy_ri (sp_rs (M 122) p o w 4) (thr N 0)) (fun k i (_ : Unit) => jfX12_rests_20 k (Int32.ofNat p) (Int32.ofNat o) (sp_rs (M 122) p o w i) (Int32.ofNat i) (thr N 0)) (fun _ _ => True) ?_ ?_ () trivial (by rw [sy_F_eq]; omega)
      · intro k i _ hi _
        refine Or.inl ⟨(), ?_, trivial⟩
        show jgX12_rests_20 (jfX12_rests_20 k) (Int32.ofNat p) (Int32.ofNat o) (sp_rs (M 122) p o w i) (Int32.ofNat i) (thr N 0) = _
        have d1 : Int32.ofNat i / (Int32.ofNat 2) = Int32.ofNat (i / 2) := zdiv (by omega) (by omega)
        have d2 : Int32.ofNat i - Int32.ofNat (i / 2) * (Int32.ofNat 2) = Int32.ofNat (i % 2) := by rw [← d1]; exact zmod (by omega) (by omega)
        have d3 : (Int32.ofNat 1) - Int32.ofNat (i / 2) = Int32.ofNat (1 - i / 2) := zsub (by omega)
        have d4 : (Int32.ofNat 1) - Int32.ofNat (i % 2) = Int32.ofNat (1 - i % 2) := zsub (by omega)
        rw [sp_rs_s]
        simp (disch := omega) only [jgX12_rests_20, jfX12_rests_84, jfX12_rests_91, zL, zlt, if_pos, d1, d2, d3, d4, hb, sy_bi_ri, zadd, zsh1]
        split
        · rfl
        · split <;> rfl
      · intro k _ _
        show jgX12_rests_20 (jfX12_rests_20 k) (Int32.ofNat p) (Int32.ofNat o) (sp_rs (M 122) p o w 4) (Int32.ofNat 4) (thr N 0) = _
        simp (disch := omega) only [zL, zlt, zle, zeq, zadd, zmul, zin, zix, zsh1, Nat.add_zero, Nat.zero_add, Nat.mul_zero, if_true, if_false, if_pos, if_neg, sy_bi_ri, sy_bi_rt, sy_bv_rv, sy_bv_rt, sy_br_rr, sy_br_rn, sy_hi_ri, sy_hi_rt, sy_bs_t, sy_bx_t, sy_bb_t, bz_bo, ite_bz0, ite_bz1, jgX12_rests_20]
  · have hc0 : c ≠ 0 ∧ c < 4 := by omega
    refine opT_x I (cl := cl) (c := c) (by simp only [jfX11_rests, ck, sy_bv_rt]) (by rcases hcc with ⟨h1, h2⟩ | ⟨h1, h2⟩ <;> subst h1 h2 <;> rfl) hc0.1 hc0.2 (fun N hN => ⟨(Int32.ofNat 0), thr N c, ?_, thr_0 _ _, fr_thr⟩)
    have eN : N 122 3 = Int32.ofNat n := by rw [hN 122 (by omega) (by omega)]; exact hn
    simp (disch := omega) only [zL, zlt, zle, zeq, zadd, zmul, zin, zix, zsh1, Nat.add_zero, Nat.zero_add, Nat.mul_zero, if_true, if_false, if_pos, if_neg, sy_bi_ri, sy_bi_rt, sy_bv_rv, sy_bv_rt, sy_br_rr, sy_br_rn, sy_hi_ri, sy_hi_rt, sy_bs_t, sy_bx_t, sy_bb_t, bz_bo, ite_bz0, ite_bz1, jfX12_rests, mk N eN, thr_0]
/-! miser -/
theorem bit_1 {p q : Nat} (hp : p < 7) (hq : q < 7) : sp_bit ((Int32.ofNat 1) <<< Int32.ofNat q) p = decide (p = q) := by
  have : ∀ (p q : Fin 7), sp_bit ((Int32.ofNat 1) <<< Int32.ofNat q.1) p.1 = decide (p.1 = q.1) := by decide +kernel
  exact this ⟨p, hp⟩ ⟨q, hq⟩
theorem bit_0 {p : Nat} (hp : p < 7) : sp_bit (Int32.ofNat 0) p = false := by
  have : ∀ p : Fin 7, sp_bit (Int32.ofNat 0) p.1 = false := by decide +kernel
  exact this ⟨p, hp⟩
theorem home_bit {f : Nat → Int32} {t : Int32} {p : Nat} (hp : p < 7) : ∀ n, n ≤ 7 → sp_bit (sp_home f n t) p = (decide (p < n) && sp_at f p t)
  | 0, _ => by
    rw [decide_eq_false (by omega)]
    exact bit_0 hp
  | n + 1, h => by
    rw [sp_home_succ, sp_bit_or _ _ (by omega), home_bit hp n (by omega)]
    by_cases h1 : p = n
    · subst h1
      rw [decide_eq_false (by omega), decide_eq_true (by omega)]
      cases sp_at f p t
      · rw [cond_false, bit_0 hp]; rfl
      · rw [cond_true, bit_1 hp hp, decide_eq_true rfl]; rfl
    · have h2 : sp_bit (bif sp_at f n t then (Int32.ofNat 1) <<< Int32.ofNat n else (Int32.ofNat 0)) p = false := by
        cases sp_at f n t
        · exact bit_0 hp
        · rw [cond_true, bit_1 hp (by omega)]; exact decide_eq_false h1
      rw [h2, Bool.or_false]
      congr 1
      exact decide_eq_decide.mpr (by omega)
def mv (x : Nat) : Int32 := if x = 0 then -(Int32.ofNat 1) else Int32.ofNat (x - 1)
theorem mv_ne {x : Nat} (h : x ≠ 0) (h2 : x < 1000) : mv x ≠ -(Int32.ofNat 1) := by
  unfold mv
  rw [if_neg h]
  intro z
  have : ¬ (Int32.ofNat (x - 1) < (Int32.ofNat 0)) := znn _ (by omega)
  rw [z] at this
  exact this (by decide)
def sp_mi (f : Nat → Int32) (t : Int32) : Nat → Nat
  | 0 => 0
  | i + 1 => if sp_at f i t = true ∧ (Int32.ofNat 0) < f (14 + 9 * i + 5) ∧ (sp_mi f t i = 0 ∨ f (14 + 9 * (sp_mi f t i - 1) + 4) < f (14 + 9 * i + 4)) then i + 1 else sp_mi f t i
theorem sp_mi_s (f : Nat → Int32) (t : Int32) (i : Nat) : sp_mi f t (i + 1) = if sp_at f i t = true ∧ (Int32.ofNat 0) < f (14 + 9 * i + 5) ∧ (sp_mi f t i = 0 ∨ f (14 + 9 * (sp_mi f t i - 1) + 4) < f (14 + 9 * i + 4)) then i + 1 else sp_mi f t i := rfl
theorem sp_mi_le (f : Nat → Int32) (t : Int32) : ∀ i, sp_mi f t i ≤ i
  | 0 => Nat.le_refl _
  | i + 1 => by
    have := sp_mi_le f t i
    rw [sp_mi_s]
    split <;> omega
theorem o_miser (I : Inv A tx L0 S e M) : opN A tx L0 S e (jfX11_miser M) (jfX12_miser) := by
  obtain ⟨n, G, H, ht, hA, hl⟩ := id I.1
  have hn := G.2.1
  have h7 := G.2.2.1
  refine opN_q I (v := mv (sp_mi (M 122) (M 122 4) n)) ⟨M, ?_, fq_rfl⟩ (fun N hN => ⟨thr N 0, ?_, fr_thr⟩)
  · unfold jfX11_miser
    refine sy_forR (n := n) (F := sy_F) (R := fun c => c = sy_ri (mv (sp_mi (M 122) (M 122 4) n)) M) (fun k i (_ : Unit) => jfX11_miser_4 k (mv (sp_mi (M 122) (M 122 4) i)) (Int32.ofNat i) M) (fun _ _ => True) ?_ ?_ () trivial (by rw [sy_F_eq]; omega)
    · intro k i _ hi _
      refine Or.inl ⟨(), ?_, trivial⟩
      have l1 := sp_mi_le (M 122) (M 122 4) i
      obtain ⟨c, hc, ec⟩ := rb_coins G.1 (p := i) (by omega)
      show jgX11_miser_4 (jfX11_miser_4 k) (mv (sp_mi (M 122) (M 122 4) i)) (Int32.ofNat i) M = _
      rw [sp_mi_s, ec]
      simp (disch := omega) only [zL, zlt, zle, zeq, zadd, zmul, zin, zix, zsh1, Nat.add_zero, Nat.zero_add, Nat.mul_zero, if_true, if_false, if_pos, if_neg, sy_bi_ri, sy_bi_rt, sy_bv_rv, sy_bv_rt, sy_br_rr, sy_br_rn, sy_hi_ri, sy_hi_rt, sy_bs_t, sy_bx_t, sy_bb_t, bz_bo, ite_bz0, ite_bz1, jgX11_miser_4, jfX11_miser_75, jfX11_miser_77, hv_3 H.1, hv_5 H.1, hn, c_isIn H.1, c_get H.1, ec]
      cases sp_at (M 122) i (M 122 4)
      · simp only [Bool.false_eq_true, false_and, if_false, cond_false]
      · simp only [cond_true, true_and]
        by_cases h0 : c < 1
        · rw [if_pos h0, if_neg (by omega)]
        · rw [if_neg h0]
          by_cases h1 : sp_mi (M 122) (M 122 4) i = 0
          · rw [h1, if_pos (show mv 0 = -(Int32.ofNat 1) from rfl), if_pos ⟨by omega, Or.inl rfl⟩]
            rfl
          · rw [if_neg (mv_ne h1 (by omega))]
            have em : mv (sp_mi (M 122) (M 122 4) i) = Int32.ofNat (sp_mi (M 122) (M 122 4) i - 1) := if_neg h1
            rw [em, c_get H.1 (by omega) (by decide), sy_bi_ri]
            by_cases h2 : M 122 (14 + 9 * (sp_mi (M 122) (M 122 4) i - 1) + 4) < M 122 (14 + 9 * i + 4)
            · rw [if_pos h2, if_pos ⟨by omega, Or.inr h2⟩]
              rfl
            · rw [if_neg h2, if_neg (fun z => z.2.elim h1 h2), em]
    · intro k _ _
      show jgX11_miser_4 (jfX11_miser_4 k) (mv (sp_mi (M 122) (M 122 4) n)) (Int32.ofNat n) M = _
      simp (disch := omega) only [zL, zlt, zle, zeq, zadd, zmul, zin, zix, zsh1, Nat.add_zero, Nat.zero_add, Nat.mul_zero, if_true, if_false, if_pos, if_neg, sy_bi_ri, sy_bi_rt, sy_bv_rv, sy_bv_rt, sy_br_rr, sy_br_rn, sy_hi_ri, sy_hi_rt, sy_bs_t, sy_bx_t, sy_bb_t, bz_bo, ite_bz0, ite_bz1, jgX11_miser_4, hv_3 H.1, hn]
  · have e122 : thr N 0 122 = M 122 := (thr_ne _ _ (by decide)).trans (hN 122 (by omega) (by omega))
    have e3 := m_homeIn (M := thr N 0) (n := n) (t := M 122 4) (by rw [e122]; exact G.2.1) G.2.2.1
    rw [e122] at e3
    have e0 : jfX12_miser N = jfX12_miser_20 sy_F (sp_home (M 122) n (M 122 4)) (-(Int32.ofNat 1)) (Int32.ofNat 0) (thr N 0) := by
      simp (disch := omega) only [zL, zlt, zle, zeq, zadd, zmul, zin, zix, zsh1, Nat.add_zero, Nat.zero_add, Nat.mul_zero, if_true, if_false, if_pos, if_neg, sy_bi_ri, sy_bi_rt, sy_bv_rv, sy_bv_rt, sy_br_rr, sy_br_rn, sy_hi_ri, sy_hi_rt, sy_bs_t, sy_bx_t, sy_bb_t, bz_bo, ite_bz0, ite_bz1, jfX12_miser, thr_up, e122, e3]
    rw [e0]
    refine sy_forR (n := n) (F := sy_F) (R := fun c => c = sy_ri (mv (sp_mi (M 122) (M 122 4) n)) (thr N 0)) (fun k i (_ : Unit) => jfX12_miser_20 k (sp_home (M 122) n (M 122 4)) (mv (sp_mi (M 122) (M 122 4) i)) (Int32.ofNat i) (thr N 0)) (fun _ _ => True) ?_ ?_ () trivial (by rw [sy_F_eq]; omega)
    · intro k i _ hi _
      refine Or.inl ⟨(), ?_, trivial⟩
      have l1 := sp_mi_le (M 122) (M 122 4) i
      obtain ⟨c, hc, ec⟩ := rb_coins G.1 (p := i) (by omega)
      have hbit : sp_bit (sp_home (M 122) n (M 122 4)) i = sp_at (M 122) i (M 122 4) := by rw [home_bit (by omega) n h7, decide_eq_true hi]; rfl
      show jgX12_miser_20 (jfX12_miser_20 k) (sp_home (M 122) n (M 122 4)) (mv (sp_mi (M 122) (M 122 4) i)) (Int32.ofNat i) (thr N 0) = _
      rw [sp_mi_s, ec]
      simp (disch := omega) only [zL, zlt, zle, zeq, zadd, zmul, zin, zix, zsh1, Nat.add_zero, Nat.zero_add, Nat.mul_zero, if_true, if_false, if_pos, if_neg, sy_bi_ri, sy_bi_rt, sy_bv_rv, sy_bv_rt, sy_br_rr, sy_br_rn, sy_hi_ri, sy_hi_rt, sy_bs_t, sy_bx_t, sy_bb_t, bz_bo, ite_bz0, ite_bz1, jgX12_miser_20, jfX12_miser_67, jfX12_miser_69, e122, hn, m_isOf, hbit, m_of, ec]
      cases sp_at (M 122) i (M 122 4)
      · simp only [Bool.false_eq_true, false_and, if_false, cond_false]
      · simp only [cond_true, true_and]
        by_cases h0 : 0 < c
        · rw [if_pos h0]
          by_cases h1 : sp_mi (M 122) (M 122 4) i = 0
          · rw [h1, if_pos (show mv 0 = -(Int32.ofNat 1) from rfl), if_pos ⟨by omega, Or.inl rfl⟩]
            rfl
          · rw [if_neg (mv_ne h1 (by omega))]
            have em : mv (sp_mi (M 122) (M 122 4) i) = Int32.ofNat (sp_mi (M 122) (M 122 4) i - 1) := if_neg h1
            rw [em, m_of (by omega) (by decide), sy_bi_ri, e122]
            by_cases h2 : M 122 (14 + 9 * (sp_mi (M 122) (M 122 4) i - 1) + 4) < M 122 (14 + 9 * i + 4)
            · rw [if_pos h2, if_pos ⟨by omega, Or.inr h2⟩]
              rfl
            · rw [if_neg h2, if_neg (fun z => z.2.elim h1 h2), em]
        · rw [if_neg h0, if_neg (by omega)]
    · intro k _ _
      show jgX12_miser_20 (jfX12_miser_20 k) (sp_home (M 122) n (M 122 4)) (mv (sp_mi (M 122) (M 122 4) n)) (Int32.ofNat n) (thr N 0) = _
      simp (disch := omega) only [zL, zlt, zle, zeq, zadd, zmul, zin, zix, zsh1, Nat.add_zero, Nat.zero_add, Nat.mul_zero, if_true, if_false, if_pos, if_neg, sy_bi_ri, sy_bi_rt, sy_bv_rv, sy_bv_rt, sy_br_rr, sy_br_rn, sy_hi_ri, sy_hi_rt, sy_bs_t, sy_bx_t, sy_bb_t, bz_bo, ite_bz0, ite_bz1, jgX12_miser_20, e122, hn]
/-! alike -/
def sp_lk (f : Nat → Int32) (a b : Nat) : Bool := decide (f (14 + 9 * a) = f (14 + 9 * b)) && (decide (f (14 + 9 * a + 3) = f (14 + 9 * b + 3)) && decide (f (14 + 9 * a + 4) = f (14 + 9 * b + 4)))
theorem c_isLike {h a b : Nat} {f : Nat → Int32} (H : hv M h f) (ha : a < 7) (hb : b < 7) : jfX2_isLike h (Int32.ofNat a) (Int32.ofNat b) M = sy_ri (bz (sp_lk f a b)) M := by
  unfold sp_lk
  simp (disch := omega) only [zL, zlt, zle, zeq, zadd, zmul, zin, zix, zsh1, Nat.add_zero, Nat.zero_add, Nat.mul_zero, if_true, if_false, if_pos, if_neg, sy_bi_ri, sy_bi_rt, sy_bv_rv, sy_bv_rt, sy_br_rr, sy_br_rn, sy_hi_ri, sy_hi_rt, sy_bs_t, sy_bx_t, sy_bb_t, bz_bo, ite_bz0, ite_bz1, jfX2_isLike, H.1, c_get H]
  by_cases h1 : f (14 + 9 * a) = f (14 + 9 * b)
  · rw [if_pos h1, decide_eq_true h1]
    by_cases h2 : f (14 + 9 * a + 3) = f (14 + 9 * b + 3)
    · rw [if_pos h2, decide_eq_true h2]
      by_cases h3 : f (14 + 9 * a + 4) = f (14 + 9 * b + 4)
      · rw [if_pos h3, decide_eq_true h3]; rfl
      · rw [if_neg h3, decide_eq_false h3]; rfl
    · rw [if_neg h2, decide_eq_false h2]; rfl
  · rw [if_neg h1, decide_eq_false h1]; rfl
def sp_ak (f : Nat → Int32) (a n : Nat) (x : Int32) : Int32 := sy_fo (fun i x => x + bz (sp_lk f a (a + 1 + i))) (n - (a + 1)) 0 x
def sp_al (f : Nat → Int32) (n : Nat) : Int32 := sy_fo (fun a x => sp_ak f a n x) n 0 (Int32.ofNat 0)
theorem zadd0 (a : Int32) : a + (Int32.ofNat 0) = a := Int32.add_zero a
theorem c_alike_in {n a : Nat} {f : Nat → Int32} {x : Int32} (H : hv M 9 f) (hn : f 3 = Int32.ofNat n) (h7 : n ≤ 7) (ha : a < n) (k4 : Int32 → Int32 → sy_M → sy_O) : jfX11_alike_19 k4 sy_F x (Int32.ofNat a) (Int32.ofNat (a + 1)) M = k4 (sp_ak f a n x) (Int32.ofNat (a + 1)) M := by
  unfold sp_ak
  obtain ⟨q, hq⟩ := sy_for1 (n := n - (a + 1)) (F := sy_F) (fun q i (x : Int32) => jfX11_alike_19 k4 q x (Int32.ofNat a) (Int32.ofNat (a + 1 + i)) M) (fun i x => x + bz (sp_lk f a (a + 1 + i))) (by
    intro q i x hi
    show jgX11_alike_19 k4 (jfX11_alike_19 k4 q) x (Int32.ofNat a) (Int32.ofNat (a + 1 + i)) M = _
    simp (disch := omega) only [zL, zlt, zle, zeq, zadd, zmul, zin, zix, zsh1, Nat.add_zero, Nat.zero_add, Nat.mul_zero, if_true, if_false, if_pos, if_neg, sy_bi_ri, sy_bi_rt, sy_bv_rv, sy_bv_rt, sy_br_rr, sy_br_rn, sy_hi_ri, sy_hi_rt, sy_bs_t, sy_bx_t, sy_bb_t, bz_bo, ite_bz0, ite_bz1, jgX11_alike_19, jfX11_alike_45, hv_3 H, hn, c_isLike H]
    cases sp_lk f a (a + 1 + i)
    · rw [cond_false, show bz false = (Int32.ofNat 0) from rfl, zadd0]; rfl
    · rfl) x (by rw [sy_F_eq]; omega)
  rw [Nat.add_zero] at hq
  refine hq.trans ?_
  rw [show a + 1 + (n - (a + 1)) = n by omega]
  show jgX11_alike_19 k4 (jfX11_alike_19 k4 q) _ (Int32.ofNat a) (Int32.ofNat n) M = _
  simp (disch := omega) only [zL, zlt, zle, zeq, zadd, zmul, zin, zix, zsh1, Nat.add_zero, Nat.zero_add, Nat.mul_zero, if_true, if_false, if_pos, if_neg, sy_bi_ri, sy_bi_rt, sy_bv_rv, sy_bv_rt, sy_br_rr, sy_br_rn, sy_hi_ri, sy_hi_rt, sy_bs_t, sy_bx_t, sy_bb_t, bz_bo, ite_bz0, ite_bz1, jgX11_alike_19, hv_3 H, hn]
theorem m_alike_in {n a : Nat} {f : Nat → Int32} {x : Int32} (hf : M 122 = f) (hn : f 3 = Int32.ofNat n) (h7 : n ≤ 7) (ha : a < n) (k9 : Int32 → Int32 → sy_M → sy_O) : jfX12_alike_23 k9 sy_F x (Int32.ofNat a) (Int32.ofNat (a + 1)) M = k9 (sp_ak f a n x) (Int32.ofNat (a + 1)) M := by
  unfold sp_ak
  obtain ⟨q, hq⟩ := sy_for1 (n := n - (a + 1)) (F := sy_F) (fun q i (x : Int32) => jfX12_alike_23 k9 q x (Int32.ofNat a) (Int32.ofNat (a + 1 + i)) M) (fun i x => x + bz (sp_lk f a (a + 1 + i))) (by
    intro q i x hi
    show jgX12_alike_23 k9 (jfX12_alike_23 k9 q) x (Int32.ofNat a) (Int32.ofNat (a + 1 + i)) M = _
    unfold sp_lk
    simp (disch := omega) only [zL, zlt, zle, zeq, zadd, zmul, zin, zix, zsh1, Nat.add_zero, Nat.zero_add, Nat.mul_zero, if_true, if_false, if_pos, if_neg, sy_bi_ri, sy_bi_rt, sy_bv_rv, sy_bv_rt, sy_br_rr, sy_br_rn, sy_hi_ri, sy_hi_rt, sy_bs_t, sy_bx_t, sy_bb_t, bz_bo, ite_bz0, ite_bz1, jgX12_alike_23, jfX12_alike_83, jfX12_alike_84, hf, hn, m_of]
    by_cases h1 : f (14 + 9 * a) = f (14 + 9 * (a + 1 + i))
    · rw [if_pos h1, decide_eq_true h1]
      by_cases h2 : f (14 + 9 * a + 3) = f (14 + 9 * (a + 1 + i) + 3)
      · rw [if_pos h2, decide_eq_true h2]
        by_cases h3 : f (14 + 9 * a + 4) = f (14 + 9 * (a + 1 + i) + 4)
        · rw [if_pos h3, decide_eq_true h3]; rfl
        · rw [if_neg h3, decide_eq_false h3]; rfl
      · rw [if_neg h2, decide_eq_false h2]; rfl
    · rw [if_neg h1, decide_eq_false h1]; rfl) x (by rw [sy_F_eq]; omega)
  rw [Nat.add_zero] at hq
  refine hq.trans ?_
  rw [show a + 1 + (n - (a + 1)) = n by omega]
  show jgX12_alike_23 k9 (jfX12_alike_23 k9 q) _ (Int32.ofNat a) (Int32.ofNat n) M = _
  simp (disch := omega) only [zL, zlt, zle, zeq, zadd, zmul, zin, zix, zsh1, Nat.add_zero, Nat.zero_add, Nat.mul_zero, if_true, if_false, if_pos, if_neg, sy_bi_ri, sy_bi_rt, sy_bv_rv, sy_bv_rt, sy_br_rr, sy_br_rn, sy_hi_ri, sy_hi_rt, sy_bs_t, sy_bx_t, sy_bb_t, bz_bo, ite_bz0, ite_bz1, jgX12_alike_23, hf, hn]
theorem o_alike (I : Inv A tx L0 S e M) : opN A tx L0 S e (jfX11_alike M) (jfX12_alike) := by
  obtain ⟨n, G, H, ht, hA, hl⟩ := id I.1
  have hn := G.2.1
  have h7 := G.2.2.1
  refine opN_q I (v := sp_al (M 122) n) ⟨M, ?_, fq_rfl⟩ (fun N hN => ⟨thr N 0, ?_, fr_thr⟩)
  · unfold jfX11_alike sp_al
    obtain ⟨k, hk⟩ := sy_for1 (n := n) (F := sy_F) (fun k i (x : Int32) => jfX11_alike_4 k x (Int32.ofNat i) M) (fun a x => sp_ak (M 122) a n x) (by
      intro k i x hi
      show jgX11_alike_4 (jfX11_alike_4 k) x (Int32.ofNat i) M = _
      simp (disch := omega) only [zL, zlt, zle, zeq, zadd, zmul, zin, zix, zsh1, Nat.add_zero, Nat.zero_add, Nat.mul_zero, if_true, if_false, if_pos, if_neg, sy_bi_ri, sy_bi_rt, sy_bv_rv, sy_bv_rt, sy_br_rr, sy_br_rn, sy_hi_ri, sy_hi_rt, sy_bs_t, sy_bx_t, sy_bb_t, bz_bo, ite_bz0, ite_bz1, jgX11_alike_4, hv_3 H.1, hn, c_alike_in H.1 hn h7]) (Int32.ofNat 0) (by rw [sy_F_eq]; omega)
    refine hk.trans ?_
    show jgX11_alike_4 (jfX11_alike_4 k) _ (Int32.ofNat n) M = _
    simp (disch := omega) only [zL, zlt, zle, zeq, zadd, zmul, zin, zix, zsh1, Nat.add_zero, Nat.zero_add, Nat.mul_zero, if_true, if_false, if_pos, if_neg, sy_bi_ri, sy_bi_rt, sy_bv_rv, sy_bv_rt, sy_br_rr, sy_br_rn, sy_hi_ri, sy_hi_rt, sy_bs_t, sy_bx_t, sy_bb_t, bz_bo, ite_bz0, ite_bz1, jgX11_alike_4, hv_3 H.1, hn]
  · have e122 : thr N 0 122 = M 122 := (thr_ne _ _ (by decide)).trans (hN 122 (by omega) (by omega))
    show (jfX12_alike_9 sy_F 0 0 (sy_upd N 121 0 (Int32.ofNat 0))) = _
    rw [thr_up]
    unfold sp_al
    obtain ⟨k, hk⟩ := sy_for1 (n := n) (F := sy_F) (fun k i (x : Int32) => jfX12_alike_9 k x (Int32.ofNat i) (thr N 0)) (fun a x => sp_ak (M 122) a n x) (by
      intro k i x hi
      show jgX12_alike_9 (jfX12_alike_9 k) x (Int32.ofNat i) (thr N 0) = _
      simp (disch := omega) only [zL, zlt, zle, zeq, zadd, zmul, zin, zix, zsh1, Nat.add_zero, Nat.zero_add, Nat.mul_zero, if_true, if_false, if_pos, if_neg, sy_bi_ri, sy_bi_rt, sy_bv_rv, sy_bv_rt, sy_br_rr, sy_br_rn, sy_hi_ri, sy_hi_rt, sy_bs_t, sy_bx_t, sy_bb_t, bz_bo, ite_bz0, ite_bz1, jgX12_alike_9, e122, hn, m_alike_in e122 hn h7]) (Int32.ofNat 0) (by rw [sy_F_eq]; omega)
    refine hk.trans ?_
    show jgX12_alike_9 (jfX12_alike_9 k) _ (Int32.ofNat n) (thr N 0) = _
    simp (disch := omega) only [zL, zlt, zle, zeq, zadd, zmul, zin, zix, zsh1, Nat.add_zero, Nat.zero_add, Nat.mul_zero, if_true, if_false, if_pos, if_neg, sy_bi_ri, sy_bi_rt, sy_bv_rv, sy_bv_rt, sy_br_rr, sy_br_rn, sy_hi_ri, sy_hi_rt, sy_bs_t, sy_bx_t, sy_bb_t, bz_bo, ite_bz0, ite_bz1, jgX12_alike_9, e122, hn]
end
