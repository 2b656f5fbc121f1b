/-! ===== numbers in the reference; both read on ===== -/
section
variable {M N : sy_M} {t : Nat → Nat} {L : Nat}
theorem nxt_nxt {p : Nat} (h : p ≤ L) : nxt t L (nxt t L p) = nxt t L p := by
  have g := nxt_ge (t := t) h
  by_cases e : nxt t L p = L
  · exact nxt_self (Or.inl e)
  · exact nxt_self (Or.inr (nxt_nsp h (by omega)))
theorem rt_le {p : Nat} (h : rt N t L p) : L ≤ 400 := h.2.2.2.1
/-- the reference's own places alone were written -/
def fg (N N1 : sy_M) : Prop := (∀ a, a ≠ 121 → N1 a = N a) ∧ (∀ j, j ≠ 11 → j ≠ 12 → N1 121 j = N 121 j)
theorem fg.trans {N N1 N2 : sy_M} (a : fg N N1) (b : fg N1 N2) : fg N N2 := ⟨fun c h => (b.1 c h).trans (a.1 c h), fun j h1 h2 => (b.2 j h1 h2).trans (a.2 j h1 h2)⟩
theorem fg_rfl {N : sy_M} : fg N N := ⟨fun _ _ => rfl, fun _ _ _ => rfl⟩
theorem fg_m11 {N : sy_M} {p : Nat} : fg N (m11 N p) := ⟨fun a h => syc_ne _ _ h, fun j h1 _ => by unfold m11; rw [syc_at, rs_ne _ _ h1]⟩
theorem m11_12 {N : sy_M} {p : Nat} : m11 N p 121 12 = N 121 12 := by unfold m11; rw [syc_at, rs_ne _ _ (by decide)]
def m12 (N : sy_M) (w : Nat) : sy_M := syc N 121 (rs (N 121) 12 (Int32.ofNat w))
theorem fg_m12 {N : sy_M} {p : Nat} : fg N (m12 N p) := ⟨fun a h => syc_ne _ _ h, fun j _ h1 => by unfold m12; rw [syc_at, rs_ne _ _ h1]⟩
theorem m12_12 {N : sy_M} {p : Nat} : m12 N p 121 12 = Int32.ofNat p := by unfold m12; rw [syc_at, rs_at]
theorem rt_12 {p w : Nat} (h : rt N t L p) : rt (m12 N w) t L p := by
  obtain ⟨a, b, c, d, e⟩ := h
  unfold m12
  refine ⟨by rw [syc_at, rs_ne _ _ (by decide)]; exact a, by rw [syc_at, rs_ne _ _ (by decide)]; exact b, c, d, ?_⟩
  rcases e with ⟨e1, e2⟩ | ⟨e1, e2⟩
  · exact Or.inl ⟨by rw [syc_at, rs_ne _ _ (by decide)]; exact e1, fun i hi => by rw [syc_ne _ _ (by decide)]; exact e2 i hi⟩
  · exact Or.inr ⟨by rw [syc_at, rs_ne _ _ (by decide)]; exact e1, fun i hi => by rw [syc_ne _ _ (by decide)]; exact e2 i hi⟩
theorem m_wrong {w : Nat} (h : N 121 12 = -(Int32.ofNat 1)) : jfX12_wrong (Int32.ofNat w) N = sy_rv (m12 N w) := by
  unfold jfX12_wrong
  rw [h, if_pos (show (-(Int32.ofNat 1) : Int32) = -1 from rfl), sy_upd_st]
  rfl
theorem m_wrong_x {w : Int32} (h : N 121 12 ≠ -(Int32.ofNat 1)) : jfX12_wrong w N = sy_rv N := by
  unfold jfX12_wrong
  rw [if_neg (show ¬ N 121 12 = -1 from h)]
theorem m_here {p : Nat} (h : rt N t L p) (ht : ∀ i, t i ≤ 255) : jfX12_here N = sy_ri (Int32.ofNat (nxt t L p)) (m11 N (nxt t L p)) := by
  unfold jfX12_here
  rw [m_skip h ht, sy_bv_rv]
  unfold m11
  rw [syc_at, rs_at]
theorem m_figures_x {a b : Int32} (h : N 121 12 ≠ -(Int32.ofNat 1)) : jfX12_figures a b N = sy_ri (Int32.ofNat 0) N := by
  unfold jfX12_figures
  rw [if_neg (show ¬ N 121 12 = -1 from h)]
  rfl
theorem m_figures {p lo : Nat} {hi : Int32} (h : rt N t L p) (ht : ∀ i, t i ≤ 255) (hpL : p ≤ L) (hf : N 121 12 = -(Int32.ofNat 1)) (hlo : lo < 2147483648) : ((thg t L (nxt t L p) = 257 ∧ lo ≤ nuv t L (nxt t L p) ∧ ¬ hi < Int32.ofNat (nuv t L (nxt t L p))) ∧ jfX12_figures (Int32.ofNat lo) hi N = sy_ri (Int32.ofNat (nuv t L (nxt t L p))) (m11 N (ten t L (nxt t L p)))) ∨ (¬ (thg t L (nxt t L p) = 257 ∧ lo ≤ nuv t L (nxt t L p) ∧ ¬ hi < Int32.ofNat (nuv t L (nxt t L p))) ∧ ∃ v p1, p1 ≤ L ∧ jfX12_figures (Int32.ofNat lo) hi N = sy_ri v (m12 (m11 N p1) (nxt t L p))) := by
  have d := rt_le h
  have ng := nxt_ge (t := t) hpL
  have e0 : jfX12_figures (Int32.ofNat lo) hi N = jfX12_figures_18 sy_F (Int32.ofNat lo) hi (Int32.ofNat (nxt t L p)) (Int32.ofNat 0) (m11 N (nxt t L p)) := by
    unfold jfX12_figures
    rw [hf, if_pos (show (-(Int32.ofNat 1) : Int32) = -1 from rfl), m_here h ht, sy_bi_ri]
    rfl
  rw [e0]
  generalize hq : nxt t L p = q at ng
  -- the run of digits
  have lg := rn_ge (fun i => isd (t i)) (L - q) q
  have rin := fun i => rn_in (fun i => isd (t i)) (L - q) q i
  have rend := rn_end (fun i => isd (t i)) (L - q) q
  have hten : q < L → isd (t q) = true → ten t L q = rn (fun i => isd (t i)) (L - q) q := ten_d
  have hthg := thg_num (q := q) ht ng.2
  have hrn0 : ¬ (q < L ∧ isd (t q) = true) → rn (fun i => isd (t i)) (L - q) q = q := by
    intro hc
    cases hm : L - q with
    | zero => rfl
    | succ m =>
      rw [rn_s]
      cases hb : isd (t q) with
      | true => exact absurd ⟨by omega, hb⟩ hc
      | false => rfl
  generalize rn (fun i => isd (t i)) (L - q) q = e at *
  have R : ∀ i, q + i ≤ L → rt (m11 N (q + i)) t L (q + i) := fun i hi => rt_11 h (by omega)
  have hm4 : ∀ i, q + i < e → isd (t (q + i)) = true := fun i hi => rin (q + i) (by omega) hi
  obtain ⟨k, hk⟩ := sy_for1 (n := min 4 (e - q)) (F := sy_F) (fun k i (a : Int32) => jfX12_figures_18 k (Int32.ofNat lo) hi (Int32.ofNat q) a (m11 N (q + i))) (fun i a => (Int32.ofNat 10) * a + Int32.ofNat (t (q + i)) - (Int32.ofNat 48)) (by
    intro k i a hil
    have r := R i (by omega)
    have dd := hm4 i (by omega)
    have tp := ht (q + i)
    have si : sp_in (Int32.ofNat (t (q + i))) (Int32.ofNat 48) (Int32.ofNat 57) = isd (t (q + i)) := by
      rw [sp_in_z (by omega) (by omega) (by omega), Bool.eq_iff_iff, decide_eq_true_iff, isd_iff]
    have es : Int32.ofNat (q + i) - Int32.ofNat q = Int32.ofNat i := by rw [zsub (by omega)]; congr 1; omega
    show jgX12_figures_18 (jfX12_figures_18 k) (Int32.ofNat lo) hi (Int32.ofNat q) a (m11 N (q + i)) = _
    simp (disch := omega) only [jgX12_figures_18, jfX12_figures_86, r.1, r.2.1, zL, zlt, if_pos, m_letter r, sy_bi_ri, m_isIn, si, dd, es, if_neg, sy_upd_st, zadd]
    rw [if_neg (show ¬ bz true = (Int32.ofNat 0) by decide)]
    exact congrArg _ (m11_m11 N (q + i) (q + i + 1))) (Int32.ofNat 0) (by rw [sy_F_eq]; omega)
  rw [Nat.add_zero] at hk
  rw [hk]
  rw [nvl_z _ (by omega) (fun i hi => hm4 i (by omega))]
  generalize hm : min 4 (e - q) = m at *
  have r := R m (by omega)
  have es : Int32.ofNat (q + m) - Int32.ofNat q = Int32.ofNat m := by rw [zsub (by omega)]; congr 1; omega
  have e1 : jfX12_figures_18 (k + 1) (Int32.ofNat lo) hi (Int32.ofNat q) (Int32.ofNat (nvl t q m)) (m11 N (q + m)) = jfX12_figures_89 (Int32.ofNat lo) hi (Int32.ofNat q) (Int32.ofNat (nvl t q m)) (m11 N (q + m)) := by
    show jgX12_figures_18 (jfX12_figures_18 k) (Int32.ofNat lo) hi (Int32.ofNat q) (Int32.ofNat (nvl t q m)) (m11 N (q + m)) = _
    by_cases hL2 : q + m < L
    · have tp := ht (q + m)
      have si : sp_in (Int32.ofNat (t (q + m))) (Int32.ofNat 48) (Int32.ofNat 57) = isd (t (q + m)) := by
        rw [sp_in_z (by omega) (by omega) (by omega), Bool.eq_iff_iff, decide_eq_true_iff, isd_iff]
      by_cases h4 : m = 4
      · simp (disch := omega) only [jgX12_figures_18, r.1, r.2.1, zL, zlt, if_pos, m_letter r, sy_bi_ri, m_isIn, si, es, ite_self]
      · have : isd (t (q + m)) = false := by
          have : q + m = e := by omega
          rw [this]
          exact rend (by omega)
        simp (disch := omega) only [jgX12_figures_18, r.1, r.2.1, zL, zlt, if_pos, m_letter r, sy_bi_ri, m_isIn, si, this]
        rw [if_pos (show bz false = (Int32.ofNat 0) from rfl)]
    · simp (disch := omega) only [jgX12_figures_18, r.1, r.2.1, zlt, if_neg]
  rw [e1]
  have hf1 : m11 N (q + m) 121 12 = -(Int32.ofNat 1) := m11_12.trans hf
  have bad : jfX12_figures_119 (Int32.ofNat q) (Int32.ofNat (nvl t q m)) (m11 N (q + m)) = sy_ri (Int32.ofNat (nvl t q m)) (m12 (m11 N (q + m)) q) := by
    unfold jfX12_figures_119
    rw [m_wrong hf1, sy_bv_rv]
  by_cases hn : thg t L q = 257
  · obtain ⟨n1, n2, n3⟩ := hthg.mp hn
    have te := hten n1 n2
    have tg := ten_gt (t := t) n1
    have hmv : m = ten t L q - q := by omega
    have hnv : nvl t q m = nuv t L q := by unfold nuv; rw [hmv]
    have nv := nuv_le n1 n2 n3
    have qm : q + m = ten t L q := by omega
    rw [hnv] at bad ⊢
    unfold jfX12_figures_89
    rw [r.2.1, if_neg (fun z => by rw [zeq (by omega) (by omega)] at z; omega), es, if_neg (fun z => by have := (zlt (a := 3) (by omega) (by omega)).mp z; omega)]
    by_cases hl : lo ≤ nuv t L q
    · rw [if_neg (fun z => by rw [zlt (by omega) hlo] at z; omega)]
      by_cases hh : hi < Int32.ofNat (nuv t L q)
      · rw [if_pos hh]
        exact Or.inr ⟨fun z => z.2.2 hh, _, q + m, by omega, bad⟩
      · rw [if_neg hh, qm]
        exact Or.inl ⟨⟨hn, hl, hh⟩, rfl⟩
    · rw [if_pos ((zlt (by omega) hlo).mpr (by omega))]
      exact Or.inr ⟨fun z => hl z.2.1, _, q + m, by omega, bad⟩
  · refine Or.inr ⟨fun z => hn z.1, Int32.ofNat (nvl t q m), q + m, by omega, ?_⟩
    have : m = 0 ∨ 3 < m := by
      by_cases hc : q < L ∧ isd (t q) = true
      · have te := hten hc.1 hc.2
        have : ¬ ten t L q - q ≤ 3 := fun z => hn (hthg.mpr ⟨hc.1, hc.2, z⟩)
        omega
      · have := hrn0 hc
        omega
    unfold jfX12_figures_89
    rcases this with h0 | h3
    · rw [r.2.1, if_pos (by rw [h0]; rfl), bad]
    · rw [r.2.1, if_neg (fun z => by rw [zeq (by omega) (by omega)] at z; omega), es, if_pos (by exact (zlt (a := 3) (by omega) (by omega)).mpr h3), bad]
/-! both -/
/-- both stand at this thing, and nothing was wrong -/
def LK (M N : sy_M) (t : Nat → Nat) (L q : Nat) : Prop := ct M t L q ∧ M 1 7 = -(Int32.ofNat 1) ∧ N 121 12 = -(Int32.ofNat 1) ∧ ∃ p, rt N t L p ∧ p ≤ L ∧ nxt t L p = q
/-- both say that this is wrong -/
def LF (M N : sy_M) (t : Nat → Nat) (L : Nat) : Prop := ∃ w p : Nat, w ≤ L ∧ M 1 7 = Int32.ofNat w ∧ N 121 12 = Int32.ofNat w ∧ rt N t L p ∧ p ≤ L
theorem LF_x (h : LF M N t L) : N 121 12 ≠ -(Int32.ofNat 1) ∧ M 1 7 ≠ -(Int32.ofNat 1) := by
  obtain ⟨w, p, h1, h2, h3, h4, h5⟩ := h
  have := rt_le h4
  have k : Int32.ofNat w ≠ -(Int32.ofNat 1) := fun z => znn w (by omega) (by rw [z]; decide)
  rw [h2, h3]
  exact ⟨k, k⟩
theorem fk_7 {M M1 : sy_M} (h : fk M M1) : ∀ a, a ≠ 1 → M1 a = M a := h.1
theorem k_num {q lo : Nat} {hi : Int32} (ht : ∀ i, t i ≤ 255) (K : LK M N t L q) (hlo : lo < 2147483648) : (∃ v M1 N1 q1, v ≤ 999 ∧ lo ≤ v ∧ ¬ hi < Int32.ofNat v ∧ jfX10_takesNumber (Int32.ofNat lo) hi M = sy_ri (Int32.ofNat v) M1 ∧ jfX12_figures (Int32.ofNat lo) hi N = sy_ri (Int32.ofNat v) N1 ∧ LK M1 N1 t L q1 ∧ fk M M1 ∧ fg N N1) ∨ (∃ x M1 N1, jfX10_takesNumber (Int32.ofNat lo) hi M = sy_ri (-(Int32.ofNat 1)) M1 ∧ jfX12_figures (Int32.ofNat lo) hi N = sy_ri x N1 ∧ LF M1 N1 t L ∧ fk M M1 ∧ fg N N1) := by
  obtain ⟨k1, k2, k3, p, k4, k5, k6⟩ := K
  have d := rt_le k4
  have a := c_takesNumber (lo := lo) (hi := hi) ht k1 hlo
  have b := m_figures (lo := lo) (hi := hi) k4 ht k5 k3 hlo
  rw [k6] at b
  have hqL := ct_le k1
  rcases a with ⟨a1, M1, a2, a3, a4, a5⟩ | ⟨a1, M1, a2, a4, a5⟩
  · rcases b with ⟨b1, b2⟩ | ⟨b1, _⟩
    · obtain ⟨n1, n2, n3⟩ := (thg_num ht hqL).mp a1.1
      have tg := ten_gt (t := t) n1
      exact Or.inl ⟨nuv t L q, M1, _, _, nuv_le n1 n2 n3, a1.2.1, a1.2.2, a2, b2, ⟨a3, a5.trans k2, m11_12.trans k3, ten t L q, rt_11 k4 (by omega), tg.2, rfl⟩, a4, fg_m11⟩
    · exact absurd a1 b1
  · rcases b with ⟨b1, _⟩ | ⟨b1, v, p1, b2, b3⟩
    · exact absurd b1 a1
    · exact Or.inr ⟨v, M1, _, a2, b3, ⟨q, p1, hqL, a5, m12_12, rt_12 (rt_11 k4 (by omega)), b2⟩, a4, fg_m11.trans fg_m12⟩
theorem k_has {q i r : Nat} (ht : ∀ i, t i ≤ 255) (K : LK M N t L q) (hi : i < 25) (hr : srw r (wds.getD i [])) : (∃ M1 N1 q1, thg t L q = 260 + i ∧ jfX10_takes (Int32.ofNat (260 + i)) M = sy_ri (Int32.ofNat 1) M1 ∧ jfX12_has r N = sy_ri (Int32.ofNat 1) N1 ∧ LK M1 N1 t L q1 ∧ fk M M1 ∧ fg N N1) ∨ (∃ N1, thg t L q ≠ 260 + i ∧ jfX10_takes (Int32.ofNat (260 + i)) M = sy_ri (Int32.ofNat 0) M ∧ jfX12_has r N = sy_ri (Int32.ofNat 0) N1 ∧ LK M N1 t L q ∧ fg N N1 ∧ N1 121 11 = Int32.ofNat q) := by
  obtain ⟨k1, k2, k3, p, k4, k5, k6⟩ := K
  have d := rt_le k4
  have hqL := ct_le k1
  have a := c_takes (c := 260 + i) ht k1 (by omega) (by omega)
  have b := m_has0 k4 ht hr k5
  rw [k6] at b
  have w := thg_word ht hqL hi
  rw [w.1] at b
  rcases a with ⟨a1, M1, a2, a3, a4, a5, a6⟩ | ⟨a1, a2⟩
  · rw [decide_eq_true a1, cond_true, (w.2 a1).1] at b
    have tg := ten_gt (t := t) a6
    exact Or.inl ⟨M1, _, _, a1, a2, b, ⟨a3, a5.trans k2, m11_12.trans k3, ten t L q, rt_11 k4 (by omega), tg.2, rfl⟩, a4, fg_m11⟩
  · rw [decide_eq_false a1, cond_false] at b
    refine Or.inr ⟨_, a1, a2, b, ⟨k1, k2, m11_12.trans k3, q, rt_11 k4 (by omega), hqL, ?_⟩, fg_m11, by unfold m11; rw [syc_at, rs_at]⟩
    rw [← k6]
    exact nxt_nxt k5
end
