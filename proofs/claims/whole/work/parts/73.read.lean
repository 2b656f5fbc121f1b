/-! ===== numbers; the reference reads ===== -/
section
variable {M : sy_M} {t : Nat → Nat} {L : Nat}
def nvl (t : Nat → Nat) (q m : Nat) : Nat := sy_fo (fun i a => 10 * a + (t (q + i) - 48)) m 0 0
theorem nvl_s (t : Nat → Nat) (q m : Nat) : nvl t q (m + 1) = 10 * nvl t q m + (t (q + m) - 48) := by
  unfold nvl
  rw [sy_fo_last, Nat.zero_add]
theorem isd_iff {c : Nat} : isd c = true ↔ 48 ≤ c ∧ c ≤ 57 := by
  unfold isd
  rw [Bool.and_eq_true, Nat.ble_eq, Nat.ble_eq]
theorem isa_iff {c : Nat} : isa c = true ↔ 97 ≤ c ∧ c ≤ 122 := by
  unfold isa
  rw [Bool.and_eq_true, Nat.ble_eq, Nat.ble_eq]
theorem nvl_le {q : Nat} : ∀ m, (∀ i, i < m → isd (t (q + i)) = true) → nvl t q m < 10 ^ m
  | 0, _ => by show 0 < 1; omega
  | m + 1, h => by
    have h1 := nvl_le m (fun i hi => h i (by omega))
    have h2 := isd_iff.mp (h m (by omega))
    rw [nvl_s, Nat.pow_succ]
    omega
theorem nvl_z {q : Nat} : ∀ m, m ≤ 4 → (∀ i, i < m → isd (t (q + i)) = true) → sy_fo (fun i a => (Int32.ofNat 10) * a + Int32.ofNat (t (q + i)) - (Int32.ofNat 48)) m 0 (Int32.ofNat 0) = Int32.ofNat (nvl t q m) := by
  intro m
  induction m with
  | zero => exact fun _ _ => rfl
  | succ m ih =>
    intro hm h
    have h2 := isd_iff.mp (h m (by omega))
    rw [sy_fo_last, ih (by omega) (fun i hi => h i (by omega)), Nat.zero_add, zmul, zadd, zsub (by omega), nvl_s]
    congr 1
    omega
theorem ten_d {q : Nat} (hq : q < L) (h : isd (t q) = true) : ten t L q = rn (fun i => isd (t i)) (L - q) q := by
  unfold ten
  rw [isd_na h, cond_false, h, cond_true, show L - q = (L - (q + 1)) + 1 by omega, rn_s, h]
  rfl
theorem ten_a {q : Nat} (hq : q < L) (h : isa (t q) = true) : ten t L q = rn (fun i => isa (t i)) (L - q) q := by
  unfold ten
  rw [h, cond_true, show L - q = (L - (q + 1)) + 1 by omega, rn_s, h]
  rfl
theorem thg_num {q : Nat} (ht : ∀ i, t i ≤ 255) (hq : q ≤ L) : thg t L q = 257 ↔ (q < L ∧ isd (t q) = true ∧ ten t L q - q ≤ 3) := by
  constructor
  · intro h
    have hqL : q < L := by
      have : q ≠ L := fun z => by
        have := (thg_end ht hq).1.mpr z
        omega
      omega
    have nb : Nat.ble L q = false := by
      cases h2 : Nat.ble L q with
      | false => rfl
      | true => rw [Nat.ble_eq] at h2; omega
    unfold thg at h
    rw [nb, cond_false] at h
    cases hd : isd (t q) with
    | true =>
      rw [hd, cond_true] at h
      cases h3 : Nat.ble (ten t L q - q) 3 with
      | true => rw [Nat.ble_eq] at h3; exact ⟨hqL, rfl, h3⟩
      | false => rw [h3] at h; exact absurd h (by decide)
    | false =>
      rw [hd, cond_false] at h
      cases ha : isa (t q) with
      | true =>
        rw [ha, cond_true] at h
        have := wco_ge t q (ten t L q) wds 260 (by decide)
        omega
      | false =>
        rw [ha, cond_false] at h
        have := ht q
        omega
  · rintro ⟨h1, h2, h3⟩
    have nb : Nat.ble L q = false := by
      cases h2 : Nat.ble L q with
      | false => rfl
      | true => rw [Nat.ble_eq] at h2; omega
    unfold thg
    rw [nb, cond_false, h2, cond_true, Nat.ble_eq.mpr h3]
    rfl
/-- the number that stands here -/
def nuv (t : Nat → Nat) (L q : Nat) : Nat := nvl t q (ten t L q - q)
theorem num_in {q i : Nat} (hq : q < L) (h : isd (t q) = true) (hi : q + i < ten t L q) : isd (t (q + i)) = true := by
  rw [ten_d hq h] at hi
  exact rn_in (fun i => isd (t i)) (L - q) q (q + i) (by omega) hi
theorem nuv_le {q : Nat} (hq : q < L) (h : isd (t q) = true) (h3 : ten t L q - q ≤ 3) : nuv t L q ≤ 999 := by
  have h1 := nvl_le (t := t) (q := q) (ten t L q - q) (fun i hi => num_in hq h (by omega))
  have h2 : 10 ^ (ten t L q - q) ≤ 10 ^ 3 := Nat.pow_le_pow_right (by decide) h3
  unfold nuv
  omega
theorem c_takesNumber {q lo : Nat} {hi : Int32} (ht : ∀ i, t i ≤ 255) (h : ct M t L q) (hlo : lo < 2147483648) : ((thg t L q = 257 ∧ lo ≤ nuv t L q ∧ ¬ hi < Int32.ofNat (nuv t L q)) ∧ ∃ M1, jfX10_takesNumber (Int32.ofNat lo) hi M = sy_ri (Int32.ofNat (nuv t L q)) M1 ∧ ct M1 t L (nxt t L (ten t L q)) ∧ fk M M1 ∧ M1 1 7 = M 1 7) ∨ (¬ (thg t L q = 257 ∧ lo ≤ nuv t L q ∧ ¬ hi < Int32.ofNat (nuv t L q)) ∧ ∃ M1, jfX10_takesNumber (Int32.ofNat lo) hi M = sy_ri (-(Int32.ofNat 1)) M1 ∧ fk M M1 ∧ M1 1 7 = Int32.ofNat q) := by
  have hle := ct_le h
  have h0 := h
  obtain ⟨i, sz, h1, h2, h3, h4, h5, h6, h7, h8⟩ := h
  obtain ⟨k1, k2, k3, k4⟩ := h6 i h1
  rw [← h5] at k1 k2 k3 k4
  have fail : jfX10_takesNumber_58 M = sy_ri (-(Int32.ofNat 1)) (syc M 1 (rs (M 1) 7 (Int32.ofNat q))) := by
    simp (disch := omega) only [zL, zlt, zle, zeq, zadd, zmul, zin, zix, zsh1, Nat.add_zero, Nat.zero_add, Nat.mul_zero, if_true, if_false, if_pos, if_neg, sy_bi_ri, sy_bi_rt, sy_bv_rv, sy_bv_rt, sy_br_rr, sy_br_rn, sy_hi_ri, sy_hi_rt, sy_bs_t, sy_bx_t, sy_bb_t, bz_bo, ite_bz0, ite_bz1, jfX10_takesNumber_58, h4, k2, sy_upd_st]
  have ffk : fk M (syc M 1 (rs (M 1) 7 (Int32.ofNat q))) := ⟨fun a ha => syc_ne _ _ ha, by rw [syc_at, rs_ne _ _ (by decide)]⟩
  have f7 : (syc M 1 (rs (M 1) 7 (Int32.ofNat q))) 1 7 = Int32.ofNat q := by rw [syc_at, rs_at]
  by_cases hn : thg t L q = 257
  · obtain ⟨n1, n2, n3⟩ := (thg_num ht hle).mp hn
    have nv := nuv_le n1 n2 n3
    have k5 : M 5 i = Int32.ofNat (nuv t L q) := by
      rw [k4 n1]
      unfold nmv
      rw [show min 3 (ten t L q - q) = ten t L q - q by omega, nvl_z _ (by omega) (fun j hj => num_in n1 n2 (by omega))]
      rfl
    have e0 : jfX10_takesNumber (Int32.ofNat lo) hi M = jfX10_takesNumber_47 (Int32.ofNat lo) hi (Int32.ofNat (nuv t L q)) M := by
      rw [hn] at k3
      simp (disch := omega) only [zL, zlt, zle, zeq, zadd, zmul, zin, zix, zsh1, Nat.add_zero, Nat.zero_add, Nat.mul_zero, if_true, if_false, if_pos, if_neg, sy_bi_ri, sy_bi_rt, sy_bv_rv, sy_bv_rt, sy_br_rr, sy_br_rn, sy_hi_ri, sy_hi_rt, sy_bs_t, sy_bx_t, sy_bb_t, bz_bo, ite_bz0, ite_bz1, jfX10_takesNumber, h4, k3, k5]
    by_cases hl : lo ≤ nuv t L q
    · by_cases hh : hi < Int32.ofNat (nuv t L q)
      · refine Or.inr ⟨fun z => z.2.2 hh, _, ?_, ffk, f7⟩
        rw [e0]
        unfold jfX10_takesNumber_47
        rw [if_neg (fun z => by rw [zlt (by omega) hlo] at z; omega), if_pos hh, fail]
      · refine Or.inl ⟨⟨hn, hl, hh⟩, syc M 1 (rs (M 1) 6 (M 1 6 + (Int32.ofNat 1))), ?_, ct_next h0 n1, ⟨fun a ha => syc_ne _ _ ha, by rw [syc_at, rs_ne _ _ (by decide)]⟩, by rw [syc_at, rs_ne _ _ (by decide)]⟩
        rw [e0]
        unfold jfX10_takesNumber_47
        rw [if_neg (fun z => by rw [zlt (by omega) hlo] at z; omega), if_neg hh, sy_upd_st]
        rfl
    · refine Or.inr ⟨fun z => hl z.2.1, _, ?_, ffk, f7⟩
      rw [e0]
      unfold jfX10_takesNumber_47
      rw [if_pos ((zlt (by omega) hlo).mpr (by omega)), fail]
  · refine Or.inr ⟨fun z => hn z.1, _, ?_, ffk, f7⟩
    have hth := (thg_end ht hle).2
    have e0 : jfX10_takesNumber (Int32.ofNat lo) hi M = jfX10_takesNumber_47 (Int32.ofNat lo) hi (-(Int32.ofNat 1)) M := by
      simp (disch := omega) only [zL, zlt, zle, zeq, zadd, zmul, zin, zix, zsh1, Nat.add_zero, Nat.zero_add, Nat.mul_zero, if_true, if_false, if_pos, if_neg, sy_bi_ri, sy_bi_rt, sy_bv_rv, sy_bv_rt, sy_br_rr, sy_br_rn, sy_hi_ri, sy_hi_rt, sy_bs_t, sy_bx_t, sy_bb_t, bz_bo, ite_bz0, ite_bz1, jfX10_takesNumber, h4, k3]
    rw [e0]
    unfold jfX10_takesNumber_47
    rw [if_pos (Int32.lt_of_lt_of_le (show (-(Int32.ofNat 1) : Int32) < (Int32.ofNat 0) by decide) ((zle (by decide) hlo).mpr (Nat.zero_le _))), fail]
/-! the reference -/
/-- it stands at a place of the text -/
def rt (M : sy_M) (t : Nat → Nat) (L at0 : Nat) : Prop := M 121 10 = Int32.ofNat L ∧ M 121 11 = Int32.ofNat at0 ∧ at0 ≤ 1000 ∧ L ≤ 400 ∧ ((M 121 9 = -(Int32.ofNat 1) ∧ ∀ i, i < L → M 126 i = Int32.ofNat (t i)) ∨ (M 121 9 = (Int32.ofNat 426) ∧ ∀ i, i < L → M 122 (426 + i) = Int32.ofNat (t i)))
/-- its place is written -/
def m11 (M : sy_M) (p : Nat) : sy_M := syc M 121 (rs (M 121) 11 (Int32.ofNat p))
theorem rt_11 {p p1 : Nat} (h : rt M t L p) (h1 : p1 ≤ 1000) : rt (m11 M p1) t L p1 := by
  obtain ⟨a, b, c, d, e⟩ := h
  unfold m11
  refine ⟨by rw [syc_at, rs_ne _ _ (by decide)]; exact a, by rw [syc_at, rs_at], h1, d, ?_⟩
  rcases e with ⟨e1, e2⟩ | ⟨e1, e2⟩
  · exact Or.inl ⟨by rw [syc_at, rs_ne _ _ (by decide)]; exact e1, fun i hi => by rw [syc_ne _ _ (by decide)]; exact e2 i hi⟩
  · exact Or.inr ⟨by rw [syc_at, rs_ne _ _ (by decide)]; exact e1, fun i hi => by rw [syc_ne _ _ (by decide)]; exact e2 i hi⟩
theorem m11_m11 (M : sy_M) (p q : Nat) : m11 (m11 M p) q = m11 M q := by
  unfold m11
  rw [syc_at, rs_rs, syc_st]
theorem m11_self {p : Nat} (h : M 121 11 = Int32.ofNat p) : m11 M p = M := by
  unfold m11
  rw [← h, rs_self, syc_self]
theorem m_letter {p i : Nat} (h : rt M t L p) (hi : i < L) : jfX12_letter (Int32.ofNat i) M = sy_ri (Int32.ofNat (t i)) M := by
  obtain ⟨a, b, c, d, ⟨e1, e2⟩ | ⟨e1, e2⟩⟩ := h
  · have := e2 i hi
    unfold jfX12_letter
    rw [e1, if_pos (show (-(Int32.ofNat 1) : Int32) = -1 from rfl), zin (by omega) (by decide), sy_bx_t, zix (by omega), this]
  · have := e2 i hi
    unfold jfX12_letter
    rw [e1, if_neg (show ¬ ((Int32.ofNat 426) : Int32) = -1 by decide), zadd, zin (by omega) (by decide), sy_bx_t, zix (by omega), this]
theorem m_skip {p : Nat} (h : rt M t L p) (ht : ∀ i, t i ≤ 255) : jfX12_skip M = sy_rv (m11 M (nxt t L p)) := by
  unfold jfX12_skip nxt
  have key := sy_ind (n := L - p) (F := sy_F) (fun k i (_ : Unit) => jfX12_skip_0 k (m11 M (p + i))) (fun _ _ => True) (fun m i _ c => c = sy_rv (m11 M (rn (fun i => Nat.beq (t i) 32) m (p + i)))) ?_ ?_ () trivial (by rw [sy_F_eq]; have := h.2.2.2.1; omega)
  · rw [Nat.add_zero, m11_self h.2.1] at key
    exact key
  · intro k _ _
    show jgX12_skip_0 (jfX12_skip_0 k) (m11 M (p + (L - p))) = _
    have r := rt_11 (p1 := p + (L - p)) h (by have := h.2.2.1; have := h.2.2.2.1; omega)
    have := r.2.2.1
    unfold jgX12_skip_0
    rw [r.1, r.2.1, if_neg (fun z => by rw [zlt (by omega) (by have := h.2.2.2.1; omega)] at z; omega)]
    rfl
  · intro m k i _ hi _
    have d := h.2.2.2.1
    have r := rt_11 (p1 := p + i) h (by omega)
    have tp := ht (p + i)
    show (∃ _ : Unit, jgX12_skip_0 (jfX12_skip_0 (k + 1)) (m11 M (p + i)) = _ ∧ _) ∨ jgX12_skip_0 (jfX12_skip_0 (k + 1)) (m11 M (p + i)) = _
    unfold jgX12_skip_0
    rw [r.1, r.2.1, if_pos ((zlt (by omega) (by omega)).mpr (by omega)), m_letter r (by omega), sy_bi_ri, rn_s]
    by_cases h2 : t (p + i) = 32
    · rw [if_pos (by rw [h2]; rfl), h2]
      refine Or.inl ⟨(), ?_, trivial, fun c hc => hc⟩
      rw [r.2.1, show (1 : Int32) = (Int32.ofNat 1) from rfl, zadd, sy_upd_st]
      exact congrArg (jfX12_skip_0 (k + 1)) (m11_m11 M (p + i) (p + i + 1))
    · rw [if_neg (show ¬ Int32.ofNat (t (p + i)) = 32 from fun z => h2 ((zeq (b := 32) (by omega) (by decide)).mp z))]
      right
      have : Nat.beq (t (p + i)) 32 = false := by
        cases hq2 : Nat.beq (t (p + i)) 32 with
        | false => rfl
        | true => exact absurd (Nat.eq_of_beq_eq_true hq2) h2
      rw [this]
      rfl
/-- a text of the reference's own -/
def srw (r : Nat) (W : List Nat) : Prop := sy_st r = true ∧ sy_sl r = W.length ∧ (∀ i, i < W.length → sy_sc r i = Int32.ofNat (W.getD i 0)) ∧ (∀ c ∈ W, c < 256) ∧ 1 ≤ W.length ∧ W.length ≤ 10
theorem eqw_gd (t : Nat → Nat) : ∀ (W : List Nat) (q : Nat), eqw t q W = true ↔ ∀ i, i < W.length → t (q + i) = W.getD i 0
  | [], q => ⟨fun _ i hi => absurd hi (Nat.not_lt_zero i), fun _ => rfl⟩
  | c :: W, q => by
    show (Nat.beq (t q) c && eqw t (q + 1) W) = true ↔ _
    rw [Bool.and_eq_true, eqw_gd t W (q + 1)]
    constructor
    · rintro ⟨h1, h2⟩ i hi
      cases i with
      | zero => exact Nat.eq_of_beq_eq_true h1
      | succ i =>
        have := h2 i (by rw [List.length_cons] at hi; omega)
        rw [show q + (i + 1) = q + 1 + i by omega, this]
        rfl
    · intro h
      refine ⟨?_, fun i hi => ?_⟩
      · have := h 0 (by rw [List.length_cons]; omega)
        rw [Nat.add_zero] at this
        rw [this]
        exact Nat.beq_refl _
      · have := h (i + 1) (by rw [List.length_cons]; omega)
        rw [show q + 1 + i = q + (i + 1) by omega, this]
        rfl
/-- the run of letters from here -/
def lrn (t : Nat → Nat) (L q : Nat) : Nat := rn (fun i => isa (t i)) (L - q) q
theorem m_has0 {p r : Nat} {W : List Nat} (h : rt M t L p) (ht : ∀ i, t i ≤ 255) (hw : srw r W) (hpL : p ≤ L) : jfX12_has r M = bif Nat.beq (lrn t L (nxt t L p) - nxt t L p) W.length && eqw t (nxt t L p) W then sy_ri (Int32.ofNat 1) (m11 M (lrn t L (nxt t L p))) else sy_ri (Int32.ofNat 0) (m11 M (nxt t L p)) := by
  have d := h.2.2.2.1
  have ng := nxt_ge (t := t) hpL
  generalize hq : nxt t L p = q at ng
  have r1 := rt_11 (p1 := q) h (by omega)
  generalize hN : m11 M q = N at r1
  have e0 : jfX12_has r M = jfX12_has_9 sy_F r (Int32.ofNat q) N := by
    unfold jfX12_has
    rw [m_skip h ht, sy_bv_rv, hq, hN]
    show jfX12_has_9 sy_F r (N 121 11) N = _
    rw [r1.2.1]
  rw [e0]
  have lg := rn_ge (fun i => isa (t i)) (L - q) q
  have e1 : jfX12_has_9 sy_F r (Int32.ofNat q) N = jfX12_has_38 r (Int32.ofNat (lrn t L q)) N := by
    unfold lrn
    have key := sy_ind (n := L - q) (F := sy_F) (fun k i (_ : Unit) => jfX12_has_9 k r (Int32.ofNat (q + i)) N) (fun _ _ => True) (fun m i _ c => c = jfX12_has_38 r (Int32.ofNat (rn (fun i => isa (t i)) m (q + i))) N) ?_ ?_ () trivial (by rw [sy_F_eq]; omega)
    · exact key
    · intro k _ _
      show jgX12_has_9 (jfX12_has_9 k) r (Int32.ofNat (q + (L - q))) N = _
      unfold jgX12_has_9
      rw [r1.1, if_neg (fun z => by rw [zlt (by omega) (by omega)] at z; omega)]
      rfl
    · intro m k i _ hi _
      have tp := ht (q + i)
      show (∃ _ : Unit, jgX12_has_9 (jfX12_has_9 (k + 1)) r (Int32.ofNat (q + i)) N = _ ∧ _) ∨ jgX12_has_9 (jfX12_has_9 (k + 1)) r (Int32.ofNat (q + i)) N = _
      have si : sp_in (Int32.ofNat (t (q + i))) (Int32.ofNat 97) (Int32.ofNat 122) = isa (t (q + i)) := by
        rw [sp_in_z (by omega) (by omega) (by omega), Bool.eq_iff_iff, decide_eq_true_iff, isa_iff]
      unfold jgX12_has_9
      rw [r1.1, if_pos ((zlt (by omega) (by omega)).mpr (by omega)), m_letter r1 (by omega), sy_bi_ri, show (97 : Int32) = (Int32.ofNat 97) from rfl, show (122 : Int32) = (Int32.ofNat 122) from rfl, m_isIn, sy_bi_ri, si, rn_s]
      cases isa (t (q + i))
      · exact Or.inr rfl
      · exact Or.inl ⟨(), by rw [if_neg (show ¬ bz true = 0 by decide), show (1 : Int32) = (Int32.ofNat 1) from rfl, zadd]; rfl, trivial, fun c hc => hc⟩
  rw [e1]
  unfold lrn at *
  generalize rn (fun i => isa (t i)) (L - q) q = k at lg
  obtain ⟨w1, w2, w3, w4, w5, w6⟩ := hw
  unfold jfX12_has_38
  rw [w1, sy_bb_t, r1.2.1, w2, zto, zsub (by omega)]
  by_cases hk : k - q = W.length
  · have hkb : Nat.beq (k - q) W.length = true := by rw [hk]; exact Nat.beq_refl _
    rw [if_pos (by rw [hk]), hkb, Bool.true_and]
    refine sy_forR (n := W.length) (F := sy_F) (R := fun c => c = bif eqw t q W then sy_ri (Int32.ofNat 1) (m11 M k) else sy_ri (Int32.ofNat 0) N) (fun z i (_ : Unit) => jfX12_has_55 z r (Int32.ofNat k) (Int32.ofNat i) N) (fun i _ => ∀ j, j < i → t (q + j) = W.getD j 0) ?_ ?_ () (fun j hj => absurd hj (Nat.not_lt_zero j)) (by rw [sy_F_eq]; omega)
    · intro z i _ hi h1
      have tp := ht (q + i)
      have cW : W.getD i 0 < 256 := by
        rw [List.getD_eq_getElem?_getD, List.getElem?_eq_getElem hi]
        exact w4 _ (List.getElem_mem hi)
      show (∃ _ : Unit, jgX12_has_55 (jfX12_has_55 z) r (Int32.ofNat k) (Int32.ofNat i) N = _ ∧ _) ∨ jgX12_has_55 (jfX12_has_55 z) r (Int32.ofNat k) (Int32.ofNat i) N = _
      unfold jgX12_has_55
      rw [w1, sy_bb_t, w2, zto, if_pos ((zlt (by omega) (by omega)).mpr hi), r1.2.1, zadd, m_letter r1 (by omega), sy_bi_ri, zin hi (by omega), Bool.true_and, sy_bx_t, zix (by omega), w3 i hi]
      by_cases he : t (q + i) = W.getD i 0
      · rw [if_pos (by rw [he])]
        refine Or.inl ⟨(), by rw [show (1 : Int32) = (Int32.ofNat 1) from rfl, zadd], fun j hj => ?_⟩
        by_cases hj2 : j = i
        · rw [hj2]; exact he
        · exact h1 j (by omega)
      · rw [if_neg (fun z => he ((zeq (by omega) (by omega)).mp z))]
        right
        have : eqw t q W = false := by
          cases hq2 : eqw t q W with
          | false => rfl
          | true => exact absurd ((eqw_gd t W q).mp hq2 i hi) he
        rw [this]
        rfl
    · intro z _ h1
      show jgX12_has_55 (jfX12_has_55 z) r (Int32.ofNat k) (Int32.ofNat W.length) N = _
      unfold jgX12_has_55
      rw [w1, sy_bb_t, w2, zto, if_neg (fun z => by rw [zlt (by omega) (by omega)] at z; omega), (eqw_gd t W q).mpr h1, sy_upd_st, cond_true, ← hN]
      show sy_ri 1 (m11 (m11 M q) k) = _
      rw [m11_m11]
      rfl
  · have hkb : Nat.beq (k - q) W.length = false := by
      cases hq2 : Nat.beq (k - q) W.length with
      | false => rfl
      | true => exact absurd (Nat.eq_of_beq_eq_true hq2) hk
    rw [if_neg (fun z => hk ((zeq (by omega) (by omega)).mp z)), hkb]
    rfl
/-- which word -/
theorem wco_iff (t : Nat → Nat) (q e : Nat) : ∀ (l : List (List Nat)) (k i : Nat), 260 ≤ k → l.Nodup → i < l.length → (wco t q e l k = k + i ↔ (e - q = (l.getD i []).length ∧ eqw t q (l.getD i []) = true))
  | [], k, i, _, _, hi => absurd hi (Nat.not_lt_zero i)
  | w :: l, k, 0, hk, hn, hi => by
    show (bif _ then k else wco t q e l (k + 1)) = k + 0 ↔ _
    cases hc : (Nat.beq (e - q) w.length && eqw t q w) with
    | true =>
      rw [Bool.and_eq_true] at hc
      exact ⟨fun _ => ⟨Nat.eq_of_beq_eq_true hc.1, hc.2⟩, fun _ => rfl⟩
    | false =>
      rw [cond_false]
      constructor
      · intro h
        have := wco_ge t q e l (k + 1) (by omega)
        omega
      · rintro ⟨h1, h2⟩
        have h3 : (Nat.beq (e - q) w.length && eqw t q w) = true := by
          rw [Bool.and_eq_true]
          refine ⟨?_, h2⟩
          rw [h1]
          exact Nat.beq_refl _
        rw [hc] at h3
        cases h3
  | w :: l, k, i + 1, hk, hn, hi => by
    have ih := wco_iff t q e l (k + 1) i (by omega) (List.nodup_cons.mp hn).2 (by rw [List.length_cons] at hi; omega)
    rw [show k + (i + 1) = k + 1 + i by omega]
    show (bif _ then k else wco t q e l (k + 1)) = k + 1 + i ↔ (e - q = (l.getD i []).length ∧ eqw t q (l.getD i []) = true)
    cases hc : (Nat.beq (e - q) w.length && eqw t q w) with
    | false => rw [cond_false]; exact ih
    | true =>
      rw [cond_true]
      rw [Bool.and_eq_true] at hc
      constructor
      · intro h; omega
      · rintro ⟨h1, h2⟩
        exfalso
        have hl : w.length = (l.getD i []).length := (Nat.eq_of_beq_eq_true hc.1).symm.trans h1
        have he : w = l.getD i [] := by
          apply List.ext_getElem hl
          intro j j1 j2
          have a := (eqw_gd t w q).mp hc.2 j j1
          have b := (eqw_gd t _ q).mp h2 j j2
          rw [List.getD_eq_getElem?_getD, List.getElem?_eq_getElem j1] at a
          rw [List.getD_eq_getElem?_getD, List.getElem?_eq_getElem j2] at b
          exact a.symm.trans b
        have hil : i < l.length := by rw [List.length_cons] at hi; omega
        have hm : w ∈ l := by
          rw [he, List.getD_eq_getElem?_getD, List.getElem?_eq_getElem hil]
          exact List.getElem_mem hil
        exact (List.nodup_cons.mp hn).1 hm
theorem wds_nd : wds.Nodup := by decide
theorem wds_a : ∀ i : Fin 25, (wds.getD i.1 []).length ≠ 0 ∧ isa ((wds.getD i.1 []).getD 0 0) = true := by decide
/-- a word stands here -/
theorem thg_word {q i : Nat} (ht : ∀ i, t i ≤ 255) (hq : q ≤ L) (hi : i < 25) : (Nat.beq (lrn t L q - q) (wds.getD i []).length && eqw t q (wds.getD i [])) = decide (thg t L q = 260 + i) ∧ (thg t L q = 260 + i → lrn t L q = ten t L q ∧ q < L) := by
  have ha := wds_a ⟨i, hi⟩
  simp only at ha
  by_cases hqL : q < L ∧ isa (t q) = true
  · have e1 : lrn t L q = ten t L q := (ten_a hqL.1 hqL.2).symm
    have nb : Nat.ble L q = false := by
      cases h2 : Nat.ble L q with
      | false => rfl
      | true => rw [Nat.ble_eq] at h2; omega
    have nd : isd (t q) = false := by
      cases hd : isd (t q) with
      | false => rfl
      | true => have := isd_na hd; rw [hqL.2] at this; cases this
    have e2 : thg t L q = wco t q (ten t L q) wds 260 := by
      unfold thg
      rw [nb, cond_false, nd, cond_false, hqL.2, cond_true]
    have k := wco_iff t q (ten t L q) wds 260 i (by decide) wds_nd hi
    refine ⟨?_, fun _ => ⟨e1, hqL.1⟩⟩
    rw [e2, e1, Bool.eq_iff_iff, decide_eq_true_iff, k, Bool.and_eq_true]
    constructor
    · rintro ⟨h1, h2⟩
      exact ⟨Nat.eq_of_beq_eq_true h1, h2⟩
    · rintro ⟨h1, h2⟩
      exact ⟨by rw [h1]; exact Nat.beq_refl _, h2⟩
  · have e1 : lrn t L q = q := by
      unfold lrn
      cases hm : L - q with
      | zero => rfl
      | succ m =>
        rw [rn_s]
        cases hb : isa (t q) with
        | true => exact absurd ⟨by omega, hb⟩ hqL
        | false => rfl
    have n1 : ¬ thg t L q = 260 + i := by
      intro z
      have he := thg_end ht hq
      by_cases h2 : q = L
      · have := he.1.mpr h2
        omega
      · have nb : Nat.ble L q = false := by
          cases h2 : Nat.ble L q with
          | false => rfl
          | true => rw [Nat.ble_eq] at h2; omega
        have na : isa (t q) = false := by
          cases hb : isa (t q) with
          | true => exact absurd ⟨by omega, hb⟩ hqL
          | false => rfl
        unfold thg at z
        rw [nb, cond_false, na, cond_false] at z
        cases hd : isd (t q) with
        | true =>
          rw [hd, cond_true] at z
          cases h3 : Nat.ble (ten t L q - q) 3 with
          | true => rw [h3, cond_true] at z; omega
          | false => rw [h3, cond_false] at z; omega
        | false =>
          rw [hd, cond_false] at z
          have := ht q
          omega
    refine ⟨?_, fun z => absurd z n1⟩
    rw [decide_eq_false n1, e1, Nat.sub_self]
    have : Nat.beq 0 (wds.getD i []).length = false := by
      cases hq2 : Nat.beq 0 (wds.getD i []).length with
      | false => rfl
      | true => exact absurd (Nat.eq_of_beq_eq_true hq2).symm ha.1
    rw [this]
    rfl
theorem m_has {p r i : Nat} (h : rt M t L p) (ht : ∀ i, t i ≤ 255) (hi : i < 25) (hw : srw r (wds.getD i [])) (hpL : p ≤ L) : jfX12_has r M = if thg t L (nxt t L p) = 260 + i then sy_ri (Int32.ofNat 1) (m11 M (ten t L (nxt t L p))) else sy_ri (Int32.ofNat 0) (m11 M (nxt t L p)) := by
  have ng := nxt_ge (t := t) hpL
  have k := thg_word (t := t) (L := L) (q := nxt t L p) ht ng.2 hi
  rw [m_has0 h ht hw hpL, k.1]
  by_cases hc : thg t L (nxt t L p) = 260 + i
  · rw [decide_eq_true hc, if_pos hc, (k.2 hc).1]
    rfl
  · rw [decide_eq_false hc, if_neg hc]
    rfl
end
