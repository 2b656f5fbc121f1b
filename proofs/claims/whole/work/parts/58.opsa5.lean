/-! ===== the log, count, a lodger ===== -/
section
variable {A : (Nat → Int32) → Nat → Int32 × Bool} {tx : (Nat → Int32) → Prop} {L0 : Int32} {S : Nat → Int32} {e : Nat} {M : sy_M}
theorem c_cell {h a w r : Nat} {f : Nat → Int32} (H : hw M h f) (h19 : h ≠ 19) (hr : f 12 = Int32.ofNat r) (hr60 : r ≤ 60) (ha : a < r) (hw0 : w < 5) : jfX7_cell (h + 3) (Int32.ofNat a) (Int32.ofNat w) M = sy_ri (f (126 + 5 * a + w)) M := by
  obtain ⟨Hv, L⟩ := H
  have hl := h_lt Hv.1
  have h6 := h_6 Hv.1
  have h4 := h_300 Hv.1
  have ha4 := h_a4 Hv.1
  rw [if_neg h19] at h4
  rcases L with ⟨e, _⟩ | ⟨_, k0, r1, nx, hr1, hx, f12, k2, k3, kc⟩
  · exact absurd e h19
  have er : r1 = r := (zeq (by omega) (by omega)).mp (f12.symm.trans hr)
  subst er
  by_cases hc : a + 1 ≤ nx
  · have e1 : Int32.ofNat nx - (Int32.ofNat 1) - Int32.ofNat a = Int32.ofNat (nx - 1 - a) := by
      rw [zsub_1 (by omega), zsub (by omega)]
    have e2 : (nx + 59 - a) % 60 = nx - 1 - a := by omega
    have := kc a w ha hw0
    rw [e2] at this
    simp (disch := omega) only [jfX7_cell, jfX7_cell_47, zL, zlt, if_pos, if_neg, h6, sy_bs_t, k2, k3, e1, zmulc, zadd, h_31, ha4, Bool.true_or, sy_bb_t, sy_len_li, h4, zto, zin, sy_bx_t, zix, this]
  · have e1 : Int32.ofNat nx - (Int32.ofNat 1) - Int32.ofNat a < (Int32.ofNat 0) := by
      simp only [zi_nat, zi_sub]
      rw [zi_lt (by omega) (by omega) (by omega) (by omega)]
      omega
    have e3 : Int32.ofNat nx - (Int32.ofNat 1) - Int32.ofNat a + (Int32.ofNat 60) = Int32.ofNat (nx + 59 - a) := by
      simp only [zi_nat, zi_sub, zi_add]
      congr 1
      omega
    have e2 : (nx + 59 - a) % 60 = nx + 59 - a := by omega
    have := kc a w ha hw0
    rw [e2] at this
    simp (disch := omega) only [jfX7_cell, jfX7_cell_47, zL, zlt, if_pos, if_neg, h6, sy_bs_t, k2, k3, k0]
    rw [e3]
    simp (disch := omega) only [zlt, if_pos, if_neg, h6, sy_bs_t, zmulc, zadd, h_31, ha4, Bool.true_or, sy_bb_t, sy_len_li, h4, zto, zin, sy_bx_t, zix, this]
theorem m_logged {a w : Nat} (ha : a < 60) (hw0 : w < 5) : jfX12_logged (Int32.ofNat a) (Int32.ofNat w) M = sy_ri (M 122 (126 + 5 * a + w)) M := by
  simp (disch := omega) only [zL, zlt, zle, zeq, zadd, zmul, zin, zix, zsh1, Nat.add_zero, Nat.zero_add, Nat.mul_zero, if_true, if_false, if_pos, if_neg, sy_bi_ri, sy_bi_rt, sy_bv_rv, sy_bv_rt, sy_br_rr, sy_br_rn, sy_hi_ri, sy_hi_rt, sy_bs_t, sy_bx_t, sy_bb_t, bz_bo, ite_bz0, ite_bz1, jfX12_logged]
theorem hw_rows {f : Nat → Int32} {r : Nat} (H : hw M 9 f) (hr : f 12 = Int32.ofNat r) : M 12 2 = Int32.ofNat r := by
  rcases H.2 with ⟨e, _⟩ | ⟨_, k0, r1, nx, hr1, hx, f12, k2, k3, kc⟩
  · omega
  · rw [k2, ← f12, hr]
theorem o_log (I : Inv A tx L0 S e M) (he : e < 90000) (a b : Int32) : opT A tx L0 S e (jfL_log a b M) (jfX12_log a b) := by
  obtain ⟨n, G, H, ht, hA, hl⟩ := id I.1
  have hn := G.2.1
  have h7 := G.2.2.1
  obtain ⟨xk, hxk, exk⟩ := I.2.2.2.2.2.2.2.2.1
  have hx := xok he hxk exk
  have h9 : M 9 3 = Int32.ofNat n := (hv_3 H.1).trans hn
  have D19 := I.2.2.2.2.1
  obtain ⟨r, hr, er⟩ := rb_logs G.1
  unfold jfL_log
  have x23 : ∀ w : Int32, sp_in w (Int32.ofNat 0) (Int32.ofNat 4) = false → (w < (Int32.ofNat 0) ∨ ¬ w < (Int32.ofNat 5)) → opT A tx L0 S e (jfL_log a w M) (jfX12_log a w) := by
    intro w sw hw0
    refine opT_x I (cl := 23) (c := 1) ?_ rfl (by decide) (by decide) (fun N hN => ⟨(Int32.ofNat 0), thr N 1, ?_, thr_0 _ _, fr_thr⟩)
    · unfold jfX11_log
      by_cases h0 : w < (Int32.ofNat 0)
      · rw [if_pos (show w < 0 from h0), hx, sy_bx_t]; rfl
      · rw [if_neg (show ¬ w < 0 from h0), if_neg (show ¬ w < 5 from hw0.resolve_left h0), hx, sy_bx_t]; rfl
    · simp (disch := omega) only [zL, zlt, zle, zeq, zadd, zmul, zin, zix, zsh1, Nat.add_zero, Nat.zero_add, Nat.mul_zero, if_true, if_false, if_pos, if_neg, sy_bi_ri, sy_bi_rt, sy_bv_rv, sy_bv_rt, sy_br_rr, sy_br_rn, sy_hi_ri, sy_hi_rt, sy_bs_t, sy_bx_t, sy_bb_t, bz_bo, ite_bz0, ite_bz1, jfX12_log, jfX12_log_15, m_isIn, sw, cond_false, thr_up, thr_0]
  by_cases h0 : b < (Int32.ofNat 0)
  · exact x23 b (sp_in_neg h0) (Or.inl h0)
  · obtain ⟨w, hw0, eb⟩ := zex_nat b h0
    subst eb
    by_cases h5 : w < 5
    · have sw : sp_in (Int32.ofNat w) (Int32.ofNat 0) (Int32.ofNat 4) = true := by rw [sp_in_z hw0 (by omega) (by omega)]; exact decide_eq_true (by omega)
      have e12 : M 12 2 = Int32.ofNat r := hw_rows H er
      have i6 : sy_is 6 12 = true := by decide +kernel
      have out : ∀ x : Int32, sp_in x (Int32.ofNat 0) (Int32.ofNat r - (Int32.ofNat 1)) = false → jfX7_cell 12 x (Int32.ofNat w) M = sy_ri (-(Int32.ofNat 2)) M → opT A tx L0 S e (jfL_log x (Int32.ofNat w) M) (jfX12_log x (Int32.ofNat w)) := by
        intro x sx0 ec
        refine opT_q I (v := -(Int32.ofNat 2)) ⟨M, ?_, fq_rfl⟩ (fun N hN => ⟨thr N 0, ?_, thr_0 _ _, fr_thr⟩)
        · simp (disch := omega) only [zL, zlt, zle, zeq, zadd, zmul, zin, zix, zsh1, Nat.add_zero, Nat.zero_add, Nat.mul_zero, if_true, if_false, if_pos, if_neg, sy_bi_ri, sy_bi_rt, sy_bv_rv, sy_bv_rt, sy_br_rr, sy_br_rn, sy_hi_ri, sy_hi_rt, sy_bs_t, sy_bx_t, sy_bb_t, bz_bo, ite_bz0, ite_bz1, jfX11_log, ec]
        · have e122 : thr N 0 122 = M 122 := (thr_ne _ _ (by decide)).trans (hN 122 (by omega) (by omega))
          simp (disch := omega) only [zL, zlt, zle, zeq, zadd, zmul, zin, zix, zsh1, Nat.add_zero, Nat.zero_add, Nat.mul_zero, if_true, if_false, if_pos, if_neg, sy_bi_ri, sy_bi_rt, sy_bv_rv, sy_bv_rt, sy_br_rr, sy_br_rn, sy_hi_ri, sy_hi_rt, sy_bs_t, sy_bx_t, sy_bb_t, bz_bo, ite_bz0, ite_bz1, jfX12_log, jfX12_log_15, m_isIn, sw, cond_true, cond_false, thr_up, thr_0, e122, er, sx0]
      by_cases ha0 : a < (Int32.ofNat 0)
      · refine out a (sp_in_neg ha0) ?_
        unfold jfX7_cell
        rw [if_pos (show a < 0 from ha0)]
        rfl
      · obtain ⟨p, hp, ea⟩ := zex_nat a ha0
        subst ea
        have sp := sp_in_n (k := p) (n := r) hp (by omega)
        by_cases hpr : p < r
        · rw [decide_eq_true hpr] at sp
          refine opT_q I (v := M 122 (126 + 5 * p + w)) ⟨M, ?_, fq_rfl⟩ (fun N hN => ⟨thr N 0, ?_, thr_0 _ _, fr_thr⟩)
          · have ec : jfX7_cell 12 (Int32.ofNat p) (Int32.ofNat w) M = _ := c_cell H (by decide) er hr hpr h5
            simp (disch := omega) only [zL, zlt, zle, zeq, zadd, zmul, zin, zix, zsh1, Nat.add_zero, Nat.zero_add, Nat.mul_zero, if_true, if_false, if_pos, if_neg, sy_bi_ri, sy_bi_rt, sy_bv_rv, sy_bv_rt, sy_br_rr, sy_br_rn, sy_hi_ri, sy_hi_rt, sy_bs_t, sy_bx_t, sy_bb_t, bz_bo, ite_bz0, ite_bz1, jfX11_log, ec]
          · have e122 : thr N 0 122 = M 122 := (thr_ne _ _ (by decide)).trans (hN 122 (by omega) (by omega))
            simp (disch := omega) only [zL, zlt, zle, zeq, zadd, zmul, zin, zix, zsh1, Nat.add_zero, Nat.zero_add, Nat.mul_zero, if_true, if_false, if_pos, if_neg, sy_bi_ri, sy_bi_rt, sy_bv_rv, sy_bv_rt, sy_br_rr, sy_br_rn, sy_hi_ri, sy_hi_rt, sy_bs_t, sy_bx_t, sy_bb_t, bz_bo, ite_bz0, ite_bz1, jfX12_log, jfX12_log_15, m_isIn, sw, cond_true, thr_up, thr_0, e122, er, sp, m_logged]
        · rw [decide_eq_false hpr] at sp
          refine out _ sp ?_
          simp (disch := omega) only [zL, zlt, zle, zeq, zadd, zmul, zin, zix, zsh1, Nat.add_zero, Nat.zero_add, Nat.mul_zero, if_true, if_false, if_pos, if_neg, sy_bi_ri, sy_bi_rt, sy_bv_rv, sy_bv_rt, sy_br_rr, sy_br_rn, sy_hi_ri, sy_hi_rt, sy_bs_t, sy_bx_t, sy_bb_t, bz_bo, ite_bz0, ite_bz1, jfX7_cell, i6, e12]
    · have sw : sp_in (Int32.ofNat w) (Int32.ofNat 0) (Int32.ofNat 4) = false := by rw [sp_in_z hw0 (by omega) (by omega)]; exact decide_eq_false (by omega)
      exact x23 _ sw (Or.inr (by rw [zlt hw0 (by omega)]; omega))
/-! led -/
def sp_lm (f : Nat → Int32) (p a : Nat) : Bool := decide (f (126 + 5 * a + 3) = Int32.ofNat p)
def sp_lc (f : Nat → Int32) (p lo : Nat) : Nat → Nat
  | 0 => 0
  | m + 1 => sp_lc f p lo m + (bif sp_lm f p (lo + m) then 1 else 0)
def sp_lf (f : Nat → Int32) (p : Nat) : Nat → Nat → Int32
  | _, 0 => -(Int32.ofNat 1)
  | lo, m + 1 => bif sp_lm f p lo then f (126 + 5 * lo + 1) else sp_lf f p (lo + 1) m
theorem sp_lc_s (f : Nat → Int32) (p lo m : Nat) : sp_lc f p lo (m + 1) = sp_lc f p lo m + (bif sp_lm f p (lo + m) then 1 else 0) := rfl
theorem sp_lf_s (f : Nat → Int32) (p lo m : Nat) : sp_lf f p lo (m + 1) = bif sp_lm f p lo then f (126 + 5 * lo + 1) else sp_lf f p (lo + 1) m := rfl
theorem sp_lc_f (f : Nat → Int32) (p : Nat) : ∀ m lo, sp_lc f p lo (m + 1) = (bif sp_lm f p lo then 1 else 0) + sp_lc f p (lo + 1) m
  | 0, lo => by
    show 0 + _ = _ + 0
    rw [Nat.add_zero, Nat.zero_add, Nat.add_zero]
  | m + 1, lo => by
    rw [sp_lc_s, sp_lc_f f p m lo, sp_lc_s, show lo + (m + 1) = lo + 1 + m by omega]
    omega
theorem sp_lc_le (f : Nat → Int32) (p lo : Nat) : ∀ m, sp_lc f p lo m ≤ m
  | 0 => Nat.le_refl _
  | m + 1 => by
    have := sp_lc_le f p lo m
    rw [sp_lc_s]
    cases sp_lm f p (lo + m)
    · rw [cond_false]; omega
    · rw [cond_true]; omega
theorem sp_lf_l (f : Nat → Int32) (p : Nat) : ∀ m lo, sp_lf f p lo (m + 1) = if sp_lc f p lo m = 0 then (bif sp_lm f p (lo + m) then f (126 + 5 * (lo + m) + 1) else -(Int32.ofNat 1)) else sp_lf f p lo m
  | 0, lo => by
    rw [if_pos (show sp_lc f p lo 0 = 0 from rfl)]
    rfl
  | m + 1, lo => by
    rw [sp_lf_s, sp_lf_l f p m (lo + 1), sp_lc_f, sp_lf_s, show lo + (m + 1) = lo + 1 + m by omega]
    cases sp_lm f p lo
    · simp only [cond_false, Nat.zero_add]
    · simp only [cond_true]
      rw [if_neg (by omega)]
theorem o_led (I : Inv A tx L0 S e M) (he : e < 90000) (a : Int32) (b : Bool) : opT A tx L0 S e (jfL_led a (bz b) M) (jfX12_led a (bz b)) := by
  obtain ⟨n, G, H, ht, hA, hl⟩ := id I.1
  have hn := G.2.1
  have h7 := G.2.2.1
  obtain ⟨xk, hxk, exk⟩ := I.2.2.2.2.2.2.2.2.1
  have hx := xok he hxk exk
  have h9 : M 9 3 = Int32.ofNat n := (hv_3 H.1).trans hn
  have D19 := I.2.2.2.2.1
  obtain ⟨r, hr, er⟩ := rb_logs G.1
  have e12 : M 12 2 = Int32.ofNat r := hw_rows H er
  unfold jfL_led
  rcases ck_lodger h7 h9 hx a with ⟨p, hp, ea, ck, sa⟩ | ⟨sa, ck⟩
  · subst ea
    refine opT_q I (v := bif b then sp_lf (M 122) p 0 r else Int32.ofNat (sp_lc (M 122) p 0 r)) ⟨M, ?_, fq_rfl⟩ (fun N hN => ⟨thr N 0, ?_, thr_0 _ _, fr_thr⟩)
    · have e1 : jfX11_led_13 sy_F (Int32.ofNat p) (bz b) (Int32.ofNat 0) (-(Int32.ofNat 1)) (Int32.ofNat 0) M = sy_ri (bif b then sp_lf (M 122) p 0 r else Int32.ofNat (sp_lc (M 122) p 0 r)) M := by
        refine sy_forR (n := r) (F := sy_F) (R := fun c => c = sy_ri (bif b then sp_lf (M 122) p 0 r else Int32.ofNat (sp_lc (M 122) p 0 r)) M) (fun k i (_ : Unit) => jfX11_led_13 k (Int32.ofNat p) (bz b) (Int32.ofNat (sp_lc (M 122) p 0 i)) (sp_lf (M 122) p 0 i) (Int32.ofNat i) M) (fun _ _ => True) ?_ ?_ () trivial (by rw [sy_F_eq]; omega)
        · intro k i _ hi _
          refine Or.inl ⟨(), ?_, trivial⟩
          show jgX11_led_13 (jfX11_led_13 k) (Int32.ofNat p) (bz b) (Int32.ofNat (sp_lc (M 122) p 0 i)) (sp_lf (M 122) p 0 i) (Int32.ofNat i) M = _
          have ec : ∀ w, w < 5 → jfX7_cell 12 (Int32.ofNat i) (Int32.ofNat w) M = sy_ri (M 122 (126 + 5 * i + w)) M := fun w hw0 => c_cell H (by decide) er hr hi hw0
          have l1 := sp_lc_le (M 122) p 0 i
          rw [sp_lc_s, sp_lf_l, Nat.zero_add]
          unfold sp_lm
          simp (disch := omega) only [zL, zlt, zle, zeq, zadd, zmul, zin, zix, zsh1, Nat.add_zero, Nat.zero_add, Nat.mul_zero, if_true, if_false, if_pos, if_neg, sy_bi_ri, sy_bi_rt, sy_bv_rv, sy_bv_rt, sy_br_rr, sy_br_rn, sy_hi_ri, sy_hi_rt, sy_bs_t, sy_bx_t, sy_bb_t, bz_bo, ite_bz0, ite_bz1, jgX11_led_13, jfX11_led_67, jfX11_led_70, e12, ec]
          by_cases q1 : M 122 (126 + 5 * i + 3) = Int32.ofNat p
          · rw [if_pos q1, decide_eq_true q1, cond_true, cond_true]
            by_cases q2 : sp_lc (M 122) p 0 i = 0
            · rw [if_pos q2, if_pos q2]
            · rw [if_neg q2, if_neg q2]
          · rw [if_neg q1, decide_eq_false q1, cond_false, cond_false, Nat.add_zero]
            by_cases q2 : sp_lc (M 122) p 0 i = 0
            · rw [if_pos q2]
              congr 1
              have z : ∀ m lo, sp_lc (M 122) p lo m = 0 → sp_lf (M 122) p lo m = -(Int32.ofNat 1) := by
                intro m
                induction m with
                | zero => exact fun _ _ => rfl
                | succ m ih =>
                  intro lo h
                  rw [sp_lc_f] at h
                  rw [sp_lf_s]
                  cases hq : sp_lm (M 122) p lo with
                  | true => rw [hq, cond_true] at h; omega
                  | false => rw [hq, cond_false] at h; rw [cond_false]; exact ih (lo + 1) (by omega)
              exact z i 0 q2
            · rw [if_neg q2]
              rfl
        · intro k _ _
          show jgX11_led_13 (jfX11_led_13 k) (Int32.ofNat p) (bz b) (Int32.ofNat (sp_lc (M 122) p 0 r)) (sp_lf (M 122) p 0 r) (Int32.ofNat r) M = _
          simp (disch := omega) only [zL, zlt, zle, zeq, zadd, zmul, zin, zix, zsh1, Nat.add_zero, Nat.zero_add, Nat.mul_zero, if_true, if_false, if_pos, if_neg, sy_bi_ri, sy_bi_rt, sy_bv_rv, sy_bv_rt, sy_br_rr, sy_br_rn, sy_hi_ri, sy_hi_rt, sy_bs_t, sy_bx_t, sy_bb_t, bz_bo, ite_bz0, ite_bz1, jgX11_led_13, e12]
          cases b <;> rfl
      simp (disch := omega) only [zL, zlt, zle, zeq, zadd, zmul, zin, zix, zsh1, Nat.add_zero, Nat.zero_add, Nat.mul_zero, if_true, if_false, if_pos, if_neg, sy_bi_ri, sy_bi_rt, sy_bv_rv, sy_bv_rt, sy_br_rr, sy_br_rn, sy_hi_ri, sy_hi_rt, sy_bs_t, sy_bx_t, sy_bb_t, bz_bo, ite_bz0, ite_bz1, jfX11_led, ck, e1]
    · have e122 : thr N 0 122 = M 122 := (thr_ne _ _ (by decide)).trans (hN 122 (by omega) (by omega))
      have eN : N 122 3 = Int32.ofNat n := by rw [hN 122 (by omega) (by omega)]; exact hn
      have e1 : jfX12_led_42 sy_F (Int32.ofNat p) (bz b) (Int32.ofNat 0) (-(Int32.ofNat 1)) (Int32.ofNat r - (Int32.ofNat 1)) (thr N 0) = sy_ri (bif b then sp_lf (M 122) p 0 r else Int32.ofNat (sp_lc (M 122) p 0 r)) (thr N 0) := by
        have key := sy_forR (n := r) (F := sy_F) (R := fun c => c = sy_ri (bif b then sp_lf (M 122) p 0 r else Int32.ofNat (sp_lc (M 122) p 0 r)) (thr N 0)) (fun k i (_ : Unit) => jfX12_led_42 k (Int32.ofNat p) (bz b) (Int32.ofNat (sp_lc (M 122) p (r - i) i)) (sp_lf (M 122) p (r - i) i) (Int32.ofNat (r - i) - (Int32.ofNat 1)) (thr N 0)) (fun _ _ => True) ?_ ?_ () trivial (by rw [sy_F_eq]; omega)
        · exact key
        · intro k i _ hi _
          refine Or.inl ⟨(), ?_, trivial⟩
          show jgX12_led_42 (jfX12_led_42 k) (Int32.ofNat p) (bz b) (Int32.ofNat (sp_lc (M 122) p (r - i) i)) (sp_lf (M 122) p (r - i) i) (Int32.ofNat (r - i) - (Int32.ofNat 1)) (thr N 0) = _
          have e2 : Int32.ofNat (r - i) - (Int32.ofNat 1) = Int32.ofNat (r - (i + 1)) := by rw [zsub_1 (by omega)]; congr 1
          have e3 : Int32.ofNat (r - (i + 1)) + -(Int32.ofNat 1) = Int32.ofNat (r - (i + 1)) - (Int32.ofNat 1) := by
            rw [← Int32.sub_eq_add_neg]
          rw [e2, sp_lc_f, sp_lf_s, show r - (i + 1) + 1 = r - i by omega]
          unfold sp_lm
          simp (disch := omega) only [zL, zlt, zle, zeq, zadd, zmul, zin, zix, zsh1, Nat.add_zero, Nat.zero_add, Nat.mul_zero, if_true, if_false, if_pos, if_neg, sy_bi_ri, sy_bi_rt, sy_bv_rv, sy_bv_rt, sy_br_rr, sy_br_rn, sy_hi_ri, sy_hi_rt, sy_bs_t, sy_bx_t, sy_bb_t, bz_bo, ite_bz0, ite_bz1, jgX12_led_42, jfX12_led_73, m_logged, e122, e3]
          by_cases q1 : M 122 (126 + 5 * (r - (i + 1)) + 3) = Int32.ofNat p
          · rw [if_pos q1, decide_eq_true q1, cond_true, cond_true, Nat.add_comm]
          · rw [if_neg q1, decide_eq_false q1, cond_false, cond_false, Nat.zero_add]
        · intro k _ _
          show jgX12_led_42 (jfX12_led_42 k) (Int32.ofNat p) (bz b) (Int32.ofNat (sp_lc (M 122) p (r - r) r)) (sp_lf (M 122) p (r - r) r) (Int32.ofNat (r - r) - (Int32.ofNat 1)) (thr N 0) = _
          rw [Nat.sub_self]
          unfold jgX12_led_42
          rw [if_pos (show Int32.ofNat 0 - (Int32.ofNat 1) < 0 by decide)]
          cases b <;> rfl
      simp (disch := omega) only [zL, zlt, zle, zeq, zadd, zmul, zin, zix, zsh1, Nat.add_zero, Nat.zero_add, Nat.mul_zero, if_true, if_false, if_pos, if_neg, sy_bi_ri, sy_bi_rt, sy_bv_rv, sy_bv_rt, sy_br_rr, sy_br_rn, sy_hi_ri, sy_hi_rt, sy_bs_t, sy_bx_t, sy_bb_t, bz_bo, ite_bz0, ite_bz1, jfX12_led, jfX12_led_14, m_isLodger, eN, sa, cond_true, thr_up, thr_0, e122, er, e1]
  · refine opT_x I (cl := 22) (c := 1) ?_ rfl (by decide) (by decide) ?_
    · simp (disch := omega) only [zL, zlt, zle, zeq, zadd, zmul, zin, zix, zsh1, Nat.add_zero, Nat.zero_add, Nat.mul_zero, if_true, if_false, if_pos, if_neg, sy_bi_ri, sy_bi_rt, sy_bv_rv, sy_bv_rt, sy_br_rr, sy_br_rn, sy_hi_ri, sy_hi_rt, sy_bs_t, sy_bx_t, sy_bb_t, bz_bo, ite_bz0, ite_bz1, jfX11_led, ck]
      all_goals rfl
    · intro N hN
      have eN : N 122 3 = Int32.ofNat n := by rw [hN 122 (by omega) (by omega)]; exact hn
      exact ⟨(Int32.ofNat 0), thr N 1, by simp (disch := omega) only [zL, zlt, zle, zeq, zadd, zmul, zin, zix, zsh1, Nat.add_zero, Nat.zero_add, Nat.mul_zero, if_true, if_false, if_pos, if_neg, sy_bi_ri, sy_bi_rt, sy_bv_rv, sy_bv_rt, sy_br_rr, sy_br_rn, sy_hi_ri, sy_hi_rt, sy_bs_t, sy_bx_t, sy_bb_t, bz_bo, ite_bz0, ite_bz1, jfX12_led, jfX12_led_14, sa, m_isLodger, eN, m_isIn, m_isTick, cond_true, cond_false, thr_up, thr_0], thr_0 _ _, fr_thr⟩
/-! count -/
theorem o_count (I : Inv A tx L0 S e M) (a : Int32) : opN A tx L0 S e (jfX11_count a M) (jfX12_count a) := by
  obtain ⟨n, G, H, ht, hA, hl⟩ := id I.1
  have hn := G.2.1
  have h7 := G.2.2.1
  obtain ⟨r, hr, er⟩ := rb_logs G.1
  have e12 : M 12 2 = Int32.ofNat r := hw_rows H er
  obtain ⟨s, nx, hs, hnx, t1, t2, t3, _⟩ := I.2.2.1
  have ref : ∀ (N : sy_M), rq M N → thr N 0 122 = M 122 := fun N hN => (thr_ne _ _ (by decide)).trans (hN 122 (by omega) (by omega))
  have lp : ∀ (N : sy_M) (x : Int32), rq M N → jfX12_count_101 sy_F x (Int32.ofNat 0) (Int32.ofNat 0) (thr N 0) = if x = (Int32.ofNat 12) then sy_ri (sp_sum (M 122) n 5) (thr N 0) else sy_ri (-(Int32.ofNat 1)) (thr N 0) := by
    intro N x hN
    have e122 := ref N hN
    unfold sp_sum
    obtain ⟨k, hk⟩ := sy_for1 (n := n) (F := sy_F) (fun k i (y : Int32) => jfX12_count_101 k x y (Int32.ofNat i) (thr N 0)) (fun p a => a + (M 122) (14 + 9 * p + 5)) (by
      intro k i y hi
      show jgX12_count_101 (jfX12_count_101 k) x y (Int32.ofNat i) (thr N 0) = _
      simp (disch := omega) only [zL, zlt, zle, zeq, zadd, zmul, zin, zix, zsh1, Nat.add_zero, Nat.zero_add, Nat.mul_zero, if_true, if_false, if_pos, if_neg, sy_bi_ri, sy_bi_rt, sy_bv_rv, sy_bv_rt, sy_br_rr, sy_br_rn, sy_hi_ri, sy_hi_rt, sy_bs_t, sy_bx_t, sy_bb_t, bz_bo, ite_bz0, ite_bz1, jgX12_count_101, e122, hn, m_of]) (Int32.ofNat 0) (by rw [sy_F_eq]; omega)
    refine hk.trans ?_
    show jgX12_count_101 (jfX12_count_101 k) x _ (Int32.ofNat n) (thr N 0) = _
    simp (disch := omega) only [zL, zlt, zle, zeq, zadd, zmul, zin, zix, zsh1, Nat.add_zero, Nat.zero_add, Nat.mul_zero, if_true, if_false, if_pos, if_neg, sy_bi_ri, sy_bi_rt, sy_bv_rv, sy_bv_rt, sy_br_rr, sy_br_rn, sy_hi_ri, sy_hi_rt, sy_bs_t, sy_bx_t, sy_bb_t, bz_bo, ite_bz0, ite_bz1, jgX12_count_101, e122, hn]
  by_cases h0 : a < (Int32.ofNat 0)
  · refine opN_q I (v := -(Int32.ofNat 1)) ⟨M, ?_, fq_rfl⟩ (fun N hN => ⟨thr N 0, ?_, fr_thr⟩)
    · have ne : ∀ k : Nat, k < 100 → ¬ a = Int32.ofNat k := fun k hk z => znn k (by omega) (z ▸ h0)
      unfold jfX11_count
      rw [if_neg (show ¬ a = 0 from ne 0 (by decide)), if_neg (show ¬ a = 1 from ne 1 (by decide)), if_neg (show ¬ a = 2 from ne 2 (by decide)), if_neg (show ¬ a = 3 from ne 3 (by decide)), if_neg (show ¬ a = 4 from ne 4 (by decide)), if_neg (show ¬ a = 5 from ne 5 (by decide)), if_neg (show ¬ a = 6 from ne 6 (by decide)), if_neg (show ¬ a = 7 from ne 7 (by decide)), if_neg (show ¬ a = 8 from ne 8 (by decide)), if_neg (show ¬ a = 9 from ne 9 (by decide)), if_neg (show ¬ a = 10 from ne 10 (by decide)), if_neg (show ¬ a = 11 from ne 11 (by decide)), if_neg (show ¬ a = 12 from ne 12 (by decide)), if_neg (show ¬ a = 13 from ne 13 (by decide)), if_neg (show ¬ a = 14 from ne 14 (by decide))]
      rfl
    · have ne : ∀ k : Nat, k < 100 → ¬ a = Int32.ofNat k := fun k hk z => znn k (by omega) (z ▸ h0)
      have sn : sp_in a (Int32.ofNat 3) (Int32.ofNat 10) = false := sp_in_neg (Int32.lt_trans h0 (by decide))
      unfold jfX12_count
      simp only [zL, thr_up, m_isIn, sy_bi_ri, sn, ite_bz0, cond_false, lp N a hN]
      rw [if_neg (ne 0 (by decide)), if_neg (ne 1 (by decide)), if_neg (ne 2 (by decide)), if_neg (ne 11 (by decide)), if_neg (ne 13 (by decide)), if_neg (ne 14 (by decide)), if_neg (ne 12 (by decide))]
  · obtain ⟨k, hk, ea⟩ := zex_nat a h0
    subst ea
    have key : ∀ v : Int32, jfX11_count (Int32.ofNat k) M = sy_ri v M → (∀ N, rq M N → jfX12_count (Int32.ofNat k) N = sy_ri v (thr N 0)) → opN A tx L0 S e (jfX11_count (Int32.ofNat k) M) (jfX12_count (Int32.ofNat k)) := fun v h1 h2 => opN_q I (v := v) ⟨M, h1, fq_rfl⟩ (fun N hN => ⟨thr N 0, h2 N hN, fr_thr⟩)
    by_cases hk15 : k < 15
    · have es : ∀ N, rq M N → thr N 0 121 6 = Int32.ofNat s := fun N hN => by rw [thr_j _ _ (by decide), hN 121 (by omega) (by omega)]; exact t2
      have si : sp_in (Int32.ofNat k) (Int32.ofNat 3) (Int32.ofNat 10) = decide (3 ≤ k ∧ k ≤ 10) := sp_in_z hk (by omega) (by omega)
      rcases (show k = 0 ∨ k = 1 ∨ k = 2 ∨ k = 3 ∨ k = 4 ∨ k = 5 ∨ k = 6 ∨ k = 7 ∨ k = 8 ∨ k = 9 ∨ k = 10 ∨ k = 11 ∨ k = 12 ∨ k = 13 ∨ k = 14 by omega) with h | h | h | h | h | h | h | h | h | h | h | h | h | h | h <;> subst h
      · exact key (M 122 3) (by simp (disch := omega) only [zL, zlt, zle, zeq, zadd, zmul, zin, zix, zsh1, Nat.add_zero, Nat.zero_add, Nat.mul_zero, if_true, if_false, if_pos, if_neg, sy_bi_ri, sy_bi_rt, sy_bv_rv, sy_bv_rt, sy_br_rr, sy_br_rn, sy_hi_ri, sy_hi_rt, sy_bs_t, sy_bx_t, sy_bb_t, bz_bo, ite_bz0, ite_bz1, jfX11_count, hv_3 H.1]) (fun N hN => by simp (disch := omega) only [zL, zlt, zle, zeq, zadd, zmul, zin, zix, zsh1, Nat.add_zero, Nat.zero_add, Nat.mul_zero, if_true, if_false, if_pos, if_neg, sy_bi_ri, sy_bi_rt, sy_bv_rv, sy_bv_rt, sy_br_rr, sy_br_rn, sy_hi_ri, sy_hi_rt, sy_bs_t, sy_bx_t, sy_bb_t, bz_bo, ite_bz0, ite_bz1, jfX12_count, thr_up, ref N hN])
      · exact key (M 122 0) (by simp (disch := omega) only [zL, zlt, zle, zeq, zadd, zmul, zin, zix, zsh1, Nat.add_zero, Nat.zero_add, Nat.mul_zero, if_true, if_false, if_pos, if_neg, sy_bi_ri, sy_bi_rt, sy_bv_rv, sy_bv_rt, sy_br_rr, sy_br_rn, sy_hi_ri, sy_hi_rt, sy_bs_t, sy_bx_t, sy_bb_t, bz_bo, ite_bz0, ite_bz1, jfX11_count, hv_4 H.1]) (fun N hN => by simp (disch := omega) only [zL, zlt, zle, zeq, zadd, zmul, zin, zix, zsh1, Nat.add_zero, Nat.zero_add, Nat.mul_zero, if_true, if_false, if_pos, if_neg, sy_bi_ri, sy_bi_rt, sy_bv_rv, sy_bv_rt, sy_br_rr, sy_br_rn, sy_hi_ri, sy_hi_rt, sy_bs_t, sy_bx_t, sy_bb_t, bz_bo, ite_bz0, ite_bz1, jfX12_count, thr_up, ref N hN])
      · exact key (M 122 1) (by simp (disch := omega) only [zL, zlt, zle, zeq, zadd, zmul, zin, zix, zsh1, Nat.add_zero, Nat.zero_add, Nat.mul_zero, if_true, if_false, if_pos, if_neg, sy_bi_ri, sy_bi_rt, sy_bv_rv, sy_bv_rt, sy_br_rr, sy_br_rn, sy_hi_ri, sy_hi_rt, sy_bs_t, sy_bx_t, sy_bb_t, bz_bo, ite_bz0, ite_bz1, jfX11_count, hl]) (fun N hN => by simp (disch := omega) only [zL, zlt, zle, zeq, zadd, zmul, zin, zix, zsh1, Nat.add_zero, Nat.zero_add, Nat.mul_zero, if_true, if_false, if_pos, if_neg, sy_bi_ri, sy_bi_rt, sy_bv_rv, sy_bv_rt, sy_br_rr, sy_br_rn, sy_hi_ri, sy_hi_rt, sy_bs_t, sy_bx_t, sy_bb_t, bz_bo, ite_bz0, ite_bz1, jfX12_count, thr_up, ref N hN])
      · exact key (M 122 4) (by simp (disch := omega) only [zL, zlt, zle, zeq, zadd, zmul, zin, zix, zsh1, Nat.add_zero, Nat.zero_add, Nat.mul_zero, if_true, if_false, if_pos, if_neg, sy_bi_ri, sy_bi_rt, sy_bv_rv, sy_bv_rt, sy_br_rr, sy_br_rn, sy_hi_ri, sy_hi_rt, sy_bs_t, sy_bx_t, sy_bb_t, bz_bo, ite_bz0, ite_bz1, jfX11_count, hv_5 H.1]) (fun N hN => by simp (disch := omega) only [zL, zlt, zle, zeq, zadd, zmul, zin, zix, zsh1, Nat.add_zero, Nat.zero_add, Nat.mul_zero, if_true, if_false, if_pos, if_neg, sy_bi_ri, sy_bi_rt, sy_bv_rv, sy_bv_rt, sy_br_rr, sy_br_rn, sy_hi_ri, sy_hi_rt, sy_bs_t, sy_bx_t, sy_bb_t, bz_bo, ite_bz0, ite_bz1, jfX12_count, thr_up, ref N hN, m_isIn, (show sp_in (Int32.ofNat 3) (Int32.ofNat 3) (Int32.ofNat 10) = true by decide), cond_true, zsub])
      · exact key (M 122 5) (by simp (disch := omega) only [zL, zlt, zle, zeq, zadd, zmul, zin, zix, zsh1, Nat.add_zero, Nat.zero_add, Nat.mul_zero, if_true, if_false, if_pos, if_neg, sy_bi_ri, sy_bi_rt, sy_bv_rv, sy_bv_rt, sy_br_rr, sy_br_rn, sy_hi_ri, sy_hi_rt, sy_bs_t, sy_bx_t, sy_bb_t, bz_bo, ite_bz0, ite_bz1, jfX11_count, hv_6 H.1]) (fun N hN => by simp (disch := omega) only [zL, zlt, zle, zeq, zadd, zmul, zin, zix, zsh1, Nat.add_zero, Nat.zero_add, Nat.mul_zero, if_true, if_false, if_pos, if_neg, sy_bi_ri, sy_bi_rt, sy_bv_rv, sy_bv_rt, sy_br_rr, sy_br_rn, sy_hi_ri, sy_hi_rt, sy_bs_t, sy_bx_t, sy_bb_t, bz_bo, ite_bz0, ite_bz1, jfX12_count, thr_up, ref N hN, m_isIn, (show sp_in (Int32.ofNat 4) (Int32.ofNat 3) (Int32.ofNat 10) = true by decide), cond_true, zsub])
      · exact key (M 122 6) (by simp (disch := omega) only [zL, zlt, zle, zeq, zadd, zmul, zin, zix, zsh1, Nat.add_zero, Nat.zero_add, Nat.mul_zero, if_true, if_false, if_pos, if_neg, sy_bi_ri, sy_bi_rt, sy_bv_rv, sy_bv_rt, sy_br_rr, sy_br_rn, sy_hi_ri, sy_hi_rt, sy_bs_t, sy_bx_t, sy_bb_t, bz_bo, ite_bz0, ite_bz1, jfX11_count, hv_7 H.1]) (fun N hN => by simp (disch := omega) only [zL, zlt, zle, zeq, zadd, zmul, zin, zix, zsh1, Nat.add_zero, Nat.zero_add, Nat.mul_zero, if_true, if_false, if_pos, if_neg, sy_bi_ri, sy_bi_rt, sy_bv_rv, sy_bv_rt, sy_br_rr, sy_br_rn, sy_hi_ri, sy_hi_rt, sy_bs_t, sy_bx_t, sy_bb_t, bz_bo, ite_bz0, ite_bz1, jfX12_count, thr_up, ref N hN, m_isIn, (show sp_in (Int32.ofNat 5) (Int32.ofNat 3) (Int32.ofNat 10) = true by decide), cond_true, zsub])
      · exact key (M 122 7) (by simp (disch := omega) only [zL, zlt, zle, zeq, zadd, zmul, zin, zix, zsh1, Nat.add_zero, Nat.zero_add, Nat.mul_zero, if_true, if_false, if_pos, if_neg, sy_bi_ri, sy_bi_rt, sy_bv_rv, sy_bv_rt, sy_br_rr, sy_br_rn, sy_hi_ri, sy_hi_rt, sy_bs_t, sy_bx_t, sy_bb_t, bz_bo, ite_bz0, ite_bz1, jfX11_count, hv_8 H.1]) (fun N hN => by simp (disch := omega) only [zL, zlt, zle, zeq, zadd, zmul, zin, zix, zsh1, Nat.add_zero, Nat.zero_add, Nat.mul_zero, if_true, if_false, if_pos, if_neg, sy_bi_ri, sy_bi_rt, sy_bv_rv, sy_bv_rt, sy_br_rr, sy_br_rn, sy_hi_ri, sy_hi_rt, sy_bs_t, sy_bx_t, sy_bb_t, bz_bo, ite_bz0, ite_bz1, jfX12_count, thr_up, ref N hN, m_isIn, (show sp_in (Int32.ofNat 6) (Int32.ofNat 3) (Int32.ofNat 10) = true by decide), cond_true, zsub])
      · exact key (M 122 8) (by simp (disch := omega) only [zL, zlt, zle, zeq, zadd, zmul, zin, zix, zsh1, Nat.add_zero, Nat.zero_add, Nat.mul_zero, if_true, if_false, if_pos, if_neg, sy_bi_ri, sy_bi_rt, sy_bv_rv, sy_bv_rt, sy_br_rr, sy_br_rn, sy_hi_ri, sy_hi_rt, sy_bs_t, sy_bx_t, sy_bb_t, bz_bo, ite_bz0, ite_bz1, jfX11_count, hv_9 H.1]) (fun N hN => by simp (disch := omega) only [zL, zlt, zle, zeq, zadd, zmul, zin, zix, zsh1, Nat.add_zero, Nat.zero_add, Nat.mul_zero, if_true, if_false, if_pos, if_neg, sy_bi_ri, sy_bi_rt, sy_bv_rv, sy_bv_rt, sy_br_rr, sy_br_rn, sy_hi_ri, sy_hi_rt, sy_bs_t, sy_bx_t, sy_bb_t, bz_bo, ite_bz0, ite_bz1, jfX12_count, thr_up, ref N hN, m_isIn, (show sp_in (Int32.ofNat 7) (Int32.ofNat 3) (Int32.ofNat 10) = true by decide), cond_true, zsub])
      · exact key (M 122 9) (by simp (disch := omega) only [zL, zlt, zle, zeq, zadd, zmul, zin, zix, zsh1, Nat.add_zero, Nat.zero_add, Nat.mul_zero, if_true, if_false, if_pos, if_neg, sy_bi_ri, sy_bi_rt, sy_bv_rv, sy_bv_rt, sy_br_rr, sy_br_rn, sy_hi_ri, sy_hi_rt, sy_bs_t, sy_bx_t, sy_bb_t, bz_bo, ite_bz0, ite_bz1, jfX11_count, hv_10 H.1]) (fun N hN => by simp (disch := omega) only [zL, zlt, zle, zeq, zadd, zmul, zin, zix, zsh1, Nat.add_zero, Nat.zero_add, Nat.mul_zero, if_true, if_false, if_pos, if_neg, sy_bi_ri, sy_bi_rt, sy_bv_rv, sy_bv_rt, sy_br_rr, sy_br_rn, sy_hi_ri, sy_hi_rt, sy_bs_t, sy_bx_t, sy_bb_t, bz_bo, ite_bz0, ite_bz1, jfX12_count, thr_up, ref N hN, m_isIn, (show sp_in (Int32.ofNat 8) (Int32.ofNat 3) (Int32.ofNat 10) = true by decide), cond_true, zsub])
      · exact key (M 122 10) (by simp (disch := omega) only [zL, zlt, zle, zeq, zadd, zmul, zin, zix, zsh1, Nat.add_zero, Nat.zero_add, Nat.mul_zero, if_true, if_false, if_pos, if_neg, sy_bi_ri, sy_bi_rt, sy_bv_rv, sy_bv_rt, sy_br_rr, sy_br_rn, sy_hi_ri, sy_hi_rt, sy_bs_t, sy_bx_t, sy_bb_t, bz_bo, ite_bz0, ite_bz1, jfX11_count, hv_11 H.1]) (fun N hN => by simp (disch := omega) only [zL, zlt, zle, zeq, zadd, zmul, zin, zix, zsh1, Nat.add_zero, Nat.zero_add, Nat.mul_zero, if_true, if_false, if_pos, if_neg, sy_bi_ri, sy_bi_rt, sy_bv_rv, sy_bv_rt, sy_br_rr, sy_br_rn, sy_hi_ri, sy_hi_rt, sy_bs_t, sy_bx_t, sy_bb_t, bz_bo, ite_bz0, ite_bz1, jfX12_count, thr_up, ref N hN, m_isIn, (show sp_in (Int32.ofNat 9) (Int32.ofNat 3) (Int32.ofNat 10) = true by decide), cond_true, zsub])
      · exact key (M 122 11) (by simp (disch := omega) only [zL, zlt, zle, zeq, zadd, zmul, zin, zix, zsh1, Nat.add_zero, Nat.zero_add, Nat.mul_zero, if_true, if_false, if_pos, if_neg, sy_bi_ri, sy_bi_rt, sy_bv_rv, sy_bv_rt, sy_br_rr, sy_br_rn, sy_hi_ri, sy_hi_rt, sy_bs_t, sy_bx_t, sy_bb_t, bz_bo, ite_bz0, ite_bz1, jfX11_count, hv_12 H.1]) (fun N hN => by simp (disch := omega) only [zL, zlt, zle, zeq, zadd, zmul, zin, zix, zsh1, Nat.add_zero, Nat.zero_add, Nat.mul_zero, if_true, if_false, if_pos, if_neg, sy_bi_ri, sy_bi_rt, sy_bv_rv, sy_bv_rt, sy_br_rr, sy_br_rn, sy_hi_ri, sy_hi_rt, sy_bs_t, sy_bx_t, sy_bb_t, bz_bo, ite_bz0, ite_bz1, jfX12_count, thr_up, ref N hN, m_isIn, (show sp_in (Int32.ofNat 10) (Int32.ofNat 3) (Int32.ofNat 10) = true by decide), cond_true, zsub])
      · exact key (sp_sum (M 122) n 7) (by simp (disch := omega) only [zL, zlt, zle, zeq, zadd, zmul, zin, zix, zsh1, Nat.add_zero, Nat.zero_add, Nat.mul_zero, if_true, if_false, if_pos, if_neg, sy_bi_ri, sy_bi_rt, sy_bv_rv, sy_bv_rt, sy_br_rr, sy_br_rn, sy_hi_ri, sy_hi_rt, sy_bs_t, sy_bx_t, sy_bb_t, bz_bo, ite_bz0, ite_bz1, jfX11_count, jfX11_count_164, c_sum H.1 (w := 7) (by decide) hn h7]) (fun N hN => by simp (disch := omega) only [zL, zlt, zle, zeq, zadd, zmul, zin, zix, zsh1, Nat.add_zero, Nat.zero_add, Nat.mul_zero, if_true, if_false, if_pos, if_neg, sy_bi_ri, sy_bi_rt, sy_bv_rv, sy_bv_rt, sy_br_rr, sy_br_rn, sy_hi_ri, sy_hi_rt, sy_bs_t, sy_bx_t, sy_bb_t, bz_bo, ite_bz0, ite_bz1, jfX12_count, thr_up, m_isIn, (show sp_in (Int32.ofNat 11) (Int32.ofNat 3) (Int32.ofNat 10) = false by decide), cond_false, m_coldOfAll (ref N hN) hn h7])
      · exact key (sp_sum (M 122) n 5) (by simp (disch := omega) only [zL, zlt, zle, zeq, zadd, zmul, zin, zix, zsh1, Nat.add_zero, Nat.zero_add, Nat.mul_zero, if_true, if_false, if_pos, if_neg, sy_bi_ri, sy_bi_rt, sy_bv_rv, sy_bv_rt, sy_br_rr, sy_br_rn, sy_hi_ri, sy_hi_rt, sy_bs_t, sy_bx_t, sy_bb_t, bz_bo, ite_bz0, ite_bz1, jfX11_count, jfX11_count_174, c_sum H.1 (w := 5) (by decide) hn h7]) (fun N hN => by simp (disch := omega) only [zL, zlt, zle, zeq, zadd, zmul, zin, zix, zsh1, Nat.add_zero, Nat.zero_add, Nat.mul_zero, if_true, if_false, if_pos, if_neg, sy_bi_ri, sy_bi_rt, sy_bv_rv, sy_bv_rt, sy_br_rr, sy_br_rn, sy_hi_ri, sy_hi_rt, sy_bs_t, sy_bx_t, sy_bb_t, bz_bo, ite_bz0, ite_bz1, jfX12_count, thr_up, m_isIn, (show sp_in (Int32.ofNat 12) (Int32.ofNat 3) (Int32.ofNat 10) = false by decide), cond_false, lp N _ hN])
      · exact key (M 122 12) (by simp (disch := omega) only [zL, zlt, zle, zeq, zadd, zmul, zin, zix, zsh1, Nat.add_zero, Nat.zero_add, Nat.mul_zero, if_true, if_false, if_pos, if_neg, sy_bi_ri, sy_bi_rt, sy_bv_rv, sy_bv_rt, sy_br_rr, sy_br_rn, sy_hi_ri, sy_hi_rt, sy_bs_t, sy_bx_t, sy_bb_t, bz_bo, ite_bz0, ite_bz1, jfX11_count, e12, er]) (fun N hN => by simp (disch := omega) only [zL, zlt, zle, zeq, zadd, zmul, zin, zix, zsh1, Nat.add_zero, Nat.zero_add, Nat.mul_zero, if_true, if_false, if_pos, if_neg, sy_bi_ri, sy_bi_rt, sy_bv_rv, sy_bv_rt, sy_br_rr, sy_br_rn, sy_hi_ri, sy_hi_rt, sy_bs_t, sy_bx_t, sy_bb_t, bz_bo, ite_bz0, ite_bz1, jfX12_count, thr_up, m_isIn, (show sp_in (Int32.ofNat 13) (Int32.ofNat 3) (Int32.ofNat 10) = false by decide), cond_false, ref N hN])
      · exact key (Int32.ofNat s) (by simp (disch := omega) only [zL, zlt, zle, zeq, zadd, zmul, zin, zix, zsh1, Nat.add_zero, Nat.zero_add, Nat.mul_zero, if_true, if_false, if_pos, if_neg, sy_bi_ri, sy_bi_rt, sy_bv_rv, sy_bv_rt, sy_br_rr, sy_br_rn, sy_hi_ri, sy_hi_rt, sy_bs_t, sy_bx_t, sy_bb_t, bz_bo, ite_bz0, ite_bz1, jfX11_count, t1]) (fun N hN => by simp (disch := omega) only [zL, zlt, zle, zeq, zadd, zmul, zin, zix, zsh1, Nat.add_zero, Nat.zero_add, Nat.mul_zero, if_true, if_false, if_pos, if_neg, sy_bi_ri, sy_bi_rt, sy_bv_rv, sy_bv_rt, sy_br_rr, sy_br_rn, sy_hi_ri, sy_hi_rt, sy_bs_t, sy_bx_t, sy_bb_t, bz_bo, ite_bz0, ite_bz1, jfX12_count, thr_up, m_isIn, (show sp_in (Int32.ofNat 14) (Int32.ofNat 3) (Int32.ofNat 10) = false by decide), cond_false, es N hN])
    · exact key (-(Int32.ofNat 1)) (by simp (disch := omega) only [zL, zlt, zle, zeq, zadd, zmul, zin, zix, zsh1, Nat.add_zero, Nat.zero_add, Nat.mul_zero, if_true, if_false, if_pos, if_neg, sy_bi_ri, sy_bi_rt, sy_bv_rv, sy_bv_rt, sy_br_rr, sy_br_rn, sy_hi_ri, sy_hi_rt, sy_bs_t, sy_bx_t, sy_bb_t, bz_bo, ite_bz0, ite_bz1, jfX11_count]) (fun N hN => by
        have sn : sp_in (Int32.ofNat k) (Int32.ofNat 3) (Int32.ofNat 10) = false := by rw [sp_in_z hk (by omega) (by omega)]; exact decide_eq_false (by omega)
        simp (disch := omega) only [zL, zlt, zle, zeq, zadd, zmul, zin, zix, zsh1, Nat.add_zero, Nat.zero_add, Nat.mul_zero, if_true, if_false, if_pos, if_neg, sy_bi_ri, sy_bi_rt, sy_bv_rv, sy_bv_rt, sy_br_rr, sy_br_rn, sy_hi_ri, sy_hi_rt, sy_bs_t, sy_bx_t, sy_bb_t, bz_bo, ite_bz0, ite_bz1, jfX12_count, thr_up, m_isIn, sn, cond_false, lp N _ hN])
end
