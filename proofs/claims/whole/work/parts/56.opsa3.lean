/-! ===== hours, shares, tops, coins, keepers ===== -/
section
variable {A : (Nat → Int32) → Nat → Int32 × Bool} {tx : (Nat → Int32) → Prop} {L0 : Int32} {S : Nat → Int32} {e : Nat} {M : sy_M}
theorem sp_at_N {f : Nat → Int32} {p a b t : Nat} (ha : f (14 + 9 * p + 1) = Int32.ofNat a) (hb : f (14 + 9 * p + 2) = Int32.ofNat b) (h1 : a < 48) (h2 : b < 48) (h3 : t < 1000) : sp_at f p (Int32.ofNat t) = atN a b t := by
  unfold sp_at sp_in atN
  rw [ha, hb]
  have d1 : decide (Int32.ofNat b < Int32.ofNat a) = Nat.blt b a := by
    rw [Bool.eq_iff_iff, decide_eq_true_iff, zlt (by omega) (by omega), Nat.blt_eq]
  have d2 : (!decide (Int32.ofNat t < Int32.ofNat a)) = Nat.ble a t := by
    rw [Bool.eq_iff_iff, Bool.not_eq_true', decide_eq_false_iff_not, zlt (by omega) (by omega), Nat.ble_eq]
    omega
  have d3 : (!decide (Int32.ofNat b < Int32.ofNat t)) = Nat.ble t b := by
    rw [Bool.eq_iff_iff, Bool.not_eq_true', decide_eq_false_iff_not, zlt (by omega) (by omega), Nat.ble_eq]
    omega
  rw [d1, d2, d3]
theorem sp_hours_N {f : Nat → Int32} {p a b : Nat} (ha : f (14 + 9 * p + 1) = Int32.ofNat a) (hb : f (14 + 9 * p + 2) = Int32.ofNat b) (h1 : a < 48) (h2 : b < 48) : sp_hours f p = Int32.ofNat (hrsN a b) := by
  have key : ∀ m, m ≤ 48 → sy_fo (fun t x => x + bz (sp_at f p (Int32.ofNat t))) m 0 (Int32.ofNat 0) = Int32.ofNat (sy_fo (fun t x => x + (bif atN a b t then 1 else 0)) m 0 0) := by
    intro m
    induction m with
    | zero => exact fun _ => rfl
    | succ m ih =>
      intro h
      rw [sy_fo_last, sy_fo_last, ih (by omega), Nat.zero_add, sp_at_N ha hb h1 h2 (by omega)]
      cases atN a b m
      · rw [cond_false, show bz false = (Int32.ofNat 0) from rfl, zadd]
      · rw [cond_true, show bz true = (Int32.ofNat 1) from rfl, zadd]
  exact key 48 (Nat.le_refl _)
theorem hours_le {f : Nat → Int32} {p : Nat} (H : rb f) (hp : p < 7) : ∃ k, 1 ≤ k ∧ k ≤ 48 ∧ sp_hours f p = Int32.ofNat k := by
  obtain ⟨a, h1, e1⟩ := rb_from H hp
  obtain ⟨b, h2, e2⟩ := rb_to H hp
  have := hrs_le ⟨a, by omega⟩ ⟨b, by omega⟩
  exact ⟨_, this.1, this.2, sp_hours_N e1 e2 (by omega) (by omega)⟩
theorem c_hours {h p : Nat} {f : Nat → Int32} (H : hv M h f) (hb : rb f) (hp : p < 7) : jfX2_hours h (Int32.ofNat p) M = sy_ri (sp_hours f p) M := by
  obtain ⟨a, h1, e1⟩ := rb_from hb hp
  obtain ⟨b, h2, e2⟩ := rb_to hb hp
  rw [sp_hours_N e1 e2 (by omega) (by omega), ← hrs_fm ⟨a, by omega⟩ ⟨b, by omega⟩]
  have fm : ∀ (x : Int32), jfJ9_floorMod_7cf53 x (Int32.ofNat 48) M = sy_ri (fm48 x) M := by
    intro x
    unfold jfJ9_floorMod_7cf53 fm48
    rw [if_neg (show ¬ ((Int32.ofNat 48) : Int32) = 0 by decide)]
    show (if (x ^^^ (Int32.ofNat 48)) < 0 then _ else _) = _
    by_cases q1 : (x ^^^ (Int32.ofNat 48)) < (Int32.ofNat 0)
    · rw [if_pos (show (x ^^^ (Int32.ofNat 48)) < 0 from q1), if_pos q1]
      by_cases q2 : x - x / (Int32.ofNat 48) * (Int32.ofNat 48) = (Int32.ofNat 0)
      · rw [if_pos (show x - x / (Int32.ofNat 48) * (Int32.ofNat 48) = 0 from q2), if_pos q2]
      · rw [if_neg (show ¬ x - x / (Int32.ofNat 48) * (Int32.ofNat 48) = 0 from q2), if_neg q2]
    · rw [if_neg (show ¬ (x ^^^ (Int32.ofNat 48)) < 0 from q1), if_neg q1]
  simp (disch := omega) only [jfX2_hours, H.1, sy_bs_t, zL, c_get H, sy_bi_ri, e1, e2, fm]
def sp_mt (f : Nat → Int32) (p : Nat) : Int32 := f (14 + 9 * p) * sp_hours f p
theorem c_metered {h p : Nat} {f : Nat → Int32} (H : hv M h f) (hb : rb f) (hp : p < 7) : jfX2_metered h (Int32.ofNat p) M = sy_ri (sp_mt f p) M := by
  unfold sp_mt
  simp (disch := omega) only [zL, zlt, zle, zeq, zadd, zmul, zin, zix, zsh1, Nat.add_zero, Nat.zero_add, Nat.mul_zero, if_true, if_false, if_pos, if_neg, sy_bi_ri, sy_bi_rt, sy_bv_rv, sy_bv_rt, sy_br_rr, sy_br_rn, sy_hi_ri, sy_hi_rt, sy_bs_t, sy_bx_t, sy_bb_t, bz_bo, ite_bz0, ite_bz1, jfX2_metered, H.1, c_get H, c_hours H hb]
theorem m_metered {p : Nat} {f : Nat → Int32} (hf : M 122 = f) (hp : p < 7) : jfX12_metered (Int32.ofNat p) M = sy_ri (sp_mt f p) M := by
  have e1 := m_hoursOf (M := M) hp
  rw [hf] at e1
  unfold sp_mt
  simp (disch := omega) only [zL, zlt, zle, zeq, zadd, zmul, zin, zix, zsh1, Nat.add_zero, Nat.zero_add, Nat.mul_zero, if_true, if_false, if_pos, if_neg, sy_bi_ri, sy_bi_rt, sy_bv_rv, sy_bv_rt, sy_br_rr, sy_br_rn, sy_hi_ri, sy_hi_rt, sy_bs_t, sy_bx_t, sy_bb_t, bz_bo, ite_bz0, ite_bz1, jfX12_metered, m_of, hf, e1]
theorem mt_le {n p : Nat} {f : Nat → Int32} (G : gr f n) (hp : p < n) : ∃ k, 1 ≤ k ∧ k ≤ 432 ∧ sp_mt f p = Int32.ofNat k := by
  have h7 := G.2.2.1
  obtain ⟨k, h1, h2, e1⟩ := hours_le G.1 (p := p) (by omega)
  obtain ⟨b, h3, e2⟩ := rb_burns G.1 (p := p) (by omega)
  have hb := G.2.2.2.2.2.2 p hp
  have b1 : 1 ≤ b := by
    rcases Nat.eq_zero_or_pos b with h | h
    · exact absurd (e2.trans (by rw [h])) hb
    · exact h
  refine ⟨b * k, Nat.mul_le_mul b1 h1, ?_, ?_⟩
  · exact Nat.le_trans (Nat.mul_le_mul h3 h2) (by decide)
  · unfold sp_mt
    rw [e1, e2, zmul]
def sp_ms (f : Nat → Int32) (m : Nat) : Int32 := sy_fo (fun p a => a + sp_mt f p) m 0 (Int32.ofNat 0)
theorem ms_le {n : Nat} {f : Nat → Int32} (G : gr f n) : ∀ m, m ≤ n → ∃ k, m ≤ k ∧ k ≤ 432 * m ∧ sp_ms f m = Int32.ofNat k := by
  intro m
  unfold sp_ms
  induction m with
  | zero => exact fun _ => ⟨0, by omega, by omega, rfl⟩
  | succ m ih =>
    intro h
    obtain ⟨k, h1, h2, e1⟩ := ih (by omega)
    obtain ⟨j, h3, h4, e2⟩ := mt_le G (p := m) (by omega)
    exact ⟨k + j, by omega, by omega, by rw [sy_fo_last, e1, Nat.zero_add, e2, zadd]⟩
def sp_fr (f : Nat → Int32) (n m : Nat) (q : Int32) : Int32 := sy_fo (fun p a => a - q * sp_mt f p / sp_ms f n) m 0 q
theorem o_fair (I : Inv A tx L0 S e M) (he : e < 90000) (a b : Int32) : opT A tx L0 S e (jfL_fair a b M) (jfX12_fair a b) := by
  obtain ⟨n, G, H, ht, hA, hl⟩ := id I.1
  have hn := G.2.1
  have h7 := G.2.2.1
  obtain ⟨xk, hxk, exk⟩ := I.2.2.2.2.2.2.2.2.1
  have hx := xok he hxk exk
  have h9 : M 9 3 = Int32.ofNat n := (hv_3 H.1).trans hn
  have D19 := I.2.2.2.2.1
  unfold jfL_fair
  rcases ck_lodger h7 h9 hx a with ⟨p, hp, ea, ck, sa⟩ | ⟨sa, ck⟩
  · rcases ck_range (lo := 0) (hi := 999) (by decide) (by decide) hx b with ⟨q, _, hq, eb, ck2, sb⟩ | ⟨sb, ck2⟩
    · subst ea eb
      obtain ⟨s, hs1, hs2, es⟩ := ms_le G n (Nat.le_refl _)
      have p0 : (Int32.ofNat 0) < sp_ms (M 122) n := by rw [es, zlt (by omega) (by omega)]; omega
      have p1 : sp_ms (M 122) n ≠ (Int32.ofNat 0) := by rw [es]; intro z; rw [zeq (by omega) (by omega)] at z; omega
      refine opT_q I (v := Int32.ofNat q * sp_mt (M 122) p / sp_ms (M 122) n + (if Int32.ofNat p < sp_fr (M 122) n n (Int32.ofNat q) then (Int32.ofNat 1) else (Int32.ofNat 0))) ⟨M, ?_, fq_rfl⟩ (fun N hN => ⟨thr N 0, ?_, thr_0 _ _, fr_thr⟩)
      · have sh : ∀ x, jfX11_share (Int32.ofNat q) x (sp_ms (M 122) n) M = sy_ri (Int32.ofNat q * x / sp_ms (M 122) n) M := by
          intro x
          unfold jfX11_share
          rw [if_pos (show 0 < sp_ms (M 122) n from p0), if_neg (show ¬ sp_ms (M 122) n = 0 from p1)]
        have e1 : jfX11_fair_18 sy_F (Int32.ofNat p) (Int32.ofNat q) (Int32.ofNat 0) (Int32.ofNat 0) M = jfX11_fair_54 sy_F (Int32.ofNat p) (Int32.ofNat q) (sp_ms (M 122) n) (Int32.ofNat q) (Int32.ofNat 0) M := by
          unfold sp_ms
          obtain ⟨k, hk⟩ := sy_for1 (n := n) (F := sy_F) (fun k i (x : Int32) => jfX11_fair_18 k (Int32.ofNat p) (Int32.ofNat q) x (Int32.ofNat i) M) (fun p a => a + sp_mt (M 122) p) (by
            intro k i x hi
            show jgX11_fair_18 (jfX11_fair_18 k) (Int32.ofNat p) (Int32.ofNat q) x (Int32.ofNat i) M = _
            simp (disch := omega) only [zL, zlt, zle, zeq, zadd, zmul, zin, zix, zsh1, Nat.add_zero, Nat.zero_add, Nat.mul_zero, if_true, if_false, if_pos, if_neg, sy_bi_ri, sy_bi_rt, sy_bv_rv, sy_bv_rt, sy_br_rr, sy_br_rn, sy_hi_ri, sy_hi_rt, sy_bs_t, sy_bx_t, sy_bb_t, bz_bo, ite_bz0, ite_bz1, jgX11_fair_18, hv_3 H.1, hn, c_metered H.1 G.1]) (Int32.ofNat 0) (by rw [sy_F_eq]; omega)
          refine hk.trans ?_
          show jgX11_fair_18 (jfX11_fair_18 k) (Int32.ofNat p) (Int32.ofNat q) _ (Int32.ofNat n) M = _
          simp (disch := omega) only [zL, zlt, zle, zeq, zadd, zmul, zin, zix, zsh1, Nat.add_zero, Nat.zero_add, Nat.mul_zero, if_true, if_false, if_pos, if_neg, sy_bi_ri, sy_bi_rt, sy_bv_rv, sy_bv_rt, sy_br_rr, sy_br_rn, sy_hi_ri, sy_hi_rt, sy_bs_t, sy_bx_t, sy_bb_t, bz_bo, ite_bz0, ite_bz1, jgX11_fair_18, hv_3 H.1, hn]
        have e2 : jfX11_fair_54 sy_F (Int32.ofNat p) (Int32.ofNat q) (sp_ms (M 122) n) (Int32.ofNat q) (Int32.ofNat 0) M = sy_ri (Int32.ofNat q * sp_mt (M 122) p / sp_ms (M 122) n + (if Int32.ofNat p < sp_fr (M 122) n n (Int32.ofNat q) then (Int32.ofNat 1) else (Int32.ofNat 0))) M := by
          unfold sp_fr
          obtain ⟨k, hk⟩ := sy_for1 (n := n) (F := sy_F) (fun k i (x : Int32) => jfX11_fair_54 k (Int32.ofNat p) (Int32.ofNat q) (sp_ms (M 122) n) x (Int32.ofNat i) M) (fun p a => a - Int32.ofNat q * sp_mt (M 122) p / sp_ms (M 122) n) (by
            intro k i x hi
            show jgX11_fair_54 (jfX11_fair_54 k) (Int32.ofNat p) (Int32.ofNat q) (sp_ms (M 122) n) x (Int32.ofNat i) M = _
            simp (disch := omega) only [zL, zlt, zle, zeq, zadd, zmul, zin, zix, zsh1, Nat.add_zero, Nat.zero_add, Nat.mul_zero, if_true, if_false, if_pos, if_neg, sy_bi_ri, sy_bi_rt, sy_bv_rv, sy_bv_rt, sy_br_rr, sy_br_rn, sy_hi_ri, sy_hi_rt, sy_bs_t, sy_bx_t, sy_bb_t, bz_bo, ite_bz0, ite_bz1, jgX11_fair_54, hv_3 H.1, hn, c_metered H.1 G.1, sh]) (Int32.ofNat q) (by rw [sy_F_eq]; omega)
          refine hk.trans ?_
          show jgX11_fair_54 (jfX11_fair_54 k) (Int32.ofNat p) (Int32.ofNat q) (sp_ms (M 122) n) _ (Int32.ofNat n) M = _
          simp (disch := omega) only [zL, zlt, zle, zeq, zadd, zmul, zin, zix, zsh1, Nat.add_zero, Nat.zero_add, Nat.mul_zero, if_true, if_false, if_pos, if_neg, sy_bi_ri, sy_bi_rt, sy_bv_rv, sy_bv_rt, sy_br_rr, sy_br_rn, sy_hi_ri, sy_hi_rt, sy_bs_t, sy_bx_t, sy_bb_t, bz_bo, ite_bz0, ite_bz1, jgX11_fair_54, hv_3 H.1, hn, c_metered H.1 G.1, sh]
          split <;> rfl
        simp (disch := omega) only [zL, zlt, zle, zeq, zadd, zmul, zin, zix, zsh1, Nat.add_zero, Nat.zero_add, Nat.mul_zero, if_true, if_false, if_pos, if_neg, sy_bi_ri, sy_bi_rt, sy_bv_rv, sy_bv_rt, sy_br_rr, sy_br_rn, sy_hi_ri, sy_hi_rt, sy_bs_t, sy_bx_t, sy_bb_t, bz_bo, ite_bz0, ite_bz1, jfX11_fair, ck, ck2, e1, e2]
      · have e122 : thr N 0 122 = M 122 := (thr_ne _ _ (by decide)).trans (hN 122 (by omega) (by omega))
        have eN : N 122 3 = Int32.ofNat n := by rw [hN 122 (by omega) (by omega)]; exact hn
        have e1 : jfX12_fair_46 sy_F (Int32.ofNat p) (Int32.ofNat q) (Int32.ofNat 0) (Int32.ofNat 0) (thr N 0) = jfX12_fair_78 sy_F (Int32.ofNat p) (Int32.ofNat q) (sp_ms (M 122) n) (Int32.ofNat q) (Int32.ofNat 0) (thr N 0) := by
          unfold sp_ms
          obtain ⟨k, hk⟩ := sy_for1 (n := n) (F := sy_F) (fun k i (x : Int32) => jfX12_fair_46 k (Int32.ofNat p) (Int32.ofNat q) x (Int32.ofNat i) (thr N 0)) (fun p a => a + sp_mt (M 122) p) (by
            intro k i x hi
            show jgX12_fair_46 (jfX12_fair_46 k) (Int32.ofNat p) (Int32.ofNat q) x (Int32.ofNat i) (thr N 0) = _
            simp (disch := omega) only [zL, zlt, zle, zeq, zadd, zmul, zin, zix, zsh1, Nat.add_zero, Nat.zero_add, Nat.mul_zero, if_true, if_false, if_pos, if_neg, sy_bi_ri, sy_bi_rt, sy_bv_rv, sy_bv_rt, sy_br_rr, sy_br_rn, sy_hi_ri, sy_hi_rt, sy_bs_t, sy_bx_t, sy_bb_t, bz_bo, ite_bz0, ite_bz1, jgX12_fair_46, e122, hn, m_metered e122]) (Int32.ofNat 0) (by rw [sy_F_eq]; omega)
          refine hk.trans ?_
          show jgX12_fair_46 (jfX12_fair_46 k) (Int32.ofNat p) (Int32.ofNat q) _ (Int32.ofNat n) (thr N 0) = _
          simp (disch := omega) only [zL, zlt, zle, zeq, zadd, zmul, zin, zix, zsh1, Nat.add_zero, Nat.zero_add, Nat.mul_zero, if_true, if_false, if_pos, if_neg, sy_bi_ri, sy_bi_rt, sy_bv_rv, sy_bv_rt, sy_br_rr, sy_br_rn, sy_hi_ri, sy_hi_rt, sy_bs_t, sy_bx_t, sy_bb_t, bz_bo, ite_bz0, ite_bz1, jgX12_fair_46, e122, hn]
        have e2 : jfX12_fair_78 sy_F (Int32.ofNat p) (Int32.ofNat q) (sp_ms (M 122) n) (Int32.ofNat q) (Int32.ofNat 0) (thr N 0) = sy_ri (Int32.ofNat q * sp_mt (M 122) p / sp_ms (M 122) n + (if Int32.ofNat p < sp_fr (M 122) n n (Int32.ofNat q) then (Int32.ofNat 1) else (Int32.ofNat 0))) (thr N 0) := by
          unfold sp_fr
          obtain ⟨k, hk⟩ := sy_for1 (n := n) (F := sy_F) (fun k i (x : Int32) => jfX12_fair_78 k (Int32.ofNat p) (Int32.ofNat q) (sp_ms (M 122) n) x (Int32.ofNat i) (thr N 0)) (fun p a => a - Int32.ofNat q * sp_mt (M 122) p / sp_ms (M 122) n) (by
            intro k i x hi
            show jgX12_fair_78 (jfX12_fair_78 k) (Int32.ofNat p) (Int32.ofNat q) (sp_ms (M 122) n) x (Int32.ofNat i) (thr N 0) = _
            simp (disch := omega) only [zL, zlt, zle, zeq, zadd, zmul, zin, zix, zsh1, Nat.add_zero, Nat.zero_add, Nat.mul_zero, if_true, if_false, if_pos, if_neg, sy_bi_ri, sy_bi_rt, sy_bv_rv, sy_bv_rt, sy_br_rr, sy_br_rn, sy_hi_ri, sy_hi_rt, sy_bs_t, sy_bx_t, sy_bb_t, bz_bo, ite_bz0, ite_bz1, jgX12_fair_78, e122, hn, m_metered e122]) (Int32.ofNat q) (by rw [sy_F_eq]; omega)
          refine hk.trans ?_
          show jgX12_fair_78 (jfX12_fair_78 k) (Int32.ofNat p) (Int32.ofNat q) (sp_ms (M 122) n) _ (Int32.ofNat n) (thr N 0) = _
          simp (disch := omega) only [zL, zlt, zle, zeq, zadd, zmul, zin, zix, zsh1, Nat.add_zero, Nat.zero_add, Nat.mul_zero, if_true, if_false, if_pos, if_neg, sy_bi_ri, sy_bi_rt, sy_bv_rv, sy_bv_rt, sy_br_rr, sy_br_rn, sy_hi_ri, sy_hi_rt, sy_bs_t, sy_bx_t, sy_bb_t, bz_bo, ite_bz0, ite_bz1, jgX12_fair_78, e122, hn, m_metered e122]
          split <;> rfl
        simp (disch := omega) only [zL, zlt, zle, zeq, zadd, zmul, zin, zix, zsh1, Nat.add_zero, Nat.zero_add, Nat.mul_zero, if_true, if_false, if_pos, if_neg, sy_bi_ri, sy_bi_rt, sy_bv_rv, sy_bv_rt, sy_br_rr, sy_br_rn, sy_hi_ri, sy_hi_rt, sy_bs_t, sy_bx_t, sy_bb_t, bz_bo, ite_bz0, ite_bz1, jfX12_fair, jfX12_fair_29, m_isLodger, eN, sa, m_isIn, sb, cond_true, thr_up, thr_0, e1, e2]
    · refine opT_x I (cl := 20) (c := 2) ?_ rfl (by decide) (by decide) ?_
      · simp (disch := omega) only [zL, zlt, zle, zeq, zadd, zmul, zin, zix, zsh1, Nat.add_zero, Nat.zero_add, Nat.mul_zero, if_true, if_false, if_pos, if_neg, sy_bi_ri, sy_bi_rt, sy_bv_rv, sy_bv_rt, sy_br_rr, sy_br_rn, sy_hi_ri, sy_hi_rt, sy_bs_t, sy_bx_t, sy_bb_t, bz_bo, ite_bz0, ite_bz1, jfX11_fair, ck, ck2]
        all_goals rfl
      · intro N hN
        have eN : N 122 3 = Int32.ofNat n := by rw [hN 122 (by omega) (by omega)]; exact hn
        exact ⟨(Int32.ofNat 0), thr N 2, by simp (disch := omega) only [zL, zlt, zle, zeq, zadd, zmul, zin, zix, zsh1, Nat.add_zero, Nat.zero_add, Nat.mul_zero, if_true, if_false, if_pos, if_neg, sy_bi_ri, sy_bi_rt, sy_bv_rv, sy_bv_rt, sy_br_rr, sy_br_rn, sy_hi_ri, sy_hi_rt, sy_bs_t, sy_bx_t, sy_bb_t, bz_bo, ite_bz0, ite_bz1, jfX12_fair, jfX12_fair_29, sa, sb, m_isLodger, eN, m_isIn, m_isTick, cond_true, cond_false, thr_up, thr_0], thr_0 _ _, fr_thr⟩
  · refine opT_x I (cl := 22) (c := 1) ?_ rfl (by decide) (by decide) ?_
    · simp (disch := omega) only [zL, zlt, zle, zeq, zadd, zmul, zin, zix, zsh1, Nat.add_zero, Nat.zero_add, Nat.mul_zero, if_true, if_false, if_pos, if_neg, sy_bi_ri, sy_bi_rt, sy_bv_rv, sy_bv_rt, sy_br_rr, sy_br_rn, sy_hi_ri, sy_hi_rt, sy_bs_t, sy_bx_t, sy_bb_t, bz_bo, ite_bz0, ite_bz1, jfX11_fair, ck]
      all_goals rfl
    · intro N hN
      have eN : N 122 3 = Int32.ofNat n := by rw [hN 122 (by omega) (by omega)]; exact hn
      exact ⟨(Int32.ofNat 0), thr N 1, by simp (disch := omega) only [zL, zlt, zle, zeq, zadd, zmul, zin, zix, zsh1, Nat.add_zero, Nat.zero_add, Nat.mul_zero, if_true, if_false, if_pos, if_neg, sy_bi_ri, sy_bi_rt, sy_bv_rv, sy_bv_rt, sy_br_rr, sy_br_rn, sy_hi_ri, sy_hi_rt, sy_bs_t, sy_bx_t, sy_bb_t, bz_bo, ite_bz0, ite_bz1, jfX12_fair, jfX12_fair_29, sa, m_isLodger, eN, m_isIn, m_isTick, cond_true, cond_false, thr_up, thr_0], thr_0 _ _, fr_thr⟩
/-! tops, stand -/
def sp_tp (f : Nat → Int32) (n : Nat) (s : Int32) (m : Nat) : Int32 := sy_fo (fun t x => sp_max x (sp_burn f n (sp_home f n (Int32.ofNat t) &&& s))) m 0 (Int32.ofNat 0)
theorem c_mostNeeds {n : Nat} {s : Int32} {f : Nat → Int32} (H : hv M 9 f) (hN : nt M n f) (hn : f 3 = Int32.ofNat n) (h7 : n ≤ 7) : jfX11_mostNeeds s M = sy_ri (sp_tp f n s 48) M := by
  have ac : ∀ x y : Int32, x &&& y = y &&& x := fun x y => Int32.and_comm x y
  unfold jfX11_mostNeeds sp_tp
  obtain ⟨k, hk⟩ := sy_for1 (n := 48) (F := sy_F) (fun k i (x : Int32) => jfX11_mostNeeds_4 k s x (Int32.ofNat i) M) (fun t x => sp_max x (sp_burn f n (sp_home f n (Int32.ofNat t) &&& s))) (by
    intro k i x hi
    show jgX11_mostNeeds_4 (jfX11_mostNeeds_4 k) s x (Int32.ofNat i) M = _
    simp (disch := omega) only [zL, zlt, zle, zeq, zadd, zmul, zin, zix, zsh1, Nat.add_zero, Nat.zero_add, Nat.mul_zero, if_true, if_false, if_pos, if_neg, sy_bi_ri, sy_bi_rt, sy_bv_rv, sy_bv_rt, sy_br_rr, sy_br_rn, sy_hi_ri, sy_hi_rt, sy_bs_t, sy_bx_t, sy_bb_t, bz_bo, ite_bz0, ite_bz1, jgX11_mostNeeds_4, c_presentAt hN, c_burnt H hn h7, c_max, ac s]) (Int32.ofNat 0) (by rw [sy_F_eq]; omega)
  refine hk.trans ?_
  show jgX11_mostNeeds_4 (jfX11_mostNeeds_4 k) s _ (Int32.ofNat 48) M = _
  simp (disch := omega) only [zL, zlt, zle, zeq, zadd, zmul, zin, zix, zsh1, Nat.add_zero, Nat.zero_add, Nat.mul_zero, if_true, if_false, if_pos, if_neg, sy_bi_ri, sy_bi_rt, sy_bv_rv, sy_bv_rt, sy_br_rr, sy_br_rn, sy_hi_ri, sy_hi_rt, sy_bs_t, sy_bx_t, sy_bb_t, bz_bo, ite_bz0, ite_bz1, jgX11_mostNeeds_4]
theorem m_topsOf {n : Nat} {s : Int32} {f : Nat → Int32} (hf : M 122 = f) (hn : f 3 = Int32.ofNat n) (h7 : n ≤ 7) : jfX12_topsOf s M = sy_ri (sp_tp f n s 48) M := by
  subst hf
  have e1 := fun t => m_homeIn (M := M) (n := n) (t := t) hn h7
  have e2 := fun s => m_burnsOf (M := M) (n := n) (s := s) hn h7
  unfold jfX12_topsOf sp_tp
  obtain ⟨k, hk⟩ := sy_for1 (n := 48) (F := sy_F) (fun k i (x : Int32) => jfX12_topsOf_4 k s x (Int32.ofNat i) M) (fun t x => sp_max x (sp_burn (M 122) n (sp_home (M 122) n (Int32.ofNat t) &&& s))) (by
    intro k i x hi
    show jgX12_topsOf_4 (jfX12_topsOf_4 k) s x (Int32.ofNat i) M = _
    simp (disch := omega) only [zL, zlt, zle, zeq, zadd, zmul, zin, zix, zsh1, Nat.add_zero, Nat.zero_add, Nat.mul_zero, if_true, if_false, if_pos, if_neg, sy_bi_ri, sy_bi_rt, sy_bv_rv, sy_bv_rt, sy_br_rr, sy_br_rn, sy_hi_ri, sy_hi_rt, sy_bs_t, sy_bx_t, sy_bb_t, bz_bo, ite_bz0, ite_bz1, jgX12_topsOf_4, e1, e2, m_greater]) (Int32.ofNat 0) (by rw [sy_F_eq]; omega)
  refine hk.trans ?_
  show jgX12_topsOf_4 (jfX12_topsOf_4 k) s _ (Int32.ofNat 48) M = _
  simp (disch := omega) only [zL, zlt, zle, zeq, zadd, zmul, zin, zix, zsh1, Nat.add_zero, Nat.zero_add, Nat.mul_zero, if_true, if_false, if_pos, if_neg, sy_bi_ri, sy_bi_rt, sy_bv_rv, sy_bv_rt, sy_br_rr, sy_br_rn, sy_hi_ri, sy_hi_rt, sy_bs_t, sy_bx_t, sy_bb_t, bz_bo, ite_bz0, ite_bz1, jgX12_topsOf_4]
theorem o_tops (I : Inv A tx L0 S e M) (a : Int32) : opN A tx L0 S e (jfX11_tops a M) (jfX12_tops a) := by
  obtain ⟨n, G, H, ht, hA, hl⟩ := id I.1
  have hn := G.2.1
  have h7 := G.2.2.1
  refine opN_q I (v := sp_tp (M 122) n a 48) ?_ (fun N hN => ⟨thr N 0, ?_, fr_thr⟩)
  · obtain ⟨M1, e1, n1, w1, f1⟩ := q_learn H G
    exact ⟨M1, by simp (disch := omega) only [zL, zlt, zle, zeq, zadd, zmul, zin, zix, zsh1, Nat.add_zero, Nat.zero_add, Nat.mul_zero, if_true, if_false, if_pos, if_neg, sy_bi_ri, sy_bi_rt, sy_bv_rv, sy_bv_rt, sy_br_rr, sy_br_rn, sy_hi_ri, sy_hi_rt, sy_bs_t, sy_bx_t, sy_bb_t, bz_bo, ite_bz0, ite_bz1, jfX11_tops, e1, c_mostNeeds w1.1 n1 hn h7], f1⟩
  · have e122 : thr N 0 122 = M 122 := (thr_ne _ _ (by decide)).trans (hN 122 (by omega) (by omega))
    simp (disch := omega) only [zL, zlt, zle, zeq, zadd, zmul, zin, zix, zsh1, Nat.add_zero, Nat.zero_add, Nat.mul_zero, if_true, if_false, if_pos, if_neg, sy_bi_ri, sy_bi_rt, sy_bv_rv, sy_bv_rt, sy_br_rr, sy_br_rn, sy_hi_ri, sy_hi_rt, sy_bs_t, sy_bx_t, sy_bb_t, bz_bo, ite_bz0, ite_bz1, jfX12_tops, thr_up, m_topsOf e122 hn h7]
theorem burn_ge {f : Nat → Int32} {s : Int32} {p b : Nat} (H : rb f) (hb : f (14 + 9 * p) = Int32.ofNat b) (hb9 : b ≤ 9) (hs : sp_bit s p = true) : ∀ m, m ≤ 7 → ∃ k, k ≤ 9 * m ∧ sp_burn f m s = Int32.ofNat k ∧ (p < m → b ≤ k) := by
  intro m
  unfold sp_burn
  induction m with
  | zero => exact fun _ => ⟨0, by omega, rfl, fun h => absurd h (Nat.not_lt_zero p)⟩
  | succ m ih =>
    intro h
    obtain ⟨k, hk, e, hp⟩ := ih (by omega)
    obtain ⟨c, hc, e2⟩ := rb_burns H (p := m) (by omega)
    rw [sy_fo_last, e, Nat.zero_add, e2]
    by_cases hpm : p = m
    · subst hpm
      have : b = c := (zeq (by omega) (by omega)).mp (hb.symm.trans e2)
      rw [hs, cond_true, zadd]
      exact ⟨k + c, by omega, rfl, fun _ => by omega⟩
    · cases sp_bit s m
      · rw [cond_false, zadd]
        exact ⟨k + 0, by omega, rfl, fun h => hp (by omega)⟩
      · rw [cond_true, zadd]
        exact ⟨k + c, by omega, rfl, fun h => Nat.le_trans (hp (by omega)) (by omega)⟩
theorem tp_ge {n : Nat} {f : Nat → Int32} {s : Int32} (H : rb f) (h7 : n ≤ 7) : ∀ m, ∃ k, k ≤ 63 ∧ sp_tp f n s m = Int32.ofNat k ∧ ∀ t c, t < m → c ≤ 63 → sp_burn f n (sp_home f n (Int32.ofNat t) &&& s) = Int32.ofNat c → c ≤ k := by
  intro m
  unfold sp_tp
  induction m with
  | zero => exact ⟨0, by omega, rfl, fun t c h => absurd h (Nat.not_lt_zero t)⟩
  | succ m ih =>
    obtain ⟨k, hk, e, h1⟩ := ih
    obtain ⟨j, hj, e2⟩ := sp_burn_le (s := sp_home f n (Int32.ofNat m) &&& s) H n h7
    refine ⟨max k j, by omega, ?_, fun t c ht hc ec => ?_⟩
    · rw [sy_fo_last, e, Nat.zero_add, e2, zmax (by omega) (by omega)]
    · by_cases h : t = m
      · subst h
        have : c = j := (zeq (by omega) (by omega)).mp (ec.symm.trans e2)
        omega
      · have := h1 t c (by omega) hc ec
        omega
theorem tp_pos {n p : Nat} {f : Nat → Int32} (G : gr f n) (hp : p < n) : ∃ k, 1 ≤ k ∧ k ≤ 63 ∧ sp_tp f n (sp_all n) 48 = Int32.ofNat k := by
  have h7 := G.2.2.1
  obtain ⟨b, h3, e2⟩ := rb_burns G.1 (p := p) (by omega)
  have hb := G.2.2.2.2.2.2 p hp
  have b1 : 1 ≤ b := by
    rcases Nat.eq_zero_or_pos b with h | h
    · exact absurd (e2.trans (by rw [h])) hb
    · exact h
  obtain ⟨a, h1, ea⟩ := rb_from G.1 (p := p) (by omega)
  obtain ⟨c, h2, ec⟩ := rb_to G.1 (p := p) (by omega)
  have at1 : sp_at f p (Int32.ofNat a) = true := by
    rw [sp_at_N ea ec (by omega) (by omega) (by omega)]
    unfold atN
    have q1 : Nat.ble a a = true := Nat.ble_eq.mpr (Nat.le_refl a)
    rw [q1]
    cases hq : Nat.blt c a with
    | true => rfl
    | false =>
      have : ¬ c < a := fun z => by
        have := Nat.blt_eq.mpr z
        rw [hq] at this
        exact absurd this (by decide)
      have q2 : Nat.ble a c = true := Nat.ble_eq.mpr (by omega)
      rw [cond_false, q2]
      rfl
  have bit1 : sp_bit (sp_home f n (Int32.ofNat a) &&& sp_all n) p = true := by
    rw [sp_bit_and _ _ (by omega), home_bit (by omega) n h7, at1, all_bit h7 hp, decide_eq_true hp]
    rfl
  obtain ⟨k, hk, e, hkp⟩ := burn_ge G.1 e2 h3 bit1 n h7
  obtain ⟨j, hj, ej, hjp⟩ := tp_ge (s := sp_all n) G.1 h7 48
  have := hjp a k (by omega) (by omega) e
  have := hkp hp
  exact ⟨j, by omega, hj, ej⟩
theorem c_stand {n p : Nat} {f : Nat → Int32} (H : hv M 9 f) (hN : nt M n f) (G : gr f n) (hp : p < n) : (sy_bi (jfX11_everybody M) fun v4 M3 => sy_bi (jfX11_mostNeeds v4 M3) fun v6 M5 => sy_bi (jfX11_everybody M5) fun v8 M7 => sy_bi (jfX11_mostNeeds (v8 &&& ((1 <<< (Int32.ofNat p &&& 31)) ^^^ (-1))) M7) fun v10 M9 => sy_bi (jfX11_hundredths (v6 - v10) v6 M9) fun v12 M11 => sy_ri v12 M11) = sy_ri ((Int32.ofNat 100) * (sp_tp f n (sp_all n) 48 - sp_tp f n (sp_wi (sp_all n) p) 48) / sp_tp f n (sp_all n) 48) M := by
  have hn := G.2.1
  have h7 := G.2.2.1
  obtain ⟨s, hs1, hs2, es⟩ := tp_pos G hp
  have p0 : (Int32.ofNat 0) < sp_tp f n (sp_all n) 48 := by rw [es, zlt (by omega) (by omega)]; omega
  have p1 : sp_tp f n (sp_all n) 48 ≠ (Int32.ofNat 0) := by rw [es]; intro z; rw [zeq (by omega) (by omega)] at z; omega
  have al := c_all (M := M) (n := n) ((hv_3 H).trans hn) h7
  rw [al, sy_bi_ri, c_mostNeeds H hN hn h7, sy_bi_ri, al, sy_bi_ri, show (Int32.ofNat p &&& 31) = Int32.ofNat p from zsh (by omega), show (sp_all n &&& ((1 <<< Int32.ofNat p) ^^^ (-1)) : Int32) = sp_wi (sp_all n) p from rfl, c_mostNeeds H hN hn h7, sy_bi_ri]
  generalize sp_tp f n (sp_wi (sp_all n) p) 48 = y
  generalize sp_tp f n (sp_all n) 48 = x at p0 p1
  unfold jfX11_hundredths jfX11_share
  rw [if_pos (show 0 < x from p0), if_neg (show ¬ x = 0 from p1)]
  rfl
theorem m_stand {n p : Nat} {f : Nat → Int32} (hf : M 122 = f) (G : gr f n) (hp : p < n) : jfX12_stand_14 (Int32.ofNat p) (Int32.ofNat 0) M = sy_ri ((Int32.ofNat 100) * (sp_tp f n (sp_all n) 48 - sp_tp f n (sp_wi (sp_all n) p) 48) / sp_tp f n (sp_all n) 48) (thr M 0) := by
  have hn := G.2.1
  have h7 := G.2.2.1
  obtain ⟨s, hs1, hs2, es⟩ := tp_pos G hp
  have p1 : sp_tp f n (sp_all n) 48 ≠ (Int32.ofNat 0) := by rw [es]; intro z; rw [zeq (by omega) (by omega)] at z; omega
  have e122 : thr M 0 122 = f := (thr_ne _ _ (by decide)).trans hf
  have al := m_all (M := thr M 0) (n := n) (by rw [e122]; exact hn) h7
  unfold jfX12_stand_14
  rw [thr_up]
  show (if 0 < thr M 0 121 0 then _ else _) = _
  rw [thr_0, if_neg (show ¬ (0 : Int32) < (Int32.ofNat 0) by decide), al, sy_bi_ri, m_topsOf e122 hn h7, sy_bi_ri, al, sy_bi_ri, show (Int32.ofNat p &&& 31) = Int32.ofNat p from zsh (by omega), show (sp_all n &&& ((1 <<< Int32.ofNat p) ^^^ (-1)) : Int32) = sp_wi (sp_all n) p from rfl, m_topsOf e122 hn h7, sy_bi_ri, al, sy_bi_ri, m_topsOf e122 hn h7, sy_bi_ri]
  generalize sp_tp f n (sp_wi (sp_all n) p) 48 = y
  generalize sp_tp f n (sp_all n) 48 = x at p1
  rw [if_neg (show ¬ x = 0 from p1)]
  rfl
theorem o_stand (I : Inv A tx L0 S e M) (he : e < 90000) (a : Int32) : opT A tx L0 S e (jfL_stand a M) (jfX12_stand a) := by
  obtain ⟨n, G, H, ht, hA, hl⟩ := id I.1
  have hn := G.2.1
  have h7 := G.2.2.1
  obtain ⟨xk, hxk, exk⟩ := I.2.2.2.2.2.2.2.2.1
  have hx := xok he hxk exk
  have h9 : M 9 3 = Int32.ofNat n := (hv_3 H.1).trans hn
  have D19 := I.2.2.2.2.1
  unfold jfL_stand
  rcases ck_lodger h7 h9 hx a with ⟨p, hp, ea, ck, sa⟩ | ⟨sa, ck⟩
  · subst ea
    refine opT_q I (v := (Int32.ofNat 100) * (sp_tp (M 122) n (sp_all n) 48 - sp_tp (M 122) n (sp_wi (sp_all n) p) 48) / sp_tp (M 122) n (sp_all n) 48) ?_ (fun N hN => ⟨thr N 0, ?_, thr_0 _ _, fr_thr⟩)
    · obtain ⟨M1, e1, n1, w1, f1⟩ := q_learn H G
      refine ⟨M1, ?_, f1⟩
      unfold jfX11_stand
      rw [ck, sy_bv_rv, e1, sy_bv_rv]
      exact c_stand w1.1 n1 G hp
    · have eN : N 122 3 = Int32.ofNat n := by rw [hN 122 (by omega) (by omega)]; exact hn
      rw [← m_stand (hN 122 (by omega) (by omega)) G hp]
      simp (disch := omega) only [zL, zlt, zle, zeq, zadd, zmul, zin, zix, zsh1, Nat.add_zero, Nat.zero_add, Nat.mul_zero, if_true, if_false, if_pos, if_neg, sy_bi_ri, sy_bi_rt, sy_bv_rv, sy_bv_rt, sy_br_rr, sy_br_rn, sy_hi_ri, sy_hi_rt, sy_bs_t, sy_bx_t, sy_bb_t, bz_bo, ite_bz0, ite_bz1, jfX12_stand, m_isLodger, eN, sa, cond_true]
  · refine opT_x I (cl := 22) (c := 1) ?_ rfl (by decide) (by decide) ?_
    · simp (disch := omega) only [zL, zlt, zle, zeq, zadd, zmul, zin, zix, zsh1, Nat.add_zero, Nat.zero_add, Nat.mul_zero, if_true, if_false, if_pos, if_neg, sy_bi_ri, sy_bi_rt, sy_bv_rv, sy_bv_rt, sy_br_rr, sy_br_rn, sy_hi_ri, sy_hi_rt, sy_bs_t, sy_bx_t, sy_bb_t, bz_bo, ite_bz0, ite_bz1, jfX11_stand, ck]
      all_goals rfl
    · intro N hN
      have eN : N 122 3 = Int32.ofNat n := by rw [hN 122 (by omega) (by omega)]; exact hn
      exact ⟨(Int32.ofNat 0), thr N 1, by simp (disch := omega) only [zL, zlt, zle, zeq, zadd, zmul, zin, zix, zsh1, Nat.add_zero, Nat.zero_add, Nat.mul_zero, if_true, if_false, if_pos, if_neg, sy_bi_ri, sy_bi_rt, sy_bv_rv, sy_bv_rt, sy_br_rr, sy_br_rn, sy_hi_ri, sy_hi_rt, sy_bs_t, sy_bx_t, sy_bb_t, bz_bo, ite_bz0, ite_bz1, jfX12_stand, jfX12_stand_14, sa, m_isLodger, eN, m_isIn, m_isTick, cond_true, cond_false, thr_up, thr_0], thr_0 _ _, fr_thr⟩
/-! coins -/
def sp_cs (f : Nat → Int32) (n t k : Nat) (x : Int32) : Int32 := sy_fo (fun i a => a + sp_nd f n ((t + i) % 48)) k 0 x
theorem sp_cs_add (f : Nat → Int32) (n t : Nat) (x : Int32) : ∀ k, sp_cs f n t k (-x) = sp_cs f n t k (Int32.ofNat 0) - x := by
  intro k
  unfold sp_cs
  induction k with
  | zero =>
    show -x = (Int32.ofNat 0) - x
    rw [show ((Int32.ofNat 0) : Int32) = 0 from rfl]
    grind
  | succ k ih =>
    rw [sy_fo_last, sy_fo_last, ih]
    generalize sy_fo (fun i a => a + sp_nd f n ((t + i) % 48)) k 0 (Int32.ofNat 0) = y
    generalize sp_nd f n ((t + (0 + k)) % 48) = z
    grind
theorem pr_div : ∀ p : Fin 100, p.1 ≠ 0 → ((Int32.ofNat 0) + Int32.ofNat p.1 - (Int32.ofNat 1)) / Int32.ofNat p.1 = (Int32.ofNat 0) := by decide +kernel
theorem o_coins (I : Inv A tx L0 S e M) (he : e < 90000) (a : Int32) : opT A tx L0 S e (jfL_coins a M) (jfX12_coins a) := by
  obtain ⟨n, G, H, ht, hA, hl⟩ := id I.1
  have hn := G.2.1
  have h7 := G.2.2.1
  obtain ⟨xk, hxk, exk⟩ := I.2.2.2.2.2.2.2.2.1
  have hx := xok he hxk exk
  have h9 : M 9 3 = Int32.ofNat n := (hv_3 H.1).trans hn
  have D19 := I.2.2.2.2.1
  unfold jfL_coins
  rcases ck_range (lo := 0) (hi := 48) (by decide) (by decide) hx a with ⟨q, _, hk, ea, ck, sa⟩ | ⟨sa, ck⟩
  · subst ea
    obtain ⟨t, ht2, e4⟩ := rb_tick G.1
    obtain ⟨p, hp, e7⟩ := rb_price G.1
    have p1 : M 122 7 ≠ (Int32.ofNat 0) := G.2.2.2.2.2.1
    have pp : p ≠ 0 := fun z => p1 (by rw [e7, z])
    refine opT_q I (v := (sp_max (Int32.ofNat 0) (sp_cs (M 122) n t q (Int32.ofNat 0) - M 122 6) + M 122 7 - (Int32.ofNat 1)) / M 122 7) ?_ (fun N hN => ⟨thr N 0, ?_, thr_0 _ _, fr_thr⟩)
    · obtain ⟨M1, e1, n1, w1, f1⟩ := q_learn H G
      refine ⟨M1, ?_, f1⟩
      have e5 : M1 9 5 = Int32.ofNat t := (hv_5 w1.1).trans e4
      have nd : ∀ t, t < 48 → jfX8_needsAt (Int32.ofNat t) M1 = sy_ri (sp_nd (M 122) n t) M1 := fun t ht => c_needsAt n1 ht
      have e2 : jfX11_coins_29 sy_F (Int32.ofNat q) (-M 122 6) (Int32.ofNat 0) M1 = sy_ri ((sp_max (Int32.ofNat 0) (sp_cs (M 122) n t q (Int32.ofNat 0) - M 122 6) + M 122 7 - (Int32.ofNat 1)) / M 122 7) M1 := by
        rw [← sp_cs_add]
        unfold sp_cs
        obtain ⟨k, hk⟩ := sy_for1 (n := q) (F := sy_F) (fun k i (x : Int32) => jfX11_coins_29 k (Int32.ofNat q) x (Int32.ofNat i) M1) (fun i a => a + sp_nd (M 122) n ((t + i) % 48)) (by
          intro k i x hi
          show jgX11_coins_29 (jfX11_coins_29 k) (Int32.ofNat q) x (Int32.ofNat i) M1 = _
          simp (disch := omega) only [zL, zlt, zle, zeq, zadd, zmul, zin, zix, zsh1, Nat.add_zero, Nat.zero_add, Nat.mul_zero, if_true, if_false, if_pos, if_neg, sy_bi_ri, sy_bi_rt, sy_bv_rv, sy_bv_rt, sy_br_rr, sy_br_rn, sy_hi_ri, sy_hi_rt, sy_bs_t, sy_bx_t, sy_bb_t, bz_bo, ite_bz0, ite_bz1, jgX11_coins_29, e5, zmod, nd]) (-M 122 6) (by rw [sy_F_eq]; omega)
        refine hk.trans ?_
        show jgX11_coins_29 (jfX11_coins_29 k) (Int32.ofNat q) _ (Int32.ofNat q) M1 = _
        simp (disch := omega) only [zL, zlt, zle, zeq, zadd, zmul, zin, zix, zsh1, Nat.add_zero, Nat.zero_add, Nat.mul_zero, if_true, if_false, if_pos, if_neg, sy_bi_ri, sy_bi_rt, sy_bv_rv, sy_bv_rt, sy_br_rr, sy_br_rn, sy_hi_ri, sy_hi_rt, sy_bs_t, sy_bx_t, sy_bb_t, bz_bo, ite_bz0, ite_bz1, jgX11_coins_29, hv_8 w1.1]
        generalize sy_fo (fun i a => a + sp_nd (M 122) n ((t + i) % 48)) q 0 (-M 122 6) = y
        rw [e7, if_neg (show ¬ (Int32.ofNat p < (Int32.ofNat 1)) by rw [zlt (by omega) (by omega)]; omega)]
        unfold sp_max
        by_cases hy : (Int32.ofNat 0) < y
        · rw [if_pos hy, if_neg (fun z => Int32.lt_irrefl (Int32.lt_trans hy z))]
        · rw [if_neg hy]
          by_cases hy2 : y < (Int32.ofNat 0)
          · rw [if_pos hy2, pr_div ⟨p, by omega⟩ pp]
          · rw [if_neg hy2]
            have : y = (Int32.ofNat 0) := Int32.le_antisymm (Int32.not_lt.mp hy) (Int32.not_lt.mp hy2)
            rw [this, pr_div ⟨p, by omega⟩ pp]
      have e6 : M1 9 7 = M 122 6 := hv_7 w1.1
      simp (disch := omega) only [zL, zlt, zle, zeq, zadd, zmul, zin, zix, zsh1, Nat.add_zero, Nat.zero_add, Nat.mul_zero, if_true, if_false, if_pos, if_neg, sy_bi_ri, sy_bi_rt, sy_bv_rv, sy_bv_rt, sy_br_rr, sy_br_rn, sy_hi_ri, sy_hi_rt, sy_bs_t, sy_bx_t, sy_bb_t, bz_bo, ite_bz0, ite_bz1, jfX11_coins, ck, e1, e6, e2]
    · have e122 : thr N 0 122 = M 122 := (thr_ne _ _ (by decide)).trans (hN 122 (by omega) (by omega))
      have nd : ∀ t, jfX12_needsIn (Int32.ofNat t) (thr N 0) = sy_ri (sp_nd (M 122) n t) (thr N 0) := by
        intro t
        have e3 := m_needsIn (M := thr N 0) (n := n) (t := Int32.ofNat t) (by rw [e122]; exact G.2.1) G.2.2.1
        rw [e122] at e3
        exact e3
      have e2 : jfX12_coins_32 sy_F (Int32.ofNat q) (Int32.ofNat 0) (Int32.ofNat 0) (thr N 0) = sy_ri ((sp_max (Int32.ofNat 0) (sp_cs (M 122) n t q (Int32.ofNat 0) - M 122 6) + M 122 7 - (Int32.ofNat 1)) / M 122 7) (thr N 0) := by
        unfold sp_cs
        obtain ⟨k, hk⟩ := sy_for1 (n := q) (F := sy_F) (fun k i (x : Int32) => jfX12_coins_32 k (Int32.ofNat q) x (Int32.ofNat i) (thr N 0)) (fun i a => a + sp_nd (M 122) n ((t + i) % 48)) (by
          intro k i x hi
          show jgX12_coins_32 (jfX12_coins_32 k) (Int32.ofNat q) x (Int32.ofNat i) (thr N 0) = _
          simp (disch := omega) only [zL, zlt, zle, zeq, zadd, zmul, zin, zix, zsh1, Nat.add_zero, Nat.zero_add, Nat.mul_zero, if_true, if_false, if_pos, if_neg, sy_bi_ri, sy_bi_rt, sy_bv_rv, sy_bv_rt, sy_br_rr, sy_br_rn, sy_hi_ri, sy_hi_rt, sy_bs_t, sy_bx_t, sy_bb_t, bz_bo, ite_bz0, ite_bz1, jgX12_coins_32, e122, e4, zmod, nd]) (Int32.ofNat 0) (by rw [sy_F_eq]; omega)
        refine hk.trans ?_
        show jgX12_coins_32 (jfX12_coins_32 k) (Int32.ofNat q) _ (Int32.ofNat q) (thr N 0) = _
        simp (disch := omega) only [zL, zlt, zle, zeq, zadd, zmul, zin, zix, zsh1, Nat.add_zero, Nat.zero_add, Nat.mul_zero, if_true, if_false, if_pos, if_neg, sy_bi_ri, sy_bi_rt, sy_bv_rv, sy_bv_rt, sy_br_rr, sy_br_rn, sy_hi_ri, sy_hi_rt, sy_bs_t, sy_bx_t, sy_bb_t, bz_bo, ite_bz0, ite_bz1, jgX12_coins_32, e122, m_greater]
      simp (disch := omega) only [zL, zlt, zle, zeq, zadd, zmul, zin, zix, zsh1, Nat.add_zero, Nat.zero_add, Nat.mul_zero, if_true, if_false, if_pos, if_neg, sy_bi_ri, sy_bi_rt, sy_bv_rv, sy_bv_rt, sy_br_rr, sy_br_rn, sy_hi_ri, sy_hi_rt, sy_bs_t, sy_bx_t, sy_bb_t, bz_bo, ite_bz0, ite_bz1, jfX12_coins, jfX12_coins_16, m_isIn, sa, cond_true, thr_up, thr_0, e2]
  · refine opT_x I (cl := 20) (c := 1) ?_ rfl (by decide) (by decide) ?_
    · simp (disch := omega) only [zL, zlt, zle, zeq, zadd, zmul, zin, zix, zsh1, Nat.add_zero, Nat.zero_add, Nat.mul_zero, if_true, if_false, if_pos, if_neg, sy_bi_ri, sy_bi_rt, sy_bv_rv, sy_bv_rt, sy_br_rr, sy_br_rn, sy_hi_ri, sy_hi_rt, sy_bs_t, sy_bx_t, sy_bb_t, bz_bo, ite_bz0, ite_bz1, jfX11_coins, ck]
      all_goals rfl
    · intro N hN
      have eN : N 122 3 = Int32.ofNat n := by rw [hN 122 (by omega) (by omega)]; exact hn
      exact ⟨(Int32.ofNat 0), thr N 1, by simp (disch := omega) only [zL, zlt, zle, zeq, zadd, zmul, zin, zix, zsh1, Nat.add_zero, Nat.zero_add, Nat.mul_zero, if_true, if_false, if_pos, if_neg, sy_bi_ri, sy_bi_rt, sy_bv_rv, sy_bv_rt, sy_br_rr, sy_br_rn, sy_hi_ri, sy_hi_rt, sy_bs_t, sy_bx_t, sy_bb_t, bz_bo, ite_bz0, ite_bz1, jfX12_coins, jfX12_coins_16, sa, m_isLodger, eN, m_isIn, m_isTick, cond_true, cond_false, thr_up, thr_0], thr_0 _ _, fr_thr⟩
end
