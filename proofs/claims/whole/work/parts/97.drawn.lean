/-! ===== drawn ===== -/
section
variable {A : (Nat → Int32) → Nat → Int32 × Bool} {tx : (Nat → Int32) → Prop} {L0 : Int32} {S : Nat → Int32} {e : Nat} {M : sy_M}
def dr (f : Nat → Int32) (bt : Nat → Nat) (n s : Nat) : Nat → Bool
  | 0 => true
  | i + 1 => dr f bt n s i && decide (sp_burn f n (Int32.ofNat s &&& sp_home f n (Int32.ofNat (bt (2 * i)))) = Int32.ofNat (bt (2 * i + 1)))
theorem dr_s (f : Nat → Int32) (bt : Nat → Nat) (n s i : Nat) : dr f bt n s (i + 1) = (dr f bt n s i && decide (sp_burn f n (Int32.ofNat s &&& sp_home f n (Int32.ofNat (bt (2 * i)))) = Int32.ofNat (bt (2 * i + 1)))) := rfl
theorem dr_f {f : Nat → Int32} {bt : Nat → Nat} {n s m : Nat} (h : dr f bt n s m = false) : ∀ k, m ≤ k → dr f bt n s k = false
  | 0, hk => by
    have : m = 0 := by omega
    subst this
    exact h
  | k + 1, hk => by
    by_cases e : m = k + 1
    · subst e; exact h
    · rw [dr_s, dr_f h k (by omega)]; rfl
theorem c_isDrawn {bt : Nat → Nat} {r n s : Nat} {f : Nat → Int32} (H : hv M 9 f) (hn : f 3 = Int32.ofNat n) (h7 : n ≤ 7) (hr : r ≤ 20) (hb : ∀ i, i < r → bt (2 * i) < 48) (C : cu bt r M) (hN : nt M n f) : jfX11_isDrawn (Int32.ofNat s) M = sy_ri (bz (dr f bt n s r)) M := by
  unfold jfX11_isDrawn
  have e6 := C.1
  refine sy_forR (n := r) (F := sy_F) (R := fun c => c = sy_ri (bz (dr f bt n s r)) M) (fun k i (_ : Unit) => jfX11_isDrawn_2 k (Int32.ofNat s) (Int32.ofNat i) M) (fun i _ => dr f bt n s i = true) ?_ ?_ () rfl (by rw [sy_F_eq]; omega)
  · intro k i _ hi h1
    have ci := C.2 i hi
    have d1 := hb i hi
    show (∃ _ : Unit, jgX11_isDrawn_2 (jfX11_isDrawn_2 k) (Int32.ofNat s) (Int32.ofNat i) M = _ ∧ _) ∨ jgX11_isDrawn_2 (jfX11_isDrawn_2 k) (Int32.ofNat s) (Int32.ofNat i) M = _
    simp (disch := omega) only [zL, zlt, zle, zeq, zadd, zmul, zin, zix, zsh1, Nat.add_zero, Nat.zero_add, Nat.mul_zero, if_true, if_false, if_pos, if_neg, sy_bi_ri, sy_bi_rt, sy_bv_rv, sy_bv_rt, sy_br_rr, sy_br_rn, sy_hi_ri, sy_hi_rt, sy_bs_t, sy_bx_t, sy_bb_t, bz_bo, ite_bz0, ite_bz1, jgX11_isDrawn_2, e6, ci.1, ci.2, c_presentAt hN, c_burnt H hn h7]
    by_cases c : sp_burn f n (Int32.ofNat s &&& sp_home f n (Int32.ofNat (bt (2 * i)))) = Int32.ofNat (bt (2 * i + 1))
    · exact Or.inl ⟨(), by rw [if_pos c], by rw [dr_s, h1, decide_eq_true c]; rfl⟩
    · right
      have z : dr f bt n s (i + 1) = false := by rw [dr_s, h1, decide_eq_false c]; rfl
      rw [if_neg c, dr_f z r (by omega)]
      rfl
  · intro k _ h1
    show jgX11_isDrawn_2 (jfX11_isDrawn_2 k) (Int32.ofNat s) (Int32.ofNat r) M = _
    rw [h1]
    simp (disch := omega) only [zL, zlt, zle, zeq, zadd, zmul, zin, zix, zsh1, Nat.add_zero, Nat.zero_add, Nat.mul_zero, if_true, if_false, if_pos, if_neg, sy_bi_ri, sy_bi_rt, sy_bv_rv, sy_bv_rt, sy_br_rr, sy_br_rn, sy_hi_ri, sy_hi_rt, sy_bs_t, sy_bx_t, sy_bb_t, bz_bo, ite_bz0, ite_bz1, jgX11_isDrawn_2, e6]
    rfl
theorem m_drawn_in {bt : Nat → Nat} {L n s : Nat} {a1 a3 a4 a5 : Int32} {f : Nat → Int32} (k63 : Int32 → Int32 → Int32 → Int32 → Int32 → Int32 → sy_M → sy_O) (hf : M 122 = f) (hn : f 3 = Int32.ofNat n) (h7 : n ≤ 7) (h2 : L % 2 = 0) (hL : L ≤ 40) (hb : ∀ i, i < L → M 126 i = Int32.ofNat (bt i) ∧ bt i ≤ 255) : jfX12_drawn_78 k63 sy_F a1 (Int32.ofNat L) a3 a4 a5 (Int32.ofNat s) (Int32.ofNat 1) (Int32.ofNat 0) M = jfX12_drawn_132 k63 a1 (Int32.ofNat L) a3 a4 a5 (Int32.ofNat s) (bz (dr f bt n s (L / 2))) M := by
  subst hf
  have e1 := fun t => m_homeIn (M := M) (n := n) (t := t) hn h7
  have e2 := fun t => m_burnsOf (M := M) (n := n) (s := t) hn h7
  refine sy_forR (n := L / 2) (F := sy_F) (R := fun c => c = jfX12_drawn_132 k63 a1 (Int32.ofNat L) a3 a4 a5 (Int32.ofNat s) (bz (dr (M 122) bt n s (L / 2))) M) (fun k i (_ : Unit) => jfX12_drawn_78 k63 k a1 (Int32.ofNat L) a3 a4 a5 (Int32.ofNat s) (bz (dr (M 122) bt n s i)) (Int32.ofNat (2 * i)) M) (fun _ _ => True) ?_ ?_ () trivial (by rw [sy_F_eq]; omega)
  · intro k i _ hi _
    have d1 := hb (2 * i) (by omega)
    have d2 := hb (2 * i + 1) (by omega)
    show (∃ _ : Unit, jgX12_drawn_78 k63 (jfX12_drawn_78 k63 k) a1 (Int32.ofNat L) a3 a4 a5 (Int32.ofNat s) (bz (dr (M 122) bt n s i)) (Int32.ofNat (2 * i)) M = _ ∧ _) ∨ jgX12_drawn_78 k63 (jfX12_drawn_78 k63 k) a1 (Int32.ofNat L) a3 a4 a5 (Int32.ofNat s) (bz (dr (M 122) bt n s i)) (Int32.ofNat (2 * i)) M = _
    simp (disch := omega) only [zL, zlt, zle, zeq, zadd, zmul, zin, zix, zsh1, Nat.add_zero, Nat.zero_add, Nat.mul_zero, if_true, if_false, if_pos, if_neg, sy_bi_ri, sy_bi_rt, sy_bv_rv, sy_bv_rt, sy_br_rr, sy_br_rn, sy_hi_ri, sy_hi_rt, sy_bs_t, sy_bx_t, sy_bb_t, bz_bo, ite_bz0, ite_bz1, jgX12_drawn_78, jfX12_drawn_124, d1.1, d2.1, e1, e2]
    cases h1 : dr (M 122) bt n s i with
    | false =>
      right
      rw [dr_f h1 (L / 2) (by omega)]
      rfl
    | true =>
      left
      refine ⟨(), ?_, trivial⟩
      have two : 2 * i + 2 = 2 * (i + 1) := by omega
      rw [dr_s, h1, cond_true, Bool.true_and, two]
      by_cases c : sp_burn (M 122) n (Int32.ofNat s &&& sp_home (M 122) n (Int32.ofNat (bt (2 * i)))) = Int32.ofNat (bt (2 * i + 1))
      · rw [if_pos c, decide_eq_true c]; rfl
      · rw [if_neg c, decide_eq_false c]; rfl
  · intro k _ _
    show jgX12_drawn_78 k63 (jfX12_drawn_78 k63 k) a1 (Int32.ofNat L) a3 a4 a5 (Int32.ofNat s) (bz (dr (M 122) bt n s (L / 2))) (Int32.ofNat (2 * (L / 2))) M = _
    have : 2 * (L / 2) = L := by omega
    rw [this]
    simp (disch := omega) only [zL, zlt, zle, zeq, zadd, zmul, zin, zix, zsh1, Nat.add_zero, Nat.zero_add, Nat.mul_zero, if_true, if_false, if_pos, if_neg, sy_bi_ri, sy_bi_rt, sy_bv_rv, sy_bv_rt, sy_br_rr, sy_br_rn, sy_hi_ri, sy_hi_rt, sy_bs_t, sy_bx_t, sy_bb_t, bz_bo, ite_bz0, ite_bz1, jgX12_drawn_78]
/-- how many, who is sure, the first of the fewest -/
def dn (d : Nat → Bool) : Nat → Nat
  | 0 => 0
  | i + 1 => bif d i then dn d i + 1 else dn d i
def ds (d : Nat → Bool) (s : Int32) : Nat → Int32
  | 0 => s
  | i + 1 => bif d i then ds d s i &&& Int32.ofNat i else ds d s i
def df (d : Nat → Bool) : Nat → Nat
  | 0 => 0
  | i + 1 => bif d i then sp_fw (df d i) i else df d i
theorem dn_s (d : Nat → Bool) (i : Nat) : dn d (i + 1) = bif d i then dn d i + 1 else dn d i := rfl
theorem ds_s (d : Nat → Bool) (s : Int32) (i : Nat) : ds d s (i + 1) = bif d i then ds d s i &&& Int32.ofNat i else ds d s i := rfl
theorem df_s (d : Nat → Bool) (i : Nat) : df d (i + 1) = bif d i then sp_fw (df d i) i else df d i := rfl
theorem dn_le (d : Nat → Bool) : ∀ i, dn d i ≤ i
  | 0 => Nat.le_refl _
  | i + 1 => by
    have := dn_le d i
    rw [dn_s]
    cases d i
    · rw [cond_false]; omega
    · rw [cond_true]; omega
theorem df_le (d : Nat → Bool) : ∀ i, df d i ≤ i
  | 0 => Nat.le_refl _
  | i + 1 => by
    have := df_le d i
    rw [df_s]
    unfold sp_fw
    cases d i
    · rw [cond_false]; omega
    · rw [cond_true]
      split <;> omega
theorem ds_all {d : Nat → Bool} {n : Nat} (h7 : n ≤ 7) : ∀ i, i ≤ 2 ^ n → (dn d i = 0 ∧ ds d (sp_all n) i = sp_all n ∧ ds d (Int32.ofNat 127) i = (Int32.ofNat 127)) ∨ (dn d i ≠ 0 ∧ ds d (sp_all n) i = ds d (Int32.ofNat 127) i)
  | 0, _ => Or.inl ⟨rfl, rfl, rfl⟩
  | i + 1, h => by
    have ih := ds_all (d := d) h7 i (by omega)
    have hp := pow_le h7
    rw [dn_s, ds_s, ds_s]
    cases d i with
    | false => rw [cond_false, cond_false, cond_false]; exact ih
    | true =>
      rw [cond_true, cond_true, cond_true]
      right
      refine ⟨Nat.succ_ne_zero _, ?_⟩
      rcases ih with ⟨_, h2, h3⟩ | ⟨_, h2⟩
      · rw [h2, h3]
        have : ∀ (n : Fin 8) (i : Fin 128), i.1 < 2 ^ n.1 → sp_all n.1 &&& Int32.ofNat i.1 = (Int32.ofNat 127) &&& Int32.ofNat i.1 := by decide +kernel
        exact this ⟨n, by omega⟩ ⟨i, by omega⟩ (by show i < 2 ^ n; omega)
      · rw [h2]
/-- the answer -/
def dv (d : Nat → Bool) (n : Nat) (a : Int32) : Int32 := if a = (Int32.ofNat 0) then Int32.ofNat (dn d (2 ^ n)) else if a = (Int32.ofNat 2) then mv (df d (2 ^ n)) else if dn d (2 ^ n) = 0 then (Int32.ofNat 0) else ds d (Int32.ofNat 127) (2 ^ n)
theorem c_drawn {bt : Nat → Nat} {r n : Nat} {a : Int32} {f : Nat → Int32} (H : hv M 9 f) (hn : f 3 = Int32.ofNat n) (h7 : n ≤ 7) (hr : r ≤ 20) (hb : ∀ i, i < r → bt (2 * i) < 48) (C : cu bt r M) (hN : nt M n f) : jfX11_drawn_47 sy_F a (Int32.ofNat 0) (sp_all n) (-(Int32.ofNat 1)) (Int32.ofNat 0) M = sy_ri (dv (fun s => dr f bt n s r) n a) M := by
  have al := c_all (M := M) (n := n) ((hv_3 H).trans hn) h7
  have hpw := pow_le h7
  refine sy_forR (n := 2 ^ n) (F := sy_F) (R := fun c => c = sy_ri (dv (fun s => dr f bt n s r) n a) M) (fun k i (_ : Unit) => jfX11_drawn_47 k a (Int32.ofNat (dn (fun s => dr f bt n s r) i)) (ds (fun s => dr f bt n s r) (sp_all n) i) (mv (df (fun s => dr f bt n s r) i)) (Int32.ofNat i) M) (fun _ _ => True) ?_ ?_ () trivial (by rw [sy_F_eq]; omega)
  · intro k i _ hi _
    refine Or.inl ⟨(), ?_, trivial⟩
    have l1 := df_le (fun s => dr f bt n s r) i
    show jgX11_drawn_47 (jfX11_drawn_47 k) a (Int32.ofNat (dn (fun s => dr f bt n s r) i)) (ds (fun s => dr f bt n s r) (sp_all n) i) (mv (df (fun s => dr f bt n s r) i)) (Int32.ofNat i) M = _
    rw [dn_s, ds_s, df_s]
    simp (disch := omega) only [zL, zlt, zle, zeq, zadd, zmul, zin, zix, zsh1, Nat.add_zero, Nat.zero_add, Nat.mul_zero, if_true, if_false, if_pos, if_neg, sy_bi_ri, sy_bi_rt, sy_bv_rv, sy_bv_rt, sy_br_rr, sy_br_rn, sy_hi_ri, sy_hi_rt, sy_bs_t, sy_bx_t, sy_bb_t, bz_bo, ite_bz0, ite_bz1, jgX11_drawn_47, jfX11_drawn_82, al, c_isDrawn H hn h7 hr hb C hN, c_fewer]
    rw [if_neg (all_lt h7 hi)]
    cases dr f bt n i r <;> rfl
  · intro k _ _
    show jgX11_drawn_47 (jfX11_drawn_47 k) a (Int32.ofNat (dn (fun s => dr f bt n s r) (2 ^ n))) (ds (fun s => dr f bt n s r) (sp_all n) (2 ^ n)) (mv (df (fun s => dr f bt n s r) (2 ^ n))) (Int32.ofNat (2 ^ n)) M = _
    have l2 := dn_le (fun s => dr f bt n s r) (2 ^ n)
    simp only [jgX11_drawn_47, al, sy_bi_ri]
    rw [if_pos (all_ge h7)]
    unfold dv
    by_cases c0 : a = (Int32.ofNat 0)
    · rw [if_pos (show a = 0 from c0), if_pos c0]
    · rw [if_neg (show ¬ a = 0 from c0), if_neg c0]
      by_cases c2 : a = (Int32.ofNat 2)
      · rw [if_pos (show a = 2 from c2), if_pos c2]
      · rw [if_neg (show ¬ a = 2 from c2), if_neg c2]
        rcases ds_all (d := fun s => dr f bt n s r) h7 (2 ^ n) (Nat.le_refl _) with ⟨z1, _⟩ | ⟨z1, z2⟩
        · rw [if_pos z1, z1, if_neg (show ¬ (0 : Int32) < Int32.ofNat 0 by decide)]
          rfl
        · rw [if_neg z1, if_pos (show (0 : Int32) < Int32.ofNat (dn (fun s => dr f bt n s r) (2 ^ n)) from (zlt (a := 0) (by omega) (by omega)).mpr (by omega)), z2]
theorem m_drawn {bt : Nat → Nat} {L n : Nat} {a : Int32} {f : Nat → Int32} (hf : M 122 = f) (hn : f 3 = Int32.ofNat n) (h7 : n ≤ 7) (h2 : L % 2 = 0) (hL : L ≤ 40) (hb : ∀ i, i < L → M 126 i = Int32.ofNat (bt i) ∧ bt i ≤ 255) : jfX12_drawn_63 sy_F a (Int32.ofNat L) (Int32.ofNat 0) (Int32.ofNat 127) (-(Int32.ofNat 1)) (Int32.ofNat 0) M = sy_ri (dv (fun s => dr f bt n s (L / 2)) n a) M := by
  have al := m_all (M := M) (n := n) (by rw [hf]; exact hn) h7
  have hpw := pow_le h7
  refine sy_forR (n := 2 ^ n) (F := sy_F) (R := fun c => c = sy_ri (dv (fun s => dr f bt n s (L / 2)) n a) M) (fun k i (_ : Unit) => jfX12_drawn_63 k a (Int32.ofNat L) (Int32.ofNat (dn (fun s => dr f bt n s (L / 2)) i)) (ds (fun s => dr f bt n s (L / 2)) (Int32.ofNat 127) i) (mv (df (fun s => dr f bt n s (L / 2)) i)) (Int32.ofNat i) M) (fun _ _ => True) ?_ ?_ () trivial (by rw [sy_F_eq]; omega)
  · intro k i _ hi _
    refine Or.inl ⟨(), ?_, trivial⟩
    have l1 := df_le (fun s => dr f bt n s (L / 2)) i
    have c1 := cnt_le i
    have c2 := cnt_le (df (fun s => dr f bt n s (L / 2)) i - 1)
    have inn := fun a3 a4 a5 => m_drawn_in (M := M) (bt := bt) (L := L) (n := n) (s := i) (a1 := a) (a3 := a3) (a4 := a4) (a5 := a5) (jfX12_drawn_63 k) hf hn h7 h2 hL hb
    show jgX12_drawn_63 (jfX12_drawn_63 k) a (Int32.ofNat L) (Int32.ofNat (dn (fun s => dr f bt n s (L / 2)) i)) (ds (fun s => dr f bt n s (L / 2)) (Int32.ofNat 127) i) (mv (df (fun s => dr f bt n s (L / 2)) i)) (Int32.ofNat i) M = _
    rw [dn_s, ds_s, df_s]
    unfold jgX12_drawn_63
    rw [al, sy_bi_ri, if_neg (all_lt h7 hi), show (1 : Int32) = (Int32.ofNat 1) from rfl, show (0 : Int32) = (Int32.ofNat 0) from rfl, inn]
    unfold jfX12_drawn_132 jfX12_drawn_169 jfX12_drawn_173 sp_fw
    cases dr f bt n i (L / 2) with
    | false =>
      rw [if_pos (show bz false = 0 from rfl), cond_false, cond_false, cond_false, show (1 : Int32) = (Int32.ofNat 1) from rfl, zadd]
    | true =>
      rw [if_neg (show ¬ bz true = 0 by decide), cond_true, cond_true, cond_true]
      by_cases h : df (fun s => dr f bt n s (L / 2)) i = 0
      · rw [h, if_pos (show mv 0 = -1 from rfl), if_pos (Or.inl rfl), show (1 : Int32) = (Int32.ofNat 1) from rfl, zadd, zadd]
        rfl
      · have em : mv (df (fun s => dr f bt n s (L / 2)) i) = Int32.ofNat (df (fun s => dr f bt n s (L / 2)) i - 1) := if_neg h
        rw [if_neg (show ¬ mv (df (fun s => dr f bt n s (L / 2)) i) = -1 from mv_ne h (by omega)), m_bits (by omega), sy_bi_ri, em, m_bits (by omega), sy_bi_ri, show (1 : Int32) = (Int32.ofNat 1) from rfl, zadd, zadd]
        by_cases h2 : sp_cnt i < sp_cnt (df (fun s => dr f bt n s (L / 2)) i - 1)
        · rw [if_pos ((zlt (by omega) (by omega)).mpr h2), if_pos (Or.inr h2)]
          rfl
        · rw [if_neg (fun z => h2 ((zlt (by omega) (by omega)).mp z)), if_neg (fun z => z.elim h h2), em]
  · intro k _ _
    show jgX12_drawn_63 (jfX12_drawn_63 k) a (Int32.ofNat L) (Int32.ofNat (dn (fun s => dr f bt n s (L / 2)) (2 ^ n))) (ds (fun s => dr f bt n s (L / 2)) (Int32.ofNat 127) (2 ^ n)) (mv (df (fun s => dr f bt n s (L / 2)) (2 ^ n))) (Int32.ofNat (2 ^ n)) M = _
    have l2 := dn_le (fun s => dr f bt n s (L / 2)) (2 ^ n)
    simp only [jgX12_drawn_63, al, sy_bi_ri]
    rw [if_pos (all_ge h7)]
    unfold dv
    by_cases c0 : a = (Int32.ofNat 0)
    · rw [if_pos (show a = 0 from c0), if_pos c0]
    · rw [if_neg (show ¬ a = 0 from c0), if_neg c0]
      by_cases c2 : a = (Int32.ofNat 2)
      · rw [if_pos (show a = 2 from c2), if_pos c2]
      · rw [if_neg (show ¬ a = 2 from c2), if_neg c2]
        by_cases z1 : dn (fun s => dr f bt n s (L / 2)) (2 ^ n) = 0
        · rw [if_pos z1, z1, if_pos (show Int32.ofNat 0 = 0 from rfl)]
          rfl
        · rw [if_neg z1, if_neg (show ¬ Int32.ofNat (dn (fun s => dr f bt n s (L / 2)) (2 ^ n)) = 0 from fun z => z1 ((zeq (by omega) (by omega)).mp z))]
theorem o_drawn (I : Inv A tx L0 S e M) (he : e < 90000) (a : Int32) : opT A tx L0 S e (jfL_drawn a M) (jfX12_drawn a) := by
  obtain ⟨n, G, H, ht, hA, hl⟩ := id I.1
  have hn := G.2.1
  have h7 := G.2.2.1
  obtain ⟨xk, hxk, exk⟩ := I.2.2.2.2.2.2.2.2.1
  have hx := xok he hxk exk
  have h9 : M 9 3 = Int32.ofNat n := (hv_3 H.1).trans hn
  have D19 := I.2.2.2.2.1
  obtain ⟨L, bt, hL, p1, p2, b2, b126⟩ := tape_b I
  have rd : ∀ N : sy_M, rq M N → jfX12_drawn a N = bif rw_all bt 63 L then (bif sp_in a (Int32.ofNat 0) (Int32.ofNat 2) then jfX12_drawn_39 a (Int32.ofNat L) (Int32.ofNat 0) (tz N) else jfX12_drawn_39 a (Int32.ofNat L) (Int32.ofNat 2) (tz N)) else jfX12_drawn_39 a (Int32.ofNat L) (Int32.ofNat 1) (tz N) := by
    intro N hN
    have u : sy_upd N 121 8 (Int32.ofNat 0) = tz N := sy_upd_st _ _ _ _
    have h8 : N 121 8 = Int32.ofNat L := by rw [hN 121 (by omega) (by omega)]; exact p2
    have e126 : tz N 126 = M 126 := (tz_ne _ (by decide)).trans (hN 126 (by omega) (by omega))
    have ar := m_areRows (M := tz N) (bt := bt) (mo := 63) (L := L) hL (by omega) (fun i hi => by rw [e126]; exact b126 i hi)
    unfold jfX12_drawn
    simp only [zL, h8, u, ar, m_isIn, sy_bi_ri, ite_bz0]
  unfold jfL_drawn
  rcases c_cl (mo := 63) I he hL (by omega) p1 b2 with ⟨bad, M1, e1, F1⟩ | ⟨ok, M1, e1, F1, C1, g1⟩
  · refine opT_tx I (cl := 20) (c := 1) ⟨M1, ?_, F1⟩ (fun _ => rfl) (by decide) (by decide) (fun N hN => ⟨(Int32.ofNat 0), thr (tz N) 1, ?_, thr_0 _ _, frt_tz⟩)
    · unfold jfX11_drawn
      rw [show (63 : Int32) = (Int32.ofNat 63) from rfl, e1]
      rfl
    · rw [rd N hN, bad, cond_false]
      simp (disch := omega) only [zL, zlt, zle, zeq, zadd, zmul, zin, zix, zsh1, Nat.add_zero, Nat.zero_add, Nat.mul_zero, if_true, if_false, if_pos, if_neg, sy_bi_ri, sy_bi_rt, sy_bv_rv, sy_bv_rt, sy_br_rr, sy_br_rn, sy_hi_ri, sy_hi_rt, sy_bs_t, sy_bx_t, sy_bb_t, bz_bo, ite_bz0, ite_bz1, jfX12_drawn_39, thr_up, thr_0]
  · have hx1 : xe_in (M1 133 0) 100000 = true := by rw [g1 133 (by decide) (by decide) (by decide) (by decide)]; exact hx
    have no : sp_in a (Int32.ofNat 0) (Int32.ofNat 2) = false → jfX11_drawn a M = sy_rt 23 (sx M1) → opT A tx L0 S e (jfL_drawn a M) (jfX12_drawn a) := by
      intro si sc
      unfold jfL_drawn
      refine opT_tx I (cl := 23) (c := 2) ⟨M1, sc, F1⟩ (fun _ => rfl) (by decide) (by decide) (fun N hN => ⟨(Int32.ofNat 0), thr (tz N) 2, ?_, thr_0 _ _, frt_tz⟩)
      rw [rd N hN, ok, si, cond_true, cond_false]
      simp (disch := omega) only [zL, zlt, zle, zeq, zadd, zmul, zin, zix, zsh1, Nat.add_zero, Nat.zero_add, Nat.mul_zero, if_true, if_false, if_pos, if_neg, sy_bi_ri, sy_bi_rt, sy_bv_rv, sy_bv_rt, sy_br_rr, sy_br_rn, sy_hi_ri, sy_hi_rt, sy_bs_t, sy_bx_t, sy_bb_t, bz_bo, ite_bz0, ite_bz1, jfX12_drawn_39, thr_up, thr_0]
    by_cases c0 : a < (Int32.ofNat 0)
    · refine no (sp_in_neg c0) ?_
      unfold jfX11_drawn
      rw [show (63 : Int32) = (Int32.ofNat 63) from rfl, e1, sy_bv_rv, if_pos (show a < 0 from c0), hx1, sy_bx_t]
      rfl
    · by_cases c2 : (Int32.ofNat 2) < a
      · refine no ?_ ?_
        · unfold sp_in
          rw [decide_eq_true c2]
          cases decide (a < (Int32.ofNat 0)) <;> rfl
        · unfold jfX11_drawn
          rw [show (63 : Int32) = (Int32.ofNat 63) from rfl, e1, sy_bv_rv, if_neg (show ¬ a < 0 from c0), if_pos (show 2 < a from c2), hx1, sy_bx_t]
          rfl
      · have si : sp_in a (Int32.ofNat 0) (Int32.ofNat 2) = true := by
          unfold sp_in
          rw [decide_eq_false c0, decide_eq_false c2]
          rfl
        have H1 : hw M1 9 (M 122) := hw_congr H (fun c c1 c2 => g1 c (by omega) (by omega) (by omega) (by omega))
        obtain ⟨M2, e2, n2, g2⟩ := c_learn (M := M1) (h := 9) (n := n) (f := M 122) H1.1 hn h7
        have H2 : hw M2 9 (M 122) := hw_congr H1 (fun c c1 c2 => g2 c (by omega) (by omega))
        obtain ⟨k1, k2, k3⟩ := rw_L ok
        have C2 : cu bt (L / 2) M2 := by
          unfold cu
          rw [g2 6 (by decide) (by decide), g2 7 (by decide) (by decide), g2 8 (by decide) (by decide)]
          exact C1
        have hb : ∀ i, i < L / 2 → bt (2 * i) < 48 := fun i hi => (rw_ok_t k3 i hi).1
        have al := c_all (M := M2) (n := n) ((hv_3 H2.1).trans hn) h7
        refine opT_t I (v := dv (fun s => dr (M 122) bt n s (L / 2)) n a) ⟨M2, ?_, ftp_q F1 (fq_learn g2)⟩ (fun N hN => ⟨thr (tz N) 0, ?_, thr_0 _ _, frt_tz⟩)
        · unfold jfX11_drawn
          rw [show (63 : Int32) = (Int32.ofNat 63) from rfl, e1, sy_bv_rv, if_neg (show ¬ a < 0 from c0), if_neg (show ¬ 2 < a from c2), e2, sy_bv_rv, al, sy_bi_ri]
          exact c_drawn H2.1 hn h7 (by omega) hb C2 n2
        · rw [rd N hN, ok, si, cond_true, cond_true]
          have e122 : thr (tz N) 0 122 = M 122 := (thr_ne _ _ (by decide)).trans ((tz_ne _ (by decide)).trans (hN 122 (by omega) (by omega)))
          have e126 : thr (tz N) 0 126 = M 126 := (thr_ne _ _ (by decide)).trans ((tz_ne _ (by decide)).trans (hN 126 (by omega) (by omega)))
          have md := m_drawn (M := thr (tz N) 0) (bt := bt) (L := L) (n := n) (a := a) e122 hn h7 k1 k2 (fun i hi => by rw [e126]; exact b126 i hi)
          simp (disch := omega) only [zL, zlt, zle, zeq, zadd, zmul, zin, zix, zsh1, Nat.add_zero, Nat.zero_add, Nat.mul_zero, if_true, if_false, if_pos, if_neg, sy_bi_ri, sy_bi_rt, sy_bv_rv, sy_bv_rt, sy_br_rr, sy_br_rn, sy_hi_ri, sy_hi_rt, sy_bs_t, sy_bx_t, sy_bb_t, bz_bo, ite_bz0, ite_bz1, jfX12_drawn_39, thr_up, thr_0, md]
end
