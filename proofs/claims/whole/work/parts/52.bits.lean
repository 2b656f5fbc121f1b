/-! ===== bits, quotients ===== -/
theorem sar_bv (s : Int32) {p : Nat} (hp : p < 32) : (s >>> Int32.ofNat p).toBitVec = s.toBitVec.sshiftRight p := by
  rw [Int32.toBitVec_shiftRight]
  have h1 : ((Int32.ofNat p).toBitVec.smod 32#32) = BitVec.ofNat 32 p := by
    have : ∀ p : Fin 32, ((Int32.ofNat p.1).toBitVec.smod 32#32) = BitVec.ofNat 32 p.1 := by decide +kernel
    exact this ⟨p, hp⟩
  rw [show (32 : BitVec 32) = 32#32 from rfl, h1]
  unfold BitVec.sshiftRight'
  rw [BitVec.toNat_ofNat, Nat.mod_eq_of_lt (show p < 2 ^ 32 by omega)]
theorem sp_bit_lsb (s : Int32) {p : Nat} (hp : p < 32) : sp_bit s p = s.toBitVec.getLsbD p := by
  unfold sp_bit
  have e1 : ((s >>> Int32.ofNat p) &&& 1).toBitVec = (s.toBitVec.sshiftRight p) &&& 1#32 := by
    rw [← sar_bv s hp]
    rfl
  have e2 : (s.toBitVec.sshiftRight p).getLsbD 0 = s.toBitVec.getLsbD p := by
    rw [BitVec.getLsbD_sshiftRight]
    simp [hp]
  have e3 : ((s >>> Int32.ofNat p) &&& 1 = 1) ↔ ((s.toBitVec.sshiftRight p) &&& 1#32 = 1#32) := by
    rw [← Int32.toBitVec_inj, e1]
    rfl
  rw [BitVec.and_one_eq_setWidth_ofBool_getLsbD, e2] at e3
  cases h : s.toBitVec.getLsbD p with
  | false =>
    rw [h] at e3
    exact decide_eq_false (fun z => absurd (e3.mp z) (by decide))
  | true =>
    rw [h] at e3
    exact decide_eq_true (e3.mpr (by decide))
theorem sp_bit_and (s t : Int32) {p : Nat} (hp : p < 32) : sp_bit (s &&& t) p = (sp_bit s p && sp_bit t p) := by
  rw [sp_bit_lsb _ hp, sp_bit_lsb _ hp, sp_bit_lsb _ hp, Int32.toBitVec_and, BitVec.getLsbD_and]
theorem sp_bit_or (s t : Int32) {p : Nat} (hp : p < 32) : sp_bit (s ||| t) p = (sp_bit s p || sp_bit t p) := by
  rw [sp_bit_lsb _ hp, sp_bit_lsb _ hp, sp_bit_lsb _ hp, Int32.toBitVec_or, BitVec.getLsbD_or]
/-- everybody -/
def sp_all (n : Nat) : Int32 := Int32.ofNat (2 ^ n - 1)
theorem all_sh {n : Nat} (h : n ≤ 7) : ((Int32.ofNat 1) <<< (Int32.ofNat n &&& (Int32.ofNat 31))) - (Int32.ofNat 1) = sp_all n := by
  have : ∀ n : Fin 8, ((Int32.ofNat 1) <<< (Int32.ofNat n.1 &&& (Int32.ofNat 31))) - (Int32.ofNat 1) = sp_all n.1 := by decide +kernel
  exact this ⟨n, by omega⟩
theorem all_sh1 {n : Nat} (h : n ≤ 7) : ((Int32.ofNat 1) <<< Int32.ofNat n) - (Int32.ofNat 1) = sp_all n := by
  rw [← all_sh h, zsh1 (by omega)]
theorem all_bit {n p : Nat} (hn : n ≤ 7) (hp : p < n) : sp_bit (sp_all n) p = true := by
  have : ∀ (n : Fin 8) (p : Fin 7), p.1 < n.1 → sp_bit (sp_all n.1) p.1 = true := by decide +kernel
  exact this ⟨n, by omega⟩ ⟨p, by omega⟩ hp
theorem pow_le {n : Nat} (h : n ≤ 7) : 2 ^ n ≤ 128 ∧ 0 < 2 ^ n := by
  have : ∀ n : Fin 8, 2 ^ n.1 ≤ 128 ∧ 0 < 2 ^ n.1 := by decide
  exact this ⟨n, by omega⟩
theorem zdiv {a b : Nat} (ha : a < 2147483648) (hb : b < 2147483648) : Int32.ofNat a / Int32.ofNat b = Int32.ofNat (a / b) := by
  rw [← Int32.toInt_inj, Int32.toInt_div, Int32.toInt_ofNat_of_lt ha, Int32.toInt_ofNat_of_lt hb]
  have h1 : a / b ≤ a := Nat.div_le_self a b
  rw [Int32.toInt_ofNat_of_lt (show a / b < 2 ^ 31 by omega)]
  rw [← Int.ofNat_tdiv]
  generalize a / b = q at h1 ⊢
  exact Int.bmod_eq_of_le (by omega) (by omega)
theorem zmod {a : Nat} {b : Nat} (ha : a < 2147483648) (hb : b < 2147483648) : Int32.ofNat a - Int32.ofNat a / Int32.ofNat b * Int32.ofNat b = Int32.ofNat (a % b) := by
  rw [zdiv ha hb, zmul, zsub (Nat.div_mul_le_self a b)]
  congr 1
  have := Nat.div_add_mod a b
  rw [Nat.mul_comm] at this
  omega
/-- how many bits -/
def sp_cnt (k : Nat) : Nat := (if k.testBit 0 then 1 else 0) + (if k.testBit 1 then 1 else 0) + (if k.testBit 2 then 1 else 0) + (if k.testBit 3 then 1 else 0) + (if k.testBit 4 then 1 else 0) + (if k.testBit 5 then 1 else 0) + (if k.testBit 6 then 1 else 0)
def bc_32 (a0 : Int32) : Int32 :=
  let v1 := (a0 - (((Int32.toUInt32 a0 >>> (Int32.toUInt32 1 &&& Int32.toUInt32 31)).toInt32) &&& 1431655765))
  let v2 := ((v1 &&& 858993459) + (((Int32.toUInt32 v1 >>> (Int32.toUInt32 2 &&& Int32.toUInt32 31)).toInt32) &&& 858993459))
  let v3 := ((v2 + ((Int32.toUInt32 v2 >>> (Int32.toUInt32 4 &&& Int32.toUInt32 31)).toInt32)) &&& 252645135)
  let v4 := (v3 + ((Int32.toUInt32 v3 >>> (Int32.toUInt32 8 &&& Int32.toUInt32 31)).toInt32))
  let v5 := (v4 + ((Int32.toUInt32 v4 >>> (Int32.toUInt32 16 &&& Int32.toUInt32 31)).toInt32))
  v5 &&& 63
theorem c_bitCount {M : sy_M} {k : Nat} (hk : k < 128) : jfJ6_bitCount_0f7a4 (Int32.ofNat k) M = sy_ri (Int32.ofNat (sp_cnt k)) M := by
  have : ∀ k : Fin 128, bc_32 (Int32.ofNat k.1) = Int32.ofNat (sp_cnt k.1) := by decide +kernel
  have h := this ⟨k, hk⟩
  show sy_ri (bc_32 (Int32.ofNat k)) M = _
  rw [h]
theorem m_bits {M : sy_M} {k : Nat} (hk : k < 128) : jfX12_bits (Int32.ofNat k) M = sy_ri (Int32.ofNat (sp_cnt k)) M := by
  have : ∀ k : Fin 128, sy_fo (fun i a => a + ((Int32.ofNat k.1 >>> (Int32.ofNat i &&& (Int32.ofNat 31))) &&& (Int32.ofNat 1))) 31 0 (Int32.ofNat 0) = Int32.ofNat (sp_cnt k.1) := by decide +kernel
  rw [← this ⟨k, hk⟩]
  unfold jfX12_bits
  obtain ⟨q, hq⟩ := sy_for1 (n := 31) (F := sy_F) (fun q i (a : Int32) => jfX12_bits_4 q (Int32.ofNat k) a (Int32.ofNat i) M) (fun i a => a + ((Int32.ofNat k >>> (Int32.ofNat i &&& (Int32.ofNat 31))) &&& (Int32.ofNat 1))) (by
    intro q i a hi
    show jgX12_bits_4 (jfX12_bits_4 q) (Int32.ofNat k) a (Int32.ofNat i) M = _
    simp (disch := omega) only [zL, zlt, zle, zeq, zadd, zmul, zin, zix, zsh1, Nat.add_zero, Nat.zero_add, Nat.mul_zero, if_true, if_false, if_pos, if_neg, sy_bi_ri, sy_bi_rt, sy_bv_rv, sy_bv_rt, sy_br_rr, sy_br_rn, sy_hi_ri, sy_hi_rt, sy_bs_t, sy_bx_t, sy_bb_t, bz_bo, ite_bz0, ite_bz1, jgX12_bits_4]) (Int32.ofNat 0) (by rw [sy_F_eq]; omega)
  refine hq.trans ?_
  show jgX12_bits_4 (jfX12_bits_4 q) (Int32.ofNat k) _ (Int32.ofNat 31) M = _
  simp (disch := omega) only [zL, zlt, zle, zeq, zadd, zmul, zin, zix, zsh1, Nat.add_zero, Nat.zero_add, Nat.mul_zero, if_true, if_false, if_pos, if_neg, sy_bi_ri, sy_bi_rt, sy_bv_rv, sy_bv_rt, sy_br_rr, sy_br_rn, sy_hi_ri, sy_hi_rt, sy_bs_t, sy_bx_t, sy_bb_t, bz_bo, ite_bz0, ite_bz1, jgX12_bits_4]
theorem m_all {M : sy_M} {n : Nat} (hn : M 122 3 = Int32.ofNat n) (h7 : n ≤ 7) : jfX12_all M = sy_ri (sp_all n) M := by
  simp (disch := omega) only [zL, zlt, zle, zeq, zadd, zmul, zin, zix, zsh1, Nat.add_zero, Nat.zero_add, Nat.mul_zero, if_true, if_false, if_pos, if_neg, sy_bi_ri, sy_bi_rt, sy_bv_rv, sy_bv_rt, sy_br_rr, sy_br_rn, sy_hi_ri, sy_hi_rt, sy_bs_t, sy_bx_t, sy_bb_t, bz_bo, ite_bz0, ite_bz1, jfX12_all, hn, all_sh1 h7]
theorem c_all {M : sy_M} {n : Nat} (hn : M 9 3 = Int32.ofNat n) (h7 : n ≤ 7) : jfX11_everybody M = sy_ri (sp_all n) M := by
  simp (disch := omega) only [zL, zlt, zle, zeq, zadd, zmul, zin, zix, zsh1, Nat.add_zero, Nat.zero_add, Nat.mul_zero, if_true, if_false, if_pos, if_neg, sy_bi_ri, sy_bi_rt, sy_bv_rv, sy_bv_rt, sy_br_rr, sy_br_rn, sy_hi_ri, sy_hi_rt, sy_bs_t, sy_bx_t, sy_bb_t, bz_bo, ite_bz0, ite_bz1, jfX11_everybody, hn, all_sh1 h7]
