/-! ===== the law's loop ===== -/
section
variable {L : Nat} {S : Nat → Int32} {e i : Nat} {M : sy_M}
theorem la_end {L i : Nat} (hL : L ≤ 384) (hi : i < 1000) : (Nat.toInt32 (Int32.ofNat L).toNatClampNeg - 6 < Int32.ofNat i) ↔ L < i + 6 := by
  rw [zix (by omega)]
  show (Int32.ofNat L - (Int32.ofNat 6) < Int32.ofNat i) ↔ _
  rw [zi_nat, zi_nat, zi_nat, zi_sub, zi_lt (by omega) (by omega) (by omega) (by omega)]
  omega
theorem la_round (I : Inv Ask txo (Int32.ofNat L) S e M) (he : e < 90000) (hb : bo M) (hL : L ≤ 384) (hi : i + 6 ≤ L) : stp L S e i (fun k23 => jgL_law__23 k23 (Int32.ofNat i) M) := by
  have l0 : M 134 0 = Int32.ofNat L := I.2.2.2.2.2.2.2.2.2.1
  have x0 : xe_in (Int32.ofNat i) (Int32.ofNat L).toNatClampNeg = true := by
    rw [zix (by omega)]
    exact zin (by omega) (by omega)
  have hn : ¬ (Nat.toInt32 (Int32.ofNat L).toNatClampNeg - 6 < Int32.ofNat i) := fun z => by have := (la_end hL (by omega)).mp z; omega
  simp only [jgL_law__23, l0, hn, if_false, x0, sy_bx_t]
  exact stp_ite (la_0 I he hb hL hi) (stp_ite (la_1 I he hb hL hi) (stp_ite (la_2 I he hb hL hi) (stp_ite (la_3 I he hb hL hi) (stp_ite (la_4 I he hb hL hi) (stp_ite (la_5 I he hb hL hi) (stp_ite (la_6 I he hb hL hi) (stp_ite (la_7 I he hb hL hi) (stp_ite (la_8 I he hb hL hi) (stp_ite (la_9 I he hb hL hi) (stp_ite (la_10 I he hb hL hi) (stp_ite (la_11 I he hb hL hi) (stp_ite (la_12 I he hb hL hi) (stp_ite (la_13 I he hb hL hi) (stp_ite (la_14 I he hb hL hi) (stp_ite (la_15 I he hb hL hi) (stp_ite (la_16 I he hb hL hi) (stp_ite (la_17 I he hb hL hi) (stp_ite (la_18 I he hb hL hi) (stp_ite (la_19 I he hb hL hi) (stp_ite (la_20 I he hb hL hi) (stp_ite (la_21 I he hb hL hi) (stp_ite (la_22 I he hb hL hi) (stp_ite (la_23 I he hb hL hi) (stp_ite (la_24 I he hb hL hi) (stp_ite (la_25 I he hb hL hi) (stp_ite (la_26 I he hb hL hi) (stp_ite (la_27 I he hb hL hi) (stp_ite (la_28 I he hb hL hi) (stp_ite (la_29 I he hb hL hi) (stp_ite (la_30 I he hb hL hi) (stp_ite (la_31 I he hb hL hi) (stp_ite (la_32 I he hb hL hi) (stp_ite (la_33 I he hb hL hi) (stp_ite (la_34 I he hb hL hi) (stp_ite (la_35 I he hb hL hi) (stp_ite (la_36 I he hb hL hi) (stp_ite (la_37 I he hb hL hi) (stp_ite (la_38 I he hb hL hi) (stp_ite (la_39 I he hb hL hi) (stp_ite (la_40 I he hb hL hi) (stp_ite (la_41 I he hb hL hi) (stp_ite (la_42 I he hb hL hi) (stp_ite (la_43 I he hb hL hi) (stp_ite (la_44 I he hb hL hi) (stp_ite (la_45 I he hb hL hi) (stp_ite (la_46 I he hb hL hi) (stp_ite (la_47 I he hb hL hi) (stp_ite (la_48 I he hb hL hi) (stp_ite (la_49 I he hb hL hi) (stp_ite (la_50 I he hb hL hi) (stp_ite (la_51 I he hb hL hi) (stp_ite (la_52 I he hb hL hi) (stp_ite (la_53 I he hb hL hi) (stp_ite (la_54 I he hb hL hi) (stp_ite (la_55 I he hb hL hi) (stp_ite (la_56 I he hb hL hi) (stp_ite (la_57 I he hb hL hi) (stp_ite (la_58 I he hb hL hi) (stp_ite (la_59 I he hb hL hi) (stp_ite (la_60 I he hb hL hi) (stp_ite (la_61 I he hb hL hi) (stp_ite (la_62 I he hb hL hi) (la_63 I hb)))))))))))))))))))))))))))))))))))))))))))))))))))))))))))))))
theorem la_loop (hL : L ≤ 384) : ∀ (m i e : Nat) (M : sy_M), L < i + m → i ≤ L → e + m < 90000 → Inv Ask txo (Int32.ofNat L) S e M → bo M → ∃ n M1, jfL_law__23 n (Int32.ofNat i) M = sy_ri 1 M1
  | 0, i, e, M, h, h2, _, _, _ => by omega
  | m + 1, i, e, M, h, h2, he, I, hb => by
    by_cases c : L < i + 6
    · refine ⟨1, M, ?_⟩
      show jgL_law__23 (jfL_law__23 0) (Int32.ofNat i) M = _
      have l0 : M 134 0 = Int32.ofNat L := I.2.2.2.2.2.2.2.2.2.1
      unfold jgL_law__23
      rw [l0, if_pos ((la_end hL (by omega)).mpr c)]
    · by_cases c6 : i + 6 ≤ L
      · obtain ⟨M3, e3, I3, b3⟩ := la_round I (by omega) hb hL c6
        obtain ⟨n, M1, h1⟩ := la_loop hL m (i + 6) (e + 1) M3 (by omega) (by omega) (by omega) I3 b3
        exact ⟨n + 1, M1, (e3 (jfL_law__23 n)).trans h1⟩
      · omega
end
