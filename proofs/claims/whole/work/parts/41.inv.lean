/-! ===== what holds between two calls ===== -/
/-- a row that an act remembers -/
def arow (M : sy_M) (j : Nat) : Nat → Int32 := fun i => if i < 426 then M 125 (426 * j + i) else M 122 i
def IA (A : (Nat → Int32) → Nat → Int32 × Bool) (tx : (Nat → Int32) → Prop) (M : sy_M) : Prop := ∃ n, gr (M 122) n ∧ hw M 9 (M 122) ∧ tx (M 122) ∧ cAK A 29 M (M 122) ∧ M 29 6 = M 122 1
def IK (A : (Nat → Int32) → Nat → Int32 × Bool) (tx : (Nat → Int32) → Prop) (M : sy_M) : Prop := M 0 16 = M 121 3 ∧ (M 121 3 = (Int32.ofNat 0) ∨ M 121 3 = (Int32.ofNat 1)) ∧ (M 121 3 = (Int32.ofNat 1) → ∃ n, gr (M 123) n ∧ hw M 24 (M 123) ∧ tx (M 123) ∧ cAK A 41 M (M 123) ∧ M 41 6 = M 123 1) ∧ (∀ i, 826 ≤ i → M 123 i = M 122 i)
def IT (M : sy_M) : Prop := ∃ s nx : Nat, s ≤ 12 ∧ nx < 12 ∧ M 57 1 = Int32.ofNat s ∧ M 121 6 = Int32.ofNat s ∧ M 57 2 = Int32.ofNat nx ∧ ∀ j, j < s → hw M (59 + 5 * ((nx + 12 - s + j) % 12)) (arow M j) ∧ (∃ n, gr (arow M j) n) ∧ tsame (M 122) (arow M j)
def ID (M : sy_M) : Prop := dk M 14 ∧ dk M 24 ∧ ∀ k, k < 12 → dk M (59 + 5 * k)
def IP (M : sy_M) : Prop := ∃ L : Nat, L ≤ 400 ∧ M 1 4 = Int32.ofNat L ∧ M 121 8 = Int32.ofNat L ∧ ∀ i, i < L → M 2 i = M 126 i ∧ ∃ k, k ≤ 255 ∧ M 126 i = Int32.ofNat k
def Inv (A : (Nat → Int32) → Nat → Int32 × Bool) (tx : (Nat → Int32) → Prop) (L0 : Int32) (S : Nat → Int32) (e : Nat) (M : sy_M) : Prop :=
  IA A tx M ∧ IK A tx M ∧ IT M ∧ ID M ∧ dk M 19 ∧ IP M ∧ M 0 17 = M 121 12 ∧ M 121 19 = (Int32.ofNat 0) ∧ (∃ k, k ≤ e ∧ M 133 0 = Int32.ofNat k) ∧ M 134 0 = L0 ∧ M 1000000 = S
def keepc (a : Nat) : Prop := a ≤ 2 ∨ (9 ≤ a ∧ a ≤ 18) ∨ (24 ≤ a ∧ a ≤ 34) ∨ (41 ≤ a ∧ a ≤ 46) ∨ (57 ≤ a ∧ a ≤ 118) ∨ a = 122 ∨ a = 123 ∨ a = 125 ∨ a = 126 ∨ a = 134 ∨ a = 1000000
theorem IA_congr {A : (Nat → Int32) → Nat → Int32 × Bool} {tx : (Nat → Int32) → Prop} {M M1 : sy_M} (I : IA A tx M) (h9 : ∀ a, 9 ≤ a → a ≤ 13 → M1 a = M a) (h29 : ∀ a, 29 ≤ a → a ≤ 34 → M1 a = M a) (h : M1 122 = M 122) : IA A tx M1 := by
  obtain ⟨n, g, w, t, c, l⟩ := I
  refine ⟨n, ?_, ?_, ?_, ?_, ?_⟩
  · rw [h]; exact g
  · rw [h]; exact hw_congr w h9
  · rw [h]; exact t
  · rw [h]; exact cAK_cp c (lcp_of h29) tsame_rfl
  · rw [h, h29 29 (by omega) (by omega)]; exact l
theorem IK_congr {A : (Nat → Int32) → Nat → Int32 × Bool} {tx : (Nat → Int32) → Prop} {M M1 : sy_M} (I : IK A tx M) (h0 : M1 0 16 = M 0 16) (h24 : ∀ a, 24 ≤ a → a ≤ 28 → M1 a = M a) (h41 : ∀ a, 41 ≤ a → a ≤ 46 → M1 a = M a) (h : M1 123 = M 123) (h1 : M1 121 3 = M 121 3) (h2 : ∀ i, 826 ≤ i → M1 122 i = M 122 i) : IK A tx M1 := by
  obtain ⟨a, b, c, d⟩ := I
  unfold IK
  rw [h0, h1, h, h41 41 (by omega) (by omega)]
  refine ⟨a, b, fun z => ?_, fun i hi => (d i hi).trans (h2 i hi).symm⟩
  obtain ⟨n, g, w, t, cc, l⟩ := c z
  exact ⟨n, g, hw_congr w h24, t, cAK_cp cc (lcp_of h41) tsame_rfl, l⟩
theorem IT_congr {M M1 : sy_M} (I : IT M) (h57 : ∀ a, 57 ≤ a → a ≤ 118 → M1 a = M a) (h : tsame (M 122) (M1 122)) (h1 : M1 121 6 = M 121 6) (h2 : M1 125 = M 125) : IT M1 := by
  obtain ⟨s, nx, a1, a2, a3, a4, a5, a6⟩ := I
  refine ⟨s, nx, a1, a2, ?_, ?_, ?_, ?_⟩
  · rw [h57 57 (by omega) (by omega)]; exact a3
  · rw [h1]; exact a4
  · rw [h57 57 (by omega) (by omega)]; exact a5
  · intro j hj
    have e : arow M1 j = arow M j := by
      funext i
      unfold arow
      by_cases hi : i < 426
      · rw [if_pos hi, if_pos hi, h2]
      · rw [if_neg hi, if_neg hi]
        exact h.2.2 i (by omega)
    obtain ⟨b1, b2, b3⟩ := a6 j hj
    rw [e]
    refine ⟨hw_congr b1 (fun a c1 c2 => h57 a (by omega) (by omega)), b2, ?_⟩
    exact ⟨b3.1.trans h.1.symm, b3.2.1.trans h.2.1.symm, fun i hi => (b3.2.2 i hi).trans (h.2.2 i hi).symm⟩
theorem ID_congr {M M1 : sy_M} (I : ID M) (h17 : M1 17 = M 17) (h27 : M1 27 = M 27) (h57 : ∀ a, 57 ≤ a → a ≤ 118 → M1 a = M a) : ID M1 :=
  ⟨dk_congr I.1 h17, dk_congr I.2.1 h27, fun k hk => dk_congr (I.2.2 k hk) (h57 _ (by omega) (by omega))⟩
theorem IP_congr {M M1 : sy_M} (I : IP M) (h1 : M1 1 4 = M 1 4) (h2 : M1 2 = M 2) (h3 : M1 121 8 = M 121 8) (h4 : M1 126 = M 126) : IP M1 := by
  unfold IP
  rw [h1, h2, h3, h4]
  exact I
theorem Inv_congr {A : (Nat → Int32) → Nat → Int32 × Bool} {tx : (Nat → Int32) → Prop} {L0 : Int32} {S : Nat → Int32} {e e1 : Nat} {M M1 : sy_M} (I : Inv A tx L0 S e M) (h : ∀ a, keepc a → M1 a = M a) (hj : ∀ j, j = 3 ∨ j = 6 ∨ j = 8 ∨ j = 12 ∨ j = 19 → M1 121 j = M 121 j) (hd : dk M1 19) (he : ∃ k, k ≤ e1 ∧ M1 133 0 = Int32.ofNat k) : Inv A tx L0 S e1 M1 := by
  unfold keepc at h
  obtain ⟨i1, i2, i3, i4, i5, i6, i7, i8, i9, i10, i11⟩ := I
  refine ⟨IA_congr i1 (fun a c1 c2 => h a (by omega)) (fun a c1 c2 => h a (by omega)) (h _ (by omega)), IK_congr i2 (by rw [h 0 (by omega)]) (fun a c1 c2 => h a (by omega)) (fun a c1 c2 => h a (by omega)) (h _ (by omega)) (hj _ (by omega)) (fun i _ => by rw [h 122 (by omega)]), IT_congr i3 (fun a c1 c2 => h a (by omega)) (by rw [h 122 (by omega)]; exact tsame_rfl) (hj _ (by omega)) (h _ (by omega)), ID_congr i4 (h _ (by omega)) (h _ (by omega)) (fun a c1 c2 => h a (by omega)), hd, IP_congr i6 (by rw [h 1 (by omega)]) (h _ (by omega)) (hj _ (by omega)) (h _ (by omega)), ?_, ?_, he, ?_, ?_⟩
  · rw [h 0 (by omega), hj 12 (by omega)]; exact i7
  · rw [hj 19 (by omega)]; exact i8
  · rw [h 134 (by omega)]; exact i10
  · rw [h 1000000 (by omega)]; exact i11
/-- a query of the class writes these alone -/
def qs (a : Nat) : Prop := (6 ≤ a ∧ a ≤ 8) ∨ (19 ≤ a ∧ a ≤ 23) ∨ (49 ≤ a ∧ a ≤ 56) ∨ a = 119 ∨ a = 120 ∨ a = 132
def fq (M M1 : sy_M) : Prop := (∀ a, ¬ qs a → M1 a = M a) ∧ (dk M 19 → dk M1 19)
theorem fq.trans {M M1 M2 : sy_M} (a : fq M M1) (b : fq M1 M2) : fq M M2 := ⟨fun c hc => (b.1 c hc).trans (a.1 c hc), fun h => b.2 (a.2 h)⟩
theorem fq_rfl {M : sy_M} : fq M M := ⟨fun _ _ => rfl, id⟩
/-- a query of the reference writes these alone -/
def rx (a : Nat) : Prop := a = 121 ∨ a = 124 ∨ (127 ≤ a ∧ a ≤ 131)
def fr (M M1 : sy_M) : Prop := (∀ a, ¬ rx a → M1 a = M a) ∧ (∀ j, j = 3 ∨ j = 6 ∨ j = 8 ∨ j = 12 ∨ j = 19 → M1 121 j = M 121 j)
theorem fr.trans {M M1 M2 : sy_M} (a : fr M M1) (b : fr M1 M2) : fr M M2 := ⟨fun c hc => (b.1 c hc).trans (a.1 c hc), fun j hj => (b.2 j hj).trans (a.2 j hj)⟩
theorem fr_rfl {M : sy_M} : fr M M := ⟨fun _ _ => rfl, fun _ _ => rfl⟩
/-- what the reference sees -/
def rq (M N : sy_M) : Prop := ∀ a, 121 ≤ a → a ≤ 131 → N a = M a
/-- an exception is made -/
def sx (M : sy_M) : sy_M := sy_upd M 133 0 (M 133 0 + 1)
def opT (A : (Nat → Int32) → Nat → Int32 × Bool) (tx : (Nat → Int32) → Prop) (L0 : Int32) (S : Nat → Int32) (e : Nat) (x : sy_O) (y : sy_M → sy_O) : Prop := ∃ (c : Nat) (v : Int32) (M1 M3 : sy_M), x = sy_ri (Int32.ofNat c) M1 ∧ y M1 = sy_ri v M3 ∧ M3 121 0 = Int32.ofNat c ∧ c < 4 ∧ (c = 0 → sy_rl M3 132 0 = Int32.toInt64 v) ∧ Inv A tx L0 S (e + 1) M3 ∧ M1 134 0 = L0 ∧ M1 1000000 = S
def opN (A : (Nat → Int32) → Nat → Int32 × Bool) (tx : (Nat → Int32) → Prop) (L0 : Int32) (S : Nat → Int32) (e : Nat) (x : sy_O) (y : sy_M → sy_O) : Prop := ∃ (v : Int32) (M1 M3 : sy_M), x = sy_ri v M1 ∧ y M1 = sy_ri v M3 ∧ Inv A tx L0 S (e + 1) M3 ∧ M1 134 0 = L0 ∧ M1 1000000 = S
theorem sy_wl_ne (M : sy_M) {a j b : Nat} (v : Int64) (h : b ≠ a) : sy_wl M a j v b = M b := by
  unfold sy_wl
  rw [sy_upd_st, sy_upd_st, syc_ne _ _ h, syc_ne _ _ h]
theorem sy_rl_cg {M N : sy_M} {a j : Nat} (h : N a = M a) : sy_rl N a j = sy_rl M a j := by
  unfold sy_rl
  rw [h]
theorem fq_rq {M M1 : sy_M} (h : fq M M1) : rq M M1 := fun a h1 h2 => h.1 a (by unfold qs; omega)
theorem Inv_q {A : (Nat → Int32) → Nat → Int32 × Bool} {tx : (Nat → Int32) → Prop} {L0 : Int32} {S : Nat → Int32} {e : Nat} {M M1 M2 : sy_M} (I : Inv A tx L0 S e M) (h1 : fq M M1) (h2 : fr M1 M2) : Inv A tx L0 S (e + 1) M2 := by
  obtain ⟨k, hk, ek⟩ := I.2.2.2.2.2.2.2.2.1
  refine Inv_congr I (fun a ha => ?_) (fun j hj => ?_) ?_ ⟨k, by omega, ?_⟩
  · unfold keepc at ha
    rw [h2.1 a (by unfold rx; omega), h1.1 a (by unfold qs; omega)]
  · rw [h2.2 j hj, h1.1 121 (by unfold qs; omega)]
  · exact dk_congr (h1.2 I.2.2.2.2.1) (h2.1 22 (by unfold rx; omega))
  · rw [h2.1 133 (by unfold rx; omega), h1.1 133 (by unfold qs; omega)]; exact ek
theorem opN_q {A : (Nat → Int32) → Nat → Int32 × Bool} {tx : (Nat → Int32) → Prop} {L0 : Int32} {S : Nat → Int32} {e : Nat} {M : sy_M} (I : Inv A tx L0 S e M) {x : sy_O} {y : sy_M → sy_O} {v : Int32} (hc : ∃ M1, x = sy_ri v M1 ∧ fq M M1) (hr : ∀ N, rq M N → ∃ N1, y N = sy_ri v N1 ∧ fr N N1) : opN A tx L0 S e x y := by
  obtain ⟨M1, e1, f1⟩ := hc
  obtain ⟨M3, e3, f3⟩ := hr M1 (fq_rq f1)
  refine ⟨v, M1, M3, e1, e3, Inv_q I f1 f3, ?_, ?_⟩
  · rw [f1.1 134 (by unfold qs; omega)]; exact I.2.2.2.2.2.2.2.2.2.1
  · rw [f1.1 1000000 (by unfold qs; omega)]; exact I.2.2.2.2.2.2.2.2.2.2
theorem fq_wl {M : sy_M} {v : Int64} : fq M (sy_wl M 132 0 v) := ⟨fun a ha => sy_wl_ne _ _ (by unfold qs at ha; omega), fun h => dk_congr h (sy_wl_ne _ _ (by omega))⟩
theorem opT_q {A : (Nat → Int32) → Nat → Int32 × Bool} {tx : (Nat → Int32) → Prop} {L0 : Int32} {S : Nat → Int32} {e : Nat} {M : sy_M} (I : Inv A tx L0 S e M) {x : sy_O} {y : sy_M → sy_O} {kt : Nat → sy_M → sy_O} {v : Int32} (hc : ∃ M1, x = sy_ri v M1 ∧ fq M M1) (hr : ∀ N, rq M N → ∃ N1, y N = sy_ri v N1 ∧ N1 121 0 = (Int32.ofNat 0) ∧ fr N N1) : opT A tx L0 S e (sy_hi x (fun v M1 => sy_ri 0 (sy_wl M1 132 0 (Int32.toInt64 v))) kt) y := by
  obtain ⟨M1, e1, f1⟩ := hc
  have f2 := f1.trans (fq_wl (v := Int32.toInt64 v))
  obtain ⟨M3, e3, t3, f3⟩ := hr _ (fq_rq f2)
  refine ⟨0, v, sy_wl M1 132 0 (Int32.toInt64 v), M3, ?_, e3, t3, by decide, fun _ => ?_, Inv_q I f2 f3, ?_, ?_⟩
  · rw [e1, sy_hi_ri]; rfl
  · rw [sy_rl_cg (f3.1 132 (by unfold rx; omega)), sy_rl_wl, if_pos ⟨rfl, rfl⟩]
  · rw [f2.1 134 (by unfold qs; omega)]; exact I.2.2.2.2.2.2.2.2.2.1
  · rw [f2.1 1000000 (by unfold qs; omega)]; exact I.2.2.2.2.2.2.2.2.2.2
theorem Inv_x {A : (Nat → Int32) → Nat → Int32 × Bool} {tx : (Nat → Int32) → Prop} {L0 : Int32} {S : Nat → Int32} {e : Nat} {M : sy_M} (I : Inv A tx L0 S e M) : Inv A tx L0 S (e + 1) (sx M) := by
  obtain ⟨k, hk, ek⟩ := I.2.2.2.2.2.2.2.2.1
  unfold sx
  rw [sy_upd_st]
  refine Inv_congr I (fun a ha => syc_ne _ _ (by unfold keepc at ha; omega)) (fun j hj => by rw [syc_ne _ _ (by decide)]) (dk_congr I.2.2.2.2.1 (syc_ne _ _ (by decide))) ⟨k + 1, by omega, ?_⟩
  rw [syc_at, rs_at, ek]
  exact zadd k 1
theorem opT_x {A : (Nat → Int32) → Nat → Int32 × Bool} {tx : (Nat → Int32) → Prop} {L0 : Int32} {S : Nat → Int32} {e : Nat} {M : sy_M} (I : Inv A tx L0 S e M) {x : sy_O} {y : sy_M → sy_O} {k0 : Int32 → sy_M → sy_O} {kt : Nat → sy_M → sy_O} {cl c : Nat} (hc : x = sy_rt cl (sx M)) (hk : kt cl (sx M) = sy_ri (Int32.ofNat c) (sx M)) (h0 : c ≠ 0) (h4 : c < 4) (hr : ∀ N, rq M N → ∃ v N1, y N = sy_ri v N1 ∧ N1 121 0 = Int32.ofNat c ∧ fr N N1) : opT A tx L0 S e (sy_hi x k0 kt) y := by
  have r : rq M (sx M) := fun a h1 h2 => by unfold sx; rw [sy_upd_st, syc_ne _ _ (by omega)]
  obtain ⟨v, M3, e3, t3, f3⟩ := hr _ r
  have I1 := Inv_x I
  refine ⟨c, v, sx M, M3, ?_, e3, t3, h4, fun z => absurd z h0, ?_, I1.2.2.2.2.2.2.2.2.2.1, I1.2.2.2.2.2.2.2.2.2.2⟩
  · rw [hc, sy_hi_rt, hk]
  · obtain ⟨k, hk, ek⟩ := I1.2.2.2.2.2.2.2.2.1
    refine Inv_congr I1 (fun a ha => f3.1 a (by unfold keepc at ha; unfold rx; omega)) f3.2 (dk_congr I1.2.2.2.2.1 (f3.1 22 (by unfold rx; omega))) ⟨k, hk, ?_⟩
    rw [f3.1 133 (by unfold rx; omega)]; exact ek
