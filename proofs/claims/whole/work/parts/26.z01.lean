/-! ===== what the functions leave alone (1); written by wip/whole/run_z.py ===== -/
def jW_X10_append : List (Nat × Option Nat) := [(1, some 4), (2, none)]
theorem jzX10_append_50 {M0 : sy_M} {k3 : Int32 → Int32 → sy_M → sy_O} (z3 : ∀ (a1 : Int32) (a2 : Int32) (M : sy_M), sy_eqw (jW_X10_append) M0 M → sy_fr (jW_X10_append) M0 (k3 a1 a2 M)) : ∀ (a1 : Int32) (a2 : Int32) (M : sy_M), sy_eqw (jW_X10_append) M0 M → sy_fr (jW_X10_append) M0 (jfX10_append_50 k3 a1 a2 M) := by
  intro a1 a2 M e
  exact z3 _ _ _ e
theorem jzX10_append_3 {M0 : sy_M} : ∀ n : Nat, ∀ (a1 : Int32) (a2 : Int32) (M : sy_M), sy_eqw (jW_X10_append) M0 M → sy_fr (jW_X10_append) M0 (jfX10_append_3 n a1 a2 M) := by
  intro n
  induction n with
  | zero => intro a1 a2 M e; exact sy_fr_none
  | succ n z3 => intro a1 a2 M e; exact (sy_fr_ite (sy_fr_end e) ((sy_fr_ite (jzX10_append_50 z3 _ _ _ e) ((sy_fr_ite ((sy_fr_cond (jzX10_append_50 z3 _ _ _ (sy_eqw_uf (sy_eqw_ua e 1 rfl) 0 rfl)))) (jzX10_append_50 z3 _ _ _ e))))))
theorem jzX10_append {M0 : sy_M} : ∀ (a1 : Int32) (M : sy_M), sy_eqw (jW_X10_append) M0 M → sy_fr (jW_X10_append) M0 (jfX10_append a1 M) := by
  intro a1 M e
  exact jzX10_append_3  6000 _ _ _ e
theorem jzoX10_append (a1 : Int32) (M : sy_M) : sy_fr (jW_X10_append) M (jfX10_append a1 M) := jzX10_append a1 M sy_eqw_refl
def jW_X11_feed : List (Nat × Option Nat) := [(1, some 4), (2, none)]
theorem jzX11_feed {M0 : sy_M} : ∀ (a1 : Int32) (a2 : Int32) (a3 : Int32) (a4 : Int32) (a5 : Int32) (M : sy_M), sy_eqw (jW_X11_feed) M0 M → sy_fr (jW_X11_feed) M0 (jfX11_feed a1 a2 a3 a4 a5 M) := by
  intro a1 a2 a3 a4 a5 M e
  exact (sy_fr_ite (sy_fr_end e) ((sy_fr_bv (sy_fr_up e (jzoX10_append _ _) (sy_subw_ix [0, 1] rfl)) (fun _ e1 => (sy_fr_bv (sy_fr_up e1 (jzoX10_append _ _) (sy_subw_ix [0, 1] rfl)) (fun _ e2 => (sy_fr_bv (sy_fr_up e2 (jzoX10_append _ _) (sy_subw_ix [0, 1] rfl)) (fun _ e3 => (sy_fr_bv (sy_fr_up e3 (jzoX10_append _ _) (sy_subw_ix [0, 1] rfl)) (fun _ e4 => (sy_fr_bv (sy_fr_up e4 (jzoX10_append _ _) (sy_subw_ix [0, 1] rfl)) (fun _ e5 => sy_fr_end e5))))))))))))
theorem jzoX11_feed (a1 : Int32) (a2 : Int32) (a3 : Int32) (a4 : Int32) (a5 : Int32) (M : sy_M) : sy_fr (jW_X11_feed) M (jfX11_feed a1 a2 a3 a4 a5 M) := jzX11_feed a1 a2 a3 a4 a5 M sy_eqw_refl
def jW_X12_feed : List (Nat × Option Nat) := [(121, some 0), (121, some 8), (126, none)]
theorem jzX12_feed_76 {M0 : sy_M} {k23 : Int32 → Int32 → Int32 → Int32 → Int32 → Int32 → sy_M → sy_O} (z23 : ∀ (a1 : Int32) (a2 : Int32) (a3 : Int32) (a4 : Int32) (a5 : Int32) (a6 : Int32) (M : sy_M), sy_eqw (jW_X12_feed) M0 M → sy_fr (jW_X12_feed) M0 (k23 a1 a2 a3 a4 a5 a6 M)) : ∀ (a1 : Int32) (a2 : Int32) (a3 : Int32) (a4 : Int32) (a5 : Int32) (a6 : Int32) (s0 : Int32) (M : sy_M), sy_eqw (jW_X12_feed) M0 M → sy_fr (jW_X12_feed) M0 (jfX12_feed_76 k23 a1 a2 a3 a4 a5 a6 s0 M) := by
  intro a1 a2 a3 a4 a5 a6 s0 M e
  exact (sy_fr_cond (z23 _ _ _ _ _ _ _ (sy_eqw_uf (sy_eqw_ua e 2 rfl) 1 rfl)))
theorem jzX12_feed_23 {M0 : sy_M} : ∀ n : Nat, ∀ (a1 : Int32) (a2 : Int32) (a3 : Int32) (a4 : Int32) (a5 : Int32) (a6 : Int32) (M : sy_M), sy_eqw (jW_X12_feed) M0 M → sy_fr (jW_X12_feed) M0 (jfX12_feed_23 n a1 a2 a3 a4 a5 a6 M) := by
  intro n
  induction n with
  | zero => intro a1 a2 a3 a4 a5 a6 M e; exact sy_fr_none
  | succ n z23 => intro a1 a2 a3 a4 a5 a6 M e; exact (sy_fr_ite ((sy_fr_ite (jzX12_feed_76 z23 _ _ _ _ _ _ _ _ e) ((sy_fr_ite (jzX12_feed_76 z23 _ _ _ _ _ _ _ _ e) ((sy_fr_ite (jzX12_feed_76 z23 _ _ _ _ _ _ _ _ e) ((sy_fr_ite (jzX12_feed_76 z23 _ _ _ _ _ _ _ _ e) (jzX12_feed_76 z23 _ _ _ _ _ _ _ _ e))))))))) (sy_fr_end e))
theorem jzX12_feed {M0 : sy_M} : ∀ (a1 : Int32) (a2 : Int32) (a3 : Int32) (a4 : Int32) (a5 : Int32) (M : sy_M), sy_eqw (jW_X12_feed) M0 M → sy_fr (jW_X12_feed) M0 (jfX12_feed a1 a2 a3 a4 a5 M) := by
  intro a1 a2 a3 a4 a5 M e
  exact (sy_fr_ite (sy_fr_end (sy_eqw_uf e 0 rfl)) (jzX12_feed_23  6000 _ _ _ _ _ _ _ (sy_eqw_uf e 0 rfl)))
theorem jzoX12_feed (a1 : Int32) (a2 : Int32) (a3 : Int32) (a4 : Int32) (a5 : Int32) (M : sy_M) : sy_fr (jW_X12_feed) M (jfX12_feed a1 a2 a3 a4 a5 M) := jzX12_feed a1 a2 a3 a4 a5 M sy_eqw_refl
def jW_X11_end : List (Nat × Option Nat) := [(1, some 4)]
theorem jzX11_end {M0 : sy_M} : ∀ (a1 : Int32) (M : sy_M), sy_eqw (jW_X11_end) M0 M → sy_fr (jW_X11_end) M0 (jfX11_end a1 M) := by
  intro a1 M e
  exact (sy_fr_ite (sy_fr_end e) ((sy_fr_ite (sy_fr_end e) (sy_fr_end (sy_eqw_uf e 0 rfl)))))
theorem jzoX11_end (a1 : Int32) (M : sy_M) : sy_fr (jW_X11_end) M (jfX11_end a1 M) := jzX11_end a1 M sy_eqw_refl
def jW_X12_isIn : List (Nat × Option Nat) := []
theorem jzX12_isIn {M0 : sy_M} : ∀ (a0 : Int32) (a1 : Int32) (a2 : Int32) (M : sy_M), sy_eqw (jW_X12_isIn) M0 M → sy_fr (jW_X12_isIn) M0 (jfX12_isIn a0 a1 a2 M) := by
  intro a0 a1 a2 M e
  exact (sy_fr_ite (sy_fr_end e) ((sy_fr_ite (sy_fr_end e) (sy_fr_end e))))
theorem jzoX12_isIn (a0 : Int32) (a1 : Int32) (a2 : Int32) (M : sy_M) : sy_fr (jW_X12_isIn) M (jfX12_isIn a0 a1 a2 M) := jzX12_isIn a0 a1 a2 M sy_eqw_refl
def jW_X12_end : List (Nat × Option Nat) := [(121, some 0), (121, some 8)]
theorem jzX12_end {M0 : sy_M} : ∀ (a1 : Int32) (M : sy_M), sy_eqw (jW_X12_end) M0 M → sy_fr (jW_X12_end) M0 (jfX12_end a1 M) := by
  intro a1 M e
  exact (sy_fr_bi (sy_fr_up (sy_eqw_uf e 0 rfl) (jzoX12_isIn _ _ _ _) (sy_subw_ix [] rfl)) (fun _ _ e1 => (sy_fr_ite (sy_fr_end e1) (sy_fr_end (sy_eqw_uf e1 1 rfl)))))
theorem jzoX12_end (a1 : Int32) (M : sy_M) : sy_fr (jW_X12_end) M (jfX12_end a1 M) := jzX12_end a1 M sy_eqw_refl
def jW_X7_takeOver (r0 : Nat) (r1 : Nat) : List (Nat × Option Nat) := [(r0, some 2), (r0, some 3), (r0 + 1, none)]
theorem jzX7_takeOver {r0 : Nat} {r1 : Nat} {M0 : sy_M} : ∀ (M : sy_M), sy_eqw (jW_X7_takeOver r0 r1) M0 M → sy_fr (jW_X7_takeOver r0 r1) M0 (jfX7_takeOver r0 r1 M) := by
  intro  M e
  exact (sy_fr_cond ((sy_fr_ite (sy_fr_end e) ((sy_fr_cond ((sy_fr_cond ((sy_fr_ite ((sy_fr_cond ((sy_fr_cond ((sy_fr_cond ((sy_fr_cond ((sy_fr_cond ((sy_fr_cond ((sy_fr_cond ((sy_fr_cond ((sy_fr_cond (sy_fr_end (sy_eqw_uf (sy_eqw_uf (sy_eqw_cp e 2 rfl) 0 rfl) 1 rfl)))))))))))))))))))) (sy_fr_end e))))))))))
theorem jzoX7_takeOver (r0 : Nat) (r1 : Nat) (M : sy_M) : sy_fr (jW_X7_takeOver r0 r1) M (jfX7_takeOver r0 r1 M) := jzX7_takeOver  M sy_eqw_refl
def jW_X2_takeOver (r0 : Nat) (r1 : Nat) : List (Nat × Option Nat) := [(r0, some 3), (r0, some 4), (r0, some 5), (r0, some 6), (r0, some 7), (r0, some 8), (r0, some 9), (r0, some 10), (r0, some 11), (r0, some 12), (r0, some 13), (r0 + 1, none), (r0 + 2, none), (r0 + 3, some 2), (r0 + 3, some 3), (r0 + 4, none)]
theorem jzX2_takeOver_73 {r0 : Nat} {r1 : Nat} {M0 : sy_M} : ∀ (M : sy_M), sy_eqw (jW_X2_takeOver r0 r1) M0 M → sy_fr (jW_X2_takeOver r0 r1) M0 (jfX2_takeOver_73 r0 r1 M) := by
  intro  M e
  exact (sy_fr_cond ((sy_fr_cond ((sy_fr_cond ((sy_fr_cond ((sy_fr_cond ((sy_fr_cond ((sy_fr_cond ((sy_fr_cond ((sy_fr_cond ((sy_fr_cond ((sy_fr_cond ((sy_fr_cond ((sy_fr_cond ((sy_fr_cond (sy_fr_end (sy_eqw_uf (sy_eqw_uf (sy_eqw_uf (sy_eqw_uf (sy_eqw_uf (sy_eqw_uf (sy_eqw_uf e 4 rfl) 5 rfl) 6 rfl) 7 rfl) 8 rfl) 9 rfl) 10 rfl)))))))))))))))))))))))))))))
theorem jzX2_takeOver {r0 : Nat} {r1 : Nat} {M0 : sy_M} : ∀ (M : sy_M), sy_eqw (jW_X2_takeOver r0 r1) M0 M → sy_fr (jW_X2_takeOver r0 r1) M0 (jfX2_takeOver r0 r1 M) := by
  intro  M e
  exact (sy_fr_cond ((sy_fr_cond ((sy_fr_cond ((sy_fr_cond ((sy_fr_cond ((sy_fr_cond ((sy_fr_cond ((sy_fr_cond ((sy_fr_cond ((sy_fr_bv (sy_fr_up (sy_eqw_cp (sy_eqw_cp e 11 rfl) 12 rfl) (jzoX7_takeOver _ _ _) (sy_subw_ix [13, 14, 15] rfl)) (fun _ e1 => (sy_fr_cond ((sy_fr_cond ((sy_fr_cond ((sy_fr_cond ((sy_fr_cond ((sy_fr_cond ((sy_fr_cond ((sy_fr_cond (jzX2_takeOver_73   _ (sy_eqw_uf (sy_eqw_uf (sy_eqw_uf (sy_eqw_uf e1 0 rfl) 1 rfl) 2 rfl) 3 rfl)))))))))))))))))))))))))))))))))))))
theorem jzoX2_takeOver (r0 : Nat) (r1 : Nat) (M : sy_M) : sy_fr (jW_X2_takeOver r0 r1) M (jfX2_takeOver r0 r1 M) := jzX2_takeOver  M sy_eqw_refl
def jW_X10_byteAt : List (Nat × Option Nat) := []
theorem jzX10_byteAt {M0 : sy_M} : ∀ (a1 : Int32) (M : sy_M), sy_eqw (jW_X10_byteAt) M0 M → sy_fr (jW_X10_byteAt) M0 (jfX10_byteAt a1 M) := by
  intro a1 M e
  exact (sy_fr_ite (sy_fr_end e) ((sy_fr_ite ((sy_fr_cond (sy_fr_end e))) (sy_fr_end e))))
theorem jzoX10_byteAt (a1 : Int32) (M : sy_M) : sy_fr (jW_X10_byteAt) M (jfX10_byteAt a1 M) := jzX10_byteAt a1 M sy_eqw_refl
def jW_X10_numberAt : List (Nat × Option Nat) := []
theorem jzX10_numberAt_5 {M0 : sy_M} : ∀ n : Nat, ∀ (a1 : Int32) (a2 : Int32) (a3 : Int32) (a4 : Int32) (M : sy_M), sy_eqw (jW_X10_numberAt) M0 M → sy_fr (jW_X10_numberAt) M0 (jfX10_numberAt_5 n a1 a2 a3 a4 M) := by
  intro n
  induction n with
  | zero => intro a1 a2 a3 a4 M e; exact sy_fr_none
  | succ n z5 => intro a1 a2 a3 a4 M e; exact (sy_fr_ite ((sy_fr_ite ((sy_fr_bi (sy_fr_up e (jzoX10_byteAt _ _) (sy_subw_ix [] rfl)) (fun _ _ e1 => z5 _ _ _ _ _ e1))) (sy_fr_end e))) (sy_fr_end e))
theorem jzX10_numberAt {M0 : sy_M} : ∀ (a1 : Int32) (a2 : Int32) (M : sy_M), sy_eqw (jW_X10_numberAt) M0 M → sy_fr (jW_X10_numberAt) M0 (jfX10_numberAt a1 a2 M) := by
  intro a1 a2 M e
  exact jzX10_numberAt_5  6000 _ _ _ _ _ e
theorem jzoX10_numberAt (a1 : Int32) (a2 : Int32) (M : sy_M) : sy_fr (jW_X10_numberAt) M (jfX10_numberAt a1 a2 M) := jzX10_numberAt a1 a2 M sy_eqw_refl
def jW_X10_kindOf : List (Nat × Option Nat) := []
theorem jzX10_kindOf_16 {M0 : sy_M} : ∀ (a0 : Int32) (M : sy_M), sy_eqw (jW_X10_kindOf) M0 M → sy_fr (jW_X10_kindOf) M0 (jfX10_kindOf_16 a0 M) := by
  intro a0 M e
  exact (sy_fr_ite (sy_fr_end e) ((sy_fr_ite (sy_fr_end e) (sy_fr_end e))))
theorem jzX10_kindOf {M0 : sy_M} : ∀ (a0 : Int32) (M : sy_M), sy_eqw (jW_X10_kindOf) M0 M → sy_fr (jW_X10_kindOf) M0 (jfX10_kindOf a0 M) := by
  intro a0 M e
  exact (sy_fr_ite (jzX10_kindOf_16  _ _ e) ((sy_fr_ite (jzX10_kindOf_16  _ _ e) (sy_fr_end e))))
theorem jzoX10_kindOf (a0 : Int32) (M : sy_M) : sy_fr (jW_X10_kindOf) M (jfX10_kindOf a0 M) := jzX10_kindOf a0 M sy_eqw_refl
def jW_X10_wordAt : List (Nat × Option Nat) := []
theorem jzX10_wordAt_104 {M0 : sy_M} {k10 : Int32 → Int32 → Int32 → Int32 → Int32 → sy_M → sy_O} (z10 : ∀ (a1 : Int32) (a2 : Int32) (a3 : Int32) (a4 : Int32) (a5 : Int32) (M : sy_M), sy_eqw (jW_X10_wordAt) M0 M → sy_fr (jW_X10_wordAt) M0 (k10 a1 a2 a3 a4 a5 M)) : ∀ (a1 : Int32) (a2 : Int32) (a3 : Int32) (a4 : Int32) (a5 : Int32) (M : sy_M), sy_eqw (jW_X10_wordAt) M0 M → sy_fr (jW_X10_wordAt) M0 (jfX10_wordAt_104 k10 a1 a2 a3 a4 a5 M) := by
  intro a1 a2 a3 a4 a5 M e
  exact z10 _ _ _ _ _ _ e
theorem jzX10_wordAt_102 {M0 : sy_M} {k10 : Int32 → Int32 → Int32 → Int32 → Int32 → sy_M → sy_O} (z10 : ∀ (a1 : Int32) (a2 : Int32) (a3 : Int32) (a4 : Int32) (a5 : Int32) (M : sy_M), sy_eqw (jW_X10_wordAt) M0 M → sy_fr (jW_X10_wordAt) M0 (k10 a1 a2 a3 a4 a5 M)) : ∀ (a1 : Int32) (a2 : Int32) (a3 : Int32) (a5 : Int32) (s0 : Int32) (M : sy_M), sy_eqw (jW_X10_wordAt) M0 M → sy_fr (jW_X10_wordAt) M0 (jfX10_wordAt_102 k10 a1 a2 a3 a5 s0 M) := by
  intro a1 a2 a3 a5 s0 M e
  exact jzX10_wordAt_104 z10 _ _ _ _ _ _ e
theorem jzX10_wordAt_87 {M0 : sy_M} {k10 : Int32 → Int32 → Int32 → Int32 → Int32 → sy_M → sy_O} (z10 : ∀ (a1 : Int32) (a2 : Int32) (a3 : Int32) (a4 : Int32) (a5 : Int32) (M : sy_M), sy_eqw (jW_X10_wordAt) M0 M → sy_fr (jW_X10_wordAt) M0 (k10 a1 a2 a3 a4 a5 M)) : ∀ (a1 : Int32) (a2 : Int32) (a3 : Int32) (a4 : Int32) (a5 : Int32) (s0 : Int32) (M : sy_M), sy_eqw (jW_X10_wordAt) M0 M → sy_fr (jW_X10_wordAt) M0 (jfX10_wordAt_87 k10 a1 a2 a3 a4 a5 s0 M) := by
  intro a1 a2 a3 a4 a5 s0 M e
  exact (sy_fr_ite (jzX10_wordAt_102 z10 _ _ _ _ _ _ e) (jzX10_wordAt_102 z10 _ _ _ _ _ _ e))
theorem jzX10_wordAt_86 {M0 : sy_M} {k10 : Int32 → Int32 → Int32 → Int32 → Int32 → sy_M → sy_O} (z10 : ∀ (a1 : Int32) (a2 : Int32) (a3 : Int32) (a4 : Int32) (a5 : Int32) (M : sy_M), sy_eqw (jW_X10_wordAt) M0 M → sy_fr (jW_X10_wordAt) M0 (k10 a1 a2 a3 a4 a5 M)) : ∀ (a1 : Int32) (a2 : Int32) (a3 : Int32) (a4 : Int32) (a5 : Int32) (M : sy_M), sy_eqw (jW_X10_wordAt) M0 M → sy_fr (jW_X10_wordAt) M0 (jfX10_wordAt_86 k10 a1 a2 a3 a4 a5 M) := by
  intro a1 a2 a3 a4 a5 M e
  exact jzX10_wordAt_87 z10 _ _ _ _ _ _ _ e
theorem jzX10_wordAt_10 {M0 : sy_M} : ∀ n : Nat, ∀ (a1 : Int32) (a2 : Int32) (a3 : Int32) (a4 : Int32) (a5 : Int32) (M : sy_M), sy_eqw (jW_X10_wordAt) M0 M → sy_fr (jW_X10_wordAt) M0 (jfX10_wordAt_10 n a1 a2 a3 a4 a5 M) := by
  intro n
  induction n with
  | zero => intro a1 a2 a3 a4 a5 M e; exact sy_fr_none
  | succ n z10 => intro a1 a2 a3 a4 a5 M e; exact (sy_fr_ite ((sy_fr_cond ((sy_fr_ite ((sy_fr_ite (sy_fr_end e) (jzX10_wordAt_104 z10 _ _ _ _ _ _ e))) ((sy_fr_ite (jzX10_wordAt_86 z10 _ _ _ _ _ _ e) ((sy_fr_ite ((sy_fr_bi (sy_fr_up e (jzoX10_byteAt _ _) (sy_subw_ix [] rfl)) (fun _ _ e1 => (sy_fr_cond ((sy_fr_ite (jzX10_wordAt_87 z10 _ _ _ _ _ _ _ e1) (jzX10_wordAt_86 z10 _ _ _ _ _ _ e1))))))) (jzX10_wordAt_86 z10 _ _ _ _ _ _ e))))))))) (sy_fr_end e))
theorem jzX10_wordAt {M0 : sy_M} : ∀ (a1 : Int32) (a2 : Int32) (M : sy_M), sy_eqw (jW_X10_wordAt) M0 M → sy_fr (jW_X10_wordAt) M0 (jfX10_wordAt a1 a2 M) := by
  intro a1 a2 M e
  exact jzX10_wordAt_10  6000 _ _ _ _ _ _ e
theorem jzoX10_wordAt (a1 : Int32) (a2 : Int32) (M : sy_M) : sy_fr (jW_X10_wordAt) M (jfX10_wordAt a1 a2 M) := jzX10_wordAt a1 a2 M sy_eqw_refl
def jW_X10_thingAt : List (Nat × Option Nat) := []
theorem jzX10_thingAt {M0 : sy_M} : ∀ (a1 : Int32) (a2 : Int32) (M : sy_M), sy_eqw (jW_X10_thingAt) M0 M → sy_fr (jW_X10_thingAt) M0 (jfX10_thingAt a1 a2 M) := by
  intro a1 a2 M e
  exact (sy_fr_ite ((sy_fr_bi (sy_fr_up e (jzoX10_byteAt _ _) (sy_subw_ix [] rfl)) (fun _ _ e1 => (sy_fr_bi (sy_fr_up e1 (jzoX10_kindOf _ _) (sy_subw_ix [] rfl)) (fun _ _ e2 => (sy_fr_ite ((sy_fr_ite (sy_fr_end e2) (sy_fr_end e2))) ((sy_fr_ite ((sy_fr_bi (sy_fr_up e2 (jzoX10_byteAt _ _) (sy_subw_ix [] rfl)) (fun _ _ e4 => sy_fr_end e4))) ((sy_fr_bi (sy_fr_up e2 (jzoX10_wordAt _ _ _) (sy_subw_ix [] rfl)) (fun _ _ e3 => sy_fr_end e3))))))))))) (sy_fr_end e))
theorem jzoX10_thingAt (a1 : Int32) (a2 : Int32) (M : sy_M) : sy_fr (jW_X10_thingAt) M (jfX10_thingAt a1 a2 M) := jzX10_thingAt a1 a2 M sy_eqw_refl
def jW_X10_addThing : List (Nat × Option Nat) := [(1, some 5), (3, none), (4, none), (5, none)]
theorem jzX10_addThing {M0 : sy_M} : ∀ (a1 : Int32) (a2 : Int32) (M : sy_M), sy_eqw (jW_X10_addThing) M0 M → sy_fr (jW_X10_addThing) M0 (jfX10_addThing a1 a2 M) := by
  intro a1 a2 M e
  exact (sy_fr_ite (sy_fr_end e) ((sy_fr_ite (sy_fr_end e) ((sy_fr_cond ((sy_fr_bi (sy_fr_up (sy_eqw_ua e 2 rfl) (jzoX10_numberAt _ _ _) (sy_subw_ix [] rfl)) (fun _ _ e1 => (sy_fr_cond ((sy_fr_bi (sy_fr_up (sy_eqw_ua e1 3 rfl) (jzoX10_thingAt _ _ _) (sy_subw_ix [] rfl)) (fun _ _ e2 => (sy_fr_cond (sy_fr_end (sy_eqw_uf (sy_eqw_ua e2 1 rfl) 0 rfl)))))))))))))))
theorem jzoX10_addThing (a1 : Int32) (a2 : Int32) (M : sy_M) : sy_fr (jW_X10_addThing) M (jfX10_addThing a1 a2 M) := jzX10_addThing a1 a2 M sy_eqw_refl
def jW_X10_behindThing : List (Nat × Option Nat) := []
theorem jzX10_behindThing_14 {M0 : sy_M} : ∀ n : Nat, ∀ (a2 : Int32) (a3 : Int32) (a4 : Int32) (M : sy_M), sy_eqw (jW_X10_behindThing) M0 M → sy_fr (jW_X10_behindThing) M0 (jfX10_behindThing_14 n a2 a3 a4 M) := by
  intro n
  induction n with
  | zero => intro a2 a3 a4 M e; exact sy_fr_none
  | succ n z14 => intro a2 a3 a4 M e; exact (sy_fr_ite (sy_fr_end e) ((sy_fr_ite ((sy_fr_bi (sy_fr_up e (jzoX10_byteAt _ _) (sy_subw_ix [] rfl)) (fun _ _ e1 => (sy_fr_bi (sy_fr_up e1 (jzoX10_kindOf _ _) (sy_subw_ix [] rfl)) (fun _ _ e2 => (sy_fr_ite (z14 _ _ _ _ e2) (sy_fr_end e2))))))) (sy_fr_end e))))
theorem jzX10_behindThing {M0 : sy_M} : ∀ (a1 : Int32) (a2 : Int32) (M : sy_M), sy_eqw (jW_X10_behindThing) M0 M → sy_fr (jW_X10_behindThing) M0 (jfX10_behindThing a1 a2 M) := by
  intro a1 a2 M e
  exact (sy_fr_bi (sy_fr_up e (jzoX10_byteAt _ _) (sy_subw_ix [] rfl)) (fun _ _ e1 => (sy_fr_bi (sy_fr_up e1 (jzoX10_kindOf _ _) (sy_subw_ix [] rfl)) (fun _ _ e2 => jzX10_behindThing_14  6000 _ _ _ _ e2))))
theorem jzoX10_behindThing (a1 : Int32) (a2 : Int32) (M : sy_M) : sy_fr (jW_X10_behindThing) M (jfX10_behindThing a1 a2 M) := jzX10_behindThing a1 a2 M sy_eqw_refl
def jW_X10_open : List (Nat × Option Nat) := [(1, some 4), (1, some 5), (1, some 6), (1, some 7), (3, none), (4, none), (5, none)]
theorem jzX10_open_75 {M0 : sy_M} : ∀ (a1 : Int32) (M : sy_M), sy_eqw (jW_X10_open) M0 M → sy_fr (jW_X10_open) M0 (jfX10_open_75 a1 M) := by
  intro a1 M e
  exact (sy_fr_bv (sy_fr_up e (jzoX10_addThing _ _ _) (sy_subw_ix [1, 4, 5, 6] rfl)) (fun _ e1 => sy_fr_end e1))
theorem jzX10_open_66 {M0 : sy_M} {k29 : Int32 → Int32 → Int32 → sy_M → sy_O} (z29 : ∀ (a1 : Int32) (a2 : Int32) (a3 : Int32) (M : sy_M), sy_eqw (jW_X10_open) M0 M → sy_fr (jW_X10_open) M0 (k29 a1 a2 a3 M)) : ∀ (a1 : Int32) (a3 : Int32) (a4 : Int32) (M : sy_M), sy_eqw (jW_X10_open) M0 M → sy_fr (jW_X10_open) M0 (jfX10_open_66 k29 a1 a3 a4 M) := by
  intro a1 a3 a4 M e
  exact z29 _ _ _ _ e
theorem jzX10_open_29 {M0 : sy_M} : ∀ n : Nat, ∀ (a1 : Int32) (a2 : Int32) (a3 : Int32) (M : sy_M), sy_eqw (jW_X10_open) M0 M → sy_fr (jW_X10_open) M0 (jfX10_open_29 n a1 a2 a3 M) := by
  intro n
  induction n with
  | zero => intro a1 a2 a3 M e; exact sy_fr_none
  | succ n z29 => intro a1 a2 a3 M e; exact (sy_fr_ite ((sy_fr_ite ((sy_fr_bi (sy_fr_up e (jzoX10_behindThing _ _ _) (sy_subw_ix [] rfl)) (fun _ _ e1 => (sy_fr_bi (sy_fr_up e1 (jzoX10_byteAt _ _) (sy_subw_ix [] rfl)) (fun _ _ e2 => (sy_fr_ite (jzX10_open_66 z29 _ _ _ _ e2) ((sy_fr_bv (sy_fr_up e2 (jzoX10_addThing _ _ _) (sy_subw_ix [1, 4, 5, 6] rfl)) (fun _ e3 => jzX10_open_66 z29 _ _ _ _ e3))))))))) (jzX10_open_75  _ _ e))) (jzX10_open_75  _ _ e))
theorem jzX10_open {M0 : sy_M} : ∀ (M : sy_M), sy_eqw (jW_X10_open) M0 M → sy_fr (jW_X10_open) M0 (jfX10_open M) := by
  intro  M e
  exact jzX10_open_29  6000 _ _ _ _ (sy_eqw_uf (sy_eqw_uf (sy_eqw_uf (sy_eqw_uf e 0 rfl) 1 rfl) 2 rfl) 3 rfl)
theorem jzoX10_open (M : sy_M) : sy_fr (jW_X10_open) M (jfX10_open M) := jzX10_open  M sy_eqw_refl
def jW_X10_thing : List (Nat × Option Nat) := []
theorem jzX10_thing {M0 : sy_M} : ∀ (M : sy_M), sy_eqw (jW_X10_thing) M0 M → sy_fr (jW_X10_thing) M0 (jfX10_thing M) := by
  intro  M e
  exact (sy_fr_ite (sy_fr_end e) ((sy_fr_ite (sy_fr_end e) ((sy_fr_ite ((sy_fr_cond (sy_fr_end e))) (sy_fr_end e))))))
theorem jzoX10_thing (M : sy_M) : sy_fr (jW_X10_thing) M (jfX10_thing M) := jzX10_thing  M sy_eqw_refl
def jW_X10_fails : List (Nat × Option Nat) := [(1, some 7)]
theorem jzX10_fails {M0 : sy_M} : ∀ (M : sy_M), sy_eqw (jW_X10_fails) M0 M → sy_fr (jW_X10_fails) M0 (jfX10_fails M) := by
  intro  M e
  exact (sy_fr_ite (sy_fr_end (sy_eqw_uf e 0 rfl)) ((sy_fr_ite (sy_fr_end (sy_eqw_uf e 0 rfl)) ((sy_fr_cond (sy_fr_end (sy_eqw_uf e 0 rfl)))))))
theorem jzoX10_fails (M : sy_M) : sy_fr (jW_X10_fails) M (jfX10_fails M) := jzX10_fails  M sy_eqw_refl
def jW_X10_takes : List (Nat × Option Nat) := [(1, some 6)]
theorem jzX10_takes {M0 : sy_M} : ∀ (a1 : Int32) (M : sy_M), sy_eqw (jW_X10_takes) M0 M → sy_fr (jW_X10_takes) M0 (jfX10_takes a1 M) := by
  intro a1 M e
  exact (sy_fr_ite (sy_fr_end e) ((sy_fr_ite (sy_fr_end e) ((sy_fr_ite ((sy_fr_cond ((sy_fr_ite (sy_fr_end (sy_eqw_uf e 0 rfl)) (sy_fr_end e))))) (sy_fr_end e))))))
theorem jzoX10_takes (a1 : Int32) (M : sy_M) : sy_fr (jW_X10_takes) M (jfX10_takes a1 M) := jzX10_takes a1 M sy_eqw_refl
def jW_X10_takesNumber : List (Nat × Option Nat) := [(1, some 6), (1, some 7)]
theorem jzX10_takesNumber_58 {M0 : sy_M} : ∀ (M : sy_M), sy_eqw (jW_X10_takesNumber) M0 M → sy_fr (jW_X10_takesNumber) M0 (jfX10_takesNumber_58 M) := by
  intro  M e
  exact (sy_fr_cond (sy_fr_end (sy_eqw_uf e 1 rfl)))
theorem jzX10_takesNumber_47 {M0 : sy_M} : ∀ (a1 : Int32) (a2 : Int32) (s0 : Int32) (M : sy_M), sy_eqw (jW_X10_takesNumber) M0 M → sy_fr (jW_X10_takesNumber) M0 (jfX10_takesNumber_47 a1 a2 s0 M) := by
  intro a1 a2 s0 M e
  exact (sy_fr_ite (jzX10_takesNumber_58   _ e) ((sy_fr_ite (jzX10_takesNumber_58   _ e) (sy_fr_end (sy_eqw_uf e 0 rfl)))))
theorem jzX10_takesNumber {M0 : sy_M} : ∀ (a1 : Int32) (a2 : Int32) (M : sy_M), sy_eqw (jW_X10_takesNumber) M0 M → sy_fr (jW_X10_takesNumber) M0 (jfX10_takesNumber a1 a2 M) := by
  intro a1 a2 M e
  exact (sy_fr_ite (sy_fr_end e) ((sy_fr_ite (sy_fr_end e) ((sy_fr_cond ((sy_fr_ite ((sy_fr_cond (jzX10_takesNumber_47  _ _ _ _ e))) (jzX10_takesNumber_47  _ _ _ _ e))))))))
theorem jzoX10_takesNumber (a1 : Int32) (a2 : Int32) (M : sy_M) : sy_fr (jW_X10_takesNumber) M (jfX10_takesNumber a1 a2 M) := jzX10_takesNumber a1 a2 M sy_eqw_refl
def jW_X2_isDebt : List (Nat × Option Nat) := []
theorem jzX2_isDebt {M0 : sy_M} : ∀ (a0 : Int32) (a1 : Int32) (M : sy_M), sy_eqw (jW_X2_isDebt) M0 M → sy_fr (jW_X2_isDebt) M0 (jfX2_isDebt a0 a1 M) := by
  intro a0 a1 M e
  exact (sy_fr_ite (sy_fr_end e) ((sy_fr_ite ((sy_fr_ite (sy_fr_end e) ((sy_fr_ite (sy_fr_end e) (sy_fr_end e))))) (sy_fr_end e))))
theorem jzoX2_isDebt (a0 : Int32) (a1 : Int32) (M : sy_M) : sy_fr (jW_X2_isDebt) M (jfX2_isDebt a0 a1 M) := jzX2_isDebt a0 a1 M sy_eqw_refl
def jW_X2_setOwed (r0 : Nat) : List (Nat × Option Nat) := [(r0 + 2, none)]
theorem jzX2_setOwed {r0 : Nat} {M0 : sy_M} : ∀ (a1 : Int32) (a2 : Int32) (a3 : Int32) (M : sy_M), sy_eqw (jW_X2_setOwed r0) M0 M → sy_fr (jW_X2_setOwed r0) M0 (jfX2_setOwed r0 a1 a2 a3 M) := by
  intro a1 a2 a3 M e
  exact (sy_fr_bi (sy_fr_up e (jzoX2_isDebt _ _ _) (sy_subw_ix [] rfl)) (fun _ _ e1 => (sy_fr_ite (sy_fr_end e1) ((sy_fr_cond ((sy_fr_cond (sy_fr_end (sy_eqw_ua e1 0 rfl)))))))))
theorem jzoX2_setOwed (r0 : Nat) (a1 : Int32) (a2 : Int32) (a3 : Int32) (M : sy_M) : sy_fr (jW_X2_setOwed r0) M (jfX2_setOwed r0 a1 a2 a3 M) := jzX2_setOwed a1 a2 a3 M sy_eqw_refl
def jW_X3_readDebt : List (Nat × Option Nat) := [(1, some 6), (1, some 7), (16, none)]
theorem jzX3_readDebt_91 {M0 : sy_M} : ∀ (a1 : Int32) (a3 : Int32) (a4 : Int32) (M : sy_M), sy_eqw (jW_X3_readDebt) M0 M → sy_fr (jW_X3_readDebt) M0 (jfX3_readDebt_91 a1 a3 a4 M) := by
  intro a1 a3 a4 M e
  exact (sy_fr_bv (sy_fr_up e (jzoX2_setOwed _ _ _ _ _) (sy_subw_ix [2] rfl)) (fun _ e1 => (sy_fr_ite (sy_fr_end e1) (sy_fr_end e1))))
theorem jzX3_readDebt_71 {M0 : sy_M} : ∀ (M : sy_M), sy_eqw (jW_X3_readDebt) M0 M → sy_fr (jW_X3_readDebt) M0 (jfX3_readDebt_71 M) := by
  intro  M e
  exact (sy_fr_bi (sy_fr_up e (jzoX10_fails  _) (sy_subw_ix [1] rfl)) (fun _ _ e1 => (sy_fr_cond (sy_fr_end e1))))
theorem jzX3_readDebt {M0 : sy_M} : ∀ (M : sy_M), sy_eqw (jW_X3_readDebt) M0 M → sy_fr (jW_X3_readDebt) M0 (jfX3_readDebt M) := by
  intro  M e
  exact (sy_fr_bi (sy_fr_up e (jzoX10_takesNumber _ _ _) (sy_subw_ix [0, 1] rfl)) (fun _ _ e1 => (sy_fr_ite (sy_fr_end e1) ((sy_fr_bi (sy_fr_up e1 (jzoX10_takesNumber _ _ _) (sy_subw_ix [0, 1] rfl)) (fun _ _ e2 => (sy_fr_ite (sy_fr_end e2) ((sy_fr_ite (jzX3_readDebt_71   _ (sy_eqw_uf e2 0 rfl)) ((sy_fr_bi (sy_fr_up e2 (jzoX10_takesNumber _ _ _) (sy_subw_ix [0, 1] rfl)) (fun _ _ e3 => jzX3_readDebt_91  _ _ _ _ e3))))))))))))
theorem jzoX3_readDebt (M : sy_M) : sy_fr (jW_X3_readDebt) M (jfX3_readDebt M) := jzX3_readDebt  M sy_eqw_refl
def jW_X2_set (r0 : Nat) : List (Nat × Option Nat) := [(r0 + 1, none)]
theorem jzX2_set {r0 : Nat} {M0 : sy_M} : ∀ (a1 : Int32) (a2 : Int32) (a3 : Int32) (M : sy_M), sy_eqw (jW_X2_set r0) M0 M → sy_fr (jW_X2_set r0) M0 (jfX2_set r0 a1 a2 a3 M) := by
  intro a1 a2 a3 M e
  exact (sy_fr_ite (sy_fr_end e) ((sy_fr_ite ((sy_fr_ite (sy_fr_end e) ((sy_fr_ite ((sy_fr_cond ((sy_fr_cond (sy_fr_end (sy_eqw_ua e 0 rfl)))))) (sy_fr_end e))))) (sy_fr_end e))))
theorem jzoX2_set (r0 : Nat) (a1 : Int32) (a2 : Int32) (a3 : Int32) (M : sy_M) : sy_fr (jW_X2_set r0) M (jfX2_set r0 a1 a2 a3 M) := jzX2_set a1 a2 a3 M sy_eqw_refl
def jW_X3_readFact : List (Nat × Option Nat) := [(1, some 6), (1, some 7), (15, none)]
theorem jzX3_readFact {M0 : sy_M} : ∀ (a1 : Int32) (a2 : Int32) (a3 : Int32) (a4 : Int32) (M : sy_M), sy_eqw (jW_X3_readFact) M0 M → sy_fr (jW_X3_readFact) M0 (jfX3_readFact a1 a2 a3 a4 M) := by
  intro a1 a2 a3 a4 M e
  exact (sy_fr_bi (sy_fr_up e (jzoX10_takes _ _) (sy_subw_ix [0] rfl)) (fun _ _ e1 => (sy_fr_ite ((sy_fr_bi (sy_fr_up e1 (jzoX10_fails  _) (sy_subw_ix [1] rfl)) (fun _ _ e4 => (sy_fr_cond (sy_fr_end e4))))) ((sy_fr_bi (sy_fr_up e1 (jzoX10_takesNumber _ _ _) (sy_subw_ix [0, 1] rfl)) (fun _ _ e2 => (sy_fr_bv (sy_fr_up e2 (jzoX2_set _ _ _ _ _) (sy_subw_ix [2] rfl)) (fun _ e3 => (sy_fr_ite (sy_fr_end e3) (sy_fr_end e3))))))))))
theorem jzoX3_readFact (a1 : Int32) (a2 : Int32) (a3 : Int32) (a4 : Int32) (M : sy_M) : sy_fr (jW_X3_readFact) M (jfX3_readFact a1 a2 a3 a4 M) := jzX3_readFact a1 a2 a3 a4 M sy_eqw_refl
def jW_X3_readLodger : List (Nat × Option Nat) := [(1, some 6), (1, some 7), (14, some 3), (15, none)]
theorem jzX3_readLodger_175 {M0 : sy_M} : ∀ (M : sy_M), sy_eqw (jW_X3_readLodger) M0 M → sy_fr (jW_X3_readLodger) M0 (jfX3_readLodger_175 M) := by
  intro  M e
  exact sy_fr_end e
theorem jzX3_readLodger_148 {M0 : sy_M} : ∀ (M : sy_M), sy_eqw (jW_X3_readLodger) M0 M → sy_fr (jW_X3_readLodger) M0 (jfX3_readLodger_148 M) := by
  intro  M e
  exact (sy_fr_bi (sy_fr_up e (jzoX10_thing  _) (sy_subw_ix [] rfl)) (fun _ _ e1 => (sy_fr_ite ((sy_fr_bi (sy_fr_up e1 (jzoX3_readFact _ _ _ _ _) (sy_subw_ix [0, 1, 3] rfl)) (fun _ _ e2 => (sy_fr_ite (sy_fr_end e2) (jzX3_readLodger_175   _ e2))))) (jzX3_readLodger_175   _ e1))))
theorem jzX3_readLodger_79 {M0 : sy_M} : ∀ (M : sy_M), sy_eqw (jW_X3_readLodger) M0 M → sy_fr (jW_X3_readLodger) M0 (jfX3_readLodger_79 M) := by
  intro  M e
  exact (sy_fr_bi (sy_fr_up e (jzoX3_readFact _ _ _ _ _) (sy_subw_ix [0, 1, 3] rfl)) (fun _ _ e1 => (sy_fr_ite (sy_fr_end e1) ((sy_fr_bi (sy_fr_up e1 (jzoX3_readFact _ _ _ _ _) (sy_subw_ix [0, 1, 3] rfl)) (fun _ _ e2 => (sy_fr_ite (sy_fr_end e2) ((sy_fr_bi (sy_fr_up e2 (jzoX3_readFact _ _ _ _ _) (sy_subw_ix [0, 1, 3] rfl)) (fun _ _ e3 => (sy_fr_ite (sy_fr_end e3) ((sy_fr_bi (sy_fr_up e3 (jzoX10_thing  _) (sy_subw_ix [] rfl)) (fun _ _ e4 => (sy_fr_ite ((sy_fr_bi (sy_fr_up e4 (jzoX3_readFact _ _ _ _ _) (sy_subw_ix [0, 1, 3] rfl)) (fun _ _ e5 => (sy_fr_ite (sy_fr_end e5) (jzX3_readLodger_148   _ e5))))) (jzX3_readLodger_148   _ e4))))))))))))))))
theorem jzX3_readLodger {M0 : sy_M} : ∀ (M : sy_M), sy_eqw (jW_X3_readLodger) M0 M → sy_fr (jW_X3_readLodger) M0 (jfX3_readLodger M) := by
  intro  M e
  exact (sy_fr_ite ((sy_fr_bv (sy_fr_up (sy_eqw_uf e 2 rfl) (jzoX2_set _ _ _ _ _) (sy_subw_ix [3] rfl)) (fun _ e1 => (sy_fr_bv (sy_fr_up e1 (jzoX2_set _ _ _ _ _) (sy_subw_ix [3] rfl)) (fun _ e2 => (sy_fr_bi (sy_fr_up e2 (jzoX10_takes _ _) (sy_subw_ix [0] rfl)) (fun _ _ e3 => (sy_fr_ite (sy_fr_end e3) ((sy_fr_bi (sy_fr_up e3 (jzoX3_readFact _ _ _ _ _) (sy_subw_ix [0, 1, 3] rfl)) (fun _ _ e4 => (sy_fr_ite (sy_fr_end e4) (jzX3_readLodger_79   _ e4))))))))))))) ((sy_fr_bi (sy_fr_up e (jzoX10_fails  _) (sy_subw_ix [1] rfl)) (fun _ _ e5 => (sy_fr_cond (sy_fr_end e5))))))
theorem jzoX3_readLodger (M : sy_M) : sy_fr (jW_X3_readLodger) M (jfX3_readLodger M) := jzX3_readLodger  M sy_eqw_refl
def jW_X3_readLine : List (Nat × Option Nat) := [(1, some 6), (1, some 7), (14, some 3), (14, some 5), (14, some 6), (14, some 7), (14, some 8), (14, some 10), (15, none), (16, none)]
theorem jzX3_readLine_211 {M0 : sy_M} : ∀ (M : sy_M), sy_eqw (jW_X3_readLine) M0 M → sy_fr (jW_X3_readLine) M0 (jfX3_readLine_211 M) := by
  intro  M e
  exact (sy_fr_ite (sy_fr_end e) (sy_fr_end e))
theorem jzX3_readLine_200 {M0 : sy_M} : ∀ (M : sy_M), sy_eqw (jW_X3_readLine) M0 M → sy_fr (jW_X3_readLine) M0 (jfX3_readLine_200 M) := by
  intro  M e
  exact jzX3_readLine_211   _ e
theorem jzX3_readLine_166 {M0 : sy_M} : ∀ (M : sy_M), sy_eqw (jW_X3_readLine) M0 M → sy_fr (jW_X3_readLine) M0 (jfX3_readLine_166 M) := by
  intro  M e
  exact jzX3_readLine_211   _ e
theorem jzX3_readLine {M0 : sy_M} : ∀ (M : sy_M), sy_eqw (jW_X3_readLine) M0 M → sy_fr (jW_X3_readLine) M0 (jfX3_readLine M) := by
  intro  M e
  exact (sy_fr_bi (sy_fr_up e (jzoX10_thing  _) (sy_subw_ix [] rfl)) (fun _ _ e1 => (sy_fr_ite ((sy_fr_bi (sy_fr_up e1 (jzoX3_readLodger  _) (sy_subw_ix [0, 1, 2, 8] rfl)) (fun _ _ e15 => (sy_fr_cond (sy_fr_end e15))))) ((sy_fr_bi (sy_fr_up e1 (jzoX10_takes _ _) (sy_subw_ix [0] rfl)) (fun _ _ e2 => (sy_fr_ite ((sy_fr_bi (sy_fr_up e2 (jzoX10_takes _ _) (sy_subw_ix [0] rfl)) (fun _ _ e3 => (sy_fr_ite ((sy_fr_bi (sy_fr_up e3 (jzoX10_takes _ _) (sy_subw_ix [0] rfl)) (fun _ _ e4 => (sy_fr_ite ((sy_fr_bi (sy_fr_up e4 (jzoX10_takes _ _) (sy_subw_ix [0] rfl)) (fun _ _ e5 => (sy_fr_ite ((sy_fr_bi (sy_fr_up e5 (jzoX10_takes _ _) (sy_subw_ix [0] rfl)) (fun _ _ e6 => (sy_fr_ite ((sy_fr_bi (sy_fr_up e6 (jzoX10_takes _ _) (sy_subw_ix [0] rfl)) (fun _ _ e7 => (sy_fr_ite ((sy_fr_bi (sy_fr_up e7 (jzoX10_fails  _) (sy_subw_ix [1] rfl)) (fun _ _ e8 => jzX3_readLine_211   _ e8))) ((sy_fr_bi (sy_fr_up e7 (jzoX10_takesNumber _ _ _) (sy_subw_ix [0, 1] rfl)) (fun _ _ e9 => jzX3_readLine_200   _ (sy_eqw_uf e9 4 rfl)))))))) ((sy_fr_bi (sy_fr_up e6 (jzoX10_takesNumber _ _ _) (sy_subw_ix [0, 1] rfl)) (fun _ _ e10 => jzX3_readLine_166   _ (sy_eqw_uf e10 3 rfl)))))))) ((sy_fr_bi (sy_fr_up e5 (jzoX10_takesNumber _ _ _) (sy_subw_ix [0, 1] rfl)) (fun _ _ e11 => jzX3_readLine_211   _ (sy_eqw_uf e11 7 rfl)))))))) ((sy_fr_bi (sy_fr_up e4 (jzoX10_takesNumber _ _ _) (sy_subw_ix [0, 1] rfl)) (fun _ _ e12 => jzX3_readLine_211   _ (sy_eqw_uf e12 6 rfl)))))))) ((sy_fr_bi (sy_fr_up e3 (jzoX10_takesNumber _ _ _) (sy_subw_ix [0, 1] rfl)) (fun _ _ e13 => jzX3_readLine_211   _ (sy_eqw_uf e13 5 rfl)))))))) ((sy_fr_bi (sy_fr_up e2 (jzoX3_readDebt  _) (sy_subw_ix [0, 1, 9] rfl)) (fun _ _ e14 => (sy_fr_cond (sy_fr_end e14))))))))))))
theorem jzoX3_readLine (M : sy_M) : sy_fr (jW_X3_readLine) M (jfX3_readLine M) := jzX3_readLine  M sy_eqw_refl
def jW_X6_readLines : List (Nat × Option Nat) := [(1, some 6), (1, some 7), (14, some 3), (14, some 5), (14, some 6), (14, some 7), (14, some 8), (14, some 10), (15, none), (16, none)]
theorem jzX6_readLines_17 {M0 : sy_M} : ∀ n : Nat, ∀ (a1 : Int32) (a2 : Int32) (M : sy_M), sy_eqw (jW_X6_readLines) M0 M → sy_fr (jW_X6_readLines) M0 (jfX6_readLines_17 n a1 a2 M) := by
  intro n
  induction n with
  | zero => intro a1 a2 M e; exact sy_fr_none
  | succ n z17 => intro a1 a2 M e; exact (sy_fr_ite ((sy_fr_bi (sy_fr_up e (jzoX3_readLine  _) (sy_subw_ix [0, 1, 2, 3, 4, 5, 6, 7, 8, 9] rfl)) (fun _ _ e2 => (sy_fr_ite (sy_fr_end e2) ((sy_fr_bi (sy_fr_up e2 (jzoX10_thing  _) (sy_subw_ix [] rfl)) (fun _ _ e3 => (sy_fr_ite (sy_fr_end e3) ((sy_fr_bi (sy_fr_up e3 (jzoX10_takes _ _) (sy_subw_ix [0] rfl)) (fun _ _ e4 => (sy_fr_ite ((sy_fr_bi (sy_fr_up e4 (jzoX10_fails  _) (sy_subw_ix [1] rfl)) (fun _ _ e5 => (sy_fr_cond (sy_fr_end e5))))) (z17 _ _ _ e4))))))))))))) ((sy_fr_bi (sy_fr_up e (jzoX10_fails  _) (sy_subw_ix [1] rfl)) (fun _ _ e1 => (sy_fr_cond (sy_fr_end e1))))))
theorem jzX6_readLines {M0 : sy_M} : ∀ (a1 : Int32) (M : sy_M), sy_eqw (jW_X6_readLines) M0 M → sy_fr (jW_X6_readLines) M0 (jfX6_readLines a1 M) := by
  intro a1 M e
  exact (sy_fr_bi (sy_fr_up e (jzoX10_thing  _) (sy_subw_ix [] rfl)) (fun _ _ e1 => (sy_fr_ite (sy_fr_end e1) (jzX6_readLines_17  6000 _ _ _ e1))))
theorem jzoX6_readLines (a1 : Int32) (M : sy_M) : sy_fr (jW_X6_readLines) M (jfX6_readLines a1 M) := jzX6_readLines a1 M sy_eqw_refl
def jW_X0_forget : List (Nat × Option Nat) := [(57, some 1)]
theorem jzX0_forget {M0 : sy_M} : ∀ (M : sy_M), sy_eqw (jW_X0_forget) M0 M → sy_fr (jW_X0_forget) M0 (jfX0_forget M) := by
  intro  M e
  exact sy_fr_end (sy_eqw_uf e 0 rfl)
theorem jzoX0_forget (M : sy_M) : sy_fr (jW_X0_forget) M (jfX0_forget M) := jzX0_forget  M sy_eqw_refl
def jW_X11_house : List (Nat × Option Nat) := [(0, some 17), (1, some 4), (1, some 5), (1, some 6), (1, some 7), (10, none), (11, none), (12, some 2), (12, some 3), (13, none), (133, some 0), (14, some 3), (14, some 4), (14, some 5), (14, some 6), (14, some 7), (14, some 8), (14, some 9), (14, some 10), (14, some 11), (14, some 12), (14, some 13), (15, none), (16, none), (17, some 2), (17, some 3), (18, none), (3, none), (4, none), (5, none), (57, some 1), (9, some 3), (9, some 4), (9, some 5), (9, some 6), (9, some 7), (9, some 8), (9, some 9), (9, some 10), (9, some 11), (9, some 12), (9, some 13)]
theorem jzX11_house_95 {M0 : sy_M} : ∀ (M : sy_M), sy_eqw (jW_X11_house) M0 M → sy_fr (jW_X11_house) M0 (jfX11_house_95 M) := by
  intro  M e
  exact (sy_fr_bv (sy_fr_up e (jzoX0_forget  _) (sy_subw_ix [30] rfl)) (fun _ e1 => sy_fr_end e1))
theorem jzX11_house {M0 : sy_M} : ∀ (M : sy_M), sy_eqw (jW_X11_house) M0 M → sy_fr (jW_X11_house) M0 (jfX11_house M) := by
  intro  M e
  exact (sy_fr_bv (sy_fr_up e (jzoX2_takeOver _ _ _) (sy_subw_ix [11, 12, 13, 14, 15, 16, 17, 18, 19, 20, 21, 22, 23, 24, 25, 26] rfl)) (fun _ e1 => (sy_fr_bv (sy_fr_up e1 (jzoX10_open  _) (sy_subw_ix [1, 2, 3, 4, 27, 28, 29] rfl)) (fun _ e2 => (sy_fr_bi (sy_fr_up e2 (jzoX6_readLines _ _) (sy_subw_ix [3, 4, 11, 13, 14, 15, 16, 18, 22, 23] rfl)) (fun _ _ e3 => (sy_fr_ite ((sy_fr_cond (sy_fr_end (sy_eqw_uf (sy_eqw_uf e3 0 rfl) 10 rfl)))) ((sy_fr_ite ((sy_fr_bv (sy_fr_up (sy_eqw_uf e3 0 rfl) (jzoX2_takeOver _ _ _) (sy_subw_ix [31, 32, 33, 34, 35, 36, 37, 38, 39, 40, 41, 5, 6, 7, 8, 9] rfl)) (fun _ e4 => jzX11_house_95   _ (sy_eqw_uf e4 32 rfl)))) ((sy_fr_cond (sy_fr_end (sy_eqw_uf (sy_eqw_uf e3 0 rfl) 10 rfl)))))))))))))
theorem jzoX11_house (M : sy_M) : sy_fr (jW_X11_house) M (jfX11_house M) := jzX11_house  M sy_eqw_refl
def jW_L_house : List (Nat × Option Nat) := [(0, some 17), (1, some 4), (1, some 5), (1, some 6), (1, some 7), (10, none), (11, none), (12, some 2), (12, some 3), (13, none), (132, none), (133, some 0), (14, some 3), (14, some 4), (14, some 5), (14, some 6), (14, some 7), (14, some 8), (14, some 9), (14, some 10), (14, some 11), (14, some 12), (14, some 13), (15, none), (16, none), (17, some 2), (17, some 3), (18, none), (3, none), (4, none), (5, none), (57, some 1), (9, some 3), (9, some 4), (9, some 5), (9, some 6), (9, some 7), (9, some 8), (9, some 9), (9, some 10), (9, some 11), (9, some 12), (9, some 13)]
theorem jzL_house {M0 : sy_M} : ∀ (M : sy_M), sy_eqw (jW_L_house) M0 M → sy_fr (jW_L_house) M0 (jfL_house M) := by
  intro  M e
  exact (sy_fr_hi (sy_fr_up e (jzoX11_house  _) (sy_subw_ix [0, 1, 2, 3, 4, 5, 6, 7, 8, 9, 11, 12, 13, 14, 15, 16, 17, 18, 19, 20, 21, 22, 23, 24, 25, 26, 27, 28, 29, 30, 31, 32, 33, 34, 35, 36, 37, 38, 39, 40, 41, 42] rfl)) (fun _ _ e1 => sy_fr_end (sy_eqw_wl e1 10 rfl)) (fun _ _ e1 => (sy_fr_ite (sy_fr_end e1) (sy_fr_ite (sy_fr_end e1) sy_fr_none))))
theorem jzoL_house (M : sy_M) : sy_fr (jW_L_house) M (jfL_house M) := jzL_house  M sy_eqw_refl
def jW_X12_putsAside : List (Nat × Option Nat) := [(124, none)]
theorem jzX12_putsAside_2 {M0 : sy_M} : ∀ n : Nat, ∀ (a1 : Int32) (M : sy_M), sy_eqw (jW_X12_putsAside) M0 M → sy_fr (jW_X12_putsAside) M0 (jfX12_putsAside_2 n a1 M) := by
  intro n
  induction n with
  | zero => intro a1 M e; exact sy_fr_none
  | succ n z2 => intro a1 M e; exact (sy_fr_ite ((sy_fr_cond ((sy_fr_cond (z2 _ _ (sy_eqw_ua e 0 rfl)))))) (sy_fr_end e))
theorem jzX12_putsAside {M0 : sy_M} : ∀ (M : sy_M), sy_eqw (jW_X12_putsAside) M0 M → sy_fr (jW_X12_putsAside) M0 (jfX12_putsAside M) := by
  intro  M e
  exact jzX12_putsAside_2  6000 _ _ e
theorem jzoX12_putsAside (M : sy_M) : sy_fr (jW_X12_putsAside) M (jfX12_putsAside M) := jzX12_putsAside  M sy_eqw_refl
def jW_X12_begins : List (Nat × Option Nat) := [(121, some 8), (121, some 9), (121, some 10), (121, some 11), (121, some 12), (121, some 13)]
theorem jzX12_begins {M0 : sy_M} : ∀ (M : sy_M), sy_eqw (jW_X12_begins) M0 M → sy_fr (jW_X12_begins) M0 (jfX12_begins M) := by
  intro  M e
  exact sy_fr_end (sy_eqw_uf (sy_eqw_uf (sy_eqw_uf (sy_eqw_uf (sy_eqw_uf (sy_eqw_uf e 4 rfl) 1 rfl) 2 rfl) 0 rfl) 3 rfl) 5 rfl)
theorem jzoX12_begins (M : sy_M) : sy_fr (jW_X12_begins) M (jfX12_begins M) := jzX12_begins  M sy_eqw_refl
def jW_X12_letter : List (Nat × Option Nat) := []
theorem jzX12_letter {M0 : sy_M} : ∀ (a1 : Int32) (M : sy_M), sy_eqw (jW_X12_letter) M0 M → sy_fr (jW_X12_letter) M0 (jfX12_letter a1 M) := by
  intro a1 M e
  exact (sy_fr_ite ((sy_fr_cond (sy_fr_end e))) ((sy_fr_cond (sy_fr_end e))))
theorem jzoX12_letter (a1 : Int32) (M : sy_M) : sy_fr (jW_X12_letter) M (jfX12_letter a1 M) := jzX12_letter a1 M sy_eqw_refl
def jW_X12_skip : List (Nat × Option Nat) := [(121, some 11)]
theorem jzX12_skip_0 {M0 : sy_M} : ∀ n : Nat, ∀ (M : sy_M), sy_eqw (jW_X12_skip) M0 M → sy_fr (jW_X12_skip) M0 (jfX12_skip_0 n M) := by
  intro n
  induction n with
  | zero => intro  M e; exact sy_fr_none
  | succ n z0 => intro  M e; exact (sy_fr_ite ((sy_fr_bi (sy_fr_up e (jzoX12_letter _ _) (sy_subw_ix [] rfl)) (fun _ _ e1 => (sy_fr_ite (z0  _ (sy_eqw_uf e1 0 rfl)) (sy_fr_end e1))))) (sy_fr_end e))
theorem jzX12_skip {M0 : sy_M} : ∀ (M : sy_M), sy_eqw (jW_X12_skip) M0 M → sy_fr (jW_X12_skip) M0 (jfX12_skip M) := by
  intro  M e
  exact jzX12_skip_0 6000  M e
theorem jzoX12_skip (M : sy_M) : sy_fr (jW_X12_skip) M (jfX12_skip M) := jzX12_skip  M sy_eqw_refl
def jW_X12_here : List (Nat × Option Nat) := [(121, some 11)]
theorem jzX12_here {M0 : sy_M} : ∀ (M : sy_M), sy_eqw (jW_X12_here) M0 M → sy_fr (jW_X12_here) M0 (jfX12_here M) := by
  intro  M e
  exact (sy_fr_bv (sy_fr_up e (jzoX12_skip  _) (sy_subw_ix [0] rfl)) (fun _ e1 => sy_fr_end e1))
theorem jzoX12_here (M : sy_M) : sy_fr (jW_X12_here) M (jfX12_here M) := jzX12_here  M sy_eqw_refl
def jW_X12_has (r1 : Nat) : List (Nat × Option Nat) := [(121, some 11)]
theorem jzX12_has_55 {r1 : Nat} {M0 : sy_M} : ∀ n : Nat, ∀ (a2 : Int32) (a3 : Int32) (M : sy_M), sy_eqw (jW_X12_has r1) M0 M → sy_fr (jW_X12_has r1) M0 (jfX12_has_55 n r1 a2 a3 M) := by
  intro n
  induction n with
  | zero => intro a2 a3 M e; exact sy_fr_none
  | succ n z55 => intro a2 a3 M e; exact (sy_fr_cond ((sy_fr_ite ((sy_fr_bi (sy_fr_up e (jzoX12_letter _ _) (sy_subw_ix [] rfl)) (fun _ _ e1 => (sy_fr_cond ((sy_fr_ite (z55 _ _ _ e1) (sy_fr_end e1))))))) (sy_fr_end (sy_eqw_uf e 0 rfl)))))
theorem jzX12_has_38 {r1 : Nat} {M0 : sy_M} : ∀ (a2 : Int32) (M : sy_M), sy_eqw (jW_X12_has r1) M0 M → sy_fr (jW_X12_has r1) M0 (jfX12_has_38 r1 a2 M) := by
  intro a2 M e
  exact (sy_fr_cond ((sy_fr_ite (jzX12_has_55  6000 _ _ _ e) (sy_fr_end e))))
theorem jzX12_has_9 {r1 : Nat} {M0 : sy_M} : ∀ n : Nat, ∀ (a2 : Int32) (M : sy_M), sy_eqw (jW_X12_has r1) M0 M → sy_fr (jW_X12_has r1) M0 (jfX12_has_9 n r1 a2 M) := by
  intro n
  induction n with
  | zero => intro a2 M e; exact sy_fr_none
  | succ n z9 => intro a2 M e; exact (sy_fr_ite ((sy_fr_bi (sy_fr_up e (jzoX12_letter _ _) (sy_subw_ix [] rfl)) (fun _ _ e1 => (sy_fr_bi (sy_fr_up e1 (jzoX12_isIn _ _ _ _) (sy_subw_ix [] rfl)) (fun _ _ e2 => (sy_fr_ite (jzX12_has_38  _ _ e2) (z9 _ _ e2))))))) (jzX12_has_38  _ _ e))
theorem jzX12_has {r1 : Nat} {M0 : sy_M} : ∀ (M : sy_M), sy_eqw (jW_X12_has r1) M0 M → sy_fr (jW_X12_has r1) M0 (jfX12_has r1 M) := by
  intro  M e
  exact (sy_fr_bv (sy_fr_up e (jzoX12_skip  _) (sy_subw_ix [0] rfl)) (fun _ e1 => jzX12_has_9  6000 _ _ e1))
theorem jzoX12_has (r1 : Nat) (M : sy_M) : sy_fr (jW_X12_has r1) M (jfX12_has r1 M) := jzX12_has  M sy_eqw_refl
def jW_X12_wrong : List (Nat × Option Nat) := [(121, some 12)]
theorem jzX12_wrong {M0 : sy_M} : ∀ (a1 : Int32) (M : sy_M), sy_eqw (jW_X12_wrong) M0 M → sy_fr (jW_X12_wrong) M0 (jfX12_wrong a1 M) := by
  intro a1 M e
  exact (sy_fr_ite (sy_fr_end (sy_eqw_uf e 0 rfl)) (sy_fr_end e))
theorem jzoX12_wrong (a1 : Int32) (M : sy_M) : sy_fr (jW_X12_wrong) M (jfX12_wrong a1 M) := jzX12_wrong a1 M sy_eqw_refl
def jW_X12_figures : List (Nat × Option Nat) := [(121, some 11), (121, some 12)]
theorem jzX12_figures_119 {M0 : sy_M} : ∀ (a3 : Int32) (a4 : Int32) (M : sy_M), sy_eqw (jW_X12_figures) M0 M → sy_fr (jW_X12_figures) M0 (jfX12_figures_119 a3 a4 M) := by
  intro a3 a4 M e
  exact (sy_fr_bv (sy_fr_up e (jzoX12_wrong _ _) (sy_subw_ix [1] rfl)) (fun _ e1 => sy_fr_end e1))
theorem jzX12_figures_89 {M0 : sy_M} : ∀ (a1 : Int32) (a2 : Int32) (a3 : Int32) (a4 : Int32) (M : sy_M), sy_eqw (jW_X12_figures) M0 M → sy_fr (jW_X12_figures) M0 (jfX12_figures_89 a1 a2 a3 a4 M) := by
  intro a1 a2 a3 a4 M e
  exact (sy_fr_ite (jzX12_figures_119  _ _ _ e) ((sy_fr_ite (jzX12_figures_119  _ _ _ e) ((sy_fr_ite (jzX12_figures_119  _ _ _ e) ((sy_fr_ite (jzX12_figures_119  _ _ _ e) (sy_fr_end e))))))))
theorem jzX12_figures_86 {M0 : sy_M} {k18 : Int32 → Int32 → Int32 → Int32 → sy_M → sy_O} (z18 : ∀ (a1 : Int32) (a2 : Int32) (a3 : Int32) (a4 : Int32) (M : sy_M), sy_eqw (jW_X12_figures) M0 M → sy_fr (jW_X12_figures) M0 (k18 a1 a2 a3 a4 M)) : ∀ (a1 : Int32) (a2 : Int32) (a3 : Int32) (a4 : Int32) (M : sy_M), sy_eqw (jW_X12_figures) M0 M → sy_fr (jW_X12_figures) M0 (jfX12_figures_86 k18 a1 a2 a3 a4 M) := by
  intro a1 a2 a3 a4 M e
  exact z18 _ _ _ _ _ e
theorem jzX12_figures_18 {M0 : sy_M} : ∀ n : Nat, ∀ (a1 : Int32) (a2 : Int32) (a3 : Int32) (a4 : Int32) (M : sy_M), sy_eqw (jW_X12_figures) M0 M → sy_fr (jW_X12_figures) M0 (jfX12_figures_18 n a1 a2 a3 a4 M) := by
  intro n
  induction n with
  | zero => intro a1 a2 a3 a4 M e; exact sy_fr_none
  | succ n z18 => intro a1 a2 a3 a4 M e; exact (sy_fr_ite ((sy_fr_bi (sy_fr_up e (jzoX12_letter _ _) (sy_subw_ix [] rfl)) (fun _ _ e1 => (sy_fr_bi (sy_fr_up e1 (jzoX12_isIn _ _ _ _) (sy_subw_ix [] rfl)) (fun _ _ e2 => (sy_fr_ite (jzX12_figures_89  _ _ _ _ _ e2) ((sy_fr_ite (jzX12_figures_89  _ _ _ _ _ e2) ((sy_fr_bi (sy_fr_up e2 (jzoX12_letter _ _) (sy_subw_ix [] rfl)) (fun _ _ e3 => jzX12_figures_86 z18 _ _ _ _ _ (sy_eqw_uf e3 0 rfl)))))))))))) (jzX12_figures_89  _ _ _ _ _ e))
theorem jzX12_figures {M0 : sy_M} : ∀ (a1 : Int32) (a2 : Int32) (M : sy_M), sy_eqw (jW_X12_figures) M0 M → sy_fr (jW_X12_figures) M0 (jfX12_figures a1 a2 M) := by
  intro a1 a2 M e
  exact (sy_fr_ite ((sy_fr_bi (sy_fr_up e (jzoX12_here  _) (sy_subw_ix [0] rfl)) (fun _ _ e1 => jzX12_figures_18  6000 _ _ _ _ _ e1))) (sy_fr_end e))
theorem jzoX12_figures (a1 : Int32) (a2 : Int32) (M : sy_M) : sy_fr (jW_X12_figures) M (jfX12_figures a1 a2 M) := jzX12_figures a1 a2 M sy_eqw_refl
def jW_X12_tells : List (Nat × Option Nat) := [(121, some 11), (121, some 12), (122, none)]
theorem jzX12_tells {M0 : sy_M} : ∀ (a1 : Int32) (a2 : Int32) (a3 : Int32) (M : sy_M), sy_eqw (jW_X12_tells) M0 M → sy_fr (jW_X12_tells) M0 (jfX12_tells a1 a2 a3 M) := by
  intro a1 a2 a3 M e
  exact (sy_fr_bi (sy_fr_up e (jzoX12_figures _ _ _) (sy_subw_ix [0, 1] rfl)) (fun _ _ e1 => (sy_fr_ite ((sy_fr_cond (sy_fr_end (sy_eqw_ua e1 2 rfl)))) (sy_fr_end e1))))
theorem jzoX12_tells (a1 : Int32) (a2 : Int32) (a3 : Int32) (M : sy_M) : sy_fr (jW_X12_tells) M (jfX12_tells a1 a2 a3 M) := jzX12_tells a1 a2 a3 M sy_eqw_refl
def jW_X12_owesLine : List (Nat × Option Nat) := [(121, some 11), (121, some 12), (122, none)]
theorem jzX12_owesLine_51 {M0 : sy_M} : ∀ (a1 : Int32) (a3 : Int32) (M : sy_M), sy_eqw (jW_X12_owesLine) M0 M → sy_fr (jW_X12_owesLine) M0 (jfX12_owesLine_51 a1 a3 M) := by
  intro a1 a3 M e
  exact (sy_fr_bi (sy_fr_up e (jzoX12_figures _ _ _) (sy_subw_ix [0, 1] rfl)) (fun _ _ e1 => (sy_fr_ite ((sy_fr_cond (sy_fr_end (sy_eqw_ua e1 2 rfl)))) (sy_fr_end e1))))
theorem jzX12_owesLine {M0 : sy_M} : ∀ (M : sy_M), sy_eqw (jW_X12_owesLine) M0 M → sy_fr (jW_X12_owesLine) M0 (jfX12_owesLine M) := by
  intro  M e
  exact (sy_fr_bi (sy_fr_up e (jzoX12_figures _ _ _) (sy_subw_ix [0, 1] rfl)) (fun _ _ e1 => (sy_fr_bi (sy_fr_up e1 (jzoX12_here  _) (sy_subw_ix [0] rfl)) (fun _ _ e2 => (sy_fr_bi (sy_fr_up e2 (jzoX12_figures _ _ _) (sy_subw_ix [0, 1] rfl)) (fun _ _ e3 => (sy_fr_ite ((sy_fr_ite ((sy_fr_bv (sy_fr_up e3 (jzoX12_wrong _ _) (sy_subw_ix [1] rfl)) (fun _ e4 => jzX12_owesLine_51  _ _ _ e4))) (jzX12_owesLine_51  _ _ _ e3))) (jzX12_owesLine_51  _ _ _ e3))))))))
theorem jzoX12_owesLine (M : sy_M) : sy_fr (jW_X12_owesLine) M (jfX12_owesLine M) := jzX12_owesLine  M sy_eqw_refl
def jW_X12_behind (r1 : Nat) : List (Nat × Option Nat) := [(121, some 11), (121, some 12)]
theorem jzX12_behind_24 {r1 : Nat} {M0 : sy_M} : ∀ (a2 : Int32) (a3 : Int32) (M : sy_M), sy_eqw (jW_X12_behind r1) M0 M → sy_fr (jW_X12_behind r1) M0 (jfX12_behind_24 a2 a3 M) := by
  intro a2 a3 M e
  exact (sy_fr_bi (sy_fr_up e (jzoX12_figures _ _ _) (sy_subw_ix [0, 1] rfl)) (fun _ _ e1 => sy_fr_end e1))
theorem jzX12_behind {r1 : Nat} {M0 : sy_M} : ∀ (a2 : Int32) (a3 : Int32) (M : sy_M), sy_eqw (jW_X12_behind r1) M0 M → sy_fr (jW_X12_behind r1) M0 (jfX12_behind r1 a2 a3 M) := by
  intro a2 a3 M e
  exact (sy_fr_ite ((sy_fr_bi (sy_fr_up e (jzoX12_has _ _) (sy_subw_ix [0] rfl)) (fun _ _ e1 => (sy_fr_ite ((sy_fr_bv (sy_fr_up e1 (jzoX12_wrong _ _) (sy_subw_ix [1] rfl)) (fun _ e2 => jzX12_behind_24  _ _ _ e2))) (jzX12_behind_24  _ _ _ e1))))) (jzX12_behind_24  _ _ _ e))
theorem jzoX12_behind (r1 : Nat) (a2 : Int32) (a3 : Int32) (M : sy_M) : sy_fr (jW_X12_behind r1) M (jfX12_behind r1 a2 a3 M) := jzX12_behind a2 a3 M sy_eqw_refl
def jW_X12_maybe (r1 : Nat) : List (Nat × Option Nat) := [(121, some 11), (121, some 12)]
theorem jzX12_maybe {r1 : Nat} {M0 : sy_M} : ∀ (a2 : Int32) (a3 : Int32) (a4 : Int32) (M : sy_M), sy_eqw (jW_X12_maybe r1) M0 M → sy_fr (jW_X12_maybe r1) M0 (jfX12_maybe r1 a2 a3 a4 M) := by
  intro a2 a3 a4 M e
  exact (sy_fr_ite ((sy_fr_bi (sy_fr_up e (jzoX12_has _ _) (sy_subw_ix [0] rfl)) (fun _ _ e1 => (sy_fr_ite (sy_fr_end e1) ((sy_fr_bi (sy_fr_up e1 (jzoX12_figures _ _ _) (sy_subw_ix [0, 1] rfl)) (fun _ _ e2 => sy_fr_end e2))))))) (sy_fr_end e))
theorem jzoX12_maybe (r1 : Nat) (a2 : Int32) (a3 : Int32) (a4 : Int32) (M : sy_M) : sy_fr (jW_X12_maybe r1) M (jfX12_maybe r1 a2 a3 a4 M) := jzX12_maybe a2 a3 a4 M sy_eqw_refl
def jW_X12_lays : List (Nat × Option Nat) := [(122, none)]
theorem jzX12_lays {M0 : sy_M} : ∀ (a1 : Int32) (a2 : Int32) (a3 : Int32) (M : sy_M), sy_eqw (jW_X12_lays) M0 M → sy_fr (jW_X12_lays) M0 (jfX12_lays a1 a2 a3 M) := by
  intro a1 a2 a3 M e
  exact (sy_fr_cond (sy_fr_end (sy_eqw_ua e 0 rfl)))
theorem jzoX12_lays (a1 : Int32) (a2 : Int32) (a3 : Int32) (M : sy_M) : sy_fr (jW_X12_lays) M (jfX12_lays a1 a2 a3 M) := jzX12_lays a1 a2 a3 M sy_eqw_refl
def jW_X12_lodgerLine : List (Nat × Option Nat) := [(121, some 11), (121, some 12), (122, none)]
theorem jzX12_lodgerLine_181 {M0 : sy_M} : ∀ n : Nat, ∀ (a8 : Int32) (a9 : Int32) (M : sy_M), sy_eqw (jW_X12_lodgerLine) M0 M → sy_fr (jW_X12_lodgerLine) M0 (jfX12_lodgerLine_181 n a8 a9 M) := by
  intro n
  induction n with
  | zero => intro a8 a9 M e; exact sy_fr_none
  | succ n z181 => intro a8 a9 M e; exact (sy_fr_ite ((sy_fr_cond ((sy_fr_cond (z181 _ _ _ (sy_eqw_ua (sy_eqw_ua e 2 rfl) 2 rfl)))))) (sy_fr_end (sy_eqw_ua e 2 rfl)))
theorem jzX12_lodgerLine_151 {M0 : sy_M} : ∀ (a8 : Int32) (M : sy_M), sy_eqw (jW_X12_lodgerLine) M0 M → sy_fr (jW_X12_lodgerLine) M0 (jfX12_lodgerLine_151 a8 M) := by
  intro a8 M e
  exact (sy_fr_bv (sy_fr_up e (jzoX12_lays _ _ _ _) (sy_subw_ix [2] rfl)) (fun _ e1 => (sy_fr_bv (sy_fr_up e1 (jzoX12_lays _ _ _ _) (sy_subw_ix [2] rfl)) (fun _ e2 => (sy_fr_bv (sy_fr_up e2 (jzoX12_lays _ _ _ _) (sy_subw_ix [2] rfl)) (fun _ e3 => jzX12_lodgerLine_181  6000 _ _ _ e3))))))
theorem jzX12_lodgerLine_82 {M0 : sy_M} : ∀ (a2 : Int32) (a3 : Int32) (a4 : Int32) (a5 : Int32) (a6 : Int32) (a7 : Int32) (M : sy_M), sy_eqw (jW_X12_lodgerLine) M0 M → sy_fr (jW_X12_lodgerLine) M0 (jfX12_lodgerLine_82 a2 a3 a4 a5 a6 a7 M) := by
  intro a2 a3 a4 a5 a6 a7 M e
  exact (sy_fr_ite ((sy_fr_bv (sy_fr_up e (jzoX12_lays _ _ _ _) (sy_subw_ix [2] rfl)) (fun _ e1 => (sy_fr_bv (sy_fr_up e1 (jzoX12_lays _ _ _ _) (sy_subw_ix [2] rfl)) (fun _ e2 => (sy_fr_bv (sy_fr_up e2 (jzoX12_lays _ _ _ _) (sy_subw_ix [2] rfl)) (fun _ e3 => (sy_fr_bv (sy_fr_up e3 (jzoX12_lays _ _ _ _) (sy_subw_ix [2] rfl)) (fun _ e4 => (sy_fr_bv (sy_fr_up e4 (jzoX12_lays _ _ _ _) (sy_subw_ix [2] rfl)) (fun _ e5 => (sy_fr_bv (sy_fr_up e5 (jzoX12_lays _ _ _ _) (sy_subw_ix [2] rfl)) (fun _ e6 => jzX12_lodgerLine_151  _ _ e6))))))))))))) (sy_fr_end e))
theorem jzX12_lodgerLine_16 {M0 : sy_M} : ∀ (M : sy_M), sy_eqw (jW_X12_lodgerLine) M0 M → sy_fr (jW_X12_lodgerLine) M0 (jfX12_lodgerLine_16 M) := by
  intro  M e
  exact (sy_fr_bi (sy_fr_up e (jzoX12_behind _ _ _ _) (sy_subw_ix [0, 1] rfl)) (fun _ _ e1 => (sy_fr_bi (sy_fr_up e1 (jzoX12_behind _ _ _ _) (sy_subw_ix [0, 1] rfl)) (fun _ _ e2 => (sy_fr_bi (sy_fr_up e2 (jzoX12_behind _ _ _ _) (sy_subw_ix [0, 1] rfl)) (fun _ _ e3 => (sy_fr_bi (sy_fr_up e3 (jzoX12_behind _ _ _ _) (sy_subw_ix [0, 1] rfl)) (fun _ _ e4 => (sy_fr_bi (sy_fr_up e4 (jzoX12_maybe _ _ _ _ _) (sy_subw_ix [0, 1] rfl)) (fun _ _ e5 => (sy_fr_bi (sy_fr_up e5 (jzoX12_maybe _ _ _ _ _) (sy_subw_ix [0, 1] rfl)) (fun _ _ e6 => jzX12_lodgerLine_82  _ _ _ _ _ _ _ e6))))))))))))
theorem jzX12_lodgerLine {M0 : sy_M} : ∀ (a1 : Int32) (M : sy_M), sy_eqw (jW_X12_lodgerLine) M0 M → sy_fr (jW_X12_lodgerLine) M0 (jfX12_lodgerLine a1 M) := by
  intro a1 M e
  exact (sy_fr_ite ((sy_fr_bv (sy_fr_up e (jzoX12_wrong _ _) (sy_subw_ix [1] rfl)) (fun _ e1 => jzX12_lodgerLine_16   _ e1))) (jzX12_lodgerLine_16   _ e))
theorem jzoX12_lodgerLine (a1 : Int32) (M : sy_M) : sy_fr (jW_X12_lodgerLine) M (jfX12_lodgerLine a1 M) := jzX12_lodgerLine a1 M sy_eqw_refl
def jW_X12_houseLine : List (Nat × Option Nat) := [(121, some 11), (121, some 12), (122, none)]
theorem jzX12_houseLine_140 {M0 : sy_M} : ∀ (M : sy_M), sy_eqw (jW_X12_houseLine) M0 M → sy_fr (jW_X12_houseLine) M0 (jfX12_houseLine_140 M) := by
  intro  M e
  exact sy_fr_end e
theorem jzX12_houseLine {M0 : sy_M} : ∀ (M : sy_M), sy_eqw (jW_X12_houseLine) M0 M → sy_fr (jW_X12_houseLine) M0 (jfX12_houseLine M) := by
  intro  M e
  exact (sy_fr_bi (sy_fr_up e (jzoX12_here  _) (sy_subw_ix [0] rfl)) (fun _ _ e1 => (sy_fr_bi (sy_fr_up e1 (jzoX12_has _ _) (sy_subw_ix [0] rfl)) (fun _ _ e2 => (sy_fr_ite ((sy_fr_bi (sy_fr_up e2 (jzoX12_has _ _) (sy_subw_ix [0] rfl)) (fun _ _ e3 => (sy_fr_ite ((sy_fr_bi (sy_fr_up e3 (jzoX12_has _ _) (sy_subw_ix [0] rfl)) (fun _ _ e4 => (sy_fr_ite ((sy_fr_bi (sy_fr_up e4 (jzoX12_has _ _) (sy_subw_ix [0] rfl)) (fun _ _ e5 => (sy_fr_ite ((sy_fr_bi (sy_fr_up e5 (jzoX12_has _ _) (sy_subw_ix [0] rfl)) (fun _ _ e6 => (sy_fr_ite ((sy_fr_bi (sy_fr_up e6 (jzoX12_has _ _) (sy_subw_ix [0] rfl)) (fun _ _ e7 => (sy_fr_ite ((sy_fr_bi (sy_fr_up e7 (jzoX12_has _ _) (sy_subw_ix [0] rfl)) (fun _ _ e8 => (sy_fr_ite ((sy_fr_bv (sy_fr_up e8 (jzoX12_wrong _ _) (sy_subw_ix [1] rfl)) (fun _ e9 => sy_fr_end e9))) ((sy_fr_bv (sy_fr_up e8 (jzoX12_tells _ _ _ _) (sy_subw_ix [0, 1, 2] rfl)) (fun _ e10 => jzX12_houseLine_140   _ e10))))))) ((sy_fr_bv (sy_fr_up e7 (jzoX12_tells _ _ _ _) (sy_subw_ix [0, 1, 2] rfl)) (fun _ e11 => sy_fr_end e11))))))) ((sy_fr_bv (sy_fr_up e6 (jzoX12_tells _ _ _ _) (sy_subw_ix [0, 1, 2] rfl)) (fun _ e12 => sy_fr_end e12))))))) ((sy_fr_bv (sy_fr_up e5 (jzoX12_tells _ _ _ _) (sy_subw_ix [0, 1, 2] rfl)) (fun _ e13 => sy_fr_end e13))))))) ((sy_fr_bv (sy_fr_up e4 (jzoX12_tells _ _ _ _) (sy_subw_ix [0, 1, 2] rfl)) (fun _ e14 => sy_fr_end e14))))))) ((sy_fr_bv (sy_fr_up e3 (jzoX12_owesLine  _) (sy_subw_ix [0, 1, 2] rfl)) (fun _ e15 => sy_fr_end e15))))))) ((sy_fr_bv (sy_fr_up e2 (jzoX12_lodgerLine _ _) (sy_subw_ix [0, 1, 2] rfl)) (fun _ e16 => sy_fr_end e16))))))))
theorem jzoX12_houseLine (M : sy_M) : sy_fr (jW_X12_houseLine) M (jfX12_houseLine M) := jzX12_houseLine  M sy_eqw_refl
def jW_X12_isSign : List (Nat × Option Nat) := [(121, some 11)]
theorem jzX12_isSign {M0 : sy_M} : ∀ (a1 : Int32) (M : sy_M), sy_eqw (jW_X12_isSign) M0 M → sy_fr (jW_X12_isSign) M0 (jfX12_isSign a1 M) := by
  intro a1 M e
  exact (sy_fr_bv (sy_fr_up e (jzoX12_skip  _) (sy_subw_ix [0] rfl)) (fun _ e1 => (sy_fr_ite ((sy_fr_bi (sy_fr_up e1 (jzoX12_letter _ _) (sy_subw_ix [] rfl)) (fun _ _ e2 => (sy_fr_ite (sy_fr_end e2) (sy_fr_end e2))))) (sy_fr_end e1))))
theorem jzoX12_isSign (a1 : Int32) (M : sy_M) : sy_fr (jW_X12_isSign) M (jfX12_isSign a1 M) := jzX12_isSign a1 M sy_eqw_refl
def jW_X12_every : List (Nat × Option Nat) := [(121, some 11), (121, some 12), (121, some 13)]
theorem jzX12_every_40 {M0 : sy_M} {rc : sy_M → sy_O} (zrc : ∀ (M : sy_M), sy_eqw (jW_X12_every) M0 M → sy_fr (jW_X12_every) M0 (rc M)) {k5 : Int32 → sy_M → sy_O} (z5 : ∀ (a1 : Int32) (M : sy_M), sy_eqw (jW_X12_every) M0 M → sy_fr (jW_X12_every) M0 (k5 a1 M)) : ∀ (s0 : Int32) (M : sy_M), sy_eqw (jW_X12_every) M0 M → sy_fr (jW_X12_every) M0 (jfX12_every_40 rc k5 s0 M) := by
  intro s0 M e
  exact z5 _ _ e
theorem jzX12_every_39 {M0 : sy_M} {rc : sy_M → sy_O} (zrc : ∀ (M : sy_M), sy_eqw (jW_X12_every) M0 M → sy_fr (jW_X12_every) M0 (rc M)) {k5 : Int32 → sy_M → sy_O} (z5 : ∀ (a1 : Int32) (M : sy_M), sy_eqw (jW_X12_every) M0 M → sy_fr (jW_X12_every) M0 (k5 a1 M)) : ∀ (M : sy_M), sy_eqw (jW_X12_every) M0 M → sy_fr (jW_X12_every) M0 (jfX12_every_39 rc k5 M) := by
  intro  M e
  exact jzX12_every_40 zrc z5 _ _ e
theorem jzX12_every_5 {M0 : sy_M} {rc : sy_M → sy_O} (zrc : ∀ (M : sy_M), sy_eqw (jW_X12_every) M0 M → sy_fr (jW_X12_every) M0 (rc M)) : ∀ n : Nat, ∀ (a1 : Int32) (M : sy_M), sy_eqw (jW_X12_every) M0 M → sy_fr (jW_X12_every) M0 (jfX12_every_5 rc n a1 M) := by
  intro n
  induction n with
  | zero => intro a1 M e; exact sy_fr_none
  | succ n z5 => intro a1 M e; exact (sy_fr_ite ((sy_fr_bi (sy_fr_up e (jzoX12_has _ _) (sy_subw_ix [0] rfl)) (fun _ _ e1 => (sy_fr_ite ((sy_fr_cond (sy_fr_end e1))) ((sy_fr_bi (zrc  _ e1) (fun _ _ e2 => (sy_fr_ite (jzX12_every_39 zrc z5  _ e2) ((sy_fr_ite (jzX12_every_39 zrc z5  _ e2) (jzX12_every_40 zrc z5 _ _ e2))))))))))) ((sy_fr_cond (sy_fr_end e))))
theorem jzX12_every {M0 : sy_M} {rc : sy_M → sy_O} (zrc : ∀ (M : sy_M), sy_eqw (jW_X12_every) M0 M → sy_fr (jW_X12_every) M0 (rc M)) : ∀ (M : sy_M), sy_eqw (jW_X12_every) M0 M → sy_fr (jW_X12_every) M0 (jfX12_every rc M) := by
  intro  M e
  exact (sy_fr_bi (zrc  _ e) (fun _ _ e1 => jzX12_every_5 zrc  6000 _ _ e1))
def jW_X12_some : List (Nat × Option Nat) := [(121, some 11), (121, some 12), (121, some 13)]
theorem jzX12_some_40 {M0 : sy_M} {rc : sy_M → sy_O} (zrc : ∀ (M : sy_M), sy_eqw (jW_X12_some) M0 M → sy_fr (jW_X12_some) M0 (rc M)) {k5 : Int32 → sy_M → sy_O} (z5 : ∀ (a1 : Int32) (M : sy_M), sy_eqw (jW_X12_some) M0 M → sy_fr (jW_X12_some) M0 (k5 a1 M)) : ∀ (s0 : Int32) (M : sy_M), sy_eqw (jW_X12_some) M0 M → sy_fr (jW_X12_some) M0 (jfX12_some_40 rc k5 s0 M) := by
  intro s0 M e
  exact z5 _ _ e
theorem jzX12_some_35 {M0 : sy_M} {rc : sy_M → sy_O} (zrc : ∀ (M : sy_M), sy_eqw (jW_X12_some) M0 M → sy_fr (jW_X12_some) M0 (rc M)) {k5 : Int32 → sy_M → sy_O} (z5 : ∀ (a1 : Int32) (M : sy_M), sy_eqw (jW_X12_some) M0 M → sy_fr (jW_X12_some) M0 (k5 a1 M)) : ∀ (M : sy_M), sy_eqw (jW_X12_some) M0 M → sy_fr (jW_X12_some) M0 (jfX12_some_35 rc k5 M) := by
  intro  M e
  exact jzX12_some_40 zrc z5 _ _ e
theorem jzX12_some_5 {M0 : sy_M} {rc : sy_M → sy_O} (zrc : ∀ (M : sy_M), sy_eqw (jW_X12_some) M0 M → sy_fr (jW_X12_some) M0 (rc M)) : ∀ n : Nat, ∀ (a1 : Int32) (M : sy_M), sy_eqw (jW_X12_some) M0 M → sy_fr (jW_X12_some) M0 (jfX12_some_5 rc n a1 M) := by
  intro n
  induction n with
  | zero => intro a1 M e; exact sy_fr_none
  | succ n z5 => intro a1 M e; exact (sy_fr_ite ((sy_fr_bi (sy_fr_up e (jzoX12_has _ _) (sy_subw_ix [0] rfl)) (fun _ _ e1 => (sy_fr_ite ((sy_fr_cond (sy_fr_end e1))) ((sy_fr_bi (jzX12_every zrc  _ e1) (fun _ _ e2 => (sy_fr_ite ((sy_fr_ite (jzX12_some_40 zrc z5 _ _ e2) (jzX12_some_35 zrc z5  _ e2))) (jzX12_some_35 zrc z5  _ e2))))))))) ((sy_fr_cond (sy_fr_end e))))
theorem jzX12_some {M0 : sy_M} {rc : sy_M → sy_O} (zrc : ∀ (M : sy_M), sy_eqw (jW_X12_some) M0 M → sy_fr (jW_X12_some) M0 (rc M)) : ∀ (M : sy_M), sy_eqw (jW_X12_some) M0 M → sy_fr (jW_X12_some) M0 (jfX12_some rc M) := by
  intro  M e
  exact (sy_fr_bi (jzX12_every zrc  _ e) (fun _ _ e1 => jzX12_some_5 zrc  6000 _ _ e1))
def jW_X12_part : List (Nat × Option Nat) := [(121, some 11), (121, some 12)]
theorem jzX12_part_145 {M0 : sy_M} : ∀ (s0 : Int32) (M : sy_M), sy_eqw (jW_X12_part) M0 M → sy_fr (jW_X12_part) M0 (jfX12_part_145 s0 M) := by
  intro s0 M e
  exact (sy_fr_ite ((sy_fr_bv (sy_fr_up e (jzoX12_wrong _ _) (sy_subw_ix [1] rfl)) (fun _ e1 => sy_fr_end e1))) ((sy_fr_cond (sy_fr_end e))))
theorem jzX12_part_52 {M0 : sy_M} : ∀ (M : sy_M), sy_eqw (jW_X12_part) M0 M → sy_fr (jW_X12_part) M0 (jfX12_part_52 M) := by
  intro  M e
  exact (sy_fr_bi (sy_fr_up e (jzoX12_has _ _) (sy_subw_ix [0] rfl)) (fun _ _ e1 => (sy_fr_ite ((sy_fr_bi (sy_fr_up e1 (jzoX12_has _ _) (sy_subw_ix [0] rfl)) (fun _ _ e2 => (sy_fr_ite ((sy_fr_bi (sy_fr_up e2 (jzoX12_has _ _) (sy_subw_ix [0] rfl)) (fun _ _ e3 => (sy_fr_ite ((sy_fr_bi (sy_fr_up e3 (jzoX12_has _ _) (sy_subw_ix [0] rfl)) (fun _ _ e4 => (sy_fr_ite ((sy_fr_bi (sy_fr_up e4 (jzoX12_has _ _) (sy_subw_ix [0] rfl)) (fun _ _ e5 => (sy_fr_ite ((sy_fr_bi (sy_fr_up e5 (jzoX12_has _ _) (sy_subw_ix [0] rfl)) (fun _ _ e6 => (sy_fr_ite ((sy_fr_bi (sy_fr_up e6 (jzoX12_has _ _) (sy_subw_ix [0] rfl)) (fun _ _ e7 => (sy_fr_ite (jzX12_part_145  _ _ e7) (jzX12_part_145  _ _ e7))))) (jzX12_part_145  _ _ e6))))) (jzX12_part_145  _ _ e5))))) (jzX12_part_145  _ _ e4))))) (jzX12_part_145  _ _ e3))))) (jzX12_part_145  _ _ e2))))) (jzX12_part_145  _ _ e1))))
theorem jzX12_part {M0 : sy_M} : ∀ (M : sy_M), sy_eqw (jW_X12_part) M0 M → sy_fr (jW_X12_part) M0 (jfX12_part M) := by
  intro  M e
  exact (sy_fr_ite ((sy_fr_bv (sy_fr_up e (jzoX12_skip  _) (sy_subw_ix [0] rfl)) (fun _ e1 => (sy_fr_ite ((sy_fr_bi (sy_fr_up e1 (jzoX12_letter _ _) (sy_subw_ix [] rfl)) (fun _ _ e2 => (sy_fr_bi (sy_fr_up e2 (jzoX12_isIn _ _ _ _) (sy_subw_ix [] rfl)) (fun _ _ e3 => (sy_fr_ite (jzX12_part_52   _ e3) ((sy_fr_bi (sy_fr_up e3 (jzoX12_figures _ _ _) (sy_subw_ix [0, 1] rfl)) (fun _ _ e4 => sy_fr_end e4))))))))) (jzX12_part_52   _ e1))))) (sy_fr_end e))
theorem jzoX12_part (M : sy_M) : sy_fr (jW_X12_part) M (jfX12_part M) := jzX12_part  M sy_eqw_refl
def jW_X12_sum : List (Nat × Option Nat) := [(121, some 11), (121, some 12)]
theorem jzX12_sum_5 {M0 : sy_M} : ∀ n : Nat, ∀ (a1 : Int32) (M : sy_M), sy_eqw (jW_X12_sum) M0 M → sy_fr (jW_X12_sum) M0 (jfX12_sum_5 n a1 M) := by
  intro n
  induction n with
  | zero => intro a1 M e; exact sy_fr_none
  | succ n z5 => intro a1 M e; exact (sy_fr_ite ((sy_fr_bi (sy_fr_up e (jzoX12_isSign _ _) (sy_subw_ix [0] rfl)) (fun _ _ e1 => (sy_fr_ite (sy_fr_end e1) ((sy_fr_bi (sy_fr_up (sy_eqw_uf e1 0 rfl) (jzoX12_part  _) (sy_subw_ix [0, 1] rfl)) (fun _ _ e2 => z5 _ _ e2))))))) (sy_fr_end e))
theorem jzX12_sum {M0 : sy_M} : ∀ (M : sy_M), sy_eqw (jW_X12_sum) M0 M → sy_fr (jW_X12_sum) M0 (jfX12_sum M) := by
  intro  M e
  exact (sy_fr_bi (sy_fr_up e (jzoX12_part  _) (sy_subw_ix [0, 1] rfl)) (fun _ _ e1 => jzX12_sum_5  6000 _ _ e1))
theorem jzoX12_sum (M : sy_M) : sy_fr (jW_X12_sum) M (jfX12_sum M) := jzX12_sum  M sy_eqw_refl
def jW_X12_plain : List (Nat × Option Nat) := [(121, some 11), (121, some 12)]
theorem jzX12_plain_73 {M0 : sy_M} : ∀ (a1 : Int32) (a2 : Int32) (M : sy_M), sy_eqw (jW_X12_plain) M0 M → sy_fr (jW_X12_plain) M0 (jfX12_plain_73 a1 a2 M) := by
  intro a1 a2 M e
  exact (sy_fr_bi (sy_fr_up (sy_eqw_uf e 0 rfl) (jzoX12_sum  _) (sy_subw_ix [0, 1] rfl)) (fun _ _ e1 => (sy_fr_ite ((sy_fr_ite (sy_fr_end e1) (sy_fr_end e1))) ((sy_fr_ite (sy_fr_end e1) (sy_fr_end e1))))))
theorem jzX12_plain {M0 : sy_M} : ∀ (M : sy_M), sy_eqw (jW_X12_plain) M0 M → sy_fr (jW_X12_plain) M0 (jfX12_plain M) := by
  intro  M e
  exact (sy_fr_bi (sy_fr_up e (jzoX12_has _ _) (sy_subw_ix [0] rfl)) (fun _ _ e1 => (sy_fr_ite ((sy_fr_bi (sy_fr_up e1 (jzoX12_has _ _) (sy_subw_ix [0] rfl)) (fun _ _ e2 => (sy_fr_ite ((sy_fr_bi (sy_fr_up e2 (jzoX12_sum  _) (sy_subw_ix [0, 1] rfl)) (fun _ _ e3 => (sy_fr_ite ((sy_fr_bi (sy_fr_up e3 (jzoX12_isSign _ _) (sy_subw_ix [0] rfl)) (fun _ _ e4 => (sy_fr_ite ((sy_fr_bi (sy_fr_up e4 (jzoX12_isSign _ _) (sy_subw_ix [0] rfl)) (fun _ _ e5 => (sy_fr_ite ((sy_fr_bv (sy_fr_up e5 (jzoX12_wrong _ _) (sy_subw_ix [1] rfl)) (fun _ e6 => sy_fr_end e6))) (jzX12_plain_73  _ _ _ e5))))) (jzX12_plain_73  _ _ _ e4))))) (sy_fr_end e3))))) ((sy_fr_cond (sy_fr_end e2))))))) ((sy_fr_cond (sy_fr_end e1))))))
theorem jzoX12_plain (M : sy_M) : sy_fr (jW_X12_plain) M (jfX12_plain M) := jzX12_plain  M sy_eqw_refl
def jW_X12_atom : List (Nat × Option Nat) := [(121, some 11), (121, some 12), (121, some 13)]
theorem jzX12_atom_138 {M0 : sy_M} {rc : sy_M → sy_O} (zrc : ∀ (M : sy_M), sy_eqw (jW_X12_atom) M0 M → sy_fr (jW_X12_atom) M0 (rc M)) : ∀ (a3 : Int32) (M : sy_M), sy_eqw (jW_X12_atom) M0 M → sy_fr (jW_X12_atom) M0 (jfX12_atom_138 rc a3 M) := by
  intro a3 M e
  exact (sy_fr_cond (sy_fr_end (sy_eqw_uf e 2 rfl)))
theorem jzX12_atom_128 {M0 : sy_M} {rc : sy_M → sy_O} (zrc : ∀ (M : sy_M), sy_eqw (jW_X12_atom) M0 M → sy_fr (jW_X12_atom) M0 (rc M)) : ∀ (a3 : Int32) (M : sy_M), sy_eqw (jW_X12_atom) M0 M → sy_fr (jW_X12_atom) M0 (jfX12_atom_128 rc a3 M) := by
  intro a3 M e
  exact jzX12_atom_138 zrc  _ _ (sy_eqw_uf e 0 rfl)
theorem jzX12_atom_84 {M0 : sy_M} {rc : sy_M → sy_O} (zrc : ∀ (M : sy_M), sy_eqw (jW_X12_atom) M0 M → sy_fr (jW_X12_atom) M0 (rc M)) : ∀ (s0 : Int32) (M : sy_M), sy_eqw (jW_X12_atom) M0 M → sy_fr (jW_X12_atom) M0 (jfX12_atom_84 rc s0 M) := by
  intro s0 M e
  exact jzX12_atom_138 zrc  _ _ e
theorem jzX12_atom_40 {M0 : sy_M} {rc : sy_M → sy_O} (zrc : ∀ (M : sy_M), sy_eqw (jW_X12_atom) M0 M → sy_fr (jW_X12_atom) M0 (rc M)) : ∀ (a1 : Int32) (a2 : Int32) (M : sy_M), sy_eqw (jW_X12_atom) M0 M → sy_fr (jW_X12_atom) M0 (jfX12_atom_40 rc a1 a2 M) := by
  intro a1 a2 M e
  exact (sy_fr_ite ((sy_fr_bv (sy_fr_up e (jzoX12_wrong _ _) (sy_subw_ix [1] rfl)) (fun _ e5 => sy_fr_end e5))) ((sy_fr_ite ((sy_fr_bi (jzX12_some zrc  _ (sy_eqw_uf (sy_eqw_uf e 2 rfl) 0 rfl)) (fun _ _ e1 => (sy_fr_ite ((sy_fr_bi (sy_fr_up e1 (jzoX12_isSign _ _) (sy_subw_ix [0] rfl)) (fun _ _ e2 => (sy_fr_ite ((sy_fr_bv (sy_fr_up e2 (jzoX12_wrong _ _) (sy_subw_ix [1] rfl)) (fun _ e3 => jzX12_atom_128 zrc  _ _ e3))) (jzX12_atom_128 zrc  _ _ e2))))) (jzX12_atom_128 zrc  _ _ e1))))) ((sy_fr_bi (zrc  _ (sy_eqw_uf e 2 rfl)) (fun _ _ e4 => (sy_fr_ite (jzX12_atom_84 zrc  _ _ e4) (jzX12_atom_84 zrc  _ _ e4))))))))
theorem jzX12_atom {M0 : sy_M} {rc : sy_M → sy_O} (zrc : ∀ (M : sy_M), sy_eqw (jW_X12_atom) M0 M → sy_fr (jW_X12_atom) M0 (rc M)) : ∀ (M : sy_M), sy_eqw (jW_X12_atom) M0 M → sy_fr (jW_X12_atom) M0 (jgX12_atom rc M) := by
  intro  M e
  exact (sy_fr_ite ((sy_fr_bi (sy_fr_up e (jzoX12_here  _) (sy_subw_ix [0] rfl)) (fun _ _ e1 => (sy_fr_bi (sy_fr_up e1 (jzoX12_has _ _) (sy_subw_ix [0] rfl)) (fun _ _ e2 => (sy_fr_ite ((sy_fr_bi (sy_fr_up e2 (jzoX12_isSign _ _) (sy_subw_ix [0] rfl)) (fun _ _ e3 => (sy_fr_ite ((sy_fr_bi (sy_fr_up e3 (jzoX12_plain  _) (sy_subw_ix [0, 1] rfl)) (fun _ _ e4 => (sy_fr_cond (sy_fr_end e4))))) (jzX12_atom_40 zrc  _ _ _ e3))))) (jzX12_atom_40 zrc  _ _ _ e2))))))) (sy_fr_end e))
theorem jzall_A {M0 : sy_M} : ∀ (n : Nat) (M : sy_M), sy_eqw (jW_X12_atom) M0 M → sy_fr (jW_X12_atom) M0 (jfX12_atom n M) := by
  intro n
  induction n with
  | zero => intro  M e; exact sy_fr_none
  | succ n ih => intro  M e; exact jzX12_atom ih  M e
theorem jzoX12_some (M : sy_M) (_ : ∀ _ _ _ : Nat, (0 : Nat) = 0) : sy_fr (jW_X12_some) M (jfX12_some (jfX12_atom 12) M) := jzX12_some (jzall_A 12)  M sy_eqw_refl
theorem jzoX12_every (M : sy_M) (_ : ∀ _ _ _ : Nat, (0 : Nat) = 0) : sy_fr (jW_X12_every) M (jfX12_every (jfX12_atom 12) M) := jzX12_every (jzall_A 12)  M sy_eqw_refl
theorem jzoX12_atom (M : sy_M) (_ : ∀ _ _ _ : Nat, (0 : Nat) = 0) : sy_fr (jW_X12_atom) M (jfX12_atom 12 M) := jzall_A 12  M sy_eqw_refl
def jW_X12_lawLine : List (Nat × Option Nat) := [(121, some 11), (121, some 12), (121, some 13), (121, some 17), (121, some 18)]
theorem jzX12_lawLine_134 {M0 : sy_M} : ∀ (a1 : Int32) (a2 : Int32) (s0 : Int32) (M : sy_M), sy_eqw (jW_X12_lawLine) M0 M → sy_fr (jW_X12_lawLine) M0 (jfX12_lawLine_134 a1 a2 s0 M) := by
  intro a1 a2 s0 M e
  exact (sy_fr_cond ((sy_fr_ite (sy_fr_end (sy_eqw_uf (sy_eqw_uf e 4 rfl) 3 rfl)) ((sy_fr_ite (sy_fr_end (sy_eqw_uf (sy_eqw_uf e 4 rfl) 3 rfl)) (sy_fr_end (sy_eqw_uf (sy_eqw_uf e 4 rfl) 3 rfl)))))))
theorem jzX12_lawLine_129 {M0 : sy_M} : ∀ (a1 : Int32) (a2 : Int32) (M : sy_M), sy_eqw (jW_X12_lawLine) M0 M → sy_fr (jW_X12_lawLine) M0 (jfX12_lawLine_129 a1 a2 M) := by
  intro a1 a2 M e
  exact jzX12_lawLine_134  _ _ _ _ e
theorem jzX12_lawLine_102 {M0 : sy_M} : ∀ (a1 : Int32) (a2 : Int32) (s0 : Int32) (M : sy_M), sy_eqw (jW_X12_lawLine) M0 M → sy_fr (jW_X12_lawLine) M0 (jfX12_lawLine_102 a1 a2 s0 M) := by
  intro a1 a2 s0 M e
  exact (sy_fr_ite ((sy_fr_ite (sy_fr_end e) ((sy_fr_ite ((sy_fr_ite (jzX12_lawLine_129  _ _ _ e) (jzX12_lawLine_134  _ _ _ _ e))) (jzX12_lawLine_129  _ _ _ e))))) (sy_fr_end e))
theorem jzX12_lawLine_97 {M0 : sy_M} : ∀ (a1 : Int32) (a2 : Int32) (M : sy_M), sy_eqw (jW_X12_lawLine) M0 M → sy_fr (jW_X12_lawLine) M0 (jfX12_lawLine_97 a1 a2 M) := by
  intro a1 a2 M e
  exact jzX12_lawLine_102  _ _ _ _ e
theorem jzX12_lawLine_71 {M0 : sy_M} : ∀ (a1 : Int32) (s0 : Int32) (M : sy_M), sy_eqw (jW_X12_lawLine) M0 M → sy_fr (jW_X12_lawLine) M0 (jfX12_lawLine_71 a1 s0 M) := by
  intro a1 s0 M e
  exact (sy_fr_ite ((sy_fr_bi (sy_fr_up e (jzoX12_has _ _) (sy_subw_ix [0] rfl)) (fun _ _ e1 => (sy_fr_ite (jzX12_lawLine_97  _ _ _ e1) ((sy_fr_bi (sy_fr_up e1 (jzoX12_some  _ (fun _ _ _ => rfl)) (sy_subw_ix [0, 1, 2] rfl)) (fun _ _ e2 => (sy_fr_ite (jzX12_lawLine_102  _ _ _ _ e2) (jzX12_lawLine_97  _ _ _ e2))))))))) (sy_fr_end e))
theorem jzX12_lawLine_40 {M0 : sy_M} : ∀ (s0 : Int32) (M : sy_M), sy_eqw (jW_X12_lawLine) M0 M → sy_fr (jW_X12_lawLine) M0 (jfX12_lawLine_40 s0 M) := by
  intro s0 M e
  exact (sy_fr_ite ((sy_fr_bv (sy_fr_up e (jzoX12_wrong _ _) (sy_subw_ix [1] rfl)) (fun _ e2 => sy_fr_end e2))) ((sy_fr_ite (jzX12_lawLine_71  _ _ _ e) ((sy_fr_bi (sy_fr_up e (jzoX12_figures _ _ _) (sy_subw_ix [0, 1] rfl)) (fun _ _ e1 => jzX12_lawLine_71  _ _ _ e1))))))
theorem jzX12_lawLine {M0 : sy_M} : ∀ (M : sy_M), sy_eqw (jW_X12_lawLine) M0 M → sy_fr (jW_X12_lawLine) M0 (jfX12_lawLine M) := by
  intro  M e
  exact (sy_fr_bi (sy_fr_up e (jzoX12_has _ _) (sy_subw_ix [0] rfl)) (fun _ _ e1 => (sy_fr_ite ((sy_fr_bi (sy_fr_up e1 (jzoX12_has _ _) (sy_subw_ix [0] rfl)) (fun _ _ e2 => (sy_fr_ite ((sy_fr_bi (sy_fr_up e2 (jzoX12_has _ _) (sy_subw_ix [0] rfl)) (fun _ _ e3 => (sy_fr_ite (jzX12_lawLine_40  _ _ e3) (jzX12_lawLine_40  _ _ e3))))) (jzX12_lawLine_40  _ _ e2))))) (jzX12_lawLine_40  _ _ e1))))
theorem jzoX12_lawLine (M : sy_M) : sy_fr (jW_X12_lawLine) M (jfX12_lawLine M) := jzX12_lawLine  M sy_eqw_refl
def jW_X12_read : List (Nat × Option Nat) := [(121, some 11), (121, some 12), (121, some 13), (121, some 17), (121, some 18), (122, none)]
theorem jzX12_read_106 {M0 : sy_M} {k23 : Int32 → Int32 → Int32 → sy_M → sy_O} (z23 : ∀ (a1 : Int32) (a2 : Int32) (a3 : Int32) (M : sy_M), sy_eqw (jW_X12_read) M0 M → sy_fr (jW_X12_read) M0 (k23 a1 a2 a3 M)) : ∀ (a1 : Int32) (a3 : Int32) (M : sy_M), sy_eqw (jW_X12_read) M0 M → sy_fr (jW_X12_read) M0 (jfX12_read_106 k23 a1 a3 M) := by
  intro a1 a3 M e
  exact z23 _ _ _ _ e
theorem jzX12_read_80 {M0 : sy_M} {k23 : Int32 → Int32 → Int32 → sy_M → sy_O} (z23 : ∀ (a1 : Int32) (a2 : Int32) (a3 : Int32) (M : sy_M), sy_eqw (jW_X12_read) M0 M → sy_fr (jW_X12_read) M0 (k23 a1 a2 a3 M)) : ∀ (a1 : Int32) (a2 : Int32) (a3 : Int32) (M : sy_M), sy_eqw (jW_X12_read) M0 M → sy_fr (jW_X12_read) M0 (jfX12_read_80 k23 a1 a2 a3 M) := by
  intro a1 a2 a3 M e
  exact (sy_fr_bv (sy_fr_up e (jzoX12_skip  _) (sy_subw_ix [0] rfl)) (fun _ e1 => (sy_fr_ite ((sy_fr_ite (jzX12_read_106 z23 _ _ _ e1) ((sy_fr_bi (sy_fr_up e1 (jzoX12_isSign _ _) (sy_subw_ix [0] rfl)) (fun _ _ e2 => (sy_fr_ite ((sy_fr_bv (sy_fr_up e2 (jzoX12_wrong _ _) (sy_subw_ix [1] rfl)) (fun _ e3 => z23 _ _ _ _ e3))) (z23 _ _ _ _ (sy_eqw_uf e2 0 rfl)))))))) (jzX12_read_106 z23 _ _ _ e1))))
theorem jzX12_read_51 {M0 : sy_M} {k23 : Int32 → Int32 → Int32 → sy_M → sy_O} (z23 : ∀ (a1 : Int32) (a2 : Int32) (a3 : Int32) (M : sy_M), sy_eqw (jW_X12_read) M0 M → sy_fr (jW_X12_read) M0 (k23 a1 a2 a3 M)) : ∀ (a1 : Int32) (a2 : Int32) (a3 : Int32) (s0 : Int32) (s1 : Int32) (M : sy_M), sy_eqw (jW_X12_read) M0 M → sy_fr (jW_X12_read) M0 (jfX12_read_51 k23 a1 a2 a3 s0 s1 M) := by
  intro a1 a2 a3 s0 s1 M e
  exact (sy_fr_ite ((sy_fr_bv (sy_fr_up e (jzoX12_wrong _ _) (sy_subw_ix [1] rfl)) (fun _ e3 => jzX12_read_80 z23 _ _ _ _ e3))) ((sy_fr_ite ((sy_fr_bv (sy_fr_up e (jzoX12_houseLine  _) (sy_subw_ix [0, 1, 5] rfl)) (fun _ e1 => jzX12_read_80 z23 _ _ _ _ e1))) ((sy_fr_bv (sy_fr_up e (jzoX12_lawLine  _) (sy_subw_ix [0, 1, 2, 3, 4] rfl)) (fun _ e2 => jzX12_read_80 z23 _ _ _ _ e2))))))
theorem jzX12_read_23 {M0 : sy_M} : ∀ n : Nat, ∀ (a1 : Int32) (a2 : Int32) (a3 : Int32) (M : sy_M), sy_eqw (jW_X12_read) M0 M → sy_fr (jW_X12_read) M0 (jfX12_read_23 n a1 a2 a3 M) := by
  intro n
  induction n with
  | zero => intro a1 a2 a3 M e; exact sy_fr_none
  | succ n z23 => intro a1 a2 a3 M e; exact (sy_fr_ite (sy_fr_end e) ((sy_fr_ite ((sy_fr_bv (sy_fr_up e (jzoX12_skip  _) (sy_subw_ix [0] rfl)) (fun _ e1 => (sy_fr_ite (jzX12_read_51 z23 _ _ _ _ _ _ e1) (jzX12_read_51 z23 _ _ _ _ _ _ e1))))) (sy_fr_end e))))
theorem jzX12_read_20 {M0 : sy_M} : ∀ (a1 : Int32) (s0 : Int32) (M : sy_M), sy_eqw (jW_X12_read) M0 M → sy_fr (jW_X12_read) M0 (jfX12_read_20 a1 s0 M) := by
  intro a1 s0 M e
  exact jzX12_read_23  6000 _ _ _ _ e
theorem jzX12_read {M0 : sy_M} : ∀ (a1 : Int32) (M : sy_M), sy_eqw (jW_X12_read) M0 M → sy_fr (jW_X12_read) M0 (jfX12_read a1 M) := by
  intro a1 M e
  exact (sy_fr_bv (sy_fr_up e (jzoX12_skip  _) (sy_subw_ix [0] rfl)) (fun _ e1 => (sy_fr_ite (jzX12_read_20  _ _ _ e1) (jzX12_read_20  _ _ _ e1))))
theorem jzoX12_read (a1 : Int32) (M : sy_M) : sy_fr (jW_X12_read) M (jfX12_read a1 M) := jzX12_read a1 M sy_eqw_refl
def jW_X12_comesBack : List (Nat × Option Nat) := [(122, none)]
theorem jzX12_comesBack_2 {M0 : sy_M} : ∀ n : Nat, ∀ (a1 : Int32) (M : sy_M), sy_eqw (jW_X12_comesBack) M0 M → sy_fr (jW_X12_comesBack) M0 (jfX12_comesBack_2 n a1 M) := by
  intro n
  induction n with
  | zero => intro a1 M e; exact sy_fr_none
  | succ n z2 => intro a1 M e; exact (sy_fr_ite ((sy_fr_cond ((sy_fr_cond (z2 _ _ (sy_eqw_ua e 0 rfl)))))) (sy_fr_end e))
theorem jzX12_comesBack {M0 : sy_M} : ∀ (M : sy_M), sy_eqw (jW_X12_comesBack) M0 M → sy_fr (jW_X12_comesBack) M0 (jfX12_comesBack M) := by
  intro  M e
  exact jzX12_comesBack_2  6000 _ _ e
theorem jzoX12_comesBack (M : sy_M) : sy_fr (jW_X12_comesBack) M (jfX12_comesBack M) := jzX12_comesBack  M sy_eqw_refl
def jW_X12_house : List (Nat × Option Nat) := [(121, some 0), (121, some 6), (121, some 8), (121, some 9), (121, some 10), (121, some 11), (121, some 12), (121, some 13), (121, some 17), (121, some 18), (122, none), (124, none)]
theorem jzX12_house_43 {M0 : sy_M} : ∀ (s0 : Int32) (M : sy_M), sy_eqw (jW_X12_house) M0 M → sy_fr (jW_X12_house) M0 (jfX12_house_43 s0 M) := by
  intro s0 M e
  exact (sy_fr_ite ((sy_fr_bv (sy_fr_up (sy_eqw_uf e 0 rfl) (jzoX12_comesBack  _) (sy_subw_ix [10] rfl)) (fun _ e1 => sy_fr_end e1))) (sy_fr_end (sy_eqw_uf (sy_eqw_ua (sy_eqw_uf e 0 rfl) 10 rfl) 1 rfl)))
theorem jzX12_house {M0 : sy_M} : ∀ (M : sy_M), sy_eqw (jW_X12_house) M0 M → sy_fr (jW_X12_house) M0 (jfX12_house M) := by
  intro  M e
  exact (sy_fr_bv (sy_fr_up e (jzoX12_putsAside  _) (sy_subw_ix [11] rfl)) (fun _ e1 => (sy_fr_bv (sy_fr_up e1 (jzoX12_begins  _) (sy_subw_ix [2, 3, 4, 5, 6, 7] rfl)) (fun _ e2 => (sy_fr_bi (sy_fr_up e2 (jzoX12_read _ _) (sy_subw_ix [5, 6, 7, 8, 9, 10] rfl)) (fun _ _ e3 => (sy_fr_ite ((sy_fr_ite (jzX12_house_43  _ _ e3) (jzX12_house_43  _ _ e3))) (jzX12_house_43  _ _ e3))))))))
theorem jzoX12_house (M : sy_M) : sy_fr (jW_X12_house) M (jfX12_house M) := jzX12_house  M sy_eqw_refl
def jW_X12_thrown : List (Nat × Option Nat) := []
theorem jzX12_thrown {M0 : sy_M} : ∀ (M : sy_M), sy_eqw (jW_X12_thrown) M0 M → sy_fr (jW_X12_thrown) M0 (jfX12_thrown M) := by
  intro  M e
  exact sy_fr_end e
theorem jzoX12_thrown (M : sy_M) : sy_fr (jW_X12_thrown) M (jfX12_thrown M) := jzX12_thrown  M sy_eqw_refl
def jW_X4_clear (r0 : Nat) : List (Nat × Option Nat) := [(r0, some 5), (r0, some 6)]
theorem jzX4_clear {r0 : Nat} {M0 : sy_M} : ∀ (M : sy_M), sy_eqw (jW_X4_clear r0) M0 M → sy_fr (jW_X4_clear r0) M0 (jfX4_clear r0 M) := by
  intro  M e
  exact (sy_fr_cond ((sy_fr_cond (sy_fr_end (sy_eqw_uf (sy_eqw_uf e 0 rfl) 1 rfl)))))
theorem jzoX4_clear (r0 : Nat) (M : sy_M) : sy_fr (jW_X4_clear r0) M (jfX4_clear r0 M) := jzX4_clear  M sy_eqw_refl
def jW_X5_kindOf : List (Nat × Option Nat) := []
theorem jzX5_kindOf {M0 : sy_M} : ∀ (a0 : Int32) (M : sy_M), sy_eqw (jW_X5_kindOf) M0 M → sy_fr (jW_X5_kindOf) M0 (jfX5_kindOf a0 M) := by
  intro a0 M e
  exact (sy_fr_ite (sy_fr_end e) ((sy_fr_ite (sy_fr_end e) (sy_fr_end e))))
theorem jzoX5_kindOf (a0 : Int32) (M : sy_M) : sy_fr (jW_X5_kindOf) M (jfX5_kindOf a0 M) := jzX5_kindOf a0 M sy_eqw_refl
def jW_X4_addLine (r0 : Nat) : List (Nat × Option Nat) := [(r0, some 6), (r0 + 1, none), (r0 + 2, none), (r0 + 3, none), (r0 + 4, none)]
theorem jzX4_addLine {r0 : Nat} {M0 : sy_M} : ∀ (a1 : Int32) (a2 : Int32) (a3 : Int32) (M : sy_M), sy_eqw (jW_X4_addLine r0) M0 M → sy_fr (jW_X4_addLine r0) M0 (jfX4_addLine r0 a1 a2 a3 M) := by
  intro a1 a2 a3 M e
  exact (sy_fr_cond ((sy_fr_ite (sy_fr_end e) ((sy_fr_cond ((sy_fr_ite ((sy_fr_cond ((sy_fr_cond ((sy_fr_cond ((sy_fr_cond ((sy_fr_cond ((sy_fr_cond ((sy_fr_cond ((sy_fr_cond ((sy_fr_cond ((sy_fr_cond ((sy_fr_cond ((sy_fr_cond ((sy_fr_cond ((sy_fr_cond ((sy_fr_cond (sy_fr_end (sy_eqw_uf (sy_eqw_ua (sy_eqw_ua (sy_eqw_ua (sy_eqw_ua e 1 rfl) 2 rfl) 3 rfl) 4 rfl) 0 rfl)))))))))))))))))))))))))))))))) (sy_fr_end e))))))))
theorem jzoX4_addLine (r0 : Nat) (a1 : Int32) (a2 : Int32) (a3 : Int32) (M : sy_M) : sy_fr (jW_X4_addLine r0) M (jfX4_addLine r0 a1 a2 a3 M) := jzX4_addLine a1 a2 a3 M sy_eqw_refl
def jW_X4_land (r0 : Nat) : List (Nat × Option Nat) := [(r0 + 5, none)]
theorem jzX4_land_4 {r0 : Nat} {M0 : sy_M} : ∀ n : Nat, ∀ (a2 : Int32) (a3 : Int32) (M : sy_M), sy_eqw (jW_X4_land r0) M0 M → sy_fr (jW_X4_land r0) M0 (jfX4_land_4 n r0 a2 a3 M) := by
  intro n
  induction n with
  | zero => intro a2 a3 M e; exact sy_fr_none
  | succ n z4 => intro a2 a3 M e; exact (sy_fr_ite ((sy_fr_ite (sy_fr_end e) ((sy_fr_ite ((sy_fr_cond ((sy_fr_cond ((sy_fr_cond ((sy_fr_cond ((sy_fr_cond ((sy_fr_cond ((sy_fr_cond (z4 _ _ _ (sy_eqw_ua e 0 rfl)))))))))))))))) (sy_fr_end e))))) (sy_fr_end e))
theorem jzX4_land {r0 : Nat} {M0 : sy_M} : ∀ (a1 : Int32) (M : sy_M), sy_eqw (jW_X4_land r0) M0 M → sy_fr (jW_X4_land r0) M0 (jfX4_land r0 a1 M) := by
  intro a1 M e
  exact jzX4_land_4  6000 _ _ _ e
theorem jzoX4_land (r0 : Nat) (a1 : Int32) (M : sy_M) : sy_fr (jW_X4_land r0) M (jfX4_land r0 a1 M) := jzX4_land a1 M sy_eqw_refl
def jW_X4_add (r0 : Nat) : List (Nat × Option Nat) := [(r0, some 5), (r0 + 5, none)]
theorem jzX4_add {r0 : Nat} {M0 : sy_M} : ∀ (a1 : Int32) (a2 : Int32) (M : sy_M), sy_eqw (jW_X4_add r0) M0 M → sy_fr (jW_X4_add r0) M0 (jfX4_add r0 a1 a2 M) := by
  intro a1 a2 M e
  exact (sy_fr_cond ((sy_fr_ite (sy_fr_end e) ((sy_fr_cond ((sy_fr_ite ((sy_fr_cond ((sy_fr_cond ((sy_fr_cond ((sy_fr_cond ((sy_fr_cond (sy_fr_end (sy_eqw_uf (sy_eqw_ua e 1 rfl) 0 rfl)))))))))))) (sy_fr_end e))))))))
theorem jzoX4_add (r0 : Nat) (a1 : Int32) (a2 : Int32) (M : sy_M) : sy_fr (jW_X4_add r0) M (jfX4_add r0 a1 a2 M) := jzX4_add a1 a2 M sy_eqw_refl
def jW_X4_addJump (r0 : Nat) : List (Nat × Option Nat) := [(r0, some 5), (r0 + 5, none)]
theorem jzX4_addJump {r0 : Nat} {M0 : sy_M} : ∀ (a1 : Int32) (a2 : Int32) (M : sy_M), sy_eqw (jW_X4_addJump r0) M0 M → sy_fr (jW_X4_addJump r0) M0 (jfX4_addJump r0 a1 a2 M) := by
  intro a1 a2 M e
  exact (sy_fr_cond ((sy_fr_bv (sy_fr_up e (jzoX4_add _ _ _ _) (sy_subw_ix [0, 1] rfl)) (fun _ e1 => (sy_fr_cond (sy_fr_end e1))))))
theorem jzoX4_addJump (r0 : Nat) (a1 : Int32) (a2 : Int32) (M : sy_M) : sy_fr (jW_X4_addJump r0) M (jfX4_addJump r0 a1 a2 M) := jzX4_addJump a1 a2 M sy_eqw_refl
def jW_X5_readAll : List (Nat × Option Nat) := [(1, some 6), (1, some 7), (35, some 5), (40, none)]
theorem jzX5_readAll_59 {M0 : sy_M} {rc : Int32 → sy_M → sy_O} (zrc : ∀ (a1 : Int32) (M : sy_M), sy_eqw (jW_X5_readAll) M0 M → sy_fr (jW_X5_readAll) M0 (rc a1 M)) : ∀ (a2 : Int32) (a3 : Int32) (M : sy_M), sy_eqw (jW_X5_readAll) M0 M → sy_fr (jW_X5_readAll) M0 (jfX5_readAll_59 rc a2 a3 M) := by
  intro a2 a3 M e
  exact (sy_fr_bv (sy_fr_up e (jzoX4_land _ _ _) (sy_subw_ix [3] rfl)) (fun _ e1 => (sy_fr_cond (sy_fr_end e1))))
theorem jzX5_readAll_11 {M0 : sy_M} {rc : Int32 → sy_M → sy_O} (zrc : ∀ (a1 : Int32) (M : sy_M), sy_eqw (jW_X5_readAll) M0 M → sy_fr (jW_X5_readAll) M0 (rc a1 M)) : ∀ n : Nat, ∀ (a1 : Int32) (a2 : Int32) (a3 : Int32) (a4 : Int32) (M : sy_M), sy_eqw (jW_X5_readAll) M0 M → sy_fr (jW_X5_readAll) M0 (jfX5_readAll_11 rc n a1 a2 a3 a4 M) := by
  intro n
  induction n with
  | zero => intro a1 a2 a3 a4 M e; exact sy_fr_none
  | succ n z11 => intro a1 a2 a3 a4 M e; exact (sy_fr_ite ((sy_fr_ite (jzX5_readAll_59 zrc  _ _ _ e) ((sy_fr_bi (sy_fr_up e (jzoX10_takes _ _) (sy_subw_ix [0] rfl)) (fun _ _ e1 => (sy_fr_ite (jzX5_readAll_59 zrc  _ _ _ e1) ((sy_fr_bi (sy_fr_up e1 (jzoX4_addJump _ _ _ _) (sy_subw_ix [2, 3] rfl)) (fun _ _ e2 => (sy_fr_bi (zrc _ _ e2) (fun _ _ e3 => z11 _ _ _ _ _ e3))))))))))) (jzX5_readAll_59 zrc  _ _ _ e))
theorem jzX5_readAll {M0 : sy_M} {rc : Int32 → sy_M → sy_O} (zrc : ∀ (a1 : Int32) (M : sy_M), sy_eqw (jW_X5_readAll) M0 M → sy_fr (jW_X5_readAll) M0 (rc a1 M)) : ∀ (a1 : Int32) (M : sy_M), sy_eqw (jW_X5_readAll) M0 M → sy_fr (jW_X5_readAll) M0 (jfX5_readAll rc a1 M) := by
  intro a1 M e
  exact (sy_fr_bi (zrc _ _ e) (fun _ _ e1 => jzX5_readAll_11 zrc  6000 _ _ _ _ _ e1))
def jW_X5_readAny : List (Nat × Option Nat) := [(1, some 6), (1, some 7), (35, some 5), (40, none)]
theorem jzX5_readAny_59 {M0 : sy_M} {rc : Int32 → sy_M → sy_O} (zrc : ∀ (a1 : Int32) (M : sy_M), sy_eqw (jW_X5_readAny) M0 M → sy_fr (jW_X5_readAny) M0 (rc a1 M)) : ∀ (a2 : Int32) (a3 : Int32) (M : sy_M), sy_eqw (jW_X5_readAny) M0 M → sy_fr (jW_X5_readAny) M0 (jfX5_readAny_59 rc a2 a3 M) := by
  intro a2 a3 M e
  exact (sy_fr_bv (sy_fr_up e (jzoX4_land _ _ _) (sy_subw_ix [3] rfl)) (fun _ e1 => (sy_fr_cond (sy_fr_end e1))))
theorem jzX5_readAny_11 {M0 : sy_M} {rc : Int32 → sy_M → sy_O} (zrc : ∀ (a1 : Int32) (M : sy_M), sy_eqw (jW_X5_readAny) M0 M → sy_fr (jW_X5_readAny) M0 (rc a1 M)) : ∀ n : Nat, ∀ (a1 : Int32) (a2 : Int32) (a3 : Int32) (a4 : Int32) (M : sy_M), sy_eqw (jW_X5_readAny) M0 M → sy_fr (jW_X5_readAny) M0 (jfX5_readAny_11 rc n a1 a2 a3 a4 M) := by
  intro n
  induction n with
  | zero => intro a1 a2 a3 a4 M e; exact sy_fr_none
  | succ n z11 => intro a1 a2 a3 a4 M e; exact (sy_fr_ite ((sy_fr_ite (jzX5_readAny_59 zrc  _ _ _ e) ((sy_fr_bi (sy_fr_up e (jzoX10_takes _ _) (sy_subw_ix [0] rfl)) (fun _ _ e1 => (sy_fr_ite (jzX5_readAny_59 zrc  _ _ _ e1) ((sy_fr_bi (sy_fr_up e1 (jzoX4_addJump _ _ _ _) (sy_subw_ix [2, 3] rfl)) (fun _ _ e2 => (sy_fr_bi (jzX5_readAll zrc _ _ e2) (fun _ _ e3 => z11 _ _ _ _ _ e3))))))))))) (jzX5_readAny_59 zrc  _ _ _ e))
theorem jzX5_readAny {M0 : sy_M} {rc : Int32 → sy_M → sy_O} (zrc : ∀ (a1 : Int32) (M : sy_M), sy_eqw (jW_X5_readAny) M0 M → sy_fr (jW_X5_readAny) M0 (rc a1 M)) : ∀ (a1 : Int32) (M : sy_M), sy_eqw (jW_X5_readAny) M0 M → sy_fr (jW_X5_readAny) M0 (jfX5_readAny rc a1 M) := by
  intro a1 M e
  exact (sy_fr_bi (jzX5_readAll zrc _ _ e) (fun _ _ e1 => jzX5_readAny_11 zrc  6000 _ _ _ _ _ e1))
def jW_X5_partOf : List (Nat × Option Nat) := []
theorem jzX5_partOf {M0 : sy_M} : ∀ (a0 : Int32) (M : sy_M), sy_eqw (jW_X5_partOf) M0 M → sy_fr (jW_X5_partOf) M0 (jfX5_partOf a0 M) := by
  intro a0 M e
  exact (sy_fr_ite (sy_fr_end e) ((sy_fr_ite (sy_fr_end e) ((sy_fr_ite (sy_fr_end e) ((sy_fr_ite (sy_fr_end e) ((sy_fr_ite (sy_fr_end e) ((sy_fr_ite (sy_fr_end e) ((sy_fr_ite (sy_fr_end e) ((sy_fr_ite (sy_fr_end e) ((sy_fr_ite (sy_fr_end e) ((sy_fr_ite (sy_fr_end e) ((sy_fr_ite (sy_fr_end e) ((sy_fr_ite (sy_fr_end e) ((sy_fr_ite (sy_fr_end e) ((sy_fr_ite (sy_fr_end e) ((sy_fr_ite (sy_fr_end e) ((sy_fr_ite (sy_fr_end e) ((sy_fr_ite (sy_fr_end e) ((sy_fr_ite (sy_fr_end e) ((sy_fr_ite (sy_fr_end e) ((sy_fr_ite (sy_fr_end e) ((sy_fr_ite (sy_fr_end e) ((sy_fr_ite (sy_fr_end e) ((sy_fr_ite (sy_fr_end e) ((sy_fr_ite (sy_fr_end e) ((sy_fr_ite (sy_fr_end e) (sy_fr_end e))))))))))))))))))))))))))))))))))))))))))))))))))
theorem jzoX5_partOf (a0 : Int32) (M : sy_M) : sy_fr (jW_X5_partOf) M (jfX5_partOf a0 M) := jzX5_partOf a0 M sy_eqw_refl
def jW_X5_readSum : List (Nat × Option Nat) := [(1, some 6), (1, some 7), (35, some 5), (40, none)]
theorem jzX5_readSum_113 {M0 : sy_M} : ∀ (M : sy_M), sy_eqw (jW_X5_readSum) M0 M → sy_fr (jW_X5_readSum) M0 (jfX5_readSum_113 M) := by
  intro  M e
  exact (sy_fr_ite (sy_fr_end e) (sy_fr_end e))
theorem jzX5_readSum_106 {M0 : sy_M} {k4 : Int32 → Int32 → sy_M → sy_O} (z4 : ∀ (a1 : Int32) (a2 : Int32) (M : sy_M), sy_eqw (jW_X5_readSum) M0 M → sy_fr (jW_X5_readSum) M0 (k4 a1 a2 M)) : ∀ (a2 : Int32) (s0 : Int32) (M : sy_M), sy_eqw (jW_X5_readSum) M0 M → sy_fr (jW_X5_readSum) M0 (jfX5_readSum_106 k4 a2 s0 M) := by
  intro a2 s0 M e
  exact z4 _ _ _ e
theorem jzX5_readSum_105 {M0 : sy_M} {k4 : Int32 → Int32 → sy_M → sy_O} (z4 : ∀ (a1 : Int32) (a2 : Int32) (M : sy_M), sy_eqw (jW_X5_readSum) M0 M → sy_fr (jW_X5_readSum) M0 (k4 a1 a2 M)) : ∀ (a2 : Int32) (M : sy_M), sy_eqw (jW_X5_readSum) M0 M → sy_fr (jW_X5_readSum) M0 (jfX5_readSum_105 k4 a2 M) := by
  intro a2 M e
  exact jzX5_readSum_106 z4 _ _ _ e
theorem jzX5_readSum_78 {M0 : sy_M} {k4 : Int32 → Int32 → sy_M → sy_O} (z4 : ∀ (a1 : Int32) (a2 : Int32) (M : sy_M), sy_eqw (jW_X5_readSum) M0 M → sy_fr (jW_X5_readSum) M0 (k4 a1 a2 M)) : ∀ (a2 : Int32) (M : sy_M), sy_eqw (jW_X5_readSum) M0 M → sy_fr (jW_X5_readSum) M0 (jfX5_readSum_78 k4 a2 M) := by
  intro a2 M e
  exact (sy_fr_ite ((sy_fr_bi (sy_fr_up e (jzoX10_takes _ _) (sy_subw_ix [0] rfl)) (fun _ _ e1 => (sy_fr_ite (jzX5_readSum_105 z4 _ _ e1) (jzX5_readSum_106 z4 _ _ _ e1))))) (jzX5_readSum_105 z4 _ _ e))
theorem jzX5_readSum_59 {M0 : sy_M} {k4 : Int32 → Int32 → sy_M → sy_O} (z4 : ∀ (a1 : Int32) (a2 : Int32) (M : sy_M), sy_eqw (jW_X5_readSum) M0 M → sy_fr (jW_X5_readSum) M0 (k4 a1 a2 M)) : ∀ (a2 : Int32) (M : sy_M), sy_eqw (jW_X5_readSum) M0 M → sy_fr (jW_X5_readSum) M0 (jfX5_readSum_59 k4 a2 M) := by
  intro a2 M e
  exact (sy_fr_bi (sy_fr_up e (jzoX10_takesNumber _ _ _) (sy_subw_ix [0, 1] rfl)) (fun _ _ e1 => (sy_fr_bv (sy_fr_up e1 (jzoX4_add _ _ _ _) (sy_subw_ix [2, 3] rfl)) (fun _ e2 => jzX5_readSum_78 z4 _ _ e2))))
theorem jzX5_readSum_4 {M0 : sy_M} : ∀ n : Nat, ∀ (a1 : Int32) (a2 : Int32) (M : sy_M), sy_eqw (jW_X5_readSum) M0 M → sy_fr (jW_X5_readSum) M0 (jfX5_readSum_4 n a1 a2 M) := by
  intro n
  induction n with
  | zero => intro a1 a2 M e; exact sy_fr_none
  | succ n z4 => intro a1 a2 M e; exact (sy_fr_ite ((sy_fr_ite (jzX5_readSum_113   _ e) ((sy_fr_bi (sy_fr_up e (jzoX10_thing  _) (sy_subw_ix [] rfl)) (fun _ _ e1 => (sy_fr_bi (sy_fr_up e1 (jzoX5_partOf _ _) (sy_subw_ix [] rfl)) (fun _ _ e2 => (sy_fr_ite (jzX5_readSum_59 z4 _ _ e2) ((sy_fr_bi (sy_fr_up e2 (jzoX10_takes _ _) (sy_subw_ix [0] rfl)) (fun _ _ e3 => (sy_fr_ite (jzX5_readSum_59 z4 _ _ e3) ((sy_fr_bv (sy_fr_up e3 (jzoX4_add _ _ _ _) (sy_subw_ix [2, 3] rfl)) (fun _ e4 => jzX5_readSum_78 z4 _ _ e4))))))))))))))) (jzX5_readSum_113   _ e))
theorem jzX5_readSum {M0 : sy_M} : ∀ (M : sy_M), sy_eqw (jW_X5_readSum) M0 M → sy_fr (jW_X5_readSum) M0 (jfX5_readSum M) := by
  intro  M e
  exact jzX5_readSum_4  6000 _ _ _ e
theorem jzoX5_readSum (M : sy_M) : sy_fr (jW_X5_readSum) M (jfX5_readSum M) := jzX5_readSum  M sy_eqw_refl
def jW_X5_readOrder : List (Nat × Option Nat) := [(1, some 6), (1, some 7), (35, some 5), (40, none)]
theorem jzX5_readOrder_53 {M0 : sy_M} : ∀ (M : sy_M), sy_eqw (jW_X5_readOrder) M0 M → sy_fr (jW_X5_readOrder) M0 (jfX5_readOrder_53 M) := by
  intro  M e
  exact sy_fr_end e
theorem jzX5_readOrder_23 {M0 : sy_M} : ∀ (a1 : Int32) (s0 : Int32) (M : sy_M), sy_eqw (jW_X5_readOrder) M0 M → sy_fr (jW_X5_readOrder) M0 (jfX5_readOrder_23 a1 s0 M) := by
  intro a1 s0 M e
  exact (sy_fr_bv (sy_fr_up e (jzoX4_add _ _ _ _) (sy_subw_ix [2, 3] rfl)) (fun _ e1 => (sy_fr_ite ((sy_fr_bi (sy_fr_up e1 (jzoX10_takes _ _) (sy_subw_ix [0] rfl)) (fun _ _ e2 => (sy_fr_ite ((sy_fr_bi (sy_fr_up e2 (jzoX10_fails  _) (sy_subw_ix [1] rfl)) (fun _ _ e3 => (sy_fr_ite (sy_fr_end e3) (jzX5_readOrder_53   _ e3))))) (jzX5_readOrder_53   _ e2))))) (jzX5_readOrder_53   _ e1))))
theorem jzX5_readOrder {M0 : sy_M} : ∀ (M : sy_M), sy_eqw (jW_X5_readOrder) M0 M → sy_fr (jW_X5_readOrder) M0 (jfX5_readOrder M) := by
  intro  M e
  exact (sy_fr_bi (sy_fr_up e (jzoX10_takes _ _) (sy_subw_ix [0] rfl)) (fun _ _ e1 => (sy_fr_ite (jzX5_readOrder_23  _ _ _ e1) (jzX5_readOrder_23  _ _ _ e1))))
theorem jzoX5_readOrder (M : sy_M) : sy_fr (jW_X5_readOrder) M (jfX5_readOrder M) := jzX5_readOrder  M sy_eqw_refl
def jW_X5_readAtom : List (Nat × Option Nat) := [(1, some 6), (1, some 7), (35, some 5), (40, none)]
theorem jzX5_readAtom_194 {M0 : sy_M} {rc : Int32 → sy_M → sy_O} (zrc : ∀ (a1 : Int32) (M : sy_M), sy_eqw (jW_X5_readAtom) M0 M → sy_fr (jW_X5_readAtom) M0 (rc a1 M)) : ∀ (s0 : Int32) (M : sy_M), sy_eqw (jW_X5_readAtom) M0 M → sy_fr (jW_X5_readAtom) M0 (jfX5_readAtom_194 rc s0 M) := by
  intro s0 M e
  exact (sy_fr_bv (sy_fr_up e (jzoX4_add _ _ _ _) (sy_subw_ix [2, 3] rfl)) (fun _ e1 => (sy_fr_cond (sy_fr_end e1))))
theorem jzX5_readAtom_193 {M0 : sy_M} {rc : Int32 → sy_M → sy_O} (zrc : ∀ (a1 : Int32) (M : sy_M), sy_eqw (jW_X5_readAtom) M0 M → sy_fr (jW_X5_readAtom) M0 (rc a1 M)) : ∀ (M : sy_M), sy_eqw (jW_X5_readAtom) M0 M → sy_fr (jW_X5_readAtom) M0 (jfX5_readAtom_193 rc M) := by
  intro  M e
  exact jzX5_readAtom_194 zrc  _ _ e
theorem jzX5_readAtom_112 {M0 : sy_M} {rc : Int32 → sy_M → sy_O} (zrc : ∀ (a1 : Int32) (M : sy_M), sy_eqw (jW_X5_readAtom) M0 M → sy_fr (jW_X5_readAtom) M0 (rc a1 M)) : ∀ (M : sy_M), sy_eqw (jW_X5_readAtom) M0 M → sy_fr (jW_X5_readAtom) M0 (jfX5_readAtom_112 rc M) := by
  intro  M e
  exact sy_fr_end e
theorem jzX5_readAtom_35 {M0 : sy_M} {rc : Int32 → sy_M → sy_O} (zrc : ∀ (a1 : Int32) (M : sy_M), sy_eqw (jW_X5_readAtom) M0 M → sy_fr (jW_X5_readAtom) M0 (rc a1 M)) : ∀ (a1 : Int32) (M : sy_M), sy_eqw (jW_X5_readAtom) M0 M → sy_fr (jW_X5_readAtom) M0 (jfX5_readAtom_35 rc a1 M) := by
  intro a1 M e
  exact (sy_fr_bi (sy_fr_up e (jzoX10_takes _ _) (sy_subw_ix [0] rfl)) (fun _ _ e1 => (sy_fr_ite ((sy_fr_bi (sy_fr_up e1 (jzoX10_takes _ _) (sy_subw_ix [0] rfl)) (fun _ _ e2 => (sy_fr_ite ((sy_fr_bi (sy_fr_up e2 (jzoX10_takes _ _) (sy_subw_ix [0] rfl)) (fun _ _ e3 => (sy_fr_ite ((sy_fr_bi (sy_fr_up e3 (jzoX10_takes _ _) (sy_subw_ix [0] rfl)) (fun _ _ e4 => (sy_fr_ite ((sy_fr_bi (sy_fr_up e4 (jzoX5_readSum  _) (sy_subw_ix [0, 1, 2, 3] rfl)) (fun _ _ e5 => (sy_fr_ite (jzX5_readAtom_193 zrc   _ e5) ((sy_fr_bi (sy_fr_up e5 (jzoX5_readOrder  _) (sy_subw_ix [0, 1, 2, 3] rfl)) (fun _ _ e6 => (sy_fr_ite (jzX5_readAtom_193 zrc   _ e6) ((sy_fr_bi (sy_fr_up e6 (jzoX5_readSum  _) (sy_subw_ix [0, 1, 2, 3] rfl)) (fun _ _ e7 => (sy_fr_ite (jzX5_readAtom_193 zrc   _ e7) (jzX5_readAtom_194 zrc  _ _ e7))))))))))))) ((sy_fr_bv (sy_fr_up e4 (jzoX4_add _ _ _ _) (sy_subw_ix [2, 3] rfl)) (fun _ e8 => sy_fr_end e8))))))) ((sy_fr_bv (sy_fr_up e3 (jzoX4_add _ _ _ _) (sy_subw_ix [2, 3] rfl)) (fun _ e9 => sy_fr_end e9))))))) ((sy_fr_bi (jzX5_readAny zrc _ _ e2) (fun _ _ e10 => (sy_fr_ite (sy_fr_end e10) ((sy_fr_bi (sy_fr_up e10 (jzoX10_takes _ _) (sy_subw_ix [0] rfl)) (fun _ _ e11 => (sy_fr_ite ((sy_fr_bi (sy_fr_up e11 (jzoX10_fails  _) (sy_subw_ix [1] rfl)) (fun _ _ e12 => (sy_fr_ite (sy_fr_end e12) (jzX5_readAtom_112 zrc   _ e12))))) (jzX5_readAtom_112 zrc   _ e11))))))))))))) ((sy_fr_bi (zrc _ _ e1) (fun _ _ e13 => (sy_fr_bv (sy_fr_up e13 (jzoX4_add _ _ _ _) (sy_subw_ix [2, 3] rfl)) (fun _ e14 => (sy_fr_cond (sy_fr_end e14))))))))))
theorem jzX5_readAtom_21 {M0 : sy_M} {rc : Int32 → sy_M → sy_O} (zrc : ∀ (a1 : Int32) (M : sy_M), sy_eqw (jW_X5_readAtom) M0 M → sy_fr (jW_X5_readAtom) M0 (rc a1 M)) : ∀ (a1 : Int32) (M : sy_M), sy_eqw (jW_X5_readAtom) M0 M → sy_fr (jW_X5_readAtom) M0 (jfX5_readAtom_21 rc a1 M) := by
  intro a1 M e
  exact (sy_fr_ite (jzX5_readAtom_35 zrc  _ _ e) ((sy_fr_bi (sy_fr_up e (jzoX10_fails  _) (sy_subw_ix [1] rfl)) (fun _ _ e1 => (sy_fr_cond (sy_fr_end e1))))))
theorem jzX5_readAtom {M0 : sy_M} {rc : Int32 → sy_M → sy_O} (zrc : ∀ (a1 : Int32) (M : sy_M), sy_eqw (jW_X5_readAtom) M0 M → sy_fr (jW_X5_readAtom) M0 (rc a1 M)) : ∀ (a1 : Int32) (M : sy_M), sy_eqw (jW_X5_readAtom) M0 M → sy_fr (jW_X5_readAtom) M0 (jgX5_readAtom rc a1 M) := by
  intro a1 M e
  exact (sy_fr_bi (sy_fr_up e (jzoX10_thing  _) (sy_subw_ix [] rfl)) (fun _ _ e1 => (sy_fr_ite (jzX5_readAtom_21 zrc  _ _ e1) ((sy_fr_ite (jzX5_readAtom_21 zrc  _ _ e1) (jzX5_readAtom_35 zrc  _ _ e1))))))
theorem jzall_B {M0 : sy_M} : ∀ (n : Nat) (a1 : Int32) (M : sy_M), sy_eqw (jW_X5_readAtom) M0 M → sy_fr (jW_X5_readAtom) M0 (jfX5_readAtom n a1 M) := by
  intro n
  induction n with
  | zero => intro a1 M e; exact sy_fr_none
  | succ n ih => intro a1 M e; exact jzX5_readAtom ih a1 M e
theorem jzoX5_readAny (a1 : Int32) (M : sy_M) (_ : ∀ _ _ _ : Nat, (0 : Nat) = 0) : sy_fr (jW_X5_readAny) M (jfX5_readAny (jfX5_readAtom 12) a1 M) := jzX5_readAny (jzall_B 12) a1 M sy_eqw_refl
theorem jzoX5_readAll (a1 : Int32) (M : sy_M) (_ : ∀ _ _ _ : Nat, (0 : Nat) = 0) : sy_fr (jW_X5_readAll) M (jfX5_readAll (jfX5_readAtom 12) a1 M) := jzX5_readAll (jzall_B 12) a1 M sy_eqw_refl
theorem jzoX5_readAtom (a1 : Int32) (M : sy_M) (_ : ∀ _ _ _ : Nat, (0 : Nat) = 0) : sy_fr (jW_X5_readAtom) M (jfX5_readAtom 12 a1 M) := jzall_B 12 a1 M sy_eqw_refl
def jW_X5_readLine : List (Nat × Option Nat) := [(1, some 6), (1, some 7), (35, some 5), (35, some 6), (36, none), (37, none), (38, none), (39, none), (40, none)]
theorem jzX5_readLine_116 {M0 : sy_M} : ∀ (a1 : Int32) (a2 : Int32) (a3 : Int32) (M : sy_M), sy_eqw (jW_X5_readLine) M0 M → sy_fr (jW_X5_readLine) M0 (jfX5_readLine_116 a1 a2 a3 M) := by
  intro a1 a2 a3 M e
  exact (sy_fr_bv (sy_fr_up e (jzoX4_addLine _ _ _ _ _) (sy_subw_ix [3, 4, 5, 6, 7] rfl)) (fun _ e1 => sy_fr_end e1))
theorem jzX5_readLine_77 {M0 : sy_M} : ∀ (a1 : Int32) (s0 : Int32) (M : sy_M), sy_eqw (jW_X5_readLine) M0 M → sy_fr (jW_X5_readLine) M0 (jfX5_readLine_77 a1 s0 M) := by
  intro a1 s0 M e
  exact (sy_fr_ite (sy_fr_end e) ((sy_fr_bi (sy_fr_up e (jzoX10_takes _ _) (sy_subw_ix [0] rfl)) (fun _ _ e1 => (sy_fr_ite (jzX5_readLine_116  _ _ _ _ e1) ((sy_fr_bi (sy_fr_up e1 (jzoX5_readAny _ _ (fun _ _ _ => rfl)) (sy_subw_ix [0, 1, 2, 8] rfl)) (fun _ _ e2 => (sy_fr_ite (sy_fr_end e2) (jzX5_readLine_116  _ _ _ _ e2))))))))))
theorem jzX5_readLine_58 {M0 : sy_M} : ∀ (a1 : Int32) (M : sy_M), sy_eqw (jW_X5_readLine) M0 M → sy_fr (jW_X5_readLine) M0 (jfX5_readLine_58 a1 M) := by
  intro a1 M e
  exact (sy_fr_ite (jzX5_readLine_77  _ _ _ e) ((sy_fr_bi (sy_fr_up e (jzoX10_takesNumber _ _ _) (sy_subw_ix [0, 1] rfl)) (fun _ _ e1 => jzX5_readLine_77  _ _ _ e1))))
theorem jzX5_readLine {M0 : sy_M} : ∀ (M : sy_M), sy_eqw (jW_X5_readLine) M0 M → sy_fr (jW_X5_readLine) M0 (jfX5_readLine M) := by
  intro  M e
  exact (sy_fr_bi (sy_fr_up e (jzoX10_thing  _) (sy_subw_ix [] rfl)) (fun _ _ e1 => (sy_fr_bi (sy_fr_up e1 (jzoX5_kindOf _ _) (sy_subw_ix [] rfl)) (fun _ _ e2 => (sy_fr_bi (sy_fr_up e2 (jzoX10_takes _ _) (sy_subw_ix [0] rfl)) (fun _ _ e3 => (sy_fr_ite ((sy_fr_bi (sy_fr_up e3 (jzoX10_takes _ _) (sy_subw_ix [0] rfl)) (fun _ _ e4 => (sy_fr_ite ((sy_fr_bi (sy_fr_up e4 (jzoX10_takes _ _) (sy_subw_ix [0] rfl)) (fun _ _ e5 => (sy_fr_ite ((sy_fr_bi (sy_fr_up e5 (jzoX10_fails  _) (sy_subw_ix [1] rfl)) (fun _ _ e6 => (sy_fr_cond (sy_fr_end e6))))) (jzX5_readLine_58  _ _ e5))))) (jzX5_readLine_58  _ _ e4))))) (jzX5_readLine_58  _ _ e3))))))))
theorem jzoX5_readLine (M : sy_M) : sy_fr (jW_X5_readLine) M (jfX5_readLine M) := jzX5_readLine  M sy_eqw_refl
def jW_X6_readLines_2 : List (Nat × Option Nat) := [(1, some 6), (1, some 7), (35, some 5), (35, some 6), (36, none), (37, none), (38, none), (39, none), (40, none)]
theorem jzX6_readLines_2_17 {M0 : sy_M} : ∀ n : Nat, ∀ (a1 : Int32) (a2 : Int32) (M : sy_M), sy_eqw (jW_X6_readLines_2) M0 M → sy_fr (jW_X6_readLines_2) M0 (jfX6_readLines_2_17 n a1 a2 M) := by
  intro n
  induction n with
  | zero => intro a1 a2 M e; exact sy_fr_none
  | succ n z17 => intro a1 a2 M e; exact (sy_fr_ite ((sy_fr_bi (sy_fr_up e (jzoX5_readLine  _) (sy_subw_ix [0, 1, 2, 3, 4, 5, 6, 7, 8] rfl)) (fun _ _ e2 => (sy_fr_ite (sy_fr_end e2) ((sy_fr_bi (sy_fr_up e2 (jzoX10_thing  _) (sy_subw_ix [] rfl)) (fun _ _ e3 => (sy_fr_ite (sy_fr_end e3) ((sy_fr_bi (sy_fr_up e3 (jzoX10_takes _ _) (sy_subw_ix [0] rfl)) (fun _ _ e4 => (sy_fr_ite ((sy_fr_bi (sy_fr_up e4 (jzoX10_fails  _) (sy_subw_ix [1] rfl)) (fun _ _ e5 => (sy_fr_cond (sy_fr_end e5))))) (z17 _ _ _ e4))))))))))))) ((sy_fr_bi (sy_fr_up e (jzoX10_fails  _) (sy_subw_ix [1] rfl)) (fun _ _ e1 => (sy_fr_cond (sy_fr_end e1))))))
theorem jzX6_readLines_2 {M0 : sy_M} : ∀ (a1 : Int32) (M : sy_M), sy_eqw (jW_X6_readLines_2) M0 M → sy_fr (jW_X6_readLines_2) M0 (jfX6_readLines_2 a1 M) := by
  intro a1 M e
  exact (sy_fr_bi (sy_fr_up e (jzoX10_thing  _) (sy_subw_ix [] rfl)) (fun _ _ e1 => (sy_fr_ite (sy_fr_end e1) (jzX6_readLines_2_17  6000 _ _ _ e1))))
theorem jzoX6_readLines_2 (a1 : Int32) (M : sy_M) : sy_fr (jW_X6_readLines_2) M (jfX6_readLines_2 a1 M) := jzX6_readLines_2 a1 M sy_eqw_refl
def jW_X4_takeOver (r0 : Nat) (r1 : Nat) : List (Nat × Option Nat) := [(r0, some 5), (r0, some 6), (r0 + 1, none), (r0 + 2, none), (r0 + 3, none), (r0 + 4, none), (r0 + 5, none)]
theorem jzX4_takeOver_76 {r0 : Nat} {r1 : Nat} {M0 : sy_M} : ∀ (M : sy_M), sy_eqw (jW_X4_takeOver r0 r1) M0 M → sy_fr (jW_X4_takeOver r0 r1) M0 (jfX4_takeOver_76 r0 r1 M) := by
  intro  M e
  exact (sy_fr_cond ((sy_fr_cond ((sy_fr_cond ((sy_fr_cond (sy_fr_end (sy_eqw_uf (sy_eqw_uf e 0 rfl) 1 rfl)))))))))
theorem jzX4_takeOver {r0 : Nat} {r1 : Nat} {M0 : sy_M} : ∀ (M : sy_M), sy_eqw (jW_X4_takeOver r0 r1) M0 M → sy_fr (jW_X4_takeOver r0 r1) M0 (jfX4_takeOver r0 r1 M) := by
  intro  M e
  exact (sy_fr_cond ((sy_fr_cond ((sy_fr_cond ((sy_fr_cond ((sy_fr_cond ((sy_fr_cond ((sy_fr_cond ((sy_fr_cond ((sy_fr_cond ((sy_fr_cond ((sy_fr_cond ((sy_fr_cond ((sy_fr_cond ((sy_fr_cond ((sy_fr_cond (jzX4_takeOver_76   _ (sy_eqw_cp (sy_eqw_cp (sy_eqw_cp (sy_eqw_cp (sy_eqw_cp e 2 rfl) 3 rfl) 4 rfl) 5 rfl) 6 rfl)))))))))))))))))))))))))))))))
theorem jzoX4_takeOver (r0 : Nat) (r1 : Nat) (M : sy_M) : sy_fr (jW_X4_takeOver r0 r1) M (jfX4_takeOver r0 r1 M) := jzX4_takeOver  M sy_eqw_refl
def jW_X11_law : List (Nat × Option Nat) := [(0, some 17), (1, some 4), (1, some 5), (1, some 6), (1, some 7), (133, some 0), (29, some 5), (29, some 6), (3, none), (30, none), (31, none), (32, none), (33, none), (34, none), (35, some 5), (35, some 6), (36, none), (37, none), (38, none), (39, none), (4, none), (40, none), (5, none), (57, some 1)]
theorem jzX11_law {M0 : sy_M} : ∀ (M : sy_M), sy_eqw (jW_X11_law) M0 M → sy_fr (jW_X11_law) M0 (jfX11_law M) := by
  intro  M e
  exact (sy_fr_bv (sy_fr_up e (jzoX4_clear _ _) (sy_subw_ix [14, 15] rfl)) (fun _ e1 => (sy_fr_bv (sy_fr_up e1 (jzoX10_open  _) (sy_subw_ix [1, 2, 3, 4, 8, 20, 22] rfl)) (fun _ e2 => (sy_fr_bi (sy_fr_up e2 (jzoX6_readLines_2 _ _) (sy_subw_ix [3, 4, 14, 15, 16, 17, 18, 19, 21] rfl)) (fun _ _ e3 => (sy_fr_ite ((sy_fr_cond (sy_fr_end (sy_eqw_uf (sy_eqw_uf e3 0 rfl) 5 rfl)))) ((sy_fr_bv (sy_fr_up (sy_eqw_uf e3 0 rfl) (jzoX4_takeOver _ _ _) (sy_subw_ix [6, 7, 9, 10, 11, 12, 13] rfl)) (fun _ e4 => (sy_fr_bv (sy_fr_up e4 (jzoX0_forget  _) (sy_subw_ix [23] rfl)) (fun _ e5 => sy_fr_end e5))))))))))))
theorem jzoX11_law (M : sy_M) : sy_fr (jW_X11_law) M (jfX11_law M) := jzX11_law  M sy_eqw_refl
def jW_L_law : List (Nat × Option Nat) := [(0, some 17), (1, some 4), (1, some 5), (1, some 6), (1, some 7), (132, none), (133, some 0), (29, some 5), (29, some 6), (3, none), (30, none), (31, none), (32, none), (33, none), (34, none), (35, some 5), (35, some 6), (36, none), (37, none), (38, none), (39, none), (4, none), (40, none), (5, none), (57, some 1)]
theorem jzL_law {M0 : sy_M} : ∀ (M : sy_M), sy_eqw (jW_L_law) M0 M → sy_fr (jW_L_law) M0 (jfL_law M) := by
  intro  M e
  exact (sy_fr_hi (sy_fr_up e (jzoX11_law  _) (sy_subw_ix [0, 1, 2, 3, 4, 6, 7, 8, 9, 10, 11, 12, 13, 14, 15, 16, 17, 18, 19, 20, 21, 22, 23, 24] rfl)) (fun _ _ e1 => sy_fr_end (sy_eqw_wl e1 5 rfl)) (fun _ _ e1 => (sy_fr_ite (sy_fr_end e1) sy_fr_none)))
theorem jzoL_law (M : sy_M) : sy_fr (jW_L_law) M (jfL_law M) := jzL_law  M sy_eqw_refl
def jW_X12_law : List (Nat × Option Nat) := [(121, some 0), (121, some 6), (121, some 8), (121, some 9), (121, some 10), (121, some 11), (121, some 12), (121, some 13), (121, some 17), (121, some 18), (122, none)]
theorem jzX12_law_55 {M0 : sy_M} : ∀ n : Nat, ∀ (a1 : Int32) (a2 : Int32) (M : sy_M), sy_eqw (jW_X12_law) M0 M → sy_fr (jW_X12_law) M0 (jfX12_law_55 n a1 a2 M) := by
  intro n
  induction n with
  | zero => intro a1 a2 M e; exact sy_fr_none
  | succ n z55 => intro a1 a2 M e; exact (sy_fr_ite ((sy_fr_cond ((sy_fr_cond (z55 _ _ _ (sy_eqw_ua e 10 rfl)))))) (sy_fr_end (sy_eqw_uf e 1 rfl)))
theorem jzX12_law_24 {M0 : sy_M} : ∀ (a1 : Int32) (s0 : Int32) (M : sy_M), sy_eqw (jW_X12_law) M0 M → sy_fr (jW_X12_law) M0 (jfX12_law_24 a1 s0 M) := by
  intro a1 s0 M e
  exact (sy_fr_ite (sy_fr_end (sy_eqw_uf e 0 rfl)) (jzX12_law_55  6000 _ _ _ (sy_eqw_ua (sy_eqw_ua (sy_eqw_uf e 0 rfl) 10 rfl) 10 rfl)))
theorem jzX12_law {M0 : sy_M} : ∀ (M : sy_M), sy_eqw (jW_X12_law) M0 M → sy_fr (jW_X12_law) M0 (jfX12_law M) := by
  intro  M e
  exact (sy_fr_bv (sy_fr_up e (jzoX12_begins  _) (sy_subw_ix [2, 3, 4, 5, 6, 7] rfl)) (fun _ e1 => (sy_fr_bi (sy_fr_up e1 (jzoX12_read _ _) (sy_subw_ix [5, 6, 7, 8, 9, 10] rfl)) (fun _ _ e2 => (sy_fr_ite (jzX12_law_24  _ _ _ e2) (jzX12_law_24  _ _ _ e2))))))
theorem jzoX12_law (M : sy_M) : sy_fr (jW_X12_law) M (jfX12_law M) := jzX12_law  M sy_eqw_refl
def jW_X11_fault : List (Nat × Option Nat) := []
theorem jzX11_fault {M0 : sy_M} : ∀ (M : sy_M), sy_eqw (jW_X11_fault) M0 M → sy_fr (jW_X11_fault) M0 (jfX11_fault M) := by
  intro  M e
  exact sy_fr_end e
theorem jzoX11_fault (M : sy_M) : sy_fr (jW_X11_fault) M (jfX11_fault M) := jzX11_fault  M sy_eqw_refl
def jW_X12_fault : List (Nat × Option Nat) := [(121, some 0)]
theorem jzX12_fault {M0 : sy_M} : ∀ (M : sy_M), sy_eqw (jW_X12_fault) M0 M → sy_fr (jW_X12_fault) M0 (jfX12_fault M) := by
  intro  M e
  exact sy_fr_end (sy_eqw_uf e 0 rfl)
theorem jzoX12_fault (M : sy_M) : sy_fr (jW_X12_fault) M (jfX12_fault M) := jzX12_fault  M sy_eqw_refl
def jW_X11_checkLodger : List (Nat × Option Nat) := [(133, some 0)]
theorem jzX11_checkLodger {M0 : sy_M} : ∀ (a1 : Int32) (M : sy_M), sy_eqw (jW_X11_checkLodger) M0 M → sy_fr (jW_X11_checkLodger) M0 (jfX11_checkLodger a1 M) := by
  intro a1 M e
  exact (sy_fr_ite ((sy_fr_cond (sy_fr_end (sy_eqw_uf e 0 rfl)))) ((sy_fr_ite (sy_fr_end e) ((sy_fr_cond (sy_fr_end (sy_eqw_uf e 0 rfl)))))))
theorem jzoX11_checkLodger (a1 : Int32) (M : sy_M) : sy_fr (jW_X11_checkLodger) M (jfX11_checkLodger a1 M) := jzX11_checkLodger a1 M sy_eqw_refl
def jW_X2_get (r0 : Nat) : List (Nat × Option Nat) := []
theorem jzX2_get_25 {r0 : Nat} {M0 : sy_M} : ∀ (a1 : Int32) (a2 : Int32) (s0 : Int32) (M : sy_M), sy_eqw (jW_X2_get r0) M0 M → sy_fr (jW_X2_get r0) M0 (jfX2_get_25 r0 a1 a2 s0 M) := by
  intro a1 a2 s0 M e
  exact (sy_fr_ite (sy_fr_end e) ((sy_fr_cond ((sy_fr_cond (sy_fr_end e))))))
theorem jzX2_get_24 {r0 : Nat} {M0 : sy_M} : ∀ (a1 : Int32) (a2 : Int32) (M : sy_M), sy_eqw (jW_X2_get r0) M0 M → sy_fr (jW_X2_get r0) M0 (jfX2_get_24 r0 a1 a2 M) := by
  intro a1 a2 M e
  exact jzX2_get_25  _ _ _ _ e
theorem jzX2_get {r0 : Nat} {M0 : sy_M} : ∀ (a1 : Int32) (a2 : Int32) (M : sy_M), sy_eqw (jW_X2_get r0) M0 M → sy_fr (jW_X2_get r0) M0 (jfX2_get r0 a1 a2 M) := by
  intro a1 a2 M e
  exact (sy_fr_ite (jzX2_get_24  _ _ _ e) ((sy_fr_ite ((sy_fr_ite (jzX2_get_24  _ _ _ e) ((sy_fr_ite (jzX2_get_25  _ _ _ _ e) (jzX2_get_24  _ _ _ e))))) (jzX2_get_24  _ _ _ e))))
theorem jzoX2_get (r0 : Nat) (a1 : Int32) (a2 : Int32) (M : sy_M) : sy_fr (jW_X2_get r0) M (jfX2_get r0 a1 a2 M) := jzX2_get a1 a2 M sy_eqw_refl
def jW_X8_tell (r1 : Nat) : List (Nat × Option Nat) := [(52, none)]
theorem jzX8_tell_97 {r1 : Nat} {M0 : sy_M} : ∀ (a2 : Int32) (s0 : Int32) (s1 : Int32) (M : sy_M), sy_eqw (jW_X8_tell r1) M0 M → sy_fr (jW_X8_tell r1) M0 (jfX8_tell_97 r1 a2 s0 s1 M) := by
  intro a2 s0 s1 M e
  exact (sy_fr_cond ((sy_fr_cond ((sy_fr_bi (sy_fr_up (sy_eqw_ua e 0 rfl) (jzoX2_get _ _ _ _) (sy_subw_ix [] rfl)) (fun _ _ e1 => (sy_fr_cond ((sy_fr_bi (sy_fr_up e1 (jzoX2_get _ _ _ _) (sy_subw_ix [] rfl)) (fun _ _ e2 => (sy_fr_ite (sy_fr_end (sy_eqw_ua e2 0 rfl)) (sy_fr_end (sy_eqw_ua e2 0 rfl)))))))))))))
theorem jzX8_tell_57 {r1 : Nat} {M0 : sy_M} : ∀ (a2 : Int32) (M : sy_M), sy_eqw (jW_X8_tell r1) M0 M → sy_fr (jW_X8_tell r1) M0 (jfX8_tell_57 r1 a2 M) := by
  intro a2 M e
  exact (sy_fr_cond ((sy_fr_cond ((sy_fr_cond ((sy_fr_ite (jzX8_tell_97  _ _ _ _ (sy_eqw_ua (sy_eqw_ua e 0 rfl) 0 rfl)) (jzX8_tell_97  _ _ _ _ (sy_eqw_ua (sy_eqw_ua e 0 rfl) 0 rfl)))))))))
theorem jzX8_tell {r1 : Nat} {M0 : sy_M} : ∀ (a2 : Int32) (M : sy_M), sy_eqw (jW_X8_tell r1) M0 M → sy_fr (jW_X8_tell r1) M0 (jfX8_tell r1 a2 M) := by
  intro a2 M e
  exact (sy_fr_cond ((sy_fr_bi (sy_fr_up (sy_eqw_ua e 0 rfl) (jzoX2_get _ _ _ _) (sy_subw_ix [] rfl)) (fun _ _ e1 => (sy_fr_cond ((sy_fr_bi (sy_fr_up (sy_eqw_ua e1 0 rfl) (jzoX2_get _ _ _ _) (sy_subw_ix [] rfl)) (fun _ _ e2 => (sy_fr_cond ((sy_fr_bi (sy_fr_up (sy_eqw_ua e2 0 rfl) (jzoX2_get _ _ _ _) (sy_subw_ix [] rfl)) (fun _ _ e3 => (sy_fr_cond ((sy_fr_bi (sy_fr_up (sy_eqw_ua e3 0 rfl) (jzoX2_get _ _ _ _) (sy_subw_ix [] rfl)) (fun _ _ e4 => jzX8_tell_57  _ _ (sy_eqw_ua e4 0 rfl)))))))))))))))))
theorem jzoX8_tell (r1 : Nat) (a2 : Int32) (M : sy_M) : sy_fr (jW_X8_tell r1) M (jfX8_tell r1 a2 M) := jzX8_tell a2 M sy_eqw_refl
def jW_X4_holds (r0 : Nat) : List (Nat × Option Nat) := []
theorem jzX4_holds_323 {r0 : Nat} {M0 : sy_M} {k31 : Nat → Int32 → Int32 → Int32 → Int32 → Int32 → Int32 → sy_M → sy_O} (z31 : ∀ (a1 : Int32) (a3 : Int32) (a4 : Int32) (a5 : Int32) (a6 : Int32) (a7 : Int32) (M : sy_M), sy_eqw (jW_X4_holds r0) M0 M → sy_fr (jW_X4_holds r0) M0 (k31 r0 a1 a3 a4 a5 a6 a7 M)) : ∀ (a1 : Int32) (a3 : Int32) (a4 : Int32) (a5 : Int32) (a6 : Int32) (a7 : Int32) (M : sy_M), sy_eqw (jW_X4_holds r0) M0 M → sy_fr (jW_X4_holds r0) M0 (jfX4_holds_323 k31 r0 a1 a3 a4 a5 a6 a7 M) := by
  intro a1 a3 a4 a5 a6 a7 M e
  exact z31 _ _ _ _ _ _ _ e
theorem jzX4_holds_156 {r0 : Nat} {M0 : sy_M} {k31 : Nat → Int32 → Int32 → Int32 → Int32 → Int32 → Int32 → sy_M → sy_O} (z31 : ∀ (a1 : Int32) (a3 : Int32) (a4 : Int32) (a5 : Int32) (a6 : Int32) (a7 : Int32) (M : sy_M), sy_eqw (jW_X4_holds r0) M0 M → sy_fr (jW_X4_holds r0) M0 (k31 r0 a1 a3 a4 a5 a6 a7 M)) : ∀ (a1 : Int32) (a3 : Int32) (a4 : Int32) (a5 : Int32) (a6 : Int32) (a7 : Int32) (a8 : Int32) (M : sy_M), sy_eqw (jW_X4_holds r0) M0 M → sy_fr (jW_X4_holds r0) M0 (jfX4_holds_156 k31 r0 a1 a3 a4 a5 a6 a7 a8 M) := by
  intro a1 a3 a4 a5 a6 a7 a8 M e
  exact jzX4_holds_323 z31 _ _ _ _ _ _ _ e
theorem jzX4_holds_166 {r0 : Nat} {M0 : sy_M} {k31 : Nat → Int32 → Int32 → Int32 → Int32 → Int32 → Int32 → sy_M → sy_O} (z31 : ∀ (a1 : Int32) (a3 : Int32) (a4 : Int32) (a5 : Int32) (a6 : Int32) (a7 : Int32) (M : sy_M), sy_eqw (jW_X4_holds r0) M0 M → sy_fr (jW_X4_holds r0) M0 (k31 r0 a1 a3 a4 a5 a6 a7 M)) : ∀ (a1 : Int32) (a3 : Int32) (a4 : Int32) (a5 : Int32) (a6 : Int32) (a7 : Int32) (a9 : Int32) (M : sy_M), sy_eqw (jW_X4_holds r0) M0 M → sy_fr (jW_X4_holds r0) M0 (jfX4_holds_166 k31 r0 a1 a3 a4 a5 a6 a7 a9 M) := by
  intro a1 a3 a4 a5 a6 a7 a9 M e
  exact jzX4_holds_323 z31 _ _ _ _ _ _ _ e
theorem jzX4_holds_199 {r0 : Nat} {M0 : sy_M} {k31 : Nat → Int32 → Int32 → Int32 → Int32 → Int32 → Int32 → sy_M → sy_O} (z31 : ∀ (a1 : Int32) (a3 : Int32) (a4 : Int32) (a5 : Int32) (a6 : Int32) (a7 : Int32) (M : sy_M), sy_eqw (jW_X4_holds r0) M0 M → sy_fr (jW_X4_holds r0) M0 (k31 r0 a1 a3 a4 a5 a6 a7 M)) : ∀ (a1 : Int32) (a3 : Int32) (a5 : Int32) (a7 : Int32) (s0 : Int32) (M : sy_M), sy_eqw (jW_X4_holds r0) M0 M → sy_fr (jW_X4_holds r0) M0 (jfX4_holds_199 k31 r0 a1 a3 a5 a7 s0 M) := by
  intro a1 a3 a5 a7 s0 M e
  exact jzX4_holds_323 z31 _ _ _ _ _ _ _ e
theorem jzX4_holds_176 {r0 : Nat} {M0 : sy_M} {k31 : Nat → Int32 → Int32 → Int32 → Int32 → Int32 → Int32 → sy_M → sy_O} (z31 : ∀ (a1 : Int32) (a3 : Int32) (a4 : Int32) (a5 : Int32) (a6 : Int32) (a7 : Int32) (M : sy_M), sy_eqw (jW_X4_holds r0) M0 M → sy_fr (jW_X4_holds r0) M0 (k31 r0 a1 a3 a4 a5 a6 a7 M)) : ∀ (a1 : Int32) (a3 : Int32) (a6 : Int32) (a7 : Int32) (M : sy_M), sy_eqw (jW_X4_holds r0) M0 M → sy_fr (jW_X4_holds r0) M0 (jfX4_holds_176 k31 r0 a1 a3 a6 a7 M) := by
  intro a1 a3 a6 a7 M e
  exact (sy_fr_cond ((sy_fr_cond ((sy_fr_ite (jzX4_holds_199 z31 _ _ _ _ _ _ e) (jzX4_holds_199 z31 _ _ _ _ _ _ e))))))
theorem jzX4_holds_239 {r0 : Nat} {M0 : sy_M} {k31 : Nat → Int32 → Int32 → Int32 → Int32 → Int32 → Int32 → sy_M → sy_O} (z31 : ∀ (a1 : Int32) (a3 : Int32) (a4 : Int32) (a5 : Int32) (a6 : Int32) (a7 : Int32) (M : sy_M), sy_eqw (jW_X4_holds r0) M0 M → sy_fr (jW_X4_holds r0) M0 (k31 r0 a1 a3 a4 a5 a6 a7 M)) : ∀ (a1 : Int32) (a4 : Int32) (a5 : Int32) (a7 : Int32) (s0 : Int32) (M : sy_M), sy_eqw (jW_X4_holds r0) M0 M → sy_fr (jW_X4_holds r0) M0 (jfX4_holds_239 k31 r0 a1 a4 a5 a7 s0 M) := by
  intro a1 a4 a5 a7 s0 M e
  exact jzX4_holds_323 z31 _ _ _ _ _ _ _ e
theorem jzX4_holds_207 {r0 : Nat} {M0 : sy_M} {k31 : Nat → Int32 → Int32 → Int32 → Int32 → Int32 → Int32 → sy_M → sy_O} (z31 : ∀ (a1 : Int32) (a3 : Int32) (a4 : Int32) (a5 : Int32) (a6 : Int32) (a7 : Int32) (M : sy_M), sy_eqw (jW_X4_holds r0) M0 M → sy_fr (jW_X4_holds r0) M0 (k31 r0 a1 a3 a4 a5 a6 a7 M)) : ∀ (a1 : Int32) (a4 : Int32) (a5 : Int32) (a6 : Int32) (a7 : Int32) (M : sy_M), sy_eqw (jW_X4_holds r0) M0 M → sy_fr (jW_X4_holds r0) M0 (jfX4_holds_207 k31 r0 a1 a4 a5 a6 a7 M) := by
  intro a1 a4 a5 a6 a7 M e
  exact (sy_fr_ite ((sy_fr_ite (jzX4_holds_239 z31 _ _ _ _ _ _ e) (jzX4_holds_239 z31 _ _ _ _ _ _ e))) ((sy_fr_ite (jzX4_holds_239 z31 _ _ _ _ _ _ e) (jzX4_holds_239 z31 _ _ _ _ _ _ e))))
theorem jzX4_holds_256 {r0 : Nat} {M0 : sy_M} {k31 : Nat → Int32 → Int32 → Int32 → Int32 → Int32 → Int32 → sy_M → sy_O} (z31 : ∀ (a1 : Int32) (a3 : Int32) (a4 : Int32) (a5 : Int32) (a6 : Int32) (a7 : Int32) (M : sy_M), sy_eqw (jW_X4_holds r0) M0 M → sy_fr (jW_X4_holds r0) M0 (k31 r0 a1 a3 a4 a5 a6 a7 M)) : ∀ (a1 : Int32) (a4 : Int32) (a5 : Int32) (a6 : Int32) (a7 : Int32) (s0 : Int32) (M : sy_M), sy_eqw (jW_X4_holds r0) M0 M → sy_fr (jW_X4_holds r0) M0 (jfX4_holds_256 k31 r0 a1 a4 a5 a6 a7 s0 M) := by
  intro a1 a4 a5 a6 a7 s0 M e
  exact jzX4_holds_323 z31 _ _ _ _ _ _ _ e
theorem jzX4_holds_246 {r0 : Nat} {M0 : sy_M} {k31 : Nat → Int32 → Int32 → Int32 → Int32 → Int32 → Int32 → sy_M → sy_O} (z31 : ∀ (a1 : Int32) (a3 : Int32) (a4 : Int32) (a5 : Int32) (a6 : Int32) (a7 : Int32) (M : sy_M), sy_eqw (jW_X4_holds r0) M0 M → sy_fr (jW_X4_holds r0) M0 (k31 r0 a1 a3 a4 a5 a6 a7 M)) : ∀ (a1 : Int32) (a4 : Int32) (a5 : Int32) (a6 : Int32) (a7 : Int32) (a9 : Int32) (M : sy_M), sy_eqw (jW_X4_holds r0) M0 M → sy_fr (jW_X4_holds r0) M0 (jfX4_holds_246 k31 r0 a1 a4 a5 a6 a7 a9 M) := by
  intro a1 a4 a5 a6 a7 a9 M e
  exact (sy_fr_ite (jzX4_holds_256 z31 _ _ _ _ _ _ _ e) (jzX4_holds_256 z31 _ _ _ _ _ _ _ e))
theorem jzX4_holds_269 {r0 : Nat} {M0 : sy_M} {k31 : Nat → Int32 → Int32 → Int32 → Int32 → Int32 → Int32 → sy_M → sy_O} (z31 : ∀ (a1 : Int32) (a3 : Int32) (a4 : Int32) (a5 : Int32) (a6 : Int32) (a7 : Int32) (M : sy_M), sy_eqw (jW_X4_holds r0) M0 M → sy_fr (jW_X4_holds r0) M0 (k31 r0 a1 a3 a4 a5 a6 a7 M)) : ∀ (a1 : Int32) (a4 : Int32) (a5 : Int32) (a6 : Int32) (a7 : Int32) (s0 : Int32) (M : sy_M), sy_eqw (jW_X4_holds r0) M0 M → sy_fr (jW_X4_holds r0) M0 (jfX4_holds_269 k31 r0 a1 a4 a5 a6 a7 s0 M) := by
  intro a1 a4 a5 a6 a7 s0 M e
  exact jzX4_holds_323 z31 _ _ _ _ _ _ _ e
theorem jzX4_holds_260 {r0 : Nat} {M0 : sy_M} {k31 : Nat → Int32 → Int32 → Int32 → Int32 → Int32 → Int32 → sy_M → sy_O} (z31 : ∀ (a1 : Int32) (a3 : Int32) (a4 : Int32) (a5 : Int32) (a6 : Int32) (a7 : Int32) (M : sy_M), sy_eqw (jW_X4_holds r0) M0 M → sy_fr (jW_X4_holds r0) M0 (k31 r0 a1 a3 a4 a5 a6 a7 M)) : ∀ (a1 : Int32) (a3 : Int32) (a4 : Int32) (a5 : Int32) (a6 : Int32) (a7 : Int32) (M : sy_M), sy_eqw (jW_X4_holds r0) M0 M → sy_fr (jW_X4_holds r0) M0 (jfX4_holds_260 k31 r0 a1 a3 a4 a5 a6 a7 M) := by
  intro a1 a3 a4 a5 a6 a7 M e
  exact (sy_fr_ite (jzX4_holds_269 z31 _ _ _ _ _ _ _ e) (jzX4_holds_269 z31 _ _ _ _ _ _ _ e))
theorem jzX4_holds_293 {r0 : Nat} {M0 : sy_M} {k31 : Nat → Int32 → Int32 → Int32 → Int32 → Int32 → Int32 → sy_M → sy_O} (z31 : ∀ (a1 : Int32) (a3 : Int32) (a4 : Int32) (a5 : Int32) (a6 : Int32) (a7 : Int32) (M : sy_M), sy_eqw (jW_X4_holds r0) M0 M → sy_fr (jW_X4_holds r0) M0 (k31 r0 a1 a3 a4 a5 a6 a7 M)) : ∀ (a1 : Int32) (a3 : Int32) (a4 : Int32) (a5 : Int32) (a6 : Int32) (s0 : Int32) (M : sy_M), sy_eqw (jW_X4_holds r0) M0 M → sy_fr (jW_X4_holds r0) M0 (jfX4_holds_293 k31 r0 a1 a3 a4 a5 a6 s0 M) := by
  intro a1 a3 a4 a5 a6 s0 M e
  exact jzX4_holds_323 z31 _ _ _ _ _ _ _ e
theorem jzX4_holds_291 {r0 : Nat} {M0 : sy_M} {k31 : Nat → Int32 → Int32 → Int32 → Int32 → Int32 → Int32 → sy_M → sy_O} (z31 : ∀ (a1 : Int32) (a3 : Int32) (a4 : Int32) (a5 : Int32) (a6 : Int32) (a7 : Int32) (M : sy_M), sy_eqw (jW_X4_holds r0) M0 M → sy_fr (jW_X4_holds r0) M0 (k31 r0 a1 a3 a4 a5 a6 a7 M)) : ∀ (a1 : Int32) (a3 : Int32) (a4 : Int32) (a5 : Int32) (a6 : Int32) (a7 : Int32) (M : sy_M), sy_eqw (jW_X4_holds r0) M0 M → sy_fr (jW_X4_holds r0) M0 (jfX4_holds_291 k31 r0 a1 a3 a4 a5 a6 a7 M) := by
  intro a1 a3 a4 a5 a6 a7 M e
  exact jzX4_holds_293 z31 _ _ _ _ _ _ _ e
theorem jzX4_holds_273 {r0 : Nat} {M0 : sy_M} {k31 : Nat → Int32 → Int32 → Int32 → Int32 → Int32 → Int32 → sy_M → sy_O} (z31 : ∀ (a1 : Int32) (a3 : Int32) (a4 : Int32) (a5 : Int32) (a6 : Int32) (a7 : Int32) (M : sy_M), sy_eqw (jW_X4_holds r0) M0 M → sy_fr (jW_X4_holds r0) M0 (k31 r0 a1 a3 a4 a5 a6 a7 M)) : ∀ (a1 : Int32) (a3 : Int32) (a4 : Int32) (a5 : Int32) (a6 : Int32) (a7 : Int32) (a8 : Int32) (M : sy_M), sy_eqw (jW_X4_holds r0) M0 M → sy_fr (jW_X4_holds r0) M0 (jfX4_holds_273 k31 r0 a1 a3 a4 a5 a6 a7 a8 M) := by
  intro a1 a3 a4 a5 a6 a7 a8 M e
  exact (sy_fr_ite (jzX4_holds_291 z31 _ _ _ _ _ _ _ e) ((sy_fr_ite (jzX4_holds_293 z31 _ _ _ _ _ _ _ e) (jzX4_holds_291 z31 _ _ _ _ _ _ _ e))))
theorem jzX4_holds_318 {r0 : Nat} {M0 : sy_M} {k31 : Nat → Int32 → Int32 → Int32 → Int32 → Int32 → Int32 → sy_M → sy_O} (z31 : ∀ (a1 : Int32) (a3 : Int32) (a4 : Int32) (a5 : Int32) (a6 : Int32) (a7 : Int32) (M : sy_M), sy_eqw (jW_X4_holds r0) M0 M → sy_fr (jW_X4_holds r0) M0 (k31 r0 a1 a3 a4 a5 a6 a7 M)) : ∀ (a1 : Int32) (a3 : Int32) (a4 : Int32) (a5 : Int32) (a6 : Int32) (s0 : Int32) (M : sy_M), sy_eqw (jW_X4_holds r0) M0 M → sy_fr (jW_X4_holds r0) M0 (jfX4_holds_318 k31 r0 a1 a3 a4 a5 a6 s0 M) := by
  intro a1 a3 a4 a5 a6 s0 M e
  exact jzX4_holds_323 z31 _ _ _ _ _ _ _ e
theorem jzX4_holds_316 {r0 : Nat} {M0 : sy_M} {k31 : Nat → Int32 → Int32 → Int32 → Int32 → Int32 → Int32 → sy_M → sy_O} (z31 : ∀ (a1 : Int32) (a3 : Int32) (a4 : Int32) (a5 : Int32) (a6 : Int32) (a7 : Int32) (M : sy_M), sy_eqw (jW_X4_holds r0) M0 M → sy_fr (jW_X4_holds r0) M0 (k31 r0 a1 a3 a4 a5 a6 a7 M)) : ∀ (a1 : Int32) (a3 : Int32) (a4 : Int32) (a5 : Int32) (a6 : Int32) (a7 : Int32) (M : sy_M), sy_eqw (jW_X4_holds r0) M0 M → sy_fr (jW_X4_holds r0) M0 (jfX4_holds_316 k31 r0 a1 a3 a4 a5 a6 a7 M) := by
  intro a1 a3 a4 a5 a6 a7 M e
  exact jzX4_holds_318 z31 _ _ _ _ _ _ _ e
theorem jzX4_holds_298 {r0 : Nat} {M0 : sy_M} {k31 : Nat → Int32 → Int32 → Int32 → Int32 → Int32 → Int32 → sy_M → sy_O} (z31 : ∀ (a1 : Int32) (a3 : Int32) (a4 : Int32) (a5 : Int32) (a6 : Int32) (a7 : Int32) (M : sy_M), sy_eqw (jW_X4_holds r0) M0 M → sy_fr (jW_X4_holds r0) M0 (k31 r0 a1 a3 a4 a5 a6 a7 M)) : ∀ (a1 : Int32) (a3 : Int32) (a4 : Int32) (a5 : Int32) (a6 : Int32) (a7 : Int32) (a8 : Int32) (M : sy_M), sy_eqw (jW_X4_holds r0) M0 M → sy_fr (jW_X4_holds r0) M0 (jfX4_holds_298 k31 r0 a1 a3 a4 a5 a6 a7 a8 M) := by
  intro a1 a3 a4 a5 a6 a7 a8 M e
  exact (sy_fr_ite ((sy_fr_ite (jzX4_holds_318 z31 _ _ _ _ _ _ _ e) (jzX4_holds_316 z31 _ _ _ _ _ _ _ e))) (jzX4_holds_316 z31 _ _ _ _ _ _ _ e))
theorem jzX4_holds_93 {r0 : Nat} {M0 : sy_M} {k31 : Nat → Int32 → Int32 → Int32 → Int32 → Int32 → Int32 → sy_M → sy_O} (z31 : ∀ (a1 : Int32) (a3 : Int32) (a4 : Int32) (a5 : Int32) (a6 : Int32) (a7 : Int32) (M : sy_M), sy_eqw (jW_X4_holds r0) M0 M → sy_fr (jW_X4_holds r0) M0 (k31 r0 a1 a3 a4 a5 a6 a7 M)) : ∀ (a1 : Int32) (a3 : Int32) (a4 : Int32) (a5 : Int32) (a6 : Int32) (a7 : Int32) (a8 : Int32) (s0 : Int32) (M : sy_M), sy_eqw (jW_X4_holds r0) M0 M → sy_fr (jW_X4_holds r0) M0 (jfX4_holds_93 k31 r0 a1 a3 a4 a5 a6 a7 a8 s0 M) := by
  intro a1 a3 a4 a5 a6 a7 a8 s0 M e
  exact (sy_fr_cond ((sy_fr_cond ((sy_fr_ite (jzX4_holds_156 z31 _ _ _ _ _ _ _ _ e) ((sy_fr_ite (jzX4_holds_166 z31 _ _ _ _ _ _ _ _ e) ((sy_fr_ite (jzX4_holds_176 z31 _ _ _ _ _ e) ((sy_fr_ite (jzX4_holds_176 z31 _ _ _ _ _ e) ((sy_fr_ite (jzX4_holds_207 z31 _ _ _ _ _ _ e) ((sy_fr_ite (jzX4_holds_246 z31 _ _ _ _ _ _ _ e) ((sy_fr_ite (jzX4_holds_260 z31 _ _ _ _ _ _ _ e) ((sy_fr_ite (jzX4_holds_273 z31 _ _ _ _ _ _ _ _ e) ((sy_fr_ite (jzX4_holds_298 z31 _ _ _ _ _ _ _ _ e) (jzX4_holds_323 z31 _ _ _ _ _ _ _ e))))))))))))))))))))))
theorem jzX4_holds_92 {r0 : Nat} {M0 : sy_M} {k31 : Nat → Int32 → Int32 → Int32 → Int32 → Int32 → Int32 → sy_M → sy_O} (z31 : ∀ (a1 : Int32) (a3 : Int32) (a4 : Int32) (a5 : Int32) (a6 : Int32) (a7 : Int32) (M : sy_M), sy_eqw (jW_X4_holds r0) M0 M → sy_fr (jW_X4_holds r0) M0 (k31 r0 a1 a3 a4 a5 a6 a7 M)) : ∀ (a1 : Int32) (a3 : Int32) (a4 : Int32) (a5 : Int32) (a6 : Int32) (a7 : Int32) (a8 : Int32) (M : sy_M), sy_eqw (jW_X4_holds r0) M0 M → sy_fr (jW_X4_holds r0) M0 (jfX4_holds_92 k31 r0 a1 a3 a4 a5 a6 a7 a8 M) := by
  intro a1 a3 a4 a5 a6 a7 a8 M e
  exact jzX4_holds_93 z31 _ _ _ _ _ _ _ _ _ e
theorem jzX4_holds_31 {r0 : Nat} {M0 : sy_M} : ∀ n : Nat, ∀ (a1 : Int32) (a3 : Int32) (a4 : Int32) (a5 : Int32) (a6 : Int32) (a7 : Int32) (M : sy_M), sy_eqw (jW_X4_holds r0) M0 M → sy_fr (jW_X4_holds r0) M0 (jfX4_holds_31 n r0 a1 a3 a4 a5 a6 a7 M) := by
  intro n
  induction n with
  | zero => intro a1 a3 a4 a5 a6 a7 M e; exact sy_fr_none
  | succ n z31 => intro a1 a3 a4 a5 a6 a7 M e; exact (sy_fr_ite ((sy_fr_cond (sy_fr_end e))) ((sy_fr_cond ((sy_fr_cond ((sy_fr_ite ((sy_fr_ite ((sy_fr_cond ((sy_fr_cond ((sy_fr_ite (jzX4_holds_92 z31 _ _ _ _ _ _ _ _ e) ((sy_fr_ite ((sy_fr_ite ((sy_fr_cond (jzX4_holds_93 z31 _ _ _ _ _ _ _ _ _ e))) (jzX4_holds_92 z31 _ _ _ _ _ _ _ _ e))) (jzX4_holds_92 z31 _ _ _ _ _ _ _ _ e))))))))) ((sy_fr_cond (sy_fr_end e))))) ((sy_fr_cond (sy_fr_end e))))))))))
theorem jzX4_holds {r0 : Nat} {M0 : sy_M} : ∀ (a1 : Int32) (M : sy_M), sy_eqw (jW_X4_holds r0) M0 M → sy_fr (jW_X4_holds r0) M0 (jfX4_holds r0 a1 M) := by
  intro a1 M e
  exact (sy_fr_ite (sy_fr_end e) ((sy_fr_ite ((sy_fr_cond ((sy_fr_cond (jzX4_holds_31  6000 _ _ _ _ _ _ _ e))))) (sy_fr_end e))))
theorem jzoX4_holds (r0 : Nat) (a1 : Int32) (M : sy_M) : sy_fr (jW_X4_holds r0) M (jfX4_holds r0 a1 M) := jzX4_holds a1 M sy_eqw_refl
def jW_X4_turnOf (r0 : Nat) : List (Nat × Option Nat) := []
theorem jzX4_turnOf_65 {r0 : Nat} {M0 : sy_M} {k4 : Nat → Int32 → Int32 → sy_M → sy_O} (z4 : ∀ (a2 : Int32) (a3 : Int32) (M : sy_M), sy_eqw (jW_X4_turnOf r0) M0 M → sy_fr (jW_X4_turnOf r0) M0 (k4 r0 a2 a3 M)) : ∀ (a2 : Int32) (a3 : Int32) (M : sy_M), sy_eqw (jW_X4_turnOf r0) M0 M → sy_fr (jW_X4_turnOf r0) M0 (jfX4_turnOf_65 k4 r0 a2 a3 M) := by
  intro a2 a3 M e
  exact z4 _ _ _ e
theorem jzX4_turnOf_63 {r0 : Nat} {M0 : sy_M} {k4 : Nat → Int32 → Int32 → sy_M → sy_O} (z4 : ∀ (a2 : Int32) (a3 : Int32) (M : sy_M), sy_eqw (jW_X4_turnOf r0) M0 M → sy_fr (jW_X4_turnOf r0) M0 (k4 r0 a2 a3 M)) : ∀ (a3 : Int32) (s0 : Int32) (s1 : Int32) (M : sy_M), sy_eqw (jW_X4_turnOf r0) M0 M → sy_fr (jW_X4_turnOf r0) M0 (jfX4_turnOf_63 k4 r0 a3 s0 s1 M) := by
  intro a3 s0 s1 M e
  exact jzX4_turnOf_65 z4 _ _ _ e
theorem jzX4_turnOf_4 {r0 : Nat} {M0 : sy_M} : ∀ n : Nat, ∀ (a2 : Int32) (a3 : Int32) (M : sy_M), sy_eqw (jW_X4_turnOf r0) M0 M → sy_fr (jW_X4_turnOf r0) M0 (jfX4_turnOf_4 n r0 a2 a3 M) := by
  intro n
  induction n with
  | zero => intro a2 a3 M e; exact sy_fr_none
  | succ n z4 => intro a2 a3 M e; exact (sy_fr_cond ((sy_fr_ite ((sy_fr_ite ((sy_fr_cond ((sy_fr_cond ((sy_fr_ite (jzX4_turnOf_65 z4 _ _ _ e) ((sy_fr_cond ((sy_fr_bi (sy_fr_up e (jzoX4_holds _ _ _) (sy_subw_ix [] rfl)) (fun _ _ e1 => (sy_fr_ite (jzX4_turnOf_65 z4 _ _ _ e1) ((sy_fr_cond ((sy_fr_cond ((sy_fr_ite ((sy_fr_cond ((sy_fr_cond (jzX4_turnOf_63 z4 _ _ _ _ e1))))) ((sy_fr_cond ((sy_fr_cond (jzX4_turnOf_63 z4 _ _ _ _ e1))))))))))))))))))))))) (sy_fr_end e))) (sy_fr_end e))))
theorem jzX4_turnOf {r0 : Nat} {M0 : sy_M} : ∀ (M : sy_M), sy_eqw (jW_X4_turnOf r0) M0 M → sy_fr (jW_X4_turnOf r0) M0 (jfX4_turnOf r0 M) := by
  intro  M e
  exact jzX4_turnOf_4  6000 _ _ _ e
theorem jzoX4_turnOf (r0 : Nat) (M : sy_M) : sy_fr (jW_X4_turnOf r0) M (jfX4_turnOf r0 M) := jzX4_turnOf  M sy_eqw_refl
def jW_X4_isRefused (r0 : Nat) : List (Nat × Option Nat) := []
theorem jzX4_isRefused_37 {r0 : Nat} {M0 : sy_M} {k2 : Nat → Int32 → sy_M → sy_O} (z2 : ∀ (a2 : Int32) (M : sy_M), sy_eqw (jW_X4_isRefused r0) M0 M → sy_fr (jW_X4_isRefused r0) M0 (k2 r0 a2 M)) : ∀ (a2 : Int32) (M : sy_M), sy_eqw (jW_X4_isRefused r0) M0 M → sy_fr (jW_X4_isRefused r0) M0 (jfX4_isRefused_37 k2 r0 a2 M) := by
  intro a2 M e
  exact z2 _ _ e
theorem jzX4_isRefused_2 {r0 : Nat} {M0 : sy_M} : ∀ n : Nat, ∀ (a2 : Int32) (M : sy_M), sy_eqw (jW_X4_isRefused r0) M0 M → sy_fr (jW_X4_isRefused r0) M0 (jfX4_isRefused_2 n r0 a2 M) := by
  intro n
  induction n with
  | zero => intro a2 M e; exact sy_fr_none
  | succ n z2 => intro a2 M e; exact (sy_fr_cond ((sy_fr_ite ((sy_fr_ite ((sy_fr_cond ((sy_fr_cond ((sy_fr_ite ((sy_fr_cond ((sy_fr_bi (sy_fr_up e (jzoX4_holds _ _ _) (sy_subw_ix [] rfl)) (fun _ _ e1 => (sy_fr_ite (jzX4_isRefused_37 z2 _ _ e1) (sy_fr_end e1))))))) (jzX4_isRefused_37 z2 _ _ e))))))) (sy_fr_end e))) (sy_fr_end e))))
theorem jzX4_isRefused {r0 : Nat} {M0 : sy_M} : ∀ (M : sy_M), sy_eqw (jW_X4_isRefused r0) M0 M → sy_fr (jW_X4_isRefused r0) M0 (jfX4_isRefused r0 M) := by
  intro  M e
  exact jzX4_isRefused_2  6000 _ _ e
theorem jzoX4_isRefused (r0 : Nat) (M : sy_M) : sy_fr (jW_X4_isRefused r0) M (jfX4_isRefused r0 M) := jzX4_isRefused  M sy_eqw_refl
def jW_X2_sum (r0 : Nat) : List (Nat × Option Nat) := []
theorem jzX2_sum_4 {r0 : Nat} {M0 : sy_M} : ∀ n : Nat, ∀ (a1 : Int32) (a2 : Int32) (a3 : Int32) (M : sy_M), sy_eqw (jW_X2_sum r0) M0 M → sy_fr (jW_X2_sum r0) M0 (jfX2_sum_4 n r0 a1 a2 a3 M) := by
  intro n
  induction n with
  | zero => intro a1 a2 a3 M e; exact sy_fr_none
  | succ n z4 => intro a1 a2 a3 M e; exact (sy_fr_cond ((sy_fr_ite ((sy_fr_cond ((sy_fr_bi (sy_fr_up e (jzoX2_get _ _ _ _) (sy_subw_ix [] rfl)) (fun _ _ e1 => z4 _ _ _ _ e1))))) (sy_fr_end e))))
theorem jzX2_sum {r0 : Nat} {M0 : sy_M} : ∀ (a1 : Int32) (M : sy_M), sy_eqw (jW_X2_sum r0) M0 M → sy_fr (jW_X2_sum r0) M0 (jfX2_sum r0 a1 M) := by
  intro a1 M e
  exact jzX2_sum_4  6000 _ _ _ _ e
theorem jzoX2_sum (r0 : Nat) (a1 : Int32) (M : sy_M) : sy_fr (jW_X2_sum r0) M (jfX2_sum r0 a1 M) := jzX2_sum a1 M sy_eqw_refl
def jW_X11_share : List (Nat × Option Nat) := []
theorem jzX11_share {M0 : sy_M} : ∀ (a0 : Int32) (a1 : Int32) (a2 : Int32) (M : sy_M), sy_eqw (jW_X11_share) M0 M → sy_fr (jW_X11_share) M0 (jfX11_share a0 a1 a2 M) := by
  intro a0 a1 a2 M e
  exact (sy_fr_ite ((sy_fr_ite sy_fr_none (sy_fr_end e))) (sy_fr_end e))
theorem jzoX11_share (a0 : Int32) (a1 : Int32) (a2 : Int32) (M : sy_M) : sy_fr (jW_X11_share) M (jfX11_share a0 a1 a2 M) := jzX11_share a0 a1 a2 M sy_eqw_refl
def jW_X11_hundredths : List (Nat × Option Nat) := []
theorem jzX11_hundredths {M0 : sy_M} : ∀ (a0 : Int32) (a1 : Int32) (M : sy_M), sy_eqw (jW_X11_hundredths) M0 M → sy_fr (jW_X11_hundredths) M0 (jfX11_hundredths a0 a1 M) := by
  intro a0 a1 M e
  exact (sy_fr_bi (sy_fr_up e (jzoX11_share _ _ _ _) (sy_subw_ix [] rfl)) (fun _ _ e1 => sy_fr_end e1))
theorem jzoX11_hundredths (a0 : Int32) (a1 : Int32) (M : sy_M) : sy_fr (jW_X11_hundredths) M (jfX11_hundredths a0 a1 M) := jzX11_hundredths a0 a1 M sy_eqw_refl
def jW_J9_floorMod_7cf53 : List (Nat × Option Nat) := []
theorem jzJ9_floorMod_7cf53 {M0 : sy_M} : ∀ (a0 : Int32) (a1 : Int32) (M : sy_M), sy_eqw (jW_J9_floorMod_7cf53) M0 M → sy_fr (jW_J9_floorMod_7cf53) M0 (jfJ9_floorMod_7cf53 a0 a1 M) := by
  intro a0 a1 M e
  exact (sy_fr_ite sy_fr_none ((sy_fr_ite ((sy_fr_ite (sy_fr_end e) (sy_fr_end e))) (sy_fr_end e))))
theorem jzoJ9_floorMod_7cf53 (a0 : Int32) (a1 : Int32) (M : sy_M) : sy_fr (jW_J9_floorMod_7cf53) M (jfJ9_floorMod_7cf53 a0 a1 M) := jzJ9_floorMod_7cf53 a0 a1 M sy_eqw_refl
def jW_X2_hours (r0 : Nat) : List (Nat × Option Nat) := []
theorem jzX2_hours {r0 : Nat} {M0 : sy_M} : ∀ (a1 : Int32) (M : sy_M), sy_eqw (jW_X2_hours r0) M0 M → sy_fr (jW_X2_hours r0) M0 (jfX2_hours r0 a1 M) := by
  intro a1 M e
  exact (sy_fr_cond ((sy_fr_bi (sy_fr_up e (jzoX2_get _ _ _ _) (sy_subw_ix [] rfl)) (fun _ _ e1 => (sy_fr_cond ((sy_fr_bi (sy_fr_up e1 (jzoX2_get _ _ _ _) (sy_subw_ix [] rfl)) (fun _ _ e2 => (sy_fr_bi (sy_fr_up e2 (jzoJ9_floorMod_7cf53 _ _ _) (sy_subw_ix [] rfl)) (fun _ _ e3 => sy_fr_end e3))))))))))
theorem jzoX2_hours (r0 : Nat) (a1 : Int32) (M : sy_M) : sy_fr (jW_X2_hours r0) M (jfX2_hours r0 a1 M) := jzX2_hours a1 M sy_eqw_refl
