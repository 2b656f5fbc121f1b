/-! ===== what the functions leave alone (3); written by wip/whole/run_z.py ===== -/
def jW_L_grief : List (Nat × Option Nat) := [(132, none), (133, some 0), (19, some 3), (19, some 4), (19, some 5), (19, some 6), (19, some 7), (19, some 8), (19, some 9), (19, some 10), (19, some 11), (19, some 12), (19, some 13), (20, none), (21, none), (22, some 2), (22, some 3), (23, none), (50, none), (51, none), (52, none)]
theorem jzL_grief {M0 : sy_M} : ∀ (a1 : Int32) (a2 : Int32) (M : sy_M), sy_eqw (jW_L_grief) M0 M → sy_fr (jW_L_grief) M0 (jfL_grief a1 a2 M) := by
  intro a1 a2 M e
  exact (sy_fr_hi (sy_fr_up e (jzoX11_grief _ _ _) (sy_subw_ix [1, 2, 3, 4, 5, 6, 7, 8, 9, 10, 11, 12, 13, 14, 15, 16, 17, 18, 19, 20] rfl)) (fun _ _ e1 => sy_fr_end (sy_eqw_wl e1 0 rfl)) (fun _ _ e1 => (sy_fr_ite (sy_fr_end e1) (sy_fr_ite (sy_fr_end e1) sy_fr_none))))
theorem jzoL_grief (a1 : Int32) (a2 : Int32) (M : sy_M) : sy_fr (jW_L_grief) M (jfL_grief a1 a2 M) := jzL_grief a1 a2 M sy_eqw_refl
def jW_X12_grief : List (Nat × Option Nat) := [(121, some 0), (121, some 9), (121, some 10), (121, some 11), (121, some 12), (121, some 13), (121, some 15), (121, some 16), (121, some 17), (121, some 18), (121, some 20), (121, some 21), (122, none), (124, none), (127, none), (129, none)]
theorem jzX12_grief_28 {M0 : sy_M} : ∀ (a1 : Int32) (a2 : Int32) (s0 : Int32) (M : sy_M), sy_eqw (jW_X12_grief) M0 M → sy_fr (jW_X12_grief) M0 (jfX12_grief_28 a1 a2 s0 M) := by
  intro a1 a2 s0 M e
  exact (sy_fr_ite (sy_fr_end (sy_eqw_uf e 0 rfl)) ((sy_fr_bi (sy_fr_up (sy_eqw_uf e 0 rfl) (jzoX12_griefOf _ _ _) (sy_subw_ix [1, 2, 3, 4, 5, 6, 7, 8, 9, 10, 11, 12, 13, 14, 15] rfl)) (fun _ _ e1 => sy_fr_end e1))))
theorem jzX12_grief {M0 : sy_M} : ∀ (a1 : Int32) (a2 : Int32) (M : sy_M), sy_eqw (jW_X12_grief) M0 M → sy_fr (jW_X12_grief) M0 (jfX12_grief a1 a2 M) := by
  intro a1 a2 M e
  exact (sy_fr_bi (sy_fr_up e (jzoX12_isLodger _ _) (sy_subw_ix [] rfl)) (fun _ _ e1 => (sy_fr_ite (jzX12_grief_28  _ _ _ _ e1) ((sy_fr_bi (sy_fr_up e1 (jzoX12_isIn _ _ _ _) (sy_subw_ix [] rfl)) (fun _ _ e2 => (sy_fr_ite (jzX12_grief_28  _ _ _ _ e2) (jzX12_grief_28  _ _ _ _ e2))))))))
theorem jzoX12_grief (a1 : Int32) (a2 : Int32) (M : sy_M) : sy_fr (jW_X12_grief) M (jfX12_grief a1 a2 M) := jzX12_grief a1 a2 M sy_eqw_refl
def jW_X11_wouldWait : List (Nat × Option Nat) := [(19, some 3), (19, some 4), (19, some 5), (19, some 6), (19, some 7), (19, some 8), (19, some 9), (19, some 10), (19, some 11), (19, some 12), (19, some 13), (20, none), (21, none), (22, some 2), (22, some 3), (23, none), (52, none)]
theorem jzX11_wouldWait_17 {M0 : sy_M} : ∀ n : Nat, ∀ (a1 : Int32) (a2 : Int32) (a3 : Int32) (M : sy_M), sy_eqw (jW_X11_wouldWait) M0 M → sy_fr (jW_X11_wouldWait) M0 (jfX11_wouldWait_17 n a1 a2 a3 M) := by
  intro n
  induction n with
  | zero => intro a1 a2 a3 M e; exact sy_fr_none
  | succ n z17 => intro a1 a2 a3 M e; exact (sy_fr_ite (sy_fr_end e) ((sy_fr_bi (sy_fr_up e (jzoX11_griefBy _ _ _) (sy_subw_ix [0, 1, 2, 3, 4, 5, 6, 7, 8, 9, 10, 11, 12, 13, 14, 15, 16] rfl)) (fun _ _ e1 => (sy_fr_ite (sy_fr_end e1) (z17 _ _ _ _ e1))))))
theorem jzX11_wouldWait {M0 : sy_M} : ∀ (a1 : Int32) (M : sy_M), sy_eqw (jW_X11_wouldWait) M0 M → sy_fr (jW_X11_wouldWait) M0 (jfX11_wouldWait a1 M) := by
  intro a1 M e
  exact (sy_fr_bi (sy_fr_up e (jzoX2_get _ _ _ _) (sy_subw_ix [] rfl)) (fun _ _ e1 => (sy_fr_bi (sy_fr_up e1 (jzoX11_griefBy _ _ _) (sy_subw_ix [0, 1, 2, 3, 4, 5, 6, 7, 8, 9, 10, 11, 12, 13, 14, 15, 16] rfl)) (fun _ _ e2 => jzX11_wouldWait_17  6000 _ _ _ _ e2))))
theorem jzoX11_wouldWait (a1 : Int32) (M : sy_M) : sy_fr (jW_X11_wouldWait) M (jfX11_wouldWait a1 M) := jzX11_wouldWait a1 M sy_eqw_refl
def jW_X11_restless : List (Nat × Option Nat) := [(19, some 3), (19, some 4), (19, some 5), (19, some 6), (19, some 7), (19, some 8), (19, some 9), (19, some 10), (19, some 11), (19, some 12), (19, some 13), (20, none), (21, none), (22, some 2), (22, some 3), (23, none), (50, none), (51, none), (52, none)]
theorem jzX11_restless_40 {M0 : sy_M} {k15 : Int32 → Int32 → sy_M → sy_O} (z15 : ∀ (a1 : Int32) (a2 : Int32) (M : sy_M), sy_eqw (jW_X11_restless) M0 M → sy_fr (jW_X11_restless) M0 (k15 a1 a2 M)) : ∀ (a1 : Int32) (a2 : Int32) (M : sy_M), sy_eqw (jW_X11_restless) M0 M → sy_fr (jW_X11_restless) M0 (jfX11_restless_40 k15 a1 a2 M) := by
  intro a1 a2 M e
  exact z15 _ _ _ e
theorem jzX11_restless_15 {M0 : sy_M} : ∀ n : Nat, ∀ (a1 : Int32) (a2 : Int32) (M : sy_M), sy_eqw (jW_X11_restless) M0 M → sy_fr (jW_X11_restless) M0 (jfX11_restless_15 n a1 a2 M) := by
  intro n
  induction n with
  | zero => intro a1 a2 M e; exact sy_fr_none
  | succ n z15 => intro a1 a2 M e; exact (sy_fr_ite ((sy_fr_bi (sy_fr_up e (jzoX11_wouldWait _ _) (sy_subw_ix [0, 1, 2, 3, 4, 5, 6, 7, 8, 9, 10, 11, 12, 13, 14, 15, 18] rfl)) (fun _ _ e1 => (sy_fr_ite (jzX11_restless_40 z15 _ _ _ e1) (jzX11_restless_40 z15 _ _ _ e1))))) (sy_fr_end e))
theorem jzX11_restless {M0 : sy_M} : ∀ (M : sy_M), sy_eqw (jW_X11_restless) M0 M → sy_fr (jW_X11_restless) M0 (jfX11_restless M) := by
  intro  M e
  exact (sy_fr_bv (sy_fr_up e (jzoX8_learn _ _) (sy_subw_ix [16, 17] rfl)) (fun _ e1 => jzX11_restless_15  6000 _ _ _ e1))
theorem jzoX11_restless (M : sy_M) : sy_fr (jW_X11_restless) M (jfX11_restless M) := jzX11_restless  M sy_eqw_refl
def jW_X12_restless : List (Nat × Option Nat) := [(121, some 0), (121, some 9), (121, some 10), (121, some 11), (121, some 12), (121, some 13), (121, some 15), (121, some 16), (121, some 17), (121, some 18), (121, some 20), (121, some 21), (122, none), (124, none), (127, none), (129, none)]
theorem jzX12_restless_51 {M0 : sy_M} {k9 : Int32 → Int32 → sy_M → sy_O} (z9 : ∀ (a1 : Int32) (a2 : Int32) (M : sy_M), sy_eqw (jW_X12_restless) M0 M → sy_fr (jW_X12_restless) M0 (k9 a1 a2 M)) : ∀ (a2 : Int32) (s0 : Int32) (s1 : Int32) (M : sy_M), sy_eqw (jW_X12_restless) M0 M → sy_fr (jW_X12_restless) M0 (jfX12_restless_51 k9 a2 s0 s1 M) := by
  intro a2 s0 s1 M e
  exact z9 _ _ _ e
theorem jzX12_restless_9 {M0 : sy_M} : ∀ n : Nat, ∀ (a1 : Int32) (a2 : Int32) (M : sy_M), sy_eqw (jW_X12_restless) M0 M → sy_fr (jW_X12_restless) M0 (jfX12_restless_9 n a1 a2 M) := by
  intro n
  induction n with
  | zero => intro a1 a2 M e; exact sy_fr_none
  | succ n z9 => intro a1 a2 M e; exact (sy_fr_ite ((sy_fr_bi (sy_fr_up e (jzoX12_of _ _ _) (sy_subw_ix [] rfl)) (fun _ _ e1 => (sy_fr_bi (sy_fr_up e1 (jzoX12_griefOf _ _ _) (sy_subw_ix [1, 2, 3, 4, 5, 6, 7, 8, 9, 10, 11, 12, 13, 14, 15] rfl)) (fun _ _ e2 => (sy_fr_bi (sy_fr_up e2 (jzoX12_bestOf _ _) (sy_subw_ix [1, 2, 3, 4, 5, 6, 7, 8, 9, 10, 11, 12, 13, 14, 15] rfl)) (fun _ _ e3 => (sy_fr_bi (sy_fr_up e3 (jzoX12_griefOf _ _ _) (sy_subw_ix [1, 2, 3, 4, 5, 6, 7, 8, 9, 10, 11, 12, 13, 14, 15] rfl)) (fun _ _ e4 => (sy_fr_ite (jzX12_restless_51 z9 _ _ _ _ e4) (jzX12_restless_51 z9 _ _ _ _ e4))))))))))) (sy_fr_end e))
theorem jzX12_restless {M0 : sy_M} : ∀ (M : sy_M), sy_eqw (jW_X12_restless) M0 M → sy_fr (jW_X12_restless) M0 (jfX12_restless M) := by
  intro  M e
  exact jzX12_restless_9  6000 _ _ _ (sy_eqw_uf e 0 rfl)
theorem jzoX12_restless (M : sy_M) : sy_fr (jW_X12_restless) M (jfX12_restless M) := jzX12_restless  M sy_eqw_refl
def jW_X11_saint : List (Nat × Option Nat) := [(120, none), (133, some 0), (19, some 3), (19, some 4), (19, some 5), (19, some 6), (19, some 7), (19, some 8), (19, some 9), (19, some 10), (19, some 11), (19, some 12), (19, some 13), (20, none), (21, none), (22, some 2), (22, some 3), (23, none), (50, none), (51, none), (52, none)]
theorem jzX11_saint_139 {M0 : sy_M} {k68 : Int32 → Int32 → Int32 → Int32 → sy_M → sy_O} (z68 : ∀ (a1 : Int32) (a2 : Int32) (a3 : Int32) (a4 : Int32) (M : sy_M), sy_eqw (jW_X11_saint) M0 M → sy_fr (jW_X11_saint) M0 (k68 a1 a2 a3 a4 M)) : ∀ (a1 : Int32) (a2 : Int32) (a3 : Int32) (a4 : Int32) (M : sy_M), sy_eqw (jW_X11_saint) M0 M → sy_fr (jW_X11_saint) M0 (jfX11_saint_139 k68 a1 a2 a3 a4 M) := by
  intro a1 a2 a3 a4 M e
  exact z68 _ _ _ _ _ e
theorem jzX11_saint_132 {M0 : sy_M} {k68 : Int32 → Int32 → Int32 → Int32 → sy_M → sy_O} (z68 : ∀ (a1 : Int32) (a2 : Int32) (a3 : Int32) (a4 : Int32) (M : sy_M), sy_eqw (jW_X11_saint) M0 M → sy_fr (jW_X11_saint) M0 (k68 a1 a2 a3 a4 M)) : ∀ (a1 : Int32) (a2 : Int32) (a3 : Int32) (a4 : Int32) (M : sy_M), sy_eqw (jW_X11_saint) M0 M → sy_fr (jW_X11_saint) M0 (jfX11_saint_132 k68 a1 a2 a3 a4 M) := by
  intro a1 a2 a3 a4 M e
  exact jzX11_saint_139 z68 _ _ _ _ _ e
theorem jzX11_saint_68 {M0 : sy_M} : ∀ n : Nat, ∀ (a1 : Int32) (a2 : Int32) (a3 : Int32) (a4 : Int32) (M : sy_M), sy_eqw (jW_X11_saint) M0 M → sy_fr (jW_X11_saint) M0 (jfX11_saint_68 n a1 a2 a3 a4 M) := by
  intro n
  induction n with
  | zero => intro a1 a2 a3 a4 M e; exact sy_fr_none
  | succ n z68 => intro a1 a2 a3 a4 M e; exact (sy_fr_ite ((sy_fr_ite ((sy_fr_bi (sy_fr_up e (jzoX11_griefAhead _ _) (sy_subw_ix [] rfl)) (fun _ _ e1 => (sy_fr_ite (jzX11_saint_139 z68 _ _ _ _ _ e1) ((sy_fr_ite ((sy_fr_cond ((sy_fr_ite (jzX11_saint_132 z68 _ _ _ _ _ e1) (jzX11_saint_139 z68 _ _ _ _ _ e1))))) ((sy_fr_cond ((sy_fr_ite (jzX11_saint_132 z68 _ _ _ _ _ e1) (jzX11_saint_139 z68 _ _ _ _ _ e1))))))))))) (sy_fr_end e))) (sy_fr_end e))
theorem jzX11_saint_33 {M0 : sy_M} : ∀ n : Nat, ∀ (a1 : Int32) (a2 : Int32) (a3 : Int32) (M : sy_M), sy_eqw (jW_X11_saint) M0 M → sy_fr (jW_X11_saint) M0 (jfX11_saint_33 n a1 a2 a3 M) := by
  intro n
  induction n with
  | zero => intro a1 a2 a3 M e; exact sy_fr_none
  | succ n z33 => intro a1 a2 a3 M e; exact (sy_fr_ite ((sy_fr_bi (sy_fr_up e (jzoX11_griefAhead _ _) (sy_subw_ix [] rfl)) (fun _ _ e2 => (sy_fr_cond (z33 _ _ _ _ (sy_eqw_ua e2 0 rfl)))))) ((sy_fr_bi (sy_fr_up e (jzoX11_griefBy _ _ _) (sy_subw_ix [2, 3, 4, 5, 6, 7, 8, 9, 10, 11, 12, 13, 14, 15, 16, 17, 20] rfl)) (fun _ _ e1 => jzX11_saint_68  6000 _ _ _ _ _ e1))))
theorem jzX11_saint {M0 : sy_M} : ∀ (a1 : Int32) (a2 : Int32) (M : sy_M), sy_eqw (jW_X11_saint) M0 M → sy_fr (jW_X11_saint) M0 (jfX11_saint a1 a2 M) := by
  intro a1 a2 M e
  exact (sy_fr_bv (sy_fr_up e (jzoX11_checkLodger _ _) (sy_subw_ix [1] rfl)) (fun _ e1 => (sy_fr_bv (sy_fr_up e1 (jzoX8_learn _ _) (sy_subw_ix [18, 19] rfl)) (fun _ e2 => (sy_fr_bi (sy_fr_up e2 (jzoX2_get _ _ _ _) (sy_subw_ix [] rfl)) (fun _ _ e3 => (sy_fr_bi (sy_fr_up e3 (jzoX11_griefBy _ _ _) (sy_subw_ix [2, 3, 4, 5, 6, 7, 8, 9, 10, 11, 12, 13, 14, 15, 16, 17, 20] rfl)) (fun _ _ e4 => jzX11_saint_33  6000 _ _ _ _ e4))))))))
theorem jzoX11_saint (a1 : Int32) (a2 : Int32) (M : sy_M) : sy_fr (jW_X11_saint) M (jfX11_saint a1 a2 M) := jzX11_saint a1 a2 M sy_eqw_refl
def jW_L_saint : List (Nat × Option Nat) := [(120, none), (132, none), (133, some 0), (19, some 3), (19, some 4), (19, some 5), (19, some 6), (19, some 7), (19, some 8), (19, some 9), (19, some 10), (19, some 11), (19, some 12), (19, some 13), (20, none), (21, none), (22, some 2), (22, some 3), (23, none), (50, none), (51, none), (52, none)]
theorem jzL_saint {M0 : sy_M} : ∀ (a1 : Int32) (a2 : Int32) (M : sy_M), sy_eqw (jW_L_saint) M0 M → sy_fr (jW_L_saint) M0 (jfL_saint a1 a2 M) := by
  intro a1 a2 M e
  exact (sy_fr_hi (sy_fr_up e (jzoX11_saint _ _ _) (sy_subw_ix [0, 2, 3, 4, 5, 6, 7, 8, 9, 10, 11, 12, 13, 14, 15, 16, 17, 18, 19, 20, 21] rfl)) (fun _ _ e1 => sy_fr_end (sy_eqw_wl e1 1 rfl)) (fun _ _ e1 => (sy_fr_ite (sy_fr_end e1) sy_fr_none)))
theorem jzoL_saint (a1 : Int32) (a2 : Int32) (M : sy_M) : sy_fr (jW_L_saint) M (jfL_saint a1 a2 M) := jzL_saint a1 a2 M sy_eqw_refl
def jW_X12_saint : List (Nat × Option Nat) := [(121, some 0), (121, some 9), (121, some 10), (121, some 11), (121, some 12), (121, some 13), (121, some 15), (121, some 16), (121, some 17), (121, some 18), (121, some 20), (121, some 21), (122, none), (124, none), (127, none), (128, none), (129, none)]
theorem jzX12_saint_141 {M0 : sy_M} {k73 : Int32 → Int32 → Int32 → Int32 → sy_M → sy_O} (z73 : ∀ (a1 : Int32) (a2 : Int32) (a4 : Int32) (a5 : Int32) (M : sy_M), sy_eqw (jW_X12_saint) M0 M → sy_fr (jW_X12_saint) M0 (k73 a1 a2 a4 a5 M)) : ∀ (a1 : Int32) (a2 : Int32) (a5 : Int32) (s0 : Int32) (s1 : Int32) (M : sy_M), sy_eqw (jW_X12_saint) M0 M → sy_fr (jW_X12_saint) M0 (jfX12_saint_141 k73 a1 a2 a5 s0 s1 M) := by
  intro a1 a2 a5 s0 s1 M e
  exact z73 _ _ _ _ _ e
theorem jzX12_saint_140 {M0 : sy_M} {k73 : Int32 → Int32 → Int32 → Int32 → sy_M → sy_O} (z73 : ∀ (a1 : Int32) (a2 : Int32) (a4 : Int32) (a5 : Int32) (M : sy_M), sy_eqw (jW_X12_saint) M0 M → sy_fr (jW_X12_saint) M0 (k73 a1 a2 a4 a5 M)) : ∀ (a1 : Int32) (a2 : Int32) (a5 : Int32) (s0 : Int32) (M : sy_M), sy_eqw (jW_X12_saint) M0 M → sy_fr (jW_X12_saint) M0 (jfX12_saint_140 k73 a1 a2 a5 s0 M) := by
  intro a1 a2 a5 s0 M e
  exact jzX12_saint_141 z73 _ _ _ _ _ _ e
theorem jzX12_saint_133 {M0 : sy_M} {k73 : Int32 → Int32 → Int32 → Int32 → sy_M → sy_O} (z73 : ∀ (a1 : Int32) (a2 : Int32) (a4 : Int32) (a5 : Int32) (M : sy_M), sy_eqw (jW_X12_saint) M0 M → sy_fr (jW_X12_saint) M0 (k73 a1 a2 a4 a5 M)) : ∀ (a1 : Int32) (a2 : Int32) (a5 : Int32) (s0 : Int32) (M : sy_M), sy_eqw (jW_X12_saint) M0 M → sy_fr (jW_X12_saint) M0 (jfX12_saint_133 k73 a1 a2 a5 s0 M) := by
  intro a1 a2 a5 s0 M e
  exact jzX12_saint_141 z73 _ _ _ _ _ _ e
theorem jzX12_saint_73 {M0 : sy_M} : ∀ n : Nat, ∀ (a1 : Int32) (a2 : Int32) (a4 : Int32) (a5 : Int32) (M : sy_M), sy_eqw (jW_X12_saint) M0 M → sy_fr (jW_X12_saint) M0 (jfX12_saint_73 n a1 a2 a4 a5 M) := by
  intro n
  induction n with
  | zero => intro a1 a2 a4 a5 M e; exact sy_fr_none
  | succ n z73 => intro a1 a2 a4 a5 M e; exact (sy_fr_ite ((sy_fr_ite (jzX12_saint_140 z73 _ _ _ _ _ e) ((sy_fr_ite ((sy_fr_cond ((sy_fr_cond ((sy_fr_ite (jzX12_saint_133 z73 _ _ _ _ _ e) (jzX12_saint_140 z73 _ _ _ _ _ e))))))) ((sy_fr_cond ((sy_fr_cond ((sy_fr_ite (jzX12_saint_133 z73 _ _ _ _ _ e) (jzX12_saint_140 z73 _ _ _ _ _ e))))))))))) (sy_fr_end e))
theorem jzX12_saint_32 {M0 : sy_M} : ∀ n : Nat, ∀ (a1 : Int32) (a2 : Int32) (a3 : Int32) (M : sy_M), sy_eqw (jW_X12_saint) M0 M → sy_fr (jW_X12_saint) M0 (jfX12_saint_32 n a1 a2 a3 M) := by
  intro n
  induction n with
  | zero => intro a1 a2 a3 M e; exact sy_fr_none
  | succ n z32 => intro a1 a2 a3 M e; exact (sy_fr_ite ((sy_fr_cond ((sy_fr_cond (z32 _ _ _ _ (sy_eqw_ua e 15 rfl)))))) ((sy_fr_bi (sy_fr_up e (jzoX12_griefOf _ _ _) (sy_subw_ix [1, 2, 3, 4, 5, 6, 7, 8, 9, 10, 11, 12, 13, 14, 16] rfl)) (fun _ _ e1 => jzX12_saint_73  6000 _ _ _ _ _ e1))))
theorem jzX12_saint_14 {M0 : sy_M} : ∀ (a1 : Int32) (a2 : Int32) (s0 : Int32) (M : sy_M), sy_eqw (jW_X12_saint) M0 M → sy_fr (jW_X12_saint) M0 (jfX12_saint_14 a1 a2 s0 M) := by
  intro a1 a2 s0 M e
  exact (sy_fr_ite (sy_fr_end (sy_eqw_uf e 0 rfl)) ((sy_fr_bv (sy_fr_up (sy_eqw_uf e 0 rfl) (jzoX12_grieves  _) (sy_subw_ix [1, 2, 3, 4, 5, 6, 7, 8, 9, 10, 11, 12, 13, 14, 16] rfl)) (fun _ e1 => jzX12_saint_32  6000 _ _ _ _ e1))))
theorem jzX12_saint {M0 : sy_M} : ∀ (a1 : Int32) (a2 : Int32) (M : sy_M), sy_eqw (jW_X12_saint) M0 M → sy_fr (jW_X12_saint) M0 (jfX12_saint a1 a2 M) := by
  intro a1 a2 M e
  exact (sy_fr_bi (sy_fr_up e (jzoX12_isLodger _ _) (sy_subw_ix [] rfl)) (fun _ _ e1 => (sy_fr_ite (jzX12_saint_14  _ _ _ _ e1) (jzX12_saint_14  _ _ _ _ e1))))
theorem jzoX12_saint (a1 : Int32) (a2 : Int32) (M : sy_M) : sy_fr (jW_X12_saint) M (jfX12_saint a1 a2 M) := jzX12_saint a1 a2 M sy_eqw_refl
def jW_X11_fair : List (Nat × Option Nat) := [(133, some 0)]
theorem jzX11_fair_54 {M0 : sy_M} : ∀ n : Nat, ∀ (a1 : Int32) (a2 : Int32) (a3 : Int32) (a4 : Int32) (a5 : Int32) (M : sy_M), sy_eqw (jW_X11_fair) M0 M → sy_fr (jW_X11_fair) M0 (jfX11_fair_54 n a1 a2 a3 a4 a5 M) := by
  intro n
  induction n with
  | zero => intro a1 a2 a3 a4 a5 M e; exact sy_fr_none
  | succ n z54 => intro a1 a2 a3 a4 a5 M e; exact (sy_fr_ite ((sy_fr_bi (sy_fr_up e (jzoX2_metered _ _ _) (sy_subw_ix [] rfl)) (fun _ _ e3 => (sy_fr_bi (sy_fr_up e3 (jzoX11_share _ _ _ _) (sy_subw_ix [] rfl)) (fun _ _ e4 => z54 _ _ _ _ _ _ e4))))) ((sy_fr_bi (sy_fr_up e (jzoX2_metered _ _ _) (sy_subw_ix [] rfl)) (fun _ _ e1 => (sy_fr_bi (sy_fr_up e1 (jzoX11_share _ _ _ _) (sy_subw_ix [] rfl)) (fun _ _ e2 => (sy_fr_ite (sy_fr_end e2) (sy_fr_end e2))))))))
theorem jzX11_fair_18 {M0 : sy_M} : ∀ n : Nat, ∀ (a1 : Int32) (a2 : Int32) (a3 : Int32) (a4 : Int32) (M : sy_M), sy_eqw (jW_X11_fair) M0 M → sy_fr (jW_X11_fair) M0 (jfX11_fair_18 n a1 a2 a3 a4 M) := by
  intro n
  induction n with
  | zero => intro a1 a2 a3 a4 M e; exact sy_fr_none
  | succ n z18 => intro a1 a2 a3 a4 M e; exact (sy_fr_ite ((sy_fr_bi (sy_fr_up e (jzoX2_metered _ _ _) (sy_subw_ix [] rfl)) (fun _ _ e1 => z18 _ _ _ _ _ e1))) (jzX11_fair_54  6000 _ _ _ _ _ _ e))
theorem jzX11_fair {M0 : sy_M} : ∀ (a1 : Int32) (a2 : Int32) (M : sy_M), sy_eqw (jW_X11_fair) M0 M → sy_fr (jW_X11_fair) M0 (jfX11_fair a1 a2 M) := by
  intro a1 a2 M e
  exact (sy_fr_bv (sy_fr_up e (jzoX11_checkLodger _ _) (sy_subw_ix [0] rfl)) (fun _ e1 => (sy_fr_bv (sy_fr_up e1 (jzoX11_checkRange _ _ _ _) (sy_subw_ix [0] rfl)) (fun _ e2 => jzX11_fair_18  6000 _ _ _ _ _ e2))))
theorem jzoX11_fair (a1 : Int32) (a2 : Int32) (M : sy_M) : sy_fr (jW_X11_fair) M (jfX11_fair a1 a2 M) := jzX11_fair a1 a2 M sy_eqw_refl
def jW_L_fair : List (Nat × Option Nat) := [(132, none), (133, some 0)]
theorem jzL_fair {M0 : sy_M} : ∀ (a1 : Int32) (a2 : Int32) (M : sy_M), sy_eqw (jW_L_fair) M0 M → sy_fr (jW_L_fair) M0 (jfL_fair a1 a2 M) := by
  intro a1 a2 M e
  exact (sy_fr_hi (sy_fr_up e (jzoX11_fair _ _ _) (sy_subw_ix [1] rfl)) (fun _ _ e1 => sy_fr_end (sy_eqw_wl e1 0 rfl)) (fun _ _ e1 => (sy_fr_ite (sy_fr_end e1) (sy_fr_ite (sy_fr_end e1) sy_fr_none))))
theorem jzoL_fair (a1 : Int32) (a2 : Int32) (M : sy_M) : sy_fr (jW_L_fair) M (jfL_fair a1 a2 M) := jzL_fair a1 a2 M sy_eqw_refl
def jW_X12_fair : List (Nat × Option Nat) := [(121, some 0)]
theorem jzX12_fair_78 {M0 : sy_M} : ∀ n : Nat, ∀ (a1 : Int32) (a2 : Int32) (a3 : Int32) (a4 : Int32) (a5 : Int32) (M : sy_M), sy_eqw (jW_X12_fair) M0 M → sy_fr (jW_X12_fair) M0 (jfX12_fair_78 n a1 a2 a3 a4 a5 M) := by
  intro n
  induction n with
  | zero => intro a1 a2 a3 a4 a5 M e; exact sy_fr_none
  | succ n z78 => intro a1 a2 a3 a4 a5 M e; exact (sy_fr_ite ((sy_fr_bi (sy_fr_up e (jzoX12_metered _ _) (sy_subw_ix [] rfl)) (fun _ _ e2 => (sy_fr_ite sy_fr_none (z78 _ _ _ _ _ _ e2))))) ((sy_fr_bi (sy_fr_up e (jzoX12_metered _ _) (sy_subw_ix [] rfl)) (fun _ _ e1 => (sy_fr_ite sy_fr_none ((sy_fr_ite (sy_fr_end e1) (sy_fr_end e1))))))))
theorem jzX12_fair_46 {M0 : sy_M} : ∀ n : Nat, ∀ (a1 : Int32) (a2 : Int32) (a3 : Int32) (a4 : Int32) (M : sy_M), sy_eqw (jW_X12_fair) M0 M → sy_fr (jW_X12_fair) M0 (jfX12_fair_46 n a1 a2 a3 a4 M) := by
  intro n
  induction n with
  | zero => intro a1 a2 a3 a4 M e; exact sy_fr_none
  | succ n z46 => intro a1 a2 a3 a4 M e; exact (sy_fr_ite ((sy_fr_bi (sy_fr_up e (jzoX12_metered _ _) (sy_subw_ix [] rfl)) (fun _ _ e1 => z46 _ _ _ _ _ e1))) (jzX12_fair_78  6000 _ _ _ _ _ _ e))
theorem jzX12_fair_29 {M0 : sy_M} : ∀ (a1 : Int32) (a2 : Int32) (s0 : Int32) (M : sy_M), sy_eqw (jW_X12_fair) M0 M → sy_fr (jW_X12_fair) M0 (jfX12_fair_29 a1 a2 s0 M) := by
  intro a1 a2 s0 M e
  exact (sy_fr_ite (sy_fr_end (sy_eqw_uf e 0 rfl)) (jzX12_fair_46  6000 _ _ _ _ _ (sy_eqw_uf e 0 rfl)))
theorem jzX12_fair {M0 : sy_M} : ∀ (a1 : Int32) (a2 : Int32) (M : sy_M), sy_eqw (jW_X12_fair) M0 M → sy_fr (jW_X12_fair) M0 (jfX12_fair a1 a2 M) := by
  intro a1 a2 M e
  exact (sy_fr_bi (sy_fr_up e (jzoX12_isLodger _ _) (sy_subw_ix [] rfl)) (fun _ _ e1 => (sy_fr_ite (jzX12_fair_29  _ _ _ _ e1) ((sy_fr_bi (sy_fr_up e1 (jzoX12_isIn _ _ _ _) (sy_subw_ix [] rfl)) (fun _ _ e2 => (sy_fr_ite (jzX12_fair_29  _ _ _ _ e2) (jzX12_fair_29  _ _ _ _ e2))))))))
theorem jzoX12_fair (a1 : Int32) (a2 : Int32) (M : sy_M) : sy_fr (jW_X12_fair) M (jfX12_fair a1 a2 M) := jzX12_fair a1 a2 M sy_eqw_refl
def jW_J9_max_7cf53 : List (Nat × Option Nat) := []
theorem jzJ9_max_7cf53 {M0 : sy_M} : ∀ (a0 : Int32) (a1 : Int32) (M : sy_M), sy_eqw (jW_J9_max_7cf53) M0 M → sy_fr (jW_J9_max_7cf53) M0 (jfJ9_max_7cf53 a0 a1 M) := by
  intro a0 a1 M e
  exact (sy_fr_ite (sy_fr_end e) (sy_fr_end e))
theorem jzoJ9_max_7cf53 (a0 : Int32) (a1 : Int32) (M : sy_M) : sy_fr (jW_J9_max_7cf53) M (jfJ9_max_7cf53 a0 a1 M) := jzJ9_max_7cf53 a0 a1 M sy_eqw_refl
def jW_X11_mostNeeds : List (Nat × Option Nat) := []
theorem jzX11_mostNeeds_4 {M0 : sy_M} : ∀ n : Nat, ∀ (a1 : Int32) (a2 : Int32) (a3 : Int32) (M : sy_M), sy_eqw (jW_X11_mostNeeds) M0 M → sy_fr (jW_X11_mostNeeds) M0 (jfX11_mostNeeds_4 n a1 a2 a3 M) := by
  intro n
  induction n with
  | zero => intro a1 a2 a3 M e; exact sy_fr_none
  | succ n z4 => intro a1 a2 a3 M e; exact (sy_fr_ite ((sy_fr_bi (sy_fr_up e (jzoX8_presentAt _ _) (sy_subw_ix [] rfl)) (fun _ _ e1 => (sy_fr_bi (sy_fr_up e1 (jzoX2_burnt _ _ _) (sy_subw_ix [] rfl)) (fun _ _ e2 => (sy_fr_bi (sy_fr_up e2 (jzoJ9_max_7cf53 _ _ _) (sy_subw_ix [] rfl)) (fun _ _ e3 => z4 _ _ _ _ e3))))))) (sy_fr_end e))
theorem jzX11_mostNeeds {M0 : sy_M} : ∀ (a1 : Int32) (M : sy_M), sy_eqw (jW_X11_mostNeeds) M0 M → sy_fr (jW_X11_mostNeeds) M0 (jfX11_mostNeeds a1 M) := by
  intro a1 M e
  exact jzX11_mostNeeds_4  6000 _ _ _ _ e
theorem jzoX11_mostNeeds (a1 : Int32) (M : sy_M) : sy_fr (jW_X11_mostNeeds) M (jfX11_mostNeeds a1 M) := jzX11_mostNeeds a1 M sy_eqw_refl
def jW_X11_tops : List (Nat × Option Nat) := [(50, none), (51, none)]
theorem jzX11_tops {M0 : sy_M} : ∀ (a1 : Int32) (M : sy_M), sy_eqw (jW_X11_tops) M0 M → sy_fr (jW_X11_tops) M0 (jfX11_tops a1 M) := by
  intro a1 M e
  exact (sy_fr_bv (sy_fr_up e (jzoX8_learn _ _) (sy_subw_ix [0, 1] rfl)) (fun _ e1 => (sy_fr_bi (sy_fr_up e1 (jzoX11_mostNeeds _ _) (sy_subw_ix [] rfl)) (fun _ _ e2 => sy_fr_end e2))))
theorem jzoX11_tops (a1 : Int32) (M : sy_M) : sy_fr (jW_X11_tops) M (jfX11_tops a1 M) := jzX11_tops a1 M sy_eqw_refl
def jW_X12_topsOf : List (Nat × Option Nat) := []
theorem jzX12_topsOf_4 {M0 : sy_M} : ∀ n : Nat, ∀ (a1 : Int32) (a2 : Int32) (a3 : Int32) (M : sy_M), sy_eqw (jW_X12_topsOf) M0 M → sy_fr (jW_X12_topsOf) M0 (jfX12_topsOf_4 n a1 a2 a3 M) := by
  intro n
  induction n with
  | zero => intro a1 a2 a3 M e; exact sy_fr_none
  | succ n z4 => intro a1 a2 a3 M e; exact (sy_fr_ite ((sy_fr_bi (sy_fr_up e (jzoX12_homeIn _ _) (sy_subw_ix [] rfl)) (fun _ _ e1 => (sy_fr_bi (sy_fr_up e1 (jzoX12_burnsOf _ _) (sy_subw_ix [] rfl)) (fun _ _ e2 => (sy_fr_bi (sy_fr_up e2 (jzoX12_greater _ _ _) (sy_subw_ix [] rfl)) (fun _ _ e3 => z4 _ _ _ _ e3))))))) (sy_fr_end e))
theorem jzX12_topsOf {M0 : sy_M} : ∀ (a1 : Int32) (M : sy_M), sy_eqw (jW_X12_topsOf) M0 M → sy_fr (jW_X12_topsOf) M0 (jfX12_topsOf a1 M) := by
  intro a1 M e
  exact jzX12_topsOf_4  6000 _ _ _ _ e
theorem jzoX12_topsOf (a1 : Int32) (M : sy_M) : sy_fr (jW_X12_topsOf) M (jfX12_topsOf a1 M) := jzX12_topsOf a1 M sy_eqw_refl
def jW_X12_tops : List (Nat × Option Nat) := [(121, some 0)]
theorem jzX12_tops {M0 : sy_M} : ∀ (a1 : Int32) (M : sy_M), sy_eqw (jW_X12_tops) M0 M → sy_fr (jW_X12_tops) M0 (jfX12_tops a1 M) := by
  intro a1 M e
  exact (sy_fr_bi (sy_fr_up (sy_eqw_uf e 0 rfl) (jzoX12_topsOf _ _) (sy_subw_ix [] rfl)) (fun _ _ e1 => sy_fr_end e1))
theorem jzoX12_tops (a1 : Int32) (M : sy_M) : sy_fr (jW_X12_tops) M (jfX12_tops a1 M) := jzX12_tops a1 M sy_eqw_refl
def jW_X11_everybody : List (Nat × Option Nat) := []
theorem jzX11_everybody {M0 : sy_M} : ∀ (M : sy_M), sy_eqw (jW_X11_everybody) M0 M → sy_fr (jW_X11_everybody) M0 (jfX11_everybody M) := by
  intro  M e
  exact sy_fr_end e
theorem jzoX11_everybody (M : sy_M) : sy_fr (jW_X11_everybody) M (jfX11_everybody M) := jzX11_everybody  M sy_eqw_refl
def jW_X11_stand : List (Nat × Option Nat) := [(133, some 0), (50, none), (51, none)]
theorem jzX11_stand {M0 : sy_M} : ∀ (a1 : Int32) (M : sy_M), sy_eqw (jW_X11_stand) M0 M → sy_fr (jW_X11_stand) M0 (jfX11_stand a1 M) := by
  intro a1 M e
  exact (sy_fr_bv (sy_fr_up e (jzoX11_checkLodger _ _) (sy_subw_ix [0] rfl)) (fun _ e1 => (sy_fr_bv (sy_fr_up e1 (jzoX8_learn _ _) (sy_subw_ix [1, 2] rfl)) (fun _ e2 => (sy_fr_bi (sy_fr_up e2 (jzoX11_everybody  _) (sy_subw_ix [] rfl)) (fun _ _ e3 => (sy_fr_bi (sy_fr_up e3 (jzoX11_mostNeeds _ _) (sy_subw_ix [] rfl)) (fun _ _ e4 => (sy_fr_bi (sy_fr_up e4 (jzoX11_everybody  _) (sy_subw_ix [] rfl)) (fun _ _ e5 => (sy_fr_bi (sy_fr_up e5 (jzoX11_mostNeeds _ _) (sy_subw_ix [] rfl)) (fun _ _ e6 => (sy_fr_bi (sy_fr_up e6 (jzoX11_hundredths _ _ _) (sy_subw_ix [] rfl)) (fun _ _ e7 => sy_fr_end e7))))))))))))))
theorem jzoX11_stand (a1 : Int32) (M : sy_M) : sy_fr (jW_X11_stand) M (jfX11_stand a1 M) := jzX11_stand a1 M sy_eqw_refl
def jW_L_stand : List (Nat × Option Nat) := [(132, none), (133, some 0), (50, none), (51, none)]
theorem jzL_stand {M0 : sy_M} : ∀ (a1 : Int32) (M : sy_M), sy_eqw (jW_L_stand) M0 M → sy_fr (jW_L_stand) M0 (jfL_stand a1 M) := by
  intro a1 M e
  exact (sy_fr_hi (sy_fr_up e (jzoX11_stand _ _) (sy_subw_ix [1, 2, 3] rfl)) (fun _ _ e1 => sy_fr_end (sy_eqw_wl e1 0 rfl)) (fun _ _ e1 => (sy_fr_ite (sy_fr_end e1) sy_fr_none)))
theorem jzoL_stand (a1 : Int32) (M : sy_M) : sy_fr (jW_L_stand) M (jfL_stand a1 M) := jzL_stand a1 M sy_eqw_refl
def jW_X12_stand : List (Nat × Option Nat) := [(121, some 0)]
theorem jzX12_stand_14 {M0 : sy_M} : ∀ (a1 : Int32) (s0 : Int32) (M : sy_M), sy_eqw (jW_X12_stand) M0 M → sy_fr (jW_X12_stand) M0 (jfX12_stand_14 a1 s0 M) := by
  intro a1 s0 M e
  exact (sy_fr_ite (sy_fr_end (sy_eqw_uf e 0 rfl)) ((sy_fr_bi (sy_fr_up (sy_eqw_uf e 0 rfl) (jzoX12_all  _) (sy_subw_ix [] rfl)) (fun _ _ e1 => (sy_fr_bi (sy_fr_up e1 (jzoX12_topsOf _ _) (sy_subw_ix [] rfl)) (fun _ _ e2 => (sy_fr_bi (sy_fr_up e2 (jzoX12_all  _) (sy_subw_ix [] rfl)) (fun _ _ e3 => (sy_fr_bi (sy_fr_up e3 (jzoX12_topsOf _ _) (sy_subw_ix [] rfl)) (fun _ _ e4 => (sy_fr_bi (sy_fr_up e4 (jzoX12_all  _) (sy_subw_ix [] rfl)) (fun _ _ e5 => (sy_fr_bi (sy_fr_up e5 (jzoX12_topsOf _ _) (sy_subw_ix [] rfl)) (fun _ _ e6 => (sy_fr_ite sy_fr_none (sy_fr_end e6))))))))))))))))
theorem jzX12_stand {M0 : sy_M} : ∀ (a1 : Int32) (M : sy_M), sy_eqw (jW_X12_stand) M0 M → sy_fr (jW_X12_stand) M0 (jfX12_stand a1 M) := by
  intro a1 M e
  exact (sy_fr_bi (sy_fr_up e (jzoX12_isLodger _ _) (sy_subw_ix [] rfl)) (fun _ _ e1 => (sy_fr_ite (jzX12_stand_14  _ _ _ e1) (jzX12_stand_14  _ _ _ e1))))
theorem jzoX12_stand (a1 : Int32) (M : sy_M) : sy_fr (jW_X12_stand) M (jfX12_stand a1 M) := jzX12_stand a1 M sy_eqw_refl
def jW_X11_earned : List (Nat × Option Nat) := [(19, some 3), (19, some 4), (19, some 5), (19, some 6), (19, some 7), (19, some 8), (19, some 9), (19, some 10), (19, some 11), (19, some 12), (19, some 13), (20, none), (21, none), (22, some 2), (22, some 3), (23, none), (52, none)]
theorem jzX11_earned {M0 : sy_M} : ∀ (a1 : Int32) (M : sy_M), sy_eqw (jW_X11_earned) M0 M → sy_fr (jW_X11_earned) M0 (jfX11_earned a1 M) := by
  intro a1 M e
  exact (sy_fr_bv (sy_fr_up e (jzoX2_takeOver _ _ _) (sy_subw_ix [0, 1, 2, 3, 4, 5, 6, 7, 8, 9, 10, 11, 12, 13, 14, 15] rfl)) (fun _ e1 => (sy_fr_bi (sy_fr_up (sy_eqw_uf e1 5 rfl) (jzoX11_run _ _ _) (sy_subw_ix [2, 3, 4, 6, 8, 9, 10, 11, 13, 14, 15, 16] rfl)) (fun _ _ e2 => sy_fr_end e2))))
theorem jzoX11_earned (a1 : Int32) (M : sy_M) : sy_fr (jW_X11_earned) M (jfX11_earned a1 M) := jzX11_earned a1 M sy_eqw_refl
def jW_X11_dear : List (Nat × Option Nat) := [(19, some 3), (19, some 4), (19, some 5), (19, some 6), (19, some 7), (19, some 8), (19, some 9), (19, some 10), (19, some 11), (19, some 12), (19, some 13), (20, none), (21, none), (22, some 2), (22, some 3), (23, none), (50, none), (51, none), (52, none)]
theorem jzX11_dear_72 {M0 : sy_M} {k18 : Int32 → Int32 → Int32 → Int32 → sy_M → sy_O} (z18 : ∀ (a1 : Int32) (a2 : Int32) (a3 : Int32) (a4 : Int32) (M : sy_M), sy_eqw (jW_X11_dear) M0 M → sy_fr (jW_X11_dear) M0 (k18 a1 a2 a3 a4 M)) : ∀ (a1 : Int32) (a2 : Int32) (a3 : Int32) (a4 : Int32) (M : sy_M), sy_eqw (jW_X11_dear) M0 M → sy_fr (jW_X11_dear) M0 (jfX11_dear_72 k18 a1 a2 a3 a4 M) := by
  intro a1 a2 a3 a4 M e
  exact z18 _ _ _ _ _ e
theorem jzX11_dear_66 {M0 : sy_M} {k18 : Int32 → Int32 → Int32 → Int32 → sy_M → sy_O} (z18 : ∀ (a1 : Int32) (a2 : Int32) (a3 : Int32) (a4 : Int32) (M : sy_M), sy_eqw (jW_X11_dear) M0 M → sy_fr (jW_X11_dear) M0 (k18 a1 a2 a3 a4 M)) : ∀ (a1 : Int32) (a4 : Int32) (a6 : Int32) (M : sy_M), sy_eqw (jW_X11_dear) M0 M → sy_fr (jW_X11_dear) M0 (jfX11_dear_66 k18 a1 a4 a6 M) := by
  intro a1 a4 a6 M e
  exact jzX11_dear_72 z18 _ _ _ _ _ e
theorem jzX11_dear_52 {M0 : sy_M} {k18 : Int32 → Int32 → Int32 → Int32 → sy_M → sy_O} (z18 : ∀ (a1 : Int32) (a2 : Int32) (a3 : Int32) (a4 : Int32) (M : sy_M), sy_eqw (jW_X11_dear) M0 M → sy_fr (jW_X11_dear) M0 (k18 a1 a2 a3 a4 M)) : ∀ (a1 : Int32) (a2 : Int32) (a3 : Int32) (a4 : Int32) (s0 : Int32) (M : sy_M), sy_eqw (jW_X11_dear) M0 M → sy_fr (jW_X11_dear) M0 (jfX11_dear_52 k18 a1 a2 a3 a4 s0 M) := by
  intro a1 a2 a3 a4 s0 M e
  exact (sy_fr_ite (jzX11_dear_66 z18 _ _ _ _ e) ((sy_fr_ite (jzX11_dear_66 z18 _ _ _ _ e) (jzX11_dear_72 z18 _ _ _ _ _ e))))
theorem jzX11_dear_18 {M0 : sy_M} : ∀ n : Nat, ∀ (a1 : Int32) (a2 : Int32) (a3 : Int32) (a4 : Int32) (M : sy_M), sy_eqw (jW_X11_dear) M0 M → sy_fr (jW_X11_dear) M0 (jfX11_dear_18 n a1 a2 a3 a4 M) := by
  intro n
  induction n with
  | zero => intro a1 a2 a3 a4 M e; exact sy_fr_none
  | succ n z18 => intro a1 a2 a3 a4 M e; exact (sy_fr_ite (sy_fr_end e) ((sy_fr_bi (sy_fr_up e (jzoX11_earned _ _) (sy_subw_ix [0, 1, 2, 3, 4, 5, 6, 7, 8, 9, 10, 11, 12, 13, 14, 15, 18] rfl)) (fun _ _ e1 => (sy_fr_ite (jzX11_dear_52 z18 _ _ _ _ _ _ e1) ((sy_fr_bi (sy_fr_up e1 (jzoX2_sum _ _ _) (sy_subw_ix [] rfl)) (fun _ _ e2 => jzX11_dear_52 z18 _ _ _ _ _ _ e2))))))))
theorem jzX11_dear {M0 : sy_M} : ∀ (a1 : Int32) (M : sy_M), sy_eqw (jW_X11_dear) M0 M → sy_fr (jW_X11_dear) M0 (jfX11_dear a1 M) := by
  intro a1 M e
  exact (sy_fr_bv (sy_fr_up e (jzoX8_learn _ _) (sy_subw_ix [16, 17] rfl)) (fun _ e1 => jzX11_dear_18  6000 _ _ _ _ _ e1))
theorem jzoX11_dear (a1 : Int32) (M : sy_M) : sy_fr (jW_X11_dear) M (jfX11_dear a1 M) := jzX11_dear a1 M sy_eqw_refl
def jW_X12_coldOfAll : List (Nat × Option Nat) := []
theorem jzX12_coldOfAll_4 {M0 : sy_M} : ∀ n : Nat, ∀ (a1 : Int32) (a2 : Int32) (M : sy_M), sy_eqw (jW_X12_coldOfAll) M0 M → sy_fr (jW_X12_coldOfAll) M0 (jfX12_coldOfAll_4 n a1 a2 M) := by
  intro n
  induction n with
  | zero => intro a1 a2 M e; exact sy_fr_none
  | succ n z4 => intro a1 a2 M e; exact (sy_fr_ite ((sy_fr_bi (sy_fr_up e (jzoX12_of _ _ _) (sy_subw_ix [] rfl)) (fun _ _ e1 => z4 _ _ _ e1))) (sy_fr_end e))
theorem jzX12_coldOfAll {M0 : sy_M} : ∀ (M : sy_M), sy_eqw (jW_X12_coldOfAll) M0 M → sy_fr (jW_X12_coldOfAll) M0 (jfX12_coldOfAll M) := by
  intro  M e
  exact jzX12_coldOfAll_4  6000 _ _ _ e
theorem jzoX12_coldOfAll (M : sy_M) : sy_fr (jW_X12_coldOfAll) M (jfX12_coldOfAll M) := jzX12_coldOfAll  M sy_eqw_refl
def jW_X12_byPrice : List (Nat × Option Nat) := [(121, some 9), (121, some 10), (121, some 11), (121, some 12), (121, some 13), (121, some 15), (121, some 16), (121, some 17), (121, some 18), (121, some 20), (121, some 21), (122, none), (124, none), (127, none)]
theorem jzX12_byPrice_35 {M0 : sy_M} : ∀ (s0 : Int32) (M : sy_M), sy_eqw (jW_X12_byPrice) M0 M → sy_fr (jW_X12_byPrice) M0 (jfX12_byPrice_35 s0 M) := by
  intro s0 M e
  exact (sy_fr_bv (sy_fr_up e (jzoX12_comesBack  _) (sy_subw_ix [11] rfl)) (fun _ e1 => sy_fr_end e1))
theorem jzX12_byPrice {M0 : sy_M} : ∀ (a1 : Int32) (a2 : Int32) (M : sy_M), sy_eqw (jW_X12_byPrice) M0 M → sy_fr (jW_X12_byPrice) M0 (jfX12_byPrice a1 a2 M) := by
  intro a1 a2 M e
  exact (sy_fr_bv (sy_fr_up e (jzoX12_putsAside  _) (sy_subw_ix [12] rfl)) (fun _ e1 => (sy_fr_bi (sy_fr_up (sy_eqw_ua e1 11 rfl) (jzoX12_goes _ _ _) (sy_subw_ix [0, 1, 2, 3, 4, 5, 6, 7, 8, 9, 10, 11, 13] rfl)) (fun _ _ e2 => (sy_fr_ite (jzX12_byPrice_35  _ _ e2) ((sy_fr_bi (sy_fr_up e2 (jzoX12_coldOfAll  _) (sy_subw_ix [] rfl)) (fun _ _ e3 => jzX12_byPrice_35  _ _ e3))))))))
theorem jzoX12_byPrice (a1 : Int32) (a2 : Int32) (M : sy_M) : sy_fr (jW_X12_byPrice) M (jfX12_byPrice a1 a2 M) := jzX12_byPrice a1 a2 M sy_eqw_refl
def jW_X12_dear : List (Nat × Option Nat) := [(121, some 0), (121, some 9), (121, some 10), (121, some 11), (121, some 12), (121, some 13), (121, some 15), (121, some 16), (121, some 17), (121, some 18), (121, some 20), (121, some 21), (122, none), (124, none), (127, none)]
theorem jzX12_dear_60 {M0 : sy_M} {k12 : Int32 → Int32 → Int32 → Int32 → sy_M → sy_O} (z12 : ∀ (a1 : Int32) (a2 : Int32) (a3 : Int32) (a4 : Int32) (M : sy_M), sy_eqw (jW_X12_dear) M0 M → sy_fr (jW_X12_dear) M0 (k12 a1 a2 a3 a4 M)) : ∀ (a1 : Int32) (a2 : Int32) (a3 : Int32) (a4 : Int32) (M : sy_M), sy_eqw (jW_X12_dear) M0 M → sy_fr (jW_X12_dear) M0 (jfX12_dear_60 k12 a1 a2 a3 a4 M) := by
  intro a1 a2 a3 a4 M e
  exact z12 _ _ _ _ _ e
theorem jzX12_dear_54 {M0 : sy_M} {k12 : Int32 → Int32 → Int32 → Int32 → sy_M → sy_O} (z12 : ∀ (a1 : Int32) (a2 : Int32) (a3 : Int32) (a4 : Int32) (M : sy_M), sy_eqw (jW_X12_dear) M0 M → sy_fr (jW_X12_dear) M0 (k12 a1 a2 a3 a4 M)) : ∀ (a1 : Int32) (a4 : Int32) (a5 : Int32) (M : sy_M), sy_eqw (jW_X12_dear) M0 M → sy_fr (jW_X12_dear) M0 (jfX12_dear_54 k12 a1 a4 a5 M) := by
  intro a1 a4 a5 M e
  exact jzX12_dear_60 z12 _ _ _ _ _ e
theorem jzX12_dear_12 {M0 : sy_M} : ∀ n : Nat, ∀ (a1 : Int32) (a2 : Int32) (a3 : Int32) (a4 : Int32) (M : sy_M), sy_eqw (jW_X12_dear) M0 M → sy_fr (jW_X12_dear) M0 (jfX12_dear_12 n a1 a2 a3 a4 M) := by
  intro n
  induction n with
  | zero => intro a1 a2 a3 a4 M e; exact sy_fr_none
  | succ n z12 => intro a1 a2 a3 a4 M e; exact (sy_fr_ite (sy_fr_end e) ((sy_fr_bi (sy_fr_up e (jzoX12_byPrice _ _ _) (sy_subw_ix [1, 2, 3, 4, 5, 6, 7, 8, 9, 10, 11, 12, 13, 14] rfl)) (fun _ _ e1 => (sy_fr_ite ((sy_fr_ite ((sy_fr_ite (jzX12_dear_54 z12 _ _ _ _ e1) (jzX12_dear_60 z12 _ _ _ _ _ e1))) ((sy_fr_ite (jzX12_dear_54 z12 _ _ _ _ e1) (jzX12_dear_60 z12 _ _ _ _ _ e1))))) (jzX12_dear_54 z12 _ _ _ _ e1))))))
theorem jzX12_dear {M0 : sy_M} : ∀ (a1 : Int32) (M : sy_M), sy_eqw (jW_X12_dear) M0 M → sy_fr (jW_X12_dear) M0 (jfX12_dear a1 M) := by
  intro a1 M e
  exact jzX12_dear_12  6000 _ _ _ _ _ (sy_eqw_uf e 0 rfl)
theorem jzoX12_dear (a1 : Int32) (M : sy_M) : sy_fr (jW_X12_dear) M (jfX12_dear a1 M) := jzX12_dear a1 M sy_eqw_refl
def jW_X11_earns : List (Nat × Option Nat) := [(133, some 0), (19, some 3), (19, some 4), (19, some 5), (19, some 6), (19, some 7), (19, some 8), (19, some 9), (19, some 10), (19, some 11), (19, some 12), (19, some 13), (20, none), (21, none), (22, some 2), (22, some 3), (23, none), (50, none), (51, none), (52, none)]
theorem jzX11_earns {M0 : sy_M} : ∀ (a1 : Int32) (M : sy_M), sy_eqw (jW_X11_earns) M0 M → sy_fr (jW_X11_earns) M0 (jfX11_earns a1 M) := by
  intro a1 M e
  exact (sy_fr_bv (sy_fr_up e (jzoX11_checkRange _ _ _ _) (sy_subw_ix [0] rfl)) (fun _ e1 => (sy_fr_bv (sy_fr_up e1 (jzoX8_learn _ _) (sy_subw_ix [17, 18] rfl)) (fun _ e2 => (sy_fr_bi (sy_fr_up e2 (jzoX11_earned _ _) (sy_subw_ix [1, 2, 3, 4, 5, 6, 7, 8, 9, 10, 11, 12, 13, 14, 15, 16, 19] rfl)) (fun _ _ e3 => sy_fr_end e3))))))
theorem jzoX11_earns (a1 : Int32) (M : sy_M) : sy_fr (jW_X11_earns) M (jfX11_earns a1 M) := jzX11_earns a1 M sy_eqw_refl
def jW_L_earns : List (Nat × Option Nat) := [(132, none), (133, some 0), (19, some 3), (19, some 4), (19, some 5), (19, some 6), (19, some 7), (19, some 8), (19, some 9), (19, some 10), (19, some 11), (19, some 12), (19, some 13), (20, none), (21, none), (22, some 2), (22, some 3), (23, none), (50, none), (51, none), (52, none)]
theorem jzL_earns {M0 : sy_M} : ∀ (a1 : Int32) (M : sy_M), sy_eqw (jW_L_earns) M0 M → sy_fr (jW_L_earns) M0 (jfL_earns a1 M) := by
  intro a1 M e
  exact (sy_fr_hi (sy_fr_up e (jzoX11_earns _ _) (sy_subw_ix [1, 2, 3, 4, 5, 6, 7, 8, 9, 10, 11, 12, 13, 14, 15, 16, 17, 18, 19, 20] rfl)) (fun _ _ e1 => sy_fr_end (sy_eqw_wl e1 0 rfl)) (fun _ _ e1 => (sy_fr_ite (sy_fr_end e1) sy_fr_none)))
theorem jzoL_earns (a1 : Int32) (M : sy_M) : sy_fr (jW_L_earns) M (jfL_earns a1 M) := jzL_earns a1 M sy_eqw_refl
def jW_X12_earns : List (Nat × Option Nat) := [(121, some 0), (121, some 9), (121, some 10), (121, some 11), (121, some 12), (121, some 13), (121, some 15), (121, some 16), (121, some 17), (121, some 18), (121, some 20), (121, some 21), (122, none), (124, none), (127, none)]
theorem jzX12_earns_16 {M0 : sy_M} : ∀ (a1 : Int32) (s0 : Int32) (M : sy_M), sy_eqw (jW_X12_earns) M0 M → sy_fr (jW_X12_earns) M0 (jfX12_earns_16 a1 s0 M) := by
  intro a1 s0 M e
  exact (sy_fr_ite (sy_fr_end (sy_eqw_uf e 0 rfl)) ((sy_fr_bi (sy_fr_up (sy_eqw_uf e 0 rfl) (jzoX12_byPrice _ _ _) (sy_subw_ix [1, 2, 3, 4, 5, 6, 7, 8, 9, 10, 11, 12, 13, 14] rfl)) (fun _ _ e1 => sy_fr_end e1))))
theorem jzX12_earns {M0 : sy_M} : ∀ (a1 : Int32) (M : sy_M), sy_eqw (jW_X12_earns) M0 M → sy_fr (jW_X12_earns) M0 (jfX12_earns a1 M) := by
  intro a1 M e
  exact (sy_fr_bi (sy_fr_up e (jzoX12_isIn _ _ _ _) (sy_subw_ix [] rfl)) (fun _ _ e1 => (sy_fr_ite (jzX12_earns_16  _ _ _ e1) (jzX12_earns_16  _ _ _ e1))))
theorem jzoX12_earns (a1 : Int32) (M : sy_M) : sy_fr (jW_X12_earns) M (jfX12_earns a1 M) := jzX12_earns a1 M sy_eqw_refl
def jW_X1_readRows : List (Nat × Option Nat) := [(1, some 4), (6, some 2), (7, none), (8, none)]
theorem jzX1_readRows_104 {M0 : sy_M} {k32 : Int32 → Int32 → Int32 → sy_M → sy_O} (z32 : ∀ (a2 : Int32) (a3 : Int32) (a4 : Int32) (M : sy_M), sy_eqw (jW_X1_readRows) M0 M → sy_fr (jW_X1_readRows) M0 (k32 a2 a3 a4 M)) : ∀ (a2 : Int32) (a3 : Int32) (a4 : Int32) (M : sy_M), sy_eqw (jW_X1_readRows) M0 M → sy_fr (jW_X1_readRows) M0 (jfX1_readRows_104 k32 a2 a3 a4 M) := by
  intro a2 a3 a4 M e
  exact z32 _ _ _ _ (sy_eqw_uf e 1 rfl)
theorem jzX1_readRows_32 {M0 : sy_M} : ∀ n : Nat, ∀ (a2 : Int32) (a3 : Int32) (a4 : Int32) (M : sy_M), sy_eqw (jW_X1_readRows) M0 M → sy_fr (jW_X1_readRows) M0 (jfX1_readRows_32 n a2 a3 a4 M) := by
  intro n
  induction n with
  | zero => intro a2 a3 a4 M e; exact sy_fr_none
  | succ n z32 => intro a2 a3 a4 M e; exact (sy_fr_ite ((sy_fr_ite ((sy_fr_bi (sy_fr_up e (jzoX10_byteAt _ _) (sy_subw_ix [] rfl)) (fun _ _ e1 => (sy_fr_cond ((sy_fr_bi (sy_fr_up (sy_eqw_ua e1 2 rfl) (jzoX10_byteAt _ _) (sy_subw_ix [] rfl)) (fun _ _ e2 => (sy_fr_cond ((sy_fr_cond ((sy_fr_ite ((sy_fr_cond ((sy_fr_ite (sy_fr_end (sy_eqw_ua e2 3 rfl)) (jzX1_readRows_104 z32 _ _ _ _ (sy_eqw_ua e2 3 rfl)))))) (sy_fr_end (sy_eqw_ua e2 3 rfl)))))))))))))) (sy_fr_end e))) (sy_fr_end e))
theorem jzX1_readRows {M0 : sy_M} : ∀ (a2 : Int32) (M : sy_M), sy_eqw (jW_X1_readRows) M0 M → sy_fr (jW_X1_readRows) M0 (jfX1_readRows a2 M) := by
  intro a2 M e
  exact (sy_fr_ite ((sy_fr_ite (sy_fr_end (sy_eqw_uf (sy_eqw_uf e 0 rfl) 1 rfl)) (jzX1_readRows_32  6000 _ _ _ _ (sy_eqw_uf (sy_eqw_uf e 0 rfl) 1 rfl)))) (sy_fr_end (sy_eqw_uf (sy_eqw_uf e 0 rfl) 1 rfl)))
theorem jzoX1_readRows (a2 : Int32) (M : sy_M) : sy_fr (jW_X1_readRows) M (jfX1_readRows a2 M) := jzX1_readRows a2 M sy_eqw_refl
def jW_X11_readClues : List (Nat × Option Nat) := [(1, some 4), (133, some 0), (6, some 2), (7, none), (8, none)]
theorem jzX11_readClues {M0 : sy_M} : ∀ (a1 : Int32) (M : sy_M), sy_eqw (jW_X11_readClues) M0 M → sy_fr (jW_X11_readClues) M0 (jfX11_readClues a1 M) := by
  intro a1 M e
  exact (sy_fr_bi (sy_fr_up e (jzoX1_readRows _ _) (sy_subw_ix [0, 2, 3, 4] rfl)) (fun _ _ e1 => (sy_fr_ite ((sy_fr_cond (sy_fr_end (sy_eqw_uf e1 1 rfl)))) (sy_fr_end e1))))
theorem jzoX11_readClues (a1 : Int32) (M : sy_M) : sy_fr (jW_X11_readClues) M (jfX11_readClues a1 M) := jzX11_readClues a1 M sy_eqw_refl
def jW_X1_isPossible : List (Nat × Option Nat) := []
theorem jzX1_isPossible_46 {M0 : sy_M} {k2 : Int32 → Int32 → sy_M → sy_O} (z2 : ∀ (a1 : Int32) (a2 : Int32) (M : sy_M), sy_eqw (jW_X1_isPossible) M0 M → sy_fr (jW_X1_isPossible) M0 (k2 a1 a2 M)) : ∀ (a1 : Int32) (a2 : Int32) (s0 : Int32) (s1 : Int32) (M : sy_M), sy_eqw (jW_X1_isPossible) M0 M → sy_fr (jW_X1_isPossible) M0 (jfX1_isPossible_46 k2 a1 a2 s0 s1 M) := by
  intro a1 a2 s0 s1 M e
  exact (sy_fr_ite (z2 _ _ _ e) (sy_fr_end e))
theorem jzX1_isPossible_31 {M0 : sy_M} {k2 : Int32 → Int32 → sy_M → sy_O} (z2 : ∀ (a1 : Int32) (a2 : Int32) (M : sy_M), sy_eqw (jW_X1_isPossible) M0 M → sy_fr (jW_X1_isPossible) M0 (k2 a1 a2 M)) : ∀ (a1 : Int32) (a2 : Int32) (s0 : Int32) (M : sy_M), sy_eqw (jW_X1_isPossible) M0 M → sy_fr (jW_X1_isPossible) M0 (jfX1_isPossible_31 k2 a1 a2 s0 M) := by
  intro a1 a2 s0 M e
  exact (sy_fr_cond ((sy_fr_ite (jzX1_isPossible_46 z2 _ _ _ _ _ e) (jzX1_isPossible_46 z2 _ _ _ _ _ e))))
theorem jzX1_isPossible_2 {M0 : sy_M} : ∀ n : Nat, ∀ (a1 : Int32) (a2 : Int32) (M : sy_M), sy_eqw (jW_X1_isPossible) M0 M → sy_fr (jW_X1_isPossible) M0 (jfX1_isPossible_2 n a1 a2 M) := by
  intro n
  induction n with
  | zero => intro a1 a2 M e; exact sy_fr_none
  | succ n z2 => intro a1 a2 M e; exact (sy_fr_ite ((sy_fr_ite ((sy_fr_cond ((sy_fr_ite (jzX1_isPossible_31 z2 _ _ _ _ e) (jzX1_isPossible_31 z2 _ _ _ _ e))))) (sy_fr_end e))) (sy_fr_end e))
theorem jzX1_isPossible {M0 : sy_M} : ∀ (a1 : Int32) (M : sy_M), sy_eqw (jW_X1_isPossible) M0 M → sy_fr (jW_X1_isPossible) M0 (jfX1_isPossible a1 M) := by
  intro a1 M e
  exact jzX1_isPossible_2  6000 _ _ _ e
theorem jzoX1_isPossible (a1 : Int32) (M : sy_M) : sy_fr (jW_X1_isPossible) M (jfX1_isPossible a1 M) := jzX1_isPossible a1 M sy_eqw_refl
def jW_J6_bitCount_0f7a4 : List (Nat × Option Nat) := []
theorem jzJ6_bitCount_0f7a4 {M0 : sy_M} : ∀ (a0 : Int32) (M : sy_M), sy_eqw (jW_J6_bitCount_0f7a4) M0 M → sy_fr (jW_J6_bitCount_0f7a4) M0 (jfJ6_bitCount_0f7a4 a0 M) := by
  intro a0 M e
  exact sy_fr_end e
theorem jzoJ6_bitCount_0f7a4 (a0 : Int32) (M : sy_M) : sy_fr (jW_J6_bitCount_0f7a4) M (jfJ6_bitCount_0f7a4 a0 M) := jzJ6_bitCount_0f7a4 a0 M sy_eqw_refl
def jW_X11_culprit : List (Nat × Option Nat) := [(1, some 4), (133, some 0), (50, none), (51, none), (6, some 2), (7, none), (8, none)]
theorem jzX11_culprit_69 {M0 : sy_M} {k23 : Int32 → Int32 → Int32 → Int32 → sy_M → sy_O} (z23 : ∀ (a1 : Int32) (a2 : Int32) (a3 : Int32) (a4 : Int32) (M : sy_M), sy_eqw (jW_X11_culprit) M0 M → sy_fr (jW_X11_culprit) M0 (k23 a1 a2 a3 a4 M)) : ∀ (a1 : Int32) (a2 : Int32) (a3 : Int32) (a4 : Int32) (M : sy_M), sy_eqw (jW_X11_culprit) M0 M → sy_fr (jW_X11_culprit) M0 (jfX11_culprit_69 k23 a1 a2 a3 a4 M) := by
  intro a1 a2 a3 a4 M e
  exact z23 _ _ _ _ _ e
theorem jzX11_culprit_23 {M0 : sy_M} : ∀ n : Nat, ∀ (a1 : Int32) (a2 : Int32) (a3 : Int32) (a4 : Int32) (M : sy_M), sy_eqw (jW_X11_culprit) M0 M → sy_fr (jW_X11_culprit) M0 (jfX11_culprit_23 n a1 a2 a3 a4 M) := by
  intro n
  induction n with
  | zero => intro a1 a2 a3 a4 M e; exact sy_fr_none
  | succ n z23 => intro a1 a2 a3 a4 M e; exact (sy_fr_ite ((sy_fr_bi (sy_fr_up e (jzoX1_isPossible _ _) (sy_subw_ix [] rfl)) (fun _ _ e1 => (sy_fr_ite (jzX11_culprit_69 z23 _ _ _ _ _ e1) ((sy_fr_bi (sy_fr_up e1 (jzoX8_presentAt _ _) (sy_subw_ix [] rfl)) (fun _ _ e2 => (sy_fr_bi (sy_fr_up e2 (jzoJ6_bitCount_0f7a4 _ _) (sy_subw_ix [] rfl)) (fun _ _ e3 => (sy_fr_bi (sy_fr_up e3 (jzoX8_presentAt _ _) (sy_subw_ix [] rfl)) (fun _ _ e4 => jzX11_culprit_69 z23 _ _ _ _ _ e4))))))))))) ((sy_fr_ite (sy_fr_end e) (sy_fr_end e))))
theorem jzX11_culprit {M0 : sy_M} : ∀ (a1 : Int32) (M : sy_M), sy_eqw (jW_X11_culprit) M0 M → sy_fr (jW_X11_culprit) M0 (jfX11_culprit a1 M) := by
  intro a1 M e
  exact (sy_fr_bv (sy_fr_up e (jzoX11_readClues _ _) (sy_subw_ix [0, 1, 4, 5, 6] rfl)) (fun _ e1 => (sy_fr_bv (sy_fr_up e1 (jzoX8_learn _ _) (sy_subw_ix [2, 3] rfl)) (fun _ e2 => jzX11_culprit_23  6000 _ _ _ _ _ e2))))
theorem jzoX11_culprit (a1 : Int32) (M : sy_M) : sy_fr (jW_X11_culprit) M (jfX11_culprit a1 M) := jzX11_culprit a1 M sy_eqw_refl
def jW_L_culprit : List (Nat × Option Nat) := [(1, some 4), (132, none), (133, some 0), (50, none), (51, none), (6, some 2), (7, none), (8, none)]
theorem jzL_culprit {M0 : sy_M} : ∀ (a1 : Int32) (M : sy_M), sy_eqw (jW_L_culprit) M0 M → sy_fr (jW_L_culprit) M0 (jfL_culprit a1 M) := by
  intro a1 M e
  exact (sy_fr_hi (sy_fr_up e (jzoX11_culprit _ _) (sy_subw_ix [0, 2, 3, 4, 5, 6, 7] rfl)) (fun _ _ e1 => sy_fr_end (sy_eqw_wl e1 1 rfl)) (fun _ _ e1 => (sy_fr_ite (sy_fr_end e1) sy_fr_none)))
theorem jzoL_culprit (a1 : Int32) (M : sy_M) : sy_fr (jW_L_culprit) M (jfL_culprit a1 M) := jzL_culprit a1 M sy_eqw_refl
def jW_X12_areRows : List (Nat × Option Nat) := []
theorem jzX12_areRows_59 {M0 : sy_M} {k21 : Int32 → Int32 → Int32 → Int32 → sy_M → sy_O} (z21 : ∀ (a1 : Int32) (a2 : Int32) (a3 : Int32) (a4 : Int32) (M : sy_M), sy_eqw (jW_X12_areRows) M0 M → sy_fr (jW_X12_areRows) M0 (k21 a1 a2 a3 a4 M)) : ∀ (a1 : Int32) (a2 : Int32) (a4 : Int32) (s0 : Int32) (M : sy_M), sy_eqw (jW_X12_areRows) M0 M → sy_fr (jW_X12_areRows) M0 (jfX12_areRows_59 k21 a1 a2 a4 s0 M) := by
  intro a1 a2 a4 s0 M e
  exact z21 _ _ _ _ _ e
theorem jzX12_areRows_51 {M0 : sy_M} {k21 : Int32 → Int32 → Int32 → Int32 → sy_M → sy_O} (z21 : ∀ (a1 : Int32) (a2 : Int32) (a3 : Int32) (a4 : Int32) (M : sy_M), sy_eqw (jW_X12_areRows) M0 M → sy_fr (jW_X12_areRows) M0 (k21 a1 a2 a3 a4 M)) : ∀ (a1 : Int32) (a2 : Int32) (a4 : Int32) (s0 : Int32) (s1 : Int32) (M : sy_M), sy_eqw (jW_X12_areRows) M0 M → sy_fr (jW_X12_areRows) M0 (jfX12_areRows_51 k21 a1 a2 a4 s0 s1 M) := by
  intro a1 a2 a4 s0 s1 M e
  exact (sy_fr_ite (jzX12_areRows_59 z21 _ _ _ _ _ e) (jzX12_areRows_59 z21 _ _ _ _ _ e))
theorem jzX12_areRows_21 {M0 : sy_M} : ∀ n : Nat, ∀ (a1 : Int32) (a2 : Int32) (a3 : Int32) (a4 : Int32) (M : sy_M), sy_eqw (jW_X12_areRows) M0 M → sy_fr (jW_X12_areRows) M0 (jfX12_areRows_21 n a1 a2 a3 a4 M) := by
  intro n
  induction n with
  | zero => intro a1 a2 a3 a4 M e; exact sy_fr_none
  | succ n z21 => intro a1 a2 a3 a4 M e; exact (sy_fr_ite ((sy_fr_ite ((sy_fr_cond (sy_fr_end e))) ((sy_fr_cond ((sy_fr_ite (jzX12_areRows_51 z21 _ _ _ _ _ _ e) (jzX12_areRows_51 z21 _ _ _ _ _ _ e))))))) ((sy_fr_cond (sy_fr_end e))))
theorem jzX12_areRows_17 {M0 : sy_M} : ∀ (a1 : Int32) (a2 : Int32) (s0 : Int32) (M : sy_M), sy_eqw (jW_X12_areRows) M0 M → sy_fr (jW_X12_areRows) M0 (jfX12_areRows_17 a1 a2 s0 M) := by
  intro a1 a2 s0 M e
  exact jzX12_areRows_21  6000 _ _ _ _ _ e
theorem jzX12_areRows_16 {M0 : sy_M} : ∀ (a1 : Int32) (a2 : Int32) (M : sy_M), sy_eqw (jW_X12_areRows) M0 M → sy_fr (jW_X12_areRows) M0 (jfX12_areRows_16 a1 a2 M) := by
  intro a1 a2 M e
  exact jzX12_areRows_17  _ _ _ _ e
theorem jzX12_areRows {M0 : sy_M} : ∀ (a1 : Int32) (a2 : Int32) (M : sy_M), sy_eqw (jW_X12_areRows) M0 M → sy_fr (jW_X12_areRows) M0 (jfX12_areRows a1 a2 M) := by
  intro a1 a2 M e
  exact (sy_fr_ite ((sy_fr_ite (jzX12_areRows_16  _ _ _ e) (jzX12_areRows_17  _ _ _ _ e))) (jzX12_areRows_16  _ _ _ e))
theorem jzoX12_areRows (a1 : Int32) (a2 : Int32) (M : sy_M) : sy_fr (jW_X12_areRows) M (jfX12_areRows a1 a2 M) := jzX12_areRows a1 a2 M sy_eqw_refl
def jW_X12_heard : List (Nat × Option Nat) := [(121, some 8), (131, none)]
theorem jzX12_heard_146 {M0 : sy_M} {k25 : Int32 → Int32 → Int32 → sy_M → sy_O} (z25 : ∀ (a1 : Int32) (a2 : Int32) (a3 : Int32) (M : sy_M), sy_eqw (jW_X12_heard) M0 M → sy_fr (jW_X12_heard) M0 (k25 a1 a2 a3 M)) : ∀ (a1 : Int32) (a3 : Int32) (s0 : Int32) (s1 : Int32) (M : sy_M), sy_eqw (jW_X12_heard) M0 M → sy_fr (jW_X12_heard) M0 (jfX12_heard_146 k25 a1 a3 s0 s1 M) := by
  intro a1 a3 s0 s1 M e
  exact z25 _ _ _ _ e
theorem jzX12_heard_131 {M0 : sy_M} {k25 : Int32 → Int32 → Int32 → sy_M → sy_O} (z25 : ∀ (a1 : Int32) (a2 : Int32) (a3 : Int32) (M : sy_M), sy_eqw (jW_X12_heard) M0 M → sy_fr (jW_X12_heard) M0 (k25 a1 a2 a3 M)) : ∀ (a1 : Int32) (a2 : Int32) (a3 : Int32) (M : sy_M), sy_eqw (jW_X12_heard) M0 M → sy_fr (jW_X12_heard) M0 (jfX12_heard_131 k25 a1 a2 a3 M) := by
  intro a1 a2 a3 M e
  exact (sy_fr_cond ((sy_fr_ite (jzX12_heard_146 z25 _ _ _ _ _ e) (jzX12_heard_146 z25 _ _ _ _ _ e))))
theorem jzX12_heard_124 {M0 : sy_M} {k25 : Int32 → Int32 → Int32 → sy_M → sy_O} (z25 : ∀ (a1 : Int32) (a2 : Int32) (a3 : Int32) (M : sy_M), sy_eqw (jW_X12_heard) M0 M → sy_fr (jW_X12_heard) M0 (k25 a1 a2 a3 M)) {k59 : Int32 → Int32 → Int32 → Int32 → sy_M → sy_O} (z59 : ∀ (a1 : Int32) (a2 : Int32) (a3 : Int32) (a4 : Int32) (M : sy_M), sy_eqw (jW_X12_heard) M0 M → sy_fr (jW_X12_heard) M0 (k59 a1 a2 a3 a4 M)) : ∀ (a1 : Int32) (a2 : Int32) (a3 : Int32) (a4 : Int32) (s0 : Int32) (s1 : Int32) (M : sy_M), sy_eqw (jW_X12_heard) M0 M → sy_fr (jW_X12_heard) M0 (jfX12_heard_124 k25 k59 a1 a2 a3 a4 s0 s1 M) := by
  intro a1 a2 a3 a4 s0 s1 M e
  exact (sy_fr_cond ((sy_fr_cond (z59 _ _ _ _ _ (sy_eqw_ua e 1 rfl)))))
theorem jzX12_heard_116 {M0 : sy_M} {k25 : Int32 → Int32 → Int32 → sy_M → sy_O} (z25 : ∀ (a1 : Int32) (a2 : Int32) (a3 : Int32) (M : sy_M), sy_eqw (jW_X12_heard) M0 M → sy_fr (jW_X12_heard) M0 (k25 a1 a2 a3 M)) {k59 : Int32 → Int32 → Int32 → Int32 → sy_M → sy_O} (z59 : ∀ (a1 : Int32) (a2 : Int32) (a3 : Int32) (a4 : Int32) (M : sy_M), sy_eqw (jW_X12_heard) M0 M → sy_fr (jW_X12_heard) M0 (k59 a1 a2 a3 a4 M)) : ∀ (a1 : Int32) (a2 : Int32) (a3 : Int32) (a4 : Int32) (s0 : Int32) (s1 : Int32) (s2 : Int32) (M : sy_M), sy_eqw (jW_X12_heard) M0 M → sy_fr (jW_X12_heard) M0 (jfX12_heard_116 k25 k59 a1 a2 a3 a4 s0 s1 s2 M) := by
  intro a1 a2 a3 a4 s0 s1 s2 M e
  exact (sy_fr_ite (jzX12_heard_124 z25 z59 _ _ _ _ _ _ _ e) (jzX12_heard_124 z25 z59 _ _ _ _ _ _ _ e))
theorem jzX12_heard_98 {M0 : sy_M} {k25 : Int32 → Int32 → Int32 → sy_M → sy_O} (z25 : ∀ (a1 : Int32) (a2 : Int32) (a3 : Int32) (M : sy_M), sy_eqw (jW_X12_heard) M0 M → sy_fr (jW_X12_heard) M0 (k25 a1 a2 a3 M)) {k59 : Int32 → Int32 → Int32 → Int32 → sy_M → sy_O} (z59 : ∀ (a1 : Int32) (a2 : Int32) (a3 : Int32) (a4 : Int32) (M : sy_M), sy_eqw (jW_X12_heard) M0 M → sy_fr (jW_X12_heard) M0 (k59 a1 a2 a3 a4 M)) : ∀ (a1 : Int32) (a2 : Int32) (a3 : Int32) (a4 : Int32) (s0 : Int32) (s1 : Int32) (M : sy_M), sy_eqw (jW_X12_heard) M0 M → sy_fr (jW_X12_heard) M0 (jfX12_heard_98 k25 k59 a1 a2 a3 a4 s0 s1 M) := by
  intro a1 a2 a3 a4 s0 s1 M e
  exact (sy_fr_cond ((sy_fr_ite (jzX12_heard_116 z25 z59 _ _ _ _ _ _ _ _ e) (jzX12_heard_116 z25 z59 _ _ _ _ _ _ _ _ e))))
theorem jzX12_heard_59 {M0 : sy_M} {k25 : Int32 → Int32 → Int32 → sy_M → sy_O} (z25 : ∀ (a1 : Int32) (a2 : Int32) (a3 : Int32) (M : sy_M), sy_eqw (jW_X12_heard) M0 M → sy_fr (jW_X12_heard) M0 (k25 a1 a2 a3 M)) : ∀ n : Nat, ∀ (a1 : Int32) (a2 : Int32) (a3 : Int32) (a4 : Int32) (M : sy_M), sy_eqw (jW_X12_heard) M0 M → sy_fr (jW_X12_heard) M0 (jfX12_heard_59 k25 n a1 a2 a3 a4 M) := by
  intro n
  induction n with
  | zero => intro a1 a2 a3 a4 M e; exact sy_fr_none
  | succ n z59 => intro a1 a2 a3 a4 M e; exact (sy_fr_ite ((sy_fr_cond ((sy_fr_ite (jzX12_heard_131 z25 _ _ _ _ e) ((sy_fr_cond ((sy_fr_ite (jzX12_heard_98 z25 z59 _ _ _ _ _ _ _ e) (jzX12_heard_98 z25 z59 _ _ _ _ _ _ _ e))))))))) (jzX12_heard_131 z25 _ _ _ _ e))
theorem jzX12_heard_25 {M0 : sy_M} : ∀ n : Nat, ∀ (a1 : Int32) (a2 : Int32) (a3 : Int32) (M : sy_M), sy_eqw (jW_X12_heard) M0 M → sy_fr (jW_X12_heard) M0 (jfX12_heard_25 n a1 a2 a3 M) := by
  intro n
  induction n with
  | zero => intro a1 a2 a3 M e; exact sy_fr_none
  | succ n z25 => intro a1 a2 a3 M e; exact (sy_fr_ite ((sy_fr_bi (sy_fr_up e (jzoX12_atHome _ _ _) (sy_subw_ix [] rfl)) (fun _ _ e1 => (sy_fr_cond ((sy_fr_cond (jzX12_heard_59 z25 6000 _ _ _ _ _ (sy_eqw_ua e1 1 rfl)))))))) (sy_fr_end e))
theorem jzX12_heard {M0 : sy_M} : ∀ (M : sy_M), sy_eqw (jW_X12_heard) M0 M → sy_fr (jW_X12_heard) M0 (jfX12_heard M) := by
  intro  M e
  exact (sy_fr_bi (sy_fr_up (sy_eqw_uf e 0 rfl) (jzoX12_areRows _ _ _) (sy_subw_ix [] rfl)) (fun _ _ e1 => (sy_fr_ite (sy_fr_end e1) (jzX12_heard_25  6000 _ _ _ _ e1))))
theorem jzoX12_heard (M : sy_M) : sy_fr (jW_X12_heard) M (jfX12_heard M) := jzX12_heard  M sy_eqw_refl
def jW_X12_culprit : List (Nat × Option Nat) := [(121, some 0), (121, some 8), (131, none)]
theorem jzX12_culprit_30 {M0 : sy_M} : ∀ (a2 : Int32) (M : sy_M), sy_eqw (jW_X12_culprit) M0 M → sy_fr (jW_X12_culprit) M0 (jfX12_culprit_30 a2 M) := by
  intro a2 M e
  exact (sy_fr_ite (sy_fr_end e) (sy_fr_end e))
theorem jzX12_culprit_84 {M0 : sy_M} {k48 : Int32 → Int32 → sy_M → sy_O} (z48 : ∀ (a3 : Int32) (a4 : Int32) (M : sy_M), sy_eqw (jW_X12_culprit) M0 M → sy_fr (jW_X12_culprit) M0 (k48 a3 a4 M)) : ∀ (a4 : Int32) (s0 : Int32) (s1 : Int32) (M : sy_M), sy_eqw (jW_X12_culprit) M0 M → sy_fr (jW_X12_culprit) M0 (jfX12_culprit_84 k48 a4 s0 s1 M) := by
  intro a4 s0 s1 M e
  exact z48 _ _ _ e
theorem jzX12_culprit_48 {M0 : sy_M} : ∀ n : Nat, ∀ (a3 : Int32) (a4 : Int32) (M : sy_M), sy_eqw (jW_X12_culprit) M0 M → sy_fr (jW_X12_culprit) M0 (jfX12_culprit_48 n a3 a4 M) := by
  intro n
  induction n with
  | zero => intro a3 a4 M e; exact sy_fr_none
  | succ n z48 => intro a3 a4 M e; exact (sy_fr_ite ((sy_fr_cond ((sy_fr_ite (jzX12_culprit_84 z48 _ _ _ _ e) (jzX12_culprit_84 z48 _ _ _ _ e))))) (sy_fr_end e))
theorem jzX12_culprit_16 {M0 : sy_M} : ∀ (a1 : Int32) (a2 : Int32) (s0 : Int32) (M : sy_M), sy_eqw (jW_X12_culprit) M0 M → sy_fr (jW_X12_culprit) M0 (jfX12_culprit_16 a1 a2 s0 M) := by
  intro a1 a2 s0 M e
  exact (sy_fr_ite (jzX12_culprit_30  _ _ (sy_eqw_uf e 0 rfl)) ((sy_fr_ite (jzX12_culprit_30  _ _ (sy_eqw_uf e 0 rfl)) (jzX12_culprit_48  6000 _ _ _ (sy_eqw_uf e 0 rfl)))))
theorem jzX12_culprit {M0 : sy_M} : ∀ (a1 : Int32) (M : sy_M), sy_eqw (jW_X12_culprit) M0 M → sy_fr (jW_X12_culprit) M0 (jfX12_culprit a1 M) := by
  intro a1 M e
  exact (sy_fr_bi (sy_fr_up e (jzoX12_heard  _) (sy_subw_ix [1, 2] rfl)) (fun _ _ e1 => (sy_fr_ite (jzX12_culprit_16  _ _ _ _ e1) (jzX12_culprit_16  _ _ _ _ e1))))
theorem jzoX12_culprit (a1 : Int32) (M : sy_M) : sy_fr (jW_X12_culprit) M (jfX12_culprit a1 M) := jzX12_culprit a1 M sy_eqw_refl
def jW_X11_fitting : List (Nat × Option Nat) := []
theorem jzX11_fitting_34 {M0 : sy_M} {k4 : Int32 → Int32 → Int32 → sy_M → sy_O} (z4 : ∀ (a1 : Int32) (a2 : Int32) (a3 : Int32) (M : sy_M), sy_eqw (jW_X11_fitting) M0 M → sy_fr (jW_X11_fitting) M0 (k4 a1 a2 a3 M)) : ∀ (a1 : Int32) (a2 : Int32) (a3 : Int32) (M : sy_M), sy_eqw (jW_X11_fitting) M0 M → sy_fr (jW_X11_fitting) M0 (jfX11_fitting_34 k4 a1 a2 a3 M) := by
  intro a1 a2 a3 M e
  exact z4 _ _ _ _ e
theorem jzX11_fitting_4 {M0 : sy_M} : ∀ n : Nat, ∀ (a1 : Int32) (a2 : Int32) (a3 : Int32) (M : sy_M), sy_eqw (jW_X11_fitting) M0 M → sy_fr (jW_X11_fitting) M0 (jfX11_fitting_4 n a1 a2 a3 M) := by
  intro n
  induction n with
  | zero => intro a1 a2 a3 M e; exact sy_fr_none
  | succ n z4 => intro a1 a2 a3 M e; exact (sy_fr_ite (sy_fr_end e) ((sy_fr_bi (sy_fr_up e (jzoX1_isPossible _ _) (sy_subw_ix [] rfl)) (fun _ _ e1 => (sy_fr_ite (jzX11_fitting_34 z4 _ _ _ _ e1) ((sy_fr_bi (sy_fr_up e1 (jzoX8_presentAt _ _) (sy_subw_ix [] rfl)) (fun _ _ e2 => (sy_fr_bi (sy_fr_up e2 (jzoJ6_bitCount_0f7a4 _ _) (sy_subw_ix [] rfl)) (fun _ _ e3 => jzX11_fitting_34 z4 _ _ _ _ e3))))))))))
theorem jzX11_fitting {M0 : sy_M} : ∀ (a1 : Int32) (M : sy_M), sy_eqw (jW_X11_fitting) M0 M → sy_fr (jW_X11_fitting) M0 (jfX11_fitting a1 M) := by
  intro a1 M e
  exact jzX11_fitting_4  6000 _ _ _ _ e
theorem jzoX11_fitting (a1 : Int32) (M : sy_M) : sy_fr (jW_X11_fitting) M (jfX11_fitting a1 M) := jzX11_fitting a1 M sy_eqw_refl
def jW_X11_ask : List (Nat × Option Nat) := [(1, some 4), (133, some 0), (50, none), (51, none), (6, some 2), (7, none), (8, none)]
theorem jzX11_ask_77 {M0 : sy_M} {k39 : Int32 → Int32 → Int32 → Int32 → sy_M → sy_O} (z39 : ∀ (a1 : Int32) (a2 : Int32) (a3 : Int32) (a4 : Int32) (M : sy_M), sy_eqw (jW_X11_ask) M0 M → sy_fr (jW_X11_ask) M0 (k39 a1 a2 a3 a4 M)) : ∀ (a1 : Int32) (a2 : Int32) (a3 : Int32) (a4 : Int32) (M : sy_M), sy_eqw (jW_X11_ask) M0 M → sy_fr (jW_X11_ask) M0 (jfX11_ask_77 k39 a1 a2 a3 a4 M) := by
  intro a1 a2 a3 a4 M e
  exact z39 _ _ _ _ _ e
theorem jzX11_ask_39 {M0 : sy_M} : ∀ n : Nat, ∀ (a1 : Int32) (a2 : Int32) (a3 : Int32) (a4 : Int32) (M : sy_M), sy_eqw (jW_X11_ask) M0 M → sy_fr (jW_X11_ask) M0 (jfX11_ask_39 n a1 a2 a3 a4 M) := by
  intro n
  induction n with
  | zero => intro a1 a2 a3 a4 M e; exact sy_fr_none
  | succ n z39 => intro a1 a2 a3 a4 M e; exact (sy_fr_ite ((sy_fr_bi (sy_fr_up e (jzoX11_fitting _ _) (sy_subw_ix [] rfl)) (fun _ _ e1 => (sy_fr_bi (sy_fr_up e1 (jzoJ9_max_7cf53 _ _ _) (sy_subw_ix [] rfl)) (fun _ _ e2 => (sy_fr_ite (jzX11_ask_77 z39 _ _ _ _ _ e2) (jzX11_ask_77 z39 _ _ _ _ _ e2))))))) (sy_fr_end e))
theorem jzX11_ask {M0 : sy_M} : ∀ (M : sy_M), sy_eqw (jW_X11_ask) M0 M → sy_fr (jW_X11_ask) M0 (jfX11_ask M) := by
  intro  M e
  exact (sy_fr_bv (sy_fr_up e (jzoX11_readClues _ _) (sy_subw_ix [0, 1, 4, 5, 6] rfl)) (fun _ e1 => (sy_fr_bv (sy_fr_up e1 (jzoX8_learn _ _) (sy_subw_ix [2, 3] rfl)) (fun _ e2 => (sy_fr_bi (sy_fr_up e2 (jzoX11_fitting _ _) (sy_subw_ix [] rfl)) (fun _ _ e3 => (sy_fr_ite (sy_fr_end e3) (jzX11_ask_39  6000 _ _ _ _ _ e3))))))))
theorem jzoX11_ask (M : sy_M) : sy_fr (jW_X11_ask) M (jfX11_ask M) := jzX11_ask  M sy_eqw_refl
def jW_L_ask : List (Nat × Option Nat) := [(1, some 4), (132, none), (133, some 0), (50, none), (51, none), (6, some 2), (7, none), (8, none)]
theorem jzL_ask {M0 : sy_M} : ∀ (M : sy_M), sy_eqw (jW_L_ask) M0 M → sy_fr (jW_L_ask) M0 (jfL_ask M) := by
  intro  M e
  exact (sy_fr_hi (sy_fr_up e (jzoX11_ask  _) (sy_subw_ix [0, 2, 3, 4, 5, 6, 7] rfl)) (fun _ _ e1 => sy_fr_end (sy_eqw_wl e1 1 rfl)) (fun _ _ e1 => (sy_fr_ite (sy_fr_end e1) sy_fr_none)))
theorem jzoL_ask (M : sy_M) : sy_fr (jW_L_ask) M (jfL_ask M) := jzL_ask  M sy_eqw_refl
def jW_X12_ask : List (Nat × Option Nat) := [(121, some 0), (121, some 8), (131, none)]
theorem jzX12_ask_134 {M0 : sy_M} {k37 : Int32 → Int32 → Int32 → Int32 → sy_M → sy_O} (z37 : ∀ (a1 : Int32) (a2 : Int32) (a3 : Int32) (a4 : Int32) (M : sy_M), sy_eqw (jW_X12_ask) M0 M → sy_fr (jW_X12_ask) M0 (k37 a1 a2 a3 a4 M)) : ∀ (a1 : Int32) (a2 : Int32) (a3 : Int32) (a4 : Int32) (M : sy_M), sy_eqw (jW_X12_ask) M0 M → sy_fr (jW_X12_ask) M0 (jfX12_ask_134 k37 a1 a2 a3 a4 M) := by
  intro a1 a2 a3 a4 M e
  exact z37 _ _ _ _ _ e
theorem jzX12_ask_96 {M0 : sy_M} {k37 : Int32 → Int32 → Int32 → Int32 → sy_M → sy_O} (z37 : ∀ (a1 : Int32) (a2 : Int32) (a3 : Int32) (a4 : Int32) (M : sy_M), sy_eqw (jW_X12_ask) M0 M → sy_fr (jW_X12_ask) M0 (k37 a1 a2 a3 a4 M)) {k55 : Int32 → Int32 → Int32 → Int32 → Int32 → Int32 → sy_M → sy_O} (z55 : ∀ (a1 : Int32) (a2 : Int32) (a3 : Int32) (a4 : Int32) (a5 : Int32) (a6 : Int32) (M : sy_M), sy_eqw (jW_X12_ask) M0 M → sy_fr (jW_X12_ask) M0 (k55 a1 a2 a3 a4 a5 a6 M)) : ∀ (a1 : Int32) (a2 : Int32) (a3 : Int32) (a4 : Int32) (a6 : Int32) (s0 : Int32) (s1 : Int32) (M : sy_M), sy_eqw (jW_X12_ask) M0 M → sy_fr (jW_X12_ask) M0 (jfX12_ask_96 k37 k55 a1 a2 a3 a4 a6 s0 s1 M) := by
  intro a1 a2 a3 a4 a6 s0 s1 M e
  exact z55 _ _ _ _ _ _ _ e
theorem jzX12_ask_95 {M0 : sy_M} {k37 : Int32 → Int32 → Int32 → Int32 → sy_M → sy_O} (z37 : ∀ (a1 : Int32) (a2 : Int32) (a3 : Int32) (a4 : Int32) (M : sy_M), sy_eqw (jW_X12_ask) M0 M → sy_fr (jW_X12_ask) M0 (k37 a1 a2 a3 a4 M)) {k55 : Int32 → Int32 → Int32 → Int32 → Int32 → Int32 → sy_M → sy_O} (z55 : ∀ (a1 : Int32) (a2 : Int32) (a3 : Int32) (a4 : Int32) (a5 : Int32) (a6 : Int32) (M : sy_M), sy_eqw (jW_X12_ask) M0 M → sy_fr (jW_X12_ask) M0 (k55 a1 a2 a3 a4 a5 a6 M)) : ∀ (a1 : Int32) (a2 : Int32) (a3 : Int32) (a4 : Int32) (a6 : Int32) (s0 : Int32) (M : sy_M), sy_eqw (jW_X12_ask) M0 M → sy_fr (jW_X12_ask) M0 (jfX12_ask_95 k37 k55 a1 a2 a3 a4 a6 s0 M) := by
  intro a1 a2 a3 a4 a6 s0 M e
  exact jzX12_ask_96 z37 z55 _ _ _ _ _ _ _ _ e
theorem jzX12_ask_55 {M0 : sy_M} {k37 : Int32 → Int32 → Int32 → Int32 → sy_M → sy_O} (z37 : ∀ (a1 : Int32) (a2 : Int32) (a3 : Int32) (a4 : Int32) (M : sy_M), sy_eqw (jW_X12_ask) M0 M → sy_fr (jW_X12_ask) M0 (k37 a1 a2 a3 a4 M)) : ∀ n : Nat, ∀ (a1 : Int32) (a2 : Int32) (a3 : Int32) (a4 : Int32) (a5 : Int32) (a6 : Int32) (M : sy_M), sy_eqw (jW_X12_ask) M0 M → sy_fr (jW_X12_ask) M0 (jfX12_ask_55 k37 n a1 a2 a3 a4 a5 a6 M) := by
  intro n
  induction n with
  | zero => intro a1 a2 a3 a4 a5 a6 M e; exact sy_fr_none
  | succ n z55 => intro a1 a2 a3 a4 a5 a6 M e; exact (sy_fr_ite ((sy_fr_cond ((sy_fr_ite (jzX12_ask_95 z37 z55 _ _ _ _ _ _ _ e) ((sy_fr_ite (jzX12_ask_95 z37 z55 _ _ _ _ _ _ _ e) (jzX12_ask_96 z37 z55 _ _ _ _ _ _ _ _ e))))))) ((sy_fr_bi (sy_fr_up e (jzoX12_greater _ _ _) (sy_subw_ix [] rfl)) (fun _ _ e1 => (sy_fr_ite ((sy_fr_bi (sy_fr_up e1 (jzoX12_greater _ _ _) (sy_subw_ix [] rfl)) (fun _ _ e2 => jzX12_ask_134 z37 _ _ _ _ _ e2))) (jzX12_ask_134 z37 _ _ _ _ _ e1))))))
theorem jzX12_ask_37 {M0 : sy_M} : ∀ n : Nat, ∀ (a1 : Int32) (a2 : Int32) (a3 : Int32) (a4 : Int32) (M : sy_M), sy_eqw (jW_X12_ask) M0 M → sy_fr (jW_X12_ask) M0 (jfX12_ask_37 n a1 a2 a3 a4 M) := by
  intro n
  induction n with
  | zero => intro a1 a2 a3 a4 M e; exact sy_fr_none
  | succ n z37 => intro a1 a2 a3 a4 M e; exact (sy_fr_ite ((sy_fr_ite (jzX12_ask_55 z37 6000 _ _ _ _ _ _ _ e) (sy_fr_end e))) (sy_fr_end e))
theorem jzX12_ask_16 {M0 : sy_M} : ∀ (a1 : Int32) (s0 : Int32) (M : sy_M), sy_eqw (jW_X12_ask) M0 M → sy_fr (jW_X12_ask) M0 (jfX12_ask_16 a1 s0 M) := by
  intro a1 s0 M e
  exact (sy_fr_ite (sy_fr_end (sy_eqw_uf e 0 rfl)) (jzX12_ask_37  6000 _ _ _ _ _ (sy_eqw_uf e 0 rfl)))
theorem jzX12_ask {M0 : sy_M} : ∀ (M : sy_M), sy_eqw (jW_X12_ask) M0 M → sy_fr (jW_X12_ask) M0 (jfX12_ask M) := by
  intro  M e
  exact (sy_fr_bi (sy_fr_up e (jzoX12_heard  _) (sy_subw_ix [1, 2] rfl)) (fun _ _ e1 => (sy_fr_ite (jzX12_ask_16  _ _ _ e1) (jzX12_ask_16  _ _ _ e1))))
theorem jzoX12_ask (M : sy_M) : sy_fr (jW_X12_ask) M (jfX12_ask M) := jzX12_ask  M sy_eqw_refl
def jW_X11_isDrawn : List (Nat × Option Nat) := []
theorem jzX11_isDrawn_2 {M0 : sy_M} : ∀ n : Nat, ∀ (a1 : Int32) (a2 : Int32) (M : sy_M), sy_eqw (jW_X11_isDrawn) M0 M → sy_fr (jW_X11_isDrawn) M0 (jfX11_isDrawn_2 n a1 a2 M) := by
  intro n
  induction n with
  | zero => intro a1 a2 M e; exact sy_fr_none
  | succ n z2 => intro a1 a2 M e; exact (sy_fr_ite ((sy_fr_ite ((sy_fr_cond ((sy_fr_bi (sy_fr_up e (jzoX8_presentAt _ _) (sy_subw_ix [] rfl)) (fun _ _ e1 => (sy_fr_bi (sy_fr_up e1 (jzoX2_burnt _ _ _) (sy_subw_ix [] rfl)) (fun _ _ e2 => (sy_fr_cond ((sy_fr_ite (z2 _ _ _ e2) (sy_fr_end e2))))))))))) (sy_fr_end e))) (sy_fr_end e))
theorem jzX11_isDrawn {M0 : sy_M} : ∀ (a1 : Int32) (M : sy_M), sy_eqw (jW_X11_isDrawn) M0 M → sy_fr (jW_X11_isDrawn) M0 (jfX11_isDrawn a1 M) := by
  intro a1 M e
  exact jzX11_isDrawn_2  6000 _ _ _ e
theorem jzoX11_isDrawn (a1 : Int32) (M : sy_M) : sy_fr (jW_X11_isDrawn) M (jfX11_isDrawn a1 M) := jzX11_isDrawn a1 M sy_eqw_refl
def jW_X11_fewer : List (Nat × Option Nat) := []
theorem jzX11_fewer_16 {M0 : sy_M} : ∀ (a1 : Int32) (M : sy_M), sy_eqw (jW_X11_fewer) M0 M → sy_fr (jW_X11_fewer) M0 (jfX11_fewer_16 a1 M) := by
  intro a1 M e
  exact sy_fr_end e
theorem jzX11_fewer {M0 : sy_M} : ∀ (a0 : Int32) (a1 : Int32) (M : sy_M), sy_eqw (jW_X11_fewer) M0 M → sy_fr (jW_X11_fewer) M0 (jfX11_fewer a0 a1 M) := by
  intro a0 a1 M e
  exact (sy_fr_ite (jzX11_fewer_16  _ _ e) ((sy_fr_bi (sy_fr_up e (jzoJ6_bitCount_0f7a4 _ _) (sy_subw_ix [] rfl)) (fun _ _ e1 => (sy_fr_bi (sy_fr_up e1 (jzoJ6_bitCount_0f7a4 _ _) (sy_subw_ix [] rfl)) (fun _ _ e2 => (sy_fr_ite (jzX11_fewer_16  _ _ e2) (sy_fr_end e2))))))))
theorem jzoX11_fewer (a0 : Int32) (a1 : Int32) (M : sy_M) : sy_fr (jW_X11_fewer) M (jfX11_fewer a0 a1 M) := jzX11_fewer a0 a1 M sy_eqw_refl
def jW_X11_drawn : List (Nat × Option Nat) := [(1, some 4), (133, some 0), (50, none), (51, none), (6, some 2), (7, none), (8, none)]
theorem jzX11_drawn_82 {M0 : sy_M} {k47 : Int32 → Int32 → Int32 → Int32 → Int32 → sy_M → sy_O} (z47 : ∀ (a1 : Int32) (a2 : Int32) (a3 : Int32) (a4 : Int32) (a5 : Int32) (M : sy_M), sy_eqw (jW_X11_drawn) M0 M → sy_fr (jW_X11_drawn) M0 (k47 a1 a2 a3 a4 a5 M)) : ∀ (a1 : Int32) (a2 : Int32) (a3 : Int32) (a4 : Int32) (a5 : Int32) (M : sy_M), sy_eqw (jW_X11_drawn) M0 M → sy_fr (jW_X11_drawn) M0 (jfX11_drawn_82 k47 a1 a2 a3 a4 a5 M) := by
  intro a1 a2 a3 a4 a5 M e
  exact z47 _ _ _ _ _ _ e
theorem jzX11_drawn_47 {M0 : sy_M} : ∀ n : Nat, ∀ (a1 : Int32) (a2 : Int32) (a3 : Int32) (a4 : Int32) (a5 : Int32) (M : sy_M), sy_eqw (jW_X11_drawn) M0 M → sy_fr (jW_X11_drawn) M0 (jfX11_drawn_47 n a1 a2 a3 a4 a5 M) := by
  intro n
  induction n with
  | zero => intro a1 a2 a3 a4 a5 M e; exact sy_fr_none
  | succ n z47 => intro a1 a2 a3 a4 a5 M e; exact (sy_fr_bi (sy_fr_up e (jzoX11_everybody  _) (sy_subw_ix [] rfl)) (fun _ _ e1 => (sy_fr_ite ((sy_fr_ite (sy_fr_end e1) ((sy_fr_ite (sy_fr_end e1) ((sy_fr_ite (sy_fr_end e1) (sy_fr_end e1))))))) ((sy_fr_bi (sy_fr_up e1 (jzoX11_isDrawn _ _) (sy_subw_ix [] rfl)) (fun _ _ e2 => (sy_fr_ite (jzX11_drawn_82 z47 _ _ _ _ _ _ e2) ((sy_fr_bi (sy_fr_up e2 (jzoX11_fewer _ _ _) (sy_subw_ix [] rfl)) (fun _ _ e3 => jzX11_drawn_82 z47 _ _ _ _ _ _ e3))))))))))
theorem jzX11_drawn {M0 : sy_M} : ∀ (a1 : Int32) (M : sy_M), sy_eqw (jW_X11_drawn) M0 M → sy_fr (jW_X11_drawn) M0 (jfX11_drawn a1 M) := by
  intro a1 M e
  exact (sy_fr_bv (sy_fr_up e (jzoX11_readClues _ _) (sy_subw_ix [0, 1, 4, 5, 6] rfl)) (fun _ e1 => (sy_fr_ite ((sy_fr_cond (sy_fr_end (sy_eqw_uf e1 1 rfl)))) ((sy_fr_ite ((sy_fr_cond (sy_fr_end (sy_eqw_uf e1 1 rfl)))) ((sy_fr_bv (sy_fr_up e1 (jzoX8_learn _ _) (sy_subw_ix [2, 3] rfl)) (fun _ e2 => (sy_fr_bi (sy_fr_up e2 (jzoX11_everybody  _) (sy_subw_ix [] rfl)) (fun _ _ e3 => jzX11_drawn_47  6000 _ _ _ _ _ _ e3))))))))))
theorem jzoX11_drawn (a1 : Int32) (M : sy_M) : sy_fr (jW_X11_drawn) M (jfX11_drawn a1 M) := jzX11_drawn a1 M sy_eqw_refl
def jW_L_drawn : List (Nat × Option Nat) := [(1, some 4), (132, none), (133, some 0), (50, none), (51, none), (6, some 2), (7, none), (8, none)]
theorem jzL_drawn {M0 : sy_M} : ∀ (a1 : Int32) (M : sy_M), sy_eqw (jW_L_drawn) M0 M → sy_fr (jW_L_drawn) M0 (jfL_drawn a1 M) := by
  intro a1 M e
  exact (sy_fr_hi (sy_fr_up e (jzoX11_drawn _ _) (sy_subw_ix [0, 2, 3, 4, 5, 6, 7] rfl)) (fun _ _ e1 => sy_fr_end (sy_eqw_wl e1 1 rfl)) (fun _ _ e1 => (sy_fr_ite (sy_fr_end e1) (sy_fr_ite (sy_fr_end e1) sy_fr_none))))
theorem jzoL_drawn (a1 : Int32) (M : sy_M) : sy_fr (jW_L_drawn) M (jfL_drawn a1 M) := jzL_drawn a1 M sy_eqw_refl
def jW_X12_bits : List (Nat × Option Nat) := []
theorem jzX12_bits_4 {M0 : sy_M} : ∀ n : Nat, ∀ (a0 : Int32) (a1 : Int32) (a2 : Int32) (M : sy_M), sy_eqw (jW_X12_bits) M0 M → sy_fr (jW_X12_bits) M0 (jfX12_bits_4 n a0 a1 a2 M) := by
  intro n
  induction n with
  | zero => intro a0 a1 a2 M e; exact sy_fr_none
  | succ n z4 => intro a0 a1 a2 M e; exact (sy_fr_ite (z4 _ _ _ _ e) (sy_fr_end e))
theorem jzX12_bits {M0 : sy_M} : ∀ (a0 : Int32) (M : sy_M), sy_eqw (jW_X12_bits) M0 M → sy_fr (jW_X12_bits) M0 (jfX12_bits a0 M) := by
  intro a0 M e
  exact jzX12_bits_4  6000 _ _ _ _ e
theorem jzoX12_bits (a0 : Int32) (M : sy_M) : sy_fr (jW_X12_bits) M (jfX12_bits a0 M) := jzX12_bits a0 M sy_eqw_refl
def jW_X12_drawn : List (Nat × Option Nat) := [(121, some 0), (121, some 8)]
theorem jzX12_drawn_173 {M0 : sy_M} {k63 : Int32 → Int32 → Int32 → Int32 → Int32 → Int32 → sy_M → sy_O} (z63 : ∀ (a1 : Int32) (a2 : Int32) (a3 : Int32) (a4 : Int32) (a5 : Int32) (a6 : Int32) (M : sy_M), sy_eqw (jW_X12_drawn) M0 M → sy_fr (jW_X12_drawn) M0 (k63 a1 a2 a3 a4 a5 a6 M)) : ∀ (a1 : Int32) (a2 : Int32) (a3 : Int32) (a4 : Int32) (a5 : Int32) (a6 : Int32) (M : sy_M), sy_eqw (jW_X12_drawn) M0 M → sy_fr (jW_X12_drawn) M0 (jfX12_drawn_173 k63 a1 a2 a3 a4 a5 a6 M) := by
  intro a1 a2 a3 a4 a5 a6 M e
  exact z63 _ _ _ _ _ _ _ e
theorem jzX12_drawn_169 {M0 : sy_M} {k63 : Int32 → Int32 → Int32 → Int32 → Int32 → Int32 → sy_M → sy_O} (z63 : ∀ (a1 : Int32) (a2 : Int32) (a3 : Int32) (a4 : Int32) (a5 : Int32) (a6 : Int32) (M : sy_M), sy_eqw (jW_X12_drawn) M0 M → sy_fr (jW_X12_drawn) M0 (k63 a1 a2 a3 a4 a5 a6 M)) : ∀ (a1 : Int32) (a2 : Int32) (a3 : Int32) (a4 : Int32) (a6 : Int32) (M : sy_M), sy_eqw (jW_X12_drawn) M0 M → sy_fr (jW_X12_drawn) M0 (jfX12_drawn_169 k63 a1 a2 a3 a4 a6 M) := by
  intro a1 a2 a3 a4 a6 M e
  exact jzX12_drawn_173 z63 _ _ _ _ _ _ _ e
theorem jzX12_drawn_132 {M0 : sy_M} {k63 : Int32 → Int32 → Int32 → Int32 → Int32 → Int32 → sy_M → sy_O} (z63 : ∀ (a1 : Int32) (a2 : Int32) (a3 : Int32) (a4 : Int32) (a5 : Int32) (a6 : Int32) (M : sy_M), sy_eqw (jW_X12_drawn) M0 M → sy_fr (jW_X12_drawn) M0 (k63 a1 a2 a3 a4 a5 a6 M)) : ∀ (a1 : Int32) (a2 : Int32) (a3 : Int32) (a4 : Int32) (a5 : Int32) (a6 : Int32) (a7 : Int32) (M : sy_M), sy_eqw (jW_X12_drawn) M0 M → sy_fr (jW_X12_drawn) M0 (jfX12_drawn_132 k63 a1 a2 a3 a4 a5 a6 a7 M) := by
  intro a1 a2 a3 a4 a5 a6 a7 M e
  exact (sy_fr_ite (jzX12_drawn_173 z63 _ _ _ _ _ _ _ e) ((sy_fr_ite (jzX12_drawn_169 z63 _ _ _ _ _ _ e) ((sy_fr_bi (sy_fr_up e (jzoX12_bits _ _) (sy_subw_ix [] rfl)) (fun _ _ e1 => (sy_fr_bi (sy_fr_up e1 (jzoX12_bits _ _) (sy_subw_ix [] rfl)) (fun _ _ e2 => (sy_fr_ite (jzX12_drawn_169 z63 _ _ _ _ _ _ e2) (jzX12_drawn_173 z63 _ _ _ _ _ _ _ e2))))))))))
theorem jzX12_drawn_124 {M0 : sy_M} {k63 : Int32 → Int32 → Int32 → Int32 → Int32 → Int32 → sy_M → sy_O} (z63 : ∀ (a1 : Int32) (a2 : Int32) (a3 : Int32) (a4 : Int32) (a5 : Int32) (a6 : Int32) (M : sy_M), sy_eqw (jW_X12_drawn) M0 M → sy_fr (jW_X12_drawn) M0 (k63 a1 a2 a3 a4 a5 a6 M)) {k78 : Int32 → Int32 → Int32 → Int32 → Int32 → Int32 → Int32 → Int32 → sy_M → sy_O} (z78 : ∀ (a1 : Int32) (a2 : Int32) (a3 : Int32) (a4 : Int32) (a5 : Int32) (a6 : Int32) (a7 : Int32) (a8 : Int32) (M : sy_M), sy_eqw (jW_X12_drawn) M0 M → sy_fr (jW_X12_drawn) M0 (k78 a1 a2 a3 a4 a5 a6 a7 a8 M)) : ∀ (a1 : Int32) (a2 : Int32) (a3 : Int32) (a4 : Int32) (a5 : Int32) (a6 : Int32) (a8 : Int32) (s0 : Int32) (M : sy_M), sy_eqw (jW_X12_drawn) M0 M → sy_fr (jW_X12_drawn) M0 (jfX12_drawn_124 k63 k78 a1 a2 a3 a4 a5 a6 a8 s0 M) := by
  intro a1 a2 a3 a4 a5 a6 a8 s0 M e
  exact z78 _ _ _ _ _ _ _ _ _ e
theorem jzX12_drawn_78 {M0 : sy_M} {k63 : Int32 → Int32 → Int32 → Int32 → Int32 → Int32 → sy_M → sy_O} (z63 : ∀ (a1 : Int32) (a2 : Int32) (a3 : Int32) (a4 : Int32) (a5 : Int32) (a6 : Int32) (M : sy_M), sy_eqw (jW_X12_drawn) M0 M → sy_fr (jW_X12_drawn) M0 (k63 a1 a2 a3 a4 a5 a6 M)) : ∀ n : Nat, ∀ (a1 : Int32) (a2 : Int32) (a3 : Int32) (a4 : Int32) (a5 : Int32) (a6 : Int32) (a7 : Int32) (a8 : Int32) (M : sy_M), sy_eqw (jW_X12_drawn) M0 M → sy_fr (jW_X12_drawn) M0 (jfX12_drawn_78 k63 n a1 a2 a3 a4 a5 a6 a7 a8 M) := by
  intro n
  induction n with
  | zero => intro a1 a2 a3 a4 a5 a6 a7 a8 M e; exact sy_fr_none
  | succ n z78 => intro a1 a2 a3 a4 a5 a6 a7 a8 M e; exact (sy_fr_ite ((sy_fr_ite (jzX12_drawn_132 z63 _ _ _ _ _ _ _ _ e) ((sy_fr_cond ((sy_fr_bi (sy_fr_up e (jzoX12_homeIn _ _) (sy_subw_ix [] rfl)) (fun _ _ e1 => (sy_fr_bi (sy_fr_up e1 (jzoX12_burnsOf _ _) (sy_subw_ix [] rfl)) (fun _ _ e2 => (sy_fr_cond ((sy_fr_ite (jzX12_drawn_124 z63 z78 _ _ _ _ _ _ _ _ _ e2) (jzX12_drawn_124 z63 z78 _ _ _ _ _ _ _ _ _ e2))))))))))))) (jzX12_drawn_132 z63 _ _ _ _ _ _ _ _ e))
theorem jzX12_drawn_63 {M0 : sy_M} : ∀ n : Nat, ∀ (a1 : Int32) (a2 : Int32) (a3 : Int32) (a4 : Int32) (a5 : Int32) (a6 : Int32) (M : sy_M), sy_eqw (jW_X12_drawn) M0 M → sy_fr (jW_X12_drawn) M0 (jfX12_drawn_63 n a1 a2 a3 a4 a5 a6 M) := by
  intro n
  induction n with
  | zero => intro a1 a2 a3 a4 a5 a6 M e; exact sy_fr_none
  | succ n z63 => intro a1 a2 a3 a4 a5 a6 M e; exact (sy_fr_bi (sy_fr_up e (jzoX12_all  _) (sy_subw_ix [] rfl)) (fun _ _ e1 => (sy_fr_ite ((sy_fr_ite (sy_fr_end e1) ((sy_fr_ite (sy_fr_end e1) ((sy_fr_ite (sy_fr_end e1) (sy_fr_end e1))))))) (jzX12_drawn_78 z63 6000 _ _ _ _ _ _ _ _ _ e1))))
theorem jzX12_drawn_39 {M0 : sy_M} : ∀ (a1 : Int32) (a2 : Int32) (s0 : Int32) (M : sy_M), sy_eqw (jW_X12_drawn) M0 M → sy_fr (jW_X12_drawn) M0 (jfX12_drawn_39 a1 a2 s0 M) := by
  intro a1 a2 s0 M e
  exact (sy_fr_ite (sy_fr_end (sy_eqw_uf e 0 rfl)) (jzX12_drawn_63  6000 _ _ _ _ _ _ _ (sy_eqw_uf e 0 rfl)))
theorem jzX12_drawn {M0 : sy_M} : ∀ (a1 : Int32) (M : sy_M), sy_eqw (jW_X12_drawn) M0 M → sy_fr (jW_X12_drawn) M0 (jfX12_drawn a1 M) := by
  intro a1 M e
  exact (sy_fr_bi (sy_fr_up (sy_eqw_uf e 1 rfl) (jzoX12_areRows _ _ _) (sy_subw_ix [] rfl)) (fun _ _ e1 => (sy_fr_ite (jzX12_drawn_39  _ _ _ _ e1) ((sy_fr_bi (sy_fr_up e1 (jzoX12_isIn _ _ _ _) (sy_subw_ix [] rfl)) (fun _ _ e2 => (sy_fr_ite (jzX12_drawn_39  _ _ _ _ e2) (jzX12_drawn_39  _ _ _ _ e2))))))))
theorem jzoX12_drawn (a1 : Int32) (M : sy_M) : sy_fr (jW_X12_drawn) M (jfX12_drawn a1 M) := jzX12_drawn a1 M sy_eqw_refl
def jW_X11_warmer : List (Nat × Option Nat) := [(133, some 0), (19, some 3), (19, some 4), (19, some 5), (19, some 6), (19, some 7), (19, some 8), (19, some 9), (19, some 10), (19, some 11), (19, some 12), (19, some 13), (20, none), (21, none), (22, some 2), (22, some 3), (23, none), (50, none), (51, none), (52, none)]
theorem jzX11_warmer_70 {M0 : sy_M} : ∀ (a1 : Int32) (a2 : Int32) (a3 : Int32) (a4 : Int32) (M : sy_M), sy_eqw (jW_X11_warmer) M0 M → sy_fr (jW_X11_warmer) M0 (jfX11_warmer_70 a1 a2 a3 a4 M) := by
  intro a1 a2 a3 a4 M e
  exact (sy_fr_bi (sy_fr_up e (jzoX11_run _ _ _) (sy_subw_ix [3, 4, 5, 7, 9, 10, 11, 12, 14, 15, 16, 19] rfl)) (fun _ _ e1 => (sy_fr_bi (sy_fr_up e1 (jzoX11_griefAhead _ _) (sy_subw_ix [] rfl)) (fun _ _ e2 => (sy_fr_ite ((sy_fr_bi (sy_fr_up e2 (jzoX11_griefAhead _ _) (sy_subw_ix [] rfl)) (fun _ _ e3 => (sy_fr_ite (sy_fr_end e3) (sy_fr_end e3))))) (sy_fr_end e2))))))
theorem jzX11_warmer {M0 : sy_M} : ∀ (a1 : Int32) (a2 : Int32) (M : sy_M), sy_eqw (jW_X11_warmer) M0 M → sy_fr (jW_X11_warmer) M0 (jfX11_warmer a1 a2 M) := by
  intro a1 a2 M e
  exact (sy_fr_bv (sy_fr_up e (jzoX11_checkTwo _ _ _) (sy_subw_ix [0] rfl)) (fun _ e1 => (sy_fr_bv (sy_fr_up e1 (jzoX8_learn _ _) (sy_subw_ix [17, 18] rfl)) (fun _ e2 => (sy_fr_bi (sy_fr_up e2 (jzoX2_get _ _ _ _) (sy_subw_ix [] rfl)) (fun _ _ e3 => (sy_fr_bi (sy_fr_up e3 (jzoX11_griefBy _ _ _) (sy_subw_ix [1, 2, 3, 4, 5, 6, 7, 8, 9, 10, 11, 12, 13, 14, 15, 16, 19] rfl)) (fun _ _ e4 => (sy_fr_bi (sy_fr_up e4 (jzoX11_griefAhead _ _) (sy_subw_ix [] rfl)) (fun _ _ e5 => (sy_fr_bv (sy_fr_up e5 (jzoX2_takeOver _ _ _) (sy_subw_ix [1, 2, 3, 4, 5, 6, 7, 8, 9, 10, 11, 12, 13, 14, 15, 16] rfl)) (fun _ e6 => (sy_fr_bv (sy_fr_up e6 (jzoX2_swapRooms _ _ _ _) (sy_subw_ix [12] rfl)) (fun _ e7 => (sy_fr_bv (sy_fr_up e7 (jzoX8_learn _ _) (sy_subw_ix [17, 18] rfl)) (fun _ e8 => jzX11_warmer_70  _ _ _ _ _ e8))))))))))))))))
theorem jzoX11_warmer (a1 : Int32) (a2 : Int32) (M : sy_M) : sy_fr (jW_X11_warmer) M (jfX11_warmer a1 a2 M) := jzX11_warmer a1 a2 M sy_eqw_refl
def jW_L_warmer : List (Nat × Option Nat) := [(132, none), (133, some 0), (19, some 3), (19, some 4), (19, some 5), (19, some 6), (19, some 7), (19, some 8), (19, some 9), (19, some 10), (19, some 11), (19, some 12), (19, some 13), (20, none), (21, none), (22, some 2), (22, some 3), (23, none), (50, none), (51, none), (52, none)]
theorem jzL_warmer_16 {M0 : sy_M} : ∀ (s0 : Int64) (s1 : Int32) (M : sy_M), sy_eqw (jW_L_warmer) M0 M → sy_fr (jW_L_warmer) M0 (jfL_warmer_16 s0 s1 M) := by
  intro s0 s1 M e
  exact (sy_fr_cond (sy_fr_end (sy_eqw_wl e 0 rfl)))
theorem jzL_warmer {M0 : sy_M} : ∀ (a1 : Int32) (a2 : Int32) (M : sy_M), sy_eqw (jW_L_warmer) M0 M → sy_fr (jW_L_warmer) M0 (jfL_warmer a1 a2 M) := by
  intro a1 a2 M e
  exact (sy_fr_hi (sy_fr_up e (jzoX11_warmer _ _ _) (sy_subw_ix [1, 2, 3, 4, 5, 6, 7, 8, 9, 10, 11, 12, 13, 14, 15, 16, 17, 18, 19, 20] rfl)) (fun _ _ e1 => (sy_fr_ite (jzL_warmer_16  _ _ _ e1) (jzL_warmer_16  _ _ _ e1))) (fun _ _ e1 => (sy_fr_ite (sy_fr_end e1) (sy_fr_ite (sy_fr_end e1) sy_fr_none))))
theorem jzoL_warmer (a1 : Int32) (a2 : Int32) (M : sy_M) : sy_fr (jW_L_warmer) M (jfL_warmer a1 a2 M) := jzL_warmer a1 a2 M sy_eqw_refl
def jW_X12_warmer : List (Nat × Option Nat) := [(121, some 0), (121, some 9), (121, some 10), (121, some 11), (121, some 12), (121, some 13), (121, some 15), (121, some 16), (121, some 17), (121, some 18), (121, some 20), (121, some 21), (122, none), (124, none), (127, none), (129, none)]
theorem jzX12_warmer_71 {M0 : sy_M} : ∀ (M : sy_M), sy_eqw (jW_X12_warmer) M0 M → sy_fr (jW_X12_warmer) M0 (jfX12_warmer_71 M) := by
  intro  M e
  exact sy_fr_end e
theorem jzX12_warmer {M0 : sy_M} : ∀ (a1 : Int32) (a2 : Int32) (M : sy_M), sy_eqw (jW_X12_warmer) M0 M → sy_fr (jW_X12_warmer) M0 (jfX12_warmer a1 a2 M) := by
  intro a1 a2 M e
  exact (sy_fr_bv (sy_fr_up e (jzoX12_areTwo _ _ _) (sy_subw_ix [0] rfl)) (fun _ e1 => (sy_fr_ite (sy_fr_end e1) ((sy_fr_bv (sy_fr_up e1 (jzoX12_grieves  _) (sy_subw_ix [1, 2, 3, 4, 5, 6, 7, 8, 9, 10, 11, 12, 13, 14, 15] rfl)) (fun _ e2 => (sy_fr_cond ((sy_fr_cond ((sy_fr_bv (sy_fr_up e2 (jzoX12_rooms _ _ _) (sy_subw_ix [12] rfl)) (fun _ e3 => (sy_fr_bv (sy_fr_up e3 (jzoX12_grieves  _) (sy_subw_ix [1, 2, 3, 4, 5, 6, 7, 8, 9, 10, 11, 12, 13, 14, 15] rfl)) (fun _ e4 => (sy_fr_bv (sy_fr_up e4 (jzoX12_rooms _ _ _) (sy_subw_ix [12] rfl)) (fun _ e5 => (sy_fr_cond ((sy_fr_ite ((sy_fr_cond ((sy_fr_ite (jzX12_warmer_71   _ e5) (sy_fr_end e5))))) (sy_fr_end e5))))))))))))))))))))
theorem jzoX12_warmer (a1 : Int32) (a2 : Int32) (M : sy_M) : sy_fr (jW_X12_warmer) M (jfX12_warmer a1 a2 M) := jzX12_warmer a1 a2 M sy_eqw_refl
def jW_X9_keep : List (Nat × Option Nat) := [(53, some 4), (56, none)]
theorem jzX9_keep {M0 : sy_M} : ∀ (a1 : Int32) (M : sy_M), sy_eqw (jW_X9_keep) M0 M → sy_fr (jW_X9_keep) M0 (jfX9_keep a1 M) := by
  intro a1 M e
  exact (sy_fr_ite (sy_fr_end (sy_eqw_cp (sy_eqw_uf e 0 rfl) 1 rfl)) (sy_fr_end e))
theorem jzoX9_keep (a1 : Int32) (M : sy_M) : sy_fr (jW_X9_keep) M (jfX9_keep a1 M) := jzX9_keep a1 M sy_eqw_refl
def jW_X9_choose : List (Nat × Option Nat) := [(53, some 4), (55, none), (56, none)]
theorem jzX9_choose_18 {M0 : sy_M} {rc : Int32 → Int32 → sy_M → sy_O} (zrc : ∀ (a1 : Int32) (a2 : Int32) (M : sy_M), sy_eqw (jW_X9_choose) M0 M → sy_fr (jW_X9_choose) M0 (rc a1 a2 M)) : ∀ (a2 : Int32) (M : sy_M), sy_eqw (jW_X9_choose) M0 M → sy_fr (jW_X9_choose) M0 (jfX9_choose_18 rc a2 M) := by
  intro a2 M e
  exact (sy_fr_bv (sy_fr_up e (jzoX9_keep _ _) (sy_subw_ix [0, 2] rfl)) (fun _ e1 => sy_fr_end e1))
theorem jzX9_choose_119 {M0 : sy_M} {rc : Int32 → Int32 → sy_M → sy_O} (zrc : ∀ (a1 : Int32) (a2 : Int32) (M : sy_M), sy_eqw (jW_X9_choose) M0 M → sy_fr (jW_X9_choose) M0 (rc a1 a2 M)) {k47 : Int32 → Int32 → Int32 → sy_M → sy_O} (z47 : ∀ (a1 : Int32) (a2 : Int32) (a3 : Int32) (M : sy_M), sy_eqw (jW_X9_choose) M0 M → sy_fr (jW_X9_choose) M0 (k47 a1 a2 a3 M)) : ∀ (a1 : Int32) (a2 : Int32) (a3 : Int32) (M : sy_M), sy_eqw (jW_X9_choose) M0 M → sy_fr (jW_X9_choose) M0 (jfX9_choose_119 rc k47 a1 a2 a3 M) := by
  intro a1 a2 a3 M e
  exact z47 _ _ _ _ e
theorem jzX9_choose_105 {M0 : sy_M} {rc : Int32 → Int32 → sy_M → sy_O} (zrc : ∀ (a1 : Int32) (a2 : Int32) (M : sy_M), sy_eqw (jW_X9_choose) M0 M → sy_fr (jW_X9_choose) M0 (rc a1 a2 M)) {k47 : Int32 → Int32 → Int32 → sy_M → sy_O} (z47 : ∀ (a1 : Int32) (a2 : Int32) (a3 : Int32) (M : sy_M), sy_eqw (jW_X9_choose) M0 M → sy_fr (jW_X9_choose) M0 (k47 a1 a2 a3 M)) : ∀ (a1 : Int32) (a2 : Int32) (a3 : Int32) (M : sy_M), sy_eqw (jW_X9_choose) M0 M → sy_fr (jW_X9_choose) M0 (jfX9_choose_105 rc k47 a1 a2 a3 M) := by
  intro a1 a2 a3 M e
  exact (sy_fr_cond ((sy_fr_cond (jzX9_choose_119 zrc z47 _ _ _ _ (sy_eqw_ua (sy_eqw_ua e 1 rfl) 1 rfl)))))
theorem jzX9_choose_47 {M0 : sy_M} {rc : Int32 → Int32 → sy_M → sy_O} (zrc : ∀ (a1 : Int32) (a2 : Int32) (M : sy_M), sy_eqw (jW_X9_choose) M0 M → sy_fr (jW_X9_choose) M0 (rc a1 a2 M)) : ∀ n : Nat, ∀ (a1 : Int32) (a2 : Int32) (a3 : Int32) (M : sy_M), sy_eqw (jW_X9_choose) M0 M → sy_fr (jW_X9_choose) M0 (jfX9_choose_47 rc n a1 a2 a3 M) := by
  intro n
  induction n with
  | zero => intro a1 a2 a3 M e; exact sy_fr_none
  | succ n z47 => intro a1 a2 a3 M e; exact (sy_fr_ite ((sy_fr_ite ((sy_fr_cond ((sy_fr_ite ((sy_fr_cond ((sy_fr_cond ((sy_fr_cond ((sy_fr_bv (zrc _ _ _ (sy_eqw_ua (sy_eqw_ua e 1 rfl) 1 rfl)) (fun _ e1 => jzX9_choose_105 zrc z47 _ _ _ _ e1))))))))) (jzX9_choose_119 zrc z47 _ _ _ _ e))))) (sy_fr_end e))) (sy_fr_end e))
theorem jzX9_choose {M0 : sy_M} {rc : Int32 → Int32 → sy_M → sy_O} (zrc : ∀ (a1 : Int32) (a2 : Int32) (M : sy_M), sy_eqw (jW_X9_choose) M0 M → sy_fr (jW_X9_choose) M0 (rc a1 a2 M)) : ∀ (a1 : Int32) (a2 : Int32) (M : sy_M), sy_eqw (jW_X9_choose) M0 M → sy_fr (jW_X9_choose) M0 (jgX9_choose rc a1 a2 M) := by
  intro a1 a2 M e
  exact (sy_fr_ite (jzX9_choose_18 zrc  _ _ e) ((sy_fr_ite ((sy_fr_ite ((sy_fr_bv (zrc _ _ _ e) (fun _ e1 => (sy_fr_cond ((sy_fr_ite (jzX9_choose_47 zrc  6000 _ _ _ _ e1) (sy_fr_end e1))))))) (jzX9_choose_18 zrc  _ _ e))) (jzX9_choose_18 zrc  _ _ e))))
theorem jzall_C {M0 : sy_M} : ∀ (n : Nat) (a1 : Int32) (a2 : Int32) (M : sy_M), sy_eqw (jW_X9_choose) M0 M → sy_fr (jW_X9_choose) M0 (jfX9_choose n a1 a2 M) := by
  intro n
  induction n with
  | zero => intro a1 a2 M e; exact sy_fr_none
  | succ n ih => intro a1 a2 M e; exact jzX9_choose ih a1 a2 M e
theorem jzoX9_choose (a1 : Int32) (a2 : Int32) (M : sy_M) (_ : ∀ _ _ _ : Nat, (0 : Nat) = 0) : sy_fr (jW_X9_choose) M (jfX9_choose 12 a1 a2 M) := jzall_C 12 a1 a2 M sy_eqw_refl
def jW_X9_sharedTicks : List (Nat × Option Nat) := []
theorem jzX9_sharedTicks_24 {M0 : sy_M} {k4 : Int32 → Int32 → Int32 → sy_M → sy_O} (z4 : ∀ (a1 : Int32) (a2 : Int32) (a3 : Int32) (M : sy_M), sy_eqw (jW_X9_sharedTicks) M0 M → sy_fr (jW_X9_sharedTicks) M0 (k4 a1 a2 a3 M)) : ∀ (a1 : Int32) (a2 : Int32) (a3 : Int32) (M : sy_M), sy_eqw (jW_X9_sharedTicks) M0 M → sy_fr (jW_X9_sharedTicks) M0 (jfX9_sharedTicks_24 k4 a1 a2 a3 M) := by
  intro a1 a2 a3 M e
  exact z4 _ _ _ _ e
theorem jzX9_sharedTicks_4 {M0 : sy_M} : ∀ n : Nat, ∀ (a1 : Int32) (a2 : Int32) (a3 : Int32) (M : sy_M), sy_eqw (jW_X9_sharedTicks) M0 M → sy_fr (jW_X9_sharedTicks) M0 (jfX9_sharedTicks_4 n a1 a2 a3 M) := by
  intro n
  induction n with
  | zero => intro a1 a2 a3 M e; exact sy_fr_none
  | succ n z4 => intro a1 a2 a3 M e; exact (sy_fr_ite ((sy_fr_bi (sy_fr_up e (jzoX8_presentAt _ _) (sy_subw_ix [] rfl)) (fun _ _ e1 => (sy_fr_ite (jzX9_sharedTicks_24 z4 _ _ _ _ e1) (jzX9_sharedTicks_24 z4 _ _ _ _ e1))))) (sy_fr_end e))
theorem jzX9_sharedTicks {M0 : sy_M} : ∀ (a1 : Int32) (M : sy_M), sy_eqw (jW_X9_sharedTicks) M0 M → sy_fr (jW_X9_sharedTicks) M0 (jfX9_sharedTicks a1 M) := by
  intro a1 M e
  exact jzX9_sharedTicks_4  6000 _ _ _ _ e
theorem jzoX9_sharedTicks (a1 : Int32) (M : sy_M) : sy_fr (jW_X9_sharedTicks) M (jfX9_sharedTicks a1 M) := jzX9_sharedTicks a1 M sy_eqw_refl
def jW_X9_solve : List (Nat × Option Nat) := [(53, some 3), (53, some 4), (54, none), (55, none), (56, none)]
theorem jzX9_solve_44 {M0 : sy_M} {k21 : Int32 → sy_M → sy_O} (z21 : ∀ (a3 : Int32) (M : sy_M), sy_eqw (jW_X9_solve) M0 M → sy_fr (jW_X9_solve) M0 (k21 a3 M)) : ∀ n : Nat, ∀ (a3 : Int32) (a4 : Int32) (M : sy_M), sy_eqw (jW_X9_solve) M0 M → sy_fr (jW_X9_solve) M0 (jfX9_solve_44 k21 n a3 a4 M) := by
  intro n
  induction n with
  | zero => intro a3 a4 M e; exact sy_fr_none
  | succ n z44 => intro a3 a4 M e; exact (sy_fr_ite ((sy_fr_bi (sy_fr_up e (jzoX9_sharedTicks _ _) (sy_subw_ix [] rfl)) (fun _ _ e1 => (sy_fr_cond (z44 _ _ _ (sy_eqw_ua e1 2 rfl)))))) (z21 _ _ e))
theorem jzX9_solve_21 {M0 : sy_M} : ∀ n : Nat, ∀ (a3 : Int32) (M : sy_M), sy_eqw (jW_X9_solve) M0 M → sy_fr (jW_X9_solve) M0 (jfX9_solve_21 n a3 M) := by
  intro n
  induction n with
  | zero => intro a3 M e; exact sy_fr_none
  | succ n z21 => intro a3 M e; exact (sy_fr_ite ((sy_fr_cond ((sy_fr_cond (jzX9_solve_44 z21 6000 _ _ _ (sy_eqw_ua (sy_eqw_ua e 3 rfl) 4 rfl)))))) ((sy_fr_bv (sy_fr_up e (jzoX9_choose _ _ _ (fun _ _ _ => rfl)) (sy_subw_ix [1, 3, 4] rfl)) (fun _ e1 => sy_fr_end e1))))
theorem jzX9_solve {M0 : sy_M} : ∀ (a2 : Int32) (M : sy_M), sy_eqw (jW_X9_solve) M0 M → sy_fr (jW_X9_solve) M0 (jfX9_solve a2 M) := by
  intro a2 M e
  exact (sy_fr_bi (sy_fr_up e (jzoJ9_min_7cf53 _ _ _) (sy_subw_ix [] rfl)) (fun _ _ e1 => (sy_fr_bi (sy_fr_up e1 (jzoJ9_max_7cf53 _ _ _) (sy_subw_ix [] rfl)) (fun _ _ e2 => jzX9_solve_21  6000 _ _ (sy_eqw_uf (sy_eqw_uf e2 0 rfl) 1 rfl)))))
theorem jzoX9_solve (a2 : Int32) (M : sy_M) : sy_fr (jW_X9_solve) M (jfX9_solve a2 M) := jzX9_solve a2 M sy_eqw_refl
def jW_X9_partnerOf : List (Nat × Option Nat) := []
theorem jzX9_partnerOf {M0 : sy_M} : ∀ (a1 : Int32) (M : sy_M), sy_eqw (jW_X9_partnerOf) M0 M → sy_fr (jW_X9_partnerOf) M0 (jfX9_partnerOf a1 M) := by
  intro a1 M e
  exact (sy_fr_ite (sy_fr_end e) ((sy_fr_ite ((sy_fr_cond (sy_fr_end e))) (sy_fr_end e))))
theorem jzoX9_partnerOf (a1 : Int32) (M : sy_M) : sy_fr (jW_X9_partnerOf) M (jfX9_partnerOf a1 M) := jzX9_partnerOf a1 M sy_eqw_refl
def jW_X11_pairs : List (Nat × Option Nat) := [(133, some 0), (50, none), (51, none), (53, some 3), (53, some 4), (54, none), (55, none), (56, none)]
theorem jzX11_pairs_10 {M0 : sy_M} : ∀ (a1 : Int32) (M : sy_M), sy_eqw (jW_X11_pairs) M0 M → sy_fr (jW_X11_pairs) M0 (jfX11_pairs_10 a1 M) := by
  intro a1 M e
  exact (sy_fr_bv (sy_fr_up e (jzoX8_learn _ _) (sy_subw_ix [1, 2] rfl)) (fun _ e1 => (sy_fr_bv (sy_fr_up e1 (jzoX9_solve _ _) (sy_subw_ix [3, 4, 5, 6, 7] rfl)) (fun _ e2 => (sy_fr_ite (sy_fr_end e2) ((sy_fr_bi (sy_fr_up e2 (jzoX9_partnerOf _ _) (sy_subw_ix [] rfl)) (fun _ _ e3 => sy_fr_end e3))))))))
theorem jzX11_pairs {M0 : sy_M} : ∀ (a1 : Int32) (M : sy_M), sy_eqw (jW_X11_pairs) M0 M → sy_fr (jW_X11_pairs) M0 (jfX11_pairs a1 M) := by
  intro a1 M e
  exact (sy_fr_ite (jzX11_pairs_10  _ _ e) ((sy_fr_bv (sy_fr_up e (jzoX11_checkLodger _ _) (sy_subw_ix [0] rfl)) (fun _ e1 => jzX11_pairs_10  _ _ e1))))
theorem jzoX11_pairs (a1 : Int32) (M : sy_M) : sy_fr (jW_X11_pairs) M (jfX11_pairs a1 M) := jzX11_pairs a1 M sy_eqw_refl
def jW_L_pairs : List (Nat × Option Nat) := [(132, none), (133, some 0), (50, none), (51, none), (53, some 3), (53, some 4), (54, none), (55, none), (56, none)]
theorem jzL_pairs {M0 : sy_M} : ∀ (a1 : Int32) (M : sy_M), sy_eqw (jW_L_pairs) M0 M → sy_fr (jW_L_pairs) M0 (jfL_pairs a1 M) := by
  intro a1 M e
  exact (sy_fr_hi (sy_fr_up e (jzoX11_pairs _ _) (sy_subw_ix [1, 2, 3, 4, 5, 6, 7, 8] rfl)) (fun _ _ e1 => sy_fr_end (sy_eqw_wl e1 0 rfl)) (fun _ _ e1 => (sy_fr_ite (sy_fr_end e1) sy_fr_none)))
theorem jzoL_pairs (a1 : Int32) (M : sy_M) : sy_fr (jW_L_pairs) M (jfL_pairs a1 M) := jzL_pairs a1 M sy_eqw_refl
def jW_X12_lowest : List (Nat × Option Nat) := []
theorem jzX12_lowest_2 {M0 : sy_M} : ∀ n : Nat, ∀ (a0 : Int32) (a1 : Int32) (M : sy_M), sy_eqw (jW_X12_lowest) M0 M → sy_fr (jW_X12_lowest) M0 (jfX12_lowest_2 n a0 a1 M) := by
  intro n
  induction n with
  | zero => intro a0 a1 M e; exact sy_fr_none
  | succ n z2 => intro a0 a1 M e; exact (sy_fr_bi (sy_fr_up e (jzoX12_isOf _ _ _) (sy_subw_ix [] rfl)) (fun _ _ e1 => (sy_fr_ite (z2 _ _ _ e1) (sy_fr_end e1))))
theorem jzX12_lowest {M0 : sy_M} : ∀ (a0 : Int32) (M : sy_M), sy_eqw (jW_X12_lowest) M0 M → sy_fr (jW_X12_lowest) M0 (jfX12_lowest a0 M) := by
  intro a0 M e
  exact jzX12_lowest_2  6000 _ _ _ e
theorem jzoX12_lowest (a0 : Int32) (M : sy_M) : sy_fr (jW_X12_lowest) M (jfX12_lowest a0 M) := jzX12_lowest a0 M sy_eqw_refl
def jW_X12_together : List (Nat × Option Nat) := []
theorem jzX12_together_38 {M0 : sy_M} {k5 : Int32 → Int32 → Int32 → Int32 → sy_M → sy_O} (z5 : ∀ (a1 : Int32) (a2 : Int32) (a3 : Int32) (a4 : Int32) (M : sy_M), sy_eqw (jW_X12_together) M0 M → sy_fr (jW_X12_together) M0 (k5 a1 a2 a3 a4 M)) : ∀ (a1 : Int32) (a2 : Int32) (a4 : Int32) (s0 : Int32) (s1 : Int32) (M : sy_M), sy_eqw (jW_X12_together) M0 M → sy_fr (jW_X12_together) M0 (jfX12_together_38 k5 a1 a2 a4 s0 s1 M) := by
  intro a1 a2 a4 s0 s1 M e
  exact z5 _ _ _ _ _ e
theorem jzX12_together_37 {M0 : sy_M} {k5 : Int32 → Int32 → Int32 → Int32 → sy_M → sy_O} (z5 : ∀ (a1 : Int32) (a2 : Int32) (a3 : Int32) (a4 : Int32) (M : sy_M), sy_eqw (jW_X12_together) M0 M → sy_fr (jW_X12_together) M0 (k5 a1 a2 a3 a4 M)) : ∀ (a1 : Int32) (a2 : Int32) (a4 : Int32) (s0 : Int32) (M : sy_M), sy_eqw (jW_X12_together) M0 M → sy_fr (jW_X12_together) M0 (jfX12_together_37 k5 a1 a2 a4 s0 M) := by
  intro a1 a2 a4 s0 M e
  exact jzX12_together_38 z5 _ _ _ _ _ _ e
theorem jzX12_together_5 {M0 : sy_M} : ∀ n : Nat, ∀ (a1 : Int32) (a2 : Int32) (a3 : Int32) (a4 : Int32) (M : sy_M), sy_eqw (jW_X12_together) M0 M → sy_fr (jW_X12_together) M0 (jfX12_together_5 n a1 a2 a3 a4 M) := by
  intro n
  induction n with
  | zero => intro a1 a2 a3 a4 M e; exact sy_fr_none
  | succ n z5 => intro a1 a2 a3 a4 M e; exact (sy_fr_ite ((sy_fr_bi (sy_fr_up e (jzoX12_atHome _ _ _) (sy_subw_ix [] rfl)) (fun _ _ e1 => (sy_fr_ite (jzX12_together_37 z5 _ _ _ _ _ e1) ((sy_fr_bi (sy_fr_up e1 (jzoX12_atHome _ _ _) (sy_subw_ix [] rfl)) (fun _ _ e2 => (sy_fr_ite (jzX12_together_37 z5 _ _ _ _ _ e2) (jzX12_together_38 z5 _ _ _ _ _ _ e2))))))))) (sy_fr_end e))
theorem jzX12_together {M0 : sy_M} : ∀ (a1 : Int32) (a2 : Int32) (M : sy_M), sy_eqw (jW_X12_together) M0 M → sy_fr (jW_X12_together) M0 (jfX12_together a1 a2 M) := by
  intro a1 a2 M e
  exact jzX12_together_5  6000 _ _ _ _ _ e
theorem jzoX12_together (a1 : Int32) (a2 : Int32) (M : sy_M) : sy_fr (jW_X12_together) M (jfX12_together a1 a2 M) := jzX12_together a1 a2 M sy_eqw_refl
def jW_X12_allBest : List (Nat × Option Nat) := [(130, none)]
theorem jzX12_allBest_103 {M0 : sy_M} {k9 : Int32 → sy_M → sy_O} (z9 : ∀ (a1 : Int32) (M : sy_M), sy_eqw (jW_X12_allBest) M0 M → sy_fr (jW_X12_allBest) M0 (k9 a1 M)) {k47 : Int32 → Int32 → Int32 → Int32 → sy_M → sy_O} (z47 : ∀ (a1 : Int32) (a2 : Int32) (a3 : Int32) (a4 : Int32) (M : sy_M), sy_eqw (jW_X12_allBest) M0 M → sy_fr (jW_X12_allBest) M0 (k47 a1 a2 a3 a4 M)) : ∀ (a1 : Int32) (a2 : Int32) (a3 : Int32) (a4 : Int32) (M : sy_M), sy_eqw (jW_X12_allBest) M0 M → sy_fr (jW_X12_allBest) M0 (jfX12_allBest_103 k9 k47 a1 a2 a3 a4 M) := by
  intro a1 a2 a3 a4 M e
  exact z47 _ _ _ _ _ e
theorem jzX12_allBest_47 {M0 : sy_M} {k9 : Int32 → sy_M → sy_O} (z9 : ∀ (a1 : Int32) (M : sy_M), sy_eqw (jW_X12_allBest) M0 M → sy_fr (jW_X12_allBest) M0 (k9 a1 M)) : ∀ n : Nat, ∀ (a1 : Int32) (a2 : Int32) (a3 : Int32) (a4 : Int32) (M : sy_M), sy_eqw (jW_X12_allBest) M0 M → sy_fr (jW_X12_allBest) M0 (jfX12_allBest_47 k9 n a1 a2 a3 a4 M) := by
  intro n
  induction n with
  | zero => intro a1 a2 a3 a4 M e; exact sy_fr_none
  | succ n z47 => intro a1 a2 a3 a4 M e; exact (sy_fr_ite ((sy_fr_bi (sy_fr_up e (jzoX12_isOf _ _ _) (sy_subw_ix [] rfl)) (fun _ _ e1 => (sy_fr_ite (jzX12_allBest_103 z9 z47 _ _ _ _ _ e1) ((sy_fr_cond ((sy_fr_bi (sy_fr_up e1 (jzoX12_together _ _ _) (sy_subw_ix [] rfl)) (fun _ _ e2 => (sy_fr_cond ((sy_fr_bi (sy_fr_up e2 (jzoX12_greater _ _ _) (sy_subw_ix [] rfl)) (fun _ _ e3 => (sy_fr_cond (jzX12_allBest_103 z9 z47 _ _ _ _ _ (sy_eqw_ua e3 0 rfl)))))))))))))))) (z9 _ _ e))
theorem jzX12_allBest_9 {M0 : sy_M} : ∀ n : Nat, ∀ (a1 : Int32) (M : sy_M), sy_eqw (jW_X12_allBest) M0 M → sy_fr (jW_X12_allBest) M0 (jfX12_allBest_9 n a1 M) := by
  intro n
  induction n with
  | zero => intro a1 M e; exact sy_fr_none
  | succ n z9 => intro a1 M e; exact (sy_fr_bi (sy_fr_up e (jzoX12_all  _) (sy_subw_ix [] rfl)) (fun _ _ e1 => (sy_fr_ite (sy_fr_end e1) ((sy_fr_bi (sy_fr_up e1 (jzoX12_lowest _ _) (sy_subw_ix [] rfl)) (fun _ _ e2 => (sy_fr_cond ((sy_fr_cond (jzX12_allBest_47 z9 6000 _ _ _ _ _ (sy_eqw_ua e2 0 rfl)))))))))))
theorem jzX12_allBest {M0 : sy_M} : ∀ (M : sy_M), sy_eqw (jW_X12_allBest) M0 M → sy_fr (jW_X12_allBest) M0 (jfX12_allBest M) := by
  intro  M e
  exact jzX12_allBest_9  6000 _ _ (sy_eqw_ua e 0 rfl)
theorem jzoX12_allBest (M : sy_M) : sy_fr (jW_X12_allBest) M (jfX12_allBest M) := jzX12_allBest  M sy_eqw_refl
def jW_X12_pairs : List (Nat × Option Nat) := [(121, some 0), (130, none)]
theorem jzX12_pairs_195 {M0 : sy_M} {k55 : Int32 → Int32 → sy_M → sy_O} (z55 : ∀ (a1 : Int32) (a2 : Int32) (M : sy_M), sy_eqw (jW_X12_pairs) M0 M → sy_fr (jW_X12_pairs) M0 (k55 a1 a2 M)) : ∀ (a1 : Int32) (s0 : Int32) (M : sy_M), sy_eqw (jW_X12_pairs) M0 M → sy_fr (jW_X12_pairs) M0 (jfX12_pairs_195 k55 a1 s0 M) := by
  intro a1 s0 M e
  exact z55 _ _ _ e
theorem jzX12_pairs_159 {M0 : sy_M} {k55 : Int32 → Int32 → sy_M → sy_O} (z55 : ∀ (a1 : Int32) (a2 : Int32) (M : sy_M), sy_eqw (jW_X12_pairs) M0 M → sy_fr (jW_X12_pairs) M0 (k55 a1 a2 M)) : ∀ (a1 : Int32) (a3 : Int32) (a4 : Int32) (a5 : Int32) (M : sy_M), sy_eqw (jW_X12_pairs) M0 M → sy_fr (jW_X12_pairs) M0 (jfX12_pairs_159 k55 a1 a3 a4 a5 M) := by
  intro a1 a3 a4 a5 M e
  exact (sy_fr_ite (sy_fr_end e) ((sy_fr_ite (sy_fr_end e) ((sy_fr_ite (jzX12_pairs_195 z55 _ _ _ e) (jzX12_pairs_195 z55 _ _ _ e))))))
theorem jzX12_pairs_153 {M0 : sy_M} {k55 : Int32 → Int32 → sy_M → sy_O} (z55 : ∀ (a1 : Int32) (a2 : Int32) (M : sy_M), sy_eqw (jW_X12_pairs) M0 M → sy_fr (jW_X12_pairs) M0 (k55 a1 a2 M)) {k86 : Int32 → Int32 → Int32 → Int32 → Int32 → Int32 → sy_M → sy_O} (z86 : ∀ (a1 : Int32) (a2 : Int32) (a3 : Int32) (a4 : Int32) (a5 : Int32) (a6 : Int32) (M : sy_M), sy_eqw (jW_X12_pairs) M0 M → sy_fr (jW_X12_pairs) M0 (k86 a1 a2 a3 a4 a5 a6 M)) : ∀ (a1 : Int32) (a2 : Int32) (a3 : Int32) (a4 : Int32) (a5 : Int32) (a6 : Int32) (M : sy_M), sy_eqw (jW_X12_pairs) M0 M → sy_fr (jW_X12_pairs) M0 (jfX12_pairs_153 k55 k86 a1 a2 a3 a4 a5 a6 M) := by
  intro a1 a2 a3 a4 a5 a6 M e
  exact z86 _ _ _ _ _ _ _ e
theorem jzX12_pairs_149 {M0 : sy_M} {k55 : Int32 → Int32 → sy_M → sy_O} (z55 : ∀ (a1 : Int32) (a2 : Int32) (M : sy_M), sy_eqw (jW_X12_pairs) M0 M → sy_fr (jW_X12_pairs) M0 (k55 a1 a2 M)) {k86 : Int32 → Int32 → Int32 → Int32 → Int32 → Int32 → sy_M → sy_O} (z86 : ∀ (a1 : Int32) (a2 : Int32) (a3 : Int32) (a4 : Int32) (a5 : Int32) (a6 : Int32) (M : sy_M), sy_eqw (jW_X12_pairs) M0 M → sy_fr (jW_X12_pairs) M0 (k86 a1 a2 a3 a4 a5 a6 M)) : ∀ (a1 : Int32) (a2 : Int32) (a3 : Int32) (a4 : Int32) (a6 : Int32) (M : sy_M), sy_eqw (jW_X12_pairs) M0 M → sy_fr (jW_X12_pairs) M0 (jfX12_pairs_149 k55 k86 a1 a2 a3 a4 a6 M) := by
  intro a1 a2 a3 a4 a6 M e
  exact jzX12_pairs_153 z55 z86 _ _ _ _ _ _ _ e
theorem jzX12_pairs_86 {M0 : sy_M} {k55 : Int32 → Int32 → sy_M → sy_O} (z55 : ∀ (a1 : Int32) (a2 : Int32) (M : sy_M), sy_eqw (jW_X12_pairs) M0 M → sy_fr (jW_X12_pairs) M0 (k55 a1 a2 M)) : ∀ n : Nat, ∀ (a1 : Int32) (a2 : Int32) (a3 : Int32) (a4 : Int32) (a5 : Int32) (a6 : Int32) (M : sy_M), sy_eqw (jW_X12_pairs) M0 M → sy_fr (jW_X12_pairs) M0 (jfX12_pairs_86 k55 n a1 a2 a3 a4 a5 a6 M) := by
  intro n
  induction n with
  | zero => intro a1 a2 a3 a4 a5 a6 M e; exact sy_fr_none
  | succ n z86 => intro a1 a2 a3 a4 a5 a6 M e; exact (sy_fr_ite ((sy_fr_cond ((sy_fr_cond ((sy_fr_ite (jzX12_pairs_159 z55 _ _ _ _ _ e) ((sy_fr_bi (sy_fr_up e (jzoX12_isOf _ _ _) (sy_subw_ix [] rfl)) (fun _ _ e1 => (sy_fr_ite (jzX12_pairs_153 z55 z86 _ _ _ _ _ _ _ e1) ((sy_fr_bi (sy_fr_up e1 (jzoX12_together _ _ _) (sy_subw_ix [] rfl)) (fun _ _ e2 => (sy_fr_cond ((sy_fr_cond ((sy_fr_ite (jzX12_pairs_149 z55 z86 _ _ _ _ _ _ e2) (jzX12_pairs_153 z55 z86 _ _ _ _ _ _ _ e2))))))))))))))))))) (jzX12_pairs_159 z55 _ _ _ _ _ e))
theorem jzX12_pairs_55 {M0 : sy_M} : ∀ n : Nat, ∀ (a1 : Int32) (a2 : Int32) (M : sy_M), sy_eqw (jW_X12_pairs) M0 M → sy_fr (jW_X12_pairs) M0 (jfX12_pairs_55 n a1 a2 M) := by
  intro n
  induction n with
  | zero => intro a1 a2 M e; exact sy_fr_none
  | succ n z55 => intro a1 a2 M e; exact (sy_fr_ite (sy_fr_end e) ((sy_fr_bi (sy_fr_up e (jzoX12_lowest _ _) (sy_subw_ix [] rfl)) (fun _ _ e1 => jzX12_pairs_86 z55 6000 _ _ _ _ _ _ _ e1))))
theorem jzX12_pairs_19 {M0 : sy_M} : ∀ (a1 : Int32) (s0 : Int32) (M : sy_M), sy_eqw (jW_X12_pairs) M0 M → sy_fr (jW_X12_pairs) M0 (jfX12_pairs_19 a1 s0 M) := by
  intro a1 s0 M e
  exact (sy_fr_ite (sy_fr_end (sy_eqw_uf e 0 rfl)) ((sy_fr_bv (sy_fr_up (sy_eqw_uf e 0 rfl) (jzoX12_allBest  _) (sy_subw_ix [1] rfl)) (fun _ e1 => (sy_fr_ite ((sy_fr_bi (sy_fr_up e1 (jzoX12_all  _) (sy_subw_ix [] rfl)) (fun _ _ e3 => (sy_fr_cond (sy_fr_end e3))))) ((sy_fr_bi (sy_fr_up e1 (jzoX12_all  _) (sy_subw_ix [] rfl)) (fun _ _ e2 => jzX12_pairs_55  6000 _ _ _ e2))))))))
theorem jzX12_pairs_18 {M0 : sy_M} : ∀ (a1 : Int32) (M : sy_M), sy_eqw (jW_X12_pairs) M0 M → sy_fr (jW_X12_pairs) M0 (jfX12_pairs_18 a1 M) := by
  intro a1 M e
  exact jzX12_pairs_19  _ _ _ e
theorem jzX12_pairs {M0 : sy_M} : ∀ (a1 : Int32) (M : sy_M), sy_eqw (jW_X12_pairs) M0 M → sy_fr (jW_X12_pairs) M0 (jfX12_pairs a1 M) := by
  intro a1 M e
  exact (sy_fr_ite (jzX12_pairs_18  _ _ e) ((sy_fr_bi (sy_fr_up e (jzoX12_isLodger _ _) (sy_subw_ix [] rfl)) (fun _ _ e1 => (sy_fr_ite (jzX12_pairs_19  _ _ _ e1) (jzX12_pairs_18  _ _ e1))))))
theorem jzoX12_pairs (a1 : Int32) (M : sy_M) : sy_fr (jW_X12_pairs) M (jfX12_pairs a1 M) := jzX12_pairs a1 M sy_eqw_refl
def jW_X11_isKeeping : List (Nat × Option Nat) := []
theorem jzX11_isKeeping_29 {M0 : sy_M} {k2 : Int32 → Int32 → sy_M → sy_O} (z2 : ∀ (a1 : Int32) (a2 : Int32) (M : sy_M), sy_eqw (jW_X11_isKeeping) M0 M → sy_fr (jW_X11_isKeeping) M0 (k2 a1 a2 M)) : ∀ (a1 : Int32) (a2 : Int32) (M : sy_M), sy_eqw (jW_X11_isKeeping) M0 M → sy_fr (jW_X11_isKeeping) M0 (jfX11_isKeeping_29 k2 a1 a2 M) := by
  intro a1 a2 M e
  exact z2 _ _ _ e
theorem jzX11_isKeeping_2 {M0 : sy_M} : ∀ n : Nat, ∀ (a1 : Int32) (a2 : Int32) (M : sy_M), sy_eqw (jW_X11_isKeeping) M0 M → sy_fr (jW_X11_isKeeping) M0 (jfX11_isKeeping_2 n a1 a2 M) := by
  intro n
  induction n with
  | zero => intro a1 a2 M e; exact sy_fr_none
  | succ n z2 => intro a1 a2 M e; exact (sy_fr_ite ((sy_fr_bi (sy_fr_up e (jzoX8_presentAt _ _) (sy_subw_ix [] rfl)) (fun _ _ e1 => (sy_fr_ite (jzX11_isKeeping_29 z2 _ _ _ e1) ((sy_fr_ite (sy_fr_end e1) (jzX11_isKeeping_29 z2 _ _ _ e1))))))) (sy_fr_end e))
theorem jzX11_isKeeping {M0 : sy_M} : ∀ (a1 : Int32) (M : sy_M), sy_eqw (jW_X11_isKeeping) M0 M → sy_fr (jW_X11_isKeeping) M0 (jfX11_isKeeping a1 M) := by
  intro a1 M e
  exact jzX11_isKeeping_2  6000 _ _ _ e
theorem jzoX11_isKeeping (a1 : Int32) (M : sy_M) : sy_fr (jW_X11_isKeeping) M (jfX11_isKeeping a1 M) := jzX11_isKeeping a1 M sy_eqw_refl
def jW_X11_keepers : List (Nat × Option Nat) := [(50, none), (51, none)]
theorem jzX11_keepers_37 {M0 : sy_M} {k15 : Int32 → Int32 → sy_M → sy_O} (z15 : ∀ (a1 : Int32) (a2 : Int32) (M : sy_M), sy_eqw (jW_X11_keepers) M0 M → sy_fr (jW_X11_keepers) M0 (k15 a1 a2 M)) : ∀ (a1 : Int32) (a2 : Int32) (M : sy_M), sy_eqw (jW_X11_keepers) M0 M → sy_fr (jW_X11_keepers) M0 (jfX11_keepers_37 k15 a1 a2 M) := by
  intro a1 a2 M e
  exact z15 _ _ _ e
theorem jzX11_keepers_15 {M0 : sy_M} : ∀ n : Nat, ∀ (a1 : Int32) (a2 : Int32) (M : sy_M), sy_eqw (jW_X11_keepers) M0 M → sy_fr (jW_X11_keepers) M0 (jfX11_keepers_15 n a1 a2 M) := by
  intro n
  induction n with
  | zero => intro a1 a2 M e; exact sy_fr_none
  | succ n z15 => intro a1 a2 M e; exact (sy_fr_bi (sy_fr_up e (jzoX11_everybody  _) (sy_subw_ix [] rfl)) (fun _ _ e1 => (sy_fr_ite (sy_fr_end e1) ((sy_fr_bi (sy_fr_up e1 (jzoX11_isKeeping _ _) (sy_subw_ix [] rfl)) (fun _ _ e2 => (sy_fr_ite (jzX11_keepers_37 z15 _ _ _ e2) ((sy_fr_bi (sy_fr_up e2 (jzoX11_fewer _ _ _) (sy_subw_ix [] rfl)) (fun _ _ e3 => jzX11_keepers_37 z15 _ _ _ e3))))))))))
theorem jzX11_keepers {M0 : sy_M} : ∀ (M : sy_M), sy_eqw (jW_X11_keepers) M0 M → sy_fr (jW_X11_keepers) M0 (jfX11_keepers M) := by
  intro  M e
  exact (sy_fr_bv (sy_fr_up e (jzoX8_learn _ _) (sy_subw_ix [0, 1] rfl)) (fun _ e1 => jzX11_keepers_15  6000 _ _ _ e1))
theorem jzoX11_keepers (M : sy_M) : sy_fr (jW_X11_keepers) M (jfX11_keepers M) := jzX11_keepers  M sy_eqw_refl
def jW_X12_keepers : List (Nat × Option Nat) := [(121, some 0)]
theorem jzX12_keepers_91 {M0 : sy_M} {k9 : Int32 → Int32 → sy_M → sy_O} (z9 : ∀ (a1 : Int32) (a2 : Int32) (M : sy_M), sy_eqw (jW_X12_keepers) M0 M → sy_fr (jW_X12_keepers) M0 (k9 a1 a2 M)) : ∀ (a1 : Int32) (a2 : Int32) (M : sy_M), sy_eqw (jW_X12_keepers) M0 M → sy_fr (jW_X12_keepers) M0 (jfX12_keepers_91 k9 a1 a2 M) := by
  intro a1 a2 M e
  exact z9 _ _ _ e
theorem jzX12_keepers_85 {M0 : sy_M} {k9 : Int32 → Int32 → sy_M → sy_O} (z9 : ∀ (a1 : Int32) (a2 : Int32) (M : sy_M), sy_eqw (jW_X12_keepers) M0 M → sy_fr (jW_X12_keepers) M0 (k9 a1 a2 M)) : ∀ (a1 : Int32) (a2 : Int32) (a3 : Int32) (M : sy_M), sy_eqw (jW_X12_keepers) M0 M → sy_fr (jW_X12_keepers) M0 (jfX12_keepers_85 k9 a1 a2 a3 M) := by
  intro a1 a2 a3 M e
  exact (sy_fr_ite (jzX12_keepers_91 z9 _ _ _ e) (jzX12_keepers_91 z9 _ _ _ e))
theorem jzX12_keepers_78 {M0 : sy_M} {k9 : Int32 → Int32 → sy_M → sy_O} (z9 : ∀ (a1 : Int32) (a2 : Int32) (M : sy_M), sy_eqw (jW_X12_keepers) M0 M → sy_fr (jW_X12_keepers) M0 (k9 a1 a2 M)) {k42 : Int32 → Int32 → Int32 → Int32 → sy_M → sy_O} (z42 : ∀ (a1 : Int32) (a2 : Int32) (a3 : Int32) (a4 : Int32) (M : sy_M), sy_eqw (jW_X12_keepers) M0 M → sy_fr (jW_X12_keepers) M0 (k42 a1 a2 a3 a4 M)) : ∀ (a1 : Int32) (a2 : Int32) (a4 : Int32) (s0 : Int32) (M : sy_M), sy_eqw (jW_X12_keepers) M0 M → sy_fr (jW_X12_keepers) M0 (jfX12_keepers_78 k9 k42 a1 a2 a4 s0 M) := by
  intro a1 a2 a4 s0 M e
  exact z42 _ _ _ _ _ e
theorem jzX12_keepers_73 {M0 : sy_M} {k9 : Int32 → Int32 → sy_M → sy_O} (z9 : ∀ (a1 : Int32) (a2 : Int32) (M : sy_M), sy_eqw (jW_X12_keepers) M0 M → sy_fr (jW_X12_keepers) M0 (k9 a1 a2 M)) {k42 : Int32 → Int32 → Int32 → Int32 → sy_M → sy_O} (z42 : ∀ (a1 : Int32) (a2 : Int32) (a3 : Int32) (a4 : Int32) (M : sy_M), sy_eqw (jW_X12_keepers) M0 M → sy_fr (jW_X12_keepers) M0 (k42 a1 a2 a3 a4 M)) : ∀ (a1 : Int32) (a2 : Int32) (a4 : Int32) (M : sy_M), sy_eqw (jW_X12_keepers) M0 M → sy_fr (jW_X12_keepers) M0 (jfX12_keepers_73 k9 k42 a1 a2 a4 M) := by
  intro a1 a2 a4 M e
  exact jzX12_keepers_78 z9 z42 _ _ _ _ _ e
theorem jzX12_keepers_42 {M0 : sy_M} {k9 : Int32 → Int32 → sy_M → sy_O} (z9 : ∀ (a1 : Int32) (a2 : Int32) (M : sy_M), sy_eqw (jW_X12_keepers) M0 M → sy_fr (jW_X12_keepers) M0 (k9 a1 a2 M)) : ∀ n : Nat, ∀ (a1 : Int32) (a2 : Int32) (a3 : Int32) (a4 : Int32) (M : sy_M), sy_eqw (jW_X12_keepers) M0 M → sy_fr (jW_X12_keepers) M0 (jfX12_keepers_42 k9 n a1 a2 a3 a4 M) := by
  intro n
  induction n with
  | zero => intro a1 a2 a3 a4 M e; exact sy_fr_none
  | succ n z42 => intro a1 a2 a3 a4 M e; exact (sy_fr_ite ((sy_fr_ite (jzX12_keepers_85 z9 _ _ _ _ e) ((sy_fr_bi (sy_fr_up e (jzoX12_homeIn _ _) (sy_subw_ix [] rfl)) (fun _ _ e1 => (sy_fr_ite (jzX12_keepers_73 z9 z42 _ _ _ _ e1) ((sy_fr_bi (sy_fr_up e1 (jzoX12_homeIn _ _) (sy_subw_ix [] rfl)) (fun _ _ e2 => (sy_fr_ite (jzX12_keepers_78 z9 z42 _ _ _ _ _ e2) (jzX12_keepers_73 z9 z42 _ _ _ _ e2))))))))))) (jzX12_keepers_85 z9 _ _ _ _ e))
theorem jzX12_keepers_38 {M0 : sy_M} {k9 : Int32 → Int32 → sy_M → sy_O} (z9 : ∀ (a1 : Int32) (a2 : Int32) (M : sy_M), sy_eqw (jW_X12_keepers) M0 M → sy_fr (jW_X12_keepers) M0 (k9 a1 a2 M)) : ∀ (a1 : Int32) (a2 : Int32) (s0 : Int32) (M : sy_M), sy_eqw (jW_X12_keepers) M0 M → sy_fr (jW_X12_keepers) M0 (jfX12_keepers_38 k9 a1 a2 s0 M) := by
  intro a1 a2 s0 M e
  exact jzX12_keepers_42 z9 6000 _ _ _ _ _ e
theorem jzX12_keepers_33 {M0 : sy_M} {k9 : Int32 → Int32 → sy_M → sy_O} (z9 : ∀ (a1 : Int32) (a2 : Int32) (M : sy_M), sy_eqw (jW_X12_keepers) M0 M → sy_fr (jW_X12_keepers) M0 (k9 a1 a2 M)) : ∀ (a1 : Int32) (a2 : Int32) (M : sy_M), sy_eqw (jW_X12_keepers) M0 M → sy_fr (jW_X12_keepers) M0 (jfX12_keepers_33 k9 a1 a2 M) := by
  intro a1 a2 M e
  exact jzX12_keepers_38 z9 _ _ _ _ e
theorem jzX12_keepers_9 {M0 : sy_M} : ∀ n : Nat, ∀ (a1 : Int32) (a2 : Int32) (M : sy_M), sy_eqw (jW_X12_keepers) M0 M → sy_fr (jW_X12_keepers) M0 (jfX12_keepers_9 n a1 a2 M) := by
  intro n
  induction n with
  | zero => intro a1 a2 M e; exact sy_fr_none
  | succ n z9 => intro a1 a2 M e; exact (sy_fr_bi (sy_fr_up e (jzoX12_all  _) (sy_subw_ix [] rfl)) (fun _ _ e1 => (sy_fr_ite (sy_fr_end e1) ((sy_fr_ite (jzX12_keepers_33 z9 _ _ _ e1) ((sy_fr_bi (sy_fr_up e1 (jzoX12_bits _ _) (sy_subw_ix [] rfl)) (fun _ _ e2 => (sy_fr_bi (sy_fr_up e2 (jzoX12_bits _ _) (sy_subw_ix [] rfl)) (fun _ _ e3 => (sy_fr_ite (jzX12_keepers_33 z9 _ _ _ e3) (jzX12_keepers_38 z9 _ _ _ _ e3))))))))))))
theorem jzX12_keepers {M0 : sy_M} : ∀ (M : sy_M), sy_eqw (jW_X12_keepers) M0 M → sy_fr (jW_X12_keepers) M0 (jfX12_keepers M) := by
  intro  M e
  exact jzX12_keepers_9  6000 _ _ _ (sy_eqw_uf e 0 rfl)
theorem jzoX12_keepers (M : sy_M) : sy_fr (jW_X12_keepers) M (jfX12_keepers M) := jzX12_keepers  M sy_eqw_refl
def jW_X11_carries : List (Nat × Option Nat) := []
theorem jzX11_carries_44 {M0 : sy_M} {k4 : Int32 → Int32 → Int32 → sy_M → sy_O} (z4 : ∀ (a1 : Int32) (a2 : Int32) (a3 : Int32) (M : sy_M), sy_eqw (jW_X11_carries) M0 M → sy_fr (jW_X11_carries) M0 (k4 a1 a2 a3 M)) : ∀ (a1 : Int32) (a3 : Int32) (s0 : Int32) (s1 : Int32) (M : sy_M), sy_eqw (jW_X11_carries) M0 M → sy_fr (jW_X11_carries) M0 (jfX11_carries_44 k4 a1 a3 s0 s1 M) := by
  intro a1 a3 s0 s1 M e
  exact z4 _ _ _ _ e
theorem jzX11_carries_4 {M0 : sy_M} : ∀ n : Nat, ∀ (a1 : Int32) (a2 : Int32) (a3 : Int32) (M : sy_M), sy_eqw (jW_X11_carries) M0 M → sy_fr (jW_X11_carries) M0 (jfX11_carries_4 n a1 a2 a3 M) := by
  intro n
  induction n with
  | zero => intro a1 a2 a3 M e; exact sy_fr_none
  | succ n z4 => intro a1 a2 a3 M e; exact (sy_fr_ite ((sy_fr_bi (sy_fr_up e (jzoX2_get _ _ _ _) (sy_subw_ix [] rfl)) (fun _ _ e1 => (sy_fr_ite (jzX11_carries_44 z4 _ _ _ _ _ e1) (jzX11_carries_44 z4 _ _ _ _ _ e1))))) ((sy_fr_ite (sy_fr_end e) (sy_fr_end e))))
theorem jzX11_carries {M0 : sy_M} : ∀ (a1 : Int32) (M : sy_M), sy_eqw (jW_X11_carries) M0 M → sy_fr (jW_X11_carries) M0 (jfX11_carries a1 M) := by
  intro a1 M e
  exact jzX11_carries_4  6000 _ _ _ _ e
theorem jzoX11_carries (a1 : Int32) (M : sy_M) : sy_fr (jW_X11_carries) M (jfX11_carries a1 M) := jzX11_carries a1 M sy_eqw_refl
def jW_X11_kettle : List (Nat × Option Nat) := []
theorem jzX11_kettle {M0 : sy_M} : ∀ (a1 : Int32) (M : sy_M), sy_eqw (jW_X11_kettle) M0 M → sy_fr (jW_X11_kettle) M0 (jfX11_kettle a1 M) := by
  intro a1 M e
  exact (sy_fr_bi (sy_fr_up e (jzoX11_carries _ _) (sy_subw_ix [] rfl)) (fun _ _ e1 => (sy_fr_cond (sy_fr_end e1))))
theorem jzoX11_kettle (a1 : Int32) (M : sy_M) : sy_fr (jW_X11_kettle) M (jfX11_kettle a1 M) := jzX11_kettle a1 M sy_eqw_refl
def jW_X12_carries : List (Nat × Option Nat) := []
theorem jzX12_carries {M0 : sy_M} : ∀ (a1 : Int32) (M : sy_M), sy_eqw (jW_X12_carries) M0 M → sy_fr (jW_X12_carries) M0 (jfX12_carries a1 M) := by
  intro a1 M e
  exact (sy_fr_bi (sy_fr_up e (jzoX12_all  _) (sy_subw_ix [] rfl)) (fun _ _ e1 => (sy_fr_bi (sy_fr_up e1 (jzoX12_fedOf _ _) (sy_subw_ix [] rfl)) (fun _ _ e2 => (sy_fr_bi (sy_fr_up e2 (jzoX12_all  _) (sy_subw_ix [] rfl)) (fun _ _ e3 => (sy_fr_bi (sy_fr_up e3 (jzoX12_fedOf _ _) (sy_subw_ix [] rfl)) (fun _ _ e4 => (sy_fr_ite (sy_fr_end e4) (sy_fr_end e4))))))))))
theorem jzoX12_carries (a1 : Int32) (M : sy_M) : sy_fr (jW_X12_carries) M (jfX12_carries a1 M) := jzX12_carries a1 M sy_eqw_refl
def jW_X12_kettle : List (Nat × Option Nat) := [(121, some 0)]
theorem jzX12_kettle {M0 : sy_M} : ∀ (a1 : Int32) (M : sy_M), sy_eqw (jW_X12_kettle) M0 M → sy_fr (jW_X12_kettle) M0 (jfX12_kettle a1 M) := by
  intro a1 M e
  exact (sy_fr_bi (sy_fr_up (sy_eqw_uf e 0 rfl) (jzoX12_carries _ _) (sy_subw_ix [] rfl)) (fun _ _ e1 => (sy_fr_cond (sy_fr_end e1))))
theorem jzoX12_kettle (a1 : Int32) (M : sy_M) : sy_fr (jW_X12_kettle) M (jfX12_kettle a1 M) := jzX12_kettle a1 M sy_eqw_refl
def jW_X11_swung : List (Nat × Option Nat) := []
theorem jzX11_swung_50 {M0 : sy_M} {k9 : Int32 → Int32 → Int32 → sy_M → sy_O} (z9 : ∀ (a2 : Int32) (a3 : Int32) (a4 : Int32) (M : sy_M), sy_eqw (jW_X11_swung) M0 M → sy_fr (jW_X11_swung) M0 (k9 a2 a3 a4 M)) : ∀ (a2 : Int32) (a3 : Int32) (a4 : Int32) (M : sy_M), sy_eqw (jW_X11_swung) M0 M → sy_fr (jW_X11_swung) M0 (jfX11_swung_50 k9 a2 a3 a4 M) := by
  intro a2 a3 a4 M e
  exact z9 _ _ _ _ e
theorem jzX11_swung_9 {M0 : sy_M} : ∀ n : Nat, ∀ (a2 : Int32) (a3 : Int32) (a4 : Int32) (M : sy_M), sy_eqw (jW_X11_swung) M0 M → sy_fr (jW_X11_swung) M0 (jfX11_swung_9 n a2 a3 a4 M) := by
  intro n
  induction n with
  | zero => intro a2 a3 a4 M e; exact sy_fr_none
  | succ n z9 => intro a2 a3 a4 M e; exact (sy_fr_bi (sy_fr_up e (jzoX11_everybody  _) (sy_subw_ix [] rfl)) (fun _ _ e1 => (sy_fr_ite (sy_fr_end e1) ((sy_fr_ite (jzX11_swung_50 z9 _ _ _ _ e1) ((sy_fr_bi (sy_fr_up e1 (jzoX11_carries _ _) (sy_subw_ix [] rfl)) (fun _ _ e2 => (sy_fr_ite (jzX11_swung_50 z9 _ _ _ _ e2) ((sy_fr_bi (sy_fr_up e2 (jzoX11_carries _ _) (sy_subw_ix [] rfl)) (fun _ _ e3 => (sy_fr_ite (jzX11_swung_50 z9 _ _ _ _ e3) (jzX11_swung_50 z9 _ _ _ _ e3))))))))))))))
theorem jzX11_swung {M0 : sy_M} : ∀ (a1 : Int32) (M : sy_M), sy_eqw (jW_X11_swung) M0 M → sy_fr (jW_X11_swung) M0 (jfX11_swung a1 M) := by
  intro a1 M e
  exact jzX11_swung_9  6000 _ _ _ _ e
theorem jzoX11_swung (a1 : Int32) (M : sy_M) : sy_fr (jW_X11_swung) M (jfX11_swung a1 M) := jzX11_swung a1 M sy_eqw_refl
def jW_X11_swings : List (Nat × Option Nat) := [(133, some 0)]
theorem jzX11_swings {M0 : sy_M} : ∀ (a1 : Int32) (M : sy_M), sy_eqw (jW_X11_swings) M0 M → sy_fr (jW_X11_swings) M0 (jfX11_swings a1 M) := by
  intro a1 M e
  exact (sy_fr_bv (sy_fr_up e (jzoX11_checkLodger _ _) (sy_subw_ix [0] rfl)) (fun _ e1 => (sy_fr_bi (sy_fr_up e1 (jzoX11_swung _ _) (sy_subw_ix [] rfl)) (fun _ _ e2 => sy_fr_end e2))))
theorem jzoX11_swings (a1 : Int32) (M : sy_M) : sy_fr (jW_X11_swings) M (jfX11_swings a1 M) := jzX11_swings a1 M sy_eqw_refl
def jW_L_swings : List (Nat × Option Nat) := [(132, none), (133, some 0)]
theorem jzL_swings {M0 : sy_M} : ∀ (a1 : Int32) (M : sy_M), sy_eqw (jW_L_swings) M0 M → sy_fr (jW_L_swings) M0 (jfL_swings a1 M) := by
  intro a1 M e
  exact (sy_fr_hi (sy_fr_up e (jzoX11_swings _ _) (sy_subw_ix [1] rfl)) (fun _ _ e1 => sy_fr_end (sy_eqw_wl e1 0 rfl)) (fun _ _ e1 => (sy_fr_ite (sy_fr_end e1) sy_fr_none)))
theorem jzoL_swings (a1 : Int32) (M : sy_M) : sy_fr (jW_L_swings) M (jfL_swings a1 M) := jzL_swings a1 M sy_eqw_refl
def jW_X12_swingsBy : List (Nat × Option Nat) := []
theorem jzX12_swingsBy {M0 : sy_M} : ∀ (a1 : Int32) (a2 : Int32) (M : sy_M), sy_eqw (jW_X12_swingsBy) M0 M → sy_fr (jW_X12_swingsBy) M0 (jfX12_swingsBy a1 a2 M) := by
  intro a1 a2 M e
  exact (sy_fr_bi (sy_fr_up e (jzoX12_isOf _ _ _) (sy_subw_ix [] rfl)) (fun _ _ e1 => (sy_fr_ite (sy_fr_end e1) ((sy_fr_bi (sy_fr_up e1 (jzoX12_carries _ _) (sy_subw_ix [] rfl)) (fun _ _ e2 => (sy_fr_ite (sy_fr_end e2) ((sy_fr_bi (sy_fr_up e2 (jzoX12_carries _ _) (sy_subw_ix [] rfl)) (fun _ _ e3 => (sy_fr_ite (sy_fr_end e3) (sy_fr_end e3))))))))))))
theorem jzoX12_swingsBy (a1 : Int32) (a2 : Int32) (M : sy_M) : sy_fr (jW_X12_swingsBy) M (jfX12_swingsBy a1 a2 M) := jzX12_swingsBy a1 a2 M sy_eqw_refl
def jW_X12_swingsOf : List (Nat × Option Nat) := []
theorem jzX12_swingsOf_27 {M0 : sy_M} {k4 : Int32 → Int32 → Int32 → sy_M → sy_O} (z4 : ∀ (a1 : Int32) (a2 : Int32) (a3 : Int32) (M : sy_M), sy_eqw (jW_X12_swingsOf) M0 M → sy_fr (jW_X12_swingsOf) M0 (k4 a1 a2 a3 M)) : ∀ (a1 : Int32) (a3 : Int32) (s0 : Int32) (s1 : Int32) (M : sy_M), sy_eqw (jW_X12_swingsOf) M0 M → sy_fr (jW_X12_swingsOf) M0 (jfX12_swingsOf_27 k4 a1 a3 s0 s1 M) := by
  intro a1 a3 s0 s1 M e
  exact z4 _ _ _ _ e
theorem jzX12_swingsOf_4 {M0 : sy_M} : ∀ n : Nat, ∀ (a1 : Int32) (a2 : Int32) (a3 : Int32) (M : sy_M), sy_eqw (jW_X12_swingsOf) M0 M → sy_fr (jW_X12_swingsOf) M0 (jfX12_swingsOf_4 n a1 a2 a3 M) := by
  intro n
  induction n with
  | zero => intro a1 a2 a3 M e; exact sy_fr_none
  | succ n z4 => intro a1 a2 a3 M e; exact (sy_fr_bi (sy_fr_up e (jzoX12_all  _) (sy_subw_ix [] rfl)) (fun _ _ e1 => (sy_fr_ite (sy_fr_end e1) ((sy_fr_bi (sy_fr_up e1 (jzoX12_swingsBy _ _ _) (sy_subw_ix [] rfl)) (fun _ _ e2 => (sy_fr_ite (jzX12_swingsOf_27 z4 _ _ _ _ _ e2) (jzX12_swingsOf_27 z4 _ _ _ _ _ e2))))))))
theorem jzX12_swingsOf {M0 : sy_M} : ∀ (a1 : Int32) (M : sy_M), sy_eqw (jW_X12_swingsOf) M0 M → sy_fr (jW_X12_swingsOf) M0 (jfX12_swingsOf a1 M) := by
  intro a1 M e
  exact jzX12_swingsOf_4  6000 _ _ _ _ e
theorem jzoX12_swingsOf (a1 : Int32) (M : sy_M) : sy_fr (jW_X12_swingsOf) M (jfX12_swingsOf a1 M) := jzX12_swingsOf a1 M sy_eqw_refl
def jW_X12_swings : List (Nat × Option Nat) := [(121, some 0)]
theorem jzX12_swings_14 {M0 : sy_M} : ∀ (a1 : Int32) (s0 : Int32) (M : sy_M), sy_eqw (jW_X12_swings) M0 M → sy_fr (jW_X12_swings) M0 (jfX12_swings_14 a1 s0 M) := by
  intro a1 s0 M e
  exact (sy_fr_ite (sy_fr_end (sy_eqw_uf e 0 rfl)) ((sy_fr_bi (sy_fr_up (sy_eqw_uf e 0 rfl) (jzoX12_swingsOf _ _) (sy_subw_ix [] rfl)) (fun _ _ e1 => sy_fr_end e1))))
theorem jzX12_swings {M0 : sy_M} : ∀ (a1 : Int32) (M : sy_M), sy_eqw (jW_X12_swings) M0 M → sy_fr (jW_X12_swings) M0 (jfX12_swings a1 M) := by
  intro a1 M e
  exact (sy_fr_bi (sy_fr_up e (jzoX12_isLodger _ _) (sy_subw_ix [] rfl)) (fun _ _ e1 => (sy_fr_ite (jzX12_swings_14  _ _ _ e1) (jzX12_swings_14  _ _ _ e1))))
theorem jzoX12_swings (a1 : Int32) (M : sy_M) : sy_fr (jW_X12_swings) M (jfX12_swings a1 M) := jzX12_swings a1 M sy_eqw_refl
def jW_X11_needsEach : List (Nat × Option Nat) := []
theorem jzX11_needsEach_37 {M0 : sy_M} {k2 : Int32 → Int32 → sy_M → sy_O} (z2 : ∀ (a1 : Int32) (a2 : Int32) (M : sy_M), sy_eqw (jW_X11_needsEach) M0 M → sy_fr (jW_X11_needsEach) M0 (k2 a1 a2 M)) : ∀ (a1 : Int32) (a2 : Int32) (M : sy_M), sy_eqw (jW_X11_needsEach) M0 M → sy_fr (jW_X11_needsEach) M0 (jfX11_needsEach_37 k2 a1 a2 M) := by
  intro a1 a2 M e
  exact z2 _ _ _ e
theorem jzX11_needsEach_2 {M0 : sy_M} : ∀ n : Nat, ∀ (a1 : Int32) (a2 : Int32) (M : sy_M), sy_eqw (jW_X11_needsEach) M0 M → sy_fr (jW_X11_needsEach) M0 (jfX11_needsEach_2 n a1 a2 M) := by
  intro n
  induction n with
  | zero => intro a1 a2 M e; exact sy_fr_none
  | succ n z2 => intro a1 a2 M e; exact (sy_fr_ite ((sy_fr_ite (jzX11_needsEach_37 z2 _ _ _ e) ((sy_fr_bi (sy_fr_up e (jzoX11_carries _ _) (sy_subw_ix [] rfl)) (fun _ _ e1 => (sy_fr_ite (jzX11_needsEach_37 z2 _ _ _ e1) (sy_fr_end e1))))))) (sy_fr_end e))
theorem jzX11_needsEach {M0 : sy_M} : ∀ (a1 : Int32) (M : sy_M), sy_eqw (jW_X11_needsEach) M0 M → sy_fr (jW_X11_needsEach) M0 (jfX11_needsEach a1 M) := by
  intro a1 M e
  exact jzX11_needsEach_2  6000 _ _ _ e
theorem jzoX11_needsEach (a1 : Int32) (M : sy_M) : sy_fr (jW_X11_needsEach) M (jfX11_needsEach a1 M) := jzX11_needsEach a1 M sy_eqw_refl
def jW_X11_minimal : List (Nat × Option Nat) := []
theorem jzX11_minimal_31 {M0 : sy_M} {k4 : Int32 → Int32 → sy_M → sy_O} (z4 : ∀ (a1 : Int32) (a2 : Int32) (M : sy_M), sy_eqw (jW_X11_minimal) M0 M → sy_fr (jW_X11_minimal) M0 (k4 a1 a2 M)) : ∀ (a1 : Int32) (a2 : Int32) (M : sy_M), sy_eqw (jW_X11_minimal) M0 M → sy_fr (jW_X11_minimal) M0 (jfX11_minimal_31 k4 a1 a2 M) := by
  intro a1 a2 M e
  exact z4 _ _ _ e
theorem jzX11_minimal_4 {M0 : sy_M} : ∀ n : Nat, ∀ (a1 : Int32) (a2 : Int32) (M : sy_M), sy_eqw (jW_X11_minimal) M0 M → sy_fr (jW_X11_minimal) M0 (jfX11_minimal_4 n a1 a2 M) := by
  intro n
  induction n with
  | zero => intro a1 a2 M e; exact sy_fr_none
  | succ n z4 => intro a1 a2 M e; exact (sy_fr_bi (sy_fr_up e (jzoX11_everybody  _) (sy_subw_ix [] rfl)) (fun _ _ e1 => (sy_fr_ite (sy_fr_end e1) ((sy_fr_bi (sy_fr_up e1 (jzoX11_carries _ _) (sy_subw_ix [] rfl)) (fun _ _ e2 => (sy_fr_ite (jzX11_minimal_31 z4 _ _ _ e2) ((sy_fr_bi (sy_fr_up e2 (jzoX11_needsEach _ _) (sy_subw_ix [] rfl)) (fun _ _ e3 => (sy_fr_ite (jzX11_minimal_31 z4 _ _ _ e3) (jzX11_minimal_31 z4 _ _ _ e3))))))))))))
theorem jzX11_minimal {M0 : sy_M} : ∀ (M : sy_M), sy_eqw (jW_X11_minimal) M0 M → sy_fr (jW_X11_minimal) M0 (jfX11_minimal M) := by
  intro  M e
  exact jzX11_minimal_4  6000 _ _ _ e
theorem jzoX11_minimal (M : sy_M) : sy_fr (jW_X11_minimal) M (jfX11_minimal M) := jzX11_minimal  M sy_eqw_refl
def jW_X12_isLeast : List (Nat × Option Nat) := []
theorem jzX12_isLeast_44 {M0 : sy_M} {k8 : Int32 → Int32 → Int32 → sy_M → sy_O} (z8 : ∀ (a1 : Int32) (a2 : Int32) (a3 : Int32) (M : sy_M), sy_eqw (jW_X12_isLeast) M0 M → sy_fr (jW_X12_isLeast) M0 (k8 a1 a2 a3 M)) : ∀ (a1 : Int32) (a3 : Int32) (s0 : Int32) (M : sy_M), sy_eqw (jW_X12_isLeast) M0 M → sy_fr (jW_X12_isLeast) M0 (jfX12_isLeast_44 k8 a1 a3 s0 M) := by
  intro a1 a3 s0 M e
  exact z8 _ _ _ _ e
theorem jzX12_isLeast_39 {M0 : sy_M} {k8 : Int32 → Int32 → Int32 → sy_M → sy_O} (z8 : ∀ (a1 : Int32) (a2 : Int32) (a3 : Int32) (M : sy_M), sy_eqw (jW_X12_isLeast) M0 M → sy_fr (jW_X12_isLeast) M0 (k8 a1 a2 a3 M)) : ∀ (a1 : Int32) (a3 : Int32) (M : sy_M), sy_eqw (jW_X12_isLeast) M0 M → sy_fr (jW_X12_isLeast) M0 (jfX12_isLeast_39 k8 a1 a3 M) := by
  intro a1 a3 M e
  exact jzX12_isLeast_44 z8 _ _ _ _ e
theorem jzX12_isLeast_8 {M0 : sy_M} : ∀ n : Nat, ∀ (a1 : Int32) (a2 : Int32) (a3 : Int32) (M : sy_M), sy_eqw (jW_X12_isLeast) M0 M → sy_fr (jW_X12_isLeast) M0 (jfX12_isLeast_8 n a1 a2 a3 M) := by
  intro n
  induction n with
  | zero => intro a1 a2 a3 M e; exact sy_fr_none
  | succ n z8 => intro a1 a2 a3 M e; exact (sy_fr_ite ((sy_fr_ite ((sy_fr_cond (sy_fr_end e))) ((sy_fr_bi (sy_fr_up e (jzoX12_isOf _ _ _) (sy_subw_ix [] rfl)) (fun _ _ e1 => (sy_fr_ite (jzX12_isLeast_39 z8 _ _ _ e1) ((sy_fr_bi (sy_fr_up e1 (jzoX12_swingsBy _ _ _) (sy_subw_ix [] rfl)) (fun _ _ e2 => (sy_fr_ite (jzX12_isLeast_44 z8 _ _ _ _ e2) (jzX12_isLeast_39 z8 _ _ _ e2))))))))))) ((sy_fr_cond (sy_fr_end e))))
theorem jzX12_isLeast {M0 : sy_M} : ∀ (a1 : Int32) (M : sy_M), sy_eqw (jW_X12_isLeast) M0 M → sy_fr (jW_X12_isLeast) M0 (jfX12_isLeast a1 M) := by
  intro a1 M e
  exact (sy_fr_bi (sy_fr_up e (jzoX12_carries _ _) (sy_subw_ix [] rfl)) (fun _ _ e1 => jzX12_isLeast_8  6000 _ _ _ _ e1))
theorem jzoX12_isLeast (a1 : Int32) (M : sy_M) : sy_fr (jW_X12_isLeast) M (jfX12_isLeast a1 M) := jzX12_isLeast a1 M sy_eqw_refl
def jW_X12_minimal : List (Nat × Option Nat) := [(121, some 0)]
theorem jzX12_minimal_31 {M0 : sy_M} {k9 : Int32 → Int32 → sy_M → sy_O} (z9 : ∀ (a1 : Int32) (a2 : Int32) (M : sy_M), sy_eqw (jW_X12_minimal) M0 M → sy_fr (jW_X12_minimal) M0 (k9 a1 a2 M)) : ∀ (a2 : Int32) (s0 : Int32) (s1 : Int32) (M : sy_M), sy_eqw (jW_X12_minimal) M0 M → sy_fr (jW_X12_minimal) M0 (jfX12_minimal_31 k9 a2 s0 s1 M) := by
  intro a2 s0 s1 M e
  exact z9 _ _ _ e
theorem jzX12_minimal_9 {M0 : sy_M} : ∀ n : Nat, ∀ (a1 : Int32) (a2 : Int32) (M : sy_M), sy_eqw (jW_X12_minimal) M0 M → sy_fr (jW_X12_minimal) M0 (jfX12_minimal_9 n a1 a2 M) := by
  intro n
  induction n with
  | zero => intro a1 a2 M e; exact sy_fr_none
  | succ n z9 => intro a1 a2 M e; exact (sy_fr_bi (sy_fr_up e (jzoX12_all  _) (sy_subw_ix [] rfl)) (fun _ _ e1 => (sy_fr_ite (sy_fr_end e1) ((sy_fr_bi (sy_fr_up e1 (jzoX12_isLeast _ _) (sy_subw_ix [] rfl)) (fun _ _ e2 => (sy_fr_ite (jzX12_minimal_31 z9 _ _ _ _ e2) (jzX12_minimal_31 z9 _ _ _ _ e2))))))))
theorem jzX12_minimal {M0 : sy_M} : ∀ (M : sy_M), sy_eqw (jW_X12_minimal) M0 M → sy_fr (jW_X12_minimal) M0 (jfX12_minimal M) := by
  intro  M e
  exact jzX12_minimal_9  6000 _ _ _ (sy_eqw_uf e 0 rfl)
theorem jzoX12_minimal (M : sy_M) : sy_fr (jW_X12_minimal) M (jfX12_minimal M) := jzX12_minimal  M sy_eqw_refl
def jW_X11_dummies : List (Nat × Option Nat) := []
theorem jzX11_dummies_29 {M0 : sy_M} {k4 : Int32 → Int32 → sy_M → sy_O} (z4 : ∀ (a1 : Int32) (a2 : Int32) (M : sy_M), sy_eqw (jW_X11_dummies) M0 M → sy_fr (jW_X11_dummies) M0 (k4 a1 a2 M)) : ∀ (a1 : Int32) (a2 : Int32) (M : sy_M), sy_eqw (jW_X11_dummies) M0 M → sy_fr (jW_X11_dummies) M0 (jfX11_dummies_29 k4 a1 a2 M) := by
  intro a1 a2 M e
  exact z4 _ _ _ e
theorem jzX11_dummies_4 {M0 : sy_M} : ∀ n : Nat, ∀ (a1 : Int32) (a2 : Int32) (M : sy_M), sy_eqw (jW_X11_dummies) M0 M → sy_fr (jW_X11_dummies) M0 (jfX11_dummies_4 n a1 a2 M) := by
  intro n
  induction n with
  | zero => intro a1 a2 M e; exact sy_fr_none
  | succ n z4 => intro a1 a2 M e; exact (sy_fr_ite ((sy_fr_bi (sy_fr_up e (jzoX11_swung _ _) (sy_subw_ix [] rfl)) (fun _ _ e1 => (sy_fr_ite (jzX11_dummies_29 z4 _ _ _ e1) (jzX11_dummies_29 z4 _ _ _ e1))))) (sy_fr_end e))
theorem jzX11_dummies {M0 : sy_M} : ∀ (M : sy_M), sy_eqw (jW_X11_dummies) M0 M → sy_fr (jW_X11_dummies) M0 (jfX11_dummies M) := by
  intro  M e
  exact jzX11_dummies_4  6000 _ _ _ e
theorem jzoX11_dummies (M : sy_M) : sy_fr (jW_X11_dummies) M (jfX11_dummies M) := jzX11_dummies  M sy_eqw_refl
def jW_X12_dummies : List (Nat × Option Nat) := [(121, some 0)]
theorem jzX12_dummies_35 {M0 : sy_M} {k9 : Int32 → Int32 → sy_M → sy_O} (z9 : ∀ (a1 : Int32) (a2 : Int32) (M : sy_M), sy_eqw (jW_X12_dummies) M0 M → sy_fr (jW_X12_dummies) M0 (k9 a1 a2 M)) : ∀ (a2 : Int32) (s0 : Int32) (s1 : Int32) (M : sy_M), sy_eqw (jW_X12_dummies) M0 M → sy_fr (jW_X12_dummies) M0 (jfX12_dummies_35 k9 a2 s0 s1 M) := by
  intro a2 s0 s1 M e
  exact z9 _ _ _ e
theorem jzX12_dummies_9 {M0 : sy_M} : ∀ n : Nat, ∀ (a1 : Int32) (a2 : Int32) (M : sy_M), sy_eqw (jW_X12_dummies) M0 M → sy_fr (jW_X12_dummies) M0 (jfX12_dummies_9 n a1 a2 M) := by
  intro n
  induction n with
  | zero => intro a1 a2 M e; exact sy_fr_none
  | succ n z9 => intro a1 a2 M e; exact (sy_fr_ite ((sy_fr_bi (sy_fr_up e (jzoX12_swingsOf _ _) (sy_subw_ix [] rfl)) (fun _ _ e1 => (sy_fr_ite (jzX12_dummies_35 z9 _ _ _ _ e1) (jzX12_dummies_35 z9 _ _ _ _ e1))))) (sy_fr_end e))
theorem jzX12_dummies {M0 : sy_M} : ∀ (M : sy_M), sy_eqw (jW_X12_dummies) M0 M → sy_fr (jW_X12_dummies) M0 (jfX12_dummies M) := by
  intro  M e
  exact jzX12_dummies_9  6000 _ _ _ (sy_eqw_uf e 0 rfl)
theorem jzoX12_dummies (M : sy_M) : sy_fr (jW_X12_dummies) M (jfX12_dummies M) := jzX12_dummies  M sy_eqw_refl
def jW_X11_net : List (Nat × Option Nat) := [(133, some 0)]
theorem jzX11_net {M0 : sy_M} : ∀ (a1 : Int32) (a2 : Int32) (M : sy_M), sy_eqw (jW_X11_net) M0 M → sy_fr (jW_X11_net) M0 (jfX11_net a1 a2 M) := by
  intro a1 a2 M e
  exact (sy_fr_bv (sy_fr_up e (jzoX11_checkTwo _ _ _) (sy_subw_ix [0] rfl)) (fun _ e1 => (sy_fr_bi (sy_fr_up e1 (jzoX2_owed _ _ _ _) (sy_subw_ix [] rfl)) (fun _ _ e2 => (sy_fr_bi (sy_fr_up e2 (jzoX2_owed _ _ _ _) (sy_subw_ix [] rfl)) (fun _ _ e3 => (sy_fr_bi (sy_fr_up e3 (jzoJ9_max_7cf53 _ _ _) (sy_subw_ix [] rfl)) (fun _ _ e4 => sy_fr_end e4))))))))
theorem jzoX11_net (a1 : Int32) (a2 : Int32) (M : sy_M) : sy_fr (jW_X11_net) M (jfX11_net a1 a2 M) := jzX11_net a1 a2 M sy_eqw_refl
def jW_L_net : List (Nat × Option Nat) := [(132, none), (133, some 0)]
theorem jzL_net {M0 : sy_M} : ∀ (a1 : Int32) (a2 : Int32) (M : sy_M), sy_eqw (jW_L_net) M0 M → sy_fr (jW_L_net) M0 (jfL_net a1 a2 M) := by
  intro a1 a2 M e
  exact (sy_fr_hi (sy_fr_up e (jzoX11_net _ _ _) (sy_subw_ix [1] rfl)) (fun _ _ e1 => sy_fr_end (sy_eqw_wl e1 0 rfl)) (fun _ _ e1 => (sy_fr_ite (sy_fr_end e1) (sy_fr_ite (sy_fr_end e1) sy_fr_none))))
theorem jzoL_net (a1 : Int32) (a2 : Int32) (M : sy_M) : sy_fr (jW_L_net) M (jfL_net a1 a2 M) := jzL_net a1 a2 M sy_eqw_refl
