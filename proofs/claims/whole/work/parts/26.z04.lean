/-! ===== what the functions leave alone (4); written by wip/whole/run_z.py ===== -/
def jW_X12_net : List (Nat × Option Nat) := [(121, some 0)]
theorem jzX12_net {M0 : sy_M} : ∀ (a1 : Int32) (a2 : Int32) (M : sy_M), sy_eqw (jW_X12_net) M0 M → sy_fr (jW_X12_net) M0 (jfX12_net a1 a2 M) := by
  intro a1 a2 M e
  exact (sy_fr_bv (sy_fr_up e (jzoX12_areTwo _ _ _) (sy_subw_ix [0] rfl)) (fun _ e1 => (sy_fr_ite (sy_fr_end e1) ((sy_fr_bi (sy_fr_up e1 (jzoX12_owed _ _ _) (sy_subw_ix [] rfl)) (fun _ _ e2 => (sy_fr_bi (sy_fr_up e2 (jzoX12_owed _ _ _) (sy_subw_ix [] rfl)) (fun _ _ e3 => (sy_fr_bi (sy_fr_up e3 (jzoX12_greater _ _ _) (sy_subw_ix [] rfl)) (fun _ _ e4 => sy_fr_end e4))))))))))
theorem jzoX12_net (a1 : Int32) (a2 : Int32) (M : sy_M) : sy_fr (jW_X12_net) M (jfX12_net a1 a2 M) := jzX12_net a1 a2 M sy_eqw_refl
def jW_X2_owesMore (r0 : Nat) : List (Nat × Option Nat) := []
theorem jzX2_owesMore_4 {r0 : Nat} {M0 : sy_M} : ∀ n : Nat, ∀ (a1 : Int32) (a2 : Int32) (a3 : Int32) (M : sy_M), sy_eqw (jW_X2_owesMore r0) M0 M → sy_fr (jW_X2_owesMore r0) M0 (jfX2_owesMore_4 n r0 a1 a2 a3 M) := by
  intro n
  induction n with
  | zero => intro a1 a2 a3 M e; exact sy_fr_none
  | succ n z4 => intro a1 a2 a3 M e; exact (sy_fr_cond ((sy_fr_ite ((sy_fr_cond ((sy_fr_bi (sy_fr_up e (jzoX2_owed _ _ _ _) (sy_subw_ix [] rfl)) (fun _ _ e1 => (sy_fr_cond ((sy_fr_bi (sy_fr_up e1 (jzoX2_owed _ _ _ _) (sy_subw_ix [] rfl)) (fun _ _ e2 => z4 _ _ _ _ e2))))))))) (sy_fr_end e))))
theorem jzX2_owesMore {r0 : Nat} {M0 : sy_M} : ∀ (a1 : Int32) (M : sy_M), sy_eqw (jW_X2_owesMore r0) M0 M → sy_fr (jW_X2_owesMore r0) M0 (jfX2_owesMore r0 a1 M) := by
  intro a1 M e
  exact jzX2_owesMore_4  6000 _ _ _ _ e
theorem jzoX2_owesMore (r0 : Nat) (a1 : Int32) (M : sy_M) : sy_fr (jW_X2_owesMore r0) M (jfX2_owesMore r0 a1 M) := jzX2_owesMore a1 M sy_eqw_refl
def jW_X11_debt : List (Nat × Option Nat) := []
theorem jzX11_debt_4 {M0 : sy_M} : ∀ n : Nat, ∀ (a1 : Int32) (a2 : Int32) (M : sy_M), sy_eqw (jW_X11_debt) M0 M → sy_fr (jW_X11_debt) M0 (jfX11_debt_4 n a1 a2 M) := by
  intro n
  induction n with
  | zero => intro a1 a2 M e; exact sy_fr_none
  | succ n z4 => intro a1 a2 M e; exact (sy_fr_ite ((sy_fr_bi (sy_fr_up e (jzoX2_owesMore _ _ _) (sy_subw_ix [] rfl)) (fun _ _ e1 => (sy_fr_bi (sy_fr_up e1 (jzoJ9_max_7cf53 _ _ _) (sy_subw_ix [] rfl)) (fun _ _ e2 => z4 _ _ _ e2))))) (sy_fr_end e))
theorem jzX11_debt {M0 : sy_M} : ∀ (M : sy_M), sy_eqw (jW_X11_debt) M0 M → sy_fr (jW_X11_debt) M0 (jfX11_debt M) := by
  intro  M e
  exact jzX11_debt_4  6000 _ _ _ e
theorem jzoX11_debt (M : sy_M) : sy_fr (jW_X11_debt) M (jfX11_debt M) := jzX11_debt  M sy_eqw_refl
def jW_X12_owesOf : List (Nat × Option Nat) := []
theorem jzX12_owesOf_4 {M0 : sy_M} : ∀ n : Nat, ∀ (a1 : Int32) (a2 : Int32) (a3 : Int32) (M : sy_M), sy_eqw (jW_X12_owesOf) M0 M → sy_fr (jW_X12_owesOf) M0 (jfX12_owesOf_4 n a1 a2 a3 M) := by
  intro n
  induction n with
  | zero => intro a1 a2 a3 M e; exact sy_fr_none
  | succ n z4 => intro a1 a2 a3 M e; exact (sy_fr_ite ((sy_fr_bi (sy_fr_up e (jzoX12_owed _ _ _) (sy_subw_ix [] rfl)) (fun _ _ e1 => (sy_fr_bi (sy_fr_up e1 (jzoX12_owed _ _ _) (sy_subw_ix [] rfl)) (fun _ _ e2 => z4 _ _ _ _ e2))))) (sy_fr_end e))
theorem jzX12_owesOf {M0 : sy_M} : ∀ (a1 : Int32) (M : sy_M), sy_eqw (jW_X12_owesOf) M0 M → sy_fr (jW_X12_owesOf) M0 (jfX12_owesOf a1 M) := by
  intro a1 M e
  exact jzX12_owesOf_4  6000 _ _ _ _ e
theorem jzoX12_owesOf (a1 : Int32) (M : sy_M) : sy_fr (jW_X12_owesOf) M (jfX12_owesOf a1 M) := jzX12_owesOf a1 M sy_eqw_refl
def jW_X12_debt : List (Nat × Option Nat) := [(121, some 0)]
theorem jzX12_debt_9 {M0 : sy_M} : ∀ n : Nat, ∀ (a1 : Int32) (a2 : Int32) (M : sy_M), sy_eqw (jW_X12_debt) M0 M → sy_fr (jW_X12_debt) M0 (jfX12_debt_9 n a1 a2 M) := by
  intro n
  induction n with
  | zero => intro a1 a2 M e; exact sy_fr_none
  | succ n z9 => intro a1 a2 M e; exact (sy_fr_ite ((sy_fr_bi (sy_fr_up e (jzoX12_owesOf _ _) (sy_subw_ix [] rfl)) (fun _ _ e1 => (sy_fr_bi (sy_fr_up e1 (jzoX12_greater _ _ _) (sy_subw_ix [] rfl)) (fun _ _ e2 => z9 _ _ _ e2))))) (sy_fr_end e))
theorem jzX12_debt {M0 : sy_M} : ∀ (M : sy_M), sy_eqw (jW_X12_debt) M0 M → sy_fr (jW_X12_debt) M0 (jfX12_debt M) := by
  intro  M e
  exact jzX12_debt_9  6000 _ _ _ (sy_eqw_uf e 0 rfl)
theorem jzoX12_debt (M : sy_M) : sy_fr (jW_X12_debt) M (jfX12_debt M) := jzX12_debt  M sy_eqw_refl
def jW_X2_creditors (r0 : Nat) : List (Nat × Option Nat) := []
theorem jzX2_creditors_29 {r0 : Nat} {M0 : sy_M} {k4 : Nat → Int32 → Int32 → Int32 → sy_M → sy_O} (z4 : ∀ (a1 : Int32) (a2 : Int32) (a3 : Int32) (M : sy_M), sy_eqw (jW_X2_creditors r0) M0 M → sy_fr (jW_X2_creditors r0) M0 (k4 r0 a1 a2 a3 M)) : ∀ (a1 : Int32) (a3 : Int32) (s0 : Int32) (s1 : Int32) (M : sy_M), sy_eqw (jW_X2_creditors r0) M0 M → sy_fr (jW_X2_creditors r0) M0 (jfX2_creditors_29 k4 r0 a1 a3 s0 s1 M) := by
  intro a1 a3 s0 s1 M e
  exact z4 _ _ _ _ e
theorem jzX2_creditors_4 {r0 : Nat} {M0 : sy_M} : ∀ n : Nat, ∀ (a1 : Int32) (a2 : Int32) (a3 : Int32) (M : sy_M), sy_eqw (jW_X2_creditors r0) M0 M → sy_fr (jW_X2_creditors r0) M0 (jfX2_creditors_4 n r0 a1 a2 a3 M) := by
  intro n
  induction n with
  | zero => intro a1 a2 a3 M e; exact sy_fr_none
  | succ n z4 => intro a1 a2 a3 M e; exact (sy_fr_cond ((sy_fr_ite ((sy_fr_cond ((sy_fr_bi (sy_fr_up e (jzoX2_owed _ _ _ _) (sy_subw_ix [] rfl)) (fun _ _ e1 => (sy_fr_ite (jzX2_creditors_29 z4 _ _ _ _ _ e1) (jzX2_creditors_29 z4 _ _ _ _ _ e1))))))) (sy_fr_end e))))
theorem jzX2_creditors {r0 : Nat} {M0 : sy_M} : ∀ (a1 : Int32) (M : sy_M), sy_eqw (jW_X2_creditors r0) M0 M → sy_fr (jW_X2_creditors r0) M0 (jfX2_creditors r0 a1 M) := by
  intro a1 M e
  exact jzX2_creditors_4  6000 _ _ _ _ e
theorem jzoX2_creditors (r0 : Nat) (a1 : Int32) (M : sy_M) : sy_fr (jW_X2_creditors r0) M (jfX2_creditors r0 a1 M) := jzX2_creditors a1 M sy_eqw_refl
def jW_X11_ring : List (Nat × Option Nat) := [(133, some 0)]
theorem jzX11_ring_63 {M0 : sy_M} {k16 : Int32 → Int32 → Int32 → sy_M → sy_O} (z16 : ∀ (a1 : Int32) (a2 : Int32) (a3 : Int32) (M : sy_M), sy_eqw (jW_X11_ring) M0 M → sy_fr (jW_X11_ring) M0 (k16 a1 a2 a3 M)) {k30 : Int32 → Int32 → Int32 → Int32 → sy_M → sy_O} (z30 : ∀ (a1 : Int32) (a2 : Int32) (a3 : Int32) (a4 : Int32) (M : sy_M), sy_eqw (jW_X11_ring) M0 M → sy_fr (jW_X11_ring) M0 (k30 a1 a2 a3 a4 M)) : ∀ (a1 : Int32) (a2 : Int32) (a3 : Int32) (a4 : Int32) (M : sy_M), sy_eqw (jW_X11_ring) M0 M → sy_fr (jW_X11_ring) M0 (jfX11_ring_63 k16 k30 a1 a2 a3 a4 M) := by
  intro a1 a2 a3 a4 M e
  exact z30 _ _ _ _ _ e
theorem jzX11_ring_30 {M0 : sy_M} {k16 : Int32 → Int32 → Int32 → sy_M → sy_O} (z16 : ∀ (a1 : Int32) (a2 : Int32) (a3 : Int32) (M : sy_M), sy_eqw (jW_X11_ring) M0 M → sy_fr (jW_X11_ring) M0 (k16 a1 a2 a3 M)) : ∀ n : Nat, ∀ (a1 : Int32) (a2 : Int32) (a3 : Int32) (a4 : Int32) (M : sy_M), sy_eqw (jW_X11_ring) M0 M → sy_fr (jW_X11_ring) M0 (jfX11_ring_30 k16 n a1 a2 a3 a4 M) := by
  intro n
  induction n with
  | zero => intro a1 a2 a3 a4 M e; exact sy_fr_none
  | succ n z30 => intro a1 a2 a3 a4 M e; exact (sy_fr_ite ((sy_fr_ite (jzX11_ring_63 z16 z30 _ _ _ _ _ e) ((sy_fr_bi (sy_fr_up e (jzoX2_creditors _ _ _) (sy_subw_ix [] rfl)) (fun _ _ e1 => jzX11_ring_63 z16 z30 _ _ _ _ _ e1))))) (z16 _ _ _ _ e))
theorem jzX11_ring_16 {M0 : sy_M} : ∀ n : Nat, ∀ (a1 : Int32) (a2 : Int32) (a3 : Int32) (M : sy_M), sy_eqw (jW_X11_ring) M0 M → sy_fr (jW_X11_ring) M0 (jfX11_ring_16 n a1 a2 a3 M) := by
  intro n
  induction n with
  | zero => intro a1 a2 a3 M e; exact sy_fr_none
  | succ n z16 => intro a1 a2 a3 M e; exact (sy_fr_ite (jzX11_ring_30 z16 6000 _ _ _ _ _ e) ((sy_fr_ite (sy_fr_end e) (sy_fr_end e))))
theorem jzX11_ring {M0 : sy_M} : ∀ (a1 : Int32) (M : sy_M), sy_eqw (jW_X11_ring) M0 M → sy_fr (jW_X11_ring) M0 (jfX11_ring a1 M) := by
  intro a1 M e
  exact (sy_fr_bv (sy_fr_up e (jzoX11_checkLodger _ _) (sy_subw_ix [0] rfl)) (fun _ e1 => (sy_fr_bi (sy_fr_up e1 (jzoX2_creditors _ _ _) (sy_subw_ix [] rfl)) (fun _ _ e2 => jzX11_ring_16  6000 _ _ _ _ e2))))
theorem jzoX11_ring (a1 : Int32) (M : sy_M) : sy_fr (jW_X11_ring) M (jfX11_ring a1 M) := jzX11_ring a1 M sy_eqw_refl
def jW_L_ring : List (Nat × Option Nat) := [(132, none), (133, some 0)]
theorem jzL_ring_15 {M0 : sy_M} : ∀ (s0 : Int64) (s1 : Int32) (M : sy_M), sy_eqw (jW_L_ring) M0 M → sy_fr (jW_L_ring) M0 (jfL_ring_15 s0 s1 M) := by
  intro s0 s1 M e
  exact (sy_fr_cond (sy_fr_end (sy_eqw_wl e 0 rfl)))
theorem jzL_ring {M0 : sy_M} : ∀ (a1 : Int32) (M : sy_M), sy_eqw (jW_L_ring) M0 M → sy_fr (jW_L_ring) M0 (jfL_ring a1 M) := by
  intro a1 M e
  exact (sy_fr_hi (sy_fr_up e (jzoX11_ring _ _) (sy_subw_ix [1] rfl)) (fun _ _ e1 => (sy_fr_ite (jzL_ring_15  _ _ _ e1) (jzL_ring_15  _ _ _ e1))) (fun _ _ e1 => (sy_fr_ite (sy_fr_end e1) sy_fr_none)))
theorem jzoL_ring (a1 : Int32) (M : sy_M) : sy_fr (jW_L_ring) M (jfL_ring a1 M) := jzL_ring a1 M sy_eqw_refl
def jW_X12_ring : List (Nat × Option Nat) := [(121, some 0)]
theorem jzX12_ring_97 {M0 : sy_M} {k35 : Int32 → Int32 → Int32 → Int32 → sy_M → sy_O} (z35 : ∀ (a1 : Int32) (a2 : Int32) (a3 : Int32) (a4 : Int32) (M : sy_M), sy_eqw (jW_X12_ring) M0 M → sy_fr (jW_X12_ring) M0 (k35 a1 a2 a3 a4 M)) {k45 : Int32 → Int32 → Int32 → Int32 → Int32 → sy_M → sy_O} (z45 : ∀ (a1 : Int32) (a2 : Int32) (a3 : Int32) (a4 : Int32) (a5 : Int32) (M : sy_M), sy_eqw (jW_X12_ring) M0 M → sy_fr (jW_X12_ring) M0 (k45 a1 a2 a3 a4 a5 M)) {k59 : Int32 → Int32 → Int32 → Int32 → Int32 → Int32 → sy_M → sy_O} (z59 : ∀ (a1 : Int32) (a2 : Int32) (a3 : Int32) (a4 : Int32) (a5 : Int32) (a6 : Int32) (M : sy_M), sy_eqw (jW_X12_ring) M0 M → sy_fr (jW_X12_ring) M0 (k59 a1 a2 a3 a4 a5 a6 M)) : ∀ (a1 : Int32) (a2 : Int32) (a3 : Int32) (a4 : Int32) (a5 : Int32) (a6 : Int32) (M : sy_M), sy_eqw (jW_X12_ring) M0 M → sy_fr (jW_X12_ring) M0 (jfX12_ring_97 k35 k45 k59 a1 a2 a3 a4 a5 a6 M) := by
  intro a1 a2 a3 a4 a5 a6 M e
  exact z59 _ _ _ _ _ _ _ e
theorem jzX12_ring_59 {M0 : sy_M} {k35 : Int32 → Int32 → Int32 → Int32 → sy_M → sy_O} (z35 : ∀ (a1 : Int32) (a2 : Int32) (a3 : Int32) (a4 : Int32) (M : sy_M), sy_eqw (jW_X12_ring) M0 M → sy_fr (jW_X12_ring) M0 (k35 a1 a2 a3 a4 M)) {k45 : Int32 → Int32 → Int32 → Int32 → Int32 → sy_M → sy_O} (z45 : ∀ (a1 : Int32) (a2 : Int32) (a3 : Int32) (a4 : Int32) (a5 : Int32) (M : sy_M), sy_eqw (jW_X12_ring) M0 M → sy_fr (jW_X12_ring) M0 (k45 a1 a2 a3 a4 a5 M)) : ∀ n : Nat, ∀ (a1 : Int32) (a2 : Int32) (a3 : Int32) (a4 : Int32) (a5 : Int32) (a6 : Int32) (M : sy_M), sy_eqw (jW_X12_ring) M0 M → sy_fr (jW_X12_ring) M0 (jfX12_ring_59 k35 k45 n a1 a2 a3 a4 a5 a6 M) := by
  intro n
  induction n with
  | zero => intro a1 a2 a3 a4 a5 a6 M e; exact sy_fr_none
  | succ n z59 => intro a1 a2 a3 a4 a5 a6 M e; exact (sy_fr_ite ((sy_fr_bi (sy_fr_up e (jzoX12_isOf _ _ _) (sy_subw_ix [] rfl)) (fun _ _ e1 => (sy_fr_ite (jzX12_ring_97 z35 z45 z59 _ _ _ _ _ _ _ e1) ((sy_fr_bi (sy_fr_up e1 (jzoX12_owed _ _ _) (sy_subw_ix [] rfl)) (fun _ _ e2 => (sy_fr_ite (jzX12_ring_97 z35 z45 z59 _ _ _ _ _ _ _ e2) (jzX12_ring_97 z35 z45 z59 _ _ _ _ _ _ _ e2))))))))) (z45 _ _ _ _ _ _ e))
theorem jzX12_ring_45 {M0 : sy_M} {k35 : Int32 → Int32 → Int32 → Int32 → sy_M → sy_O} (z35 : ∀ (a1 : Int32) (a2 : Int32) (a3 : Int32) (a4 : Int32) (M : sy_M), sy_eqw (jW_X12_ring) M0 M → sy_fr (jW_X12_ring) M0 (k35 a1 a2 a3 a4 M)) : ∀ n : Nat, ∀ (a1 : Int32) (a2 : Int32) (a3 : Int32) (a4 : Int32) (a5 : Int32) (M : sy_M), sy_eqw (jW_X12_ring) M0 M → sy_fr (jW_X12_ring) M0 (jfX12_ring_45 k35 n a1 a2 a3 a4 a5 M) := by
  intro n
  induction n with
  | zero => intro a1 a2 a3 a4 a5 M e; exact sy_fr_none
  | succ n z45 => intro a1 a2 a3 a4 a5 M e; exact (sy_fr_ite (jzX12_ring_59 z35 z45 6000 _ _ _ _ _ _ _ e) (z35 _ _ _ _ _ e))
theorem jzX12_ring_35 {M0 : sy_M} : ∀ n : Nat, ∀ (a1 : Int32) (a2 : Int32) (a3 : Int32) (a4 : Int32) (M : sy_M), sy_eqw (jW_X12_ring) M0 M → sy_fr (jW_X12_ring) M0 (jfX12_ring_35 n a1 a2 a3 a4 M) := by
  intro n
  induction n with
  | zero => intro a1 a2 a3 a4 M e; exact sy_fr_none
  | succ n z35 => intro a1 a2 a3 a4 M e; exact (sy_fr_ite (jzX12_ring_45 z35 6000 _ _ _ _ _ _ e) ((sy_fr_bi (sy_fr_up e (jzoX12_isOf _ _ _) (sy_subw_ix [] rfl)) (fun _ _ e1 => (sy_fr_cond (sy_fr_end e1))))))
theorem jzX12_ring_14 {M0 : sy_M} : ∀ (a1 : Int32) (s0 : Int32) (M : sy_M), sy_eqw (jW_X12_ring) M0 M → sy_fr (jW_X12_ring) M0 (jfX12_ring_14 a1 s0 M) := by
  intro a1 s0 M e
  exact (sy_fr_ite (sy_fr_end (sy_eqw_uf e 0 rfl)) (jzX12_ring_35  6000 _ _ _ _ _ (sy_eqw_uf e 0 rfl)))
theorem jzX12_ring {M0 : sy_M} : ∀ (a1 : Int32) (M : sy_M), sy_eqw (jW_X12_ring) M0 M → sy_fr (jW_X12_ring) M0 (jfX12_ring a1 M) := by
  intro a1 M e
  exact (sy_fr_bi (sy_fr_up e (jzoX12_isLodger _ _) (sy_subw_ix [] rfl)) (fun _ _ e1 => (sy_fr_ite (jzX12_ring_14  _ _ _ e1) (jzX12_ring_14  _ _ _ e1))))
theorem jzoX12_ring (a1 : Int32) (M : sy_M) : sy_fr (jW_X12_ring) M (jfX12_ring a1 M) := jzX12_ring a1 M sy_eqw_refl
def jW_X11_poorest : List (Nat × Option Nat) := []
theorem jzX11_poorest_53 {M0 : sy_M} {k6 : Int32 → Int32 → Int32 → sy_M → sy_O} (z6 : ∀ (a1 : Int32) (a2 : Int32) (a3 : Int32) (M : sy_M), sy_eqw (jW_X11_poorest) M0 M → sy_fr (jW_X11_poorest) M0 (k6 a1 a2 a3 M)) : ∀ (a1 : Int32) (a2 : Int32) (a3 : Int32) (M : sy_M), sy_eqw (jW_X11_poorest) M0 M → sy_fr (jW_X11_poorest) M0 (jfX11_poorest_53 k6 a1 a2 a3 M) := by
  intro a1 a2 a3 M e
  exact z6 _ _ _ _ e
theorem jzX11_poorest_48 {M0 : sy_M} {k6 : Int32 → Int32 → Int32 → sy_M → sy_O} (z6 : ∀ (a1 : Int32) (a2 : Int32) (a3 : Int32) (M : sy_M), sy_eqw (jW_X11_poorest) M0 M → sy_fr (jW_X11_poorest) M0 (k6 a1 a2 a3 M)) : ∀ (a3 : Int32) (a4 : Int32) (M : sy_M), sy_eqw (jW_X11_poorest) M0 M → sy_fr (jW_X11_poorest) M0 (jfX11_poorest_48 k6 a3 a4 M) := by
  intro a3 a4 M e
  exact jzX11_poorest_53 z6 _ _ _ _ e
theorem jzX11_poorest_6 {M0 : sy_M} : ∀ n : Nat, ∀ (a1 : Int32) (a2 : Int32) (a3 : Int32) (M : sy_M), sy_eqw (jW_X11_poorest) M0 M → sy_fr (jW_X11_poorest) M0 (jfX11_poorest_6 n a1 a2 a3 M) := by
  intro n
  induction n with
  | zero => intro a1 a2 a3 M e; exact sy_fr_none
  | succ n z6 => intro a1 a2 a3 M e; exact (sy_fr_ite ((sy_fr_bi (sy_fr_up e (jzoX2_get _ _ _ _) (sy_subw_ix [] rfl)) (fun _ _ e1 => (sy_fr_bi (sy_fr_up e1 (jzoX2_owesMore _ _ _) (sy_subw_ix [] rfl)) (fun _ _ e2 => (sy_fr_ite (jzX11_poorest_48 z6 _ _ _ e2) ((sy_fr_ite (jzX11_poorest_48 z6 _ _ _ e2) (jzX11_poorest_53 z6 _ _ _ _ e2))))))))) (sy_fr_end e))
theorem jzX11_poorest {M0 : sy_M} : ∀ (M : sy_M), sy_eqw (jW_X11_poorest) M0 M → sy_fr (jW_X11_poorest) M0 (jfX11_poorest M) := by
  intro  M e
  exact jzX11_poorest_6  6000 _ _ _ _ e
theorem jzoX11_poorest (M : sy_M) : sy_fr (jW_X11_poorest) M (jfX11_poorest M) := jzX11_poorest  M sy_eqw_refl
def jW_X12_poorest : List (Nat × Option Nat) := [(121, some 0)]
theorem jzX12_poorest_51 {M0 : sy_M} {k13 : Int32 → Int32 → Int32 → sy_M → sy_O} (z13 : ∀ (a1 : Int32) (a2 : Int32) (a3 : Int32) (M : sy_M), sy_eqw (jW_X12_poorest) M0 M → sy_fr (jW_X12_poorest) M0 (k13 a1 a2 a3 M)) : ∀ (a1 : Int32) (a2 : Int32) (a3 : Int32) (M : sy_M), sy_eqw (jW_X12_poorest) M0 M → sy_fr (jW_X12_poorest) M0 (jfX12_poorest_51 k13 a1 a2 a3 M) := by
  intro a1 a2 a3 M e
  exact z13 _ _ _ _ e
theorem jzX12_poorest_13 {M0 : sy_M} : ∀ n : Nat, ∀ (a1 : Int32) (a2 : Int32) (a3 : Int32) (M : sy_M), sy_eqw (jW_X12_poorest) M0 M → sy_fr (jW_X12_poorest) M0 (jfX12_poorest_13 n a1 a2 a3 M) := by
  intro n
  induction n with
  | zero => intro a1 a2 a3 M e; exact sy_fr_none
  | succ n z13 => intro a1 a2 a3 M e; exact (sy_fr_ite ((sy_fr_bi (sy_fr_up e (jzoX12_of _ _ _) (sy_subw_ix [] rfl)) (fun _ _ e1 => (sy_fr_bi (sy_fr_up e1 (jzoX12_owesOf _ _) (sy_subw_ix [] rfl)) (fun _ _ e2 => (sy_fr_ite (jzX12_poorest_51 z13 _ _ _ _ e2) (jzX12_poorest_51 z13 _ _ _ _ e2))))))) (sy_fr_end e))
theorem jzX12_poorest {M0 : sy_M} : ∀ (M : sy_M), sy_eqw (jW_X12_poorest) M0 M → sy_fr (jW_X12_poorest) M0 (jfX12_poorest M) := by
  intro  M e
  exact jzX12_poorest_13  6000 _ _ _ _ (sy_eqw_uf e 0 rfl)
theorem jzoX12_poorest (M : sy_M) : sy_fr (jW_X12_poorest) M (jfX12_poorest M) := jzX12_poorest  M sy_eqw_refl
def jW_X11_gain : List (Nat × Option Nat) := []
theorem jzX11_gain {M0 : sy_M} : ∀ (a1 : Int32) (a2 : Int32) (a3 : Int32) (a4 : Int32) (M : sy_M), sy_eqw (jW_X11_gain) M0 M → sy_fr (jW_X11_gain) M0 (jfX11_gain a1 a2 a3 a4 M) := by
  intro a1 a2 a3 a4 M e
  exact (sy_fr_ite ((sy_fr_ite (sy_fr_end e) (sy_fr_end e))) ((sy_fr_ite (sy_fr_end e) ((sy_fr_bi (sy_fr_up e (jzoX2_get _ _ _ _) (sy_subw_ix [] rfl)) (fun _ _ e1 => sy_fr_end e1))))))
theorem jzoX11_gain (a1 : Int32) (a2 : Int32) (a3 : Int32) (a4 : Int32) (M : sy_M) : sy_fr (jW_X11_gain) M (jfX11_gain a1 a2 a3 a4 M) := jzX11_gain a1 a2 a3 a4 M sy_eqw_refl
def jW_X11_isContent : List (Nat × Option Nat) := []
theorem jzX11_isContent {M0 : sy_M} : ∀ (a1 : Int32) (a2 : Int32) (a3 : Int32) (a4 : Int32) (M : sy_M), sy_eqw (jW_X11_isContent) M0 M → sy_fr (jW_X11_isContent) M0 (jfX11_isContent a1 a2 a3 a4 M) := by
  intro a1 a2 a3 a4 M e
  exact (sy_fr_bi (sy_fr_up e (jzoX11_gain _ _ _ _ _) (sy_subw_ix [] rfl)) (fun _ _ e1 => (sy_fr_bi (sy_fr_up e1 (jzoX11_gain _ _ _ _ _) (sy_subw_ix [] rfl)) (fun _ _ e2 => (sy_fr_ite (sy_fr_end e2) (sy_fr_end e2))))))
theorem jzoX11_isContent (a1 : Int32) (a2 : Int32) (a3 : Int32) (a4 : Int32) (M : sy_M) : sy_fr (jW_X11_isContent) M (jfX11_isContent a1 a2 a3 a4 M) := jzX11_isContent a1 a2 a3 a4 M sy_eqw_refl
def jW_X11_rests : List (Nat × Option Nat) := [(133, some 0), (50, none), (51, none)]
theorem jzX11_rests_103 {M0 : sy_M} {k50 : Int32 → Int32 → Int32 → Int32 → Int32 → sy_M → sy_O} (z50 : ∀ (a1 : Int32) (a2 : Int32) (a3 : Int32) (a4 : Int32) (a5 : Int32) (M : sy_M), sy_eqw (jW_X11_rests) M0 M → sy_fr (jW_X11_rests) M0 (k50 a1 a2 a3 a4 a5 M)) : ∀ (a1 : Int32) (a2 : Int32) (a3 : Int32) (a4 : Int32) (a5 : Int32) (M : sy_M), sy_eqw (jW_X11_rests) M0 M → sy_fr (jW_X11_rests) M0 (jfX11_rests_103 k50 a1 a2 a3 a4 a5 M) := by
  intro a1 a2 a3 a4 a5 M e
  exact z50 _ _ _ _ _ _ e
theorem jzX11_rests_50 {M0 : sy_M} : ∀ n : Nat, ∀ (a1 : Int32) (a2 : Int32) (a3 : Int32) (a4 : Int32) (a5 : Int32) (M : sy_M), sy_eqw (jW_X11_rests) M0 M → sy_fr (jW_X11_rests) M0 (jfX11_rests_50 n a1 a2 a3 a4 a5 M) := by
  intro n
  induction n with
  | zero => intro a1 a2 a3 a4 a5 M e; exact sy_fr_none
  | succ n z50 => intro a1 a2 a3 a4 a5 M e; exact (sy_fr_ite ((sy_fr_bi (sy_fr_up e (jzoX11_isContent _ _ _ _ _) (sy_subw_ix [] rfl)) (fun _ _ e1 => (sy_fr_ite (jzX11_rests_103 z50 _ _ _ _ _ _ e1) ((sy_fr_bi (sy_fr_up e1 (jzoX11_isContent _ _ _ _ _) (sy_subw_ix [] rfl)) (fun _ _ e2 => (sy_fr_ite (jzX11_rests_103 z50 _ _ _ _ _ _ e2) (jzX11_rests_103 z50 _ _ _ _ _ _ e2))))))))) (sy_fr_end e))
theorem jzX11_rests {M0 : sy_M} : ∀ (a1 : Int32) (a2 : Int32) (M : sy_M), sy_eqw (jW_X11_rests) M0 M → sy_fr (jW_X11_rests) M0 (jfX11_rests a1 a2 M) := by
  intro a1 a2 M e
  exact (sy_fr_bv (sy_fr_up e (jzoX11_checkTwo _ _ _) (sy_subw_ix [0] rfl)) (fun _ e1 => (sy_fr_bv (sy_fr_up e1 (jzoX8_learn _ _) (sy_subw_ix [1, 2] rfl)) (fun _ e2 => (sy_fr_bi (sy_fr_up e2 (jzoX8_needsAt _ _) (sy_subw_ix [] rfl)) (fun _ _ e3 => (sy_fr_bi (sy_fr_up e3 (jzoJ9_max_7cf53 _ _ _) (sy_subw_ix [] rfl)) (fun _ _ e4 => (sy_fr_ite sy_fr_none (jzX11_rests_50  6000 _ _ _ _ _ _ e4))))))))))
theorem jzoX11_rests (a1 : Int32) (a2 : Int32) (M : sy_M) : sy_fr (jW_X11_rests) M (jfX11_rests a1 a2 M) := jzX11_rests a1 a2 M sy_eqw_refl
def jW_L_rests : List (Nat × Option Nat) := [(132, none), (133, some 0), (50, none), (51, none)]
theorem jzL_rests {M0 : sy_M} : ∀ (a1 : Int32) (a2 : Int32) (M : sy_M), sy_eqw (jW_L_rests) M0 M → sy_fr (jW_L_rests) M0 (jfL_rests a1 a2 M) := by
  intro a1 a2 M e
  exact (sy_fr_hi (sy_fr_up e (jzoX11_rests _ _ _) (sy_subw_ix [1, 2, 3] rfl)) (fun _ _ e1 => sy_fr_end (sy_eqw_wl e1 0 rfl)) (fun _ _ e1 => (sy_fr_ite (sy_fr_end e1) (sy_fr_ite (sy_fr_end e1) sy_fr_none))))
theorem jzoL_rests (a1 : Int32) (a2 : Int32) (M : sy_M) : sy_fr (jW_L_rests) M (jfL_rests a1 a2 M) := jzL_rests a1 a2 M sy_eqw_refl
def jW_X12_hasBy : List (Nat × Option Nat) := []
theorem jzX12_hasBy {M0 : sy_M} : ∀ (a1 : Int32) (a2 : Int32) (a3 : Int32) (M : sy_M), sy_eqw (jW_X12_hasBy) M0 M → sy_fr (jW_X12_hasBy) M0 (jfX12_hasBy a1 a2 a3 M) := by
  intro a1 a2 a3 M e
  exact (sy_fr_bi (sy_fr_up e (jzoX12_needsIn _ _) (sy_subw_ix [] rfl)) (fun _ _ e1 => (sy_fr_bi (sy_fr_up e1 (jzoX12_greater _ _ _) (sy_subw_ix [] rfl)) (fun _ _ e2 => (sy_fr_ite sy_fr_none ((sy_fr_ite ((sy_fr_ite (sy_fr_end e2) (sy_fr_end e2))) ((sy_fr_ite (sy_fr_end e2) ((sy_fr_bi (sy_fr_up e2 (jzoX12_of _ _ _) (sy_subw_ix [] rfl)) (fun _ _ e3 => sy_fr_end e3))))))))))))
theorem jzoX12_hasBy (a1 : Int32) (a2 : Int32) (a3 : Int32) (M : sy_M) : sy_fr (jW_X12_hasBy) M (jfX12_hasBy a1 a2 a3 M) := jzX12_hasBy a1 a2 a3 M sy_eqw_refl
def jW_X12_rests : List (Nat × Option Nat) := [(121, some 0)]
theorem jzX12_rests_91 {M0 : sy_M} {k20 : Int32 → Int32 → Int32 → Int32 → sy_M → sy_O} (z20 : ∀ (a1 : Int32) (a2 : Int32) (a3 : Int32) (a4 : Int32) (M : sy_M), sy_eqw (jW_X12_rests) M0 M → sy_fr (jW_X12_rests) M0 (k20 a1 a2 a3 a4 M)) : ∀ (a1 : Int32) (a2 : Int32) (a3 : Int32) (a4 : Int32) (M : sy_M), sy_eqw (jW_X12_rests) M0 M → sy_fr (jW_X12_rests) M0 (jfX12_rests_91 k20 a1 a2 a3 a4 M) := by
  intro a1 a2 a3 a4 M e
  exact z20 _ _ _ _ _ e
theorem jzX12_rests_84 {M0 : sy_M} {k20 : Int32 → Int32 → Int32 → Int32 → sy_M → sy_O} (z20 : ∀ (a1 : Int32) (a2 : Int32) (a3 : Int32) (a4 : Int32) (M : sy_M), sy_eqw (jW_X12_rests) M0 M → sy_fr (jW_X12_rests) M0 (k20 a1 a2 a3 a4 M)) : ∀ (a1 : Int32) (a2 : Int32) (a3 : Int32) (a4 : Int32) (M : sy_M), sy_eqw (jW_X12_rests) M0 M → sy_fr (jW_X12_rests) M0 (jfX12_rests_84 k20 a1 a2 a3 a4 M) := by
  intro a1 a2 a3 a4 M e
  exact jzX12_rests_91 z20 _ _ _ _ _ e
theorem jzX12_rests_20 {M0 : sy_M} : ∀ n : Nat, ∀ (a1 : Int32) (a2 : Int32) (a3 : Int32) (a4 : Int32) (M : sy_M), sy_eqw (jW_X12_rests) M0 M → sy_fr (jW_X12_rests) M0 (jfX12_rests_20 n a1 a2 a3 a4 M) := by
  intro n
  induction n with
  | zero => intro a1 a2 a3 a4 M e; exact sy_fr_none
  | succ n z20 => intro a1 a2 a3 a4 M e; exact (sy_fr_ite ((sy_fr_bi (sy_fr_up e (jzoX12_hasBy _ _ _ _) (sy_subw_ix [] rfl)) (fun _ _ e1 => (sy_fr_bi (sy_fr_up e1 (jzoX12_hasBy _ _ _ _) (sy_subw_ix [] rfl)) (fun _ _ e2 => (sy_fr_ite (jzX12_rests_91 z20 _ _ _ _ _ e2) ((sy_fr_bi (sy_fr_up e2 (jzoX12_hasBy _ _ _ _) (sy_subw_ix [] rfl)) (fun _ _ e3 => (sy_fr_bi (sy_fr_up e3 (jzoX12_hasBy _ _ _ _) (sy_subw_ix [] rfl)) (fun _ _ e4 => (sy_fr_ite (jzX12_rests_91 z20 _ _ _ _ _ e4) (jzX12_rests_84 z20 _ _ _ _ _ e4))))))))))))) (sy_fr_end e))
theorem jzX12_rests {M0 : sy_M} : ∀ (a1 : Int32) (a2 : Int32) (M : sy_M), sy_eqw (jW_X12_rests) M0 M → sy_fr (jW_X12_rests) M0 (jfX12_rests a1 a2 M) := by
  intro a1 a2 M e
  exact (sy_fr_bv (sy_fr_up e (jzoX12_areTwo _ _ _) (sy_subw_ix [0] rfl)) (fun _ e1 => (sy_fr_ite (sy_fr_end e1) (jzX12_rests_20  6000 _ _ _ _ _ e1))))
theorem jzoX12_rests (a1 : Int32) (a2 : Int32) (M : sy_M) : sy_fr (jW_X12_rests) M (jfX12_rests a1 a2 M) := jzX12_rests a1 a2 M sy_eqw_refl
def jW_X11_odds : List (Nat × Option Nat) := [(119, none), (133, some 0)]
theorem jzX11_odds_149 {M0 : sy_M} : ∀ n : Nat, ∀ (a3 : Int64) (a5 : Int64) (a7 : Int32) (M : sy_M), sy_eqw (jW_X11_odds) M0 M → sy_fr (jW_X11_odds) M0 (jfX11_odds_149 n a3 a5 a7 M) := by
  intro n
  induction n with
  | zero => intro a3 a5 a7 M e; exact sy_fr_none
  | succ n z149 => intro a3 a5 a7 M e; exact (sy_fr_ite ((sy_fr_ite ((sy_fr_ite sy_fr_none (sy_fr_end e))) (sy_fr_end e))) ((sy_fr_cond (z149 _ _ _ _ e))))
theorem jzX11_odds_100 {M0 : sy_M} {k52 : Int32 → Int32 → Int64 → Int32 → sy_M → sy_O} (z52 : ∀ (a1 : Int32) (a2 : Int32) (a3 : Int64) (a5 : Int32) (M : sy_M), sy_eqw (jW_X11_odds) M0 M → sy_fr (jW_X11_odds) M0 (k52 a1 a2 a3 a5 M)) {k68 : Int32 → Int32 → Int64 → Int32 → Int32 → sy_M → sy_O} (z68 : ∀ (a1 : Int32) (a2 : Int32) (a3 : Int64) (a5 : Int32) (a6 : Int32) (M : sy_M), sy_eqw (jW_X11_odds) M0 M → sy_fr (jW_X11_odds) M0 (k68 a1 a2 a3 a5 a6 M)) : ∀ (a1 : Int32) (a2 : Int32) (a3 : Int64) (a5 : Int32) (a6 : Int32) (s0 : Int64) (M : sy_M), sy_eqw (jW_X11_odds) M0 M → sy_fr (jW_X11_odds) M0 (jfX11_odds_100 k52 k68 a1 a2 a3 a5 a6 s0 M) := by
  intro a1 a2 a3 a5 a6 s0 M e
  exact (sy_fr_cond ((sy_fr_cond (z68 _ _ _ _ _ _ (sy_eqw_wl e 0 rfl)))))
theorem jzX11_odds_68 {M0 : sy_M} {k52 : Int32 → Int32 → Int64 → Int32 → sy_M → sy_O} (z52 : ∀ (a1 : Int32) (a2 : Int32) (a3 : Int64) (a5 : Int32) (M : sy_M), sy_eqw (jW_X11_odds) M0 M → sy_fr (jW_X11_odds) M0 (k52 a1 a2 a3 a5 M)) : ∀ n : Nat, ∀ (a1 : Int32) (a2 : Int32) (a3 : Int64) (a5 : Int32) (a6 : Int32) (M : sy_M), sy_eqw (jW_X11_odds) M0 M → sy_fr (jW_X11_odds) M0 (jfX11_odds_68 k52 n a1 a2 a3 a5 a6 M) := by
  intro n
  induction n with
  | zero => intro a1 a2 a3 a5 a6 M e; exact sy_fr_none
  | succ n z68 => intro a1 a2 a3 a5 a6 M e; exact (sy_fr_ite (z52 _ _ _ _ _ e) ((sy_fr_ite ((sy_fr_cond (jzX11_odds_100 z52 z68 _ _ _ _ _ _ _ e))) (jzX11_odds_100 z52 z68 _ _ _ _ _ _ _ e))))
theorem jzX11_odds_52 {M0 : sy_M} : ∀ n : Nat, ∀ (a1 : Int32) (a2 : Int32) (a3 : Int64) (a5 : Int32) (M : sy_M), sy_eqw (jW_X11_odds) M0 M → sy_fr (jW_X11_odds) M0 (jfX11_odds_52 n a1 a2 a3 a5 M) := by
  intro n
  induction n with
  | zero => intro a1 a2 a3 a5 M e; exact sy_fr_none
  | succ n z52 => intro a1 a2 a3 a5 M e; exact (sy_fr_ite (jzX11_odds_68 z52 6000 _ _ _ _ _ _ e) (jzX11_odds_149  6000 _ _ _ _ e))
theorem jzX11_odds_42 {M0 : sy_M} {k19 : Int32 → Int32 → Int64 → Int32 → sy_M → sy_O} (z19 : ∀ (a1 : Int32) (a2 : Int32) (a3 : Int64) (a5 : Int32) (M : sy_M), sy_eqw (jW_X11_odds) M0 M → sy_fr (jW_X11_odds) M0 (k19 a1 a2 a3 a5 M)) : ∀ (a1 : Int32) (a2 : Int32) (a3 : Int64) (a5 : Int32) (s0 : Int64) (s1 : Int32) (M : sy_M), sy_eqw (jW_X11_odds) M0 M → sy_fr (jW_X11_odds) M0 (jfX11_odds_42 k19 a1 a2 a3 a5 s0 s1 M) := by
  intro a1 a2 a3 a5 s0 s1 M e
  exact (sy_fr_cond (z19 _ _ _ _ _ (sy_eqw_wl e 0 rfl)))
theorem jzX11_odds_19 {M0 : sy_M} : ∀ n : Nat, ∀ (a1 : Int32) (a2 : Int32) (a3 : Int64) (a5 : Int32) (M : sy_M), sy_eqw (jW_X11_odds) M0 M → sy_fr (jW_X11_odds) M0 (jfX11_odds_19 n a1 a2 a3 a5 M) := by
  intro n
  induction n with
  | zero => intro a1 a2 a3 a5 M e; exact sy_fr_none
  | succ n z19 => intro a1 a2 a3 a5 M e; exact (sy_fr_ite (jzX11_odds_52  6000 _ _ _ _ _ e) ((sy_fr_ite (jzX11_odds_42 z19 _ _ _ _ _ _ _ e) (jzX11_odds_42 z19 _ _ _ _ _ _ _ e))))
theorem jzX11_odds {M0 : sy_M} : ∀ (a1 : Int32) (a2 : Int32) (M : sy_M), sy_eqw (jW_X11_odds) M0 M → sy_fr (jW_X11_odds) M0 (jfX11_odds a1 a2 M) := by
  intro a1 a2 M e
  exact (sy_fr_bv (sy_fr_up e (jzoX11_checkRange _ _ _ _) (sy_subw_ix [1] rfl)) (fun _ e1 => (sy_fr_bv (sy_fr_up e1 (jzoX11_checkRange _ _ _ _) (sy_subw_ix [1] rfl)) (fun _ e2 => jzX11_odds_19  6000 _ _ _ _ _ e2))))
theorem jzoX11_odds (a1 : Int32) (a2 : Int32) (M : sy_M) : sy_fr (jW_X11_odds) M (jfX11_odds a1 a2 M) := jzX11_odds a1 a2 M sy_eqw_refl
def jW_L_odds : List (Nat × Option Nat) := [(119, none), (132, none), (133, some 0)]
theorem jzL_odds {M0 : sy_M} : ∀ (a1 : Int32) (a2 : Int32) (M : sy_M), sy_eqw (jW_L_odds) M0 M → sy_fr (jW_L_odds) M0 (jfL_odds a1 a2 M) := by
  intro a1 a2 M e
  exact (sy_fr_hi (sy_fr_up e (jzoX11_odds _ _ _) (sy_subw_ix [0, 2] rfl)) (fun _ _ e1 => sy_fr_end (sy_eqw_wl e1 1 rfl)) (fun _ _ e1 => (sy_fr_ite (sy_fr_end e1) sy_fr_none)))
theorem jzoL_odds (a1 : Int32) (a2 : Int32) (M : sy_M) : sy_fr (jW_L_odds) M (jfL_odds a1 a2 M) := jzL_odds a1 a2 M sy_eqw_refl
def jW_X12_odds : List (Nat × Option Nat) := [(121, some 0)]
theorem jzX12_odds_136 {M0 : sy_M} {k69 : Int32 → Int32 → Int64 → Int64 → Int32 → sy_M → sy_O} (z69 : ∀ (a1 : Int32) (a2 : Int32) (a3 : Int64) (a5 : Int64) (a7 : Int32) (M : sy_M), sy_eqw (jW_X12_odds) M0 M → sy_fr (jW_X12_odds) M0 (k69 a1 a2 a3 a5 a7 M)) {k96 : Int32 → Int32 → Int64 → Int64 → Int32 → Int64 → Int32 → sy_M → sy_O} (z96 : ∀ (a1 : Int32) (a2 : Int32) (a3 : Int64) (a5 : Int64) (a7 : Int32) (a8 : Int64) (a10 : Int32) (M : sy_M), sy_eqw (jW_X12_odds) M0 M → sy_fr (jW_X12_odds) M0 (k96 a1 a2 a3 a5 a7 a8 a10 M)) : ∀ (a1 : Int32) (a2 : Int32) (a3 : Int64) (a5 : Int64) (a7 : Int32) (a10 : Int32) (s0 : Int64) (s1 : Int64) (M : sy_M), sy_eqw (jW_X12_odds) M0 M → sy_fr (jW_X12_odds) M0 (jfX12_odds_136 k69 k96 a1 a2 a3 a5 a7 a10 s0 s1 M) := by
  intro a1 a2 a3 a5 a7 a10 s0 s1 M e
  exact z96 _ _ _ _ _ _ _ _ e
theorem jzX12_odds_96 {M0 : sy_M} {k69 : Int32 → Int32 → Int64 → Int64 → Int32 → sy_M → sy_O} (z69 : ∀ (a1 : Int32) (a2 : Int32) (a3 : Int64) (a5 : Int64) (a7 : Int32) (M : sy_M), sy_eqw (jW_X12_odds) M0 M → sy_fr (jW_X12_odds) M0 (k69 a1 a2 a3 a5 a7 M)) : ∀ n : Nat, ∀ (a1 : Int32) (a2 : Int32) (a3 : Int64) (a5 : Int64) (a7 : Int32) (a8 : Int64) (a10 : Int32) (M : sy_M), sy_eqw (jW_X12_odds) M0 M → sy_fr (jW_X12_odds) M0 (jfX12_odds_96 k69 n a1 a2 a3 a5 a7 a8 a10 M) := by
  intro n
  induction n with
  | zero => intro a1 a2 a3 a5 a7 a8 a10 M e; exact sy_fr_none
  | succ n z96 => intro a1 a2 a3 a5 a7 a8 a10 M e; exact (sy_fr_ite ((sy_fr_bi (sy_fr_up e (jzoX12_isOf _ _ _) (sy_subw_ix [] rfl)) (fun _ _ e1 => (sy_fr_ite (jzX12_odds_136 z69 z96 _ _ _ _ _ _ _ _ _ e1) (jzX12_odds_136 z69 z96 _ _ _ _ _ _ _ _ _ e1))))) (z69 _ _ _ _ _ _ e))
theorem jzX12_odds_91 {M0 : sy_M} {k69 : Int32 → Int32 → Int64 → Int64 → Int32 → sy_M → sy_O} (z69 : ∀ (a1 : Int32) (a2 : Int32) (a3 : Int64) (a5 : Int64) (a7 : Int32) (M : sy_M), sy_eqw (jW_X12_odds) M0 M → sy_fr (jW_X12_odds) M0 (k69 a1 a2 a3 a5 a7 M)) : ∀ (a1 : Int32) (a2 : Int32) (a3 : Int64) (a5 : Int64) (a7 : Int32) (s0 : Int64) (M : sy_M), sy_eqw (jW_X12_odds) M0 M → sy_fr (jW_X12_odds) M0 (jfX12_odds_91 k69 a1 a2 a3 a5 a7 s0 M) := by
  intro a1 a2 a3 a5 a7 s0 M e
  exact jzX12_odds_96 z69 6000 _ _ _ _ _ _ _ _ e
theorem jzX12_odds_69 {M0 : sy_M} : ∀ n : Nat, ∀ (a1 : Int32) (a2 : Int32) (a3 : Int64) (a5 : Int64) (a7 : Int32) (M : sy_M), sy_eqw (jW_X12_odds) M0 M → sy_fr (jW_X12_odds) M0 (jfX12_odds_69 n a1 a2 a3 a5 a7 M) := by
  intro n
  induction n with
  | zero => intro a1 a2 a3 a5 a7 M e; exact sy_fr_none
  | succ n z69 => intro a1 a2 a3 a5 a7 M e; exact (sy_fr_ite ((sy_fr_bi (sy_fr_up e (jzoX12_bits _ _) (sy_subw_ix [] rfl)) (fun _ _ e1 => (sy_fr_ite (jzX12_odds_91 z69 _ _ _ _ _ _ _ e1) (jzX12_odds_91 z69 _ _ _ _ _ _ _ e1))))) ((sy_fr_ite sy_fr_none (sy_fr_end e))))
theorem jzX12_odds_46 {M0 : sy_M} : ∀ n : Nat, ∀ (a1 : Int32) (a2 : Int32) (a3 : Int64) (a5 : Int64) (a7 : Int32) (M : sy_M), sy_eqw (jW_X12_odds) M0 M → sy_fr (jW_X12_odds) M0 (jfX12_odds_46 n a1 a2 a3 a5 a7 M) := by
  intro n
  induction n with
  | zero => intro a1 a2 a3 a5 a7 M e; exact sy_fr_none
  | succ n z46 => intro a1 a2 a3 a5 a7 M e; exact (sy_fr_ite (z46 _ _ _ _ _ _ e) (jzX12_odds_69  6000 _ _ _ _ _ _ e))
theorem jzX12_odds_26 {M0 : sy_M} : ∀ (a1 : Int32) (a2 : Int32) (s0 : Int32) (M : sy_M), sy_eqw (jW_X12_odds) M0 M → sy_fr (jW_X12_odds) M0 (jfX12_odds_26 a1 a2 s0 M) := by
  intro a1 a2 s0 M e
  exact (sy_fr_ite (sy_fr_end (sy_eqw_uf e 0 rfl)) (jzX12_odds_46  6000 _ _ _ _ _ _ (sy_eqw_uf e 0 rfl)))
theorem jzX12_odds_21 {M0 : sy_M} : ∀ (a1 : Int32) (a2 : Int32) (M : sy_M), sy_eqw (jW_X12_odds) M0 M → sy_fr (jW_X12_odds) M0 (jfX12_odds_21 a1 a2 M) := by
  intro a1 a2 M e
  exact jzX12_odds_26  _ _ _ _ e
theorem jzX12_odds {M0 : sy_M} : ∀ (a1 : Int32) (a2 : Int32) (M : sy_M), sy_eqw (jW_X12_odds) M0 M → sy_fr (jW_X12_odds) M0 (jfX12_odds a1 a2 M) := by
  intro a1 a2 M e
  exact (sy_fr_bi (sy_fr_up e (jzoX12_isIn _ _ _ _) (sy_subw_ix [] rfl)) (fun _ _ e1 => (sy_fr_ite (jzX12_odds_21  _ _ _ e1) ((sy_fr_bi (sy_fr_up e1 (jzoX12_isIn _ _ _ _) (sy_subw_ix [] rfl)) (fun _ _ e2 => (sy_fr_ite (jzX12_odds_21  _ _ _ e2) (jzX12_odds_26  _ _ _ _ e2))))))))
theorem jzoX12_odds (a1 : Int32) (a2 : Int32) (M : sy_M) : sy_fr (jW_X12_odds) M (jfX12_odds a1 a2 M) := jzX12_odds a1 a2 M sy_eqw_refl
def jW_X11_busy : List (Nat × Option Nat) := [(50, none), (51, none)]
theorem jzX11_busy_42 {M0 : sy_M} {k15 : Int32 → Int32 → sy_M → sy_O} (z15 : ∀ (a1 : Int32) (a2 : Int32) (M : sy_M), sy_eqw (jW_X11_busy) M0 M → sy_fr (jW_X11_busy) M0 (k15 a1 a2 M)) : ∀ (a1 : Int32) (a2 : Int32) (M : sy_M), sy_eqw (jW_X11_busy) M0 M → sy_fr (jW_X11_busy) M0 (jfX11_busy_42 k15 a1 a2 M) := by
  intro a1 a2 M e
  exact z15 _ _ _ e
theorem jzX11_busy_15 {M0 : sy_M} : ∀ n : Nat, ∀ (a1 : Int32) (a2 : Int32) (M : sy_M), sy_eqw (jW_X11_busy) M0 M → sy_fr (jW_X11_busy) M0 (jfX11_busy_15 n a1 a2 M) := by
  intro n
  induction n with
  | zero => intro a1 a2 M e; exact sy_fr_none
  | succ n z15 => intro a1 a2 M e; exact (sy_fr_ite ((sy_fr_bi (sy_fr_up e (jzoX8_needsAt _ _) (sy_subw_ix [] rfl)) (fun _ _ e1 => (sy_fr_bi (sy_fr_up e1 (jzoX8_needsAt _ _) (sy_subw_ix [] rfl)) (fun _ _ e2 => (sy_fr_ite (jzX11_busy_42 z15 _ _ _ e2) (jzX11_busy_42 z15 _ _ _ e2))))))) (sy_fr_end e))
theorem jzX11_busy {M0 : sy_M} : ∀ (M : sy_M), sy_eqw (jW_X11_busy) M0 M → sy_fr (jW_X11_busy) M0 (jfX11_busy M) := by
  intro  M e
  exact (sy_fr_bv (sy_fr_up e (jzoX8_learn _ _) (sy_subw_ix [0, 1] rfl)) (fun _ e1 => jzX11_busy_15  6000 _ _ _ e1))
theorem jzoX11_busy (M : sy_M) : sy_fr (jW_X11_busy) M (jfX11_busy M) := jzX11_busy  M sy_eqw_refl
def jW_X12_busy : List (Nat × Option Nat) := [(121, some 0)]
theorem jzX12_busy_30 {M0 : sy_M} {k9 : Int32 → Int32 → sy_M → sy_O} (z9 : ∀ (a1 : Int32) (a2 : Int32) (M : sy_M), sy_eqw (jW_X12_busy) M0 M → sy_fr (jW_X12_busy) M0 (k9 a1 a2 M)) : ∀ (a1 : Int32) (a2 : Int32) (M : sy_M), sy_eqw (jW_X12_busy) M0 M → sy_fr (jW_X12_busy) M0 (jfX12_busy_30 k9 a1 a2 M) := by
  intro a1 a2 M e
  exact z9 _ _ _ e
theorem jzX12_busy_9 {M0 : sy_M} : ∀ n : Nat, ∀ (a1 : Int32) (a2 : Int32) (M : sy_M), sy_eqw (jW_X12_busy) M0 M → sy_fr (jW_X12_busy) M0 (jfX12_busy_9 n a1 a2 M) := by
  intro n
  induction n with
  | zero => intro a1 a2 M e; exact sy_fr_none
  | succ n z9 => intro a1 a2 M e; exact (sy_fr_ite ((sy_fr_bi (sy_fr_up e (jzoX12_needsIn _ _) (sy_subw_ix [] rfl)) (fun _ _ e1 => (sy_fr_bi (sy_fr_up e1 (jzoX12_needsIn _ _) (sy_subw_ix [] rfl)) (fun _ _ e2 => (sy_fr_ite (jzX12_busy_30 z9 _ _ _ e2) (jzX12_busy_30 z9 _ _ _ e2))))))) (sy_fr_end e))
theorem jzX12_busy {M0 : sy_M} : ∀ (M : sy_M), sy_eqw (jW_X12_busy) M0 M → sy_fr (jW_X12_busy) M0 (jfX12_busy M) := by
  intro  M e
  exact jzX12_busy_9  6000 _ _ _ (sy_eqw_uf e 0 rfl)
theorem jzoX12_busy (M : sy_M) : sy_fr (jW_X12_busy) M (jfX12_busy M) := jzX12_busy  M sy_eqw_refl
def jW_X11_alone : List (Nat × Option Nat) := [(50, none), (51, none)]
theorem jzX11_alone_35 {M0 : sy_M} {k15 : Int32 → Int32 → sy_M → sy_O} (z15 : ∀ (a1 : Int32) (a2 : Int32) (M : sy_M), sy_eqw (jW_X11_alone) M0 M → sy_fr (jW_X11_alone) M0 (k15 a1 a2 M)) : ∀ (a1 : Int32) (a2 : Int32) (M : sy_M), sy_eqw (jW_X11_alone) M0 M → sy_fr (jW_X11_alone) M0 (jfX11_alone_35 k15 a1 a2 M) := by
  intro a1 a2 M e
  exact z15 _ _ _ e
theorem jzX11_alone_15 {M0 : sy_M} : ∀ n : Nat, ∀ (a1 : Int32) (a2 : Int32) (M : sy_M), sy_eqw (jW_X11_alone) M0 M → sy_fr (jW_X11_alone) M0 (jfX11_alone_15 n a1 a2 M) := by
  intro n
  induction n with
  | zero => intro a1 a2 M e; exact sy_fr_none
  | succ n z15 => intro a1 a2 M e; exact (sy_fr_ite ((sy_fr_bi (sy_fr_up e (jzoX8_presentAt _ _) (sy_subw_ix [] rfl)) (fun _ _ e1 => (sy_fr_ite (jzX11_alone_35 z15 _ _ _ e1) (jzX11_alone_35 z15 _ _ _ e1))))) (sy_fr_end e))
theorem jzX11_alone {M0 : sy_M} : ∀ (M : sy_M), sy_eqw (jW_X11_alone) M0 M → sy_fr (jW_X11_alone) M0 (jfX11_alone M) := by
  intro  M e
  exact (sy_fr_bv (sy_fr_up e (jzoX8_learn _ _) (sy_subw_ix [0, 1] rfl)) (fun _ e1 => jzX11_alone_15  6000 _ _ _ e1))
theorem jzoX11_alone (M : sy_M) : sy_fr (jW_X11_alone) M (jfX11_alone M) := jzX11_alone  M sy_eqw_refl
def jW_X12_alone : List (Nat × Option Nat) := [(121, some 0)]
theorem jzX12_alone_29 {M0 : sy_M} {k9 : Int32 → Int32 → sy_M → sy_O} (z9 : ∀ (a1 : Int32) (a2 : Int32) (M : sy_M), sy_eqw (jW_X12_alone) M0 M → sy_fr (jW_X12_alone) M0 (k9 a1 a2 M)) : ∀ (a2 : Int32) (s0 : Int32) (s1 : Int32) (M : sy_M), sy_eqw (jW_X12_alone) M0 M → sy_fr (jW_X12_alone) M0 (jfX12_alone_29 k9 a2 s0 s1 M) := by
  intro a2 s0 s1 M e
  exact z9 _ _ _ e
theorem jzX12_alone_9 {M0 : sy_M} : ∀ n : Nat, ∀ (a1 : Int32) (a2 : Int32) (M : sy_M), sy_eqw (jW_X12_alone) M0 M → sy_fr (jW_X12_alone) M0 (jfX12_alone_9 n a1 a2 M) := by
  intro n
  induction n with
  | zero => intro a1 a2 M e; exact sy_fr_none
  | succ n z9 => intro a1 a2 M e; exact (sy_fr_ite ((sy_fr_bi (sy_fr_up e (jzoX12_homeIn _ _) (sy_subw_ix [] rfl)) (fun _ _ e1 => (sy_fr_ite (jzX12_alone_29 z9 _ _ _ _ e1) (jzX12_alone_29 z9 _ _ _ _ e1))))) (sy_fr_end e))
theorem jzX12_alone {M0 : sy_M} : ∀ (M : sy_M), sy_eqw (jW_X12_alone) M0 M → sy_fr (jW_X12_alone) M0 (jfX12_alone M) := by
  intro  M e
  exact jzX12_alone_9  6000 _ _ _ (sy_eqw_uf e 0 rfl)
theorem jzoX12_alone (M : sy_M) : sy_fr (jW_X12_alone) M (jfX12_alone M) := jzX12_alone  M sy_eqw_refl
def jW_X11_miser : List (Nat × Option Nat) := []
theorem jzX11_miser_77 {M0 : sy_M} {k4 : Int32 → Int32 → sy_M → sy_O} (z4 : ∀ (a1 : Int32) (a2 : Int32) (M : sy_M), sy_eqw (jW_X11_miser) M0 M → sy_fr (jW_X11_miser) M0 (k4 a1 a2 M)) : ∀ (a1 : Int32) (a2 : Int32) (M : sy_M), sy_eqw (jW_X11_miser) M0 M → sy_fr (jW_X11_miser) M0 (jfX11_miser_77 k4 a1 a2 M) := by
  intro a1 a2 M e
  exact z4 _ _ _ e
theorem jzX11_miser_75 {M0 : sy_M} {k4 : Int32 → Int32 → sy_M → sy_O} (z4 : ∀ (a1 : Int32) (a2 : Int32) (M : sy_M), sy_eqw (jW_X11_miser) M0 M → sy_fr (jW_X11_miser) M0 (k4 a1 a2 M)) : ∀ (a2 : Int32) (M : sy_M), sy_eqw (jW_X11_miser) M0 M → sy_fr (jW_X11_miser) M0 (jfX11_miser_75 k4 a2 M) := by
  intro a2 M e
  exact jzX11_miser_77 z4 _ _ _ e
theorem jzX11_miser_4 {M0 : sy_M} : ∀ n : Nat, ∀ (a1 : Int32) (a2 : Int32) (M : sy_M), sy_eqw (jW_X11_miser) M0 M → sy_fr (jW_X11_miser) M0 (jfX11_miser_4 n a1 a2 M) := by
  intro n
  induction n with
  | zero => intro a1 a2 M e; exact sy_fr_none
  | succ n z4 => intro a1 a2 M e; exact (sy_fr_ite ((sy_fr_bi (sy_fr_up e (jzoX2_isIn _ _ _ _) (sy_subw_ix [] rfl)) (fun _ _ e1 => (sy_fr_ite (jzX11_miser_77 z4 _ _ _ e1) ((sy_fr_bi (sy_fr_up e1 (jzoX2_get _ _ _ _) (sy_subw_ix [] rfl)) (fun _ _ e2 => (sy_fr_ite (jzX11_miser_77 z4 _ _ _ e2) ((sy_fr_ite (jzX11_miser_75 z4 _ _ e2) ((sy_fr_bi (sy_fr_up e2 (jzoX2_get _ _ _ _) (sy_subw_ix [] rfl)) (fun _ _ e3 => (sy_fr_bi (sy_fr_up e3 (jzoX2_get _ _ _ _) (sy_subw_ix [] rfl)) (fun _ _ e4 => (sy_fr_ite (jzX11_miser_75 z4 _ _ e4) (jzX11_miser_77 z4 _ _ _ e4))))))))))))))))) (sy_fr_end e))
theorem jzX11_miser {M0 : sy_M} : ∀ (M : sy_M), sy_eqw (jW_X11_miser) M0 M → sy_fr (jW_X11_miser) M0 (jfX11_miser M) := by
  intro  M e
  exact jzX11_miser_4  6000 _ _ _ e
theorem jzoX11_miser (M : sy_M) : sy_fr (jW_X11_miser) M (jfX11_miser M) := jzX11_miser  M sy_eqw_refl
def jW_X12_miser : List (Nat × Option Nat) := [(121, some 0)]
theorem jzX12_miser_69 {M0 : sy_M} {k20 : Int32 → Int32 → Int32 → sy_M → sy_O} (z20 : ∀ (a1 : Int32) (a2 : Int32) (a3 : Int32) (M : sy_M), sy_eqw (jW_X12_miser) M0 M → sy_fr (jW_X12_miser) M0 (k20 a1 a2 a3 M)) : ∀ (a1 : Int32) (a2 : Int32) (a3 : Int32) (M : sy_M), sy_eqw (jW_X12_miser) M0 M → sy_fr (jW_X12_miser) M0 (jfX12_miser_69 k20 a1 a2 a3 M) := by
  intro a1 a2 a3 M e
  exact z20 _ _ _ _ e
theorem jzX12_miser_67 {M0 : sy_M} {k20 : Int32 → Int32 → Int32 → sy_M → sy_O} (z20 : ∀ (a1 : Int32) (a2 : Int32) (a3 : Int32) (M : sy_M), sy_eqw (jW_X12_miser) M0 M → sy_fr (jW_X12_miser) M0 (k20 a1 a2 a3 M)) : ∀ (a1 : Int32) (a3 : Int32) (M : sy_M), sy_eqw (jW_X12_miser) M0 M → sy_fr (jW_X12_miser) M0 (jfX12_miser_67 k20 a1 a3 M) := by
  intro a1 a3 M e
  exact jzX12_miser_69 z20 _ _ _ _ e
theorem jzX12_miser_20 {M0 : sy_M} : ∀ n : Nat, ∀ (a1 : Int32) (a2 : Int32) (a3 : Int32) (M : sy_M), sy_eqw (jW_X12_miser) M0 M → sy_fr (jW_X12_miser) M0 (jfX12_miser_20 n a1 a2 a3 M) := by
  intro n
  induction n with
  | zero => intro a1 a2 a3 M e; exact sy_fr_none
  | succ n z20 => intro a1 a2 a3 M e; exact (sy_fr_ite ((sy_fr_bi (sy_fr_up e (jzoX12_isOf _ _ _) (sy_subw_ix [] rfl)) (fun _ _ e1 => (sy_fr_ite (jzX12_miser_69 z20 _ _ _ _ e1) ((sy_fr_bi (sy_fr_up e1 (jzoX12_of _ _ _) (sy_subw_ix [] rfl)) (fun _ _ e2 => (sy_fr_ite ((sy_fr_ite (jzX12_miser_67 z20 _ _ _ e2) ((sy_fr_bi (sy_fr_up e2 (jzoX12_of _ _ _) (sy_subw_ix [] rfl)) (fun _ _ e3 => (sy_fr_bi (sy_fr_up e3 (jzoX12_of _ _ _) (sy_subw_ix [] rfl)) (fun _ _ e4 => (sy_fr_ite (jzX12_miser_67 z20 _ _ _ e4) (jzX12_miser_69 z20 _ _ _ _ e4))))))))) (jzX12_miser_69 z20 _ _ _ _ e2))))))))) (sy_fr_end e))
theorem jzX12_miser {M0 : sy_M} : ∀ (M : sy_M), sy_eqw (jW_X12_miser) M0 M → sy_fr (jW_X12_miser) M0 (jfX12_miser M) := by
  intro  M e
  exact (sy_fr_bi (sy_fr_up (sy_eqw_uf e 0 rfl) (jzoX12_homeIn _ _) (sy_subw_ix [] rfl)) (fun _ _ e1 => jzX12_miser_20  6000 _ _ _ _ e1))
theorem jzoX12_miser (M : sy_M) : sy_fr (jW_X12_miser) M (jfX12_miser M) := jzX12_miser  M sy_eqw_refl
def jW_X2_isLike (r0 : Nat) : List (Nat × Option Nat) := []
theorem jzX2_isLike {r0 : Nat} {M0 : sy_M} : ∀ (a1 : Int32) (a2 : Int32) (M : sy_M), sy_eqw (jW_X2_isLike r0) M0 M → sy_fr (jW_X2_isLike r0) M0 (jfX2_isLike r0 a1 a2 M) := by
  intro a1 a2 M e
  exact (sy_fr_cond ((sy_fr_bi (sy_fr_up e (jzoX2_get _ _ _ _) (sy_subw_ix [] rfl)) (fun _ _ e1 => (sy_fr_cond ((sy_fr_bi (sy_fr_up e1 (jzoX2_get _ _ _ _) (sy_subw_ix [] rfl)) (fun _ _ e2 => (sy_fr_ite ((sy_fr_cond ((sy_fr_bi (sy_fr_up e2 (jzoX2_get _ _ _ _) (sy_subw_ix [] rfl)) (fun _ _ e3 => (sy_fr_cond ((sy_fr_bi (sy_fr_up e3 (jzoX2_get _ _ _ _) (sy_subw_ix [] rfl)) (fun _ _ e4 => (sy_fr_ite ((sy_fr_cond ((sy_fr_bi (sy_fr_up e4 (jzoX2_get _ _ _ _) (sy_subw_ix [] rfl)) (fun _ _ e5 => (sy_fr_cond ((sy_fr_bi (sy_fr_up e5 (jzoX2_get _ _ _ _) (sy_subw_ix [] rfl)) (fun _ _ e6 => (sy_fr_ite (sy_fr_end e6) (sy_fr_end e6))))))))))) (sy_fr_end e4))))))))))) (sy_fr_end e2))))))))))
theorem jzoX2_isLike (r0 : Nat) (a1 : Int32) (a2 : Int32) (M : sy_M) : sy_fr (jW_X2_isLike r0) M (jfX2_isLike r0 a1 a2 M) := jzX2_isLike a1 a2 M sy_eqw_refl
def jW_X11_alike : List (Nat × Option Nat) := []
theorem jzX11_alike_45 {M0 : sy_M} {k4 : Int32 → Int32 → sy_M → sy_O} (z4 : ∀ (a1 : Int32) (a2 : Int32) (M : sy_M), sy_eqw (jW_X11_alike) M0 M → sy_fr (jW_X11_alike) M0 (k4 a1 a2 M)) {k19 : Int32 → Int32 → Int32 → sy_M → sy_O} (z19 : ∀ (a1 : Int32) (a2 : Int32) (a3 : Int32) (M : sy_M), sy_eqw (jW_X11_alike) M0 M → sy_fr (jW_X11_alike) M0 (k19 a1 a2 a3 M)) : ∀ (a1 : Int32) (a2 : Int32) (a3 : Int32) (M : sy_M), sy_eqw (jW_X11_alike) M0 M → sy_fr (jW_X11_alike) M0 (jfX11_alike_45 k4 k19 a1 a2 a3 M) := by
  intro a1 a2 a3 M e
  exact z19 _ _ _ _ e
theorem jzX11_alike_19 {M0 : sy_M} {k4 : Int32 → Int32 → sy_M → sy_O} (z4 : ∀ (a1 : Int32) (a2 : Int32) (M : sy_M), sy_eqw (jW_X11_alike) M0 M → sy_fr (jW_X11_alike) M0 (k4 a1 a2 M)) : ∀ n : Nat, ∀ (a1 : Int32) (a2 : Int32) (a3 : Int32) (M : sy_M), sy_eqw (jW_X11_alike) M0 M → sy_fr (jW_X11_alike) M0 (jfX11_alike_19 k4 n a1 a2 a3 M) := by
  intro n
  induction n with
  | zero => intro a1 a2 a3 M e; exact sy_fr_none
  | succ n z19 => intro a1 a2 a3 M e; exact (sy_fr_ite ((sy_fr_bi (sy_fr_up e (jzoX2_isLike _ _ _ _) (sy_subw_ix [] rfl)) (fun _ _ e1 => (sy_fr_ite (jzX11_alike_45 z4 z19 _ _ _ _ e1) (jzX11_alike_45 z4 z19 _ _ _ _ e1))))) (z4 _ _ _ e))
theorem jzX11_alike_4 {M0 : sy_M} : ∀ n : Nat, ∀ (a1 : Int32) (a2 : Int32) (M : sy_M), sy_eqw (jW_X11_alike) M0 M → sy_fr (jW_X11_alike) M0 (jfX11_alike_4 n a1 a2 M) := by
  intro n
  induction n with
  | zero => intro a1 a2 M e; exact sy_fr_none
  | succ n z4 => intro a1 a2 M e; exact (sy_fr_ite (jzX11_alike_19 z4 6000 _ _ _ _ e) (sy_fr_end e))
theorem jzX11_alike {M0 : sy_M} : ∀ (M : sy_M), sy_eqw (jW_X11_alike) M0 M → sy_fr (jW_X11_alike) M0 (jfX11_alike M) := by
  intro  M e
  exact jzX11_alike_4  6000 _ _ _ e
theorem jzoX11_alike (M : sy_M) : sy_fr (jW_X11_alike) M (jfX11_alike M) := jzX11_alike  M sy_eqw_refl
def jW_X12_alike : List (Nat × Option Nat) := [(121, some 0)]
theorem jzX12_alike_84 {M0 : sy_M} {k9 : Int32 → Int32 → sy_M → sy_O} (z9 : ∀ (a1 : Int32) (a2 : Int32) (M : sy_M), sy_eqw (jW_X12_alike) M0 M → sy_fr (jW_X12_alike) M0 (k9 a1 a2 M)) {k23 : Int32 → Int32 → Int32 → sy_M → sy_O} (z23 : ∀ (a1 : Int32) (a2 : Int32) (a3 : Int32) (M : sy_M), sy_eqw (jW_X12_alike) M0 M → sy_fr (jW_X12_alike) M0 (k23 a1 a2 a3 M)) : ∀ (a2 : Int32) (a3 : Int32) (s0 : Int32) (s1 : Int32) (M : sy_M), sy_eqw (jW_X12_alike) M0 M → sy_fr (jW_X12_alike) M0 (jfX12_alike_84 k9 k23 a2 a3 s0 s1 M) := by
  intro a2 a3 s0 s1 M e
  exact z23 _ _ _ _ e
theorem jzX12_alike_83 {M0 : sy_M} {k9 : Int32 → Int32 → sy_M → sy_O} (z9 : ∀ (a1 : Int32) (a2 : Int32) (M : sy_M), sy_eqw (jW_X12_alike) M0 M → sy_fr (jW_X12_alike) M0 (k9 a1 a2 M)) {k23 : Int32 → Int32 → Int32 → sy_M → sy_O} (z23 : ∀ (a1 : Int32) (a2 : Int32) (a3 : Int32) (M : sy_M), sy_eqw (jW_X12_alike) M0 M → sy_fr (jW_X12_alike) M0 (k23 a1 a2 a3 M)) : ∀ (a2 : Int32) (a3 : Int32) (s0 : Int32) (M : sy_M), sy_eqw (jW_X12_alike) M0 M → sy_fr (jW_X12_alike) M0 (jfX12_alike_83 k9 k23 a2 a3 s0 M) := by
  intro a2 a3 s0 M e
  exact jzX12_alike_84 z9 z23 _ _ _ _ _ e
theorem jzX12_alike_23 {M0 : sy_M} {k9 : Int32 → Int32 → sy_M → sy_O} (z9 : ∀ (a1 : Int32) (a2 : Int32) (M : sy_M), sy_eqw (jW_X12_alike) M0 M → sy_fr (jW_X12_alike) M0 (k9 a1 a2 M)) : ∀ n : Nat, ∀ (a1 : Int32) (a2 : Int32) (a3 : Int32) (M : sy_M), sy_eqw (jW_X12_alike) M0 M → sy_fr (jW_X12_alike) M0 (jfX12_alike_23 k9 n a1 a2 a3 M) := by
  intro n
  induction n with
  | zero => intro a1 a2 a3 M e; exact sy_fr_none
  | succ n z23 => intro a1 a2 a3 M e; exact (sy_fr_ite ((sy_fr_bi (sy_fr_up e (jzoX12_of _ _ _) (sy_subw_ix [] rfl)) (fun _ _ e1 => (sy_fr_bi (sy_fr_up e1 (jzoX12_of _ _ _) (sy_subw_ix [] rfl)) (fun _ _ e2 => (sy_fr_ite ((sy_fr_bi (sy_fr_up e2 (jzoX12_of _ _ _) (sy_subw_ix [] rfl)) (fun _ _ e3 => (sy_fr_bi (sy_fr_up e3 (jzoX12_of _ _ _) (sy_subw_ix [] rfl)) (fun _ _ e4 => (sy_fr_ite ((sy_fr_bi (sy_fr_up e4 (jzoX12_of _ _ _) (sy_subw_ix [] rfl)) (fun _ _ e5 => (sy_fr_bi (sy_fr_up e5 (jzoX12_of _ _ _) (sy_subw_ix [] rfl)) (fun _ _ e6 => (sy_fr_ite (jzX12_alike_84 z9 z23 _ _ _ _ _ e6) (jzX12_alike_83 z9 z23 _ _ _ _ e6))))))) (jzX12_alike_83 z9 z23 _ _ _ _ e4))))))) (jzX12_alike_83 z9 z23 _ _ _ _ e2))))))) (z9 _ _ _ e))
theorem jzX12_alike_9 {M0 : sy_M} : ∀ n : Nat, ∀ (a1 : Int32) (a2 : Int32) (M : sy_M), sy_eqw (jW_X12_alike) M0 M → sy_fr (jW_X12_alike) M0 (jfX12_alike_9 n a1 a2 M) := by
  intro n
  induction n with
  | zero => intro a1 a2 M e; exact sy_fr_none
  | succ n z9 => intro a1 a2 M e; exact (sy_fr_ite (jzX12_alike_23 z9 6000 _ _ _ _ e) (sy_fr_end e))
theorem jzX12_alike {M0 : sy_M} : ∀ (M : sy_M), sy_eqw (jW_X12_alike) M0 M → sy_fr (jW_X12_alike) M0 (jfX12_alike M) := by
  intro  M e
  exact jzX12_alike_9  6000 _ _ _ (sy_eqw_uf e 0 rfl)
theorem jzoX12_alike (M : sy_M) : sy_fr (jW_X12_alike) M (jfX12_alike M) := jzX12_alike  M sy_eqw_refl
def jW_X11_trial : List (Nat × Option Nat) := [(133, some 0), (19, some 3), (19, some 4), (19, some 5), (19, some 6), (19, some 7), (19, some 8), (19, some 9), (19, some 10), (19, some 11), (19, some 12), (19, some 13), (20, none), (21, none), (22, some 2), (22, some 3), (23, none), (50, none), (51, none), (52, none)]
theorem jzX11_trial {M0 : sy_M} : ∀ (a1 : Int32) (a2 : Int32) (M : sy_M), sy_eqw (jW_X11_trial) M0 M → sy_fr (jW_X11_trial) M0 (jfX11_trial a1 a2 M) := by
  intro a1 a2 M e
  exact (sy_fr_bv (sy_fr_up e (jzoX11_checkRange _ _ _ _) (sy_subw_ix [0] rfl)) (fun _ e1 => (sy_fr_bv (sy_fr_up e1 (jzoX11_start  _) (sy_subw_ix [1, 2, 3, 4, 5, 6, 7, 8, 9, 10, 11, 12, 13, 14, 15, 16, 17, 18] rfl)) (fun _ e2 => (sy_fr_bi (sy_fr_up e2 (jzoX11_run _ _ _) (sy_subw_ix [3, 4, 5, 7, 9, 10, 11, 12, 14, 15, 16, 19] rfl)) (fun _ _ e3 => (sy_fr_ite (sy_fr_end e3) ((sy_fr_bi (sy_fr_up e3 (jzoX2_sum _ _ _) (sy_subw_ix [] rfl)) (fun _ _ e4 => sy_fr_end e4))))))))))
theorem jzoX11_trial (a1 : Int32) (a2 : Int32) (M : sy_M) : sy_fr (jW_X11_trial) M (jfX11_trial a1 a2 M) := jzX11_trial a1 a2 M sy_eqw_refl
def jW_L_trial : List (Nat × Option Nat) := [(132, none), (133, some 0), (19, some 3), (19, some 4), (19, some 5), (19, some 6), (19, some 7), (19, some 8), (19, some 9), (19, some 10), (19, some 11), (19, some 12), (19, some 13), (20, none), (21, none), (22, some 2), (22, some 3), (23, none), (50, none), (51, none), (52, none)]
theorem jzL_trial {M0 : sy_M} : ∀ (a1 : Int32) (a2 : Int32) (M : sy_M), sy_eqw (jW_L_trial) M0 M → sy_fr (jW_L_trial) M0 (jfL_trial a1 a2 M) := by
  intro a1 a2 M e
  exact (sy_fr_hi (sy_fr_up e (jzoX11_trial _ _ _) (sy_subw_ix [1, 2, 3, 4, 5, 6, 7, 8, 9, 10, 11, 12, 13, 14, 15, 16, 17, 18, 19, 20] rfl)) (fun _ _ e1 => sy_fr_end (sy_eqw_wl e1 0 rfl)) (fun _ _ e1 => (sy_fr_ite (sy_fr_end e1) sy_fr_none)))
theorem jzoL_trial (a1 : Int32) (a2 : Int32) (M : sy_M) : sy_fr (jW_L_trial) M (jfL_trial a1 a2 M) := jzL_trial a1 a2 M sy_eqw_refl
def jW_X12_trial : List (Nat × Option Nat) := [(121, some 0), (121, some 9), (121, some 10), (121, some 11), (121, some 12), (121, some 13), (121, some 15), (121, some 16), (121, some 17), (121, some 18), (121, some 20), (121, some 21), (122, none), (124, none), (127, none)]
theorem jzX12_trial_54 {M0 : sy_M} : ∀ (s0 : Int32) (M : sy_M), sy_eqw (jW_X12_trial) M0 M → sy_fr (jW_X12_trial) M0 (jfX12_trial_54 s0 M) := by
  intro s0 M e
  exact (sy_fr_bv (sy_fr_up e (jzoX12_comesBack  _) (sy_subw_ix [12] rfl)) (fun _ e1 => sy_fr_end e1))
theorem jzX12_trial_16 {M0 : sy_M} : ∀ (a1 : Int32) (a2 : Int32) (s0 : Int32) (M : sy_M), sy_eqw (jW_X12_trial) M0 M → sy_fr (jW_X12_trial) M0 (jfX12_trial_16 a1 a2 s0 M) := by
  intro a1 a2 s0 M e
  exact (sy_fr_ite (sy_fr_end (sy_eqw_uf e 0 rfl)) ((sy_fr_bv (sy_fr_up (sy_eqw_uf e 0 rfl) (jzoX12_putsAside  _) (sy_subw_ix [13] rfl)) (fun _ e1 => (sy_fr_bi (sy_fr_up e1 (jzoX12_goes _ _ _) (sy_subw_ix [1, 2, 3, 4, 5, 6, 7, 8, 9, 10, 11, 12, 14] rfl)) (fun _ _ e2 => (sy_fr_ite (jzX12_trial_54  _ _ e2) ((sy_fr_bi (sy_fr_up e2 (jzoX12_coldOfAll  _) (sy_subw_ix [] rfl)) (fun _ _ e3 => jzX12_trial_54  _ _ e3))))))))))
theorem jzX12_trial {M0 : sy_M} : ∀ (a1 : Int32) (a2 : Int32) (M : sy_M), sy_eqw (jW_X12_trial) M0 M → sy_fr (jW_X12_trial) M0 (jfX12_trial a1 a2 M) := by
  intro a1 a2 M e
  exact (sy_fr_bi (sy_fr_up e (jzoX12_isIn _ _ _ _) (sy_subw_ix [] rfl)) (fun _ _ e1 => (sy_fr_ite (jzX12_trial_16  _ _ _ _ e1) (jzX12_trial_16  _ _ _ _ e1))))
theorem jzoX12_trial (a1 : Int32) (a2 : Int32) (M : sy_M) : sy_fr (jW_X12_trial) M (jfX12_trial a1 a2 M) := jzX12_trial a1 a2 M sy_eqw_refl
def jW_X11_span : List (Nat × Option Nat) := [(133, some 0), (19, some 3), (19, some 4), (19, some 5), (19, some 6), (19, some 7), (19, some 8), (19, some 9), (19, some 10), (19, some 11), (19, some 12), (19, some 13), (20, none), (21, none), (22, some 2), (22, some 3), (23, none), (50, none), (51, none), (52, none)]
theorem jzX11_span_86 {M0 : sy_M} {k23 : Int32 → Int32 → Int32 → Int32 → sy_M → sy_O} (z23 : ∀ (a1 : Int32) (a2 : Int32) (a3 : Int32) (a4 : Int32) (M : sy_M), sy_eqw (jW_X11_span) M0 M → sy_fr (jW_X11_span) M0 (k23 a1 a2 a3 a4 M)) : ∀ (a1 : Int32) (a2 : Int32) (a3 : Int32) (a4 : Int32) (M : sy_M), sy_eqw (jW_X11_span) M0 M → sy_fr (jW_X11_span) M0 (jfX11_span_86 k23 a1 a2 a3 a4 M) := by
  intro a1 a2 a3 a4 M e
  exact z23 _ _ _ _ _ e
theorem jzX11_span_83 {M0 : sy_M} {k23 : Int32 → Int32 → Int32 → Int32 → sy_M → sy_O} (z23 : ∀ (a1 : Int32) (a2 : Int32) (a3 : Int32) (a4 : Int32) (M : sy_M), sy_eqw (jW_X11_span) M0 M → sy_fr (jW_X11_span) M0 (k23 a1 a2 a3 a4 M)) : ∀ (a1 : Int32) (a2 : Int32) (a4 : Int32) (a5 : Int32) (M : sy_M), sy_eqw (jW_X11_span) M0 M → sy_fr (jW_X11_span) M0 (jfX11_span_83 k23 a1 a2 a4 a5 M) := by
  intro a1 a2 a4 a5 M e
  exact jzX11_span_86 z23 _ _ _ _ _ e
theorem jzX11_span_23 {M0 : sy_M} : ∀ n : Nat, ∀ (a1 : Int32) (a2 : Int32) (a3 : Int32) (a4 : Int32) (M : sy_M), sy_eqw (jW_X11_span) M0 M → sy_fr (jW_X11_span) M0 (jfX11_span_23 n a1 a2 a3 a4 M) := by
  intro n
  induction n with
  | zero => intro a1 a2 a3 a4 M e; exact sy_fr_none
  | succ n z23 => intro a1 a2 a3 a4 M e; exact (sy_fr_ite (sy_fr_end e) ((sy_fr_bv (sy_fr_up e (jzoX2_takeOver _ _ _) (sy_subw_ix [1, 2, 3, 4, 5, 6, 7, 8, 9, 10, 11, 12, 13, 14, 15, 16] rfl)) (fun _ e1 => (sy_fr_bi (sy_fr_up (sy_eqw_uf e1 11 rfl) (jzoX11_run _ _ _) (sy_subw_ix [3, 4, 5, 7, 9, 10, 11, 12, 14, 15, 16, 19] rfl)) (fun _ _ e2 => (sy_fr_ite (jzX11_span_83 z23 _ _ _ _ _ e2) ((sy_fr_ite ((sy_fr_ite (jzX11_span_83 z23 _ _ _ _ _ e2) (jzX11_span_86 z23 _ _ _ _ _ e2))) ((sy_fr_ite (jzX11_span_83 z23 _ _ _ _ _ e2) (jzX11_span_86 z23 _ _ _ _ _ e2))))))))))))
theorem jzX11_span {M0 : sy_M} : ∀ (a1 : Int32) (a2 : Int32) (M : sy_M), sy_eqw (jW_X11_span) M0 M → sy_fr (jW_X11_span) M0 (jfX11_span a1 a2 M) := by
  intro a1 a2 M e
  exact (sy_fr_bv (sy_fr_up e (jzoX11_checkRange _ _ _ _) (sy_subw_ix [0] rfl)) (fun _ e1 => (sy_fr_bv (sy_fr_up e1 (jzoX8_learn _ _) (sy_subw_ix [17, 18] rfl)) (fun _ e2 => jzX11_span_23  6000 _ _ _ _ _ e2))))
theorem jzoX11_span (a1 : Int32) (a2 : Int32) (M : sy_M) : sy_fr (jW_X11_span) M (jfX11_span a1 a2 M) := jzX11_span a1 a2 M sy_eqw_refl
def jW_L_span : List (Nat × Option Nat) := [(132, none), (133, some 0), (19, some 3), (19, some 4), (19, some 5), (19, some 6), (19, some 7), (19, some 8), (19, some 9), (19, some 10), (19, some 11), (19, some 12), (19, some 13), (20, none), (21, none), (22, some 2), (22, some 3), (23, none), (50, none), (51, none), (52, none)]
theorem jzL_span {M0 : sy_M} : ∀ (a1 : Int32) (a2 : Int32) (M : sy_M), sy_eqw (jW_L_span) M0 M → sy_fr (jW_L_span) M0 (jfL_span a1 a2 M) := by
  intro a1 a2 M e
  exact (sy_fr_hi (sy_fr_up e (jzoX11_span _ _ _) (sy_subw_ix [1, 2, 3, 4, 5, 6, 7, 8, 9, 10, 11, 12, 13, 14, 15, 16, 17, 18, 19, 20] rfl)) (fun _ _ e1 => sy_fr_end (sy_eqw_wl e1 0 rfl)) (fun _ _ e1 => (sy_fr_ite (sy_fr_end e1) sy_fr_none)))
theorem jzoL_span (a1 : Int32) (a2 : Int32) (M : sy_M) : sy_fr (jW_L_span) M (jfL_span a1 a2 M) := jzL_span a1 a2 M sy_eqw_refl
def jW_X12_span : List (Nat × Option Nat) := [(121, some 0), (121, some 9), (121, some 10), (121, some 11), (121, some 12), (121, some 13), (121, some 15), (121, some 16), (121, some 17), (121, some 18), (121, some 20), (121, some 21), (122, none), (124, none), (127, none)]
theorem jzX12_span_100 {M0 : sy_M} {k37 : Int32 → Int32 → Int32 → Int32 → sy_M → sy_O} (z37 : ∀ (a1 : Int32) (a2 : Int32) (a3 : Int32) (a4 : Int32) (M : sy_M), sy_eqw (jW_X12_span) M0 M → sy_fr (jW_X12_span) M0 (k37 a1 a2 a3 a4 M)) : ∀ (a1 : Int32) (a2 : Int32) (a4 : Int32) (s0 : Int32) (M : sy_M), sy_eqw (jW_X12_span) M0 M → sy_fr (jW_X12_span) M0 (jfX12_span_100 k37 a1 a2 a4 s0 M) := by
  intro a1 a2 a4 s0 M e
  exact z37 _ _ _ _ _ e
theorem jzX12_span_37 {M0 : sy_M} : ∀ n : Nat, ∀ (a1 : Int32) (a2 : Int32) (a3 : Int32) (a4 : Int32) (M : sy_M), sy_eqw (jW_X12_span) M0 M → sy_fr (jW_X12_span) M0 (jfX12_span_37 n a1 a2 a3 a4 M) := by
  intro n
  induction n with
  | zero => intro a1 a2 a3 a4 M e; exact sy_fr_none
  | succ n z37 => intro a1 a2 a3 a4 M e; exact (sy_fr_ite (sy_fr_end e) ((sy_fr_bi (sy_fr_up (sy_eqw_ua e 12 rfl) (jzoX12_goes _ _ _) (sy_subw_ix [1, 2, 3, 4, 5, 6, 7, 8, 9, 10, 11, 12, 14] rfl)) (fun _ _ e1 => (sy_fr_bv (sy_fr_up e1 (jzoX12_comesBack  _) (sy_subw_ix [12] rfl)) (fun _ e2 => (sy_fr_ite (jzX12_span_100 z37 _ _ _ _ _ e2) ((sy_fr_ite ((sy_fr_bi (sy_fr_up e2 (jzoX12_lesser _ _ _) (sy_subw_ix [] rfl)) (fun _ _ e3 => jzX12_span_100 z37 _ _ _ _ _ e3))) ((sy_fr_bi (sy_fr_up e2 (jzoX12_greater _ _ _) (sy_subw_ix [] rfl)) (fun _ _ e4 => jzX12_span_100 z37 _ _ _ _ _ e4))))))))))))
theorem jzX12_span_16 {M0 : sy_M} : ∀ (a1 : Int32) (a2 : Int32) (s0 : Int32) (M : sy_M), sy_eqw (jW_X12_span) M0 M → sy_fr (jW_X12_span) M0 (jfX12_span_16 a1 a2 s0 M) := by
  intro a1 a2 s0 M e
  exact (sy_fr_ite (sy_fr_end (sy_eqw_uf e 0 rfl)) ((sy_fr_bv (sy_fr_up (sy_eqw_uf e 0 rfl) (jzoX12_putsAside  _) (sy_subw_ix [13] rfl)) (fun _ e1 => jzX12_span_37  6000 _ _ _ _ _ e1))))
theorem jzX12_span {M0 : sy_M} : ∀ (a1 : Int32) (a2 : Int32) (M : sy_M), sy_eqw (jW_X12_span) M0 M → sy_fr (jW_X12_span) M0 (jfX12_span a1 a2 M) := by
  intro a1 a2 M e
  exact (sy_fr_bi (sy_fr_up e (jzoX12_isIn _ _ _ _) (sy_subw_ix [] rfl)) (fun _ _ e1 => (sy_fr_ite (jzX12_span_16  _ _ _ _ e1) (jzX12_span_16  _ _ _ _ e1))))
theorem jzoX12_span (a1 : Int32) (a2 : Int32) (M : sy_M) : sy_fr (jW_X12_span) M (jfX12_span a1 a2 M) := jzX12_span a1 a2 M sy_eqw_refl
def jW_X7_cell (r0 : Nat) : List (Nat × Option Nat) := []
theorem jzX7_cell_47 {r0 : Nat} {M0 : sy_M} : ∀ (a2 : Int32) (s0 : Int32) (M : sy_M), sy_eqw (jW_X7_cell r0) M0 M → sy_fr (jW_X7_cell r0) M0 (jfX7_cell_47 r0 a2 s0 M) := by
  intro a2 s0 M e
  exact (sy_fr_ite (sy_fr_end e) ((sy_fr_cond ((sy_fr_cond ((sy_fr_ite ((sy_fr_cond ((sy_fr_cond (sy_fr_end e))))) (sy_fr_end e))))))))
theorem jzX7_cell {r0 : Nat} {M0 : sy_M} : ∀ (a1 : Int32) (a2 : Int32) (M : sy_M), sy_eqw (jW_X7_cell r0) M0 M → sy_fr (jW_X7_cell r0) M0 (jfX7_cell r0 a1 a2 M) := by
  intro a1 a2 M e
  exact (sy_fr_ite (sy_fr_end e) ((sy_fr_cond ((sy_fr_ite ((sy_fr_ite (sy_fr_end e) ((sy_fr_ite ((sy_fr_cond ((sy_fr_ite ((sy_fr_cond (jzX7_cell_47  _ _ _ e))) (jzX7_cell_47  _ _ _ e))))) (sy_fr_end e))))) (sy_fr_end e))))))
theorem jzoX7_cell (r0 : Nat) (a1 : Int32) (a2 : Int32) (M : sy_M) : sy_fr (jW_X7_cell r0) M (jfX7_cell r0 a1 a2 M) := jzX7_cell a1 a2 M sy_eqw_refl
def jW_X11_led : List (Nat × Option Nat) := [(133, some 0)]
theorem jzX11_led_70 {M0 : sy_M} {k13 : Int32 → Int32 → Int32 → Int32 → Int32 → sy_M → sy_O} (z13 : ∀ (a1 : Int32) (a2 : Int32) (a3 : Int32) (a4 : Int32) (a5 : Int32) (M : sy_M), sy_eqw (jW_X11_led) M0 M → sy_fr (jW_X11_led) M0 (k13 a1 a2 a3 a4 a5 M)) : ∀ (a1 : Int32) (a2 : Int32) (a3 : Int32) (a4 : Int32) (a5 : Int32) (M : sy_M), sy_eqw (jW_X11_led) M0 M → sy_fr (jW_X11_led) M0 (jfX11_led_70 k13 a1 a2 a3 a4 a5 M) := by
  intro a1 a2 a3 a4 a5 M e
  exact z13 _ _ _ _ _ _ e
theorem jzX11_led_67 {M0 : sy_M} {k13 : Int32 → Int32 → Int32 → Int32 → Int32 → sy_M → sy_O} (z13 : ∀ (a1 : Int32) (a2 : Int32) (a3 : Int32) (a4 : Int32) (a5 : Int32) (M : sy_M), sy_eqw (jW_X11_led) M0 M → sy_fr (jW_X11_led) M0 (k13 a1 a2 a3 a4 a5 M)) : ∀ (a1 : Int32) (a2 : Int32) (a3 : Int32) (a4 : Int32) (a5 : Int32) (M : sy_M), sy_eqw (jW_X11_led) M0 M → sy_fr (jW_X11_led) M0 (jfX11_led_67 k13 a1 a2 a3 a4 a5 M) := by
  intro a1 a2 a3 a4 a5 M e
  exact jzX11_led_70 z13 _ _ _ _ _ _ e
theorem jzX11_led_13 {M0 : sy_M} : ∀ n : Nat, ∀ (a1 : Int32) (a2 : Int32) (a3 : Int32) (a4 : Int32) (a5 : Int32) (M : sy_M), sy_eqw (jW_X11_led) M0 M → sy_fr (jW_X11_led) M0 (jfX11_led_13 n a1 a2 a3 a4 a5 M) := by
  intro n
  induction n with
  | zero => intro a1 a2 a3 a4 a5 M e; exact sy_fr_none
  | succ n z13 => intro a1 a2 a3 a4 a5 M e; exact (sy_fr_ite ((sy_fr_bi (sy_fr_up e (jzoX7_cell _ _ _ _) (sy_subw_ix [] rfl)) (fun _ _ e1 => (sy_fr_ite ((sy_fr_ite ((sy_fr_bi (sy_fr_up e1 (jzoX7_cell _ _ _ _) (sy_subw_ix [] rfl)) (fun _ _ e2 => jzX11_led_67 z13 _ _ _ _ _ _ e2))) (jzX11_led_67 z13 _ _ _ _ _ _ e1))) (jzX11_led_70 z13 _ _ _ _ _ _ e1))))) ((sy_fr_ite (sy_fr_end e) (sy_fr_end e))))
theorem jzX11_led {M0 : sy_M} : ∀ (a1 : Int32) (a2 : Int32) (M : sy_M), sy_eqw (jW_X11_led) M0 M → sy_fr (jW_X11_led) M0 (jfX11_led a1 a2 M) := by
  intro a1 a2 M e
  exact (sy_fr_bv (sy_fr_up e (jzoX11_checkLodger _ _) (sy_subw_ix [0] rfl)) (fun _ e1 => jzX11_led_13  6000 _ _ _ _ _ _ e1))
theorem jzoX11_led (a1 : Int32) (a2 : Int32) (M : sy_M) : sy_fr (jW_X11_led) M (jfX11_led a1 a2 M) := jzX11_led a1 a2 M sy_eqw_refl
def jW_L_led : List (Nat × Option Nat) := [(132, none), (133, some 0)]
theorem jzL_led {M0 : sy_M} : ∀ (a1 : Int32) (a2 : Int32) (M : sy_M), sy_eqw (jW_L_led) M0 M → sy_fr (jW_L_led) M0 (jfL_led a1 a2 M) := by
  intro a1 a2 M e
  exact (sy_fr_hi (sy_fr_up e (jzoX11_led _ _ _) (sy_subw_ix [1] rfl)) (fun _ _ e1 => sy_fr_end (sy_eqw_wl e1 0 rfl)) (fun _ _ e1 => (sy_fr_ite (sy_fr_end e1) sy_fr_none)))
theorem jzoL_led (a1 : Int32) (a2 : Int32) (M : sy_M) : sy_fr (jW_L_led) M (jfL_led a1 a2 M) := jzL_led a1 a2 M sy_eqw_refl
def jW_X12_logged : List (Nat × Option Nat) := []
theorem jzX12_logged {M0 : sy_M} : ∀ (a1 : Int32) (a2 : Int32) (M : sy_M), sy_eqw (jW_X12_logged) M0 M → sy_fr (jW_X12_logged) M0 (jfX12_logged a1 a2 M) := by
  intro a1 a2 M e
  exact (sy_fr_cond (sy_fr_end e))
theorem jzoX12_logged (a1 : Int32) (a2 : Int32) (M : sy_M) : sy_fr (jW_X12_logged) M (jfX12_logged a1 a2 M) := jzX12_logged a1 a2 M sy_eqw_refl
def jW_X12_led : List (Nat × Option Nat) := [(121, some 0)]
theorem jzX12_led_73 {M0 : sy_M} {k42 : Int32 → Int32 → Int32 → Int32 → Int32 → sy_M → sy_O} (z42 : ∀ (a1 : Int32) (a2 : Int32) (a3 : Int32) (a4 : Int32) (a5 : Int32) (M : sy_M), sy_eqw (jW_X12_led) M0 M → sy_fr (jW_X12_led) M0 (k42 a1 a2 a3 a4 a5 M)) : ∀ (a1 : Int32) (a2 : Int32) (a3 : Int32) (a4 : Int32) (a5 : Int32) (M : sy_M), sy_eqw (jW_X12_led) M0 M → sy_fr (jW_X12_led) M0 (jfX12_led_73 k42 a1 a2 a3 a4 a5 M) := by
  intro a1 a2 a3 a4 a5 M e
  exact z42 _ _ _ _ _ _ e
theorem jzX12_led_42 {M0 : sy_M} : ∀ n : Nat, ∀ (a1 : Int32) (a2 : Int32) (a3 : Int32) (a4 : Int32) (a5 : Int32) (M : sy_M), sy_eqw (jW_X12_led) M0 M → sy_fr (jW_X12_led) M0 (jfX12_led_42 n a1 a2 a3 a4 a5 M) := by
  intro n
  induction n with
  | zero => intro a1 a2 a3 a4 a5 M e; exact sy_fr_none
  | succ n z42 => intro a1 a2 a3 a4 a5 M e; exact (sy_fr_ite ((sy_fr_ite (sy_fr_end e) (sy_fr_end e))) ((sy_fr_bi (sy_fr_up e (jzoX12_logged _ _ _) (sy_subw_ix [] rfl)) (fun _ _ e1 => (sy_fr_ite ((sy_fr_bi (sy_fr_up e1 (jzoX12_logged _ _ _) (sy_subw_ix [] rfl)) (fun _ _ e2 => jzX12_led_73 z42 _ _ _ _ _ _ e2))) (jzX12_led_73 z42 _ _ _ _ _ _ e1))))))
theorem jzX12_led_14 {M0 : sy_M} : ∀ (a1 : Int32) (a2 : Int32) (s0 : Int32) (M : sy_M), sy_eqw (jW_X12_led) M0 M → sy_fr (jW_X12_led) M0 (jfX12_led_14 a1 a2 s0 M) := by
  intro a1 a2 s0 M e
  exact (sy_fr_ite (sy_fr_end (sy_eqw_uf e 0 rfl)) (jzX12_led_42  6000 _ _ _ _ _ _ (sy_eqw_uf e 0 rfl)))
theorem jzX12_led {M0 : sy_M} : ∀ (a1 : Int32) (a2 : Int32) (M : sy_M), sy_eqw (jW_X12_led) M0 M → sy_fr (jW_X12_led) M0 (jfX12_led a1 a2 M) := by
  intro a1 a2 M e
  exact (sy_fr_bi (sy_fr_up e (jzoX12_isLodger _ _) (sy_subw_ix [] rfl)) (fun _ _ e1 => (sy_fr_ite (jzX12_led_14  _ _ _ _ e1) (jzX12_led_14  _ _ _ _ e1))))
theorem jzoX12_led (a1 : Int32) (a2 : Int32) (M : sy_M) : sy_fr (jW_X12_led) M (jfX12_led a1 a2 M) := jzX12_led a1 a2 M sy_eqw_refl
def jW_X11_log : List (Nat × Option Nat) := [(133, some 0)]
theorem jzX11_log {M0 : sy_M} : ∀ (a1 : Int32) (a2 : Int32) (M : sy_M), sy_eqw (jW_X11_log) M0 M → sy_fr (jW_X11_log) M0 (jfX11_log a1 a2 M) := by
  intro a1 a2 M e
  exact (sy_fr_ite ((sy_fr_cond (sy_fr_end (sy_eqw_uf e 0 rfl)))) ((sy_fr_ite ((sy_fr_bi (sy_fr_up e (jzoX7_cell _ _ _ _) (sy_subw_ix [] rfl)) (fun _ _ e1 => sy_fr_end e1))) ((sy_fr_cond (sy_fr_end (sy_eqw_uf e 0 rfl)))))))
theorem jzoX11_log (a1 : Int32) (a2 : Int32) (M : sy_M) : sy_fr (jW_X11_log) M (jfX11_log a1 a2 M) := jzX11_log a1 a2 M sy_eqw_refl
def jW_L_log : List (Nat × Option Nat) := [(132, none), (133, some 0)]
theorem jzL_log {M0 : sy_M} : ∀ (a1 : Int32) (a2 : Int32) (M : sy_M), sy_eqw (jW_L_log) M0 M → sy_fr (jW_L_log) M0 (jfL_log a1 a2 M) := by
  intro a1 a2 M e
  exact (sy_fr_hi (sy_fr_up e (jzoX11_log _ _ _) (sy_subw_ix [1] rfl)) (fun _ _ e1 => sy_fr_end (sy_eqw_wl e1 0 rfl)) (fun _ _ e1 => (sy_fr_ite (sy_fr_end e1) sy_fr_none)))
theorem jzoL_log (a1 : Int32) (a2 : Int32) (M : sy_M) : sy_fr (jW_L_log) M (jfL_log a1 a2 M) := jzL_log a1 a2 M sy_eqw_refl
def jW_X12_log : List (Nat × Option Nat) := [(121, some 0)]
theorem jzX12_log_15 {M0 : sy_M} : ∀ (a1 : Int32) (a2 : Int32) (s0 : Int32) (M : sy_M), sy_eqw (jW_X12_log) M0 M → sy_fr (jW_X12_log) M0 (jfX12_log_15 a1 a2 s0 M) := by
  intro a1 a2 s0 M e
  exact (sy_fr_ite (sy_fr_end (sy_eqw_uf e 0 rfl)) ((sy_fr_bi (sy_fr_up (sy_eqw_uf e 0 rfl) (jzoX12_isIn _ _ _ _) (sy_subw_ix [] rfl)) (fun _ _ e1 => (sy_fr_ite (sy_fr_end e1) ((sy_fr_bi (sy_fr_up e1 (jzoX12_logged _ _ _) (sy_subw_ix [] rfl)) (fun _ _ e2 => sy_fr_end e2))))))))
theorem jzX12_log {M0 : sy_M} : ∀ (a1 : Int32) (a2 : Int32) (M : sy_M), sy_eqw (jW_X12_log) M0 M → sy_fr (jW_X12_log) M0 (jfX12_log a1 a2 M) := by
  intro a1 a2 M e
  exact (sy_fr_bi (sy_fr_up e (jzoX12_isIn _ _ _ _) (sy_subw_ix [] rfl)) (fun _ _ e1 => (sy_fr_ite (jzX12_log_15  _ _ _ _ e1) (jzX12_log_15  _ _ _ _ e1))))
theorem jzoX12_log (a1 : Int32) (a2 : Int32) (M : sy_M) : sy_fr (jW_X12_log) M (jfX12_log a1 a2 M) := jzX12_log a1 a2 M sy_eqw_refl
def jW_X11_seed : List (Nat × Option Nat) := [(9, some 13)]
theorem jzX11_seed {M0 : sy_M} : ∀ (a1 : Int32) (M : sy_M), sy_eqw (jW_X11_seed) M0 M → sy_fr (jW_X11_seed) M0 (jfX11_seed a1 M) := by
  intro a1 M e
  exact sy_fr_end (sy_eqw_uf e 0 rfl)
theorem jzoX11_seed (a1 : Int32) (M : sy_M) : sy_fr (jW_X11_seed) M (jfX11_seed a1 M) := jzX11_seed a1 M sy_eqw_refl
def jW_X12_seed : List (Nat × Option Nat) := [(121, some 0), (122, none)]
theorem jzX12_seed {M0 : sy_M} : ∀ (a1 : Int32) (M : sy_M), sy_eqw (jW_X12_seed) M0 M → sy_fr (jW_X12_seed) M0 (jfX12_seed a1 M) := by
  intro a1 M e
  exact sy_fr_end (sy_eqw_ua (sy_eqw_uf e 0 rfl) 1 rfl)
theorem jzoX12_seed (a1 : Int32) (M : sy_M) : sy_fr (jW_X12_seed) M (jfX12_seed a1 M) := jzX12_seed a1 M sy_eqw_refl
def jW_X12_undo : List (Nat × Option Nat) := [(121, some 0), (121, some 6), (122, none)]
theorem jzX12_undo_26 {M0 : sy_M} : ∀ n : Nat, ∀ (a1 : Int32) (M : sy_M), sy_eqw (jW_X12_undo) M0 M → sy_fr (jW_X12_undo) M0 (jfX12_undo_26 n a1 M) := by
  intro n
  induction n with
  | zero => intro a1 M e; exact sy_fr_none
  | succ n z26 => intro a1 M e; exact (sy_fr_ite ((sy_fr_cond ((sy_fr_cond (z26 _ _ (sy_eqw_ua e 2 rfl)))))) (sy_fr_end e))
theorem jzX12_undo {M0 : sy_M} : ∀ (M : sy_M), sy_eqw (jW_X12_undo) M0 M → sy_fr (jW_X12_undo) M0 (jfX12_undo M) := by
  intro  M e
  exact (sy_fr_ite (sy_fr_end (sy_eqw_uf e 0 rfl)) (jzX12_undo_26  6000 _ _ (sy_eqw_uf (sy_eqw_uf e 0 rfl) 1 rfl)))
theorem jzoX12_undo (M : sy_M) : sy_fr (jW_X12_undo) M (jfX12_undo M) := jzX12_undo  M sy_eqw_refl
def jW_X11_image : List (Nat × Option Nat) := [(0, some 16), (24, some 3), (24, some 4), (24, some 5), (24, some 6), (24, some 7), (24, some 8), (24, some 9), (24, some 10), (24, some 11), (24, some 12), (24, some 13), (25, none), (26, none), (27, some 2), (27, some 3), (28, none), (41, some 5), (41, some 6), (42, none), (43, none), (44, none), (45, none), (46, none)]
theorem jzX11_image {M0 : sy_M} : ∀ (M : sy_M), sy_eqw (jW_X11_image) M0 M → sy_fr (jW_X11_image) M0 (jfX11_image M) := by
  intro  M e
  exact (sy_fr_bv (sy_fr_up e (jzoX2_takeOver _ _ _) (sy_subw_ix [1, 2, 3, 4, 5, 6, 7, 8, 9, 10, 11, 12, 13, 14, 15, 16] rfl)) (fun _ e1 => (sy_fr_bv (sy_fr_up e1 (jzoX4_takeOver _ _ _) (sy_subw_ix [17, 18, 19, 20, 21, 22, 23] rfl)) (fun _ e2 => sy_fr_end (sy_eqw_uf e2 0 rfl)))))
theorem jzoX11_image (M : sy_M) : sy_fr (jW_X11_image) M (jfX11_image M) := jzX11_image  M sy_eqw_refl
def jW_X12_image : List (Nat × Option Nat) := [(121, some 0), (121, some 3), (123, none)]
theorem jzX12_image_7 {M0 : sy_M} : ∀ n : Nat, ∀ (a1 : Int32) (M : sy_M), sy_eqw (jW_X12_image) M0 M → sy_fr (jW_X12_image) M0 (jfX12_image_7 n a1 M) := by
  intro n
  induction n with
  | zero => intro a1 M e; exact sy_fr_none
  | succ n z7 => intro a1 M e; exact (sy_fr_ite ((sy_fr_cond ((sy_fr_cond (z7 _ _ (sy_eqw_ua e 2 rfl)))))) (sy_fr_end (sy_eqw_uf e 1 rfl)))
theorem jzX12_image {M0 : sy_M} : ∀ (M : sy_M), sy_eqw (jW_X12_image) M0 M → sy_fr (jW_X12_image) M0 (jfX12_image M) := by
  intro  M e
  exact jzX12_image_7  6000 _ _ (sy_eqw_uf e 0 rfl)
theorem jzoX12_image (M : sy_M) : sy_fr (jW_X12_image) M (jfX12_image M) := jzX12_image  M sy_eqw_refl
def jW_X11_back : List (Nat × Option Nat) := [(10, none), (11, none), (12, some 2), (12, some 3), (13, none), (29, some 5), (29, some 6), (30, none), (31, none), (32, none), (33, none), (34, none), (57, some 1), (9, some 3), (9, some 4), (9, some 5), (9, some 6), (9, some 7), (9, some 8), (9, some 9), (9, some 10), (9, some 11), (9, some 12), (9, some 13)]
theorem jzX11_back {M0 : sy_M} : ∀ (M : sy_M), sy_eqw (jW_X11_back) M0 M → sy_fr (jW_X11_back) M0 (jfX11_back M) := by
  intro  M e
  exact (sy_fr_ite (sy_fr_end e) ((sy_fr_bv (sy_fr_up e (jzoX2_takeOver _ _ _) (sy_subw_ix [13, 14, 15, 16, 17, 18, 19, 20, 21, 22, 23, 0, 1, 2, 3, 4] rfl)) (fun _ e1 => (sy_fr_bv (sy_fr_up e1 (jzoX4_takeOver _ _ _) (sy_subw_ix [5, 6, 7, 8, 9, 10, 11] rfl)) (fun _ e2 => (sy_fr_bv (sy_fr_up e2 (jzoX0_forget  _) (sy_subw_ix [12] rfl)) (fun _ e3 => sy_fr_end e3))))))))
theorem jzoX11_back (M : sy_M) : sy_fr (jW_X11_back) M (jfX11_back M) := jzX11_back  M sy_eqw_refl
def jW_X12_back : List (Nat × Option Nat) := [(121, some 0), (121, some 6), (122, none)]
theorem jzX12_back_16 {M0 : sy_M} : ∀ n : Nat, ∀ (a1 : Int32) (M : sy_M), sy_eqw (jW_X12_back) M0 M → sy_fr (jW_X12_back) M0 (jfX12_back_16 n a1 M) := by
  intro n
  induction n with
  | zero => intro a1 M e; exact sy_fr_none
  | succ n z16 => intro a1 M e; exact (sy_fr_ite ((sy_fr_cond ((sy_fr_cond (z16 _ _ (sy_eqw_ua e 2 rfl)))))) (sy_fr_end (sy_eqw_uf e 1 rfl)))
theorem jzX12_back {M0 : sy_M} : ∀ (M : sy_M), sy_eqw (jW_X12_back) M0 M → sy_fr (jW_X12_back) M0 (jfX12_back M) := by
  intro  M e
  exact (sy_fr_ite (sy_fr_end (sy_eqw_uf e 0 rfl)) (jzX12_back_16  6000 _ _ (sy_eqw_uf e 0 rfl)))
theorem jzoX12_back (M : sy_M) : sy_fr (jW_X12_back) M (jfX12_back M) := jzX12_back  M sy_eqw_refl
def jW_X11_count : List (Nat × Option Nat) := []
theorem jzX11_count_164 {M0 : sy_M} : ∀ (M : sy_M), sy_eqw (jW_X11_count) M0 M → sy_fr (jW_X11_count) M0 (jfX11_count_164 M) := by
  intro  M e
  exact (sy_fr_bi (sy_fr_up e (jzoX2_sum _ _ _) (sy_subw_ix [] rfl)) (fun _ _ e1 => sy_fr_end e1))
theorem jzX11_count_174 {M0 : sy_M} : ∀ (M : sy_M), sy_eqw (jW_X11_count) M0 M → sy_fr (jW_X11_count) M0 (jfX11_count_174 M) := by
  intro  M e
  exact (sy_fr_bi (sy_fr_up e (jzoX2_sum _ _ _) (sy_subw_ix [] rfl)) (fun _ _ e1 => sy_fr_end e1))
theorem jzX11_count {M0 : sy_M} : ∀ (a1 : Int32) (M : sy_M), sy_eqw (jW_X11_count) M0 M → sy_fr (jW_X11_count) M0 (jfX11_count a1 M) := by
  intro a1 M e
  exact (sy_fr_ite (sy_fr_end e) ((sy_fr_ite (sy_fr_end e) ((sy_fr_ite (sy_fr_end e) ((sy_fr_ite (sy_fr_end e) ((sy_fr_ite (sy_fr_end e) ((sy_fr_ite (sy_fr_end e) ((sy_fr_ite (sy_fr_end e) ((sy_fr_ite (sy_fr_end e) ((sy_fr_ite (sy_fr_end e) ((sy_fr_ite (sy_fr_end e) ((sy_fr_ite (sy_fr_end e) ((sy_fr_ite (jzX11_count_164   _ e) ((sy_fr_ite (jzX11_count_174   _ e) ((sy_fr_ite (sy_fr_end e) ((sy_fr_ite (sy_fr_end e) (sy_fr_end e))))))))))))))))))))))))))))))
theorem jzoX11_count (a1 : Int32) (M : sy_M) : sy_fr (jW_X11_count) M (jfX11_count a1 M) := jzX11_count a1 M sy_eqw_refl
def jW_X12_count : List (Nat × Option Nat) := [(121, some 0)]
theorem jzX12_count_101 {M0 : sy_M} : ∀ n : Nat, ∀ (a1 : Int32) (a2 : Int32) (a3 : Int32) (M : sy_M), sy_eqw (jW_X12_count) M0 M → sy_fr (jW_X12_count) M0 (jfX12_count_101 n a1 a2 a3 M) := by
  intro n
  induction n with
  | zero => intro a1 a2 a3 M e; exact sy_fr_none
  | succ n z101 => intro a1 a2 a3 M e; exact (sy_fr_ite ((sy_fr_bi (sy_fr_up e (jzoX12_of _ _ _) (sy_subw_ix [] rfl)) (fun _ _ e1 => z101 _ _ _ _ e1))) ((sy_fr_ite (sy_fr_end e) (sy_fr_end e))))
theorem jzX12_count {M0 : sy_M} : ∀ (a1 : Int32) (M : sy_M), sy_eqw (jW_X12_count) M0 M → sy_fr (jW_X12_count) M0 (jfX12_count a1 M) := by
  intro a1 M e
  exact (sy_fr_ite (sy_fr_end (sy_eqw_uf e 0 rfl)) ((sy_fr_ite (sy_fr_end (sy_eqw_uf e 0 rfl)) ((sy_fr_ite (sy_fr_end (sy_eqw_uf e 0 rfl)) ((sy_fr_bi (sy_fr_up (sy_eqw_uf e 0 rfl) (jzoX12_isIn _ _ _ _) (sy_subw_ix [] rfl)) (fun _ _ e1 => (sy_fr_ite ((sy_fr_ite ((sy_fr_bi (sy_fr_up e1 (jzoX12_coldOfAll  _) (sy_subw_ix [] rfl)) (fun _ _ e2 => sy_fr_end e2))) ((sy_fr_ite (sy_fr_end e1) ((sy_fr_ite (sy_fr_end e1) (jzX12_count_101  6000 _ _ _ _ e1))))))) ((sy_fr_cond (sy_fr_end e1))))))))))))
theorem jzoX12_count (a1 : Int32) (M : sy_M) : sy_fr (jW_X12_count) M (jfX12_count a1 M) := jzX12_count a1 M sy_eqw_refl
