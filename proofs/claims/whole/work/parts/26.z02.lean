/-! ===== what the functions leave alone (2); written by wip/whole/run_z.py ===== -/
def jW_X2_metered (r0 : Nat) : List (Nat × Option Nat) := []
theorem jzX2_metered {r0 : Nat} {M0 : sy_M} : ∀ (a1 : Int32) (M : sy_M), sy_eqw (jW_X2_metered r0) M0 M → sy_fr (jW_X2_metered r0) M0 (jfX2_metered r0 a1 M) := by
  intro a1 M e
  exact (sy_fr_cond ((sy_fr_bi (sy_fr_up e (jzoX2_get _ _ _ _) (sy_subw_ix [] rfl)) (fun _ _ e1 => (sy_fr_cond ((sy_fr_bi (sy_fr_up e1 (jzoX2_hours _ _ _) (sy_subw_ix [] rfl)) (fun _ _ e2 => sy_fr_end e2))))))))
theorem jzoX2_metered (r0 : Nat) (a1 : Int32) (M : sy_M) : sy_fr (jW_X2_metered r0) M (jfX2_metered r0 a1 M) := jzX2_metered a1 M sy_eqw_refl
def jW_X2_burnt (r0 : Nat) : List (Nat × Option Nat) := []
theorem jzX2_burnt_31 {r0 : Nat} {M0 : sy_M} {k4 : Nat → Int32 → Int32 → Int32 → sy_M → sy_O} (z4 : ∀ (a1 : Int32) (a2 : Int32) (a3 : Int32) (M : sy_M), sy_eqw (jW_X2_burnt r0) M0 M → sy_fr (jW_X2_burnt r0) M0 (k4 r0 a1 a2 a3 M)) : ∀ (a1 : Int32) (a3 : Int32) (s0 : Int32) (s1 : Int32) (M : sy_M), sy_eqw (jW_X2_burnt r0) M0 M → sy_fr (jW_X2_burnt r0) M0 (jfX2_burnt_31 k4 r0 a1 a3 s0 s1 M) := by
  intro a1 a3 s0 s1 M e
  exact z4 _ _ _ _ e
theorem jzX2_burnt_4 {r0 : Nat} {M0 : sy_M} : ∀ n : Nat, ∀ (a1 : Int32) (a2 : Int32) (a3 : Int32) (M : sy_M), sy_eqw (jW_X2_burnt r0) M0 M → sy_fr (jW_X2_burnt r0) M0 (jfX2_burnt_4 n r0 a1 a2 a3 M) := by
  intro n
  induction n with
  | zero => intro a1 a2 a3 M e; exact sy_fr_none
  | succ n z4 => intro a1 a2 a3 M e; exact (sy_fr_cond ((sy_fr_ite ((sy_fr_ite (jzX2_burnt_31 z4 _ _ _ _ _ e) ((sy_fr_cond ((sy_fr_bi (sy_fr_up e (jzoX2_get _ _ _ _) (sy_subw_ix [] rfl)) (fun _ _ e1 => jzX2_burnt_31 z4 _ _ _ _ _ e1))))))) (sy_fr_end e))))
theorem jzX2_burnt {r0 : Nat} {M0 : sy_M} : ∀ (a1 : Int32) (M : sy_M), sy_eqw (jW_X2_burnt r0) M0 M → sy_fr (jW_X2_burnt r0) M0 (jfX2_burnt r0 a1 M) := by
  intro a1 M e
  exact jzX2_burnt_4  6000 _ _ _ _ e
theorem jzoX2_burnt (r0 : Nat) (a1 : Int32) (M : sy_M) : sy_fr (jW_X2_burnt r0) M (jfX2_burnt r0 a1 M) := jzX2_burnt a1 M sy_eqw_refl
def jW_X2_isIn (r0 : Nat) : List (Nat × Option Nat) := []
theorem jzX2_isIn_51 {r0 : Nat} {M0 : sy_M} : ∀ (M : sy_M), sy_eqw (jW_X2_isIn r0) M0 M → sy_fr (jW_X2_isIn r0) M0 (jfX2_isIn_51 M) := by
  intro  M e
  exact sy_fr_end e
theorem jzX2_isIn_36 {r0 : Nat} {M0 : sy_M} : ∀ (M : sy_M), sy_eqw (jW_X2_isIn r0) M0 M → sy_fr (jW_X2_isIn r0) M0 (jfX2_isIn_36 M) := by
  intro  M e
  exact sy_fr_end e
theorem jzX2_isIn {r0 : Nat} {M0 : sy_M} : ∀ (a1 : Int32) (a2 : Int32) (M : sy_M), sy_eqw (jW_X2_isIn r0) M0 M → sy_fr (jW_X2_isIn r0) M0 (jfX2_isIn r0 a1 a2 M) := by
  intro a1 a2 M e
  exact (sy_fr_cond ((sy_fr_bi (sy_fr_up e (jzoX2_get _ _ _ _) (sy_subw_ix [] rfl)) (fun _ _ e1 => (sy_fr_cond ((sy_fr_bi (sy_fr_up e1 (jzoX2_get _ _ _ _) (sy_subw_ix [] rfl)) (fun _ _ e2 => (sy_fr_ite ((sy_fr_ite ((sy_fr_ite (sy_fr_end e2) (jzX2_isIn_51   _ e2))) (jzX2_isIn_51   _ e2))) ((sy_fr_ite (jzX2_isIn_36   _ e2) ((sy_fr_ite (jzX2_isIn_36   _ e2) (sy_fr_end e2))))))))))))))
theorem jzoX2_isIn (r0 : Nat) (a1 : Int32) (a2 : Int32) (M : sy_M) : sy_fr (jW_X2_isIn r0) M (jfX2_isIn r0 a1 a2 M) := jzX2_isIn a1 a2 M sy_eqw_refl
def jW_X8_learn (r1 : Nat) : List (Nat × Option Nat) := [(50, none), (51, none)]
theorem jzX8_learn_48 {r1 : Nat} {M0 : sy_M} {k2 : Nat → Int32 → sy_M → sy_O} (z2 : ∀ (a2 : Int32) (M : sy_M), sy_eqw (jW_X8_learn r1) M0 M → sy_fr (jW_X8_learn r1) M0 (k2 r1 a2 M)) {k17 : Nat → Int32 → Int32 → sy_M → sy_O} (z17 : ∀ (a2 : Int32) (a3 : Int32) (M : sy_M), sy_eqw (jW_X8_learn r1) M0 M → sy_fr (jW_X8_learn r1) M0 (k17 r1 a2 a3 M)) : ∀ (a2 : Int32) (a3 : Int32) (s0 : Int32) (s1 : Int32) (s2 : Int32) (M : sy_M), sy_eqw (jW_X8_learn r1) M0 M → sy_fr (jW_X8_learn r1) M0 (jfX8_learn_48 k2 k17 r1 a2 a3 s0 s1 s2 M) := by
  intro a2 a3 s0 s1 s2 M e
  exact (sy_fr_cond (z17 _ _ _ (sy_eqw_ua e 0 rfl)))
theorem jzX8_learn_17 {r1 : Nat} {M0 : sy_M} {k2 : Nat → Int32 → sy_M → sy_O} (z2 : ∀ (a2 : Int32) (M : sy_M), sy_eqw (jW_X8_learn r1) M0 M → sy_fr (jW_X8_learn r1) M0 (k2 r1 a2 M)) : ∀ n : Nat, ∀ (a2 : Int32) (a3 : Int32) (M : sy_M), sy_eqw (jW_X8_learn r1) M0 M → sy_fr (jW_X8_learn r1) M0 (jfX8_learn_17 k2 n r1 a2 a3 M) := by
  intro n
  induction n with
  | zero => intro a2 a3 M e; exact sy_fr_none
  | succ n z17 => intro a2 a3 M e; exact (sy_fr_cond ((sy_fr_ite ((sy_fr_cond ((sy_fr_cond ((sy_fr_bi (sy_fr_up e (jzoX2_isIn _ _ _ _) (sy_subw_ix [] rfl)) (fun _ _ e2 => (sy_fr_ite (jzX8_learn_48 z2 z17 _ _ _ _ _ _ e2) (jzX8_learn_48 z2 z17 _ _ _ _ _ _ e2))))))))) ((sy_fr_cond ((sy_fr_cond ((sy_fr_bi (sy_fr_up e (jzoX2_burnt _ _ _) (sy_subw_ix [] rfl)) (fun _ _ e1 => (sy_fr_cond (z2 _ _ (sy_eqw_ua e1 1 rfl)))))))))))))
theorem jzX8_learn_2 {r1 : Nat} {M0 : sy_M} : ∀ n : Nat, ∀ (a2 : Int32) (M : sy_M), sy_eqw (jW_X8_learn r1) M0 M → sy_fr (jW_X8_learn r1) M0 (jfX8_learn_2 n r1 a2 M) := by
  intro n
  induction n with
  | zero => intro a2 M e; exact sy_fr_none
  | succ n z2 => intro a2 M e; exact (sy_fr_ite ((sy_fr_cond (jzX8_learn_17 z2 6000 _ _ _ (sy_eqw_ua e 0 rfl)))) (sy_fr_end e))
theorem jzX8_learn {r1 : Nat} {M0 : sy_M} : ∀ (M : sy_M), sy_eqw (jW_X8_learn r1) M0 M → sy_fr (jW_X8_learn r1) M0 (jfX8_learn r1 M) := by
  intro  M e
  exact jzX8_learn_2  6000 _ _ e
theorem jzoX8_learn (r1 : Nat) (M : sy_M) : sy_fr (jW_X8_learn r1) M (jfX8_learn r1 M) := jzX8_learn  M sy_eqw_refl
def jW_X8_needsAt : List (Nat × Option Nat) := []
theorem jzX8_needsAt {M0 : sy_M} : ∀ (a1 : Int32) (M : sy_M), sy_eqw (jW_X8_needsAt) M0 M → sy_fr (jW_X8_needsAt) M0 (jfX8_needsAt a1 M) := by
  intro a1 M e
  exact (sy_fr_ite (sy_fr_end e) ((sy_fr_ite ((sy_fr_cond (sy_fr_end e))) (sy_fr_end e))))
theorem jzoX8_needsAt (a1 : Int32) (M : sy_M) : sy_fr (jW_X8_needsAt) M (jfX8_needsAt a1 M) := jzX8_needsAt a1 M sy_eqw_refl
def jW_X8_presentAt : List (Nat × Option Nat) := []
theorem jzX8_presentAt {M0 : sy_M} : ∀ (a1 : Int32) (M : sy_M), sy_eqw (jW_X8_presentAt) M0 M → sy_fr (jW_X8_presentAt) M0 (jfX8_presentAt a1 M) := by
  intro a1 M e
  exact (sy_fr_ite (sy_fr_end e) ((sy_fr_ite ((sy_fr_cond (sy_fr_end e))) (sy_fr_end e))))
theorem jzoX8_presentAt (a1 : Int32) (M : sy_M) : sy_fr (jW_X8_presentAt) M (jfX8_presentAt a1 M) := jzX8_presentAt a1 M sy_eqw_refl
def jW_J9_min_7cf53 : List (Nat × Option Nat) := []
theorem jzJ9_min_7cf53 {M0 : sy_M} : ∀ (a0 : Int32) (a1 : Int32) (M : sy_M), sy_eqw (jW_J9_min_7cf53) M0 M → sy_fr (jW_J9_min_7cf53) M0 (jfJ9_min_7cf53 a0 a1 M) := by
  intro a0 a1 M e
  exact (sy_fr_ite (sy_fr_end e) (sy_fr_end e))
theorem jzoJ9_min_7cf53 (a0 : Int32) (a1 : Int32) (M : sy_M) : sy_fr (jW_J9_min_7cf53) M (jfJ9_min_7cf53 a0 a1 M) := jzJ9_min_7cf53 a0 a1 M sy_eqw_refl
def jW_X7_add (r0 : Nat) (r1 : Nat) : List (Nat × Option Nat) := [(r0, some 2), (r0, some 3), (r0 + 1, none)]
theorem jzX7_add_107 {r0 : Nat} {r1 : Nat} {M0 : sy_M} : ∀ (s0 : Int32) (M : sy_M), sy_eqw (jW_X7_add r0 r1) M0 M → sy_fr (jW_X7_add r0 r1) M0 (jfX7_add_107 r0 s0 r0 M) := by
  intro s0 M e
  exact (sy_fr_cond ((sy_fr_cond ((sy_fr_cond ((sy_fr_bi (sy_fr_up (sy_eqw_uf e 1 rfl) (jzoJ9_min_7cf53 _ _ _) (sy_subw_ix [] rfl)) (fun _ _ e1 => (sy_fr_cond (sy_fr_end (sy_eqw_uf e1 0 rfl)))))))))))
theorem jzX7_add_70 {r0 : Nat} {r1 : Nat} {M0 : sy_M} : ∀ (a4 : Int32) (M : sy_M), sy_eqw (jW_X7_add r0 r1) M0 M → sy_fr (jW_X7_add r0 r1) M0 (jfX7_add_70 r0 r1 a4 M) := by
  intro a4 M e
  exact (sy_fr_cond ((sy_fr_cond ((sy_fr_cond ((sy_fr_cond ((sy_fr_cond ((sy_fr_ite ((sy_fr_cond (jzX7_add_107  _ _ (sy_eqw_ua e 2 rfl)))) (jzX7_add_107  _ _ (sy_eqw_ua e 2 rfl)))))))))))))
theorem jzX7_add {r0 : Nat} {r1 : Nat} {M0 : sy_M} : ∀ (a2 : Int32) (a3 : Int32) (M : sy_M), sy_eqw (jW_X7_add r0 r1) M0 M → sy_fr (jW_X7_add r0 r1) M0 (jfX7_add r0 r1 a2 a3 M) := by
  intro a2 a3 M e
  exact (sy_fr_cond ((sy_fr_ite (sy_fr_end e) ((sy_fr_cond ((sy_fr_cond ((sy_fr_ite (sy_fr_end e) ((sy_fr_cond ((sy_fr_cond ((sy_fr_cond ((sy_fr_cond ((sy_fr_cond ((sy_fr_cond ((sy_fr_cond ((sy_fr_cond ((sy_fr_cond ((sy_fr_cond (jzX7_add_70  _ _ (sy_eqw_ua (sy_eqw_ua (sy_eqw_ua (sy_eqw_ua e 2 rfl) 2 rfl) 2 rfl) 2 rfl)))))))))))))))))))))))))))))))
theorem jzoX7_add (r0 : Nat) (r1 : Nat) (a2 : Int32) (a3 : Int32) (M : sy_M) : sy_fr (jW_X7_add r0 r1) M (jfX7_add r0 r1 a2 a3 M) := jzX7_add a2 a3 M sy_eqw_refl
def jW_X2_darken (r0 : Nat) : List (Nat × Option Nat) := [(r0, some 9), (r0 + 3, some 2), (r0 + 3, some 3), (r0 + 4, none)]
theorem jzX2_darken {r0 : Nat} {M0 : sy_M} : ∀ (M : sy_M), sy_eqw (jW_X2_darken r0) M0 M → sy_fr (jW_X2_darken r0) M0 (jfX2_darken r0 M) := by
  intro  M e
  exact (sy_fr_cond ((sy_fr_bi (sy_fr_up e (jzoJ9_min_7cf53 _ _ _) (sy_subw_ix [] rfl)) (fun _ _ e1 => (sy_fr_cond ((sy_fr_cond ((sy_fr_ite ((sy_fr_cond ((sy_fr_cond ((sy_fr_bv (sy_fr_up (sy_eqw_uf e1 0 rfl) (jzoX7_add _ _ _ _ _) (sy_subw_ix [1, 2, 3] rfl)) (fun _ e2 => sy_fr_end e2))))))) (sy_fr_end (sy_eqw_uf e1 0 rfl)))))))))))
theorem jzoX2_darken (r0 : Nat) (M : sy_M) : sy_fr (jW_X2_darken r0) M (jfX2_darken r0 M) := jzX2_darken  M sy_eqw_refl
def jW_X2_chill (r0 : Nat) : List (Nat × Option Nat) := [(r0 + 1, none), (r0 + 3, some 2), (r0 + 3, some 3), (r0 + 4, none)]
theorem jzX2_chill_121 {r0 : Nat} {M0 : sy_M} {k2 : Nat → Int32 → Int32 → sy_M → sy_O} (z2 : ∀ (a1 : Int32) (a2 : Int32) (M : sy_M), sy_eqw (jW_X2_chill r0) M0 M → sy_fr (jW_X2_chill r0) M0 (k2 r0 a1 a2 M)) : ∀ (a1 : Int32) (a2 : Int32) (M : sy_M), sy_eqw (jW_X2_chill r0) M0 M → sy_fr (jW_X2_chill r0) M0 (jfX2_chill_121 k2 r0 a1 a2 M) := by
  intro a1 a2 M e
  exact z2 _ _ _ e
theorem jzX2_chill_98 {r0 : Nat} {M0 : sy_M} {k2 : Nat → Int32 → Int32 → sy_M → sy_O} (z2 : ∀ (a1 : Int32) (a2 : Int32) (M : sy_M), sy_eqw (jW_X2_chill r0) M0 M → sy_fr (jW_X2_chill r0) M0 (k2 r0 a1 a2 M)) : ∀ (a1 : Int32) (a2 : Int32) (a3 : Int32) (a4 : Int32) (a5 : Int32) (M : sy_M), sy_eqw (jW_X2_chill r0) M0 M → sy_fr (jW_X2_chill r0) M0 (jfX2_chill_98 k2 r0 a1 a2 a3 a4 a5 M) := by
  intro a1 a2 a3 a4 a5 M e
  exact (sy_fr_ite (jzX2_chill_121 z2 _ _ _ e) ((sy_fr_ite ((sy_fr_cond ((sy_fr_cond ((sy_fr_bv (sy_fr_up e (jzoX7_add _ _ _ _ _) (sy_subw_ix [1, 2, 3] rfl)) (fun _ e1 => jzX2_chill_121 z2 _ _ _ e1))))))) (jzX2_chill_121 z2 _ _ _ e))))
theorem jzX2_chill_46 {r0 : Nat} {M0 : sy_M} {k2 : Nat → Int32 → Int32 → sy_M → sy_O} (z2 : ∀ (a1 : Int32) (a2 : Int32) (M : sy_M), sy_eqw (jW_X2_chill r0) M0 M → sy_fr (jW_X2_chill r0) M0 (k2 r0 a1 a2 M)) : ∀ (a1 : Int32) (a2 : Int32) (a3 : Int32) (s0 : Int32) (M : sy_M), sy_eqw (jW_X2_chill r0) M0 M → sy_fr (jW_X2_chill r0) M0 (jfX2_chill_46 k2 r0 a1 a2 a3 s0 M) := by
  intro a1 a2 a3 s0 M e
  exact (sy_fr_cond ((sy_fr_bi (sy_fr_up e (jzoX2_get _ _ _ _) (sy_subw_ix [] rfl)) (fun _ _ e1 => (sy_fr_cond ((sy_fr_bv (sy_fr_up e1 (jzoX2_set _ _ _ _ _) (sy_subw_ix [0] rfl)) (fun _ e2 => (sy_fr_ite (jzX2_chill_98 z2 _ _ _ _ _ _ e2) ((sy_fr_ite ((sy_fr_cond ((sy_fr_bi (sy_fr_up e2 (jzoX2_get _ _ _ _) (sy_subw_ix [] rfl)) (fun _ _ e3 => (sy_fr_bi (sy_fr_up e3 (jzoJ9_min_7cf53 _ _ _) (sy_subw_ix [] rfl)) (fun _ _ e4 => (sy_fr_cond ((sy_fr_bv (sy_fr_up e4 (jzoX2_set _ _ _ _ _) (sy_subw_ix [0] rfl)) (fun _ e5 => jzX2_chill_98 z2 _ _ _ _ _ _ e5))))))))))) (jzX2_chill_98 z2 _ _ _ _ _ _ e2))))))))))))
theorem jzX2_chill_23 {r0 : Nat} {M0 : sy_M} {k2 : Nat → Int32 → Int32 → sy_M → sy_O} (z2 : ∀ (a1 : Int32) (a2 : Int32) (M : sy_M), sy_eqw (jW_X2_chill r0) M0 M → sy_fr (jW_X2_chill r0) M0 (k2 r0 a1 a2 M)) : ∀ (a1 : Int32) (a2 : Int32) (s0 : Int32) (M : sy_M), sy_eqw (jW_X2_chill r0) M0 M → sy_fr (jW_X2_chill r0) M0 (jfX2_chill_23 k2 r0 a1 a2 s0 M) := by
  intro a1 a2 s0 M e
  exact (sy_fr_ite (jzX2_chill_46 z2 _ _ _ _ _ e) ((sy_fr_cond ((sy_fr_bi (sy_fr_up e (jzoX2_get _ _ _ _) (sy_subw_ix [] rfl)) (fun _ _ e1 => (sy_fr_bi (sy_fr_up e1 (jzoJ9_min_7cf53 _ _ _) (sy_subw_ix [] rfl)) (fun _ _ e2 => jzX2_chill_46 z2 _ _ _ _ _ e2))))))))
theorem jzX2_chill_2 {r0 : Nat} {M0 : sy_M} : ∀ n : Nat, ∀ (a1 : Int32) (a2 : Int32) (M : sy_M), sy_eqw (jW_X2_chill r0) M0 M → sy_fr (jW_X2_chill r0) M0 (jfX2_chill_2 n r0 a1 a2 M) := by
  intro n
  induction n with
  | zero => intro a1 a2 M e; exact sy_fr_none
  | succ n z2 => intro a1 a2 M e; exact (sy_fr_cond ((sy_fr_ite ((sy_fr_ite (jzX2_chill_23 z2 _ _ _ _ e) (jzX2_chill_23 z2 _ _ _ _ e))) (sy_fr_end e))))
theorem jzX2_chill {r0 : Nat} {M0 : sy_M} : ∀ (a1 : Int32) (M : sy_M), sy_eqw (jW_X2_chill r0) M0 M → sy_fr (jW_X2_chill r0) M0 (jfX2_chill r0 a1 M) := by
  intro a1 M e
  exact jzX2_chill_2  6000 _ _ _ e
theorem jzoX2_chill (r0 : Nat) (a1 : Int32) (M : sy_M) : sy_fr (jW_X2_chill r0) M (jfX2_chill r0 a1 M) := jzX2_chill a1 M sy_eqw_refl
def jW_X8_whoGoes (r1 : Nat) (r2 : Nat) : List (Nat × Option Nat) := [(52, none)]
theorem jzX8_whoGoes_118 {r1 : Nat} {r2 : Nat} {M0 : sy_M} {k9 : Nat → Nat → Int32 → Int32 → Int32 → Int32 → sy_M → sy_O} (z9 : ∀ (a3 : Int32) (a4 : Int32) (a5 : Int32) (a6 : Int32) (M : sy_M), sy_eqw (jW_X8_whoGoes r1 r2) M0 M → sy_fr (jW_X8_whoGoes r1 r2) M0 (k9 r1 r2 a3 a4 a5 a6 M)) : ∀ (a3 : Int32) (a4 : Int32) (a5 : Int32) (a6 : Int32) (M : sy_M), sy_eqw (jW_X8_whoGoes r1 r2) M0 M → sy_fr (jW_X8_whoGoes r1 r2) M0 (jfX8_whoGoes_118 k9 r1 r2 a3 a4 a5 a6 M) := by
  intro a3 a4 a5 a6 M e
  exact z9 _ _ _ _ _ e
theorem jzX8_whoGoes_110 {r1 : Nat} {r2 : Nat} {M0 : sy_M} {k9 : Nat → Nat → Int32 → Int32 → Int32 → Int32 → sy_M → sy_O} (z9 : ∀ (a3 : Int32) (a4 : Int32) (a5 : Int32) (a6 : Int32) (M : sy_M), sy_eqw (jW_X8_whoGoes r1 r2) M0 M → sy_fr (jW_X8_whoGoes r1 r2) M0 (k9 r1 r2 a3 a4 a5 a6 M)) : ∀ (a3 : Int32) (a6 : Int32) (a8 : Int32) (M : sy_M), sy_eqw (jW_X8_whoGoes r1 r2) M0 M → sy_fr (jW_X8_whoGoes r1 r2) M0 (jfX8_whoGoes_110 k9 r1 r2 a3 a6 a8 M) := by
  intro a3 a6 a8 M e
  exact jzX8_whoGoes_118 z9 _ _ _ _ _ e
theorem jzX8_whoGoes_56 {r1 : Nat} {r2 : Nat} {M0 : sy_M} {k9 : Nat → Nat → Int32 → Int32 → Int32 → Int32 → sy_M → sy_O} (z9 : ∀ (a3 : Int32) (a4 : Int32) (a5 : Int32) (a6 : Int32) (M : sy_M), sy_eqw (jW_X8_whoGoes r1 r2) M0 M → sy_fr (jW_X8_whoGoes r1 r2) M0 (k9 r1 r2 a3 a4 a5 a6 M)) : ∀ (a3 : Int32) (a4 : Int32) (a5 : Int32) (a6 : Int32) (s0 : Int32) (M : sy_M), sy_eqw (jW_X8_whoGoes r1 r2) M0 M → sy_fr (jW_X8_whoGoes r1 r2) M0 (jfX8_whoGoes_56 k9 r1 r2 a3 a4 a5 a6 s0 M) := by
  intro a3 a4 a5 a6 s0 M e
  exact (sy_fr_ite (jzX8_whoGoes_118 z9 _ _ _ _ _ e) ((sy_fr_bv (sy_fr_up e (jzoX8_tell _ _ _) (sy_subw_ix [0] rfl)) (fun _ e1 => (sy_fr_cond ((sy_fr_bi (sy_fr_up e1 (jzoX4_isRefused _ _) (sy_subw_ix [] rfl)) (fun _ _ e2 => (sy_fr_ite ((sy_fr_cond ((sy_fr_bi (sy_fr_up e2 (jzoX4_turnOf _ _) (sy_subw_ix [] rfl)) (fun _ _ e3 => (sy_fr_ite (jzX8_whoGoes_110 z9 _ _ _ _ e3) ((sy_fr_ite (jzX8_whoGoes_110 z9 _ _ _ _ e3) (jzX8_whoGoes_118 z9 _ _ _ _ _ e3))))))))) (jzX8_whoGoes_118 z9 _ _ _ _ _ e2))))))))))
theorem jzX8_whoGoes_55 {r1 : Nat} {r2 : Nat} {M0 : sy_M} {k9 : Nat → Nat → Int32 → Int32 → Int32 → Int32 → sy_M → sy_O} (z9 : ∀ (a3 : Int32) (a4 : Int32) (a5 : Int32) (a6 : Int32) (M : sy_M), sy_eqw (jW_X8_whoGoes r1 r2) M0 M → sy_fr (jW_X8_whoGoes r1 r2) M0 (k9 r1 r2 a3 a4 a5 a6 M)) : ∀ (a3 : Int32) (a4 : Int32) (a5 : Int32) (a6 : Int32) (M : sy_M), sy_eqw (jW_X8_whoGoes r1 r2) M0 M → sy_fr (jW_X8_whoGoes r1 r2) M0 (jfX8_whoGoes_55 k9 r1 r2 a3 a4 a5 a6 M) := by
  intro a3 a4 a5 a6 M e
  exact jzX8_whoGoes_56 z9 _ _ _ _ _ _ e
theorem jzX8_whoGoes_9 {r1 : Nat} {r2 : Nat} {M0 : sy_M} : ∀ n : Nat, ∀ (a3 : Int32) (a4 : Int32) (a5 : Int32) (a6 : Int32) (M : sy_M), sy_eqw (jW_X8_whoGoes r1 r2) M0 M → sy_fr (jW_X8_whoGoes r1 r2) M0 (jfX8_whoGoes_9 n r1 r2 a3 a4 a5 a6 M) := by
  intro n
  induction n with
  | zero => intro a3 a4 a5 a6 M e; exact sy_fr_none
  | succ n z9 => intro a3 a4 a5 a6 M e; exact (sy_fr_cond ((sy_fr_ite ((sy_fr_ite (jzX8_whoGoes_55 z9 _ _ _ _ _ e) ((sy_fr_cond ((sy_fr_bi (sy_fr_up e (jzoX2_get _ _ _ _) (sy_subw_ix [] rfl)) (fun _ _ e1 => (sy_fr_ite ((sy_fr_cond ((sy_fr_bi (sy_fr_up e1 (jzoX2_get _ _ _ _) (sy_subw_ix [] rfl)) (fun _ _ e2 => (sy_fr_cond ((sy_fr_ite (jzX8_whoGoes_56 z9 _ _ _ _ _ _ e2) (jzX8_whoGoes_55 z9 _ _ _ _ _ e2))))))))) (jzX8_whoGoes_55 z9 _ _ _ _ _ e1))))))))) (sy_fr_end e))))
theorem jzX8_whoGoes {r1 : Nat} {r2 : Nat} {M0 : sy_M} : ∀ (a3 : Int32) (M : sy_M), sy_eqw (jW_X8_whoGoes r1 r2) M0 M → sy_fr (jW_X8_whoGoes r1 r2) M0 (jfX8_whoGoes r1 r2 a3 M) := by
  intro a3 M e
  exact jzX8_whoGoes_9  6000 _ _ _ _ _ e
theorem jzoX8_whoGoes (r1 : Nat) (r2 : Nat) (a3 : Int32) (M : sy_M) : sy_fr (jW_X8_whoGoes r1 r2) M (jfX8_whoGoes r1 r2 a3 M) := jzX8_whoGoes a3 M sy_eqw_refl
def jW_X2_turnClock (r0 : Nat) : List (Nat × Option Nat) := [(r0, some 5), (r0, some 6)]
theorem jzX2_turnClock {r0 : Nat} {M0 : sy_M} : ∀ (M : sy_M), sy_eqw (jW_X2_turnClock r0) M0 M → sy_fr (jW_X2_turnClock r0) M0 (jfX2_turnClock r0 M) := by
  intro  M e
  exact (sy_fr_cond ((sy_fr_cond ((sy_fr_cond ((sy_fr_ite (sy_fr_end (sy_eqw_uf e 0 rfl)) ((sy_fr_cond ((sy_fr_cond ((sy_fr_bi (sy_fr_up (sy_eqw_uf (sy_eqw_uf e 0 rfl) 0 rfl) (jzoJ9_min_7cf53 _ _ _) (sy_subw_ix [] rfl)) (fun _ _ e1 => (sy_fr_cond (sy_fr_end (sy_eqw_uf e1 1 rfl)))))))))))))))))
theorem jzoX2_turnClock (r0 : Nat) (M : sy_M) : sy_fr (jW_X2_turnClock r0) M (jfX2_turnClock r0 M) := jzX2_turnClock  M sy_eqw_refl
def jW_X2_addGas (r0 : Nat) : List (Nat × Option Nat) := [(r0, some 7)]
theorem jzX2_addGas {r0 : Nat} {M0 : sy_M} : ∀ (a1 : Int32) (M : sy_M), sy_eqw (jW_X2_addGas r0) M0 M → sy_fr (jW_X2_addGas r0) M0 (jfX2_addGas r0 a1 M) := by
  intro a1 M e
  exact (sy_fr_cond ((sy_fr_bi (sy_fr_up e (jzoJ9_min_7cf53 _ _ _) (sy_subw_ix [] rfl)) (fun _ _ e1 => (sy_fr_cond (sy_fr_end (sy_eqw_uf e1 0 rfl)))))))
theorem jzoX2_addGas (r0 : Nat) (a1 : Int32) (M : sy_M) : sy_fr (jW_X2_addGas r0) M (jfX2_addGas r0 a1 M) := jzX2_addGas a1 M sy_eqw_refl
def jW_X2_takeCoin (r0 : Nat) : List (Nat × Option Nat) := [(r0, some 7), (r0, some 11), (r0, some 12), (r0 + 1, none), (r0 + 3, some 2), (r0 + 3, some 3), (r0 + 4, none)]
theorem jzX2_takeCoin_65 {r0 : Nat} {M0 : sy_M} : ∀ (a1 : Int32) (M : sy_M), sy_eqw (jW_X2_takeCoin r0) M0 M → sy_fr (jW_X2_takeCoin r0) M0 (jfX2_takeCoin_65 r0 a1 M) := by
  intro a1 M e
  exact (sy_fr_cond ((sy_fr_cond ((sy_fr_bv (sy_fr_up e (jzoX7_add _ _ _ _ _) (sy_subw_ix [4, 5, 6] rfl)) (fun _ e1 => sy_fr_end e1))))))
theorem jzX2_takeCoin {r0 : Nat} {M0 : sy_M} : ∀ (a1 : Int32) (M : sy_M), sy_eqw (jW_X2_takeCoin r0) M0 M → sy_fr (jW_X2_takeCoin r0) M0 (jfX2_takeCoin r0 a1 M) := by
  intro a1 M e
  exact (sy_fr_cond ((sy_fr_bi (sy_fr_up e (jzoX2_get _ _ _ _) (sy_subw_ix [] rfl)) (fun _ _ e1 => (sy_fr_cond ((sy_fr_bv (sy_fr_up e1 (jzoX2_set _ _ _ _ _) (sy_subw_ix [3] rfl)) (fun _ e2 => (sy_fr_cond ((sy_fr_bi (sy_fr_up e2 (jzoX2_get _ _ _ _) (sy_subw_ix [] rfl)) (fun _ _ e3 => (sy_fr_bi (sy_fr_up e3 (jzoJ9_min_7cf53 _ _ _) (sy_subw_ix [] rfl)) (fun _ _ e4 => (sy_fr_cond ((sy_fr_bv (sy_fr_up e4 (jzoX2_set _ _ _ _ _) (sy_subw_ix [3] rfl)) (fun _ e5 => (sy_fr_cond ((sy_fr_bi (sy_fr_up e5 (jzoJ9_min_7cf53 _ _ _) (sy_subw_ix [] rfl)) (fun _ _ e6 => (sy_fr_cond ((sy_fr_cond ((sy_fr_cond ((sy_fr_bv (sy_fr_up (sy_eqw_uf e6 1 rfl) (jzoX2_addGas _ _ _) (sy_subw_ix [0] rfl)) (fun _ e7 => (sy_fr_cond (jzX2_takeCoin_65  _ _ (sy_eqw_uf e7 2 rfl)))))))))))))))))))))))))))))))))
theorem jzoX2_takeCoin (r0 : Nat) (a1 : Int32) (M : sy_M) : sy_fr (jW_X2_takeCoin r0) M (jfX2_takeCoin r0 a1 M) := jzX2_takeCoin a1 M sy_eqw_refl
def jW_X2_light (r0 : Nat) : List (Nat × Option Nat) := [(r0, some 7), (r0, some 9), (r0 + 1, none)]
theorem jzX2_light_12 {r0 : Nat} {M0 : sy_M} : ∀ n : Nat, ∀ (a2 : Int32) (M : sy_M), sy_eqw (jW_X2_light r0) M0 M → sy_fr (jW_X2_light r0) M0 (jfX2_light_12 n r0 a2 M) := by
  intro n
  induction n with
  | zero => intro a2 M e; exact sy_fr_none
  | succ n z12 => intro a2 M e; exact (sy_fr_cond ((sy_fr_ite ((sy_fr_cond ((sy_fr_ite ((sy_fr_cond ((sy_fr_bv (sy_fr_up e (jzoX2_set _ _ _ _ _) (sy_subw_ix [2] rfl)) (fun _ e1 => z12 _ _ e1))))) ((sy_fr_cond (sy_fr_end (sy_eqw_uf e 1 rfl)))))))) ((sy_fr_cond (sy_fr_end (sy_eqw_uf e 1 rfl)))))))
theorem jzX2_light {r0 : Nat} {M0 : sy_M} : ∀ (a1 : Int32) (M : sy_M), sy_eqw (jW_X2_light r0) M0 M → sy_fr (jW_X2_light r0) M0 (jfX2_light r0 a1 M) := by
  intro a1 M e
  exact (sy_fr_cond ((sy_fr_cond (jzX2_light_12  6000 _ _ (sy_eqw_uf e 0 rfl)))))
theorem jzoX2_light (r0 : Nat) (a1 : Int32) (M : sy_M) : sy_fr (jW_X2_light r0) M (jfX2_light r0 a1 M) := jzX2_light a1 M sy_eqw_refl
def jW_X2_draw (r0 : Nat) : List (Nat × Option Nat) := [(r0, some 13)]
theorem jzX2_draw {r0 : Nat} {M0 : sy_M} : ∀ (M : sy_M), sy_eqw (jW_X2_draw r0) M0 M → sy_fr (jW_X2_draw r0) M0 (jfX2_draw r0 M) := by
  intro  M e
  exact (sy_fr_cond ((sy_fr_cond ((sy_fr_cond (sy_fr_end (sy_eqw_uf e 0 rfl)))))))
theorem jzoX2_draw (r0 : Nat) (M : sy_M) : sy_fr (jW_X2_draw r0) M (jfX2_draw r0 M) := jzX2_draw  M sy_eqw_refl
def jW_X8_pass (r1 : Nat) (r2 : Nat) : List (Nat × Option Nat) := [(r1, some 5), (r1, some 6), (r1, some 7), (r1, some 9), (r1, some 11), (r1, some 12), (r1, some 13), (r1 + 1, none), (r1 + 3, some 2), (r1 + 3, some 3), (r1 + 4, none), (52, none)]
theorem jzX8_pass_98 {r1 : Nat} {r2 : Nat} {M0 : sy_M} : ∀ (a5 : Int32) (M : sy_M), sy_eqw (jW_X8_pass r1 r2) M0 M → sy_fr (jW_X8_pass r1 r2) M0 (jfX8_pass_98 r1 a5 M) := by
  intro a5 M e
  exact (sy_fr_cond ((sy_fr_bv (sy_fr_up e (jzoX2_turnClock _ _) (sy_subw_ix [0, 1] rfl)) (fun _ e1 => sy_fr_end e1))))
theorem jzX8_pass_34 {r1 : Nat} {r2 : Nat} {M0 : sy_M} : ∀ (a4 : Int32) (M : sy_M), sy_eqw (jW_X8_pass r1 r2) M0 M → sy_fr (jW_X8_pass r1 r2) M0 (jfX8_pass_34 r1 r2 a4 M) := by
  intro a4 M e
  exact (sy_fr_cond ((sy_fr_ite ((sy_fr_cond ((sy_fr_bi (sy_fr_up e (jzoX8_presentAt _ _) (sy_subw_ix [] rfl)) (fun _ _ e1 => (sy_fr_cond ((sy_fr_bv (sy_fr_up e1 (jzoX2_darken _ _) (sy_subw_ix [3, 8, 9, 10] rfl)) (fun _ e2 => (sy_fr_cond ((sy_fr_bv (sy_fr_up e2 (jzoX2_chill _ _ _) (sy_subw_ix [7, 8, 9, 10] rfl)) (fun _ e3 => (sy_fr_bi (sy_fr_up e3 (jzoX8_whoGoes _ _ _ _) (sy_subw_ix [11] rfl)) (fun _ _ e4 => (sy_fr_ite (jzX8_pass_98  _ _ e4) ((sy_fr_cond ((sy_fr_bv (sy_fr_up e4 (jzoX2_takeCoin _ _ _) (sy_subw_ix [2, 4, 5, 7, 8, 9, 10] rfl)) (fun _ e5 => jzX8_pass_98  _ _ e5))))))))))))))))))))) ((sy_fr_cond ((sy_fr_bv (sy_fr_up e (jzoX2_light _ _ _) (sy_subw_ix [2, 3, 7] rfl)) (fun _ e6 => jzX8_pass_98  _ _ e6))))))))
theorem jzX8_pass {r1 : Nat} {r2 : Nat} {M0 : sy_M} : ∀ (a3 : Int32) (M : sy_M), sy_eqw (jW_X8_pass r1 r2) M0 M → sy_fr (jW_X8_pass r1 r2) M0 (jfX8_pass r1 r2 a3 M) := by
  intro a3 M e
  exact (sy_fr_cond ((sy_fr_bi (sy_fr_up e (jzoX8_needsAt _ _) (sy_subw_ix [] rfl)) (fun _ _ e1 => (sy_fr_ite (jzX8_pass_34  _ _ e1) ((sy_fr_cond ((sy_fr_bi (sy_fr_up e1 (jzoX2_draw _ _) (sy_subw_ix [6] rfl)) (fun _ _ e2 => (sy_fr_cond ((sy_fr_ite (jzX8_pass_34  _ _ e2) (jzX8_pass_34  _ _ e2))))))))))))))
theorem jzoX8_pass (r1 : Nat) (r2 : Nat) (a3 : Int32) (M : sy_M) : sy_fr (jW_X8_pass r1 r2) M (jfX8_pass r1 r2 a3 M) := jzX8_pass a3 M sy_eqw_refl
def jW_X11_run : List (Nat × Option Nat) := [(19, some 5), (19, some 6), (19, some 7), (19, some 9), (19, some 11), (19, some 12), (19, some 13), (20, none), (22, some 2), (22, some 3), (23, none), (52, none)]
theorem jzX11_run_33 {M0 : sy_M} {k5 : Int32 → Int32 → Int32 → Int32 → sy_M → sy_O} (z5 : ∀ (a1 : Int32) (a2 : Int32) (a3 : Int32) (a4 : Int32) (M : sy_M), sy_eqw (jW_X11_run) M0 M → sy_fr (jW_X11_run) M0 (k5 a1 a2 a3 a4 M)) : ∀ (a1 : Int32) (a2 : Int32) (a3 : Int32) (a4 : Int32) (M : sy_M), sy_eqw (jW_X11_run) M0 M → sy_fr (jW_X11_run) M0 (jfX11_run_33 k5 a1 a2 a3 a4 M) := by
  intro a1 a2 a3 a4 M e
  exact z5 _ _ _ _ _ e
theorem jzX11_run_5 {M0 : sy_M} : ∀ n : Nat, ∀ (a1 : Int32) (a2 : Int32) (a3 : Int32) (a4 : Int32) (M : sy_M), sy_eqw (jW_X11_run) M0 M → sy_fr (jW_X11_run) M0 (jfX11_run_5 n a1 a2 a3 a4 M) := by
  intro n
  induction n with
  | zero => intro a1 a2 a3 a4 M e; exact sy_fr_none
  | succ n z5 => intro a1 a2 a3 a4 M e; exact (sy_fr_ite ((sy_fr_bi (sy_fr_up e (jzoX8_pass _ _ _ _) (sy_subw_ix [0, 1, 2, 3, 4, 5, 6, 7, 8, 9, 10, 11] rfl)) (fun _ _ e1 => (sy_fr_ite (jzX11_run_33 z5 _ _ _ _ _ e1) (jzX11_run_33 z5 _ _ _ _ _ e1))))) (sy_fr_end e))
theorem jzX11_run {M0 : sy_M} : ∀ (a1 : Int32) (a2 : Int32) (M : sy_M), sy_eqw (jW_X11_run) M0 M → sy_fr (jW_X11_run) M0 (jfX11_run a1 a2 M) := by
  intro a1 a2 M e
  exact jzX11_run_5  6000 _ _ _ _ _ e
theorem jzoX11_run (a1 : Int32) (a2 : Int32) (M : sy_M) : sy_fr (jW_X11_run) M (jfX11_run a1 a2 M) := jzX11_run a1 a2 M sy_eqw_refl
def jW_X11_griefAhead : List (Nat × Option Nat) := []
theorem jzX11_griefAhead {M0 : sy_M} : ∀ (a1 : Int32) (M : sy_M), sy_eqw (jW_X11_griefAhead) M0 M → sy_fr (jW_X11_griefAhead) M0 (jfX11_griefAhead a1 M) := by
  intro a1 M e
  exact (sy_fr_bi (sy_fr_up e (jzoX2_get _ _ _ _) (sy_subw_ix [] rfl)) (fun _ _ e1 => (sy_fr_bi (sy_fr_up e1 (jzoX2_get _ _ _ _) (sy_subw_ix [] rfl)) (fun _ _ e2 => (sy_fr_bi (sy_fr_up e2 (jzoX2_get _ _ _ _) (sy_subw_ix [] rfl)) (fun _ _ e3 => (sy_fr_bi (sy_fr_up e3 (jzoX2_get _ _ _ _) (sy_subw_ix [] rfl)) (fun _ _ e4 => sy_fr_end e4))))))))
theorem jzoX11_griefAhead (a1 : Int32) (M : sy_M) : sy_fr (jW_X11_griefAhead) M (jfX11_griefAhead a1 M) := jzX11_griefAhead a1 M sy_eqw_refl
def jW_X11_griefBy : List (Nat × Option Nat) := [(19, some 3), (19, some 4), (19, some 5), (19, some 6), (19, some 7), (19, some 8), (19, some 9), (19, some 10), (19, some 11), (19, some 12), (19, some 13), (20, none), (21, none), (22, some 2), (22, some 3), (23, none), (52, none)]
theorem jzX11_griefBy {M0 : sy_M} : ∀ (a1 : Int32) (a2 : Int32) (M : sy_M), sy_eqw (jW_X11_griefBy) M0 M → sy_fr (jW_X11_griefBy) M0 (jfX11_griefBy a1 a2 M) := by
  intro a1 a2 M e
  exact (sy_fr_bv (sy_fr_up e (jzoX2_takeOver _ _ _) (sy_subw_ix [0, 1, 2, 3, 4, 5, 6, 7, 8, 9, 10, 11, 12, 13, 14, 15] rfl)) (fun _ e1 => (sy_fr_bv (sy_fr_up e1 (jzoX2_set _ _ _ _ _) (sy_subw_ix [11] rfl)) (fun _ e2 => (sy_fr_bi (sy_fr_up e2 (jzoX11_run _ _ _) (sy_subw_ix [2, 3, 4, 6, 8, 9, 10, 11, 13, 14, 15, 16] rfl)) (fun _ _ e3 => (sy_fr_bi (sy_fr_up e3 (jzoX11_griefAhead _ _) (sy_subw_ix [] rfl)) (fun _ _ e4 => sy_fr_end e4))))))))
theorem jzoX11_griefBy (a1 : Int32) (a2 : Int32) (M : sy_M) : sy_fr (jW_X11_griefBy) M (jfX11_griefBy a1 a2 M) := jzX11_griefBy a1 a2 M sy_eqw_refl
def jW_X11_bestWait : List (Nat × Option Nat) := [(19, some 3), (19, some 4), (19, some 5), (19, some 6), (19, some 7), (19, some 8), (19, some 9), (19, some 10), (19, some 11), (19, some 12), (19, some 13), (20, none), (21, none), (22, some 2), (22, some 3), (23, none), (52, none)]
theorem jzX11_bestWait_40 {M0 : sy_M} {k12 : Int32 → Int32 → Int32 → Int32 → sy_M → sy_O} (z12 : ∀ (a1 : Int32) (a2 : Int32) (a3 : Int32) (a4 : Int32) (M : sy_M), sy_eqw (jW_X11_bestWait) M0 M → sy_fr (jW_X11_bestWait) M0 (k12 a1 a2 a3 a4 M)) : ∀ (a1 : Int32) (a2 : Int32) (a3 : Int32) (a4 : Int32) (M : sy_M), sy_eqw (jW_X11_bestWait) M0 M → sy_fr (jW_X11_bestWait) M0 (jfX11_bestWait_40 k12 a1 a2 a3 a4 M) := by
  intro a1 a2 a3 a4 M e
  exact z12 _ _ _ _ _ e
theorem jzX11_bestWait_12 {M0 : sy_M} : ∀ n : Nat, ∀ (a1 : Int32) (a2 : Int32) (a3 : Int32) (a4 : Int32) (M : sy_M), sy_eqw (jW_X11_bestWait) M0 M → sy_fr (jW_X11_bestWait) M0 (jfX11_bestWait_12 n a1 a2 a3 a4 M) := by
  intro n
  induction n with
  | zero => intro a1 a2 a3 a4 M e; exact sy_fr_none
  | succ n z12 => intro a1 a2 a3 a4 M e; exact (sy_fr_ite (sy_fr_end e) ((sy_fr_bi (sy_fr_up e (jzoX11_griefBy _ _ _) (sy_subw_ix [0, 1, 2, 3, 4, 5, 6, 7, 8, 9, 10, 11, 12, 13, 14, 15, 16] rfl)) (fun _ _ e1 => (sy_fr_ite (jzX11_bestWait_40 z12 _ _ _ _ _ e1) (jzX11_bestWait_40 z12 _ _ _ _ _ e1))))))
theorem jzX11_bestWait {M0 : sy_M} : ∀ (a1 : Int32) (M : sy_M), sy_eqw (jW_X11_bestWait) M0 M → sy_fr (jW_X11_bestWait) M0 (jfX11_bestWait a1 M) := by
  intro a1 M e
  exact (sy_fr_bi (sy_fr_up e (jzoX11_griefBy _ _ _) (sy_subw_ix [0, 1, 2, 3, 4, 5, 6, 7, 8, 9, 10, 11, 12, 13, 14, 15, 16] rfl)) (fun _ _ e1 => jzX11_bestWait_12  6000 _ _ _ _ _ e1))
theorem jzoX11_bestWait (a1 : Int32) (M : sy_M) : sy_fr (jW_X11_bestWait) M (jfX11_bestWait a1 M) := jzX11_bestWait a1 M sy_eqw_refl
def jW_X11_lodger : List (Nat × Option Nat) := [(133, some 0), (19, some 3), (19, some 4), (19, some 5), (19, some 6), (19, some 7), (19, some 8), (19, some 9), (19, some 10), (19, some 11), (19, some 12), (19, some 13), (20, none), (21, none), (22, some 2), (22, some 3), (23, none), (50, none), (51, none), (52, none)]
theorem jzX11_lodger_60 {M0 : sy_M} : ∀ (a1 : Int32) (M : sy_M), sy_eqw (jW_X11_lodger) M0 M → sy_fr (jW_X11_lodger) M0 (jfX11_lodger_60 a1 M) := by
  intro a1 M e
  exact (sy_fr_bv (sy_fr_up e (jzoX8_tell _ _ _) (sy_subw_ix [19] rfl)) (fun _ e1 => (sy_fr_bi (sy_fr_up e1 (jzoX4_turnOf _ _) (sy_subw_ix [] rfl)) (fun _ _ e2 => sy_fr_end e2))))
theorem jzX11_lodger_87 {M0 : sy_M} : ∀ (a1 : Int32) (M : sy_M), sy_eqw (jW_X11_lodger) M0 M → sy_fr (jW_X11_lodger) M0 (jfX11_lodger_87 a1 M) := by
  intro a1 M e
  exact (sy_fr_bv (sy_fr_up e (jzoX8_tell _ _ _) (sy_subw_ix [19] rfl)) (fun _ e1 => (sy_fr_bi (sy_fr_up e1 (jzoX4_isRefused _ _) (sy_subw_ix [] rfl)) (fun _ _ e2 => (sy_fr_ite (sy_fr_end e2) (sy_fr_end e2))))))
theorem jzX11_lodger_122 {M0 : sy_M} : ∀ (a1 : Int32) (M : sy_M), sy_eqw (jW_X11_lodger) M0 M → sy_fr (jW_X11_lodger) M0 (jfX11_lodger_122 a1 M) := by
  intro a1 M e
  exact (sy_fr_bi (sy_fr_up e (jzoX2_get _ _ _ _) (sy_subw_ix [] rfl)) (fun _ _ e1 => (sy_fr_bi (sy_fr_up e1 (jzoX2_sum _ _ _) (sy_subw_ix [] rfl)) (fun _ _ e2 => (sy_fr_bi (sy_fr_up e2 (jzoX11_hundredths _ _ _) (sy_subw_ix [] rfl)) (fun _ _ e3 => sy_fr_end e3))))))
theorem jzX11_lodger_145 {M0 : sy_M} : ∀ (a1 : Int32) (M : sy_M), sy_eqw (jW_X11_lodger) M0 M → sy_fr (jW_X11_lodger) M0 (jfX11_lodger_145 a1 M) := by
  intro a1 M e
  exact (sy_fr_bi (sy_fr_up e (jzoX2_metered _ _ _) (sy_subw_ix [] rfl)) (fun _ _ e1 => sy_fr_end e1))
theorem jzX11_lodger_154 {M0 : sy_M} : ∀ (a1 : Int32) (M : sy_M), sy_eqw (jW_X11_lodger) M0 M → sy_fr (jW_X11_lodger) M0 (jfX11_lodger_154 a1 M) := by
  intro a1 M e
  exact (sy_fr_bv (sy_fr_up e (jzoX8_learn _ _) (sy_subw_ix [17, 18] rfl)) (fun _ e1 => (sy_fr_bi (sy_fr_up e1 (jzoX11_bestWait _ _) (sy_subw_ix [1, 2, 3, 4, 5, 6, 7, 8, 9, 10, 11, 12, 13, 14, 15, 16, 19] rfl)) (fun _ _ e2 => sy_fr_end e2))))
theorem jzX11_lodger_25 {M0 : sy_M} : ∀ (a1 : Int32) (a2 : Int32) (M : sy_M), sy_eqw (jW_X11_lodger) M0 M → sy_fr (jW_X11_lodger) M0 (jfX11_lodger_25 a1 a2 M) := by
  intro a1 a2 M e
  exact (sy_fr_ite (jzX11_lodger_60  _ _ e) ((sy_fr_ite (jzX11_lodger_87  _ _ e) ((sy_fr_ite (jzX11_lodger_122  _ _ e) ((sy_fr_ite (jzX11_lodger_145  _ _ e) ((sy_fr_ite (jzX11_lodger_154  _ _ e) ((sy_fr_cond (sy_fr_end (sy_eqw_uf e 0 rfl)))))))))))))
theorem jzX11_lodger {M0 : sy_M} : ∀ (a1 : Int32) (a2 : Int32) (M : sy_M), sy_eqw (jW_X11_lodger) M0 M → sy_fr (jW_X11_lodger) M0 (jfX11_lodger a1 a2 M) := by
  intro a1 a2 M e
  exact (sy_fr_bv (sy_fr_up e (jzoX11_checkLodger _ _) (sy_subw_ix [0] rfl)) (fun _ e1 => (sy_fr_ite (jzX11_lodger_25  _ _ _ e1) ((sy_fr_ite ((sy_fr_bi (sy_fr_up e1 (jzoX2_get _ _ _ _) (sy_subw_ix [] rfl)) (fun _ _ e2 => sy_fr_end e2))) (jzX11_lodger_25  _ _ _ e1))))))
theorem jzoX11_lodger (a1 : Int32) (a2 : Int32) (M : sy_M) : sy_fr (jW_X11_lodger) M (jfX11_lodger a1 a2 M) := jzX11_lodger a1 a2 M sy_eqw_refl
def jW_L_lodger : List (Nat × Option Nat) := [(132, none), (133, some 0), (19, some 3), (19, some 4), (19, some 5), (19, some 6), (19, some 7), (19, some 8), (19, some 9), (19, some 10), (19, some 11), (19, some 12), (19, some 13), (20, none), (21, none), (22, some 2), (22, some 3), (23, none), (50, none), (51, none), (52, none)]
theorem jzL_lodger {M0 : sy_M} : ∀ (a1 : Int32) (a2 : Int32) (M : sy_M), sy_eqw (jW_L_lodger) M0 M → sy_fr (jW_L_lodger) M0 (jfL_lodger a1 a2 M) := by
  intro a1 a2 M e
  exact (sy_fr_hi (sy_fr_up e (jzoX11_lodger _ _ _) (sy_subw_ix [1, 2, 3, 4, 5, 6, 7, 8, 9, 10, 11, 12, 13, 14, 15, 16, 17, 18, 19, 20] rfl)) (fun _ _ e1 => sy_fr_end (sy_eqw_wl e1 0 rfl)) (fun _ _ e1 => (sy_fr_ite (sy_fr_end e1) (sy_fr_ite (sy_fr_end e1) sy_fr_none))))
theorem jzoL_lodger (a1 : Int32) (a2 : Int32) (M : sy_M) : sy_fr (jW_L_lodger) M (jfL_lodger a1 a2 M) := jzL_lodger a1 a2 M sy_eqw_refl
def jW_X12_isLodger : List (Nat × Option Nat) := []
theorem jzX12_isLodger {M0 : sy_M} : ∀ (a1 : Int32) (M : sy_M), sy_eqw (jW_X12_isLodger) M0 M → sy_fr (jW_X12_isLodger) M0 (jfX12_isLodger a1 M) := by
  intro a1 M e
  exact (sy_fr_bi (sy_fr_up e (jzoX12_isIn _ _ _ _) (sy_subw_ix [] rfl)) (fun _ _ e1 => (sy_fr_cond (sy_fr_end e1))))
theorem jzoX12_isLodger (a1 : Int32) (M : sy_M) : sy_fr (jW_X12_isLodger) M (jfX12_isLodger a1 M) := jzX12_isLodger a1 M sy_eqw_refl
def jW_X12_of : List (Nat × Option Nat) := []
theorem jzX12_of {M0 : sy_M} : ∀ (a1 : Int32) (a2 : Int32) (M : sy_M), sy_eqw (jW_X12_of) M0 M → sy_fr (jW_X12_of) M0 (jfX12_of a1 a2 M) := by
  intro a1 a2 M e
  exact (sy_fr_cond (sy_fr_end e))
theorem jzoX12_of (a1 : Int32) (a2 : Int32) (M : sy_M) : sy_fr (jW_X12_of) M (jfX12_of a1 a2 M) := jzX12_of a1 a2 M sy_eqw_refl
def jW_X12_asks : List (Nat × Option Nat) := [(121, some 9), (121, some 10), (121, some 11), (121, some 12), (121, some 13), (121, some 15), (121, some 16), (121, some 17), (121, some 18), (122, none), (127, none)]
theorem jzX12_asks_146 {M0 : sy_M} : ∀ (s0 : Int32) (M : sy_M), sy_eqw (jW_X12_asks) M0 M → sy_fr (jW_X12_asks) M0 (jfX12_asks_146 s0 M) := by
  intro s0 M e
  exact (sy_fr_cond ((sy_fr_bi (sy_fr_up (sy_eqw_uf (sy_eqw_uf (sy_eqw_uf (sy_eqw_uf (sy_eqw_uf (sy_eqw_uf e 6 rfl) 3 rfl) 0 rfl) 1 rfl) 2 rfl) 4 rfl) (jzoX12_read _ _) (sy_subw_ix [2, 3, 4, 7, 8, 9] rfl)) (fun _ _ e1 => sy_fr_end (sy_eqw_uf e1 3 rfl)))))
theorem jzX12_asks_121 {M0 : sy_M} : ∀ (a1 : Int32) (s0 : Int32) (M : sy_M), sy_eqw (jW_X12_asks) M0 M → sy_fr (jW_X12_asks) M0 (jfX12_asks_121 a1 s0 M) := by
  intro a1 s0 M e
  exact (sy_fr_cond ((sy_fr_bi (sy_fr_up (sy_eqw_uf e 5 rfl) (jzoX12_of _ _ _) (sy_subw_ix [] rfl)) (fun _ _ e1 => (sy_fr_bi (sy_fr_up e1 (jzoX12_of _ _ _) (sy_subw_ix [] rfl)) (fun _ _ e2 => (sy_fr_ite (jzX12_asks_146  _ _ e2) (jzX12_asks_146  _ _ e2))))))))
theorem jzX12_asks_65 {M0 : sy_M} : ∀ (a1 : Int32) (M : sy_M), sy_eqw (jW_X12_asks) M0 M → sy_fr (jW_X12_asks) M0 (jfX12_asks_65 a1 M) := by
  intro a1 M e
  exact (sy_fr_bi (sy_fr_up e (jzoX12_of _ _ _) (sy_subw_ix [] rfl)) (fun _ _ e1 => (sy_fr_ite (jzX12_asks_121  _ _ _ (sy_eqw_ua (sy_eqw_ua (sy_eqw_ua e1 10 rfl) 10 rfl) 10 rfl)) (jzX12_asks_121  _ _ _ (sy_eqw_ua (sy_eqw_ua (sy_eqw_ua e1 10 rfl) 10 rfl) 10 rfl)))))
theorem jzX12_asks {M0 : sy_M} : ∀ (a1 : Int32) (M : sy_M), sy_eqw (jW_X12_asks) M0 M → sy_fr (jW_X12_asks) M0 (jfX12_asks a1 M) := by
  intro a1 M e
  exact (sy_fr_ite (sy_fr_end (sy_eqw_uf (sy_eqw_uf e 7 rfl) 8 rfl)) ((sy_fr_bi (sy_fr_up (sy_eqw_ua (sy_eqw_uf (sy_eqw_uf e 7 rfl) 8 rfl) 10 rfl) (jzoX12_of _ _ _) (sy_subw_ix [] rfl)) (fun _ _ e1 => (sy_fr_bi (sy_fr_up (sy_eqw_ua e1 10 rfl) (jzoX12_of _ _ _) (sy_subw_ix [] rfl)) (fun _ _ e2 => (sy_fr_bi (sy_fr_up (sy_eqw_ua e2 10 rfl) (jzoX12_of _ _ _) (sy_subw_ix [] rfl)) (fun _ _ e3 => jzX12_asks_65  _ _ (sy_eqw_ua e3 10 rfl)))))))))
theorem jzoX12_asks (a1 : Int32) (M : sy_M) : sy_fr (jW_X12_asks) M (jfX12_asks a1 M) := jzX12_asks a1 M sy_eqw_refl
def jW_X12_atHome : List (Nat × Option Nat) := []
theorem jzX12_atHome_42 {M0 : sy_M} : ∀ (M : sy_M), sy_eqw (jW_X12_atHome) M0 M → sy_fr (jW_X12_atHome) M0 (jfX12_atHome_42 M) := by
  intro  M e
  exact sy_fr_end e
theorem jzX12_atHome {M0 : sy_M} : ∀ (a1 : Int32) (a2 : Int32) (M : sy_M), sy_eqw (jW_X12_atHome) M0 M → sy_fr (jW_X12_atHome) M0 (jfX12_atHome a1 a2 M) := by
  intro a1 a2 M e
  exact (sy_fr_bi (sy_fr_up e (jzoX12_of _ _ _) (sy_subw_ix [] rfl)) (fun _ _ e1 => (sy_fr_bi (sy_fr_up e1 (jzoX12_of _ _ _) (sy_subw_ix [] rfl)) (fun _ _ e2 => (sy_fr_ite ((sy_fr_ite ((sy_fr_ite (sy_fr_end e2) (jzX12_atHome_42   _ e2))) (jzX12_atHome_42   _ e2))) ((sy_fr_bi (sy_fr_up e2 (jzoX12_isIn _ _ _ _) (sy_subw_ix [] rfl)) (fun _ _ e3 => (sy_fr_cond (sy_fr_end e3))))))))))
theorem jzoX12_atHome (a1 : Int32) (a2 : Int32) (M : sy_M) : sy_fr (jW_X12_atHome) M (jfX12_atHome a1 a2 M) := jzX12_atHome a1 a2 M sy_eqw_refl
def jW_X12_homeIn : List (Nat × Option Nat) := []
theorem jzX12_homeIn_31 {M0 : sy_M} {k4 : Int32 → Int32 → Int32 → sy_M → sy_O} (z4 : ∀ (a1 : Int32) (a2 : Int32) (a3 : Int32) (M : sy_M), sy_eqw (jW_X12_homeIn) M0 M → sy_fr (jW_X12_homeIn) M0 (k4 a1 a2 a3 M)) : ∀ (a1 : Int32) (a3 : Int32) (s0 : Int32) (s1 : Int32) (M : sy_M), sy_eqw (jW_X12_homeIn) M0 M → sy_fr (jW_X12_homeIn) M0 (jfX12_homeIn_31 k4 a1 a3 s0 s1 M) := by
  intro a1 a3 s0 s1 M e
  exact z4 _ _ _ _ e
theorem jzX12_homeIn_4 {M0 : sy_M} : ∀ n : Nat, ∀ (a1 : Int32) (a2 : Int32) (a3 : Int32) (M : sy_M), sy_eqw (jW_X12_homeIn) M0 M → sy_fr (jW_X12_homeIn) M0 (jfX12_homeIn_4 n a1 a2 a3 M) := by
  intro n
  induction n with
  | zero => intro a1 a2 a3 M e; exact sy_fr_none
  | succ n z4 => intro a1 a2 a3 M e; exact (sy_fr_ite ((sy_fr_bi (sy_fr_up e (jzoX12_atHome _ _ _) (sy_subw_ix [] rfl)) (fun _ _ e1 => (sy_fr_ite (jzX12_homeIn_31 z4 _ _ _ _ _ e1) (jzX12_homeIn_31 z4 _ _ _ _ _ e1))))) (sy_fr_end e))
theorem jzX12_homeIn {M0 : sy_M} : ∀ (a1 : Int32) (M : sy_M), sy_eqw (jW_X12_homeIn) M0 M → sy_fr (jW_X12_homeIn) M0 (jfX12_homeIn a1 M) := by
  intro a1 M e
  exact jzX12_homeIn_4  6000 _ _ _ _ e
theorem jzoX12_homeIn (a1 : Int32) (M : sy_M) : sy_fr (jW_X12_homeIn) M (jfX12_homeIn a1 M) := jzX12_homeIn a1 M sy_eqw_refl
def jW_X12_isOf : List (Nat × Option Nat) := []
theorem jzX12_isOf {M0 : sy_M} : ∀ (a0 : Int32) (a1 : Int32) (M : sy_M), sy_eqw (jW_X12_isOf) M0 M → sy_fr (jW_X12_isOf) M0 (jfX12_isOf a0 a1 M) := by
  intro a0 a1 M e
  exact (sy_fr_ite (sy_fr_end e) (sy_fr_end e))
theorem jzoX12_isOf (a0 : Int32) (a1 : Int32) (M : sy_M) : sy_fr (jW_X12_isOf) M (jfX12_isOf a0 a1 M) := jzX12_isOf a0 a1 M sy_eqw_refl
def jW_X12_burnsOf : List (Nat × Option Nat) := []
theorem jzX12_burnsOf_33 {M0 : sy_M} {k4 : Int32 → Int32 → Int32 → sy_M → sy_O} (z4 : ∀ (a1 : Int32) (a2 : Int32) (a3 : Int32) (M : sy_M), sy_eqw (jW_X12_burnsOf) M0 M → sy_fr (jW_X12_burnsOf) M0 (k4 a1 a2 a3 M)) : ∀ (a1 : Int32) (a3 : Int32) (s0 : Int32) (s1 : Int32) (M : sy_M), sy_eqw (jW_X12_burnsOf) M0 M → sy_fr (jW_X12_burnsOf) M0 (jfX12_burnsOf_33 k4 a1 a3 s0 s1 M) := by
  intro a1 a3 s0 s1 M e
  exact z4 _ _ _ _ e
theorem jzX12_burnsOf_4 {M0 : sy_M} : ∀ n : Nat, ∀ (a1 : Int32) (a2 : Int32) (a3 : Int32) (M : sy_M), sy_eqw (jW_X12_burnsOf) M0 M → sy_fr (jW_X12_burnsOf) M0 (jfX12_burnsOf_4 n a1 a2 a3 M) := by
  intro n
  induction n with
  | zero => intro a1 a2 a3 M e; exact sy_fr_none
  | succ n z4 => intro a1 a2 a3 M e; exact (sy_fr_ite ((sy_fr_bi (sy_fr_up e (jzoX12_isOf _ _ _) (sy_subw_ix [] rfl)) (fun _ _ e1 => (sy_fr_ite (jzX12_burnsOf_33 z4 _ _ _ _ _ e1) ((sy_fr_bi (sy_fr_up e1 (jzoX12_of _ _ _) (sy_subw_ix [] rfl)) (fun _ _ e2 => jzX12_burnsOf_33 z4 _ _ _ _ _ e2))))))) (sy_fr_end e))
theorem jzX12_burnsOf {M0 : sy_M} : ∀ (a1 : Int32) (M : sy_M), sy_eqw (jW_X12_burnsOf) M0 M → sy_fr (jW_X12_burnsOf) M0 (jfX12_burnsOf a1 M) := by
  intro a1 M e
  exact jzX12_burnsOf_4  6000 _ _ _ _ e
theorem jzoX12_burnsOf (a1 : Int32) (M : sy_M) : sy_fr (jW_X12_burnsOf) M (jfX12_burnsOf a1 M) := jzX12_burnsOf a1 M sy_eqw_refl
def jW_X12_lesser : List (Nat × Option Nat) := []
theorem jzX12_lesser {M0 : sy_M} : ∀ (a0 : Int32) (a1 : Int32) (M : sy_M), sy_eqw (jW_X12_lesser) M0 M → sy_fr (jW_X12_lesser) M0 (jfX12_lesser a0 a1 M) := by
  intro a0 a1 M e
  exact (sy_fr_ite (sy_fr_end e) (sy_fr_end e))
theorem jzoX12_lesser (a0 : Int32) (a1 : Int32) (M : sy_M) : sy_fr (jW_X12_lesser) M (jfX12_lesser a0 a1 M) := jzX12_lesser a0 a1 M sy_eqw_refl
def jW_X12_logs : List (Nat × Option Nat) := [(122, none)]
theorem jzX12_logs_94 {M0 : sy_M} : ∀ (M : sy_M), sy_eqw (jW_X12_logs) M0 M → sy_fr (jW_X12_logs) M0 (jfX12_logs_94 M) := by
  intro  M e
  exact (sy_fr_bi (sy_fr_up e (jzoX12_lesser _ _ _) (sy_subw_ix [] rfl)) (fun _ _ e1 => sy_fr_end (sy_eqw_ua e1 0 rfl)))
theorem jzX12_logs_4 {M0 : sy_M} : ∀ n : Nat, ∀ (a1 : Int32) (a2 : Int32) (a3 : Int32) (M : sy_M), sy_eqw (jW_X12_logs) M0 M → sy_fr (jW_X12_logs) M0 (jfX12_logs_4 n a1 a2 a3 M) := by
  intro n
  induction n with
  | zero => intro a1 a2 a3 M e; exact sy_fr_none
  | succ n z4 => intro a1 a2 a3 M e; exact (sy_fr_ite (jzX12_logs_94   _ (sy_eqw_ua (sy_eqw_ua (sy_eqw_ua (sy_eqw_ua (sy_eqw_ua e 0 rfl) 0 rfl) 0 rfl) 0 rfl) 0 rfl)) ((sy_fr_cond ((sy_fr_cond (z4 _ _ _ _ (sy_eqw_ua e 0 rfl)))))))
theorem jzX12_logs {M0 : sy_M} : ∀ (a1 : Int32) (a2 : Int32) (M : sy_M), sy_eqw (jW_X12_logs) M0 M → sy_fr (jW_X12_logs) M0 (jfX12_logs a1 a2 M) := by
  intro a1 a2 M e
  exact jzX12_logs_4  6000 _ _ _ _ e
theorem jzoX12_logs (a1 : Int32) (a2 : Int32) (M : sy_M) : sy_fr (jW_X12_logs) M (jfX12_logs a1 a2 M) := jzX12_logs a1 a2 M sy_eqw_refl
def jW_X12_isDark : List (Nat × Option Nat) := [(122, none)]
theorem jzX12_isDark_168 {M0 : sy_M} {k40 : Int32 → Int32 → sy_M → sy_O} (z40 : ∀ (a1 : Int32) (a2 : Int32) (M : sy_M), sy_eqw (jW_X12_isDark) M0 M → sy_fr (jW_X12_isDark) M0 (k40 a1 a2 M)) : ∀ (a1 : Int32) (a2 : Int32) (M : sy_M), sy_eqw (jW_X12_isDark) M0 M → sy_fr (jW_X12_isDark) M0 (jfX12_isDark_168 k40 a1 a2 M) := by
  intro a1 a2 M e
  exact z40 _ _ _ e
theorem jzX12_isDark_152 {M0 : sy_M} {k40 : Int32 → Int32 → sy_M → sy_O} (z40 : ∀ (a1 : Int32) (a2 : Int32) (M : sy_M), sy_eqw (jW_X12_isDark) M0 M → sy_fr (jW_X12_isDark) M0 (k40 a1 a2 M)) : ∀ (a1 : Int32) (a2 : Int32) (a3 : Int32) (M : sy_M), sy_eqw (jW_X12_isDark) M0 M → sy_fr (jW_X12_isDark) M0 (jfX12_isDark_152 k40 a1 a2 a3 M) := by
  intro a1 a2 a3 M e
  exact (sy_fr_bi (sy_fr_up e (jzoX12_of _ _ _) (sy_subw_ix [] rfl)) (fun _ _ e1 => (sy_fr_ite (jzX12_isDark_168 z40 _ _ _ e1) ((sy_fr_bv (sy_fr_up e1 (jzoX12_logs _ _ _) (sy_subw_ix [0] rfl)) (fun _ e2 => jzX12_isDark_168 z40 _ _ _ e2))))))
theorem jzX12_isDark_82 {M0 : sy_M} {k40 : Int32 → Int32 → sy_M → sy_O} (z40 : ∀ (a1 : Int32) (a2 : Int32) (M : sy_M), sy_eqw (jW_X12_isDark) M0 M → sy_fr (jW_X12_isDark) M0 (k40 a1 a2 M)) : ∀ (a1 : Int32) (a2 : Int32) (a3 : Int32) (s0 : Int32) (s1 : Int32) (s2 : Int32) (M : sy_M), sy_eqw (jW_X12_isDark) M0 M → sy_fr (jW_X12_isDark) M0 (jfX12_isDark_82 k40 a1 a2 a3 s0 s1 s2 M) := by
  intro a1 a2 a3 s0 s1 s2 M e
  exact (sy_fr_bv (sy_fr_up e (jzoX12_lays _ _ _ _) (sy_subw_ix [0] rfl)) (fun _ e1 => (sy_fr_bi (sy_fr_up e1 (jzoX12_isOf _ _ _) (sy_subw_ix [] rfl)) (fun _ _ e2 => (sy_fr_ite (jzX12_isDark_168 z40 _ _ _ e2) ((sy_fr_bi (sy_fr_up e2 (jzoX12_of _ _ _) (sy_subw_ix [] rfl)) (fun _ _ e3 => (sy_fr_bi (sy_fr_up e3 (jzoX12_of _ _ _) (sy_subw_ix [] rfl)) (fun _ _ e4 => (sy_fr_ite ((sy_fr_bi (sy_fr_up e4 (jzoX12_of _ _ _) (sy_subw_ix [] rfl)) (fun _ _ e5 => (sy_fr_bi (sy_fr_up e5 (jzoX12_lesser _ _ _) (sy_subw_ix [] rfl)) (fun _ _ e6 => (sy_fr_bv (sy_fr_up e6 (jzoX12_lays _ _ _ _) (sy_subw_ix [0] rfl)) (fun _ e7 => (sy_fr_bi (sy_fr_up e7 (jzoX12_of _ _ _) (sy_subw_ix [] rfl)) (fun _ _ e8 => (sy_fr_bi (sy_fr_up e8 (jzoX12_of _ _ _) (sy_subw_ix [] rfl)) (fun _ _ e9 => (sy_fr_ite (jzX12_isDark_152 z40 _ _ _ _ e9) (jzX12_isDark_168 z40 _ _ _ e9))))))))))))) (jzX12_isDark_168 z40 _ _ _ e4))))))))))))
theorem jzX12_isDark_40 {M0 : sy_M} : ∀ n : Nat, ∀ (a1 : Int32) (a2 : Int32) (M : sy_M), sy_eqw (jW_X12_isDark) M0 M → sy_fr (jW_X12_isDark) M0 (jfX12_isDark_40 n a1 a2 M) := by
  intro n
  induction n with
  | zero => intro a1 a2 M e; exact sy_fr_none
  | succ n z40 => intro a1 a2 M e; exact (sy_fr_ite ((sy_fr_bi (sy_fr_up e (jzoX12_of _ _ _) (sy_subw_ix [] rfl)) (fun _ _ e1 => (sy_fr_bi (sy_fr_up e1 (jzoX12_isOf _ _ _) (sy_subw_ix [] rfl)) (fun _ _ e2 => (sy_fr_ite (jzX12_isDark_82 z40 _ _ _ _ _ _ _ e2) ((sy_fr_bi (sy_fr_up e2 (jzoX12_lesser _ _ _) (sy_subw_ix [] rfl)) (fun _ _ e3 => jzX12_isDark_82 z40 _ _ _ _ _ _ _ e3))))))))) (sy_fr_end e))
theorem jzX12_isDark_38 {M0 : sy_M} : ∀ (a1 : Int32) (M : sy_M), sy_eqw (jW_X12_isDark) M0 M → sy_fr (jW_X12_isDark) M0 (jfX12_isDark_38 a1 M) := by
  intro a1 M e
  exact jzX12_isDark_40  6000 _ _ _ e
theorem jzX12_isDark {M0 : sy_M} : ∀ (a1 : Int32) (M : sy_M), sy_eqw (jW_X12_isDark) M0 M → sy_fr (jW_X12_isDark) M0 (jfX12_isDark a1 M) := by
  intro a1 M e
  exact (sy_fr_bi (sy_fr_up e (jzoX12_lesser _ _ _) (sy_subw_ix [] rfl)) (fun _ _ e1 => (sy_fr_ite ((sy_fr_bv (sy_fr_up (sy_eqw_ua e1 0 rfl) (jzoX12_logs _ _ _) (sy_subw_ix [0] rfl)) (fun _ e2 => jzX12_isDark_38  _ _ e2))) (jzX12_isDark_38  _ _ (sy_eqw_ua e1 0 rfl)))))
theorem jzoX12_isDark (a1 : Int32) (M : sy_M) : sy_fr (jW_X12_isDark) M (jfX12_isDark a1 M) := jzX12_isDark a1 M sy_eqw_refl
def jW_X12_whoFeeds : List (Nat × Option Nat) := [(121, some 9), (121, some 10), (121, some 11), (121, some 12), (121, some 13), (121, some 15), (121, some 16), (121, some 17), (121, some 18), (122, none), (127, none)]
theorem jzX12_whoFeeds_94 {M0 : sy_M} {k7 : Int32 → Int32 → Int32 → Int32 → sy_M → sy_O} (z7 : ∀ (a1 : Int32) (a2 : Int32) (a3 : Int32) (a4 : Int32) (M : sy_M), sy_eqw (jW_X12_whoFeeds) M0 M → sy_fr (jW_X12_whoFeeds) M0 (k7 a1 a2 a3 a4 M)) : ∀ (a1 : Int32) (a2 : Int32) (a3 : Int32) (a4 : Int32) (M : sy_M), sy_eqw (jW_X12_whoFeeds) M0 M → sy_fr (jW_X12_whoFeeds) M0 (jfX12_whoFeeds_94 k7 a1 a2 a3 a4 M) := by
  intro a1 a2 a3 a4 M e
  exact z7 _ _ _ _ _ e
theorem jzX12_whoFeeds_86 {M0 : sy_M} {k7 : Int32 → Int32 → Int32 → Int32 → sy_M → sy_O} (z7 : ∀ (a1 : Int32) (a2 : Int32) (a3 : Int32) (a4 : Int32) (M : sy_M), sy_eqw (jW_X12_whoFeeds) M0 M → sy_fr (jW_X12_whoFeeds) M0 (k7 a1 a2 a3 a4 M)) : ∀ (a1 : Int32) (a4 : Int32) (M : sy_M), sy_eqw (jW_X12_whoFeeds) M0 M → sy_fr (jW_X12_whoFeeds) M0 (jfX12_whoFeeds_86 k7 a1 a4 M) := by
  intro a1 a4 M e
  exact jzX12_whoFeeds_94 z7 _ _ _ _ _ e
theorem jzX12_whoFeeds_83 {M0 : sy_M} {k7 : Int32 → Int32 → Int32 → Int32 → sy_M → sy_O} (z7 : ∀ (a1 : Int32) (a2 : Int32) (a3 : Int32) (a4 : Int32) (M : sy_M), sy_eqw (jW_X12_whoFeeds) M0 M → sy_fr (jW_X12_whoFeeds) M0 (k7 a1 a2 a3 a4 M)) : ∀ (a1 : Int32) (a2 : Int32) (a3 : Int32) (a4 : Int32) (M : sy_M), sy_eqw (jW_X12_whoFeeds) M0 M → sy_fr (jW_X12_whoFeeds) M0 (jfX12_whoFeeds_83 k7 a1 a2 a3 a4 M) := by
  intro a1 a2 a3 a4 M e
  exact jzX12_whoFeeds_94 z7 _ _ _ _ _ e
theorem jzX12_whoFeeds_7 {M0 : sy_M} : ∀ n : Nat, ∀ (a1 : Int32) (a2 : Int32) (a3 : Int32) (a4 : Int32) (M : sy_M), sy_eqw (jW_X12_whoFeeds) M0 M → sy_fr (jW_X12_whoFeeds) M0 (jfX12_whoFeeds_7 n a1 a2 a3 a4 M) := by
  intro n
  induction n with
  | zero => intro a1 a2 a3 a4 M e; exact sy_fr_none
  | succ n z7 => intro a1 a2 a3 a4 M e; exact (sy_fr_ite ((sy_fr_bi (sy_fr_up e (jzoX12_isOf _ _ _) (sy_subw_ix [] rfl)) (fun _ _ e1 => (sy_fr_ite (jzX12_whoFeeds_94 z7 _ _ _ _ _ e1) ((sy_fr_bi (sy_fr_up e1 (jzoX12_of _ _ _) (sy_subw_ix [] rfl)) (fun _ _ e2 => (sy_fr_ite (jzX12_whoFeeds_94 z7 _ _ _ _ _ e2) ((sy_fr_bi (sy_fr_up e2 (jzoX12_of _ _ _) (sy_subw_ix [] rfl)) (fun _ _ e3 => (sy_fr_ite ((sy_fr_bv (sy_fr_up e3 (jzoX12_asks _ _) (sy_subw_ix [0, 1, 2, 3, 4, 5, 6, 7, 8, 9, 10] rfl)) (fun _ e4 => (sy_fr_ite ((sy_fr_ite (jzX12_whoFeeds_86 z7 _ _ _ e4) ((sy_fr_ite (jzX12_whoFeeds_86 z7 _ _ _ e4) (jzX12_whoFeeds_83 z7 _ _ _ _ _ e4))))) (jzX12_whoFeeds_94 z7 _ _ _ _ _ e4))))) (jzX12_whoFeeds_94 z7 _ _ _ _ _ e3))))))))))))) (sy_fr_end e))
theorem jzX12_whoFeeds {M0 : sy_M} : ∀ (a1 : Int32) (M : sy_M), sy_eqw (jW_X12_whoFeeds) M0 M → sy_fr (jW_X12_whoFeeds) M0 (jfX12_whoFeeds a1 M) := by
  intro a1 M e
  exact jzX12_whoFeeds_7  6000 _ _ _ _ _ e
theorem jzoX12_whoFeeds (a1 : Int32) (M : sy_M) : sy_fr (jW_X12_whoFeeds) M (jfX12_whoFeeds a1 M) := jzX12_whoFeeds a1 M sy_eqw_refl
def jW_X12_feeds : List (Nat × Option Nat) := [(121, some 20), (121, some 21), (122, none)]
theorem jzX12_feeds_107 {M0 : sy_M} : ∀ (a1 : Int32) (M : sy_M), sy_eqw (jW_X12_feeds) M0 M → sy_fr (jW_X12_feeds) M0 (jfX12_feeds_107 a1 M) := by
  intro a1 M e
  exact (sy_fr_bv (sy_fr_up (sy_eqw_uf e 0 rfl) (jzoX12_logs _ _ _) (sy_subw_ix [2] rfl)) (fun _ e1 => sy_fr_end e1))
theorem jzX12_feeds_86 {M0 : sy_M} : ∀ (a1 : Int32) (M : sy_M), sy_eqw (jW_X12_feeds) M0 M → sy_fr (jW_X12_feeds) M0 (jfX12_feeds_86 a1 M) := by
  intro a1 M e
  exact (sy_fr_ite (jzX12_feeds_107  _ _ (sy_eqw_uf (sy_eqw_ua e 2 rfl) 1 rfl)) (jzX12_feeds_107  _ _ (sy_eqw_ua e 2 rfl)))
theorem jzX12_feeds {M0 : sy_M} : ∀ (a1 : Int32) (M : sy_M), sy_eqw (jW_X12_feeds) M0 M → sy_fr (jW_X12_feeds) M0 (jfX12_feeds a1 M) := by
  intro a1 M e
  exact (sy_fr_bi (sy_fr_up e (jzoX12_of _ _ _) (sy_subw_ix [] rfl)) (fun _ _ e1 => (sy_fr_bv (sy_fr_up e1 (jzoX12_lays _ _ _ _) (sy_subw_ix [2] rfl)) (fun _ e2 => (sy_fr_bi (sy_fr_up e2 (jzoX12_of _ _ _) (sy_subw_ix [] rfl)) (fun _ _ e3 => (sy_fr_bi (sy_fr_up e3 (jzoX12_lesser _ _ _) (sy_subw_ix [] rfl)) (fun _ _ e4 => (sy_fr_bv (sy_fr_up e4 (jzoX12_lays _ _ _ _) (sy_subw_ix [2] rfl)) (fun _ e5 => (sy_fr_bi (sy_fr_up e5 (jzoX12_lesser _ _ _) (sy_subw_ix [] rfl)) (fun _ _ e6 => (sy_fr_bi (sy_fr_up (sy_eqw_ua e6 2 rfl) (jzoX12_lesser _ _ _) (sy_subw_ix [] rfl)) (fun _ _ e7 => jzX12_feeds_86  _ _ (sy_eqw_ua e7 2 rfl)))))))))))))))
theorem jzoX12_feeds (a1 : Int32) (M : sy_M) : sy_fr (jW_X12_feeds) M (jfX12_feeds a1 M) := jzX12_feeds a1 M sy_eqw_refl
def jW_X12_isLit : List (Nat × Option Nat) := [(122, none)]
theorem jzX12_isLit_21 {M0 : sy_M} : ∀ n : Nat, ∀ (a2 : Int32) (M : sy_M), sy_eqw (jW_X12_isLit) M0 M → sy_fr (jW_X12_isLit) M0 (jfX12_isLit_21 n a2 M) := by
  intro n
  induction n with
  | zero => intro a2 M e; exact sy_fr_none
  | succ n z21 => intro a2 M e; exact (sy_fr_ite ((sy_fr_bv (sy_fr_up e (jzoX12_lays _ _ _ _) (sy_subw_ix [0] rfl)) (fun _ e1 => z21 _ _ e1))) (sy_fr_end e))
theorem jzX12_isLit {M0 : sy_M} : ∀ (a1 : Int32) (M : sy_M), sy_eqw (jW_X12_isLit) M0 M → sy_fr (jW_X12_isLit) M0 (jfX12_isLit a1 M) := by
  intro a1 M e
  exact jzX12_isLit_21  6000 _ _ (sy_eqw_ua (sy_eqw_ua e 0 rfl) 0 rfl)
theorem jzoX12_isLit (a1 : Int32) (M : sy_M) : sy_fr (jW_X12_isLit) M (jfX12_isLit a1 M) := jzX12_isLit a1 M sy_eqw_refl
def jW_X12_draw : List (Nat × Option Nat) := [(122, none)]
theorem jzX12_draw {M0 : sy_M} : ∀ (a1 : Int32) (M : sy_M), sy_eqw (jW_X12_draw) M0 M → sy_fr (jW_X12_draw) M0 (jfX12_draw a1 M) := by
  intro a1 M e
  exact (sy_fr_ite sy_fr_none (sy_fr_end (sy_eqw_ua e 0 rfl)))
theorem jzoX12_draw (a1 : Int32) (M : sy_M) : sy_fr (jW_X12_draw) M (jfX12_draw a1 M) := jzX12_draw a1 M sy_eqw_refl
def jW_X12_passes : List (Nat × Option Nat) := [(121, some 9), (121, some 10), (121, some 11), (121, some 12), (121, some 13), (121, some 15), (121, some 16), (121, some 17), (121, some 18), (121, some 20), (121, some 21), (122, none), (127, none)]
theorem jzX12_passes_107 {M0 : sy_M} : ∀ (a4 : Int32) (M : sy_M), sy_eqw (jW_X12_passes) M0 M → sy_fr (jW_X12_passes) M0 (jfX12_passes_107 a4 M) := by
  intro a4 M e
  exact (sy_fr_ite ((sy_fr_bi (sy_fr_up (sy_eqw_ua (sy_eqw_ua e 11 rfl) 11 rfl) (jzoX12_lesser _ _ _) (sy_subw_ix [] rfl)) (fun _ _ e1 => (sy_fr_cond (sy_fr_end (sy_eqw_ua e1 11 rfl)))))) ((sy_fr_cond (sy_fr_end (sy_eqw_ua e 11 rfl)))))
theorem jzX12_passes_93 {M0 : sy_M} : ∀ (a4 : Int32) (s0 : Int32) (M : sy_M), sy_eqw (jW_X12_passes) M0 M → sy_fr (jW_X12_passes) M0 (jfX12_passes_93 a4 s0 M) := by
  intro a4 s0 M e
  exact (sy_fr_ite (jzX12_passes_107  _ _ e) ((sy_fr_bv (sy_fr_up e (jzoX12_feeds _ _) (sy_subw_ix [9, 10, 11] rfl)) (fun _ e1 => jzX12_passes_107  _ _ e1))))
theorem jzX12_passes_57 {M0 : sy_M} : ∀ (a2 : Int32) (a3 : Int32) (s0 : Int32) (M : sy_M), sy_eqw (jW_X12_passes) M0 M → sy_fr (jW_X12_passes) M0 (jfX12_passes_57 a2 a3 s0 M) := by
  intro a2 a3 s0 M e
  exact (sy_fr_ite ((sy_fr_bv (sy_fr_up e (jzoX12_isLit _ _) (sy_subw_ix [11] rfl)) (fun _ e3 => jzX12_passes_107  _ _ e3))) ((sy_fr_bv (sy_fr_up e (jzoX12_isDark _ _) (sy_subw_ix [11] rfl)) (fun _ e1 => (sy_fr_ite ((sy_fr_bi (sy_fr_up e1 (jzoX12_whoFeeds _ _) (sy_subw_ix [0, 1, 2, 3, 4, 5, 6, 7, 8, 11, 12] rfl)) (fun _ _ e2 => jzX12_passes_93  _ _ _ e2))) (jzX12_passes_93  _ _ _ e1))))))
theorem jzX12_passes_41 {M0 : sy_M} : ∀ (a2 : Int32) (a3 : Int32) (M : sy_M), sy_eqw (jW_X12_passes) M0 M → sy_fr (jW_X12_passes) M0 (jfX12_passes_41 a2 a3 M) := by
  intro a2 a3 M e
  exact (sy_fr_ite (jzX12_passes_57  _ _ _ _ e) (jzX12_passes_57  _ _ _ _ e))
theorem jzX12_passes {M0 : sy_M} : ∀ (a1 : Int32) (M : sy_M), sy_eqw (jW_X12_passes) M0 M → sy_fr (jW_X12_passes) M0 (jfX12_passes a1 M) := by
  intro a1 M e
  exact (sy_fr_bi (sy_fr_up e (jzoX12_homeIn _ _) (sy_subw_ix [] rfl)) (fun _ _ e1 => (sy_fr_bi (sy_fr_up e1 (jzoX12_burnsOf _ _) (sy_subw_ix [] rfl)) (fun _ _ e2 => (sy_fr_ite (jzX12_passes_41  _ _ _ e2) ((sy_fr_bi (sy_fr_up e2 (jzoX12_draw _ _) (sy_subw_ix [11] rfl)) (fun _ _ e3 => (sy_fr_ite (jzX12_passes_41  _ _ _ e3) (jzX12_passes_41  _ _ _ e3))))))))))
theorem jzoX12_passes (a1 : Int32) (M : sy_M) : sy_fr (jW_X12_passes) M (jfX12_passes a1 M) := jzX12_passes a1 M sy_eqw_refl
def jW_X12_goes : List (Nat × Option Nat) := [(121, some 9), (121, some 10), (121, some 11), (121, some 12), (121, some 13), (121, some 15), (121, some 16), (121, some 17), (121, some 18), (121, some 20), (121, some 21), (122, none), (127, none)]
theorem jzX12_goes_35 {M0 : sy_M} {k15 : Int32 → Int32 → Int32 → Int32 → sy_M → sy_O} (z15 : ∀ (a1 : Int32) (a2 : Int32) (a3 : Int32) (a4 : Int32) (M : sy_M), sy_eqw (jW_X12_goes) M0 M → sy_fr (jW_X12_goes) M0 (k15 a1 a2 a3 a4 M)) : ∀ (a1 : Int32) (a2 : Int32) (a4 : Int32) (s0 : Int32) (s1 : Int32) (M : sy_M), sy_eqw (jW_X12_goes) M0 M → sy_fr (jW_X12_goes) M0 (jfX12_goes_35 k15 a1 a2 a4 s0 s1 M) := by
  intro a1 a2 a4 s0 s1 M e
  exact z15 _ _ _ _ _ e
theorem jzX12_goes_15 {M0 : sy_M} : ∀ n : Nat, ∀ (a1 : Int32) (a2 : Int32) (a3 : Int32) (a4 : Int32) (M : sy_M), sy_eqw (jW_X12_goes) M0 M → sy_fr (jW_X12_goes) M0 (jfX12_goes_15 n a1 a2 a3 a4 M) := by
  intro n
  induction n with
  | zero => intro a1 a2 a3 a4 M e; exact sy_fr_none
  | succ n z15 => intro a1 a2 a3 a4 M e; exact (sy_fr_ite ((sy_fr_bi (sy_fr_up e (jzoX12_passes _ _) (sy_subw_ix [0, 1, 2, 3, 4, 5, 6, 7, 8, 9, 10, 11, 12] rfl)) (fun _ _ e1 => (sy_fr_ite (jzX12_goes_35 z15 _ _ _ _ _ _ e1) (jzX12_goes_35 z15 _ _ _ _ _ _ e1))))) (sy_fr_end e))
theorem jzX12_goes {M0 : sy_M} : ∀ (a1 : Int32) (a2 : Int32) (M : sy_M), sy_eqw (jW_X12_goes) M0 M → sy_fr (jW_X12_goes) M0 (jfX12_goes a1 a2 M) := by
  intro a1 a2 M e
  exact jzX12_goes_15  6000 _ _ _ _ _ (sy_eqw_uf (sy_eqw_uf e 9 rfl) 10 rfl)
theorem jzoX12_goes (a1 : Int32) (a2 : Int32) (M : sy_M) : sy_fr (jW_X12_goes) M (jfX12_goes a1 a2 M) := jzX12_goes a1 a2 M sy_eqw_refl
def jW_X12_grieves : List (Nat × Option Nat) := [(121, some 9), (121, some 10), (121, some 11), (121, some 12), (121, some 13), (121, some 15), (121, some 16), (121, some 17), (121, some 18), (121, some 20), (121, some 21), (122, none), (124, none), (127, none), (129, none)]
theorem jzX12_grieves_56 {M0 : sy_M} : ∀ n : Nat, ∀ (a2 : Int32) (M : sy_M), sy_eqw (jW_X12_grieves) M0 M → sy_fr (jW_X12_grieves) M0 (jfX12_grieves_56 n a2 M) := by
  intro n
  induction n with
  | zero => intro a2 M e; exact sy_fr_none
  | succ n z56 => intro a2 M e; exact (sy_fr_ite ((sy_fr_cond ((sy_fr_bi (sy_fr_up e (jzoX12_of _ _ _) (sy_subw_ix [] rfl)) (fun _ _ e2 => (sy_fr_bi (sy_fr_up e2 (jzoX12_of _ _ _) (sy_subw_ix [] rfl)) (fun _ _ e3 => (sy_fr_cond (z56 _ _ (sy_eqw_ua e3 14 rfl)))))))))) ((sy_fr_bv (sy_fr_up e (jzoX12_comesBack  _) (sy_subw_ix [11] rfl)) (fun _ e1 => sy_fr_end e1))))
theorem jzX12_grieves_2 {M0 : sy_M} : ∀ n : Nat, ∀ (a1 : Int32) (M : sy_M), sy_eqw (jW_X12_grieves) M0 M → sy_fr (jW_X12_grieves) M0 (jfX12_grieves_2 n a1 M) := by
  intro n
  induction n with
  | zero => intro a1 M e; exact sy_fr_none
  | succ n z2 => intro a1 M e; exact (sy_fr_ite ((sy_fr_bi (sy_fr_up e (jzoX12_of _ _ _) (sy_subw_ix [] rfl)) (fun _ _ e3 => (sy_fr_bi (sy_fr_up e3 (jzoX12_of _ _ _) (sy_subw_ix [] rfl)) (fun _ _ e4 => (sy_fr_cond (z2 _ _ (sy_eqw_ua e4 14 rfl)))))))) ((sy_fr_bv (sy_fr_up e (jzoX12_putsAside  _) (sy_subw_ix [12] rfl)) (fun _ e1 => (sy_fr_bi (sy_fr_up e1 (jzoX12_goes _ _ _) (sy_subw_ix [0, 1, 2, 3, 4, 5, 6, 7, 8, 9, 10, 11, 13] rfl)) (fun _ _ e2 => jzX12_grieves_56  6000 _ _ e2))))))
theorem jzX12_grieves {M0 : sy_M} : ∀ (M : sy_M), sy_eqw (jW_X12_grieves) M0 M → sy_fr (jW_X12_grieves) M0 (jfX12_grieves M) := by
  intro  M e
  exact jzX12_grieves_2  6000 _ _ e
theorem jzoX12_grieves (M : sy_M) : sy_fr (jW_X12_grieves) M (jfX12_grieves M) := jzX12_grieves  M sy_eqw_refl
def jW_X12_griefOf : List (Nat × Option Nat) := [(121, some 9), (121, some 10), (121, some 11), (121, some 12), (121, some 13), (121, some 15), (121, some 16), (121, some 17), (121, some 18), (121, some 20), (121, some 21), (122, none), (124, none), (127, none), (129, none)]
theorem jzX12_griefOf {M0 : sy_M} : ∀ (a1 : Int32) (a2 : Int32) (M : sy_M), sy_eqw (jW_X12_griefOf) M0 M → sy_fr (jW_X12_griefOf) M0 (jfX12_griefOf a1 a2 M) := by
  intro a1 a2 M e
  exact (sy_fr_bi (sy_fr_up e (jzoX12_of _ _ _) (sy_subw_ix [] rfl)) (fun _ _ e1 => (sy_fr_bv (sy_fr_up e1 (jzoX12_lays _ _ _ _) (sy_subw_ix [11] rfl)) (fun _ e2 => (sy_fr_bv (sy_fr_up e2 (jzoX12_grieves  _) (sy_subw_ix [0, 1, 2, 3, 4, 5, 6, 7, 8, 9, 10, 11, 12, 13, 14] rfl)) (fun _ e3 => (sy_fr_bv (sy_fr_up e3 (jzoX12_lays _ _ _ _) (sy_subw_ix [11] rfl)) (fun _ e4 => (sy_fr_cond (sy_fr_end e4))))))))))
theorem jzoX12_griefOf (a1 : Int32) (a2 : Int32) (M : sy_M) : sy_fr (jW_X12_griefOf) M (jfX12_griefOf a1 a2 M) := jzX12_griefOf a1 a2 M sy_eqw_refl
def jW_X12_bestOf : List (Nat × Option Nat) := [(121, some 9), (121, some 10), (121, some 11), (121, some 12), (121, some 13), (121, some 15), (121, some 16), (121, some 17), (121, some 18), (121, some 20), (121, some 21), (122, none), (124, none), (127, none), (129, none)]
theorem jzX12_bestOf_40 {M0 : sy_M} {k9 : Int32 → Int32 → Int32 → Int32 → sy_M → sy_O} (z9 : ∀ (a1 : Int32) (a2 : Int32) (a3 : Int32) (a4 : Int32) (M : sy_M), sy_eqw (jW_X12_bestOf) M0 M → sy_fr (jW_X12_bestOf) M0 (k9 a1 a2 a3 a4 M)) : ∀ (a1 : Int32) (a2 : Int32) (a3 : Int32) (a4 : Int32) (M : sy_M), sy_eqw (jW_X12_bestOf) M0 M → sy_fr (jW_X12_bestOf) M0 (jfX12_bestOf_40 k9 a1 a2 a3 a4 M) := by
  intro a1 a2 a3 a4 M e
  exact z9 _ _ _ _ _ e
theorem jzX12_bestOf_9 {M0 : sy_M} : ∀ n : Nat, ∀ (a1 : Int32) (a2 : Int32) (a3 : Int32) (a4 : Int32) (M : sy_M), sy_eqw (jW_X12_bestOf) M0 M → sy_fr (jW_X12_bestOf) M0 (jfX12_bestOf_9 n a1 a2 a3 a4 M) := by
  intro n
  induction n with
  | zero => intro a1 a2 a3 a4 M e; exact sy_fr_none
  | succ n z9 => intro a1 a2 a3 a4 M e; exact (sy_fr_ite (sy_fr_end e) ((sy_fr_bi (sy_fr_up e (jzoX12_griefOf _ _ _) (sy_subw_ix [0, 1, 2, 3, 4, 5, 6, 7, 8, 9, 10, 11, 12, 13, 14] rfl)) (fun _ _ e1 => (sy_fr_ite (jzX12_bestOf_40 z9 _ _ _ _ _ e1) (jzX12_bestOf_40 z9 _ _ _ _ _ e1))))))
theorem jzX12_bestOf {M0 : sy_M} : ∀ (a1 : Int32) (M : sy_M), sy_eqw (jW_X12_bestOf) M0 M → sy_fr (jW_X12_bestOf) M0 (jfX12_bestOf a1 M) := by
  intro a1 M e
  exact jzX12_bestOf_9  6000 _ _ _ _ _ e
theorem jzoX12_bestOf (a1 : Int32) (M : sy_M) : sy_fr (jW_X12_bestOf) M (jfX12_bestOf a1 M) := jzX12_bestOf a1 M sy_eqw_refl
def jW_X12_hoursOf : List (Nat × Option Nat) := []
theorem jzX12_hoursOf_25 {M0 : sy_M} {k4 : Int32 → Int32 → Int32 → sy_M → sy_O} (z4 : ∀ (a1 : Int32) (a2 : Int32) (a3 : Int32) (M : sy_M), sy_eqw (jW_X12_hoursOf) M0 M → sy_fr (jW_X12_hoursOf) M0 (k4 a1 a2 a3 M)) : ∀ (a1 : Int32) (a3 : Int32) (s0 : Int32) (s1 : Int32) (M : sy_M), sy_eqw (jW_X12_hoursOf) M0 M → sy_fr (jW_X12_hoursOf) M0 (jfX12_hoursOf_25 k4 a1 a3 s0 s1 M) := by
  intro a1 a3 s0 s1 M e
  exact z4 _ _ _ _ e
theorem jzX12_hoursOf_4 {M0 : sy_M} : ∀ n : Nat, ∀ (a1 : Int32) (a2 : Int32) (a3 : Int32) (M : sy_M), sy_eqw (jW_X12_hoursOf) M0 M → sy_fr (jW_X12_hoursOf) M0 (jfX12_hoursOf_4 n a1 a2 a3 M) := by
  intro n
  induction n with
  | zero => intro a1 a2 a3 M e; exact sy_fr_none
  | succ n z4 => intro a1 a2 a3 M e; exact (sy_fr_ite ((sy_fr_bi (sy_fr_up e (jzoX12_atHome _ _ _) (sy_subw_ix [] rfl)) (fun _ _ e1 => (sy_fr_ite (jzX12_hoursOf_25 z4 _ _ _ _ _ e1) (jzX12_hoursOf_25 z4 _ _ _ _ _ e1))))) (sy_fr_end e))
theorem jzX12_hoursOf {M0 : sy_M} : ∀ (a1 : Int32) (M : sy_M), sy_eqw (jW_X12_hoursOf) M0 M → sy_fr (jW_X12_hoursOf) M0 (jfX12_hoursOf a1 M) := by
  intro a1 M e
  exact jzX12_hoursOf_4  6000 _ _ _ _ e
theorem jzoX12_hoursOf (a1 : Int32) (M : sy_M) : sy_fr (jW_X12_hoursOf) M (jfX12_hoursOf a1 M) := jzX12_hoursOf a1 M sy_eqw_refl
def jW_X12_metered : List (Nat × Option Nat) := []
theorem jzX12_metered {M0 : sy_M} : ∀ (a1 : Int32) (M : sy_M), sy_eqw (jW_X12_metered) M0 M → sy_fr (jW_X12_metered) M0 (jfX12_metered a1 M) := by
  intro a1 M e
  exact (sy_fr_bi (sy_fr_up e (jzoX12_of _ _ _) (sy_subw_ix [] rfl)) (fun _ _ e1 => (sy_fr_bi (sy_fr_up e1 (jzoX12_hoursOf _ _) (sy_subw_ix [] rfl)) (fun _ _ e2 => sy_fr_end e2))))
theorem jzoX12_metered (a1 : Int32) (M : sy_M) : sy_fr (jW_X12_metered) M (jfX12_metered a1 M) := jzX12_metered a1 M sy_eqw_refl
def jW_X12_all : List (Nat × Option Nat) := []
theorem jzX12_all {M0 : sy_M} : ∀ (M : sy_M), sy_eqw (jW_X12_all) M0 M → sy_fr (jW_X12_all) M0 (jfX12_all M) := by
  intro  M e
  exact sy_fr_end e
theorem jzoX12_all (M : sy_M) : sy_fr (jW_X12_all) M (jfX12_all M) := jzX12_all  M sy_eqw_refl
def jW_X12_fedOf : List (Nat × Option Nat) := []
theorem jzX12_fedOf_34 {M0 : sy_M} {k4 : Int32 → Int32 → Int32 → sy_M → sy_O} (z4 : ∀ (a1 : Int32) (a2 : Int32) (a3 : Int32) (M : sy_M), sy_eqw (jW_X12_fedOf) M0 M → sy_fr (jW_X12_fedOf) M0 (k4 a1 a2 a3 M)) : ∀ (a1 : Int32) (a3 : Int32) (s0 : Int32) (s1 : Int32) (M : sy_M), sy_eqw (jW_X12_fedOf) M0 M → sy_fr (jW_X12_fedOf) M0 (jfX12_fedOf_34 k4 a1 a3 s0 s1 M) := by
  intro a1 a3 s0 s1 M e
  exact z4 _ _ _ _ e
theorem jzX12_fedOf_4 {M0 : sy_M} : ∀ n : Nat, ∀ (a1 : Int32) (a2 : Int32) (a3 : Int32) (M : sy_M), sy_eqw (jW_X12_fedOf) M0 M → sy_fr (jW_X12_fedOf) M0 (jfX12_fedOf_4 n a1 a2 a3 M) := by
  intro n
  induction n with
  | zero => intro a1 a2 a3 M e; exact sy_fr_none
  | succ n z4 => intro a1 a2 a3 M e; exact (sy_fr_ite ((sy_fr_bi (sy_fr_up e (jzoX12_isOf _ _ _) (sy_subw_ix [] rfl)) (fun _ _ e1 => (sy_fr_ite (jzX12_fedOf_34 z4 _ _ _ _ _ e1) ((sy_fr_bi (sy_fr_up e1 (jzoX12_of _ _ _) (sy_subw_ix [] rfl)) (fun _ _ e2 => jzX12_fedOf_34 z4 _ _ _ _ _ e2))))))) (sy_fr_end e))
theorem jzX12_fedOf {M0 : sy_M} : ∀ (a1 : Int32) (M : sy_M), sy_eqw (jW_X12_fedOf) M0 M → sy_fr (jW_X12_fedOf) M0 (jfX12_fedOf a1 M) := by
  intro a1 M e
  exact jzX12_fedOf_4  6000 _ _ _ _ e
theorem jzoX12_fedOf (a1 : Int32) (M : sy_M) : sy_fr (jW_X12_fedOf) M (jfX12_fedOf a1 M) := jzX12_fedOf a1 M sy_eqw_refl
def jW_X12_lodger : List (Nat × Option Nat) := [(121, some 0), (121, some 9), (121, some 10), (121, some 11), (121, some 12), (121, some 13), (121, some 15), (121, some 16), (121, some 17), (121, some 18), (121, some 20), (121, some 21), (122, none), (124, none), (127, none), (129, none)]
theorem jzX12_lodger_28 {M0 : sy_M} : ∀ (a1 : Int32) (a2 : Int32) (s0 : Int32) (M : sy_M), sy_eqw (jW_X12_lodger) M0 M → sy_fr (jW_X12_lodger) M0 (jfX12_lodger_28 a1 a2 s0 M) := by
  intro a1 a2 s0 M e
  exact (sy_fr_ite (sy_fr_end (sy_eqw_uf e 0 rfl)) ((sy_fr_ite ((sy_fr_bi (sy_fr_up (sy_eqw_uf e 0 rfl) (jzoX12_of _ _ _) (sy_subw_ix [] rfl)) (fun _ _ e9 => sy_fr_end e9))) ((sy_fr_bv (sy_fr_up (sy_eqw_uf e 0 rfl) (jzoX12_asks _ _) (sy_subw_ix [1, 2, 3, 4, 5, 6, 7, 8, 9, 12, 14] rfl)) (fun _ e1 => (sy_fr_ite (sy_fr_end e1) ((sy_fr_ite ((sy_fr_ite (sy_fr_end e1) (sy_fr_end e1))) ((sy_fr_ite ((sy_fr_bi (sy_fr_up e1 (jzoX12_all  _) (sy_subw_ix [] rfl)) (fun _ _ e4 => (sy_fr_bi (sy_fr_up e4 (jzoX12_fedOf _ _) (sy_subw_ix [] rfl)) (fun _ _ e5 => (sy_fr_ite (sy_fr_end e5) ((sy_fr_bi (sy_fr_up e5 (jzoX12_of _ _ _) (sy_subw_ix [] rfl)) (fun _ _ e6 => (sy_fr_bi (sy_fr_up e6 (jzoX12_all  _) (sy_subw_ix [] rfl)) (fun _ _ e7 => (sy_fr_bi (sy_fr_up e7 (jzoX12_fedOf _ _) (sy_subw_ix [] rfl)) (fun _ _ e8 => (sy_fr_ite sy_fr_none (sy_fr_end e8))))))))))))))) ((sy_fr_ite ((sy_fr_bi (sy_fr_up e1 (jzoX12_metered _ _) (sy_subw_ix [] rfl)) (fun _ _ e3 => sy_fr_end e3))) ((sy_fr_bi (sy_fr_up e1 (jzoX12_bestOf _ _) (sy_subw_ix [1, 2, 3, 4, 5, 6, 7, 8, 9, 10, 11, 12, 13, 14, 15] rfl)) (fun _ _ e2 => sy_fr_end e2))))))))))))))))
theorem jzX12_lodger {M0 : sy_M} : ∀ (a1 : Int32) (a2 : Int32) (M : sy_M), sy_eqw (jW_X12_lodger) M0 M → sy_fr (jW_X12_lodger) M0 (jfX12_lodger a1 a2 M) := by
  intro a1 a2 M e
  exact (sy_fr_bi (sy_fr_up e (jzoX12_isLodger _ _) (sy_subw_ix [] rfl)) (fun _ _ e1 => (sy_fr_ite (jzX12_lodger_28  _ _ _ _ e1) ((sy_fr_bi (sy_fr_up e1 (jzoX12_isIn _ _ _ _) (sy_subw_ix [] rfl)) (fun _ _ e2 => (sy_fr_ite (jzX12_lodger_28  _ _ _ _ e2) (jzX12_lodger_28  _ _ _ _ e2))))))))
theorem jzoX12_lodger (a1 : Int32) (a2 : Int32) (M : sy_M) : sy_fr (jW_X12_lodger) M (jfX12_lodger a1 a2 M) := jzX12_lodger a1 a2 M sy_eqw_refl
def jW_X11_checkTwo : List (Nat × Option Nat) := [(133, some 0)]
theorem jzX11_checkTwo {M0 : sy_M} : ∀ (a1 : Int32) (a2 : Int32) (M : sy_M), sy_eqw (jW_X11_checkTwo) M0 M → sy_fr (jW_X11_checkTwo) M0 (jfX11_checkTwo a1 a2 M) := by
  intro a1 a2 M e
  exact (sy_fr_bv (sy_fr_up e (jzoX11_checkLodger _ _) (sy_subw_ix [0] rfl)) (fun _ e1 => (sy_fr_bv (sy_fr_up e1 (jzoX11_checkLodger _ _) (sy_subw_ix [0] rfl)) (fun _ e2 => (sy_fr_ite ((sy_fr_cond (sy_fr_end (sy_eqw_uf e2 0 rfl)))) (sy_fr_end e2))))))
theorem jzoX11_checkTwo (a1 : Int32) (a2 : Int32) (M : sy_M) : sy_fr (jW_X11_checkTwo) M (jfX11_checkTwo a1 a2 M) := jzX11_checkTwo a1 a2 M sy_eqw_refl
def jW_X2_owed (r0 : Nat) : List (Nat × Option Nat) := []
theorem jzX2_owed {r0 : Nat} {M0 : sy_M} : ∀ (a1 : Int32) (a2 : Int32) (M : sy_M), sy_eqw (jW_X2_owed r0) M0 M → sy_fr (jW_X2_owed r0) M0 (jfX2_owed r0 a1 a2 M) := by
  intro a1 a2 M e
  exact (sy_fr_bi (sy_fr_up e (jzoX2_isDebt _ _ _) (sy_subw_ix [] rfl)) (fun _ _ e1 => (sy_fr_ite (sy_fr_end e1) ((sy_fr_cond ((sy_fr_cond (sy_fr_end e1))))))))
theorem jzoX2_owed (r0 : Nat) (a1 : Int32) (a2 : Int32) (M : sy_M) : sy_fr (jW_X2_owed r0) M (jfX2_owed r0 a1 a2 M) := jzX2_owed a1 a2 M sy_eqw_refl
def jW_X11_owes : List (Nat × Option Nat) := [(133, some 0)]
theorem jzX11_owes {M0 : sy_M} : ∀ (a1 : Int32) (a2 : Int32) (M : sy_M), sy_eqw (jW_X11_owes) M0 M → sy_fr (jW_X11_owes) M0 (jfX11_owes a1 a2 M) := by
  intro a1 a2 M e
  exact (sy_fr_bv (sy_fr_up e (jzoX11_checkTwo _ _ _) (sy_subw_ix [0] rfl)) (fun _ e1 => (sy_fr_bi (sy_fr_up e1 (jzoX2_owed _ _ _ _) (sy_subw_ix [] rfl)) (fun _ _ e2 => sy_fr_end e2))))
theorem jzoX11_owes (a1 : Int32) (a2 : Int32) (M : sy_M) : sy_fr (jW_X11_owes) M (jfX11_owes a1 a2 M) := jzX11_owes a1 a2 M sy_eqw_refl
def jW_L_owes : List (Nat × Option Nat) := [(132, none), (133, some 0)]
theorem jzL_owes {M0 : sy_M} : ∀ (a1 : Int32) (a2 : Int32) (M : sy_M), sy_eqw (jW_L_owes) M0 M → sy_fr (jW_L_owes) M0 (jfL_owes a1 a2 M) := by
  intro a1 a2 M e
  exact (sy_fr_hi (sy_fr_up e (jzoX11_owes _ _ _) (sy_subw_ix [1] rfl)) (fun _ _ e1 => sy_fr_end (sy_eqw_wl e1 0 rfl)) (fun _ _ e1 => (sy_fr_ite (sy_fr_end e1) (sy_fr_ite (sy_fr_end e1) sy_fr_none))))
theorem jzoL_owes (a1 : Int32) (a2 : Int32) (M : sy_M) : sy_fr (jW_L_owes) M (jfL_owes a1 a2 M) := jzL_owes a1 a2 M sy_eqw_refl
def jW_X12_areTwo : List (Nat × Option Nat) := [(121, some 0)]
theorem jzX12_areTwo_17 {M0 : sy_M} : ∀ (M : sy_M), sy_eqw (jW_X12_areTwo) M0 M → sy_fr (jW_X12_areTwo) M0 (jfX12_areTwo_17 M) := by
  intro  M e
  exact sy_fr_end (sy_eqw_uf e 0 rfl)
theorem jzX12_areTwo {M0 : sy_M} : ∀ (a1 : Int32) (a2 : Int32) (M : sy_M), sy_eqw (jW_X12_areTwo) M0 M → sy_fr (jW_X12_areTwo) M0 (jfX12_areTwo a1 a2 M) := by
  intro a1 a2 M e
  exact (sy_fr_bi (sy_fr_up e (jzoX12_isLodger _ _) (sy_subw_ix [] rfl)) (fun _ _ e1 => (sy_fr_ite (jzX12_areTwo_17   _ e1) ((sy_fr_bi (sy_fr_up e1 (jzoX12_isLodger _ _) (sy_subw_ix [] rfl)) (fun _ _ e2 => (sy_fr_ite (jzX12_areTwo_17   _ e2) ((sy_fr_ite (sy_fr_end (sy_eqw_uf e2 0 rfl)) (sy_fr_end (sy_eqw_uf e2 0 rfl)))))))))))
theorem jzoX12_areTwo (a1 : Int32) (a2 : Int32) (M : sy_M) : sy_fr (jW_X12_areTwo) M (jfX12_areTwo a1 a2 M) := jzX12_areTwo a1 a2 M sy_eqw_refl
def jW_X12_owed : List (Nat × Option Nat) := []
theorem jzX12_owed {M0 : sy_M} : ∀ (a1 : Int32) (a2 : Int32) (M : sy_M), sy_eqw (jW_X12_owed) M0 M → sy_fr (jW_X12_owed) M0 (jfX12_owed a1 a2 M) := by
  intro a1 a2 M e
  exact (sy_fr_cond (sy_fr_end e))
theorem jzoX12_owed (a1 : Int32) (a2 : Int32) (M : sy_M) : sy_fr (jW_X12_owed) M (jfX12_owed a1 a2 M) := jzX12_owed a1 a2 M sy_eqw_refl
def jW_X12_owes : List (Nat × Option Nat) := [(121, some 0)]
theorem jzX12_owes {M0 : sy_M} : ∀ (a1 : Int32) (a2 : Int32) (M : sy_M), sy_eqw (jW_X12_owes) M0 M → sy_fr (jW_X12_owes) M0 (jfX12_owes a1 a2 M) := by
  intro a1 a2 M e
  exact (sy_fr_bv (sy_fr_up e (jzoX12_areTwo _ _ _) (sy_subw_ix [0] rfl)) (fun _ e1 => (sy_fr_ite (sy_fr_end e1) ((sy_fr_bi (sy_fr_up e1 (jzoX12_owed _ _ _) (sy_subw_ix [] rfl)) (fun _ _ e2 => sy_fr_end e2))))))
theorem jzoX12_owes (a1 : Int32) (a2 : Int32) (M : sy_M) : sy_fr (jW_X12_owes) M (jfX12_owes a1 a2 M) := jzX12_owes a1 a2 M sy_eqw_refl
def jW_X11_checkTick : List (Nat × Option Nat) := [(133, some 0)]
theorem jzX11_checkTick {M0 : sy_M} : ∀ (a0 : Int32) (M : sy_M), sy_eqw (jW_X11_checkTick) M0 M → sy_fr (jW_X11_checkTick) M0 (jfX11_checkTick a0 M) := by
  intro a0 M e
  exact (sy_fr_ite ((sy_fr_cond (sy_fr_end (sy_eqw_uf e 0 rfl)))) ((sy_fr_ite (sy_fr_end e) ((sy_fr_cond (sy_fr_end (sy_eqw_uf e 0 rfl)))))))
theorem jzoX11_checkTick (a0 : Int32) (M : sy_M) : sy_fr (jW_X11_checkTick) M (jfX11_checkTick a0 M) := jzX11_checkTick a0 M sy_eqw_refl
def jW_X11_isHome : List (Nat × Option Nat) := [(133, some 0)]
theorem jzX11_isHome {M0 : sy_M} : ∀ (a1 : Int32) (a2 : Int32) (M : sy_M), sy_eqw (jW_X11_isHome) M0 M → sy_fr (jW_X11_isHome) M0 (jfX11_isHome a1 a2 M) := by
  intro a1 a2 M e
  exact (sy_fr_bv (sy_fr_up e (jzoX11_checkLodger _ _) (sy_subw_ix [0] rfl)) (fun _ e1 => (sy_fr_bv (sy_fr_up e1 (jzoX11_checkTick _ _) (sy_subw_ix [0] rfl)) (fun _ e2 => (sy_fr_bi (sy_fr_up e2 (jzoX2_isIn _ _ _ _) (sy_subw_ix [] rfl)) (fun _ _ e3 => (sy_fr_cond (sy_fr_end e3))))))))
theorem jzoX11_isHome (a1 : Int32) (a2 : Int32) (M : sy_M) : sy_fr (jW_X11_isHome) M (jfX11_isHome a1 a2 M) := jzX11_isHome a1 a2 M sy_eqw_refl
def jW_L_isHome : List (Nat × Option Nat) := [(132, none), (133, some 0)]
theorem jzL_isHome_16 {M0 : sy_M} : ∀ (s0 : Int64) (s1 : Int32) (M : sy_M), sy_eqw (jW_L_isHome) M0 M → sy_fr (jW_L_isHome) M0 (jfL_isHome_16 s0 s1 M) := by
  intro s0 s1 M e
  exact (sy_fr_cond (sy_fr_end (sy_eqw_wl e 0 rfl)))
theorem jzL_isHome {M0 : sy_M} : ∀ (a1 : Int32) (a2 : Int32) (M : sy_M), sy_eqw (jW_L_isHome) M0 M → sy_fr (jW_L_isHome) M0 (jfL_isHome a1 a2 M) := by
  intro a1 a2 M e
  exact (sy_fr_hi (sy_fr_up e (jzoX11_isHome _ _ _) (sy_subw_ix [1] rfl)) (fun _ _ e1 => (sy_fr_ite (jzL_isHome_16  _ _ _ e1) (jzL_isHome_16  _ _ _ e1))) (fun _ _ e1 => (sy_fr_ite (sy_fr_end e1) sy_fr_none)))
theorem jzoL_isHome (a1 : Int32) (a2 : Int32) (M : sy_M) : sy_fr (jW_L_isHome) M (jfL_isHome a1 a2 M) := jzL_isHome a1 a2 M sy_eqw_refl
def jW_X12_isTick : List (Nat × Option Nat) := []
theorem jzX12_isTick {M0 : sy_M} : ∀ (a0 : Int32) (M : sy_M), sy_eqw (jW_X12_isTick) M0 M → sy_fr (jW_X12_isTick) M0 (jfX12_isTick a0 M) := by
  intro a0 M e
  exact (sy_fr_bi (sy_fr_up e (jzoX12_isIn _ _ _ _) (sy_subw_ix [] rfl)) (fun _ _ e1 => (sy_fr_cond (sy_fr_end e1))))
theorem jzoX12_isTick (a0 : Int32) (M : sy_M) : sy_fr (jW_X12_isTick) M (jfX12_isTick a0 M) := jzX12_isTick a0 M sy_eqw_refl
def jW_X12_isHome : List (Nat × Option Nat) := [(121, some 0)]
theorem jzX12_isHome_21 {M0 : sy_M} : ∀ (a1 : Int32) (a2 : Int32) (s0 : Int32) (M : sy_M), sy_eqw (jW_X12_isHome) M0 M → sy_fr (jW_X12_isHome) M0 (jfX12_isHome_21 a1 a2 s0 M) := by
  intro a1 a2 s0 M e
  exact (sy_fr_ite ((sy_fr_bi (sy_fr_up (sy_eqw_uf e 0 rfl) (jzoX12_atHome _ _ _) (sy_subw_ix [] rfl)) (fun _ _ e1 => (sy_fr_ite (sy_fr_end e1) (sy_fr_end e1))))) (sy_fr_end (sy_eqw_uf e 0 rfl)))
theorem jzX12_isHome_16 {M0 : sy_M} : ∀ (a1 : Int32) (a2 : Int32) (M : sy_M), sy_eqw (jW_X12_isHome) M0 M → sy_fr (jW_X12_isHome) M0 (jfX12_isHome_16 a1 a2 M) := by
  intro a1 a2 M e
  exact jzX12_isHome_21  _ _ _ _ e
theorem jzX12_isHome {M0 : sy_M} : ∀ (a1 : Int32) (a2 : Int32) (M : sy_M), sy_eqw (jW_X12_isHome) M0 M → sy_fr (jW_X12_isHome) M0 (jfX12_isHome a1 a2 M) := by
  intro a1 a2 M e
  exact (sy_fr_bi (sy_fr_up e (jzoX12_isLodger _ _) (sy_subw_ix [] rfl)) (fun _ _ e1 => (sy_fr_ite (jzX12_isHome_16  _ _ _ e1) ((sy_fr_bi (sy_fr_up e1 (jzoX12_isTick _ _) (sy_subw_ix [] rfl)) (fun _ _ e2 => (sy_fr_ite (jzX12_isHome_16  _ _ _ e2) (jzX12_isHome_21  _ _ _ _ e2))))))))
theorem jzoX12_isHome (a1 : Int32) (a2 : Int32) (M : sy_M) : sy_fr (jW_X12_isHome) M (jfX12_isHome a1 a2 M) := jzX12_isHome a1 a2 M sy_eqw_refl
def jW_X11_needs : List (Nat × Option Nat) := [(133, some 0), (50, none), (51, none)]
theorem jzX11_needs {M0 : sy_M} : ∀ (a1 : Int32) (M : sy_M), sy_eqw (jW_X11_needs) M0 M → sy_fr (jW_X11_needs) M0 (jfX11_needs a1 M) := by
  intro a1 M e
  exact (sy_fr_bv (sy_fr_up e (jzoX11_checkTick _ _) (sy_subw_ix [0] rfl)) (fun _ e1 => (sy_fr_bv (sy_fr_up e1 (jzoX8_learn _ _) (sy_subw_ix [1, 2] rfl)) (fun _ e2 => (sy_fr_bi (sy_fr_up e2 (jzoX8_needsAt _ _) (sy_subw_ix [] rfl)) (fun _ _ e3 => sy_fr_end e3))))))
theorem jzoX11_needs (a1 : Int32) (M : sy_M) : sy_fr (jW_X11_needs) M (jfX11_needs a1 M) := jzX11_needs a1 M sy_eqw_refl
def jW_L_needs : List (Nat × Option Nat) := [(132, none), (133, some 0), (50, none), (51, none)]
theorem jzL_needs {M0 : sy_M} : ∀ (a1 : Int32) (M : sy_M), sy_eqw (jW_L_needs) M0 M → sy_fr (jW_L_needs) M0 (jfL_needs a1 M) := by
  intro a1 M e
  exact (sy_fr_hi (sy_fr_up e (jzoX11_needs _ _) (sy_subw_ix [1, 2, 3] rfl)) (fun _ _ e1 => sy_fr_end (sy_eqw_wl e1 0 rfl)) (fun _ _ e1 => (sy_fr_ite (sy_fr_end e1) sy_fr_none)))
theorem jzoL_needs (a1 : Int32) (M : sy_M) : sy_fr (jW_L_needs) M (jfL_needs a1 M) := jzL_needs a1 M sy_eqw_refl
def jW_X12_needsIn : List (Nat × Option Nat) := []
theorem jzX12_needsIn {M0 : sy_M} : ∀ (a1 : Int32) (M : sy_M), sy_eqw (jW_X12_needsIn) M0 M → sy_fr (jW_X12_needsIn) M0 (jfX12_needsIn a1 M) := by
  intro a1 M e
  exact (sy_fr_bi (sy_fr_up e (jzoX12_homeIn _ _) (sy_subw_ix [] rfl)) (fun _ _ e1 => (sy_fr_bi (sy_fr_up e1 (jzoX12_burnsOf _ _) (sy_subw_ix [] rfl)) (fun _ _ e2 => sy_fr_end e2))))
theorem jzoX12_needsIn (a1 : Int32) (M : sy_M) : sy_fr (jW_X12_needsIn) M (jfX12_needsIn a1 M) := jzX12_needsIn a1 M sy_eqw_refl
def jW_X12_needs : List (Nat × Option Nat) := [(121, some 0)]
theorem jzX12_needs_13 {M0 : sy_M} : ∀ (a1 : Int32) (s0 : Int32) (M : sy_M), sy_eqw (jW_X12_needs) M0 M → sy_fr (jW_X12_needs) M0 (jfX12_needs_13 a1 s0 M) := by
  intro a1 s0 M e
  exact (sy_fr_ite (sy_fr_end (sy_eqw_uf e 0 rfl)) ((sy_fr_bi (sy_fr_up (sy_eqw_uf e 0 rfl) (jzoX12_needsIn _ _) (sy_subw_ix [] rfl)) (fun _ _ e1 => sy_fr_end e1))))
theorem jzX12_needs {M0 : sy_M} : ∀ (a1 : Int32) (M : sy_M), sy_eqw (jW_X12_needs) M0 M → sy_fr (jW_X12_needs) M0 (jfX12_needs a1 M) := by
  intro a1 M e
  exact (sy_fr_bi (sy_fr_up e (jzoX12_isTick _ _) (sy_subw_ix [] rfl)) (fun _ _ e1 => (sy_fr_ite (jzX12_needs_13  _ _ _ e1) (jzX12_needs_13  _ _ _ e1))))
theorem jzoX12_needs (a1 : Int32) (M : sy_M) : sy_fr (jW_X12_needs) M (jfX12_needs a1 M) := jzX12_needs a1 M sy_eqw_refl
def jW_X11_checkRange : List (Nat × Option Nat) := [(133, some 0)]
theorem jzX11_checkRange {M0 : sy_M} : ∀ (a0 : Int32) (a1 : Int32) (a2 : Int32) (M : sy_M), sy_eqw (jW_X11_checkRange) M0 M → sy_fr (jW_X11_checkRange) M0 (jfX11_checkRange a0 a1 a2 M) := by
  intro a0 a1 a2 M e
  exact (sy_fr_ite ((sy_fr_cond (sy_fr_end (sy_eqw_uf e 0 rfl)))) ((sy_fr_ite ((sy_fr_cond (sy_fr_end (sy_eqw_uf e 0 rfl)))) (sy_fr_end e))))
theorem jzoX11_checkRange (a0 : Int32) (a1 : Int32) (a2 : Int32) (M : sy_M) : sy_fr (jW_X11_checkRange) M (jfX11_checkRange a0 a1 a2 M) := jzX11_checkRange a0 a1 a2 M sy_eqw_refl
def jW_X0_slot : List (Nat × Option Nat) := []
theorem jzX0_slot {M0 : sy_M} : ∀ (a1 : Int32) (M : sy_M), sy_eqw (jW_X0_slot) M0 M → sy_fr (jW_X0_slot) M0 (jfX0_slot a1 M) := by
  intro a1 M e
  exact (sy_fr_ite (sy_fr_end e) ((sy_fr_ite ((sy_fr_cond (sy_fr_end e))) (sy_fr_end e))))
theorem jzoX0_slot (a1 : Int32) (M : sy_M) : sy_fr (jW_X0_slot) M (jfX0_slot a1 M) := jzX0_slot a1 M sy_eqw_refl
def jW_X12_remembers : List (Nat × Option Nat) := [(121, some 6), (125, none)]
theorem jzX12_remembers_52 {M0 : sy_M} : ∀ n : Nat, ∀ (a1 : Int32) (M : sy_M), sy_eqw (jW_X12_remembers) M0 M → sy_fr (jW_X12_remembers) M0 (jfX12_remembers_52 n a1 M) := by
  intro n
  induction n with
  | zero => intro a1 M e; exact sy_fr_none
  | succ n z52 => intro a1 M e; exact (sy_fr_ite ((sy_fr_cond ((sy_fr_cond (z52 _ _ (sy_eqw_ua e 1 rfl)))))) (sy_fr_end (sy_eqw_uf e 0 rfl)))
theorem jzX12_remembers_50 {M0 : sy_M} : ∀ (M : sy_M), sy_eqw (jW_X12_remembers) M0 M → sy_fr (jW_X12_remembers) M0 (jfX12_remembers_50 M) := by
  intro  M e
  exact jzX12_remembers_52  6000 _ _ e
theorem jzX12_remembers_11 {M0 : sy_M} : ∀ n : Nat, ∀ (a1 : Int32) (M : sy_M), sy_eqw (jW_X12_remembers) M0 M → sy_fr (jW_X12_remembers) M0 (jfX12_remembers_11 n a1 M) := by
  intro n
  induction n with
  | zero => intro a1 M e; exact sy_fr_none
  | succ n z11 => intro a1 M e; exact (sy_fr_ite ((sy_fr_cond ((sy_fr_cond (z11 _ _ (sy_eqw_ua e 1 rfl)))))) (jzX12_remembers_50   _ (sy_eqw_uf e 0 rfl)))
theorem jzX12_remembers {M0 : sy_M} : ∀ (M : sy_M), sy_eqw (jW_X12_remembers) M0 M → sy_fr (jW_X12_remembers) M0 (jfX12_remembers M) := by
  intro  M e
  exact (sy_fr_ite (jzX12_remembers_11  6000 _ _ e) (jzX12_remembers_50   _ e))
theorem jzoX12_remembers (M : sy_M) : sy_fr (jW_X12_remembers) M (jfX12_remembers M) := jzX12_remembers  M sy_eqw_refl
def jW_X12_ticks : List (Nat × Option Nat) := [(121, some 0), (121, some 6), (121, some 9), (121, some 10), (121, some 11), (121, some 12), (121, some 13), (121, some 15), (121, some 16), (121, some 17), (121, some 18), (121, some 20), (121, some 21), (122, none), (125, none), (127, none)]
theorem jzX12_ticks_16 {M0 : sy_M} : ∀ (a1 : Int32) (s0 : Int32) (M : sy_M), sy_eqw (jW_X12_ticks) M0 M → sy_fr (jW_X12_ticks) M0 (jfX12_ticks_16 a1 s0 M) := by
  intro a1 s0 M e
  exact (sy_fr_ite (sy_fr_end (sy_eqw_uf e 0 rfl)) ((sy_fr_bv (sy_fr_up (sy_eqw_uf e 0 rfl) (jzoX12_remembers  _) (sy_subw_ix [1, 14] rfl)) (fun _ e1 => (sy_fr_bi (sy_fr_up e1 (jzoX12_goes _ _ _) (sy_subw_ix [2, 3, 4, 5, 6, 7, 8, 9, 10, 11, 12, 13, 15] rfl)) (fun _ _ e2 => sy_fr_end e2))))))
theorem jzX12_ticks {M0 : sy_M} : ∀ (a1 : Int32) (M : sy_M), sy_eqw (jW_X12_ticks) M0 M → sy_fr (jW_X12_ticks) M0 (jfX12_ticks a1 M) := by
  intro a1 M e
  exact (sy_fr_bi (sy_fr_up e (jzoX12_isIn _ _ _ _) (sy_subw_ix [] rfl)) (fun _ _ e1 => (sy_fr_ite (jzX12_ticks_16  _ _ _ e1) (jzX12_ticks_16  _ _ _ e1))))
theorem jzoX12_ticks (a1 : Int32) (M : sy_M) : sy_fr (jW_X12_ticks) M (jfX12_ticks a1 M) := jzX12_ticks a1 M sy_eqw_refl
def jW_X12_put : List (Nat × Option Nat) := [(121, some 0), (121, some 6), (121, some 20), (121, some 21), (122, none), (125, none)]
theorem jzX12_put_41 {M0 : sy_M} : ∀ (a1 : Int32) (s0 : Int32) (M : sy_M), sy_eqw (jW_X12_put) M0 M → sy_fr (jW_X12_put) M0 (jfX12_put_41 a1 s0 M) := by
  intro a1 s0 M e
  exact (sy_fr_ite (sy_fr_end (sy_eqw_uf e 0 rfl)) ((sy_fr_bv (sy_fr_up (sy_eqw_uf e 0 rfl) (jzoX12_remembers  _) (sy_subw_ix [1, 5] rfl)) (fun _ e1 => (sy_fr_bv (sy_fr_up e1 (jzoX12_feeds _ _) (sy_subw_ix [2, 3, 4] rfl)) (fun _ e2 => sy_fr_end e2))))))
theorem jzX12_put_14 {M0 : sy_M} : ∀ (a1 : Int32) (s0 : Int32) (M : sy_M), sy_eqw (jW_X12_put) M0 M → sy_fr (jW_X12_put) M0 (jfX12_put_14 a1 s0 M) := by
  intro a1 s0 M e
  exact (sy_fr_ite (sy_fr_end (sy_eqw_uf e 0 rfl)) ((sy_fr_bi (sy_fr_up (sy_eqw_uf e 0 rfl) (jzoX12_of _ _ _) (sy_subw_ix [] rfl)) (fun _ _ e1 => (sy_fr_ite (jzX12_put_41  _ _ _ e1) (jzX12_put_41  _ _ _ e1))))))
theorem jzX12_put {M0 : sy_M} : ∀ (a1 : Int32) (M : sy_M), sy_eqw (jW_X12_put) M0 M → sy_fr (jW_X12_put) M0 (jfX12_put a1 M) := by
  intro a1 M e
  exact (sy_fr_bi (sy_fr_up e (jzoX12_isLodger _ _) (sy_subw_ix [] rfl)) (fun _ _ e1 => (sy_fr_ite (jzX12_put_14  _ _ _ e1) (jzX12_put_14  _ _ _ e1))))
theorem jzoX12_put (a1 : Int32) (M : sy_M) : sy_fr (jW_X12_put) M (jfX12_put a1 M) := jzX12_put a1 M sy_eqw_refl
def jW_X2_moveCoins (r0 : Nat) : List (Nat × Option Nat) := [(r0 + 1, none)]
theorem jzX2_moveCoins {r0 : Nat} {M0 : sy_M} : ∀ (a1 : Int32) (a2 : Int32) (a3 : Int32) (M : sy_M), sy_eqw (jW_X2_moveCoins r0) M0 M → sy_fr (jW_X2_moveCoins r0) M0 (jfX2_moveCoins r0 a1 a2 a3 M) := by
  intro a1 a2 a3 M e
  exact (sy_fr_cond ((sy_fr_bi (sy_fr_up e (jzoX2_get _ _ _ _) (sy_subw_ix [] rfl)) (fun _ _ e1 => (sy_fr_cond ((sy_fr_bv (sy_fr_up e1 (jzoX2_set _ _ _ _ _) (sy_subw_ix [0] rfl)) (fun _ e2 => (sy_fr_cond ((sy_fr_bi (sy_fr_up e2 (jzoX2_get _ _ _ _) (sy_subw_ix [] rfl)) (fun _ _ e3 => (sy_fr_cond ((sy_fr_bv (sy_fr_up e3 (jzoX2_set _ _ _ _ _) (sy_subw_ix [0] rfl)) (fun _ e4 => sy_fr_end e4))))))))))))))))
theorem jzoX2_moveCoins (r0 : Nat) (a1 : Int32) (a2 : Int32) (a3 : Int32) (M : sy_M) : sy_fr (jW_X2_moveCoins r0) M (jfX2_moveCoins r0 a1 a2 a3 M) := jzX2_moveCoins a1 a2 a3 M sy_eqw_refl
def jW_X12_sets : List (Nat × Option Nat) := [(121, some 6), (122, none), (125, none)]
theorem jzX12_sets {M0 : sy_M} : ∀ (a1 : Int32) (a2 : Int32) (M : sy_M), sy_eqw (jW_X12_sets) M0 M → sy_fr (jW_X12_sets) M0 (jfX12_sets a1 a2 M) := by
  intro a1 a2 M e
  exact (sy_fr_bv (sy_fr_up e (jzoX12_remembers  _) (sy_subw_ix [0, 2] rfl)) (fun _ e1 => (sy_fr_cond ((sy_fr_cond (sy_fr_end (sy_eqw_ua e1 1 rfl)))))))
theorem jzoX12_sets (a1 : Int32) (a2 : Int32) (M : sy_M) : sy_fr (jW_X12_sets) M (jfX12_sets a1 a2 M) := jzX12_sets a1 a2 M sy_eqw_refl
def jW_X12_lend : List (Nat × Option Nat) := [(121, some 0), (121, some 6), (122, none), (125, none)]
theorem jzX12_lend_115 {M0 : sy_M} : ∀ (a1 : Int32) (M : sy_M), sy_eqw (jW_X12_lend) M0 M → sy_fr (jW_X12_lend) M0 (jfX12_lend_115 a1 M) := by
  intro a1 M e
  exact (sy_fr_bi (sy_fr_up e (jzoX12_of _ _ _) (sy_subw_ix [] rfl)) (fun _ _ e1 => sy_fr_end e1))
theorem jzX12_lend_53 {M0 : sy_M} : ∀ (a1 : Int32) (a2 : Int32) (s0 : Int32) (M : sy_M), sy_eqw (jW_X12_lend) M0 M → sy_fr (jW_X12_lend) M0 (jfX12_lend_53 a1 a2 s0 M) := by
  intro a1 a2 s0 M e
  exact (sy_fr_ite (sy_fr_end (sy_eqw_uf e 0 rfl)) ((sy_fr_bi (sy_fr_up (sy_eqw_uf e 0 rfl) (jzoX12_owed _ _ _) (sy_subw_ix [] rfl)) (fun _ _ e1 => (sy_fr_bi (sy_fr_up e1 (jzoX12_sets _ _ _) (sy_subw_ix [1, 2, 3] rfl)) (fun _ _ e2 => (sy_fr_bi (sy_fr_up e2 (jzoX12_of _ _ _) (sy_subw_ix [] rfl)) (fun _ _ e3 => (sy_fr_bv (sy_fr_up e3 (jzoX12_lays _ _ _ _) (sy_subw_ix [2] rfl)) (fun _ e4 => (sy_fr_bi (sy_fr_up e4 (jzoX12_of _ _ _) (sy_subw_ix [] rfl)) (fun _ _ e5 => (sy_fr_bv (sy_fr_up e5 (jzoX12_lays _ _ _ _) (sy_subw_ix [2] rfl)) (fun _ e6 => jzX12_lend_115  _ _ e6))))))))))))))
theorem jzX12_lend_48 {M0 : sy_M} : ∀ (a1 : Int32) (a2 : Int32) (M : sy_M), sy_eqw (jW_X12_lend) M0 M → sy_fr (jW_X12_lend) M0 (jfX12_lend_48 a1 a2 M) := by
  intro a1 a2 M e
  exact jzX12_lend_53  _ _ _ _ e
theorem jzX12_lend {M0 : sy_M} : ∀ (a1 : Int32) (a2 : Int32) (M : sy_M), sy_eqw (jW_X12_lend) M0 M → sy_fr (jW_X12_lend) M0 (jfX12_lend a1 a2 M) := by
  intro a1 a2 M e
  exact (sy_fr_bv (sy_fr_up e (jzoX12_areTwo _ _ _) (sy_subw_ix [0] rfl)) (fun _ e1 => (sy_fr_ite (sy_fr_end e1) ((sy_fr_bi (sy_fr_up e1 (jzoX12_of _ _ _) (sy_subw_ix [] rfl)) (fun _ _ e2 => (sy_fr_ite (jzX12_lend_48  _ _ _ e2) ((sy_fr_bi (sy_fr_up e2 (jzoX12_of _ _ _) (sy_subw_ix [] rfl)) (fun _ _ e3 => (sy_fr_ite (jzX12_lend_48  _ _ _ e3) ((sy_fr_bi (sy_fr_up e3 (jzoX12_owed _ _ _) (sy_subw_ix [] rfl)) (fun _ _ e4 => (sy_fr_ite (jzX12_lend_48  _ _ _ e4) (jzX12_lend_53  _ _ _ _ e4))))))))))))))))
theorem jzoX12_lend (a1 : Int32) (a2 : Int32) (M : sy_M) : sy_fr (jW_X12_lend) M (jfX12_lend a1 a2 M) := jzX12_lend a1 a2 M sy_eqw_refl
def jW_X12_repay : List (Nat × Option Nat) := [(121, some 0), (121, some 6), (122, none), (125, none)]
theorem jzX12_repay_54 {M0 : sy_M} : ∀ (a1 : Int32) (a2 : Int32) (a3 : Int32) (s0 : Int32) (M : sy_M), sy_eqw (jW_X12_repay) M0 M → sy_fr (jW_X12_repay) M0 (jfX12_repay_54 a1 a2 a3 s0 M) := by
  intro a1 a2 a3 s0 M e
  exact (sy_fr_ite (sy_fr_end (sy_eqw_uf e 0 rfl)) ((sy_fr_bi (sy_fr_up (sy_eqw_uf e 0 rfl) (jzoX12_owed _ _ _) (sy_subw_ix [] rfl)) (fun _ _ e1 => (sy_fr_bi (sy_fr_up e1 (jzoX12_sets _ _ _) (sy_subw_ix [1, 2, 3] rfl)) (fun _ _ e2 => (sy_fr_bi (sy_fr_up e2 (jzoX12_of _ _ _) (sy_subw_ix [] rfl)) (fun _ _ e3 => (sy_fr_bv (sy_fr_up e3 (jzoX12_lays _ _ _ _) (sy_subw_ix [2] rfl)) (fun _ e4 => (sy_fr_bi (sy_fr_up e4 (jzoX12_of _ _ _) (sy_subw_ix [] rfl)) (fun _ _ e5 => (sy_fr_bv (sy_fr_up e5 (jzoX12_lays _ _ _ _) (sy_subw_ix [2] rfl)) (fun _ e6 => sy_fr_end e6))))))))))))))
theorem jzX12_repay {M0 : sy_M} : ∀ (a1 : Int32) (a2 : Int32) (M : sy_M), sy_eqw (jW_X12_repay) M0 M → sy_fr (jW_X12_repay) M0 (jfX12_repay a1 a2 M) := by
  intro a1 a2 M e
  exact (sy_fr_bv (sy_fr_up e (jzoX12_areTwo _ _ _) (sy_subw_ix [0] rfl)) (fun _ e1 => (sy_fr_ite (sy_fr_end e1) ((sy_fr_bi (sy_fr_up e1 (jzoX12_owed _ _ _) (sy_subw_ix [] rfl)) (fun _ _ e2 => (sy_fr_bi (sy_fr_up e2 (jzoX12_of _ _ _) (sy_subw_ix [] rfl)) (fun _ _ e3 => (sy_fr_bi (sy_fr_up e3 (jzoX12_of _ _ _) (sy_subw_ix [] rfl)) (fun _ _ e4 => (sy_fr_bi (sy_fr_up e4 (jzoX12_lesser _ _ _) (sy_subw_ix [] rfl)) (fun _ _ e5 => (sy_fr_bi (sy_fr_up e5 (jzoX12_lesser _ _ _) (sy_subw_ix [] rfl)) (fun _ _ e6 => (sy_fr_ite (jzX12_repay_54  _ _ _ _ _ e6) (jzX12_repay_54  _ _ _ _ _ e6))))))))))))))))
theorem jzoX12_repay (a1 : Int32) (a2 : Int32) (M : sy_M) : sy_fr (jW_X12_repay) M (jfX12_repay a1 a2 M) := jzX12_repay a1 a2 M sy_eqw_refl
def jW_X12_waits : List (Nat × Option Nat) := [(121, some 0), (121, some 6), (122, none), (125, none)]
theorem jzX12_waits_28 {M0 : sy_M} : ∀ (a1 : Int32) (a2 : Int32) (s0 : Int32) (M : sy_M), sy_eqw (jW_X12_waits) M0 M → sy_fr (jW_X12_waits) M0 (jfX12_waits_28 a1 a2 s0 M) := by
  intro a1 a2 s0 M e
  exact (sy_fr_ite (sy_fr_end (sy_eqw_uf e 0 rfl)) ((sy_fr_bi (sy_fr_up (sy_eqw_uf e 0 rfl) (jzoX12_sets _ _ _) (sy_subw_ix [1, 2, 3] rfl)) (fun _ _ e1 => sy_fr_end e1))))
theorem jzX12_waits {M0 : sy_M} : ∀ (a1 : Int32) (a2 : Int32) (M : sy_M), sy_eqw (jW_X12_waits) M0 M → sy_fr (jW_X12_waits) M0 (jfX12_waits a1 a2 M) := by
  intro a1 a2 M e
  exact (sy_fr_bi (sy_fr_up e (jzoX12_isLodger _ _) (sy_subw_ix [] rfl)) (fun _ _ e1 => (sy_fr_ite (jzX12_waits_28  _ _ _ _ e1) ((sy_fr_bi (sy_fr_up e1 (jzoX12_isIn _ _ _ _) (sy_subw_ix [] rfl)) (fun _ _ e2 => (sy_fr_ite (jzX12_waits_28  _ _ _ _ e2) (jzX12_waits_28  _ _ _ _ e2))))))))
theorem jzoX12_waits (a1 : Int32) (a2 : Int32) (M : sy_M) : sy_fr (jW_X12_waits) M (jfX12_waits a1 a2 M) := jzX12_waits a1 a2 M sy_eqw_refl
def jW_X12_price : List (Nat × Option Nat) := [(121, some 0), (121, some 6), (122, none), (125, none)]
theorem jzX12_price_16 {M0 : sy_M} : ∀ (a1 : Int32) (s0 : Int32) (M : sy_M), sy_eqw (jW_X12_price) M0 M → sy_fr (jW_X12_price) M0 (jfX12_price_16 a1 s0 M) := by
  intro a1 s0 M e
  exact (sy_fr_ite (sy_fr_end (sy_eqw_uf e 0 rfl)) ((sy_fr_bi (sy_fr_up (sy_eqw_uf e 0 rfl) (jzoX12_sets _ _ _) (sy_subw_ix [1, 2, 3] rfl)) (fun _ _ e1 => sy_fr_end e1))))
theorem jzX12_price {M0 : sy_M} : ∀ (a1 : Int32) (M : sy_M), sy_eqw (jW_X12_price) M0 M → sy_fr (jW_X12_price) M0 (jfX12_price a1 M) := by
  intro a1 M e
  exact (sy_fr_bi (sy_fr_up e (jzoX12_isIn _ _ _ _) (sy_subw_ix [] rfl)) (fun _ _ e1 => (sy_fr_ite (jzX12_price_16  _ _ _ e1) (jzX12_price_16  _ _ _ e1))))
theorem jzoX12_price (a1 : Int32) (M : sy_M) : sy_fr (jW_X12_price) M (jfX12_price a1 M) := jzX12_price a1 M sy_eqw_refl
def jW_X2_swapRooms (r0 : Nat) : List (Nat × Option Nat) := [(r0 + 1, none)]
theorem jzX2_swapRooms {r0 : Nat} {M0 : sy_M} : ∀ (a1 : Int32) (a2 : Int32) (M : sy_M), sy_eqw (jW_X2_swapRooms r0) M0 M → sy_fr (jW_X2_swapRooms r0) M0 (jfX2_swapRooms r0 a1 a2 M) := by
  intro a1 a2 M e
  exact (sy_fr_cond ((sy_fr_bi (sy_fr_up e (jzoX2_get _ _ _ _) (sy_subw_ix [] rfl)) (fun _ _ e1 => (sy_fr_cond ((sy_fr_bi (sy_fr_up e1 (jzoX2_get _ _ _ _) (sy_subw_ix [] rfl)) (fun _ _ e2 => (sy_fr_cond ((sy_fr_bi (sy_fr_up e2 (jzoX2_get _ _ _ _) (sy_subw_ix [] rfl)) (fun _ _ e3 => (sy_fr_cond ((sy_fr_bv (sy_fr_up e3 (jzoX2_set _ _ _ _ _) (sy_subw_ix [0] rfl)) (fun _ e4 => (sy_fr_cond ((sy_fr_bi (sy_fr_up e4 (jzoX2_get _ _ _ _) (sy_subw_ix [] rfl)) (fun _ _ e5 => (sy_fr_cond ((sy_fr_bv (sy_fr_up e5 (jzoX2_set _ _ _ _ _) (sy_subw_ix [0] rfl)) (fun _ e6 => (sy_fr_cond ((sy_fr_bv (sy_fr_up e6 (jzoX2_set _ _ _ _ _) (sy_subw_ix [0] rfl)) (fun _ e7 => (sy_fr_cond ((sy_fr_bv (sy_fr_up e7 (jzoX2_set _ _ _ _ _) (sy_subw_ix [0] rfl)) (fun _ e8 => sy_fr_end e8))))))))))))))))))))))))))))))))
theorem jzoX2_swapRooms (r0 : Nat) (a1 : Int32) (a2 : Int32) (M : sy_M) : sy_fr (jW_X2_swapRooms r0) M (jfX2_swapRooms r0 a1 a2 M) := jzX2_swapRooms a1 a2 M sy_eqw_refl
def jW_X12_rooms : List (Nat × Option Nat) := [(122, none)]
theorem jzX12_rooms {M0 : sy_M} : ∀ (a1 : Int32) (a2 : Int32) (M : sy_M), sy_eqw (jW_X12_rooms) M0 M → sy_fr (jW_X12_rooms) M0 (jfX12_rooms a1 a2 M) := by
  intro a1 a2 M e
  exact (sy_fr_bi (sy_fr_up e (jzoX12_of _ _ _) (sy_subw_ix [] rfl)) (fun _ _ e1 => (sy_fr_bi (sy_fr_up e1 (jzoX12_of _ _ _) (sy_subw_ix [] rfl)) (fun _ _ e2 => (sy_fr_bi (sy_fr_up e2 (jzoX12_of _ _ _) (sy_subw_ix [] rfl)) (fun _ _ e3 => (sy_fr_bv (sy_fr_up e3 (jzoX12_lays _ _ _ _) (sy_subw_ix [0] rfl)) (fun _ e4 => (sy_fr_bi (sy_fr_up e4 (jzoX12_of _ _ _) (sy_subw_ix [] rfl)) (fun _ _ e5 => (sy_fr_bv (sy_fr_up e5 (jzoX12_lays _ _ _ _) (sy_subw_ix [0] rfl)) (fun _ e6 => (sy_fr_bv (sy_fr_up e6 (jzoX12_lays _ _ _ _) (sy_subw_ix [0] rfl)) (fun _ e7 => (sy_fr_bv (sy_fr_up e7 (jzoX12_lays _ _ _ _) (sy_subw_ix [0] rfl)) (fun _ e8 => sy_fr_end e8))))))))))))))))
theorem jzoX12_rooms (a1 : Int32) (a2 : Int32) (M : sy_M) : sy_fr (jW_X12_rooms) M (jfX12_rooms a1 a2 M) := jzX12_rooms a1 a2 M sy_eqw_refl
def jW_X12_change : List (Nat × Option Nat) := [(121, some 0), (121, some 6), (122, none), (125, none)]
theorem jzX12_change {M0 : sy_M} : ∀ (a1 : Int32) (a2 : Int32) (M : sy_M), sy_eqw (jW_X12_change) M0 M → sy_fr (jW_X12_change) M0 (jfX12_change a1 a2 M) := by
  intro a1 a2 M e
  exact (sy_fr_bv (sy_fr_up e (jzoX12_areTwo _ _ _) (sy_subw_ix [0] rfl)) (fun _ e1 => (sy_fr_ite (sy_fr_end e1) ((sy_fr_bv (sy_fr_up e1 (jzoX12_remembers  _) (sy_subw_ix [1, 3] rfl)) (fun _ e2 => (sy_fr_bv (sy_fr_up e2 (jzoX12_rooms _ _ _) (sy_subw_ix [2] rfl)) (fun _ e3 => (sy_fr_bi (sy_fr_up e3 (jzoX12_of _ _ _) (sy_subw_ix [] rfl)) (fun _ _ e4 => sy_fr_end e4))))))))))
theorem jzoX12_change (a1 : Int32) (a2 : Int32) (M : sy_M) : sy_fr (jW_X12_change) M (jfX12_change a1 a2 M) := jzX12_change a1 a2 M sy_eqw_refl
def jW_X12_home : List (Nat × Option Nat) := [(121, some 0), (121, some 6), (122, none), (125, none)]
theorem jzX12_home_28 {M0 : sy_M} : ∀ (a1 : Int32) (a2 : Int32) (a3 : Int32) (s0 : Int32) (M : sy_M), sy_eqw (jW_X12_home) M0 M → sy_fr (jW_X12_home) M0 (jfX12_home_28 a1 a2 a3 s0 M) := by
  intro a1 a2 a3 s0 M e
  exact (sy_fr_ite (sy_fr_end (sy_eqw_uf e 0 rfl)) ((sy_fr_bi (sy_fr_up (sy_eqw_uf e 0 rfl) (jzoX12_sets _ _ _) (sy_subw_ix [1, 2, 3] rfl)) (fun _ _ e1 => (sy_fr_bv (sy_fr_up e1 (jzoX12_lays _ _ _ _) (sy_subw_ix [2] rfl)) (fun _ e2 => (sy_fr_bi (sy_fr_up e2 (jzoX12_hoursOf _ _) (sy_subw_ix [] rfl)) (fun _ _ e3 => sy_fr_end e3))))))))
theorem jzX12_home_23 {M0 : sy_M} : ∀ (a1 : Int32) (a2 : Int32) (a3 : Int32) (M : sy_M), sy_eqw (jW_X12_home) M0 M → sy_fr (jW_X12_home) M0 (jfX12_home_23 a1 a2 a3 M) := by
  intro a1 a2 a3 M e
  exact jzX12_home_28  _ _ _ _ _ e
theorem jzX12_home {M0 : sy_M} : ∀ (a1 : Int32) (a2 : Int32) (a3 : Int32) (M : sy_M), sy_eqw (jW_X12_home) M0 M → sy_fr (jW_X12_home) M0 (jfX12_home a1 a2 a3 M) := by
  intro a1 a2 a3 M e
  exact (sy_fr_bi (sy_fr_up e (jzoX12_isLodger _ _) (sy_subw_ix [] rfl)) (fun _ _ e1 => (sy_fr_ite (jzX12_home_23  _ _ _ _ e1) ((sy_fr_bi (sy_fr_up e1 (jzoX12_isTick _ _) (sy_subw_ix [] rfl)) (fun _ _ e2 => (sy_fr_ite (jzX12_home_23  _ _ _ _ e2) ((sy_fr_bi (sy_fr_up e2 (jzoX12_isTick _ _) (sy_subw_ix [] rfl)) (fun _ _ e3 => (sy_fr_ite (jzX12_home_23  _ _ _ _ e3) (jzX12_home_28  _ _ _ _ _ e3))))))))))))
theorem jzoX12_home (a1 : Int32) (a2 : Int32) (a3 : Int32) (M : sy_M) : sy_fr (jW_X12_home) M (jfX12_home a1 a2 a3 M) := jzX12_home a1 a2 a3 M sy_eqw_refl
def jW_X12_empty : List (Nat × Option Nat) := [(121, some 0), (121, some 6), (122, none), (125, none)]
theorem jzX12_empty {M0 : sy_M} : ∀ (M : sy_M), sy_eqw (jW_X12_empty) M0 M → sy_fr (jW_X12_empty) M0 (jfX12_empty M) := by
  intro  M e
  exact (sy_fr_bi (sy_fr_up (sy_eqw_uf e 0 rfl) (jzoX12_sets _ _ _) (sy_subw_ix [1, 2, 3] rfl)) (fun _ _ e1 => sy_fr_end e1))
theorem jzoX12_empty (M : sy_M) : sy_fr (jW_X12_empty) M (jfX12_empty M) := jzX12_empty  M sy_eqw_refl
def jW_X11_inside : List (Nat × Option Nat) := [(50, none), (51, none)]
theorem jzX11_inside {M0 : sy_M} : ∀ (M : sy_M), sy_eqw (jW_X11_inside) M0 M → sy_fr (jW_X11_inside) M0 (jfX11_inside M) := by
  intro  M e
  exact (sy_fr_bv (sy_fr_up e (jzoX8_learn _ _) (sy_subw_ix [0, 1] rfl)) (fun _ e1 => (sy_fr_bi (sy_fr_up e1 (jzoX8_presentAt _ _) (sy_subw_ix [] rfl)) (fun _ _ e2 => sy_fr_end e2))))
theorem jzoX11_inside (M : sy_M) : sy_fr (jW_X11_inside) M (jfX11_inside M) := jzX11_inside  M sy_eqw_refl
def jW_X12_inside : List (Nat × Option Nat) := [(121, some 0)]
theorem jzX12_inside {M0 : sy_M} : ∀ (M : sy_M), sy_eqw (jW_X12_inside) M0 M → sy_fr (jW_X12_inside) M0 (jfX12_inside M) := by
  intro  M e
  exact (sy_fr_bi (sy_fr_up (sy_eqw_uf e 0 rfl) (jzoX12_homeIn _ _) (sy_subw_ix [] rfl)) (fun _ _ e1 => sy_fr_end e1))
theorem jzoX12_inside (M : sy_M) : sy_fr (jW_X12_inside) M (jfX12_inside M) := jzX12_inside  M sy_eqw_refl
def jW_X11_start : List (Nat × Option Nat) := [(19, some 3), (19, some 4), (19, some 5), (19, some 6), (19, some 7), (19, some 8), (19, some 9), (19, some 10), (19, some 11), (19, some 12), (19, some 13), (20, none), (21, none), (22, some 2), (22, some 3), (23, none), (50, none), (51, none)]
theorem jzX11_start {M0 : sy_M} : ∀ (M : sy_M), sy_eqw (jW_X11_start) M0 M → sy_fr (jW_X11_start) M0 (jfX11_start M) := by
  intro  M e
  exact (sy_fr_bv (sy_fr_up e (jzoX8_learn _ _) (sy_subw_ix [16, 17] rfl)) (fun _ e1 => (sy_fr_bv (sy_fr_up e1 (jzoX2_takeOver _ _ _) (sy_subw_ix [0, 1, 2, 3, 4, 5, 6, 7, 8, 9, 10, 11, 12, 13, 14, 15] rfl)) (fun _ e2 => sy_fr_end e2))))
theorem jzoX11_start (M : sy_M) : sy_fr (jW_X11_start) M (jfX11_start M) := jzX11_start  M sy_eqw_refl
def jW_X11_firstDark : List (Nat × Option Nat) := [(19, some 3), (19, some 4), (19, some 5), (19, some 6), (19, some 7), (19, some 8), (19, some 9), (19, some 10), (19, some 11), (19, some 12), (19, some 13), (20, none), (21, none), (22, some 2), (22, some 3), (23, none), (50, none), (51, none), (52, none)]
theorem jzX11_firstDark_6 {M0 : sy_M} : ∀ n : Nat, ∀ (a1 : Int32) (M : sy_M), sy_eqw (jW_X11_firstDark) M0 M → sy_fr (jW_X11_firstDark) M0 (jfX11_firstDark_6 n a1 M) := by
  intro n
  induction n with
  | zero => intro a1 M e; exact sy_fr_none
  | succ n z6 => intro a1 M e; exact (sy_fr_ite (sy_fr_end e) ((sy_fr_bi (sy_fr_up e (jzoX8_pass _ _ _ _) (sy_subw_ix [2, 3, 4, 6, 8, 9, 10, 11, 13, 14, 15, 18] rfl)) (fun _ _ e1 => (sy_fr_ite (z6 _ _ e1) (sy_fr_end e1))))))
theorem jzX11_firstDark {M0 : sy_M} : ∀ (M : sy_M), sy_eqw (jW_X11_firstDark) M0 M → sy_fr (jW_X11_firstDark) M0 (jfX11_firstDark M) := by
  intro  M e
  exact (sy_fr_bv (sy_fr_up e (jzoX11_start  _) (sy_subw_ix [0, 1, 2, 3, 4, 5, 6, 7, 8, 9, 10, 11, 12, 13, 14, 15, 16, 17] rfl)) (fun _ e1 => jzX11_firstDark_6  6000 _ _ e1))
theorem jzoX11_firstDark (M : sy_M) : sy_fr (jW_X11_firstDark) M (jfX11_firstDark M) := jzX11_firstDark  M sy_eqw_refl
def jW_X11_lasts : List (Nat × Option Nat) := [(19, some 3), (19, some 4), (19, some 5), (19, some 6), (19, some 7), (19, some 8), (19, some 9), (19, some 10), (19, some 11), (19, some 12), (19, some 13), (20, none), (21, none), (22, some 2), (22, some 3), (23, none), (50, none), (51, none), (52, none)]
theorem jzX11_lasts {M0 : sy_M} : ∀ (M : sy_M), sy_eqw (jW_X11_lasts) M0 M → sy_fr (jW_X11_lasts) M0 (jfX11_lasts M) := by
  intro  M e
  exact (sy_fr_bi (sy_fr_up e (jzoX11_firstDark  _) (sy_subw_ix [0, 1, 2, 3, 4, 5, 6, 7, 8, 9, 10, 11, 12, 13, 14, 15, 16, 17, 18] rfl)) (fun _ _ e1 => sy_fr_end e1))
theorem jzoX11_lasts (M : sy_M) : sy_fr (jW_X11_lasts) M (jfX11_lasts M) := jzX11_lasts  M sy_eqw_refl
def jW_X12_firstDark : List (Nat × Option Nat) := [(121, some 9), (121, some 10), (121, some 11), (121, some 12), (121, some 13), (121, some 15), (121, some 16), (121, some 17), (121, some 18), (121, some 19), (121, some 20), (121, some 21), (122, none), (124, none), (127, none)]
theorem jzX12_firstDark_35 {M0 : sy_M} : ∀ (a1 : Int32) (M : sy_M), sy_eqw (jW_X12_firstDark) M0 M → sy_fr (jW_X12_firstDark) M0 (jfX12_firstDark_35 a1 M) := by
  intro a1 M e
  exact (sy_fr_bv (sy_fr_up e (jzoX12_comesBack  _) (sy_subw_ix [12] rfl)) (fun _ e1 => sy_fr_end (sy_eqw_uf e1 9 rfl)))
theorem jzX12_firstDark_29 {M0 : sy_M} {k8 : Int32 → Int32 → sy_M → sy_O} (z8 : ∀ (a1 : Int32) (a2 : Int32) (M : sy_M), sy_eqw (jW_X12_firstDark) M0 M → sy_fr (jW_X12_firstDark) M0 (k8 a1 a2 M)) : ∀ (a1 : Int32) (a2 : Int32) (M : sy_M), sy_eqw (jW_X12_firstDark) M0 M → sy_fr (jW_X12_firstDark) M0 (jfX12_firstDark_29 k8 a1 a2 M) := by
  intro a1 a2 M e
  exact z8 _ _ _ e
theorem jzX12_firstDark_8 {M0 : sy_M} : ∀ n : Nat, ∀ (a1 : Int32) (a2 : Int32) (M : sy_M), sy_eqw (jW_X12_firstDark) M0 M → sy_fr (jW_X12_firstDark) M0 (jfX12_firstDark_8 n a1 a2 M) := by
  intro n
  induction n with
  | zero => intro a1 a2 M e; exact sy_fr_none
  | succ n z8 => intro a1 a2 M e; exact (sy_fr_ite (jzX12_firstDark_35  _ _ e) ((sy_fr_ite ((sy_fr_bi (sy_fr_up e (jzoX12_passes _ _) (sy_subw_ix [0, 1, 2, 3, 4, 5, 6, 7, 8, 10, 11, 12, 14] rfl)) (fun _ _ e1 => (sy_fr_ite (jzX12_firstDark_29 z8 _ _ _ e1) (jzX12_firstDark_29 z8 _ _ _ e1))))) (jzX12_firstDark_35  _ _ e))))
theorem jzX12_firstDark {M0 : sy_M} : ∀ (M : sy_M), sy_eqw (jW_X12_firstDark) M0 M → sy_fr (jW_X12_firstDark) M0 (jfX12_firstDark M) := by
  intro  M e
  exact (sy_fr_bv (sy_fr_up e (jzoX12_putsAside  _) (sy_subw_ix [13] rfl)) (fun _ e1 => jzX12_firstDark_8  6000 _ _ _ e1))
theorem jzoX12_firstDark (M : sy_M) : sy_fr (jW_X12_firstDark) M (jfX12_firstDark M) := jzX12_firstDark  M sy_eqw_refl
def jW_X12_lasts : List (Nat × Option Nat) := [(121, some 0), (121, some 9), (121, some 10), (121, some 11), (121, some 12), (121, some 13), (121, some 15), (121, some 16), (121, some 17), (121, some 18), (121, some 19), (121, some 20), (121, some 21), (122, none), (124, none), (127, none)]
theorem jzX12_lasts {M0 : sy_M} : ∀ (M : sy_M), sy_eqw (jW_X12_lasts) M0 M → sy_fr (jW_X12_lasts) M0 (jfX12_lasts M) := by
  intro  M e
  exact (sy_fr_bi (sy_fr_up (sy_eqw_uf (sy_eqw_uf e 0 rfl) 10 rfl) (jzoX12_firstDark  _) (sy_subw_ix [1, 2, 3, 4, 5, 6, 7, 8, 9, 10, 11, 12, 13, 14, 15] rfl)) (fun _ _ e1 => sy_fr_end e1))
theorem jzoX12_lasts (M : sy_M) : sy_fr (jW_X12_lasts) M (jfX12_lasts M) := jzX12_lasts  M sy_eqw_refl
def jW_X11_out : List (Nat × Option Nat) := [(19, some 3), (19, some 4), (19, some 5), (19, some 6), (19, some 7), (19, some 8), (19, some 9), (19, some 10), (19, some 11), (19, some 12), (19, some 13), (20, none), (21, none), (22, some 2), (22, some 3), (23, none), (50, none), (51, none), (52, none)]
theorem jzX11_out {M0 : sy_M} : ∀ (M : sy_M), sy_eqw (jW_X11_out) M0 M → sy_fr (jW_X11_out) M0 (jfX11_out M) := by
  intro  M e
  exact (sy_fr_bi (sy_fr_up e (jzoX11_firstDark  _) (sy_subw_ix [0, 1, 2, 3, 4, 5, 6, 7, 8, 9, 10, 11, 12, 13, 14, 15, 16, 17, 18] rfl)) (fun _ _ e1 => sy_fr_end e1))
theorem jzoX11_out (M : sy_M) : sy_fr (jW_X11_out) M (jfX11_out M) := jzX11_out  M sy_eqw_refl
def jW_X12_out : List (Nat × Option Nat) := [(121, some 0), (121, some 9), (121, some 10), (121, some 11), (121, some 12), (121, some 13), (121, some 15), (121, some 16), (121, some 17), (121, some 18), (121, some 19), (121, some 20), (121, some 21), (122, none), (124, none), (127, none)]
theorem jzX12_out {M0 : sy_M} : ∀ (M : sy_M), sy_eqw (jW_X12_out) M0 M → sy_fr (jW_X12_out) M0 (jfX12_out M) := by
  intro  M e
  exact (sy_fr_bi (sy_fr_up (sy_eqw_uf e 0 rfl) (jzoX12_firstDark  _) (sy_subw_ix [1, 2, 3, 4, 5, 6, 7, 8, 9, 10, 11, 12, 13, 14, 15] rfl)) (fun _ _ e1 => sy_fr_end e1))
theorem jzoX12_out (M : sy_M) : sy_fr (jW_X12_out) M (jfX12_out M) := jzX12_out  M sy_eqw_refl
def jW_X11_feeder : List (Nat × Option Nat) := [(19, some 3), (19, some 4), (19, some 5), (19, some 6), (19, some 7), (19, some 8), (19, some 9), (19, some 10), (19, some 11), (19, some 12), (19, some 13), (20, none), (21, none), (22, some 2), (22, some 3), (23, none), (50, none), (51, none), (52, none)]
theorem jzX11_feeder_6 {M0 : sy_M} : ∀ n : Nat, ∀ (a1 : Int32) (M : sy_M), sy_eqw (jW_X11_feeder) M0 M → sy_fr (jW_X11_feeder) M0 (jfX11_feeder_6 n a1 M) := by
  intro n
  induction n with
  | zero => intro a1 M e; exact sy_fr_none
  | succ n z6 => intro a1 M e; exact (sy_fr_ite (sy_fr_end e) ((sy_fr_bi (sy_fr_up e (jzoX8_pass _ _ _ _) (sy_subw_ix [2, 3, 4, 6, 8, 9, 10, 11, 13, 14, 15, 18] rfl)) (fun _ _ e1 => (sy_fr_ite (z6 _ _ e1) (sy_fr_end e1))))))
theorem jzX11_feeder {M0 : sy_M} : ∀ (M : sy_M), sy_eqw (jW_X11_feeder) M0 M → sy_fr (jW_X11_feeder) M0 (jfX11_feeder M) := by
  intro  M e
  exact (sy_fr_bv (sy_fr_up e (jzoX11_start  _) (sy_subw_ix [0, 1, 2, 3, 4, 5, 6, 7, 8, 9, 10, 11, 12, 13, 14, 15, 16, 17] rfl)) (fun _ e1 => jzX11_feeder_6  6000 _ _ e1))
theorem jzoX11_feeder (M : sy_M) : sy_fr (jW_X11_feeder) M (jfX11_feeder M) := jzX11_feeder  M sy_eqw_refl
def jW_X12_feeder : List (Nat × Option Nat) := [(121, some 0), (121, some 9), (121, some 10), (121, some 11), (121, some 12), (121, some 13), (121, some 15), (121, some 16), (121, some 17), (121, some 18), (121, some 20), (121, some 21), (122, none), (124, none), (127, none)]
theorem jzX12_feeder {M0 : sy_M} : ∀ (M : sy_M), sy_eqw (jW_X12_feeder) M0 M → sy_fr (jW_X12_feeder) M0 (jfX12_feeder M) := by
  intro  M e
  exact (sy_fr_bv (sy_fr_up (sy_eqw_uf e 0 rfl) (jzoX12_putsAside  _) (sy_subw_ix [13] rfl)) (fun _ e1 => (sy_fr_bi (sy_fr_up e1 (jzoX12_goes _ _ _) (sy_subw_ix [1, 2, 3, 4, 5, 6, 7, 8, 9, 10, 11, 12, 14] rfl)) (fun _ _ e2 => (sy_fr_bv (sy_fr_up e2 (jzoX12_comesBack  _) (sy_subw_ix [12] rfl)) (fun _ e3 => sy_fr_end e3))))))
theorem jzoX12_feeder (M : sy_M) : sy_fr (jW_X12_feeder) M (jfX12_feeder M) := jzX12_feeder  M sy_eqw_refl
def jW_X11_firstColder : List (Nat × Option Nat) := []
theorem jzX11_firstColder_2 {M0 : sy_M} : ∀ n : Nat, ∀ (a1 : Int32) (M : sy_M), sy_eqw (jW_X11_firstColder) M0 M → sy_fr (jW_X11_firstColder) M0 (jfX11_firstColder_2 n a1 M) := by
  intro n
  induction n with
  | zero => intro a1 M e; exact sy_fr_none
  | succ n z2 => intro a1 M e; exact (sy_fr_ite ((sy_fr_bi (sy_fr_up e (jzoX2_get _ _ _ _) (sy_subw_ix [] rfl)) (fun _ _ e1 => (sy_fr_bi (sy_fr_up e1 (jzoX2_get _ _ _ _) (sy_subw_ix [] rfl)) (fun _ _ e2 => (sy_fr_ite (sy_fr_end e2) (z2 _ _ e2))))))) (sy_fr_end e))
theorem jzX11_firstColder {M0 : sy_M} : ∀ (M : sy_M), sy_eqw (jW_X11_firstColder) M0 M → sy_fr (jW_X11_firstColder) M0 (jfX11_firstColder M) := by
  intro  M e
  exact jzX11_firstColder_2  6000 _ _ e
theorem jzoX11_firstColder (M : sy_M) : sy_fr (jW_X11_firstColder) M (jfX11_firstColder M) := jzX11_firstColder  M sy_eqw_refl
def jW_X11_shiver : List (Nat × Option Nat) := [(19, some 3), (19, some 4), (19, some 5), (19, some 6), (19, some 7), (19, some 8), (19, some 9), (19, some 10), (19, some 11), (19, some 12), (19, some 13), (20, none), (21, none), (22, some 2), (22, some 3), (23, none), (50, none), (51, none), (52, none)]
theorem jzX11_shiver_6 {M0 : sy_M} : ∀ n : Nat, ∀ (a1 : Int32) (M : sy_M), sy_eqw (jW_X11_shiver) M0 M → sy_fr (jW_X11_shiver) M0 (jfX11_shiver_6 n a1 M) := by
  intro n
  induction n with
  | zero => intro a1 M e; exact sy_fr_none
  | succ n z6 => intro a1 M e; exact (sy_fr_ite (sy_fr_end e) ((sy_fr_bi (sy_fr_up e (jzoX8_pass _ _ _ _) (sy_subw_ix [2, 3, 4, 6, 8, 9, 10, 11, 13, 14, 15, 18] rfl)) (fun _ _ e1 => (sy_fr_bi (sy_fr_up e1 (jzoX11_firstColder  _) (sy_subw_ix [] rfl)) (fun _ _ e2 => (sy_fr_ite (z6 _ _ e2) (sy_fr_end e2))))))))
theorem jzX11_shiver {M0 : sy_M} : ∀ (M : sy_M), sy_eqw (jW_X11_shiver) M0 M → sy_fr (jW_X11_shiver) M0 (jfX11_shiver M) := by
  intro  M e
  exact (sy_fr_bv (sy_fr_up e (jzoX11_start  _) (sy_subw_ix [0, 1, 2, 3, 4, 5, 6, 7, 8, 9, 10, 11, 12, 13, 14, 15, 16, 17] rfl)) (fun _ e1 => jzX11_shiver_6  6000 _ _ e1))
theorem jzoX11_shiver (M : sy_M) : sy_fr (jW_X11_shiver) M (jfX11_shiver M) := jzX11_shiver  M sy_eqw_refl
def jW_X12_keepsColds : List (Nat × Option Nat) := [(128, none)]
theorem jzX12_keepsColds_2 {M0 : sy_M} : ∀ n : Nat, ∀ (a1 : Int32) (M : sy_M), sy_eqw (jW_X12_keepsColds) M0 M → sy_fr (jW_X12_keepsColds) M0 (jfX12_keepsColds_2 n a1 M) := by
  intro n
  induction n with
  | zero => intro a1 M e; exact sy_fr_none
  | succ n z2 => intro a1 M e; exact (sy_fr_ite ((sy_fr_bi (sy_fr_up e (jzoX12_of _ _ _) (sy_subw_ix [] rfl)) (fun _ _ e1 => (sy_fr_cond (z2 _ _ (sy_eqw_ua e1 0 rfl)))))) (sy_fr_end e))
theorem jzX12_keepsColds {M0 : sy_M} : ∀ (M : sy_M), sy_eqw (jW_X12_keepsColds) M0 M → sy_fr (jW_X12_keepsColds) M0 (jfX12_keepsColds M) := by
  intro  M e
  exact jzX12_keepsColds_2  6000 _ _ e
theorem jzoX12_keepsColds (M : sy_M) : sy_fr (jW_X12_keepsColds) M (jfX12_keepsColds M) := jzX12_keepsColds  M sy_eqw_refl
def jW_X12_colder : List (Nat × Option Nat) := []
theorem jzX12_colder_2 {M0 : sy_M} : ∀ n : Nat, ∀ (a1 : Int32) (M : sy_M), sy_eqw (jW_X12_colder) M0 M → sy_fr (jW_X12_colder) M0 (jfX12_colder_2 n a1 M) := by
  intro n
  induction n with
  | zero => intro a1 M e; exact sy_fr_none
  | succ n z2 => intro a1 M e; exact (sy_fr_ite ((sy_fr_bi (sy_fr_up e (jzoX12_of _ _ _) (sy_subw_ix [] rfl)) (fun _ _ e1 => (sy_fr_cond ((sy_fr_ite (sy_fr_end e1) (z2 _ _ e1))))))) (sy_fr_end e))
theorem jzX12_colder {M0 : sy_M} : ∀ (M : sy_M), sy_eqw (jW_X12_colder) M0 M → sy_fr (jW_X12_colder) M0 (jfX12_colder M) := by
  intro  M e
  exact jzX12_colder_2  6000 _ _ e
theorem jzoX12_colder (M : sy_M) : sy_fr (jW_X12_colder) M (jfX12_colder M) := jzX12_colder  M sy_eqw_refl
def jW_X12_shiver : List (Nat × Option Nat) := [(121, some 0), (121, some 9), (121, some 10), (121, some 11), (121, some 12), (121, some 13), (121, some 15), (121, some 16), (121, some 17), (121, some 18), (121, some 20), (121, some 21), (122, none), (124, none), (127, none), (128, none)]
theorem jzX12_shiver_45 {M0 : sy_M} : ∀ (a1 : Int32) (M : sy_M), sy_eqw (jW_X12_shiver) M0 M → sy_fr (jW_X12_shiver) M0 (jfX12_shiver_45 a1 M) := by
  intro a1 M e
  exact (sy_fr_bv (sy_fr_up e (jzoX12_comesBack  _) (sy_subw_ix [12] rfl)) (fun _ e1 => sy_fr_end e1))
theorem jzX12_shiver_17 {M0 : sy_M} : ∀ n : Nat, ∀ (a1 : Int32) (a2 : Int32) (M : sy_M), sy_eqw (jW_X12_shiver) M0 M → sy_fr (jW_X12_shiver) M0 (jfX12_shiver_17 n a1 a2 M) := by
  intro n
  induction n with
  | zero => intro a1 a2 M e; exact sy_fr_none
  | succ n z17 => intro a1 a2 M e; exact (sy_fr_ite ((sy_fr_ite ((sy_fr_bi (sy_fr_up e (jzoX12_passes _ _) (sy_subw_ix [1, 2, 3, 4, 5, 6, 7, 8, 9, 10, 11, 12, 14] rfl)) (fun _ _ e1 => (sy_fr_bi (sy_fr_up e1 (jzoX12_colder  _) (sy_subw_ix [] rfl)) (fun _ _ e2 => z17 _ _ _ e2))))) (jzX12_shiver_45  _ _ e))) (jzX12_shiver_45  _ _ e))
theorem jzX12_shiver {M0 : sy_M} : ∀ (M : sy_M), sy_eqw (jW_X12_shiver) M0 M → sy_fr (jW_X12_shiver) M0 (jfX12_shiver M) := by
  intro  M e
  exact (sy_fr_bv (sy_fr_up (sy_eqw_uf e 0 rfl) (jzoX12_keepsColds  _) (sy_subw_ix [15] rfl)) (fun _ e1 => (sy_fr_bv (sy_fr_up e1 (jzoX12_putsAside  _) (sy_subw_ix [13] rfl)) (fun _ e2 => jzX12_shiver_17  6000 _ _ _ e2))))
theorem jzoX12_shiver (M : sy_M) : sy_fr (jW_X12_shiver) M (jfX12_shiver M) := jzX12_shiver  M sy_eqw_refl
def jW_X11_after : List (Nat × Option Nat) := [(133, some 0), (19, some 3), (19, some 4), (19, some 5), (19, some 6), (19, some 7), (19, some 8), (19, some 9), (19, some 10), (19, some 11), (19, some 12), (19, some 13), (20, none), (21, none), (22, some 2), (22, some 3), (23, none), (50, none), (51, none), (52, none)]
theorem jzX11_after_71 {M0 : sy_M} : ∀ (s0 : Int32) (s1 : Int32) (M : sy_M), sy_eqw (jW_X11_after) M0 M → sy_fr (jW_X11_after) M0 (jfX11_after_71 s0 s1 M) := by
  intro s0 s1 M e
  exact (sy_fr_bi (sy_fr_up e (jzoX2_get _ _ _ _) (sy_subw_ix [] rfl)) (fun _ _ e1 => sy_fr_end e1))
theorem jzX11_after {M0 : sy_M} : ∀ (a1 : Int32) (a2 : Int32) (a3 : Int32) (M : sy_M), sy_eqw (jW_X11_after) M0 M → sy_fr (jW_X11_after) M0 (jfX11_after a1 a2 a3 M) := by
  intro a1 a2 a3 M e
  exact (sy_fr_bv (sy_fr_up e (jzoX11_checkLodger _ _) (sy_subw_ix [0] rfl)) (fun _ e1 => (sy_fr_bv (sy_fr_up e1 (jzoX11_checkRange _ _ _ _) (sy_subw_ix [0] rfl)) (fun _ e2 => (sy_fr_ite ((sy_fr_cond (sy_fr_end (sy_eqw_uf e2 0 rfl)))) ((sy_fr_ite ((sy_fr_cond (sy_fr_end (sy_eqw_uf e2 0 rfl)))) ((sy_fr_bv (sy_fr_up e2 (jzoX11_start  _) (sy_subw_ix [1, 2, 3, 4, 5, 6, 7, 8, 9, 10, 11, 12, 13, 14, 15, 16, 17, 18] rfl)) (fun _ e3 => (sy_fr_bi (sy_fr_up e3 (jzoX11_run _ _ _) (sy_subw_ix [3, 4, 5, 7, 9, 10, 11, 12, 14, 15, 16, 19] rfl)) (fun _ _ e4 => (sy_fr_ite ((sy_fr_bi (sy_fr_up e4 (jzoX2_get _ _ _ _) (sy_subw_ix [] rfl)) (fun _ _ e5 => sy_fr_end e5))) ((sy_fr_ite (jzX11_after_71  _ _ _ e4) (jzX11_after_71  _ _ _ e4))))))))))))))))
theorem jzoX11_after (a1 : Int32) (a2 : Int32) (a3 : Int32) (M : sy_M) : sy_fr (jW_X11_after) M (jfX11_after a1 a2 a3 M) := jzX11_after a1 a2 a3 M sy_eqw_refl
def jW_L_after : List (Nat × Option Nat) := [(132, none), (133, some 0), (19, some 3), (19, some 4), (19, some 5), (19, some 6), (19, some 7), (19, some 8), (19, some 9), (19, some 10), (19, some 11), (19, some 12), (19, some 13), (20, none), (21, none), (22, some 2), (22, some 3), (23, none), (50, none), (51, none), (52, none)]
theorem jzL_after {M0 : sy_M} : ∀ (a1 : Int32) (a2 : Int32) (a3 : Int32) (M : sy_M), sy_eqw (jW_L_after) M0 M → sy_fr (jW_L_after) M0 (jfL_after a1 a2 a3 M) := by
  intro a1 a2 a3 M e
  exact (sy_fr_hi (sy_fr_up e (jzoX11_after _ _ _ _) (sy_subw_ix [1, 2, 3, 4, 5, 6, 7, 8, 9, 10, 11, 12, 13, 14, 15, 16, 17, 18, 19, 20] rfl)) (fun _ _ e1 => sy_fr_end (sy_eqw_wl e1 0 rfl)) (fun _ _ e1 => (sy_fr_ite (sy_fr_end e1) (sy_fr_ite (sy_fr_end e1) (sy_fr_ite (sy_fr_end e1) sy_fr_none)))))
theorem jzoL_after (a1 : Int32) (a2 : Int32) (a3 : Int32) (M : sy_M) : sy_fr (jW_L_after) M (jfL_after a1 a2 a3 M) := jzL_after a1 a2 a3 M sy_eqw_refl
def jW_X12_after : List (Nat × Option Nat) := [(121, some 0), (121, some 9), (121, some 10), (121, some 11), (121, some 12), (121, some 13), (121, some 15), (121, some 16), (121, some 17), (121, some 18), (121, some 20), (121, some 21), (122, none), (124, none), (127, none)]
theorem jzX12_after_87 {M0 : sy_M} : ∀ (s0 : Int32) (s1 : Int32) (M : sy_M), sy_eqw (jW_X12_after) M0 M → sy_fr (jW_X12_after) M0 (jfX12_after_87 s0 s1 M) := by
  intro s0 s1 M e
  exact (sy_fr_bi (sy_fr_up e (jzoX12_of _ _ _) (sy_subw_ix [] rfl)) (fun _ _ e1 => (sy_fr_bv (sy_fr_up e1 (jzoX12_comesBack  _) (sy_subw_ix [12] rfl)) (fun _ e2 => sy_fr_end e2))))
theorem jzX12_after_41 {M0 : sy_M} : ∀ (a1 : Int32) (a2 : Int32) (a3 : Int32) (s0 : Int32) (M : sy_M), sy_eqw (jW_X12_after) M0 M → sy_fr (jW_X12_after) M0 (jfX12_after_41 a1 a2 a3 s0 M) := by
  intro a1 a2 a3 s0 M e
  exact (sy_fr_ite (sy_fr_end (sy_eqw_uf e 0 rfl)) ((sy_fr_bv (sy_fr_up (sy_eqw_uf e 0 rfl) (jzoX12_putsAside  _) (sy_subw_ix [13] rfl)) (fun _ e1 => (sy_fr_bi (sy_fr_up e1 (jzoX12_goes _ _ _) (sy_subw_ix [1, 2, 3, 4, 5, 6, 7, 8, 9, 10, 11, 12, 14] rfl)) (fun _ _ e2 => (sy_fr_ite (jzX12_after_87  _ _ _ e2) ((sy_fr_ite (jzX12_after_87  _ _ _ e2) (jzX12_after_87  _ _ _ e2))))))))))
theorem jzX12_after {M0 : sy_M} : ∀ (a1 : Int32) (a2 : Int32) (a3 : Int32) (M : sy_M), sy_eqw (jW_X12_after) M0 M → sy_fr (jW_X12_after) M0 (jfX12_after a1 a2 a3 M) := by
  intro a1 a2 a3 M e
  exact (sy_fr_bi (sy_fr_up e (jzoX12_isLodger _ _) (sy_subw_ix [] rfl)) (fun _ _ e1 => (sy_fr_ite (jzX12_after_41  _ _ _ _ _ e1) ((sy_fr_bi (sy_fr_up e1 (jzoX12_isIn _ _ _ _) (sy_subw_ix [] rfl)) (fun _ _ e2 => (sy_fr_ite (jzX12_after_41  _ _ _ _ _ e2) ((sy_fr_bi (sy_fr_up e2 (jzoX12_isIn _ _ _ _) (sy_subw_ix [] rfl)) (fun _ _ e3 => (sy_fr_ite (jzX12_after_41  _ _ _ _ _ e3) (jzX12_after_41  _ _ _ _ _ e3))))))))))))
theorem jzoX12_after (a1 : Int32) (a2 : Int32) (a3 : Int32) (M : sy_M) : sy_fr (jW_X12_after) M (jfX12_after a1 a2 a3 M) := jzX12_after a1 a2 a3 M sy_eqw_refl
def jW_X11_coins : List (Nat × Option Nat) := [(133, some 0), (50, none), (51, none)]
theorem jzX11_coins_29 {M0 : sy_M} : ∀ n : Nat, ∀ (a1 : Int32) (a2 : Int32) (a3 : Int32) (M : sy_M), sy_eqw (jW_X11_coins) M0 M → sy_fr (jW_X11_coins) M0 (jfX11_coins_29 n a1 a2 a3 M) := by
  intro n
  induction n with
  | zero => intro a1 a2 a3 M e; exact sy_fr_none
  | succ n z29 => intro a1 a2 a3 M e; exact (sy_fr_ite ((sy_fr_bi (sy_fr_up e (jzoX8_needsAt _ _) (sy_subw_ix [] rfl)) (fun _ _ e1 => z29 _ _ _ _ e1))) ((sy_fr_ite ((sy_fr_ite (sy_fr_end e) ((sy_fr_ite sy_fr_none (sy_fr_end e))))) (sy_fr_end e))))
theorem jzX11_coins {M0 : sy_M} : ∀ (a1 : Int32) (M : sy_M), sy_eqw (jW_X11_coins) M0 M → sy_fr (jW_X11_coins) M0 (jfX11_coins a1 M) := by
  intro a1 M e
  exact (sy_fr_bv (sy_fr_up e (jzoX11_checkRange _ _ _ _) (sy_subw_ix [0] rfl)) (fun _ e1 => (sy_fr_bv (sy_fr_up e1 (jzoX8_learn _ _) (sy_subw_ix [1, 2] rfl)) (fun _ e2 => jzX11_coins_29  6000 _ _ _ _ e2))))
theorem jzoX11_coins (a1 : Int32) (M : sy_M) : sy_fr (jW_X11_coins) M (jfX11_coins a1 M) := jzX11_coins a1 M sy_eqw_refl
def jW_L_coins : List (Nat × Option Nat) := [(132, none), (133, some 0), (50, none), (51, none)]
theorem jzL_coins {M0 : sy_M} : ∀ (a1 : Int32) (M : sy_M), sy_eqw (jW_L_coins) M0 M → sy_fr (jW_L_coins) M0 (jfL_coins a1 M) := by
  intro a1 M e
  exact (sy_fr_hi (sy_fr_up e (jzoX11_coins _ _) (sy_subw_ix [1, 2, 3] rfl)) (fun _ _ e1 => sy_fr_end (sy_eqw_wl e1 0 rfl)) (fun _ _ e1 => (sy_fr_ite (sy_fr_end e1) sy_fr_none)))
theorem jzoL_coins (a1 : Int32) (M : sy_M) : sy_fr (jW_L_coins) M (jfL_coins a1 M) := jzL_coins a1 M sy_eqw_refl
def jW_X12_greater : List (Nat × Option Nat) := []
theorem jzX12_greater {M0 : sy_M} : ∀ (a0 : Int32) (a1 : Int32) (M : sy_M), sy_eqw (jW_X12_greater) M0 M → sy_fr (jW_X12_greater) M0 (jfX12_greater a0 a1 M) := by
  intro a0 a1 M e
  exact (sy_fr_ite (sy_fr_end e) (sy_fr_end e))
theorem jzoX12_greater (a0 : Int32) (a1 : Int32) (M : sy_M) : sy_fr (jW_X12_greater) M (jfX12_greater a0 a1 M) := jzX12_greater a0 a1 M sy_eqw_refl
def jW_X12_coins : List (Nat × Option Nat) := [(121, some 0)]
theorem jzX12_coins_32 {M0 : sy_M} : ∀ n : Nat, ∀ (a1 : Int32) (a2 : Int32) (a3 : Int32) (M : sy_M), sy_eqw (jW_X12_coins) M0 M → sy_fr (jW_X12_coins) M0 (jfX12_coins_32 n a1 a2 a3 M) := by
  intro n
  induction n with
  | zero => intro a1 a2 a3 M e; exact sy_fr_none
  | succ n z32 => intro a1 a2 a3 M e; exact (sy_fr_ite ((sy_fr_bi (sy_fr_up e (jzoX12_needsIn _ _) (sy_subw_ix [] rfl)) (fun _ _ e2 => z32 _ _ _ _ e2))) ((sy_fr_bi (sy_fr_up e (jzoX12_greater _ _ _) (sy_subw_ix [] rfl)) (fun _ _ e1 => (sy_fr_ite sy_fr_none (sy_fr_end e1))))))
theorem jzX12_coins_16 {M0 : sy_M} : ∀ (a1 : Int32) (s0 : Int32) (M : sy_M), sy_eqw (jW_X12_coins) M0 M → sy_fr (jW_X12_coins) M0 (jfX12_coins_16 a1 s0 M) := by
  intro a1 s0 M e
  exact (sy_fr_ite (sy_fr_end (sy_eqw_uf e 0 rfl)) (jzX12_coins_32  6000 _ _ _ _ (sy_eqw_uf e 0 rfl)))
theorem jzX12_coins {M0 : sy_M} : ∀ (a1 : Int32) (M : sy_M), sy_eqw (jW_X12_coins) M0 M → sy_fr (jW_X12_coins) M0 (jfX12_coins a1 M) := by
  intro a1 M e
  exact (sy_fr_bi (sy_fr_up e (jzoX12_isIn _ _ _ _) (sy_subw_ix [] rfl)) (fun _ _ e1 => (sy_fr_ite (jzX12_coins_16  _ _ _ e1) (jzX12_coins_16  _ _ _ e1))))
theorem jzoX12_coins (a1 : Int32) (M : sy_M) : sy_fr (jW_X12_coins) M (jfX12_coins a1 M) := jzX12_coins a1 M sy_eqw_refl
def jW_X11_ease : List (Nat × Option Nat) := [(133, some 0), (19, some 3), (19, some 4), (19, some 5), (19, some 6), (19, some 7), (19, some 8), (19, some 9), (19, some 10), (19, some 11), (19, some 12), (19, some 13), (20, none), (21, none), (22, some 2), (22, some 3), (23, none), (50, none), (51, none), (52, none)]
theorem jzX11_ease_20 {M0 : sy_M} : ∀ n : Nat, ∀ (a1 : Int32) (a2 : Int32) (M : sy_M), sy_eqw (jW_X11_ease) M0 M → sy_fr (jW_X11_ease) M0 (jfX11_ease_20 n a1 a2 M) := by
  intro n
  induction n with
  | zero => intro a1 a2 M e; exact sy_fr_none
  | succ n z20 => intro a1 a2 M e; exact (sy_fr_ite (sy_fr_end e) ((sy_fr_bv (sy_fr_up e (jzoX2_takeOver _ _ _) (sy_subw_ix [1, 2, 3, 4, 5, 6, 7, 8, 9, 10, 11, 12, 13, 14, 15, 16] rfl)) (fun _ e1 => (sy_fr_bv (sy_fr_up e1 (jzoX2_addGas _ _ _) (sy_subw_ix [5] rfl)) (fun _ e2 => (sy_fr_bi (sy_fr_up e2 (jzoX11_run _ _ _) (sy_subw_ix [3, 4, 5, 7, 9, 10, 11, 12, 14, 15, 16, 19] rfl)) (fun _ _ e3 => (sy_fr_bi (sy_fr_up e3 (jzoX11_firstColder  _) (sy_subw_ix [] rfl)) (fun _ _ e4 => (sy_fr_ite (sy_fr_end e4) (z20 _ _ _ e4))))))))))))
theorem jzX11_ease {M0 : sy_M} : ∀ (a1 : Int32) (M : sy_M), sy_eqw (jW_X11_ease) M0 M → sy_fr (jW_X11_ease) M0 (jfX11_ease a1 M) := by
  intro a1 M e
  exact (sy_fr_bv (sy_fr_up e (jzoX11_checkRange _ _ _ _) (sy_subw_ix [0] rfl)) (fun _ e1 => (sy_fr_bv (sy_fr_up e1 (jzoX8_learn _ _) (sy_subw_ix [17, 18] rfl)) (fun _ e2 => jzX11_ease_20  6000 _ _ _ e2))))
theorem jzoX11_ease (a1 : Int32) (M : sy_M) : sy_fr (jW_X11_ease) M (jfX11_ease a1 M) := jzX11_ease a1 M sy_eqw_refl
def jW_L_ease : List (Nat × Option Nat) := [(132, none), (133, some 0), (19, some 3), (19, some 4), (19, some 5), (19, some 6), (19, some 7), (19, some 8), (19, some 9), (19, some 10), (19, some 11), (19, some 12), (19, some 13), (20, none), (21, none), (22, some 2), (22, some 3), (23, none), (50, none), (51, none), (52, none)]
theorem jzL_ease {M0 : sy_M} : ∀ (a1 : Int32) (M : sy_M), sy_eqw (jW_L_ease) M0 M → sy_fr (jW_L_ease) M0 (jfL_ease a1 M) := by
  intro a1 M e
  exact (sy_fr_hi (sy_fr_up e (jzoX11_ease _ _) (sy_subw_ix [1, 2, 3, 4, 5, 6, 7, 8, 9, 10, 11, 12, 13, 14, 15, 16, 17, 18, 19, 20] rfl)) (fun _ _ e1 => sy_fr_end (sy_eqw_wl e1 0 rfl)) (fun _ _ e1 => (sy_fr_ite (sy_fr_end e1) sy_fr_none)))
theorem jzoL_ease (a1 : Int32) (M : sy_M) : sy_fr (jW_L_ease) M (jfL_ease a1 M) := jzL_ease a1 M sy_eqw_refl
def jW_X12_ease : List (Nat × Option Nat) := [(121, some 0), (121, some 9), (121, some 10), (121, some 11), (121, some 12), (121, some 13), (121, some 15), (121, some 16), (121, some 17), (121, some 18), (121, some 20), (121, some 21), (122, none), (124, none), (127, none), (128, none)]
theorem jzX12_ease_99 {M0 : sy_M} {k40 : Int32 → Int32 → Int32 → sy_M → sy_O} (z40 : ∀ (a1 : Int32) (a2 : Int32) (a3 : Int32) (M : sy_M), sy_eqw (jW_X12_ease) M0 M → sy_fr (jW_X12_ease) M0 (k40 a1 a2 a3 M)) : ∀ (a1 : Int32) (a2 : Int32) (a3 : Int32) (M : sy_M), sy_eqw (jW_X12_ease) M0 M → sy_fr (jW_X12_ease) M0 (jfX12_ease_99 k40 a1 a2 a3 M) := by
  intro a1 a2 a3 M e
  exact (sy_fr_bv (sy_fr_up e (jzoX12_comesBack  _) (sy_subw_ix [12] rfl)) (fun _ e1 => z40 _ _ _ _ e1))
theorem jzX12_ease_40 {M0 : sy_M} : ∀ n : Nat, ∀ (a1 : Int32) (a2 : Int32) (a3 : Int32) (M : sy_M), sy_eqw (jW_X12_ease) M0 M → sy_fr (jW_X12_ease) M0 (jfX12_ease_40 n a1 a2 a3 M) := by
  intro n
  induction n with
  | zero => intro a1 a2 a3 M e; exact sy_fr_none
  | succ n z40 => intro a1 a2 a3 M e; exact (sy_fr_ite (sy_fr_end e) ((sy_fr_ite ((sy_fr_bi (sy_fr_up e (jzoX12_lesser _ _ _) (sy_subw_ix [] rfl)) (fun _ _ e1 => (sy_fr_bi (sy_fr_up (sy_eqw_ua e1 12 rfl) (jzoX12_goes _ _ _) (sy_subw_ix [1, 2, 3, 4, 5, 6, 7, 8, 9, 10, 11, 12, 14] rfl)) (fun _ _ e2 => (sy_fr_bi (sy_fr_up e2 (jzoX12_colder  _) (sy_subw_ix [] rfl)) (fun _ _ e3 => (sy_fr_ite (jzX12_ease_99 z40 _ _ _ _ e3) (jzX12_ease_99 z40 _ _ _ _ e3))))))))) (sy_fr_end e))))
theorem jzX12_ease_16 {M0 : sy_M} : ∀ (a1 : Int32) (s0 : Int32) (M : sy_M), sy_eqw (jW_X12_ease) M0 M → sy_fr (jW_X12_ease) M0 (jfX12_ease_16 a1 s0 M) := by
  intro a1 s0 M e
  exact (sy_fr_ite (sy_fr_end (sy_eqw_uf e 0 rfl)) ((sy_fr_bv (sy_fr_up (sy_eqw_uf e 0 rfl) (jzoX12_keepsColds  _) (sy_subw_ix [15] rfl)) (fun _ e1 => (sy_fr_bv (sy_fr_up e1 (jzoX12_putsAside  _) (sy_subw_ix [13] rfl)) (fun _ e2 => jzX12_ease_40  6000 _ _ _ _ e2))))))
theorem jzX12_ease {M0 : sy_M} : ∀ (a1 : Int32) (M : sy_M), sy_eqw (jW_X12_ease) M0 M → sy_fr (jW_X12_ease) M0 (jfX12_ease a1 M) := by
  intro a1 M e
  exact (sy_fr_bi (sy_fr_up e (jzoX12_isIn _ _ _ _) (sy_subw_ix [] rfl)) (fun _ _ e1 => (sy_fr_ite (jzX12_ease_16  _ _ _ e1) (jzX12_ease_16  _ _ _ e1))))
theorem jzoX12_ease (a1 : Int32) (M : sy_M) : sy_fr (jW_X12_ease) M (jfX12_ease a1 M) := jzX12_ease a1 M sy_eqw_refl
def jW_X11_grief : List (Nat × Option Nat) := [(133, some 0), (19, some 3), (19, some 4), (19, some 5), (19, some 6), (19, some 7), (19, some 8), (19, some 9), (19, some 10), (19, some 11), (19, some 12), (19, some 13), (20, none), (21, none), (22, some 2), (22, some 3), (23, none), (50, none), (51, none), (52, none)]
theorem jzX11_grief {M0 : sy_M} : ∀ (a1 : Int32) (a2 : Int32) (M : sy_M), sy_eqw (jW_X11_grief) M0 M → sy_fr (jW_X11_grief) M0 (jfX11_grief a1 a2 M) := by
  intro a1 a2 M e
  exact (sy_fr_bv (sy_fr_up e (jzoX11_checkLodger _ _) (sy_subw_ix [0] rfl)) (fun _ e1 => (sy_fr_bv (sy_fr_up e1 (jzoX11_checkRange _ _ _ _) (sy_subw_ix [0] rfl)) (fun _ e2 => (sy_fr_bv (sy_fr_up e2 (jzoX8_learn _ _) (sy_subw_ix [17, 18] rfl)) (fun _ e3 => (sy_fr_bi (sy_fr_up e3 (jzoX11_griefBy _ _ _) (sy_subw_ix [1, 2, 3, 4, 5, 6, 7, 8, 9, 10, 11, 12, 13, 14, 15, 16, 19] rfl)) (fun _ _ e4 => sy_fr_end e4))))))))
theorem jzoX11_grief (a1 : Int32) (a2 : Int32) (M : sy_M) : sy_fr (jW_X11_grief) M (jfX11_grief a1 a2 M) := jzX11_grief a1 a2 M sy_eqw_refl
