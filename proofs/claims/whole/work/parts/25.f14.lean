/-! ===== functions of the methods (14); written by wip/whole/run_f.py ===== -/
noncomputable section
/-! L_law_ StairMeterLaw law ([I)Z [('R', 1000000)] -/
def juL_law__3150 (k : Int32 → sy_M → sy_O) (ls st : List Value) (M : sy_M) : sy_O := sy_xc 1000000 ls fun l => sy_xc 0 l fun l => sy_xc 121 l fun l => sy_xc 132 l fun l => sy_xi l fun a4 l => sy_xv l fun _ l => sy_xv l fun _ l => sy_xn l (sy_xn st (k a4 M))
theorem jwL_law__3150 {d : Nat} {k : Int32 → sy_M → sy_O} (hk : ∀ (w5 : Value) (w6 : Value) (a4 : Int32) (M : sy_M) (r : xe_R × sy_M), k a4 M = some r → sy_E (d) qL_law_ 3150 [.ref 1000000, .ref 0, .ref 121, .ref 132, .int a4, w5, w6] [] M r) : ∀ ls st M r, juL_law__3150 k ls st M = some r → sy_E d qL_law_ 3150 ls st M r := by
  intro ls st M r h
  obtain ⟨l, e, h1⟩ := sy_xc_ok h; subst e
  obtain ⟨l, e, h2⟩ := sy_xc_ok h1; subst e
  obtain ⟨l, e, h3⟩ := sy_xc_ok h2; subst e
  obtain ⟨l, e, h4⟩ := sy_xc_ok h3; subst e
  obtain ⟨a4, l, e, h5⟩ := sy_xi_ok h4; subst e
  obtain ⟨w5, l, e, h6⟩ := sy_xv_ok h5; subst e
  obtain ⟨w6, l, e, h7⟩ := sy_xv_ok h6; subst e
  obtain ⟨e, h8⟩ := sy_xn_ok h7; subst e
  obtain ⟨e, h9⟩ := sy_xn_ok h8; subst e
  exact hk _ _ a4 M r h9
def juL_law__308 (k : Int32 → sy_M → sy_O) (ls st : List Value) (M : sy_M) : sy_O := sy_xc 1000000 ls fun l => sy_xc 0 l fun l => sy_xc 121 l fun l => sy_xc 132 l fun l => sy_xi l fun a4 l => sy_xv l fun _ l => sy_xv l fun _ l => sy_xn l (sy_xn st (k a4 M))
theorem jwL_law__308 {d : Nat} {k : Int32 → sy_M → sy_O} (hk : ∀ (w5 : Value) (w6 : Value) (a4 : Int32) (M : sy_M) (r : xe_R × sy_M), k a4 M = some r → sy_E (d) qL_law_ 308 [.ref 1000000, .ref 0, .ref 121, .ref 132, .int a4, w5, w6] [] M r) : ∀ ls st M r, juL_law__308 k ls st M = some r → sy_E d qL_law_ 308 ls st M r := by
  intro ls st M r h
  obtain ⟨l, e, h1⟩ := sy_xc_ok h; subst e
  obtain ⟨l, e, h2⟩ := sy_xc_ok h1; subst e
  obtain ⟨l, e, h3⟩ := sy_xc_ok h2; subst e
  obtain ⟨l, e, h4⟩ := sy_xc_ok h3; subst e
  obtain ⟨a4, l, e, h5⟩ := sy_xi_ok h4; subst e
  obtain ⟨w5, l, e, h6⟩ := sy_xv_ok h5; subst e
  obtain ⟨w6, l, e, h7⟩ := sy_xv_ok h6; subst e
  obtain ⟨e, h8⟩ := sy_xn_ok h7; subst e
  obtain ⟨e, h9⟩ := sy_xn_ok h8; subst e
  exact hk _ _ a4 M r h9
def juL_law__381 (k : Int32 → sy_M → sy_O) (ls st : List Value) (M : sy_M) : sy_O := sy_xc 1000000 ls fun l => sy_xc 0 l fun l => sy_xc 121 l fun l => sy_xc 132 l fun l => sy_xi l fun a4 l => sy_xv l fun _ l => sy_xv l fun _ l => sy_xn l (sy_xn st (k a4 M))
theorem jwL_law__381 {d : Nat} {k : Int32 → sy_M → sy_O} (hk : ∀ (w5 : Value) (w6 : Value) (a4 : Int32) (M : sy_M) (r : xe_R × sy_M), k a4 M = some r → sy_E (d) qL_law_ 381 [.ref 1000000, .ref 0, .ref 121, .ref 132, .int a4, w5, w6] [] M r) : ∀ ls st M r, juL_law__381 k ls st M = some r → sy_E d qL_law_ 381 ls st M r := by
  intro ls st M r h
  obtain ⟨l, e, h1⟩ := sy_xc_ok h; subst e
  obtain ⟨l, e, h2⟩ := sy_xc_ok h1; subst e
  obtain ⟨l, e, h3⟩ := sy_xc_ok h2; subst e
  obtain ⟨l, e, h4⟩ := sy_xc_ok h3; subst e
  obtain ⟨a4, l, e, h5⟩ := sy_xi_ok h4; subst e
  obtain ⟨w5, l, e, h6⟩ := sy_xv_ok h5; subst e
  obtain ⟨w6, l, e, h7⟩ := sy_xv_ok h6; subst e
  obtain ⟨e, h8⟩ := sy_xn_ok h7; subst e
  obtain ⟨e, h9⟩ := sy_xn_ok h8; subst e
  exact hk _ _ a4 M r h9
def juL_law__447 (k : Int32 → sy_M → sy_O) (ls st : List Value) (M : sy_M) : sy_O := sy_xc 1000000 ls fun l => sy_xc 0 l fun l => sy_xc 121 l fun l => sy_xc 132 l fun l => sy_xi l fun a4 l => sy_xv l fun _ l => sy_xv l fun _ l => sy_xn l (sy_xn st (k a4 M))
theorem jwL_law__447 {d : Nat} {k : Int32 → sy_M → sy_O} (hk : ∀ (w5 : Value) (w6 : Value) (a4 : Int32) (M : sy_M) (r : xe_R × sy_M), k a4 M = some r → sy_E (d) qL_law_ 447 [.ref 1000000, .ref 0, .ref 121, .ref 132, .int a4, w5, w6] [] M r) : ∀ ls st M r, juL_law__447 k ls st M = some r → sy_E d qL_law_ 447 ls st M r := by
  intro ls st M r h
  obtain ⟨l, e, h1⟩ := sy_xc_ok h; subst e
  obtain ⟨l, e, h2⟩ := sy_xc_ok h1; subst e
  obtain ⟨l, e, h3⟩ := sy_xc_ok h2; subst e
  obtain ⟨l, e, h4⟩ := sy_xc_ok h3; subst e
  obtain ⟨a4, l, e, h5⟩ := sy_xi_ok h4; subst e
  obtain ⟨w5, l, e, h6⟩ := sy_xv_ok h5; subst e
  obtain ⟨w6, l, e, h7⟩ := sy_xv_ok h6; subst e
  obtain ⟨e, h8⟩ := sy_xn_ok h7; subst e
  obtain ⟨e, h9⟩ := sy_xn_ok h8; subst e
  exact hk _ _ a4 M r h9
def juL_law__406 (k : Int32 → sy_M → sy_O) (ls st : List Value) (M : sy_M) : sy_O := sy_xc 1000000 ls fun l => sy_xc 0 l fun l => sy_xc 121 l fun l => sy_xc 132 l fun l => sy_xi l fun a4 l => sy_xv l fun _ l => sy_xv l fun _ l => sy_xn l (sy_xn st (k a4 M))
theorem jwL_law__406 {d : Nat} {k : Int32 → sy_M → sy_O} (hk : ∀ (w5 : Value) (w6 : Value) (a4 : Int32) (M : sy_M) (r : xe_R × sy_M), k a4 M = some r → sy_E (d) qL_law_ 406 [.ref 1000000, .ref 0, .ref 121, .ref 132, .int a4, w5, w6] [] M r) : ∀ ls st M r, juL_law__406 k ls st M = some r → sy_E d qL_law_ 406 ls st M r := by
  intro ls st M r h
  obtain ⟨l, e, h1⟩ := sy_xc_ok h; subst e
  obtain ⟨l, e, h2⟩ := sy_xc_ok h1; subst e
  obtain ⟨l, e, h3⟩ := sy_xc_ok h2; subst e
  obtain ⟨l, e, h4⟩ := sy_xc_ok h3; subst e
  obtain ⟨a4, l, e, h5⟩ := sy_xi_ok h4; subst e
  obtain ⟨w5, l, e, h6⟩ := sy_xv_ok h5; subst e
  obtain ⟨w6, l, e, h7⟩ := sy_xv_ok h6; subst e
  obtain ⟨e, h8⟩ := sy_xn_ok h7; subst e
  obtain ⟨e, h9⟩ := sy_xn_ok h8; subst e
  exact hk _ _ a4 M r h9
def juL_law__491 (k : Int32 → sy_M → sy_O) (ls st : List Value) (M : sy_M) : sy_O := sy_xc 1000000 ls fun l => sy_xc 0 l fun l => sy_xc 121 l fun l => sy_xc 132 l fun l => sy_xi l fun a4 l => sy_xv l fun _ l => sy_xv l fun _ l => sy_xn l (sy_xn st (k a4 M))
theorem jwL_law__491 {d : Nat} {k : Int32 → sy_M → sy_O} (hk : ∀ (w5 : Value) (w6 : Value) (a4 : Int32) (M : sy_M) (r : xe_R × sy_M), k a4 M = some r → sy_E (d) qL_law_ 491 [.ref 1000000, .ref 0, .ref 121, .ref 132, .int a4, w5, w6] [] M r) : ∀ ls st M r, juL_law__491 k ls st M = some r → sy_E d qL_law_ 491 ls st M r := by
  intro ls st M r h
  obtain ⟨l, e, h1⟩ := sy_xc_ok h; subst e
  obtain ⟨l, e, h2⟩ := sy_xc_ok h1; subst e
  obtain ⟨l, e, h3⟩ := sy_xc_ok h2; subst e
  obtain ⟨l, e, h4⟩ := sy_xc_ok h3; subst e
  obtain ⟨a4, l, e, h5⟩ := sy_xi_ok h4; subst e
  obtain ⟨w5, l, e, h6⟩ := sy_xv_ok h5; subst e
  obtain ⟨w6, l, e, h7⟩ := sy_xv_ok h6; subst e
  obtain ⟨e, h8⟩ := sy_xn_ok h7; subst e
  obtain ⟨e, h9⟩ := sy_xn_ok h8; subst e
  exact hk _ _ a4 M r h9
def juL_law__450 (k : Int32 → sy_M → sy_O) (ls st : List Value) (M : sy_M) : sy_O := sy_xc 1000000 ls fun l => sy_xc 0 l fun l => sy_xc 121 l fun l => sy_xc 132 l fun l => sy_xi l fun a4 l => sy_xv l fun _ l => sy_xv l fun _ l => sy_xn l (sy_xn st (k a4 M))
theorem jwL_law__450 {d : Nat} {k : Int32 → sy_M → sy_O} (hk : ∀ (w5 : Value) (w6 : Value) (a4 : Int32) (M : sy_M) (r : xe_R × sy_M), k a4 M = some r → sy_E (d) qL_law_ 450 [.ref 1000000, .ref 0, .ref 121, .ref 132, .int a4, w5, w6] [] M r) : ∀ ls st M r, juL_law__450 k ls st M = some r → sy_E d qL_law_ 450 ls st M r := by
  intro ls st M r h
  obtain ⟨l, e, h1⟩ := sy_xc_ok h; subst e
  obtain ⟨l, e, h2⟩ := sy_xc_ok h1; subst e
  obtain ⟨l, e, h3⟩ := sy_xc_ok h2; subst e
  obtain ⟨l, e, h4⟩ := sy_xc_ok h3; subst e
  obtain ⟨a4, l, e, h5⟩ := sy_xi_ok h4; subst e
  obtain ⟨w5, l, e, h6⟩ := sy_xv_ok h5; subst e
  obtain ⟨w6, l, e, h7⟩ := sy_xv_ok h6; subst e
  obtain ⟨e, h8⟩ := sy_xn_ok h7; subst e
  obtain ⟨e, h9⟩ := sy_xn_ok h8; subst e
  exact hk _ _ a4 M r h9
def juL_law__494 (k : Int32 → sy_M → sy_O) (ls st : List Value) (M : sy_M) : sy_O := sy_xc 1000000 ls fun l => sy_xc 0 l fun l => sy_xc 121 l fun l => sy_xc 132 l fun l => sy_xi l fun a4 l => sy_xv l fun _ l => sy_xv l fun _ l => sy_xn l (sy_xn st (k a4 M))
theorem jwL_law__494 {d : Nat} {k : Int32 → sy_M → sy_O} (hk : ∀ (w5 : Value) (w6 : Value) (a4 : Int32) (M : sy_M) (r : xe_R × sy_M), k a4 M = some r → sy_E (d) qL_law_ 494 [.ref 1000000, .ref 0, .ref 121, .ref 132, .int a4, w5, w6] [] M r) : ∀ ls st M r, juL_law__494 k ls st M = some r → sy_E d qL_law_ 494 ls st M r := by
  intro ls st M r h
  obtain ⟨l, e, h1⟩ := sy_xc_ok h; subst e
  obtain ⟨l, e, h2⟩ := sy_xc_ok h1; subst e
  obtain ⟨l, e, h3⟩ := sy_xc_ok h2; subst e
  obtain ⟨l, e, h4⟩ := sy_xc_ok h3; subst e
  obtain ⟨a4, l, e, h5⟩ := sy_xi_ok h4; subst e
  obtain ⟨w5, l, e, h6⟩ := sy_xv_ok h5; subst e
  obtain ⟨w6, l, e, h7⟩ := sy_xv_ok h6; subst e
  obtain ⟨e, h8⟩ := sy_xn_ok h7; subst e
  obtain ⟨e, h9⟩ := sy_xn_ok h8; subst e
  exact hk _ _ a4 M r h9
def juL_law__572 (k : Int32 → sy_M → sy_O) (ls st : List Value) (M : sy_M) : sy_O := sy_xc 1000000 ls fun l => sy_xc 0 l fun l => sy_xc 121 l fun l => sy_xc 132 l fun l => sy_xi l fun a4 l => sy_xv l fun _ l => sy_xv l fun _ l => sy_xn l (sy_xn st (k a4 M))
theorem jwL_law__572 {d : Nat} {k : Int32 → sy_M → sy_O} (hk : ∀ (w5 : Value) (w6 : Value) (a4 : Int32) (M : sy_M) (r : xe_R × sy_M), k a4 M = some r → sy_E (d) qL_law_ 572 [.ref 1000000, .ref 0, .ref 121, .ref 132, .int a4, w5, w6] [] M r) : ∀ ls st M r, juL_law__572 k ls st M = some r → sy_E d qL_law_ 572 ls st M r := by
  intro ls st M r h
  obtain ⟨l, e, h1⟩ := sy_xc_ok h; subst e
  obtain ⟨l, e, h2⟩ := sy_xc_ok h1; subst e
  obtain ⟨l, e, h3⟩ := sy_xc_ok h2; subst e
  obtain ⟨l, e, h4⟩ := sy_xc_ok h3; subst e
  obtain ⟨a4, l, e, h5⟩ := sy_xi_ok h4; subst e
  obtain ⟨w5, l, e, h6⟩ := sy_xv_ok h5; subst e
  obtain ⟨w6, l, e, h7⟩ := sy_xv_ok h6; subst e
  obtain ⟨e, h8⟩ := sy_xn_ok h7; subst e
  obtain ⟨e, h9⟩ := sy_xn_ok h8; subst e
  exact hk _ _ a4 M r h9
def juL_law__507 (k : Int32 → sy_M → sy_O) (ls st : List Value) (M : sy_M) : sy_O := sy_xc 1000000 ls fun l => sy_xc 0 l fun l => sy_xc 121 l fun l => sy_xc 132 l fun l => sy_xi l fun a4 l => sy_xv l fun _ l => sy_xv l fun _ l => sy_xn l (sy_xn st (k a4 M))
theorem jwL_law__507 {d : Nat} {k : Int32 → sy_M → sy_O} (hk : ∀ (w5 : Value) (w6 : Value) (a4 : Int32) (M : sy_M) (r : xe_R × sy_M), k a4 M = some r → sy_E (d) qL_law_ 507 [.ref 1000000, .ref 0, .ref 121, .ref 132, .int a4, w5, w6] [] M r) : ∀ ls st M r, juL_law__507 k ls st M = some r → sy_E d qL_law_ 507 ls st M r := by
  intro ls st M r h
  obtain ⟨l, e, h1⟩ := sy_xc_ok h; subst e
  obtain ⟨l, e, h2⟩ := sy_xc_ok h1; subst e
  obtain ⟨l, e, h3⟩ := sy_xc_ok h2; subst e
  obtain ⟨l, e, h4⟩ := sy_xc_ok h3; subst e
  obtain ⟨a4, l, e, h5⟩ := sy_xi_ok h4; subst e
  obtain ⟨w5, l, e, h6⟩ := sy_xv_ok h5; subst e
  obtain ⟨w6, l, e, h7⟩ := sy_xv_ok h6; subst e
  obtain ⟨e, h8⟩ := sy_xn_ok h7; subst e
  obtain ⟨e, h9⟩ := sy_xn_ok h8; subst e
  exact hk _ _ a4 M r h9
def juL_law__640 (k : Int32 → sy_M → sy_O) (ls st : List Value) (M : sy_M) : sy_O := sy_xc 1000000 ls fun l => sy_xc 0 l fun l => sy_xc 121 l fun l => sy_xc 132 l fun l => sy_xi l fun a4 l => sy_xv l fun _ l => sy_xv l fun _ l => sy_xn l (sy_xn st (k a4 M))
theorem jwL_law__640 {d : Nat} {k : Int32 → sy_M → sy_O} (hk : ∀ (w5 : Value) (w6 : Value) (a4 : Int32) (M : sy_M) (r : xe_R × sy_M), k a4 M = some r → sy_E (d) qL_law_ 640 [.ref 1000000, .ref 0, .ref 121, .ref 132, .int a4, w5, w6] [] M r) : ∀ ls st M r, juL_law__640 k ls st M = some r → sy_E d qL_law_ 640 ls st M r := by
  intro ls st M r h
  obtain ⟨l, e, h1⟩ := sy_xc_ok h; subst e
  obtain ⟨l, e, h2⟩ := sy_xc_ok h1; subst e
  obtain ⟨l, e, h3⟩ := sy_xc_ok h2; subst e
  obtain ⟨l, e, h4⟩ := sy_xc_ok h3; subst e
  obtain ⟨a4, l, e, h5⟩ := sy_xi_ok h4; subst e
  obtain ⟨w5, l, e, h6⟩ := sy_xv_ok h5; subst e
  obtain ⟨w6, l, e, h7⟩ := sy_xv_ok h6; subst e
  obtain ⟨e, h8⟩ := sy_xn_ok h7; subst e
  obtain ⟨e, h9⟩ := sy_xn_ok h8; subst e
  exact hk _ _ a4 M r h9
def juL_law__575 (k : Int32 → sy_M → sy_O) (ls st : List Value) (M : sy_M) : sy_O := sy_xc 1000000 ls fun l => sy_xc 0 l fun l => sy_xc 121 l fun l => sy_xc 132 l fun l => sy_xi l fun a4 l => sy_xv l fun _ l => sy_xv l fun _ l => sy_xn l (sy_xn st (k a4 M))
theorem jwL_law__575 {d : Nat} {k : Int32 → sy_M → sy_O} (hk : ∀ (w5 : Value) (w6 : Value) (a4 : Int32) (M : sy_M) (r : xe_R × sy_M), k a4 M = some r → sy_E (d) qL_law_ 575 [.ref 1000000, .ref 0, .ref 121, .ref 132, .int a4, w5, w6] [] M r) : ∀ ls st M r, juL_law__575 k ls st M = some r → sy_E d qL_law_ 575 ls st M r := by
  intro ls st M r h
  obtain ⟨l, e, h1⟩ := sy_xc_ok h; subst e
  obtain ⟨l, e, h2⟩ := sy_xc_ok h1; subst e
  obtain ⟨l, e, h3⟩ := sy_xc_ok h2; subst e
  obtain ⟨l, e, h4⟩ := sy_xc_ok h3; subst e
  obtain ⟨a4, l, e, h5⟩ := sy_xi_ok h4; subst e
  obtain ⟨w5, l, e, h6⟩ := sy_xv_ok h5; subst e
  obtain ⟨w6, l, e, h7⟩ := sy_xv_ok h6; subst e
  obtain ⟨e, h8⟩ := sy_xn_ok h7; subst e
  obtain ⟨e, h9⟩ := sy_xn_ok h8; subst e
  exact hk _ _ a4 M r h9
def juL_law__715 (k : Int32 → sy_M → sy_O) (ls st : List Value) (M : sy_M) : sy_O := sy_xc 1000000 ls fun l => sy_xc 0 l fun l => sy_xc 121 l fun l => sy_xc 132 l fun l => sy_xi l fun a4 l => sy_xv l fun _ l => sy_xv l fun _ l => sy_xn l (sy_xn st (k a4 M))
theorem jwL_law__715 {d : Nat} {k : Int32 → sy_M → sy_O} (hk : ∀ (w5 : Value) (w6 : Value) (a4 : Int32) (M : sy_M) (r : xe_R × sy_M), k a4 M = some r → sy_E (d) qL_law_ 715 [.ref 1000000, .ref 0, .ref 121, .ref 132, .int a4, w5, w6] [] M r) : ∀ ls st M r, juL_law__715 k ls st M = some r → sy_E d qL_law_ 715 ls st M r := by
  intro ls st M r h
  obtain ⟨l, e, h1⟩ := sy_xc_ok h; subst e
  obtain ⟨l, e, h2⟩ := sy_xc_ok h1; subst e
  obtain ⟨l, e, h3⟩ := sy_xc_ok h2; subst e
  obtain ⟨l, e, h4⟩ := sy_xc_ok h3; subst e
  obtain ⟨a4, l, e, h5⟩ := sy_xi_ok h4; subst e
  obtain ⟨w5, l, e, h6⟩ := sy_xv_ok h5; subst e
  obtain ⟨w6, l, e, h7⟩ := sy_xv_ok h6; subst e
  obtain ⟨e, h8⟩ := sy_xn_ok h7; subst e
  obtain ⟨e, h9⟩ := sy_xn_ok h8; subst e
  exact hk _ _ a4 M r h9
def juL_law__709 (k : Int32 → Int64 → Int64 → sy_M → sy_O) (ls st : List Value) (M : sy_M) : sy_O := sy_xc 1000000 ls fun l => sy_xc 0 l fun l => sy_xc 121 l fun l => sy_xc 132 l fun l => sy_xi l fun a4 l => sy_xv l fun _ l => sy_xv l fun _ l => sy_xn l (sy_xl st fun s0 l => sy_xl l fun s1 l => sy_xn l (k a4 s0 s1 M))
theorem jwL_law__709 {d : Nat} {k : Int32 → Int64 → Int64 → sy_M → sy_O} (hk : ∀ (w5 : Value) (w6 : Value) (a4 : Int32) (s0 : Int64) (s1 : Int64) (M : sy_M) (r : xe_R × sy_M), k a4 s0 s1 M = some r → sy_E (d) qL_law_ 709 [.ref 1000000, .ref 0, .ref 121, .ref 132, .int a4, w5, w6] [.long s0, .long s1] M r) : ∀ ls st M r, juL_law__709 k ls st M = some r → sy_E d qL_law_ 709 ls st M r := by
  intro ls st M r h
  obtain ⟨l, e, h1⟩ := sy_xc_ok h; subst e
  obtain ⟨l, e, h2⟩ := sy_xc_ok h1; subst e
  obtain ⟨l, e, h3⟩ := sy_xc_ok h2; subst e
  obtain ⟨l, e, h4⟩ := sy_xc_ok h3; subst e
  obtain ⟨a4, l, e, h5⟩ := sy_xi_ok h4; subst e
  obtain ⟨w5, l, e, h6⟩ := sy_xv_ok h5; subst e
  obtain ⟨w6, l, e, h7⟩ := sy_xv_ok h6; subst e
  obtain ⟨e, h8⟩ := sy_xn_ok h7; subst e
  obtain ⟨s0, l, e, h9⟩ := sy_xl_ok h8; subst e
  obtain ⟨s1, l, e, h10⟩ := sy_xl_ok h9; subst e
  obtain ⟨e, h11⟩ := sy_xn_ok h10; subst e
  exact hk _ _ a4 s0 s1 M r h11
def juL_law__643 (k : Int32 → sy_M → sy_O) (ls st : List Value) (M : sy_M) : sy_O := sy_xc 1000000 ls fun l => sy_xc 0 l fun l => sy_xc 121 l fun l => sy_xc 132 l fun l => sy_xi l fun a4 l => sy_xv l fun _ l => sy_xv l fun _ l => sy_xn l (sy_xn st (k a4 M))
theorem jwL_law__643 {d : Nat} {k : Int32 → sy_M → sy_O} (hk : ∀ (w5 : Value) (w6 : Value) (a4 : Int32) (M : sy_M) (r : xe_R × sy_M), k a4 M = some r → sy_E (d) qL_law_ 643 [.ref 1000000, .ref 0, .ref 121, .ref 132, .int a4, w5, w6] [] M r) : ∀ ls st M r, juL_law__643 k ls st M = some r → sy_E d qL_law_ 643 ls st M r := by
  intro ls st M r h
  obtain ⟨l, e, h1⟩ := sy_xc_ok h; subst e
  obtain ⟨l, e, h2⟩ := sy_xc_ok h1; subst e
  obtain ⟨l, e, h3⟩ := sy_xc_ok h2; subst e
  obtain ⟨l, e, h4⟩ := sy_xc_ok h3; subst e
  obtain ⟨a4, l, e, h5⟩ := sy_xi_ok h4; subst e
  obtain ⟨w5, l, e, h6⟩ := sy_xv_ok h5; subst e
  obtain ⟨w6, l, e, h7⟩ := sy_xv_ok h6; subst e
  obtain ⟨e, h8⟩ := sy_xn_ok h7; subst e
  obtain ⟨e, h9⟩ := sy_xn_ok h8; subst e
  exact hk _ _ a4 M r h9
def juL_law__771 (k : Int32 → sy_M → sy_O) (ls st : List Value) (M : sy_M) : sy_O := sy_xc 1000000 ls fun l => sy_xc 0 l fun l => sy_xc 121 l fun l => sy_xc 132 l fun l => sy_xi l fun a4 l => sy_xv l fun _ l => sy_xv l fun _ l => sy_xn l (sy_xn st (k a4 M))
theorem jwL_law__771 {d : Nat} {k : Int32 → sy_M → sy_O} (hk : ∀ (w5 : Value) (w6 : Value) (a4 : Int32) (M : sy_M) (r : xe_R × sy_M), k a4 M = some r → sy_E (d) qL_law_ 771 [.ref 1000000, .ref 0, .ref 121, .ref 132, .int a4, w5, w6] [] M r) : ∀ ls st M r, juL_law__771 k ls st M = some r → sy_E d qL_law_ 771 ls st M r := by
  intro ls st M r h
  obtain ⟨l, e, h1⟩ := sy_xc_ok h; subst e
  obtain ⟨l, e, h2⟩ := sy_xc_ok h1; subst e
  obtain ⟨l, e, h3⟩ := sy_xc_ok h2; subst e
  obtain ⟨l, e, h4⟩ := sy_xc_ok h3; subst e
  obtain ⟨a4, l, e, h5⟩ := sy_xi_ok h4; subst e
  obtain ⟨w5, l, e, h6⟩ := sy_xv_ok h5; subst e
  obtain ⟨w6, l, e, h7⟩ := sy_xv_ok h6; subst e
  obtain ⟨e, h8⟩ := sy_xn_ok h7; subst e
  obtain ⟨e, h9⟩ := sy_xn_ok h8; subst e
  exact hk _ _ a4 M r h9
def juL_law__718 (k : Int32 → sy_M → sy_O) (ls st : List Value) (M : sy_M) : sy_O := sy_xc 1000000 ls fun l => sy_xc 0 l fun l => sy_xc 121 l fun l => sy_xc 132 l fun l => sy_xi l fun a4 l => sy_xv l fun _ l => sy_xv l fun _ l => sy_xn l (sy_xn st (k a4 M))
theorem jwL_law__718 {d : Nat} {k : Int32 → sy_M → sy_O} (hk : ∀ (w5 : Value) (w6 : Value) (a4 : Int32) (M : sy_M) (r : xe_R × sy_M), k a4 M = some r → sy_E (d) qL_law_ 718 [.ref 1000000, .ref 0, .ref 121, .ref 132, .int a4, w5, w6] [] M r) : ∀ ls st M r, juL_law__718 k ls st M = some r → sy_E d qL_law_ 718 ls st M r := by
  intro ls st M r h
  obtain ⟨l, e, h1⟩ := sy_xc_ok h; subst e
  obtain ⟨l, e, h2⟩ := sy_xc_ok h1; subst e
  obtain ⟨l, e, h3⟩ := sy_xc_ok h2; subst e
  obtain ⟨l, e, h4⟩ := sy_xc_ok h3; subst e
  obtain ⟨a4, l, e, h5⟩ := sy_xi_ok h4; subst e
  obtain ⟨w5, l, e, h6⟩ := sy_xv_ok h5; subst e
  obtain ⟨w6, l, e, h7⟩ := sy_xv_ok h6; subst e
  obtain ⟨e, h8⟩ := sy_xn_ok h7; subst e
  obtain ⟨e, h9⟩ := sy_xn_ok h8; subst e
  exact hk _ _ a4 M r h9
def juL_law__827 (k : Int32 → sy_M → sy_O) (ls st : List Value) (M : sy_M) : sy_O := sy_xc 1000000 ls fun l => sy_xc 0 l fun l => sy_xc 121 l fun l => sy_xc 132 l fun l => sy_xi l fun a4 l => sy_xv l fun _ l => sy_xv l fun _ l => sy_xn l (sy_xn st (k a4 M))
theorem jwL_law__827 {d : Nat} {k : Int32 → sy_M → sy_O} (hk : ∀ (w5 : Value) (w6 : Value) (a4 : Int32) (M : sy_M) (r : xe_R × sy_M), k a4 M = some r → sy_E (d) qL_law_ 827 [.ref 1000000, .ref 0, .ref 121, .ref 132, .int a4, w5, w6] [] M r) : ∀ ls st M r, juL_law__827 k ls st M = some r → sy_E d qL_law_ 827 ls st M r := by
  intro ls st M r h
  obtain ⟨l, e, h1⟩ := sy_xc_ok h; subst e
  obtain ⟨l, e, h2⟩ := sy_xc_ok h1; subst e
  obtain ⟨l, e, h3⟩ := sy_xc_ok h2; subst e
  obtain ⟨l, e, h4⟩ := sy_xc_ok h3; subst e
  obtain ⟨a4, l, e, h5⟩ := sy_xi_ok h4; subst e
  obtain ⟨w5, l, e, h6⟩ := sy_xv_ok h5; subst e
  obtain ⟨w6, l, e, h7⟩ := sy_xv_ok h6; subst e
  obtain ⟨e, h8⟩ := sy_xn_ok h7; subst e
  obtain ⟨e, h9⟩ := sy_xn_ok h8; subst e
  exact hk _ _ a4 M r h9
def juL_law__774 (k : Int32 → sy_M → sy_O) (ls st : List Value) (M : sy_M) : sy_O := sy_xc 1000000 ls fun l => sy_xc 0 l fun l => sy_xc 121 l fun l => sy_xc 132 l fun l => sy_xi l fun a4 l => sy_xv l fun _ l => sy_xv l fun _ l => sy_xn l (sy_xn st (k a4 M))
theorem jwL_law__774 {d : Nat} {k : Int32 → sy_M → sy_O} (hk : ∀ (w5 : Value) (w6 : Value) (a4 : Int32) (M : sy_M) (r : xe_R × sy_M), k a4 M = some r → sy_E (d) qL_law_ 774 [.ref 1000000, .ref 0, .ref 121, .ref 132, .int a4, w5, w6] [] M r) : ∀ ls st M r, juL_law__774 k ls st M = some r → sy_E d qL_law_ 774 ls st M r := by
  intro ls st M r h
  obtain ⟨l, e, h1⟩ := sy_xc_ok h; subst e
  obtain ⟨l, e, h2⟩ := sy_xc_ok h1; subst e
  obtain ⟨l, e, h3⟩ := sy_xc_ok h2; subst e
  obtain ⟨l, e, h4⟩ := sy_xc_ok h3; subst e
  obtain ⟨a4, l, e, h5⟩ := sy_xi_ok h4; subst e
  obtain ⟨w5, l, e, h6⟩ := sy_xv_ok h5; subst e
  obtain ⟨w6, l, e, h7⟩ := sy_xv_ok h6; subst e
  obtain ⟨e, h8⟩ := sy_xn_ok h7; subst e
  obtain ⟨e, h9⟩ := sy_xn_ok h8; subst e
  exact hk _ _ a4 M r h9
def juL_law__883 (k : Int32 → sy_M → sy_O) (ls st : List Value) (M : sy_M) : sy_O := sy_xc 1000000 ls fun l => sy_xc 0 l fun l => sy_xc 121 l fun l => sy_xc 132 l fun l => sy_xi l fun a4 l => sy_xv l fun _ l => sy_xv l fun _ l => sy_xn l (sy_xn st (k a4 M))
theorem jwL_law__883 {d : Nat} {k : Int32 → sy_M → sy_O} (hk : ∀ (w5 : Value) (w6 : Value) (a4 : Int32) (M : sy_M) (r : xe_R × sy_M), k a4 M = some r → sy_E (d) qL_law_ 883 [.ref 1000000, .ref 0, .ref 121, .ref 132, .int a4, w5, w6] [] M r) : ∀ ls st M r, juL_law__883 k ls st M = some r → sy_E d qL_law_ 883 ls st M r := by
  intro ls st M r h
  obtain ⟨l, e, h1⟩ := sy_xc_ok h; subst e
  obtain ⟨l, e, h2⟩ := sy_xc_ok h1; subst e
  obtain ⟨l, e, h3⟩ := sy_xc_ok h2; subst e
  obtain ⟨l, e, h4⟩ := sy_xc_ok h3; subst e
  obtain ⟨a4, l, e, h5⟩ := sy_xi_ok h4; subst e
  obtain ⟨w5, l, e, h6⟩ := sy_xv_ok h5; subst e
  obtain ⟨w6, l, e, h7⟩ := sy_xv_ok h6; subst e
  obtain ⟨e, h8⟩ := sy_xn_ok h7; subst e
  obtain ⟨e, h9⟩ := sy_xn_ok h8; subst e
  exact hk _ _ a4 M r h9
def juL_law__830 (k : Int32 → sy_M → sy_O) (ls st : List Value) (M : sy_M) : sy_O := sy_xc 1000000 ls fun l => sy_xc 0 l fun l => sy_xc 121 l fun l => sy_xc 132 l fun l => sy_xi l fun a4 l => sy_xv l fun _ l => sy_xv l fun _ l => sy_xn l (sy_xn st (k a4 M))
theorem jwL_law__830 {d : Nat} {k : Int32 → sy_M → sy_O} (hk : ∀ (w5 : Value) (w6 : Value) (a4 : Int32) (M : sy_M) (r : xe_R × sy_M), k a4 M = some r → sy_E (d) qL_law_ 830 [.ref 1000000, .ref 0, .ref 121, .ref 132, .int a4, w5, w6] [] M r) : ∀ ls st M r, juL_law__830 k ls st M = some r → sy_E d qL_law_ 830 ls st M r := by
  intro ls st M r h
  obtain ⟨l, e, h1⟩ := sy_xc_ok h; subst e
  obtain ⟨l, e, h2⟩ := sy_xc_ok h1; subst e
  obtain ⟨l, e, h3⟩ := sy_xc_ok h2; subst e
  obtain ⟨l, e, h4⟩ := sy_xc_ok h3; subst e
  obtain ⟨a4, l, e, h5⟩ := sy_xi_ok h4; subst e
  obtain ⟨w5, l, e, h6⟩ := sy_xv_ok h5; subst e
  obtain ⟨w6, l, e, h7⟩ := sy_xv_ok h6; subst e
  obtain ⟨e, h8⟩ := sy_xn_ok h7; subst e
  obtain ⟨e, h9⟩ := sy_xn_ok h8; subst e
  exact hk _ _ a4 M r h9
def juL_law__951 (k : Int32 → sy_M → sy_O) (ls st : List Value) (M : sy_M) : sy_O := sy_xc 1000000 ls fun l => sy_xc 0 l fun l => sy_xc 121 l fun l => sy_xc 132 l fun l => sy_xi l fun a4 l => sy_xv l fun _ l => sy_xv l fun _ l => sy_xn l (sy_xn st (k a4 M))
theorem jwL_law__951 {d : Nat} {k : Int32 → sy_M → sy_O} (hk : ∀ (w5 : Value) (w6 : Value) (a4 : Int32) (M : sy_M) (r : xe_R × sy_M), k a4 M = some r → sy_E (d) qL_law_ 951 [.ref 1000000, .ref 0, .ref 121, .ref 132, .int a4, w5, w6] [] M r) : ∀ ls st M r, juL_law__951 k ls st M = some r → sy_E d qL_law_ 951 ls st M r := by
  intro ls st M r h
  obtain ⟨l, e, h1⟩ := sy_xc_ok h; subst e
  obtain ⟨l, e, h2⟩ := sy_xc_ok h1; subst e
  obtain ⟨l, e, h3⟩ := sy_xc_ok h2; subst e
  obtain ⟨l, e, h4⟩ := sy_xc_ok h3; subst e
  obtain ⟨a4, l, e, h5⟩ := sy_xi_ok h4; subst e
  obtain ⟨w5, l, e, h6⟩ := sy_xv_ok h5; subst e
  obtain ⟨w6, l, e, h7⟩ := sy_xv_ok h6; subst e
  obtain ⟨e, h8⟩ := sy_xn_ok h7; subst e
  obtain ⟨e, h9⟩ := sy_xn_ok h8; subst e
  exact hk _ _ a4 M r h9
def juL_law__886 (k : Int32 → sy_M → sy_O) (ls st : List Value) (M : sy_M) : sy_O := sy_xc 1000000 ls fun l => sy_xc 0 l fun l => sy_xc 121 l fun l => sy_xc 132 l fun l => sy_xi l fun a4 l => sy_xv l fun _ l => sy_xv l fun _ l => sy_xn l (sy_xn st (k a4 M))
theorem jwL_law__886 {d : Nat} {k : Int32 → sy_M → sy_O} (hk : ∀ (w5 : Value) (w6 : Value) (a4 : Int32) (M : sy_M) (r : xe_R × sy_M), k a4 M = some r → sy_E (d) qL_law_ 886 [.ref 1000000, .ref 0, .ref 121, .ref 132, .int a4, w5, w6] [] M r) : ∀ ls st M r, juL_law__886 k ls st M = some r → sy_E d qL_law_ 886 ls st M r := by
  intro ls st M r h
  obtain ⟨l, e, h1⟩ := sy_xc_ok h; subst e
  obtain ⟨l, e, h2⟩ := sy_xc_ok h1; subst e
  obtain ⟨l, e, h3⟩ := sy_xc_ok h2; subst e
  obtain ⟨l, e, h4⟩ := sy_xc_ok h3; subst e
  obtain ⟨a4, l, e, h5⟩ := sy_xi_ok h4; subst e
  obtain ⟨w5, l, e, h6⟩ := sy_xv_ok h5; subst e
  obtain ⟨w6, l, e, h7⟩ := sy_xv_ok h6; subst e
  obtain ⟨e, h8⟩ := sy_xn_ok h7; subst e
  obtain ⟨e, h9⟩ := sy_xn_ok h8; subst e
  exact hk _ _ a4 M r h9
def juL_law__1019 (k : Int32 → sy_M → sy_O) (ls st : List Value) (M : sy_M) : sy_O := sy_xc 1000000 ls fun l => sy_xc 0 l fun l => sy_xc 121 l fun l => sy_xc 132 l fun l => sy_xi l fun a4 l => sy_xv l fun _ l => sy_xv l fun _ l => sy_xn l (sy_xn st (k a4 M))
theorem jwL_law__1019 {d : Nat} {k : Int32 → sy_M → sy_O} (hk : ∀ (w5 : Value) (w6 : Value) (a4 : Int32) (M : sy_M) (r : xe_R × sy_M), k a4 M = some r → sy_E (d) qL_law_ 1019 [.ref 1000000, .ref 0, .ref 121, .ref 132, .int a4, w5, w6] [] M r) : ∀ ls st M r, juL_law__1019 k ls st M = some r → sy_E d qL_law_ 1019 ls st M r := by
  intro ls st M r h
  obtain ⟨l, e, h1⟩ := sy_xc_ok h; subst e
  obtain ⟨l, e, h2⟩ := sy_xc_ok h1; subst e
  obtain ⟨l, e, h3⟩ := sy_xc_ok h2; subst e
  obtain ⟨l, e, h4⟩ := sy_xc_ok h3; subst e
  obtain ⟨a4, l, e, h5⟩ := sy_xi_ok h4; subst e
  obtain ⟨w5, l, e, h6⟩ := sy_xv_ok h5; subst e
  obtain ⟨w6, l, e, h7⟩ := sy_xv_ok h6; subst e
  obtain ⟨e, h8⟩ := sy_xn_ok h7; subst e
  obtain ⟨e, h9⟩ := sy_xn_ok h8; subst e
  exact hk _ _ a4 M r h9
def juL_law__954 (k : Int32 → sy_M → sy_O) (ls st : List Value) (M : sy_M) : sy_O := sy_xc 1000000 ls fun l => sy_xc 0 l fun l => sy_xc 121 l fun l => sy_xc 132 l fun l => sy_xi l fun a4 l => sy_xv l fun _ l => sy_xv l fun _ l => sy_xn l (sy_xn st (k a4 M))
theorem jwL_law__954 {d : Nat} {k : Int32 → sy_M → sy_O} (hk : ∀ (w5 : Value) (w6 : Value) (a4 : Int32) (M : sy_M) (r : xe_R × sy_M), k a4 M = some r → sy_E (d) qL_law_ 954 [.ref 1000000, .ref 0, .ref 121, .ref 132, .int a4, w5, w6] [] M r) : ∀ ls st M r, juL_law__954 k ls st M = some r → sy_E d qL_law_ 954 ls st M r := by
  intro ls st M r h
  obtain ⟨l, e, h1⟩ := sy_xc_ok h; subst e
  obtain ⟨l, e, h2⟩ := sy_xc_ok h1; subst e
  obtain ⟨l, e, h3⟩ := sy_xc_ok h2; subst e
  obtain ⟨l, e, h4⟩ := sy_xc_ok h3; subst e
  obtain ⟨a4, l, e, h5⟩ := sy_xi_ok h4; subst e
  obtain ⟨w5, l, e, h6⟩ := sy_xv_ok h5; subst e
  obtain ⟨w6, l, e, h7⟩ := sy_xv_ok h6; subst e
  obtain ⟨e, h8⟩ := sy_xn_ok h7; subst e
  obtain ⟨e, h9⟩ := sy_xn_ok h8; subst e
  exact hk _ _ a4 M r h9
def juL_law__1087 (k : Int32 → sy_M → sy_O) (ls st : List Value) (M : sy_M) : sy_O := sy_xc 1000000 ls fun l => sy_xc 0 l fun l => sy_xc 121 l fun l => sy_xc 132 l fun l => sy_xi l fun a4 l => sy_xv l fun _ l => sy_xv l fun _ l => sy_xn l (sy_xn st (k a4 M))
theorem jwL_law__1087 {d : Nat} {k : Int32 → sy_M → sy_O} (hk : ∀ (w5 : Value) (w6 : Value) (a4 : Int32) (M : sy_M) (r : xe_R × sy_M), k a4 M = some r → sy_E (d) qL_law_ 1087 [.ref 1000000, .ref 0, .ref 121, .ref 132, .int a4, w5, w6] [] M r) : ∀ ls st M r, juL_law__1087 k ls st M = some r → sy_E d qL_law_ 1087 ls st M r := by
  intro ls st M r h
  obtain ⟨l, e, h1⟩ := sy_xc_ok h; subst e
  obtain ⟨l, e, h2⟩ := sy_xc_ok h1; subst e
  obtain ⟨l, e, h3⟩ := sy_xc_ok h2; subst e
  obtain ⟨l, e, h4⟩ := sy_xc_ok h3; subst e
  obtain ⟨a4, l, e, h5⟩ := sy_xi_ok h4; subst e
  obtain ⟨w5, l, e, h6⟩ := sy_xv_ok h5; subst e
  obtain ⟨w6, l, e, h7⟩ := sy_xv_ok h6; subst e
  obtain ⟨e, h8⟩ := sy_xn_ok h7; subst e
  obtain ⟨e, h9⟩ := sy_xn_ok h8; subst e
  exact hk _ _ a4 M r h9
def juL_law__1022 (k : Int32 → sy_M → sy_O) (ls st : List Value) (M : sy_M) : sy_O := sy_xc 1000000 ls fun l => sy_xc 0 l fun l => sy_xc 121 l fun l => sy_xc 132 l fun l => sy_xi l fun a4 l => sy_xv l fun _ l => sy_xv l fun _ l => sy_xn l (sy_xn st (k a4 M))
theorem jwL_law__1022 {d : Nat} {k : Int32 → sy_M → sy_O} (hk : ∀ (w5 : Value) (w6 : Value) (a4 : Int32) (M : sy_M) (r : xe_R × sy_M), k a4 M = some r → sy_E (d) qL_law_ 1022 [.ref 1000000, .ref 0, .ref 121, .ref 132, .int a4, w5, w6] [] M r) : ∀ ls st M r, juL_law__1022 k ls st M = some r → sy_E d qL_law_ 1022 ls st M r := by
  intro ls st M r h
  obtain ⟨l, e, h1⟩ := sy_xc_ok h; subst e
  obtain ⟨l, e, h2⟩ := sy_xc_ok h1; subst e
  obtain ⟨l, e, h3⟩ := sy_xc_ok h2; subst e
  obtain ⟨l, e, h4⟩ := sy_xc_ok h3; subst e
  obtain ⟨a4, l, e, h5⟩ := sy_xi_ok h4; subst e
  obtain ⟨w5, l, e, h6⟩ := sy_xv_ok h5; subst e
  obtain ⟨w6, l, e, h7⟩ := sy_xv_ok h6; subst e
  obtain ⟨e, h8⟩ := sy_xn_ok h7; subst e
  obtain ⟨e, h9⟩ := sy_xn_ok h8; subst e
  exact hk _ _ a4 M r h9
def juL_law__1143 (k : Int32 → sy_M → sy_O) (ls st : List Value) (M : sy_M) : sy_O := sy_xc 1000000 ls fun l => sy_xc 0 l fun l => sy_xc 121 l fun l => sy_xc 132 l fun l => sy_xi l fun a4 l => sy_xv l fun _ l => sy_xv l fun _ l => sy_xn l (sy_xn st (k a4 M))
theorem jwL_law__1143 {d : Nat} {k : Int32 → sy_M → sy_O} (hk : ∀ (w5 : Value) (w6 : Value) (a4 : Int32) (M : sy_M) (r : xe_R × sy_M), k a4 M = some r → sy_E (d) qL_law_ 1143 [.ref 1000000, .ref 0, .ref 121, .ref 132, .int a4, w5, w6] [] M r) : ∀ ls st M r, juL_law__1143 k ls st M = some r → sy_E d qL_law_ 1143 ls st M r := by
  intro ls st M r h
  obtain ⟨l, e, h1⟩ := sy_xc_ok h; subst e
  obtain ⟨l, e, h2⟩ := sy_xc_ok h1; subst e
  obtain ⟨l, e, h3⟩ := sy_xc_ok h2; subst e
  obtain ⟨l, e, h4⟩ := sy_xc_ok h3; subst e
  obtain ⟨a4, l, e, h5⟩ := sy_xi_ok h4; subst e
  obtain ⟨w5, l, e, h6⟩ := sy_xv_ok h5; subst e
  obtain ⟨w6, l, e, h7⟩ := sy_xv_ok h6; subst e
  obtain ⟨e, h8⟩ := sy_xn_ok h7; subst e
  obtain ⟨e, h9⟩ := sy_xn_ok h8; subst e
  exact hk _ _ a4 M r h9
def juL_law__1090 (k : Int32 → sy_M → sy_O) (ls st : List Value) (M : sy_M) : sy_O := sy_xc 1000000 ls fun l => sy_xc 0 l fun l => sy_xc 121 l fun l => sy_xc 132 l fun l => sy_xi l fun a4 l => sy_xv l fun _ l => sy_xv l fun _ l => sy_xn l (sy_xn st (k a4 M))
theorem jwL_law__1090 {d : Nat} {k : Int32 → sy_M → sy_O} (hk : ∀ (w5 : Value) (w6 : Value) (a4 : Int32) (M : sy_M) (r : xe_R × sy_M), k a4 M = some r → sy_E (d) qL_law_ 1090 [.ref 1000000, .ref 0, .ref 121, .ref 132, .int a4, w5, w6] [] M r) : ∀ ls st M r, juL_law__1090 k ls st M = some r → sy_E d qL_law_ 1090 ls st M r := by
  intro ls st M r h
  obtain ⟨l, e, h1⟩ := sy_xc_ok h; subst e
  obtain ⟨l, e, h2⟩ := sy_xc_ok h1; subst e
  obtain ⟨l, e, h3⟩ := sy_xc_ok h2; subst e
  obtain ⟨l, e, h4⟩ := sy_xc_ok h3; subst e
  obtain ⟨a4, l, e, h5⟩ := sy_xi_ok h4; subst e
  obtain ⟨w5, l, e, h6⟩ := sy_xv_ok h5; subst e
  obtain ⟨w6, l, e, h7⟩ := sy_xv_ok h6; subst e
  obtain ⟨e, h8⟩ := sy_xn_ok h7; subst e
  obtain ⟨e, h9⟩ := sy_xn_ok h8; subst e
  exact hk _ _ a4 M r h9
def juL_law__1211 (k : Int32 → sy_M → sy_O) (ls st : List Value) (M : sy_M) : sy_O := sy_xc 1000000 ls fun l => sy_xc 0 l fun l => sy_xc 121 l fun l => sy_xc 132 l fun l => sy_xi l fun a4 l => sy_xv l fun _ l => sy_xv l fun _ l => sy_xn l (sy_xn st (k a4 M))
theorem jwL_law__1211 {d : Nat} {k : Int32 → sy_M → sy_O} (hk : ∀ (w5 : Value) (w6 : Value) (a4 : Int32) (M : sy_M) (r : xe_R × sy_M), k a4 M = some r → sy_E (d) qL_law_ 1211 [.ref 1000000, .ref 0, .ref 121, .ref 132, .int a4, w5, w6] [] M r) : ∀ ls st M r, juL_law__1211 k ls st M = some r → sy_E d qL_law_ 1211 ls st M r := by
  intro ls st M r h
  obtain ⟨l, e, h1⟩ := sy_xc_ok h; subst e
  obtain ⟨l, e, h2⟩ := sy_xc_ok h1; subst e
  obtain ⟨l, e, h3⟩ := sy_xc_ok h2; subst e
  obtain ⟨l, e, h4⟩ := sy_xc_ok h3; subst e
  obtain ⟨a4, l, e, h5⟩ := sy_xi_ok h4; subst e
  obtain ⟨w5, l, e, h6⟩ := sy_xv_ok h5; subst e
  obtain ⟨w6, l, e, h7⟩ := sy_xv_ok h6; subst e
  obtain ⟨e, h8⟩ := sy_xn_ok h7; subst e
  obtain ⟨e, h9⟩ := sy_xn_ok h8; subst e
  exact hk _ _ a4 M r h9
def juL_law__1146 (k : Int32 → sy_M → sy_O) (ls st : List Value) (M : sy_M) : sy_O := sy_xc 1000000 ls fun l => sy_xc 0 l fun l => sy_xc 121 l fun l => sy_xc 132 l fun l => sy_xi l fun a4 l => sy_xv l fun _ l => sy_xv l fun _ l => sy_xn l (sy_xn st (k a4 M))
theorem jwL_law__1146 {d : Nat} {k : Int32 → sy_M → sy_O} (hk : ∀ (w5 : Value) (w6 : Value) (a4 : Int32) (M : sy_M) (r : xe_R × sy_M), k a4 M = some r → sy_E (d) qL_law_ 1146 [.ref 1000000, .ref 0, .ref 121, .ref 132, .int a4, w5, w6] [] M r) : ∀ ls st M r, juL_law__1146 k ls st M = some r → sy_E d qL_law_ 1146 ls st M r := by
  intro ls st M r h
  obtain ⟨l, e, h1⟩ := sy_xc_ok h; subst e
  obtain ⟨l, e, h2⟩ := sy_xc_ok h1; subst e
  obtain ⟨l, e, h3⟩ := sy_xc_ok h2; subst e
  obtain ⟨l, e, h4⟩ := sy_xc_ok h3; subst e
  obtain ⟨a4, l, e, h5⟩ := sy_xi_ok h4; subst e
  obtain ⟨w5, l, e, h6⟩ := sy_xv_ok h5; subst e
  obtain ⟨w6, l, e, h7⟩ := sy_xv_ok h6; subst e
  obtain ⟨e, h8⟩ := sy_xn_ok h7; subst e
  obtain ⟨e, h9⟩ := sy_xn_ok h8; subst e
  exact hk _ _ a4 M r h9
def juL_law__1291 (k : Int32 → sy_M → sy_O) (ls st : List Value) (M : sy_M) : sy_O := sy_xc 1000000 ls fun l => sy_xc 0 l fun l => sy_xc 121 l fun l => sy_xc 132 l fun l => sy_xi l fun a4 l => sy_xv l fun _ l => sy_xv l fun _ l => sy_xn l (sy_xn st (k a4 M))
theorem jwL_law__1291 {d : Nat} {k : Int32 → sy_M → sy_O} (hk : ∀ (w5 : Value) (w6 : Value) (a4 : Int32) (M : sy_M) (r : xe_R × sy_M), k a4 M = some r → sy_E (d) qL_law_ 1291 [.ref 1000000, .ref 0, .ref 121, .ref 132, .int a4, w5, w6] [] M r) : ∀ ls st M r, juL_law__1291 k ls st M = some r → sy_E d qL_law_ 1291 ls st M r := by
  intro ls st M r h
  obtain ⟨l, e, h1⟩ := sy_xc_ok h; subst e
  obtain ⟨l, e, h2⟩ := sy_xc_ok h1; subst e
  obtain ⟨l, e, h3⟩ := sy_xc_ok h2; subst e
  obtain ⟨l, e, h4⟩ := sy_xc_ok h3; subst e
  obtain ⟨a4, l, e, h5⟩ := sy_xi_ok h4; subst e
  obtain ⟨w5, l, e, h6⟩ := sy_xv_ok h5; subst e
  obtain ⟨w6, l, e, h7⟩ := sy_xv_ok h6; subst e
  obtain ⟨e, h8⟩ := sy_xn_ok h7; subst e
  obtain ⟨e, h9⟩ := sy_xn_ok h8; subst e
  exact hk _ _ a4 M r h9
def juL_law__1263 (k : Int32 → Int32 → Int32 → sy_M → sy_O) (ls st : List Value) (M : sy_M) : sy_O := sy_xc 1000000 ls fun l => sy_xc 0 l fun l => sy_xc 121 l fun l => sy_xc 132 l fun l => sy_xi l fun a4 l => sy_xi l fun a5 l => sy_xi l fun a6 l => sy_xn l (sy_xn st (k a4 a5 a6 M))
theorem jwL_law__1263 {d : Nat} {k : Int32 → Int32 → Int32 → sy_M → sy_O} (hk : ∀ (a4 : Int32) (a5 : Int32) (a6 : Int32) (M : sy_M) (r : xe_R × sy_M), k a4 a5 a6 M = some r → sy_E (d) qL_law_ 1263 [.ref 1000000, .ref 0, .ref 121, .ref 132, .int a4, .int a5, .int a6] [] M r) : ∀ ls st M r, juL_law__1263 k ls st M = some r → sy_E d qL_law_ 1263 ls st M r := by
  intro ls st M r h
  obtain ⟨l, e, h1⟩ := sy_xc_ok h; subst e
  obtain ⟨l, e, h2⟩ := sy_xc_ok h1; subst e
  obtain ⟨l, e, h3⟩ := sy_xc_ok h2; subst e
  obtain ⟨l, e, h4⟩ := sy_xc_ok h3; subst e
  obtain ⟨a4, l, e, h5⟩ := sy_xi_ok h4; subst e
  obtain ⟨a5, l, e, h6⟩ := sy_xi_ok h5; subst e
  obtain ⟨a6, l, e, h7⟩ := sy_xi_ok h6; subst e
  obtain ⟨e, h8⟩ := sy_xn_ok h7; subst e
  obtain ⟨e, h9⟩ := sy_xn_ok h8; subst e
  exact hk a4 a5 a6 M r h9
def juL_law__1214 (k : Int32 → sy_M → sy_O) (ls st : List Value) (M : sy_M) : sy_O := sy_xc 1000000 ls fun l => sy_xc 0 l fun l => sy_xc 121 l fun l => sy_xc 132 l fun l => sy_xi l fun a4 l => sy_xv l fun _ l => sy_xv l fun _ l => sy_xn l (sy_xn st (k a4 M))
theorem jwL_law__1214 {d : Nat} {k : Int32 → sy_M → sy_O} (hk : ∀ (w5 : Value) (w6 : Value) (a4 : Int32) (M : sy_M) (r : xe_R × sy_M), k a4 M = some r → sy_E (d) qL_law_ 1214 [.ref 1000000, .ref 0, .ref 121, .ref 132, .int a4, w5, w6] [] M r) : ∀ ls st M r, juL_law__1214 k ls st M = some r → sy_E d qL_law_ 1214 ls st M r := by
  intro ls st M r h
  obtain ⟨l, e, h1⟩ := sy_xc_ok h; subst e
  obtain ⟨l, e, h2⟩ := sy_xc_ok h1; subst e
  obtain ⟨l, e, h3⟩ := sy_xc_ok h2; subst e
  obtain ⟨l, e, h4⟩ := sy_xc_ok h3; subst e
  obtain ⟨a4, l, e, h5⟩ := sy_xi_ok h4; subst e
  obtain ⟨w5, l, e, h6⟩ := sy_xv_ok h5; subst e
  obtain ⟨w6, l, e, h7⟩ := sy_xv_ok h6; subst e
  obtain ⟨e, h8⟩ := sy_xn_ok h7; subst e
  obtain ⟨e, h9⟩ := sy_xn_ok h8; subst e
  exact hk _ _ a4 M r h9
def juL_law__1294 (k : Int32 → sy_M → sy_O) (ls st : List Value) (M : sy_M) : sy_O := sy_xc 1000000 ls fun l => sy_xc 0 l fun l => sy_xc 121 l fun l => sy_xc 132 l fun l => sy_xi l fun a4 l => sy_xv l fun _ l => sy_xv l fun _ l => sy_xn l (sy_xn st (k a4 M))
theorem jwL_law__1294 {d : Nat} {k : Int32 → sy_M → sy_O} (hk : ∀ (w5 : Value) (w6 : Value) (a4 : Int32) (M : sy_M) (r : xe_R × sy_M), k a4 M = some r → sy_E (d) qL_law_ 1294 [.ref 1000000, .ref 0, .ref 121, .ref 132, .int a4, w5, w6] [] M r) : ∀ ls st M r, juL_law__1294 k ls st M = some r → sy_E d qL_law_ 1294 ls st M r := by
  intro ls st M r h
  obtain ⟨l, e, h1⟩ := sy_xc_ok h; subst e
  obtain ⟨l, e, h2⟩ := sy_xc_ok h1; subst e
  obtain ⟨l, e, h3⟩ := sy_xc_ok h2; subst e
  obtain ⟨l, e, h4⟩ := sy_xc_ok h3; subst e
  obtain ⟨a4, l, e, h5⟩ := sy_xi_ok h4; subst e
  obtain ⟨w5, l, e, h6⟩ := sy_xv_ok h5; subst e
  obtain ⟨w6, l, e, h7⟩ := sy_xv_ok h6; subst e
  obtain ⟨e, h8⟩ := sy_xn_ok h7; subst e
  obtain ⟨e, h9⟩ := sy_xn_ok h8; subst e
  exact hk _ _ a4 M r h9
def juL_law__1307 (k : Int32 → sy_M → sy_O) (ls st : List Value) (M : sy_M) : sy_O := sy_xc 1000000 ls fun l => sy_xc 0 l fun l => sy_xc 121 l fun l => sy_xc 132 l fun l => sy_xi l fun a4 l => sy_xv l fun _ l => sy_xv l fun _ l => sy_xn l (sy_xn st (k a4 M))
theorem jwL_law__1307 {d : Nat} {k : Int32 → sy_M → sy_O} (hk : ∀ (w5 : Value) (w6 : Value) (a4 : Int32) (M : sy_M) (r : xe_R × sy_M), k a4 M = some r → sy_E (d) qL_law_ 1307 [.ref 1000000, .ref 0, .ref 121, .ref 132, .int a4, w5, w6] [] M r) : ∀ ls st M r, juL_law__1307 k ls st M = some r → sy_E d qL_law_ 1307 ls st M r := by
  intro ls st M r h
  obtain ⟨l, e, h1⟩ := sy_xc_ok h; subst e
  obtain ⟨l, e, h2⟩ := sy_xc_ok h1; subst e
  obtain ⟨l, e, h3⟩ := sy_xc_ok h2; subst e
  obtain ⟨l, e, h4⟩ := sy_xc_ok h3; subst e
  obtain ⟨a4, l, e, h5⟩ := sy_xi_ok h4; subst e
  obtain ⟨w5, l, e, h6⟩ := sy_xv_ok h5; subst e
  obtain ⟨w6, l, e, h7⟩ := sy_xv_ok h6; subst e
  obtain ⟨e, h8⟩ := sy_xn_ok h7; subst e
  obtain ⟨e, h9⟩ := sy_xn_ok h8; subst e
  exact hk _ _ a4 M r h9
def juL_law__1320 (k : Int32 → sy_M → sy_O) (ls st : List Value) (M : sy_M) : sy_O := sy_xc 1000000 ls fun l => sy_xc 0 l fun l => sy_xc 121 l fun l => sy_xc 132 l fun l => sy_xi l fun a4 l => sy_xv l fun _ l => sy_xv l fun _ l => sy_xn l (sy_xn st (k a4 M))
theorem jwL_law__1320 {d : Nat} {k : Int32 → sy_M → sy_O} (hk : ∀ (w5 : Value) (w6 : Value) (a4 : Int32) (M : sy_M) (r : xe_R × sy_M), k a4 M = some r → sy_E (d) qL_law_ 1320 [.ref 1000000, .ref 0, .ref 121, .ref 132, .int a4, w5, w6] [] M r) : ∀ ls st M r, juL_law__1320 k ls st M = some r → sy_E d qL_law_ 1320 ls st M r := by
  intro ls st M r h
  obtain ⟨l, e, h1⟩ := sy_xc_ok h; subst e
  obtain ⟨l, e, h2⟩ := sy_xc_ok h1; subst e
  obtain ⟨l, e, h3⟩ := sy_xc_ok h2; subst e
  obtain ⟨l, e, h4⟩ := sy_xc_ok h3; subst e
  obtain ⟨a4, l, e, h5⟩ := sy_xi_ok h4; subst e
  obtain ⟨w5, l, e, h6⟩ := sy_xv_ok h5; subst e
  obtain ⟨w6, l, e, h7⟩ := sy_xv_ok h6; subst e
  obtain ⟨e, h8⟩ := sy_xn_ok h7; subst e
  obtain ⟨e, h9⟩ := sy_xn_ok h8; subst e
  exact hk _ _ a4 M r h9
def juL_law__1333 (k : Int32 → sy_M → sy_O) (ls st : List Value) (M : sy_M) : sy_O := sy_xc 1000000 ls fun l => sy_xc 0 l fun l => sy_xc 121 l fun l => sy_xc 132 l fun l => sy_xi l fun a4 l => sy_xv l fun _ l => sy_xv l fun _ l => sy_xn l (sy_xn st (k a4 M))
theorem jwL_law__1333 {d : Nat} {k : Int32 → sy_M → sy_O} (hk : ∀ (w5 : Value) (w6 : Value) (a4 : Int32) (M : sy_M) (r : xe_R × sy_M), k a4 M = some r → sy_E (d) qL_law_ 1333 [.ref 1000000, .ref 0, .ref 121, .ref 132, .int a4, w5, w6] [] M r) : ∀ ls st M r, juL_law__1333 k ls st M = some r → sy_E d qL_law_ 1333 ls st M r := by
  intro ls st M r h
  obtain ⟨l, e, h1⟩ := sy_xc_ok h; subst e
  obtain ⟨l, e, h2⟩ := sy_xc_ok h1; subst e
  obtain ⟨l, e, h3⟩ := sy_xc_ok h2; subst e
  obtain ⟨l, e, h4⟩ := sy_xc_ok h3; subst e
  obtain ⟨a4, l, e, h5⟩ := sy_xi_ok h4; subst e
  obtain ⟨w5, l, e, h6⟩ := sy_xv_ok h5; subst e
  obtain ⟨w6, l, e, h7⟩ := sy_xv_ok h6; subst e
  obtain ⟨e, h8⟩ := sy_xn_ok h7; subst e
  obtain ⟨e, h9⟩ := sy_xn_ok h8; subst e
  exact hk _ _ a4 M r h9
def juL_law__1346 (k : Int32 → sy_M → sy_O) (ls st : List Value) (M : sy_M) : sy_O := sy_xc 1000000 ls fun l => sy_xc 0 l fun l => sy_xc 121 l fun l => sy_xc 132 l fun l => sy_xi l fun a4 l => sy_xv l fun _ l => sy_xv l fun _ l => sy_xn l (sy_xn st (k a4 M))
theorem jwL_law__1346 {d : Nat} {k : Int32 → sy_M → sy_O} (hk : ∀ (w5 : Value) (w6 : Value) (a4 : Int32) (M : sy_M) (r : xe_R × sy_M), k a4 M = some r → sy_E (d) qL_law_ 1346 [.ref 1000000, .ref 0, .ref 121, .ref 132, .int a4, w5, w6] [] M r) : ∀ ls st M r, juL_law__1346 k ls st M = some r → sy_E d qL_law_ 1346 ls st M r := by
  intro ls st M r h
  obtain ⟨l, e, h1⟩ := sy_xc_ok h; subst e
  obtain ⟨l, e, h2⟩ := sy_xc_ok h1; subst e
  obtain ⟨l, e, h3⟩ := sy_xc_ok h2; subst e
  obtain ⟨l, e, h4⟩ := sy_xc_ok h3; subst e
  obtain ⟨a4, l, e, h5⟩ := sy_xi_ok h4; subst e
  obtain ⟨w5, l, e, h6⟩ := sy_xv_ok h5; subst e
  obtain ⟨w6, l, e, h7⟩ := sy_xv_ok h6; subst e
  obtain ⟨e, h8⟩ := sy_xn_ok h7; subst e
  obtain ⟨e, h9⟩ := sy_xn_ok h8; subst e
  exact hk _ _ a4 M r h9
def juL_law__1359 (k : Int32 → sy_M → sy_O) (ls st : List Value) (M : sy_M) : sy_O := sy_xc 1000000 ls fun l => sy_xc 0 l fun l => sy_xc 121 l fun l => sy_xc 132 l fun l => sy_xi l fun a4 l => sy_xv l fun _ l => sy_xv l fun _ l => sy_xn l (sy_xn st (k a4 M))
theorem jwL_law__1359 {d : Nat} {k : Int32 → sy_M → sy_O} (hk : ∀ (w5 : Value) (w6 : Value) (a4 : Int32) (M : sy_M) (r : xe_R × sy_M), k a4 M = some r → sy_E (d) qL_law_ 1359 [.ref 1000000, .ref 0, .ref 121, .ref 132, .int a4, w5, w6] [] M r) : ∀ ls st M r, juL_law__1359 k ls st M = some r → sy_E d qL_law_ 1359 ls st M r := by
  intro ls st M r h
  obtain ⟨l, e, h1⟩ := sy_xc_ok h; subst e
  obtain ⟨l, e, h2⟩ := sy_xc_ok h1; subst e
  obtain ⟨l, e, h3⟩ := sy_xc_ok h2; subst e
  obtain ⟨l, e, h4⟩ := sy_xc_ok h3; subst e
  obtain ⟨a4, l, e, h5⟩ := sy_xi_ok h4; subst e
  obtain ⟨w5, l, e, h6⟩ := sy_xv_ok h5; subst e
  obtain ⟨w6, l, e, h7⟩ := sy_xv_ok h6; subst e
  obtain ⟨e, h8⟩ := sy_xn_ok h7; subst e
  obtain ⟨e, h9⟩ := sy_xn_ok h8; subst e
  exact hk _ _ a4 M r h9
def juL_law__1449 (k : Int32 → sy_M → sy_O) (ls st : List Value) (M : sy_M) : sy_O := sy_xc 1000000 ls fun l => sy_xc 0 l fun l => sy_xc 121 l fun l => sy_xc 132 l fun l => sy_xi l fun a4 l => sy_xv l fun _ l => sy_xv l fun _ l => sy_xn l (sy_xn st (k a4 M))
theorem jwL_law__1449 {d : Nat} {k : Int32 → sy_M → sy_O} (hk : ∀ (w5 : Value) (w6 : Value) (a4 : Int32) (M : sy_M) (r : xe_R × sy_M), k a4 M = some r → sy_E (d) qL_law_ 1449 [.ref 1000000, .ref 0, .ref 121, .ref 132, .int a4, w5, w6] [] M r) : ∀ ls st M r, juL_law__1449 k ls st M = some r → sy_E d qL_law_ 1449 ls st M r := by
  intro ls st M r h
  obtain ⟨l, e, h1⟩ := sy_xc_ok h; subst e
  obtain ⟨l, e, h2⟩ := sy_xc_ok h1; subst e
  obtain ⟨l, e, h3⟩ := sy_xc_ok h2; subst e
  obtain ⟨l, e, h4⟩ := sy_xc_ok h3; subst e
  obtain ⟨a4, l, e, h5⟩ := sy_xi_ok h4; subst e
  obtain ⟨w5, l, e, h6⟩ := sy_xv_ok h5; subst e
  obtain ⟨w6, l, e, h7⟩ := sy_xv_ok h6; subst e
  obtain ⟨e, h8⟩ := sy_xn_ok h7; subst e
  obtain ⟨e, h9⟩ := sy_xn_ok h8; subst e
  exact hk _ _ a4 M r h9
def juL_law__1421 (k : Int32 → Int32 → Int32 → sy_M → sy_O) (ls st : List Value) (M : sy_M) : sy_O := sy_xc 1000000 ls fun l => sy_xc 0 l fun l => sy_xc 121 l fun l => sy_xc 132 l fun l => sy_xi l fun a4 l => sy_xi l fun a5 l => sy_xi l fun a6 l => sy_xn l (sy_xn st (k a4 a5 a6 M))
theorem jwL_law__1421 {d : Nat} {k : Int32 → Int32 → Int32 → sy_M → sy_O} (hk : ∀ (a4 : Int32) (a5 : Int32) (a6 : Int32) (M : sy_M) (r : xe_R × sy_M), k a4 a5 a6 M = some r → sy_E (d) qL_law_ 1421 [.ref 1000000, .ref 0, .ref 121, .ref 132, .int a4, .int a5, .int a6] [] M r) : ∀ ls st M r, juL_law__1421 k ls st M = some r → sy_E d qL_law_ 1421 ls st M r := by
  intro ls st M r h
  obtain ⟨l, e, h1⟩ := sy_xc_ok h; subst e
  obtain ⟨l, e, h2⟩ := sy_xc_ok h1; subst e
  obtain ⟨l, e, h3⟩ := sy_xc_ok h2; subst e
  obtain ⟨l, e, h4⟩ := sy_xc_ok h3; subst e
  obtain ⟨a4, l, e, h5⟩ := sy_xi_ok h4; subst e
  obtain ⟨a5, l, e, h6⟩ := sy_xi_ok h5; subst e
  obtain ⟨a6, l, e, h7⟩ := sy_xi_ok h6; subst e
  obtain ⟨e, h8⟩ := sy_xn_ok h7; subst e
  obtain ⟨e, h9⟩ := sy_xn_ok h8; subst e
  exact hk a4 a5 a6 M r h9
def juL_law__1372 (k : Int32 → sy_M → sy_O) (ls st : List Value) (M : sy_M) : sy_O := sy_xc 1000000 ls fun l => sy_xc 0 l fun l => sy_xc 121 l fun l => sy_xc 132 l fun l => sy_xi l fun a4 l => sy_xv l fun _ l => sy_xv l fun _ l => sy_xn l (sy_xn st (k a4 M))
theorem jwL_law__1372 {d : Nat} {k : Int32 → sy_M → sy_O} (hk : ∀ (w5 : Value) (w6 : Value) (a4 : Int32) (M : sy_M) (r : xe_R × sy_M), k a4 M = some r → sy_E (d) qL_law_ 1372 [.ref 1000000, .ref 0, .ref 121, .ref 132, .int a4, w5, w6] [] M r) : ∀ ls st M r, juL_law__1372 k ls st M = some r → sy_E d qL_law_ 1372 ls st M r := by
  intro ls st M r h
  obtain ⟨l, e, h1⟩ := sy_xc_ok h; subst e
  obtain ⟨l, e, h2⟩ := sy_xc_ok h1; subst e
  obtain ⟨l, e, h3⟩ := sy_xc_ok h2; subst e
  obtain ⟨l, e, h4⟩ := sy_xc_ok h3; subst e
  obtain ⟨a4, l, e, h5⟩ := sy_xi_ok h4; subst e
  obtain ⟨w5, l, e, h6⟩ := sy_xv_ok h5; subst e
  obtain ⟨w6, l, e, h7⟩ := sy_xv_ok h6; subst e
  obtain ⟨e, h8⟩ := sy_xn_ok h7; subst e
  obtain ⟨e, h9⟩ := sy_xn_ok h8; subst e
  exact hk _ _ a4 M r h9
def juL_law__1505 (k : Int32 → sy_M → sy_O) (ls st : List Value) (M : sy_M) : sy_O := sy_xc 1000000 ls fun l => sy_xc 0 l fun l => sy_xc 121 l fun l => sy_xc 132 l fun l => sy_xi l fun a4 l => sy_xv l fun _ l => sy_xv l fun _ l => sy_xn l (sy_xn st (k a4 M))
theorem jwL_law__1505 {d : Nat} {k : Int32 → sy_M → sy_O} (hk : ∀ (w5 : Value) (w6 : Value) (a4 : Int32) (M : sy_M) (r : xe_R × sy_M), k a4 M = some r → sy_E (d) qL_law_ 1505 [.ref 1000000, .ref 0, .ref 121, .ref 132, .int a4, w5, w6] [] M r) : ∀ ls st M r, juL_law__1505 k ls st M = some r → sy_E d qL_law_ 1505 ls st M r := by
  intro ls st M r h
  obtain ⟨l, e, h1⟩ := sy_xc_ok h; subst e
  obtain ⟨l, e, h2⟩ := sy_xc_ok h1; subst e
  obtain ⟨l, e, h3⟩ := sy_xc_ok h2; subst e
  obtain ⟨l, e, h4⟩ := sy_xc_ok h3; subst e
  obtain ⟨a4, l, e, h5⟩ := sy_xi_ok h4; subst e
  obtain ⟨w5, l, e, h6⟩ := sy_xv_ok h5; subst e
  obtain ⟨w6, l, e, h7⟩ := sy_xv_ok h6; subst e
  obtain ⟨e, h8⟩ := sy_xn_ok h7; subst e
  obtain ⟨e, h9⟩ := sy_xn_ok h8; subst e
  exact hk _ _ a4 M r h9
def juL_law__1452 (k : Int32 → sy_M → sy_O) (ls st : List Value) (M : sy_M) : sy_O := sy_xc 1000000 ls fun l => sy_xc 0 l fun l => sy_xc 121 l fun l => sy_xc 132 l fun l => sy_xi l fun a4 l => sy_xv l fun _ l => sy_xv l fun _ l => sy_xn l (sy_xn st (k a4 M))
theorem jwL_law__1452 {d : Nat} {k : Int32 → sy_M → sy_O} (hk : ∀ (w5 : Value) (w6 : Value) (a4 : Int32) (M : sy_M) (r : xe_R × sy_M), k a4 M = some r → sy_E (d) qL_law_ 1452 [.ref 1000000, .ref 0, .ref 121, .ref 132, .int a4, w5, w6] [] M r) : ∀ ls st M r, juL_law__1452 k ls st M = some r → sy_E d qL_law_ 1452 ls st M r := by
  intro ls st M r h
  obtain ⟨l, e, h1⟩ := sy_xc_ok h; subst e
  obtain ⟨l, e, h2⟩ := sy_xc_ok h1; subst e
  obtain ⟨l, e, h3⟩ := sy_xc_ok h2; subst e
  obtain ⟨l, e, h4⟩ := sy_xc_ok h3; subst e
  obtain ⟨a4, l, e, h5⟩ := sy_xi_ok h4; subst e
  obtain ⟨w5, l, e, h6⟩ := sy_xv_ok h5; subst e
  obtain ⟨w6, l, e, h7⟩ := sy_xv_ok h6; subst e
  obtain ⟨e, h8⟩ := sy_xn_ok h7; subst e
  obtain ⟨e, h9⟩ := sy_xn_ok h8; subst e
  exact hk _ _ a4 M r h9
def juL_law__1561 (k : Int32 → sy_M → sy_O) (ls st : List Value) (M : sy_M) : sy_O := sy_xc 1000000 ls fun l => sy_xc 0 l fun l => sy_xc 121 l fun l => sy_xc 132 l fun l => sy_xi l fun a4 l => sy_xv l fun _ l => sy_xv l fun _ l => sy_xn l (sy_xn st (k a4 M))
theorem jwL_law__1561 {d : Nat} {k : Int32 → sy_M → sy_O} (hk : ∀ (w5 : Value) (w6 : Value) (a4 : Int32) (M : sy_M) (r : xe_R × sy_M), k a4 M = some r → sy_E (d) qL_law_ 1561 [.ref 1000000, .ref 0, .ref 121, .ref 132, .int a4, w5, w6] [] M r) : ∀ ls st M r, juL_law__1561 k ls st M = some r → sy_E d qL_law_ 1561 ls st M r := by
  intro ls st M r h
  obtain ⟨l, e, h1⟩ := sy_xc_ok h; subst e
  obtain ⟨l, e, h2⟩ := sy_xc_ok h1; subst e
  obtain ⟨l, e, h3⟩ := sy_xc_ok h2; subst e
  obtain ⟨l, e, h4⟩ := sy_xc_ok h3; subst e
  obtain ⟨a4, l, e, h5⟩ := sy_xi_ok h4; subst e
  obtain ⟨w5, l, e, h6⟩ := sy_xv_ok h5; subst e
  obtain ⟨w6, l, e, h7⟩ := sy_xv_ok h6; subst e
  obtain ⟨e, h8⟩ := sy_xn_ok h7; subst e
  obtain ⟨e, h9⟩ := sy_xn_ok h8; subst e
  exact hk _ _ a4 M r h9
def juL_law__1508 (k : Int32 → sy_M → sy_O) (ls st : List Value) (M : sy_M) : sy_O := sy_xc 1000000 ls fun l => sy_xc 0 l fun l => sy_xc 121 l fun l => sy_xc 132 l fun l => sy_xi l fun a4 l => sy_xv l fun _ l => sy_xv l fun _ l => sy_xn l (sy_xn st (k a4 M))
theorem jwL_law__1508 {d : Nat} {k : Int32 → sy_M → sy_O} (hk : ∀ (w5 : Value) (w6 : Value) (a4 : Int32) (M : sy_M) (r : xe_R × sy_M), k a4 M = some r → sy_E (d) qL_law_ 1508 [.ref 1000000, .ref 0, .ref 121, .ref 132, .int a4, w5, w6] [] M r) : ∀ ls st M r, juL_law__1508 k ls st M = some r → sy_E d qL_law_ 1508 ls st M r := by
  intro ls st M r h
  obtain ⟨l, e, h1⟩ := sy_xc_ok h; subst e
  obtain ⟨l, e, h2⟩ := sy_xc_ok h1; subst e
  obtain ⟨l, e, h3⟩ := sy_xc_ok h2; subst e
  obtain ⟨l, e, h4⟩ := sy_xc_ok h3; subst e
  obtain ⟨a4, l, e, h5⟩ := sy_xi_ok h4; subst e
  obtain ⟨w5, l, e, h6⟩ := sy_xv_ok h5; subst e
  obtain ⟨w6, l, e, h7⟩ := sy_xv_ok h6; subst e
  obtain ⟨e, h8⟩ := sy_xn_ok h7; subst e
  obtain ⟨e, h9⟩ := sy_xn_ok h8; subst e
  exact hk _ _ a4 M r h9
def juL_law__1629 (k : Int32 → sy_M → sy_O) (ls st : List Value) (M : sy_M) : sy_O := sy_xc 1000000 ls fun l => sy_xc 0 l fun l => sy_xc 121 l fun l => sy_xc 132 l fun l => sy_xi l fun a4 l => sy_xv l fun _ l => sy_xv l fun _ l => sy_xn l (sy_xn st (k a4 M))
theorem jwL_law__1629 {d : Nat} {k : Int32 → sy_M → sy_O} (hk : ∀ (w5 : Value) (w6 : Value) (a4 : Int32) (M : sy_M) (r : xe_R × sy_M), k a4 M = some r → sy_E (d) qL_law_ 1629 [.ref 1000000, .ref 0, .ref 121, .ref 132, .int a4, w5, w6] [] M r) : ∀ ls st M r, juL_law__1629 k ls st M = some r → sy_E d qL_law_ 1629 ls st M r := by
  intro ls st M r h
  obtain ⟨l, e, h1⟩ := sy_xc_ok h; subst e
  obtain ⟨l, e, h2⟩ := sy_xc_ok h1; subst e
  obtain ⟨l, e, h3⟩ := sy_xc_ok h2; subst e
  obtain ⟨l, e, h4⟩ := sy_xc_ok h3; subst e
  obtain ⟨a4, l, e, h5⟩ := sy_xi_ok h4; subst e
  obtain ⟨w5, l, e, h6⟩ := sy_xv_ok h5; subst e
  obtain ⟨w6, l, e, h7⟩ := sy_xv_ok h6; subst e
  obtain ⟨e, h8⟩ := sy_xn_ok h7; subst e
  obtain ⟨e, h9⟩ := sy_xn_ok h8; subst e
  exact hk _ _ a4 M r h9
def juL_law__1564 (k : Int32 → sy_M → sy_O) (ls st : List Value) (M : sy_M) : sy_O := sy_xc 1000000 ls fun l => sy_xc 0 l fun l => sy_xc 121 l fun l => sy_xc 132 l fun l => sy_xi l fun a4 l => sy_xv l fun _ l => sy_xv l fun _ l => sy_xn l (sy_xn st (k a4 M))
theorem jwL_law__1564 {d : Nat} {k : Int32 → sy_M → sy_O} (hk : ∀ (w5 : Value) (w6 : Value) (a4 : Int32) (M : sy_M) (r : xe_R × sy_M), k a4 M = some r → sy_E (d) qL_law_ 1564 [.ref 1000000, .ref 0, .ref 121, .ref 132, .int a4, w5, w6] [] M r) : ∀ ls st M r, juL_law__1564 k ls st M = some r → sy_E d qL_law_ 1564 ls st M r := by
  intro ls st M r h
  obtain ⟨l, e, h1⟩ := sy_xc_ok h; subst e
  obtain ⟨l, e, h2⟩ := sy_xc_ok h1; subst e
  obtain ⟨l, e, h3⟩ := sy_xc_ok h2; subst e
  obtain ⟨l, e, h4⟩ := sy_xc_ok h3; subst e
  obtain ⟨a4, l, e, h5⟩ := sy_xi_ok h4; subst e
  obtain ⟨w5, l, e, h6⟩ := sy_xv_ok h5; subst e
  obtain ⟨w6, l, e, h7⟩ := sy_xv_ok h6; subst e
  obtain ⟨e, h8⟩ := sy_xn_ok h7; subst e
  obtain ⟨e, h9⟩ := sy_xn_ok h8; subst e
  exact hk _ _ a4 M r h9
def juL_law__1632 (k : Int32 → sy_M → sy_O) (ls st : List Value) (M : sy_M) : sy_O := sy_xc 1000000 ls fun l => sy_xc 0 l fun l => sy_xc 121 l fun l => sy_xc 132 l fun l => sy_xi l fun a4 l => sy_xv l fun _ l => sy_xv l fun _ l => sy_xn l (sy_xn st (k a4 M))
theorem jwL_law__1632 {d : Nat} {k : Int32 → sy_M → sy_O} (hk : ∀ (w5 : Value) (w6 : Value) (a4 : Int32) (M : sy_M) (r : xe_R × sy_M), k a4 M = some r → sy_E (d) qL_law_ 1632 [.ref 1000000, .ref 0, .ref 121, .ref 132, .int a4, w5, w6] [] M r) : ∀ ls st M r, juL_law__1632 k ls st M = some r → sy_E d qL_law_ 1632 ls st M r := by
  intro ls st M r h
  obtain ⟨l, e, h1⟩ := sy_xc_ok h; subst e
  obtain ⟨l, e, h2⟩ := sy_xc_ok h1; subst e
  obtain ⟨l, e, h3⟩ := sy_xc_ok h2; subst e
  obtain ⟨l, e, h4⟩ := sy_xc_ok h3; subst e
  obtain ⟨a4, l, e, h5⟩ := sy_xi_ok h4; subst e
  obtain ⟨w5, l, e, h6⟩ := sy_xv_ok h5; subst e
  obtain ⟨w6, l, e, h7⟩ := sy_xv_ok h6; subst e
  obtain ⟨e, h8⟩ := sy_xn_ok h7; subst e
  obtain ⟨e, h9⟩ := sy_xn_ok h8; subst e
  exact hk _ _ a4 M r h9
def juL_law__1726 (k : Int32 → sy_M → sy_O) (ls st : List Value) (M : sy_M) : sy_O := sy_xc 1000000 ls fun l => sy_xc 0 l fun l => sy_xc 121 l fun l => sy_xc 132 l fun l => sy_xi l fun a4 l => sy_xv l fun _ l => sy_xv l fun _ l => sy_xn l (sy_xn st (k a4 M))
theorem jwL_law__1726 {d : Nat} {k : Int32 → sy_M → sy_O} (hk : ∀ (w5 : Value) (w6 : Value) (a4 : Int32) (M : sy_M) (r : xe_R × sy_M), k a4 M = some r → sy_E (d) qL_law_ 1726 [.ref 1000000, .ref 0, .ref 121, .ref 132, .int a4, w5, w6] [] M r) : ∀ ls st M r, juL_law__1726 k ls st M = some r → sy_E d qL_law_ 1726 ls st M r := by
  intro ls st M r h
  obtain ⟨l, e, h1⟩ := sy_xc_ok h; subst e
  obtain ⟨l, e, h2⟩ := sy_xc_ok h1; subst e
  obtain ⟨l, e, h3⟩ := sy_xc_ok h2; subst e
  obtain ⟨l, e, h4⟩ := sy_xc_ok h3; subst e
  obtain ⟨a4, l, e, h5⟩ := sy_xi_ok h4; subst e
  obtain ⟨w5, l, e, h6⟩ := sy_xv_ok h5; subst e
  obtain ⟨w6, l, e, h7⟩ := sy_xv_ok h6; subst e
  obtain ⟨e, h8⟩ := sy_xn_ok h7; subst e
  obtain ⟨e, h9⟩ := sy_xn_ok h8; subst e
  exact hk _ _ a4 M r h9
def juL_law__1693 (k : Int32 → Int32 → Int32 → Int32 → sy_M → sy_O) (ls st : List Value) (M : sy_M) : sy_O := sy_xc 1000000 ls fun l => sy_xc 0 l fun l => sy_xc 121 l fun l => sy_xc 132 l fun l => sy_xi l fun a4 l => sy_xi l fun a5 l => sy_xv l fun _ l => sy_xn l (sy_xi st fun s0 l => sy_xi l fun s1 l => sy_xc 121 l fun l => sy_xn l (k a4 a5 s0 s1 M))
theorem jwL_law__1693 {d : Nat} {k : Int32 → Int32 → Int32 → Int32 → sy_M → sy_O} (hk : ∀ (w6 : Value) (a4 : Int32) (a5 : Int32) (s0 : Int32) (s1 : Int32) (M : sy_M) (r : xe_R × sy_M), k a4 a5 s0 s1 M = some r → sy_E (d) qL_law_ 1693 [.ref 1000000, .ref 0, .ref 121, .ref 132, .int a4, .int a5, w6] [.int s0, .int s1, .ref 121] M r) : ∀ ls st M r, juL_law__1693 k ls st M = some r → sy_E d qL_law_ 1693 ls st M r := by
  intro ls st M r h
  obtain ⟨l, e, h1⟩ := sy_xc_ok h; subst e
  obtain ⟨l, e, h2⟩ := sy_xc_ok h1; subst e
  obtain ⟨l, e, h3⟩ := sy_xc_ok h2; subst e
  obtain ⟨l, e, h4⟩ := sy_xc_ok h3; subst e
  obtain ⟨a4, l, e, h5⟩ := sy_xi_ok h4; subst e
  obtain ⟨a5, l, e, h6⟩ := sy_xi_ok h5; subst e
  obtain ⟨w6, l, e, h7⟩ := sy_xv_ok h6; subst e
  obtain ⟨e, h8⟩ := sy_xn_ok h7; subst e
  obtain ⟨s0, l, e, h9⟩ := sy_xi_ok h8; subst e
  obtain ⟨s1, l, e, h10⟩ := sy_xi_ok h9; subst e
  obtain ⟨l, e, h11⟩ := sy_xc_ok h10; subst e
  obtain ⟨e, h12⟩ := sy_xn_ok h11; subst e
  exact hk _ a4 a5 s0 s1 M r h12
def juL_law__1666 (k : Int32 → Int32 → Int32 → sy_M → sy_O) (ls st : List Value) (M : sy_M) : sy_O := sy_xc 1000000 ls fun l => sy_xc 0 l fun l => sy_xc 121 l fun l => sy_xc 132 l fun l => sy_xi l fun a4 l => sy_xv l fun _ l => sy_xv l fun _ l => sy_xn l (sy_xi st fun s0 l => sy_xi l fun s1 l => sy_xc 0 l fun l => sy_xn l (k a4 s0 s1 M))
theorem jwL_law__1666 {d : Nat} {k : Int32 → Int32 → Int32 → sy_M → sy_O} (hk : ∀ (w5 : Value) (w6 : Value) (a4 : Int32) (s0 : Int32) (s1 : Int32) (M : sy_M) (r : xe_R × sy_M), k a4 s0 s1 M = some r → sy_E (d) qL_law_ 1666 [.ref 1000000, .ref 0, .ref 121, .ref 132, .int a4, w5, w6] [.int s0, .int s1, .ref 0] M r) : ∀ ls st M r, juL_law__1666 k ls st M = some r → sy_E d qL_law_ 1666 ls st M r := by
  intro ls st M r h
  obtain ⟨l, e, h1⟩ := sy_xc_ok h; subst e
  obtain ⟨l, e, h2⟩ := sy_xc_ok h1; subst e
  obtain ⟨l, e, h3⟩ := sy_xc_ok h2; subst e
  obtain ⟨l, e, h4⟩ := sy_xc_ok h3; subst e
  obtain ⟨a4, l, e, h5⟩ := sy_xi_ok h4; subst e
  obtain ⟨w5, l, e, h6⟩ := sy_xv_ok h5; subst e
  obtain ⟨w6, l, e, h7⟩ := sy_xv_ok h6; subst e
  obtain ⟨e, h8⟩ := sy_xn_ok h7; subst e
  obtain ⟨s0, l, e, h9⟩ := sy_xi_ok h8; subst e
  obtain ⟨s1, l, e, h10⟩ := sy_xi_ok h9; subst e
  obtain ⟨l, e, h11⟩ := sy_xc_ok h10; subst e
  obtain ⟨e, h12⟩ := sy_xn_ok h11; subst e
  exact hk _ _ a4 s0 s1 M r h12
def juL_law__1645 (k : Int32 → sy_M → sy_O) (ls st : List Value) (M : sy_M) : sy_O := sy_xc 1000000 ls fun l => sy_xc 0 l fun l => sy_xc 121 l fun l => sy_xc 132 l fun l => sy_xi l fun a4 l => sy_xv l fun _ l => sy_xv l fun _ l => sy_xn l (sy_xn st (k a4 M))
theorem jwL_law__1645 {d : Nat} {k : Int32 → sy_M → sy_O} (hk : ∀ (w5 : Value) (w6 : Value) (a4 : Int32) (M : sy_M) (r : xe_R × sy_M), k a4 M = some r → sy_E (d) qL_law_ 1645 [.ref 1000000, .ref 0, .ref 121, .ref 132, .int a4, w5, w6] [] M r) : ∀ ls st M r, juL_law__1645 k ls st M = some r → sy_E d qL_law_ 1645 ls st M r := by
  intro ls st M r h
  obtain ⟨l, e, h1⟩ := sy_xc_ok h; subst e
  obtain ⟨l, e, h2⟩ := sy_xc_ok h1; subst e
  obtain ⟨l, e, h3⟩ := sy_xc_ok h2; subst e
  obtain ⟨l, e, h4⟩ := sy_xc_ok h3; subst e
  obtain ⟨a4, l, e, h5⟩ := sy_xi_ok h4; subst e
  obtain ⟨w5, l, e, h6⟩ := sy_xv_ok h5; subst e
  obtain ⟨w6, l, e, h7⟩ := sy_xv_ok h6; subst e
  obtain ⟨e, h8⟩ := sy_xn_ok h7; subst e
  obtain ⟨e, h9⟩ := sy_xn_ok h8; subst e
  exact hk _ _ a4 M r h9
def juL_law__1794 (k : Int32 → sy_M → sy_O) (ls st : List Value) (M : sy_M) : sy_O := sy_xc 1000000 ls fun l => sy_xc 0 l fun l => sy_xc 121 l fun l => sy_xc 132 l fun l => sy_xi l fun a4 l => sy_xv l fun _ l => sy_xv l fun _ l => sy_xn l (sy_xn st (k a4 M))
theorem jwL_law__1794 {d : Nat} {k : Int32 → sy_M → sy_O} (hk : ∀ (w5 : Value) (w6 : Value) (a4 : Int32) (M : sy_M) (r : xe_R × sy_M), k a4 M = some r → sy_E (d) qL_law_ 1794 [.ref 1000000, .ref 0, .ref 121, .ref 132, .int a4, w5, w6] [] M r) : ∀ ls st M r, juL_law__1794 k ls st M = some r → sy_E d qL_law_ 1794 ls st M r := by
  intro ls st M r h
  obtain ⟨l, e, h1⟩ := sy_xc_ok h; subst e
  obtain ⟨l, e, h2⟩ := sy_xc_ok h1; subst e
  obtain ⟨l, e, h3⟩ := sy_xc_ok h2; subst e
  obtain ⟨l, e, h4⟩ := sy_xc_ok h3; subst e
  obtain ⟨a4, l, e, h5⟩ := sy_xi_ok h4; subst e
  obtain ⟨w5, l, e, h6⟩ := sy_xv_ok h5; subst e
  obtain ⟨w6, l, e, h7⟩ := sy_xv_ok h6; subst e
  obtain ⟨e, h8⟩ := sy_xn_ok h7; subst e
  obtain ⟨e, h9⟩ := sy_xn_ok h8; subst e
  exact hk _ _ a4 M r h9
def juL_law__1729 (k : Int32 → sy_M → sy_O) (ls st : List Value) (M : sy_M) : sy_O := sy_xc 1000000 ls fun l => sy_xc 0 l fun l => sy_xc 121 l fun l => sy_xc 132 l fun l => sy_xi l fun a4 l => sy_xv l fun _ l => sy_xv l fun _ l => sy_xn l (sy_xn st (k a4 M))
theorem jwL_law__1729 {d : Nat} {k : Int32 → sy_M → sy_O} (hk : ∀ (w5 : Value) (w6 : Value) (a4 : Int32) (M : sy_M) (r : xe_R × sy_M), k a4 M = some r → sy_E (d) qL_law_ 1729 [.ref 1000000, .ref 0, .ref 121, .ref 132, .int a4, w5, w6] [] M r) : ∀ ls st M r, juL_law__1729 k ls st M = some r → sy_E d qL_law_ 1729 ls st M r := by
  intro ls st M r h
  obtain ⟨l, e, h1⟩ := sy_xc_ok h; subst e
  obtain ⟨l, e, h2⟩ := sy_xc_ok h1; subst e
  obtain ⟨l, e, h3⟩ := sy_xc_ok h2; subst e
  obtain ⟨l, e, h4⟩ := sy_xc_ok h3; subst e
  obtain ⟨a4, l, e, h5⟩ := sy_xi_ok h4; subst e
  obtain ⟨w5, l, e, h6⟩ := sy_xv_ok h5; subst e
  obtain ⟨w6, l, e, h7⟩ := sy_xv_ok h6; subst e
  obtain ⟨e, h8⟩ := sy_xn_ok h7; subst e
  obtain ⟨e, h9⟩ := sy_xn_ok h8; subst e
  exact hk _ _ a4 M r h9
def juL_law__1797 (k : Int32 → sy_M → sy_O) (ls st : List Value) (M : sy_M) : sy_O := sy_xc 1000000 ls fun l => sy_xc 0 l fun l => sy_xc 121 l fun l => sy_xc 132 l fun l => sy_xi l fun a4 l => sy_xv l fun _ l => sy_xv l fun _ l => sy_xn l (sy_xn st (k a4 M))
theorem jwL_law__1797 {d : Nat} {k : Int32 → sy_M → sy_O} (hk : ∀ (w5 : Value) (w6 : Value) (a4 : Int32) (M : sy_M) (r : xe_R × sy_M), k a4 M = some r → sy_E (d) qL_law_ 1797 [.ref 1000000, .ref 0, .ref 121, .ref 132, .int a4, w5, w6] [] M r) : ∀ ls st M r, juL_law__1797 k ls st M = some r → sy_E d qL_law_ 1797 ls st M r := by
  intro ls st M r h
  obtain ⟨l, e, h1⟩ := sy_xc_ok h; subst e
  obtain ⟨l, e, h2⟩ := sy_xc_ok h1; subst e
  obtain ⟨l, e, h3⟩ := sy_xc_ok h2; subst e
  obtain ⟨l, e, h4⟩ := sy_xc_ok h3; subst e
  obtain ⟨a4, l, e, h5⟩ := sy_xi_ok h4; subst e
  obtain ⟨w5, l, e, h6⟩ := sy_xv_ok h5; subst e
  obtain ⟨w6, l, e, h7⟩ := sy_xv_ok h6; subst e
  obtain ⟨e, h8⟩ := sy_xn_ok h7; subst e
  obtain ⟨e, h9⟩ := sy_xn_ok h8; subst e
  exact hk _ _ a4 M r h9
def juL_law__1875 (k : Int32 → sy_M → sy_O) (ls st : List Value) (M : sy_M) : sy_O := sy_xc 1000000 ls fun l => sy_xc 0 l fun l => sy_xc 121 l fun l => sy_xc 132 l fun l => sy_xi l fun a4 l => sy_xv l fun _ l => sy_xv l fun _ l => sy_xn l (sy_xn st (k a4 M))
theorem jwL_law__1875 {d : Nat} {k : Int32 → sy_M → sy_O} (hk : ∀ (w5 : Value) (w6 : Value) (a4 : Int32) (M : sy_M) (r : xe_R × sy_M), k a4 M = some r → sy_E (d) qL_law_ 1875 [.ref 1000000, .ref 0, .ref 121, .ref 132, .int a4, w5, w6] [] M r) : ∀ ls st M r, juL_law__1875 k ls st M = some r → sy_E d qL_law_ 1875 ls st M r := by
  intro ls st M r h
  obtain ⟨l, e, h1⟩ := sy_xc_ok h; subst e
  obtain ⟨l, e, h2⟩ := sy_xc_ok h1; subst e
  obtain ⟨l, e, h3⟩ := sy_xc_ok h2; subst e
  obtain ⟨l, e, h4⟩ := sy_xc_ok h3; subst e
  obtain ⟨a4, l, e, h5⟩ := sy_xi_ok h4; subst e
  obtain ⟨w5, l, e, h6⟩ := sy_xv_ok h5; subst e
  obtain ⟨w6, l, e, h7⟩ := sy_xv_ok h6; subst e
  obtain ⟨e, h8⟩ := sy_xn_ok h7; subst e
  obtain ⟨e, h9⟩ := sy_xn_ok h8; subst e
  exact hk _ _ a4 M r h9
def juL_law__1822 (k : Int32 → sy_M → sy_O) (ls st : List Value) (M : sy_M) : sy_O := sy_xc 1000000 ls fun l => sy_xc 0 l fun l => sy_xc 121 l fun l => sy_xc 132 l fun l => sy_xi l fun a4 l => sy_xv l fun _ l => sy_xv l fun _ l => sy_xn l (sy_xn st (k a4 M))
theorem jwL_law__1822 {d : Nat} {k : Int32 → sy_M → sy_O} (hk : ∀ (w5 : Value) (w6 : Value) (a4 : Int32) (M : sy_M) (r : xe_R × sy_M), k a4 M = some r → sy_E (d) qL_law_ 1822 [.ref 1000000, .ref 0, .ref 121, .ref 132, .int a4, w5, w6] [] M r) : ∀ ls st M r, juL_law__1822 k ls st M = some r → sy_E d qL_law_ 1822 ls st M r := by
  intro ls st M r h
  obtain ⟨l, e, h1⟩ := sy_xc_ok h; subst e
  obtain ⟨l, e, h2⟩ := sy_xc_ok h1; subst e
  obtain ⟨l, e, h3⟩ := sy_xc_ok h2; subst e
  obtain ⟨l, e, h4⟩ := sy_xc_ok h3; subst e
  obtain ⟨a4, l, e, h5⟩ := sy_xi_ok h4; subst e
  obtain ⟨w5, l, e, h6⟩ := sy_xv_ok h5; subst e
  obtain ⟨w6, l, e, h7⟩ := sy_xv_ok h6; subst e
  obtain ⟨e, h8⟩ := sy_xn_ok h7; subst e
  obtain ⟨e, h9⟩ := sy_xn_ok h8; subst e
  exact hk _ _ a4 M r h9
def juL_law__1911 (k : Int32 → Int32 → Int32 → sy_M → sy_O) (ls st : List Value) (M : sy_M) : sy_O := sy_xc 1000000 ls fun l => sy_xc 0 l fun l => sy_xc 121 l fun l => sy_xc 132 l fun l => sy_xi l fun a4 l => sy_xv l fun _ l => sy_xv l fun _ l => sy_xn l (sy_xi st fun s0 l => sy_xc 121 l fun l => sy_xi l fun s2 l => sy_xn l (k a4 s0 s2 M))
theorem jwL_law__1911 {d : Nat} {k : Int32 → Int32 → Int32 → sy_M → sy_O} (hk : ∀ (w5 : Value) (w6 : Value) (a4 : Int32) (s0 : Int32) (s2 : Int32) (M : sy_M) (r : xe_R × sy_M), k a4 s0 s2 M = some r → sy_E (d) qL_law_ 1911 [.ref 1000000, .ref 0, .ref 121, .ref 132, .int a4, w5, w6] [.int s0, .ref 121, .int s2] M r) : ∀ ls st M r, juL_law__1911 k ls st M = some r → sy_E d qL_law_ 1911 ls st M r := by
  intro ls st M r h
  obtain ⟨l, e, h1⟩ := sy_xc_ok h; subst e
  obtain ⟨l, e, h2⟩ := sy_xc_ok h1; subst e
  obtain ⟨l, e, h3⟩ := sy_xc_ok h2; subst e
  obtain ⟨l, e, h4⟩ := sy_xc_ok h3; subst e
  obtain ⟨a4, l, e, h5⟩ := sy_xi_ok h4; subst e
  obtain ⟨w5, l, e, h6⟩ := sy_xv_ok h5; subst e
  obtain ⟨w6, l, e, h7⟩ := sy_xv_ok h6; subst e
  obtain ⟨e, h8⟩ := sy_xn_ok h7; subst e
  obtain ⟨s0, l, e, h9⟩ := sy_xi_ok h8; subst e
  obtain ⟨l, e, h10⟩ := sy_xc_ok h9; subst e
  obtain ⟨s2, l, e, h11⟩ := sy_xi_ok h10; subst e
  obtain ⟨e, h12⟩ := sy_xn_ok h11; subst e
  exact hk _ _ a4 s0 s2 M r h12
def juL_law__1893 (k : Int32 → Int32 → sy_M → sy_O) (ls st : List Value) (M : sy_M) : sy_O := sy_xc 1000000 ls fun l => sy_xc 0 l fun l => sy_xc 121 l fun l => sy_xc 132 l fun l => sy_xi l fun a4 l => sy_xv l fun _ l => sy_xv l fun _ l => sy_xn l (sy_xi st fun s0 l => sy_xc 0 l fun l => sy_xn l (k a4 s0 M))
theorem jwL_law__1893 {d : Nat} {k : Int32 → Int32 → sy_M → sy_O} (hk : ∀ (w5 : Value) (w6 : Value) (a4 : Int32) (s0 : Int32) (M : sy_M) (r : xe_R × sy_M), k a4 s0 M = some r → sy_E (d) qL_law_ 1893 [.ref 1000000, .ref 0, .ref 121, .ref 132, .int a4, w5, w6] [.int s0, .ref 0] M r) : ∀ ls st M r, juL_law__1893 k ls st M = some r → sy_E d qL_law_ 1893 ls st M r := by
  intro ls st M r h
  obtain ⟨l, e, h1⟩ := sy_xc_ok h; subst e
  obtain ⟨l, e, h2⟩ := sy_xc_ok h1; subst e
  obtain ⟨l, e, h3⟩ := sy_xc_ok h2; subst e
  obtain ⟨l, e, h4⟩ := sy_xc_ok h3; subst e
  obtain ⟨a4, l, e, h5⟩ := sy_xi_ok h4; subst e
  obtain ⟨w5, l, e, h6⟩ := sy_xv_ok h5; subst e
  obtain ⟨w6, l, e, h7⟩ := sy_xv_ok h6; subst e
  obtain ⟨e, h8⟩ := sy_xn_ok h7; subst e
  obtain ⟨s0, l, e, h9⟩ := sy_xi_ok h8; subst e
  obtain ⟨l, e, h10⟩ := sy_xc_ok h9; subst e
  obtain ⟨e, h11⟩ := sy_xn_ok h10; subst e
  exact hk _ _ a4 s0 M r h11
def juL_law__1878 (k : Int32 → sy_M → sy_O) (ls st : List Value) (M : sy_M) : sy_O := sy_xc 1000000 ls fun l => sy_xc 0 l fun l => sy_xc 121 l fun l => sy_xc 132 l fun l => sy_xi l fun a4 l => sy_xv l fun _ l => sy_xv l fun _ l => sy_xn l (sy_xn st (k a4 M))
theorem jwL_law__1878 {d : Nat} {k : Int32 → sy_M → sy_O} (hk : ∀ (w5 : Value) (w6 : Value) (a4 : Int32) (M : sy_M) (r : xe_R × sy_M), k a4 M = some r → sy_E (d) qL_law_ 1878 [.ref 1000000, .ref 0, .ref 121, .ref 132, .int a4, w5, w6] [] M r) : ∀ ls st M r, juL_law__1878 k ls st M = some r → sy_E d qL_law_ 1878 ls st M r := by
  intro ls st M r h
  obtain ⟨l, e, h1⟩ := sy_xc_ok h; subst e
  obtain ⟨l, e, h2⟩ := sy_xc_ok h1; subst e
  obtain ⟨l, e, h3⟩ := sy_xc_ok h2; subst e
  obtain ⟨l, e, h4⟩ := sy_xc_ok h3; subst e
  obtain ⟨a4, l, e, h5⟩ := sy_xi_ok h4; subst e
  obtain ⟨w5, l, e, h6⟩ := sy_xv_ok h5; subst e
  obtain ⟨w6, l, e, h7⟩ := sy_xv_ok h6; subst e
  obtain ⟨e, h8⟩ := sy_xn_ok h7; subst e
  obtain ⟨e, h9⟩ := sy_xn_ok h8; subst e
  exact hk _ _ a4 M r h9
def juL_law__1972 (k : Int32 → sy_M → sy_O) (ls st : List Value) (M : sy_M) : sy_O := sy_xc 1000000 ls fun l => sy_xc 0 l fun l => sy_xc 121 l fun l => sy_xc 132 l fun l => sy_xi l fun a4 l => sy_xv l fun _ l => sy_xv l fun _ l => sy_xn l (sy_xn st (k a4 M))
theorem jwL_law__1972 {d : Nat} {k : Int32 → sy_M → sy_O} (hk : ∀ (w5 : Value) (w6 : Value) (a4 : Int32) (M : sy_M) (r : xe_R × sy_M), k a4 M = some r → sy_E (d) qL_law_ 1972 [.ref 1000000, .ref 0, .ref 121, .ref 132, .int a4, w5, w6] [] M r) : ∀ ls st M r, juL_law__1972 k ls st M = some r → sy_E d qL_law_ 1972 ls st M r := by
  intro ls st M r h
  obtain ⟨l, e, h1⟩ := sy_xc_ok h; subst e
  obtain ⟨l, e, h2⟩ := sy_xc_ok h1; subst e
  obtain ⟨l, e, h3⟩ := sy_xc_ok h2; subst e
  obtain ⟨l, e, h4⟩ := sy_xc_ok h3; subst e
  obtain ⟨a4, l, e, h5⟩ := sy_xi_ok h4; subst e
  obtain ⟨w5, l, e, h6⟩ := sy_xv_ok h5; subst e
  obtain ⟨w6, l, e, h7⟩ := sy_xv_ok h6; subst e
  obtain ⟨e, h8⟩ := sy_xn_ok h7; subst e
  obtain ⟨e, h9⟩ := sy_xn_ok h8; subst e
  exact hk _ _ a4 M r h9
def juL_law__1919 (k : Int32 → sy_M → sy_O) (ls st : List Value) (M : sy_M) : sy_O := sy_xc 1000000 ls fun l => sy_xc 0 l fun l => sy_xc 121 l fun l => sy_xc 132 l fun l => sy_xi l fun a4 l => sy_xv l fun _ l => sy_xv l fun _ l => sy_xn l (sy_xn st (k a4 M))
theorem jwL_law__1919 {d : Nat} {k : Int32 → sy_M → sy_O} (hk : ∀ (w5 : Value) (w6 : Value) (a4 : Int32) (M : sy_M) (r : xe_R × sy_M), k a4 M = some r → sy_E (d) qL_law_ 1919 [.ref 1000000, .ref 0, .ref 121, .ref 132, .int a4, w5, w6] [] M r) : ∀ ls st M r, juL_law__1919 k ls st M = some r → sy_E d qL_law_ 1919 ls st M r := by
  intro ls st M r h
  obtain ⟨l, e, h1⟩ := sy_xc_ok h; subst e
  obtain ⟨l, e, h2⟩ := sy_xc_ok h1; subst e
  obtain ⟨l, e, h3⟩ := sy_xc_ok h2; subst e
  obtain ⟨l, e, h4⟩ := sy_xc_ok h3; subst e
  obtain ⟨a4, l, e, h5⟩ := sy_xi_ok h4; subst e
  obtain ⟨w5, l, e, h6⟩ := sy_xv_ok h5; subst e
  obtain ⟨w6, l, e, h7⟩ := sy_xv_ok h6; subst e
  obtain ⟨e, h8⟩ := sy_xn_ok h7; subst e
  obtain ⟨e, h9⟩ := sy_xn_ok h8; subst e
  exact hk _ _ a4 M r h9
def juL_law__2044 (k : Int32 → sy_M → sy_O) (ls st : List Value) (M : sy_M) : sy_O := sy_xc 1000000 ls fun l => sy_xc 0 l fun l => sy_xc 121 l fun l => sy_xc 132 l fun l => sy_xi l fun a4 l => sy_xv l fun _ l => sy_xv l fun _ l => sy_xn l (sy_xn st (k a4 M))
theorem jwL_law__2044 {d : Nat} {k : Int32 → sy_M → sy_O} (hk : ∀ (w5 : Value) (w6 : Value) (a4 : Int32) (M : sy_M) (r : xe_R × sy_M), k a4 M = some r → sy_E (d) qL_law_ 2044 [.ref 1000000, .ref 0, .ref 121, .ref 132, .int a4, w5, w6] [] M r) : ∀ ls st M r, juL_law__2044 k ls st M = some r → sy_E d qL_law_ 2044 ls st M r := by
  intro ls st M r h
  obtain ⟨l, e, h1⟩ := sy_xc_ok h; subst e
  obtain ⟨l, e, h2⟩ := sy_xc_ok h1; subst e
  obtain ⟨l, e, h3⟩ := sy_xc_ok h2; subst e
  obtain ⟨l, e, h4⟩ := sy_xc_ok h3; subst e
  obtain ⟨a4, l, e, h5⟩ := sy_xi_ok h4; subst e
  obtain ⟨w5, l, e, h6⟩ := sy_xv_ok h5; subst e
  obtain ⟨w6, l, e, h7⟩ := sy_xv_ok h6; subst e
  obtain ⟨e, h8⟩ := sy_xn_ok h7; subst e
  obtain ⟨e, h9⟩ := sy_xn_ok h8; subst e
  exact hk _ _ a4 M r h9
def juL_law__2011 (k : Int32 → Int32 → Int32 → sy_M → sy_O) (ls st : List Value) (M : sy_M) : sy_O := sy_xc 1000000 ls fun l => sy_xc 0 l fun l => sy_xc 121 l fun l => sy_xc 132 l fun l => sy_xi l fun a4 l => sy_xi l fun a5 l => sy_xv l fun _ l => sy_xn l (sy_xi st fun s0 l => sy_xc 121 l fun l => sy_xn l (k a4 a5 s0 M))
theorem jwL_law__2011 {d : Nat} {k : Int32 → Int32 → Int32 → sy_M → sy_O} (hk : ∀ (w6 : Value) (a4 : Int32) (a5 : Int32) (s0 : Int32) (M : sy_M) (r : xe_R × sy_M), k a4 a5 s0 M = some r → sy_E (d) qL_law_ 2011 [.ref 1000000, .ref 0, .ref 121, .ref 132, .int a4, .int a5, w6] [.int s0, .ref 121] M r) : ∀ ls st M r, juL_law__2011 k ls st M = some r → sy_E d qL_law_ 2011 ls st M r := by
  intro ls st M r h
  obtain ⟨l, e, h1⟩ := sy_xc_ok h; subst e
  obtain ⟨l, e, h2⟩ := sy_xc_ok h1; subst e
  obtain ⟨l, e, h3⟩ := sy_xc_ok h2; subst e
  obtain ⟨l, e, h4⟩ := sy_xc_ok h3; subst e
  obtain ⟨a4, l, e, h5⟩ := sy_xi_ok h4; subst e
  obtain ⟨a5, l, e, h6⟩ := sy_xi_ok h5; subst e
  obtain ⟨w6, l, e, h7⟩ := sy_xv_ok h6; subst e
  obtain ⟨e, h8⟩ := sy_xn_ok h7; subst e
  obtain ⟨s0, l, e, h9⟩ := sy_xi_ok h8; subst e
  obtain ⟨l, e, h10⟩ := sy_xc_ok h9; subst e
  obtain ⟨e, h11⟩ := sy_xn_ok h10; subst e
  exact hk _ a4 a5 s0 M r h11
def juL_law__1990 (k : Int32 → Int32 → sy_M → sy_O) (ls st : List Value) (M : sy_M) : sy_O := sy_xc 1000000 ls fun l => sy_xc 0 l fun l => sy_xc 121 l fun l => sy_xc 132 l fun l => sy_xi l fun a4 l => sy_xv l fun _ l => sy_xv l fun _ l => sy_xn l (sy_xi st fun s0 l => sy_xc 0 l fun l => sy_xn l (k a4 s0 M))
theorem jwL_law__1990 {d : Nat} {k : Int32 → Int32 → sy_M → sy_O} (hk : ∀ (w5 : Value) (w6 : Value) (a4 : Int32) (s0 : Int32) (M : sy_M) (r : xe_R × sy_M), k a4 s0 M = some r → sy_E (d) qL_law_ 1990 [.ref 1000000, .ref 0, .ref 121, .ref 132, .int a4, w5, w6] [.int s0, .ref 0] M r) : ∀ ls st M r, juL_law__1990 k ls st M = some r → sy_E d qL_law_ 1990 ls st M r := by
  intro ls st M r h
  obtain ⟨l, e, h1⟩ := sy_xc_ok h; subst e
  obtain ⟨l, e, h2⟩ := sy_xc_ok h1; subst e
  obtain ⟨l, e, h3⟩ := sy_xc_ok h2; subst e
  obtain ⟨l, e, h4⟩ := sy_xc_ok h3; subst e
  obtain ⟨a4, l, e, h5⟩ := sy_xi_ok h4; subst e
  obtain ⟨w5, l, e, h6⟩ := sy_xv_ok h5; subst e
  obtain ⟨w6, l, e, h7⟩ := sy_xv_ok h6; subst e
  obtain ⟨e, h8⟩ := sy_xn_ok h7; subst e
  obtain ⟨s0, l, e, h9⟩ := sy_xi_ok h8; subst e
  obtain ⟨l, e, h10⟩ := sy_xc_ok h9; subst e
  obtain ⟨e, h11⟩ := sy_xn_ok h10; subst e
  exact hk _ _ a4 s0 M r h11
def juL_law__1975 (k : Int32 → sy_M → sy_O) (ls st : List Value) (M : sy_M) : sy_O := sy_xc 1000000 ls fun l => sy_xc 0 l fun l => sy_xc 121 l fun l => sy_xc 132 l fun l => sy_xi l fun a4 l => sy_xv l fun _ l => sy_xv l fun _ l => sy_xn l (sy_xn st (k a4 M))
theorem jwL_law__1975 {d : Nat} {k : Int32 → sy_M → sy_O} (hk : ∀ (w5 : Value) (w6 : Value) (a4 : Int32) (M : sy_M) (r : xe_R × sy_M), k a4 M = some r → sy_E (d) qL_law_ 1975 [.ref 1000000, .ref 0, .ref 121, .ref 132, .int a4, w5, w6] [] M r) : ∀ ls st M r, juL_law__1975 k ls st M = some r → sy_E d qL_law_ 1975 ls st M r := by
  intro ls st M r h
  obtain ⟨l, e, h1⟩ := sy_xc_ok h; subst e
  obtain ⟨l, e, h2⟩ := sy_xc_ok h1; subst e
  obtain ⟨l, e, h3⟩ := sy_xc_ok h2; subst e
  obtain ⟨l, e, h4⟩ := sy_xc_ok h3; subst e
  obtain ⟨a4, l, e, h5⟩ := sy_xi_ok h4; subst e
  obtain ⟨w5, l, e, h6⟩ := sy_xv_ok h5; subst e
  obtain ⟨w6, l, e, h7⟩ := sy_xv_ok h6; subst e
  obtain ⟨e, h8⟩ := sy_xn_ok h7; subst e
  obtain ⟨e, h9⟩ := sy_xn_ok h8; subst e
  exact hk _ _ a4 M r h9
def juL_law__2088 (k : Int32 → sy_M → sy_O) (ls st : List Value) (M : sy_M) : sy_O := sy_xc 1000000 ls fun l => sy_xc 0 l fun l => sy_xc 121 l fun l => sy_xc 132 l fun l => sy_xi l fun a4 l => sy_xv l fun _ l => sy_xv l fun _ l => sy_xn l (sy_xn st (k a4 M))
theorem jwL_law__2088 {d : Nat} {k : Int32 → sy_M → sy_O} (hk : ∀ (w5 : Value) (w6 : Value) (a4 : Int32) (M : sy_M) (r : xe_R × sy_M), k a4 M = some r → sy_E (d) qL_law_ 2088 [.ref 1000000, .ref 0, .ref 121, .ref 132, .int a4, w5, w6] [] M r) : ∀ ls st M r, juL_law__2088 k ls st M = some r → sy_E d qL_law_ 2088 ls st M r := by
  intro ls st M r h
  obtain ⟨l, e, h1⟩ := sy_xc_ok h; subst e
  obtain ⟨l, e, h2⟩ := sy_xc_ok h1; subst e
  obtain ⟨l, e, h3⟩ := sy_xc_ok h2; subst e
  obtain ⟨l, e, h4⟩ := sy_xc_ok h3; subst e
  obtain ⟨a4, l, e, h5⟩ := sy_xi_ok h4; subst e
  obtain ⟨w5, l, e, h6⟩ := sy_xv_ok h5; subst e
  obtain ⟨w6, l, e, h7⟩ := sy_xv_ok h6; subst e
  obtain ⟨e, h8⟩ := sy_xn_ok h7; subst e
  obtain ⟨e, h9⟩ := sy_xn_ok h8; subst e
  exact hk _ _ a4 M r h9
def juL_law__2047 (k : Int32 → sy_M → sy_O) (ls st : List Value) (M : sy_M) : sy_O := sy_xc 1000000 ls fun l => sy_xc 0 l fun l => sy_xc 121 l fun l => sy_xc 132 l fun l => sy_xi l fun a4 l => sy_xv l fun _ l => sy_xv l fun _ l => sy_xn l (sy_xn st (k a4 M))
theorem jwL_law__2047 {d : Nat} {k : Int32 → sy_M → sy_O} (hk : ∀ (w5 : Value) (w6 : Value) (a4 : Int32) (M : sy_M) (r : xe_R × sy_M), k a4 M = some r → sy_E (d) qL_law_ 2047 [.ref 1000000, .ref 0, .ref 121, .ref 132, .int a4, w5, w6] [] M r) : ∀ ls st M r, juL_law__2047 k ls st M = some r → sy_E d qL_law_ 2047 ls st M r := by
  intro ls st M r h
  obtain ⟨l, e, h1⟩ := sy_xc_ok h; subst e
  obtain ⟨l, e, h2⟩ := sy_xc_ok h1; subst e
  obtain ⟨l, e, h3⟩ := sy_xc_ok h2; subst e
  obtain ⟨l, e, h4⟩ := sy_xc_ok h3; subst e
  obtain ⟨a4, l, e, h5⟩ := sy_xi_ok h4; subst e
  obtain ⟨w5, l, e, h6⟩ := sy_xv_ok h5; subst e
  obtain ⟨w6, l, e, h7⟩ := sy_xv_ok h6; subst e
  obtain ⟨e, h8⟩ := sy_xn_ok h7; subst e
  obtain ⟨e, h9⟩ := sy_xn_ok h8; subst e
  exact hk _ _ a4 M r h9
def juL_law__2144 (k : Int32 → sy_M → sy_O) (ls st : List Value) (M : sy_M) : sy_O := sy_xc 1000000 ls fun l => sy_xc 0 l fun l => sy_xc 121 l fun l => sy_xc 132 l fun l => sy_xi l fun a4 l => sy_xv l fun _ l => sy_xv l fun _ l => sy_xn l (sy_xn st (k a4 M))
theorem jwL_law__2144 {d : Nat} {k : Int32 → sy_M → sy_O} (hk : ∀ (w5 : Value) (w6 : Value) (a4 : Int32) (M : sy_M) (r : xe_R × sy_M), k a4 M = some r → sy_E (d) qL_law_ 2144 [.ref 1000000, .ref 0, .ref 121, .ref 132, .int a4, w5, w6] [] M r) : ∀ ls st M r, juL_law__2144 k ls st M = some r → sy_E d qL_law_ 2144 ls st M r := by
  intro ls st M r h
  obtain ⟨l, e, h1⟩ := sy_xc_ok h; subst e
  obtain ⟨l, e, h2⟩ := sy_xc_ok h1; subst e
  obtain ⟨l, e, h3⟩ := sy_xc_ok h2; subst e
  obtain ⟨l, e, h4⟩ := sy_xc_ok h3; subst e
  obtain ⟨a4, l, e, h5⟩ := sy_xi_ok h4; subst e
  obtain ⟨w5, l, e, h6⟩ := sy_xv_ok h5; subst e
  obtain ⟨w6, l, e, h7⟩ := sy_xv_ok h6; subst e
  obtain ⟨e, h8⟩ := sy_xn_ok h7; subst e
  obtain ⟨e, h9⟩ := sy_xn_ok h8; subst e
  exact hk _ _ a4 M r h9
def juL_law__2091 (k : Int32 → sy_M → sy_O) (ls st : List Value) (M : sy_M) : sy_O := sy_xc 1000000 ls fun l => sy_xc 0 l fun l => sy_xc 121 l fun l => sy_xc 132 l fun l => sy_xi l fun a4 l => sy_xv l fun _ l => sy_xv l fun _ l => sy_xn l (sy_xn st (k a4 M))
theorem jwL_law__2091 {d : Nat} {k : Int32 → sy_M → sy_O} (hk : ∀ (w5 : Value) (w6 : Value) (a4 : Int32) (M : sy_M) (r : xe_R × sy_M), k a4 M = some r → sy_E (d) qL_law_ 2091 [.ref 1000000, .ref 0, .ref 121, .ref 132, .int a4, w5, w6] [] M r) : ∀ ls st M r, juL_law__2091 k ls st M = some r → sy_E d qL_law_ 2091 ls st M r := by
  intro ls st M r h
  obtain ⟨l, e, h1⟩ := sy_xc_ok h; subst e
  obtain ⟨l, e, h2⟩ := sy_xc_ok h1; subst e
  obtain ⟨l, e, h3⟩ := sy_xc_ok h2; subst e
  obtain ⟨l, e, h4⟩ := sy_xc_ok h3; subst e
  obtain ⟨a4, l, e, h5⟩ := sy_xi_ok h4; subst e
  obtain ⟨w5, l, e, h6⟩ := sy_xv_ok h5; subst e
  obtain ⟨w6, l, e, h7⟩ := sy_xv_ok h6; subst e
  obtain ⟨e, h8⟩ := sy_xn_ok h7; subst e
  obtain ⟨e, h9⟩ := sy_xn_ok h8; subst e
  exact hk _ _ a4 M r h9
def juL_law__2219 (k : Int32 → sy_M → sy_O) (ls st : List Value) (M : sy_M) : sy_O := sy_xc 1000000 ls fun l => sy_xc 0 l fun l => sy_xc 121 l fun l => sy_xc 132 l fun l => sy_xi l fun a4 l => sy_xv l fun _ l => sy_xv l fun _ l => sy_xn l (sy_xn st (k a4 M))
theorem jwL_law__2219 {d : Nat} {k : Int32 → sy_M → sy_O} (hk : ∀ (w5 : Value) (w6 : Value) (a4 : Int32) (M : sy_M) (r : xe_R × sy_M), k a4 M = some r → sy_E (d) qL_law_ 2219 [.ref 1000000, .ref 0, .ref 121, .ref 132, .int a4, w5, w6] [] M r) : ∀ ls st M r, juL_law__2219 k ls st M = some r → sy_E d qL_law_ 2219 ls st M r := by
  intro ls st M r h
  obtain ⟨l, e, h1⟩ := sy_xc_ok h; subst e
  obtain ⟨l, e, h2⟩ := sy_xc_ok h1; subst e
  obtain ⟨l, e, h3⟩ := sy_xc_ok h2; subst e
  obtain ⟨l, e, h4⟩ := sy_xc_ok h3; subst e
  obtain ⟨a4, l, e, h5⟩ := sy_xi_ok h4; subst e
  obtain ⟨w5, l, e, h6⟩ := sy_xv_ok h5; subst e
  obtain ⟨w6, l, e, h7⟩ := sy_xv_ok h6; subst e
  obtain ⟨e, h8⟩ := sy_xn_ok h7; subst e
  obtain ⟨e, h9⟩ := sy_xn_ok h8; subst e
  exact hk _ _ a4 M r h9
def juL_law__2213 (k : Int32 → Int64 → Int64 → sy_M → sy_O) (ls st : List Value) (M : sy_M) : sy_O := sy_xc 1000000 ls fun l => sy_xc 0 l fun l => sy_xc 121 l fun l => sy_xc 132 l fun l => sy_xi l fun a4 l => sy_xv l fun _ l => sy_xv l fun _ l => sy_xn l (sy_xl st fun s0 l => sy_xl l fun s1 l => sy_xn l (k a4 s0 s1 M))
theorem jwL_law__2213 {d : Nat} {k : Int32 → Int64 → Int64 → sy_M → sy_O} (hk : ∀ (w5 : Value) (w6 : Value) (a4 : Int32) (s0 : Int64) (s1 : Int64) (M : sy_M) (r : xe_R × sy_M), k a4 s0 s1 M = some r → sy_E (d) qL_law_ 2213 [.ref 1000000, .ref 0, .ref 121, .ref 132, .int a4, w5, w6] [.long s0, .long s1] M r) : ∀ ls st M r, juL_law__2213 k ls st M = some r → sy_E d qL_law_ 2213 ls st M r := by
  intro ls st M r h
  obtain ⟨l, e, h1⟩ := sy_xc_ok h; subst e
  obtain ⟨l, e, h2⟩ := sy_xc_ok h1; subst e
  obtain ⟨l, e, h3⟩ := sy_xc_ok h2; subst e
  obtain ⟨l, e, h4⟩ := sy_xc_ok h3; subst e
  obtain ⟨a4, l, e, h5⟩ := sy_xi_ok h4; subst e
  obtain ⟨w5, l, e, h6⟩ := sy_xv_ok h5; subst e
  obtain ⟨w6, l, e, h7⟩ := sy_xv_ok h6; subst e
  obtain ⟨e, h8⟩ := sy_xn_ok h7; subst e
  obtain ⟨s0, l, e, h9⟩ := sy_xl_ok h8; subst e
  obtain ⟨s1, l, e, h10⟩ := sy_xl_ok h9; subst e
  obtain ⟨e, h11⟩ := sy_xn_ok h10; subst e
  exact hk _ _ a4 s0 s1 M r h11
def juL_law__2147 (k : Int32 → sy_M → sy_O) (ls st : List Value) (M : sy_M) : sy_O := sy_xc 1000000 ls fun l => sy_xc 0 l fun l => sy_xc 121 l fun l => sy_xc 132 l fun l => sy_xi l fun a4 l => sy_xv l fun _ l => sy_xv l fun _ l => sy_xn l (sy_xn st (k a4 M))
theorem jwL_law__2147 {d : Nat} {k : Int32 → sy_M → sy_O} (hk : ∀ (w5 : Value) (w6 : Value) (a4 : Int32) (M : sy_M) (r : xe_R × sy_M), k a4 M = some r → sy_E (d) qL_law_ 2147 [.ref 1000000, .ref 0, .ref 121, .ref 132, .int a4, w5, w6] [] M r) : ∀ ls st M r, juL_law__2147 k ls st M = some r → sy_E d qL_law_ 2147 ls st M r := by
  intro ls st M r h
  obtain ⟨l, e, h1⟩ := sy_xc_ok h; subst e
  obtain ⟨l, e, h2⟩ := sy_xc_ok h1; subst e
  obtain ⟨l, e, h3⟩ := sy_xc_ok h2; subst e
  obtain ⟨l, e, h4⟩ := sy_xc_ok h3; subst e
  obtain ⟨a4, l, e, h5⟩ := sy_xi_ok h4; subst e
  obtain ⟨w5, l, e, h6⟩ := sy_xv_ok h5; subst e
  obtain ⟨w6, l, e, h7⟩ := sy_xv_ok h6; subst e
  obtain ⟨e, h8⟩ := sy_xn_ok h7; subst e
  obtain ⟨e, h9⟩ := sy_xn_ok h8; subst e
  exact hk _ _ a4 M r h9
def juL_law__2275 (k : Int32 → sy_M → sy_O) (ls st : List Value) (M : sy_M) : sy_O := sy_xc 1000000 ls fun l => sy_xc 0 l fun l => sy_xc 121 l fun l => sy_xc 132 l fun l => sy_xi l fun a4 l => sy_xv l fun _ l => sy_xv l fun _ l => sy_xn l (sy_xn st (k a4 M))
theorem jwL_law__2275 {d : Nat} {k : Int32 → sy_M → sy_O} (hk : ∀ (w5 : Value) (w6 : Value) (a4 : Int32) (M : sy_M) (r : xe_R × sy_M), k a4 M = some r → sy_E (d) qL_law_ 2275 [.ref 1000000, .ref 0, .ref 121, .ref 132, .int a4, w5, w6] [] M r) : ∀ ls st M r, juL_law__2275 k ls st M = some r → sy_E d qL_law_ 2275 ls st M r := by
  intro ls st M r h
  obtain ⟨l, e, h1⟩ := sy_xc_ok h; subst e
  obtain ⟨l, e, h2⟩ := sy_xc_ok h1; subst e
  obtain ⟨l, e, h3⟩ := sy_xc_ok h2; subst e
  obtain ⟨l, e, h4⟩ := sy_xc_ok h3; subst e
  obtain ⟨a4, l, e, h5⟩ := sy_xi_ok h4; subst e
  obtain ⟨w5, l, e, h6⟩ := sy_xv_ok h5; subst e
  obtain ⟨w6, l, e, h7⟩ := sy_xv_ok h6; subst e
  obtain ⟨e, h8⟩ := sy_xn_ok h7; subst e
  obtain ⟨e, h9⟩ := sy_xn_ok h8; subst e
  exact hk _ _ a4 M r h9
def juL_law__2222 (k : Int32 → sy_M → sy_O) (ls st : List Value) (M : sy_M) : sy_O := sy_xc 1000000 ls fun l => sy_xc 0 l fun l => sy_xc 121 l fun l => sy_xc 132 l fun l => sy_xi l fun a4 l => sy_xv l fun _ l => sy_xv l fun _ l => sy_xn l (sy_xn st (k a4 M))
theorem jwL_law__2222 {d : Nat} {k : Int32 → sy_M → sy_O} (hk : ∀ (w5 : Value) (w6 : Value) (a4 : Int32) (M : sy_M) (r : xe_R × sy_M), k a4 M = some r → sy_E (d) qL_law_ 2222 [.ref 1000000, .ref 0, .ref 121, .ref 132, .int a4, w5, w6] [] M r) : ∀ ls st M r, juL_law__2222 k ls st M = some r → sy_E d qL_law_ 2222 ls st M r := by
  intro ls st M r h
  obtain ⟨l, e, h1⟩ := sy_xc_ok h; subst e
  obtain ⟨l, e, h2⟩ := sy_xc_ok h1; subst e
  obtain ⟨l, e, h3⟩ := sy_xc_ok h2; subst e
  obtain ⟨l, e, h4⟩ := sy_xc_ok h3; subst e
  obtain ⟨a4, l, e, h5⟩ := sy_xi_ok h4; subst e
  obtain ⟨w5, l, e, h6⟩ := sy_xv_ok h5; subst e
  obtain ⟨w6, l, e, h7⟩ := sy_xv_ok h6; subst e
  obtain ⟨e, h8⟩ := sy_xn_ok h7; subst e
  obtain ⟨e, h9⟩ := sy_xn_ok h8; subst e
  exact hk _ _ a4 M r h9
def juL_law__2278 (k : Int32 → sy_M → sy_O) (ls st : List Value) (M : sy_M) : sy_O := sy_xc 1000000 ls fun l => sy_xc 0 l fun l => sy_xc 121 l fun l => sy_xc 132 l fun l => sy_xi l fun a4 l => sy_xv l fun _ l => sy_xv l fun _ l => sy_xn l (sy_xn st (k a4 M))
theorem jwL_law__2278 {d : Nat} {k : Int32 → sy_M → sy_O} (hk : ∀ (w5 : Value) (w6 : Value) (a4 : Int32) (M : sy_M) (r : xe_R × sy_M), k a4 M = some r → sy_E (d) qL_law_ 2278 [.ref 1000000, .ref 0, .ref 121, .ref 132, .int a4, w5, w6] [] M r) : ∀ ls st M r, juL_law__2278 k ls st M = some r → sy_E d qL_law_ 2278 ls st M r := by
  intro ls st M r h
  obtain ⟨l, e, h1⟩ := sy_xc_ok h; subst e
  obtain ⟨l, e, h2⟩ := sy_xc_ok h1; subst e
  obtain ⟨l, e, h3⟩ := sy_xc_ok h2; subst e
  obtain ⟨l, e, h4⟩ := sy_xc_ok h3; subst e
  obtain ⟨a4, l, e, h5⟩ := sy_xi_ok h4; subst e
  obtain ⟨w5, l, e, h6⟩ := sy_xv_ok h5; subst e
  obtain ⟨w6, l, e, h7⟩ := sy_xv_ok h6; subst e
  obtain ⟨e, h8⟩ := sy_xn_ok h7; subst e
  obtain ⟨e, h9⟩ := sy_xn_ok h8; subst e
  exact hk _ _ a4 M r h9
def juL_law__2291 (k : Int32 → sy_M → sy_O) (ls st : List Value) (M : sy_M) : sy_O := sy_xc 1000000 ls fun l => sy_xc 0 l fun l => sy_xc 121 l fun l => sy_xc 132 l fun l => sy_xi l fun a4 l => sy_xv l fun _ l => sy_xv l fun _ l => sy_xn l (sy_xn st (k a4 M))
theorem jwL_law__2291 {d : Nat} {k : Int32 → sy_M → sy_O} (hk : ∀ (w5 : Value) (w6 : Value) (a4 : Int32) (M : sy_M) (r : xe_R × sy_M), k a4 M = some r → sy_E (d) qL_law_ 2291 [.ref 1000000, .ref 0, .ref 121, .ref 132, .int a4, w5, w6] [] M r) : ∀ ls st M r, juL_law__2291 k ls st M = some r → sy_E d qL_law_ 2291 ls st M r := by
  intro ls st M r h
  obtain ⟨l, e, h1⟩ := sy_xc_ok h; subst e
  obtain ⟨l, e, h2⟩ := sy_xc_ok h1; subst e
  obtain ⟨l, e, h3⟩ := sy_xc_ok h2; subst e
  obtain ⟨l, e, h4⟩ := sy_xc_ok h3; subst e
  obtain ⟨a4, l, e, h5⟩ := sy_xi_ok h4; subst e
  obtain ⟨w5, l, e, h6⟩ := sy_xv_ok h5; subst e
  obtain ⟨w6, l, e, h7⟩ := sy_xv_ok h6; subst e
  obtain ⟨e, h8⟩ := sy_xn_ok h7; subst e
  obtain ⟨e, h9⟩ := sy_xn_ok h8; subst e
  exact hk _ _ a4 M r h9
def juL_law__2369 (k : Int32 → sy_M → sy_O) (ls st : List Value) (M : sy_M) : sy_O := sy_xc 1000000 ls fun l => sy_xc 0 l fun l => sy_xc 121 l fun l => sy_xc 132 l fun l => sy_xi l fun a4 l => sy_xv l fun _ l => sy_xv l fun _ l => sy_xn l (sy_xn st (k a4 M))
theorem jwL_law__2369 {d : Nat} {k : Int32 → sy_M → sy_O} (hk : ∀ (w5 : Value) (w6 : Value) (a4 : Int32) (M : sy_M) (r : xe_R × sy_M), k a4 M = some r → sy_E (d) qL_law_ 2369 [.ref 1000000, .ref 0, .ref 121, .ref 132, .int a4, w5, w6] [] M r) : ∀ ls st M r, juL_law__2369 k ls st M = some r → sy_E d qL_law_ 2369 ls st M r := by
  intro ls st M r h
  obtain ⟨l, e, h1⟩ := sy_xc_ok h; subst e
  obtain ⟨l, e, h2⟩ := sy_xc_ok h1; subst e
  obtain ⟨l, e, h3⟩ := sy_xc_ok h2; subst e
  obtain ⟨l, e, h4⟩ := sy_xc_ok h3; subst e
  obtain ⟨a4, l, e, h5⟩ := sy_xi_ok h4; subst e
  obtain ⟨w5, l, e, h6⟩ := sy_xv_ok h5; subst e
  obtain ⟨w6, l, e, h7⟩ := sy_xv_ok h6; subst e
  obtain ⟨e, h8⟩ := sy_xn_ok h7; subst e
  obtain ⟨e, h9⟩ := sy_xn_ok h8; subst e
  exact hk _ _ a4 M r h9
def juL_law__2316 (k : Int32 → sy_M → sy_O) (ls st : List Value) (M : sy_M) : sy_O := sy_xc 1000000 ls fun l => sy_xc 0 l fun l => sy_xc 121 l fun l => sy_xc 132 l fun l => sy_xi l fun a4 l => sy_xv l fun _ l => sy_xv l fun _ l => sy_xn l (sy_xn st (k a4 M))
theorem jwL_law__2316 {d : Nat} {k : Int32 → sy_M → sy_O} (hk : ∀ (w5 : Value) (w6 : Value) (a4 : Int32) (M : sy_M) (r : xe_R × sy_M), k a4 M = some r → sy_E (d) qL_law_ 2316 [.ref 1000000, .ref 0, .ref 121, .ref 132, .int a4, w5, w6] [] M r) : ∀ ls st M r, juL_law__2316 k ls st M = some r → sy_E d qL_law_ 2316 ls st M r := by
  intro ls st M r h
  obtain ⟨l, e, h1⟩ := sy_xc_ok h; subst e
  obtain ⟨l, e, h2⟩ := sy_xc_ok h1; subst e
  obtain ⟨l, e, h3⟩ := sy_xc_ok h2; subst e
  obtain ⟨l, e, h4⟩ := sy_xc_ok h3; subst e
  obtain ⟨a4, l, e, h5⟩ := sy_xi_ok h4; subst e
  obtain ⟨w5, l, e, h6⟩ := sy_xv_ok h5; subst e
  obtain ⟨w6, l, e, h7⟩ := sy_xv_ok h6; subst e
  obtain ⟨e, h8⟩ := sy_xn_ok h7; subst e
  obtain ⟨e, h9⟩ := sy_xn_ok h8; subst e
  exact hk _ _ a4 M r h9
def juL_law__2372 (k : Int32 → sy_M → sy_O) (ls st : List Value) (M : sy_M) : sy_O := sy_xc 1000000 ls fun l => sy_xc 0 l fun l => sy_xc 121 l fun l => sy_xc 132 l fun l => sy_xi l fun a4 l => sy_xv l fun _ l => sy_xv l fun _ l => sy_xn l (sy_xn st (k a4 M))
theorem jwL_law__2372 {d : Nat} {k : Int32 → sy_M → sy_O} (hk : ∀ (w5 : Value) (w6 : Value) (a4 : Int32) (M : sy_M) (r : xe_R × sy_M), k a4 M = some r → sy_E (d) qL_law_ 2372 [.ref 1000000, .ref 0, .ref 121, .ref 132, .int a4, w5, w6] [] M r) : ∀ ls st M r, juL_law__2372 k ls st M = some r → sy_E d qL_law_ 2372 ls st M r := by
  intro ls st M r h
  obtain ⟨l, e, h1⟩ := sy_xc_ok h; subst e
  obtain ⟨l, e, h2⟩ := sy_xc_ok h1; subst e
  obtain ⟨l, e, h3⟩ := sy_xc_ok h2; subst e
  obtain ⟨l, e, h4⟩ := sy_xc_ok h3; subst e
  obtain ⟨a4, l, e, h5⟩ := sy_xi_ok h4; subst e
  obtain ⟨w5, l, e, h6⟩ := sy_xv_ok h5; subst e
  obtain ⟨w6, l, e, h7⟩ := sy_xv_ok h6; subst e
  obtain ⟨e, h8⟩ := sy_xn_ok h7; subst e
  obtain ⟨e, h9⟩ := sy_xn_ok h8; subst e
  exact hk _ _ a4 M r h9
def juL_law__2385 (k : Int32 → sy_M → sy_O) (ls st : List Value) (M : sy_M) : sy_O := sy_xc 1000000 ls fun l => sy_xc 0 l fun l => sy_xc 121 l fun l => sy_xc 132 l fun l => sy_xi l fun a4 l => sy_xv l fun _ l => sy_xv l fun _ l => sy_xn l (sy_xn st (k a4 M))
theorem jwL_law__2385 {d : Nat} {k : Int32 → sy_M → sy_O} (hk : ∀ (w5 : Value) (w6 : Value) (a4 : Int32) (M : sy_M) (r : xe_R × sy_M), k a4 M = some r → sy_E (d) qL_law_ 2385 [.ref 1000000, .ref 0, .ref 121, .ref 132, .int a4, w5, w6] [] M r) : ∀ ls st M r, juL_law__2385 k ls st M = some r → sy_E d qL_law_ 2385 ls st M r := by
  intro ls st M r h
  obtain ⟨l, e, h1⟩ := sy_xc_ok h; subst e
  obtain ⟨l, e, h2⟩ := sy_xc_ok h1; subst e
  obtain ⟨l, e, h3⟩ := sy_xc_ok h2; subst e
  obtain ⟨l, e, h4⟩ := sy_xc_ok h3; subst e
  obtain ⟨a4, l, e, h5⟩ := sy_xi_ok h4; subst e
  obtain ⟨w5, l, e, h6⟩ := sy_xv_ok h5; subst e
  obtain ⟨w6, l, e, h7⟩ := sy_xv_ok h6; subst e
  obtain ⟨e, h8⟩ := sy_xn_ok h7; subst e
  obtain ⟨e, h9⟩ := sy_xn_ok h8; subst e
  exact hk _ _ a4 M r h9
def juL_law__2463 (k : Int32 → sy_M → sy_O) (ls st : List Value) (M : sy_M) : sy_O := sy_xc 1000000 ls fun l => sy_xc 0 l fun l => sy_xc 121 l fun l => sy_xc 132 l fun l => sy_xi l fun a4 l => sy_xv l fun _ l => sy_xv l fun _ l => sy_xn l (sy_xn st (k a4 M))
theorem jwL_law__2463 {d : Nat} {k : Int32 → sy_M → sy_O} (hk : ∀ (w5 : Value) (w6 : Value) (a4 : Int32) (M : sy_M) (r : xe_R × sy_M), k a4 M = some r → sy_E (d) qL_law_ 2463 [.ref 1000000, .ref 0, .ref 121, .ref 132, .int a4, w5, w6] [] M r) : ∀ ls st M r, juL_law__2463 k ls st M = some r → sy_E d qL_law_ 2463 ls st M r := by
  intro ls st M r h
  obtain ⟨l, e, h1⟩ := sy_xc_ok h; subst e
  obtain ⟨l, e, h2⟩ := sy_xc_ok h1; subst e
  obtain ⟨l, e, h3⟩ := sy_xc_ok h2; subst e
  obtain ⟨l, e, h4⟩ := sy_xc_ok h3; subst e
  obtain ⟨a4, l, e, h5⟩ := sy_xi_ok h4; subst e
  obtain ⟨w5, l, e, h6⟩ := sy_xv_ok h5; subst e
  obtain ⟨w6, l, e, h7⟩ := sy_xv_ok h6; subst e
  obtain ⟨e, h8⟩ := sy_xn_ok h7; subst e
  obtain ⟨e, h9⟩ := sy_xn_ok h8; subst e
  exact hk _ _ a4 M r h9
def juL_law__2398 (k : Int32 → sy_M → sy_O) (ls st : List Value) (M : sy_M) : sy_O := sy_xc 1000000 ls fun l => sy_xc 0 l fun l => sy_xc 121 l fun l => sy_xc 132 l fun l => sy_xi l fun a4 l => sy_xv l fun _ l => sy_xv l fun _ l => sy_xn l (sy_xn st (k a4 M))
theorem jwL_law__2398 {d : Nat} {k : Int32 → sy_M → sy_O} (hk : ∀ (w5 : Value) (w6 : Value) (a4 : Int32) (M : sy_M) (r : xe_R × sy_M), k a4 M = some r → sy_E (d) qL_law_ 2398 [.ref 1000000, .ref 0, .ref 121, .ref 132, .int a4, w5, w6] [] M r) : ∀ ls st M r, juL_law__2398 k ls st M = some r → sy_E d qL_law_ 2398 ls st M r := by
  intro ls st M r h
  obtain ⟨l, e, h1⟩ := sy_xc_ok h; subst e
  obtain ⟨l, e, h2⟩ := sy_xc_ok h1; subst e
  obtain ⟨l, e, h3⟩ := sy_xc_ok h2; subst e
  obtain ⟨l, e, h4⟩ := sy_xc_ok h3; subst e
  obtain ⟨a4, l, e, h5⟩ := sy_xi_ok h4; subst e
  obtain ⟨w5, l, e, h6⟩ := sy_xv_ok h5; subst e
  obtain ⟨w6, l, e, h7⟩ := sy_xv_ok h6; subst e
  obtain ⟨e, h8⟩ := sy_xn_ok h7; subst e
  obtain ⟨e, h9⟩ := sy_xn_ok h8; subst e
  exact hk _ _ a4 M r h9
def juL_law__2466 (k : Int32 → sy_M → sy_O) (ls st : List Value) (M : sy_M) : sy_O := sy_xc 1000000 ls fun l => sy_xc 0 l fun l => sy_xc 121 l fun l => sy_xc 132 l fun l => sy_xi l fun a4 l => sy_xv l fun _ l => sy_xv l fun _ l => sy_xn l (sy_xn st (k a4 M))
theorem jwL_law__2466 {d : Nat} {k : Int32 → sy_M → sy_O} (hk : ∀ (w5 : Value) (w6 : Value) (a4 : Int32) (M : sy_M) (r : xe_R × sy_M), k a4 M = some r → sy_E (d) qL_law_ 2466 [.ref 1000000, .ref 0, .ref 121, .ref 132, .int a4, w5, w6] [] M r) : ∀ ls st M r, juL_law__2466 k ls st M = some r → sy_E d qL_law_ 2466 ls st M r := by
  intro ls st M r h
  obtain ⟨l, e, h1⟩ := sy_xc_ok h; subst e
  obtain ⟨l, e, h2⟩ := sy_xc_ok h1; subst e
  obtain ⟨l, e, h3⟩ := sy_xc_ok h2; subst e
  obtain ⟨l, e, h4⟩ := sy_xc_ok h3; subst e
  obtain ⟨a4, l, e, h5⟩ := sy_xi_ok h4; subst e
  obtain ⟨w5, l, e, h6⟩ := sy_xv_ok h5; subst e
  obtain ⟨w6, l, e, h7⟩ := sy_xv_ok h6; subst e
  obtain ⟨e, h8⟩ := sy_xn_ok h7; subst e
  obtain ⟨e, h9⟩ := sy_xn_ok h8; subst e
  exact hk _ _ a4 M r h9
def juL_law__2539 (k : Int32 → sy_M → sy_O) (ls st : List Value) (M : sy_M) : sy_O := sy_xc 1000000 ls fun l => sy_xc 0 l fun l => sy_xc 121 l fun l => sy_xc 132 l fun l => sy_xi l fun a4 l => sy_xv l fun _ l => sy_xv l fun _ l => sy_xn l (sy_xn st (k a4 M))
theorem jwL_law__2539 {d : Nat} {k : Int32 → sy_M → sy_O} (hk : ∀ (w5 : Value) (w6 : Value) (a4 : Int32) (M : sy_M) (r : xe_R × sy_M), k a4 M = some r → sy_E (d) qL_law_ 2539 [.ref 1000000, .ref 0, .ref 121, .ref 132, .int a4, w5, w6] [] M r) : ∀ ls st M r, juL_law__2539 k ls st M = some r → sy_E d qL_law_ 2539 ls st M r := by
  intro ls st M r h
  obtain ⟨l, e, h1⟩ := sy_xc_ok h; subst e
  obtain ⟨l, e, h2⟩ := sy_xc_ok h1; subst e
  obtain ⟨l, e, h3⟩ := sy_xc_ok h2; subst e
  obtain ⟨l, e, h4⟩ := sy_xc_ok h3; subst e
  obtain ⟨a4, l, e, h5⟩ := sy_xi_ok h4; subst e
  obtain ⟨w5, l, e, h6⟩ := sy_xv_ok h5; subst e
  obtain ⟨w6, l, e, h7⟩ := sy_xv_ok h6; subst e
  obtain ⟨e, h8⟩ := sy_xn_ok h7; subst e
  obtain ⟨e, h9⟩ := sy_xn_ok h8; subst e
  exact hk _ _ a4 M r h9
def juL_law__2533 (k : Int32 → Int64 → Int64 → sy_M → sy_O) (ls st : List Value) (M : sy_M) : sy_O := sy_xc 1000000 ls fun l => sy_xc 0 l fun l => sy_xc 121 l fun l => sy_xc 132 l fun l => sy_xi l fun a4 l => sy_xv l fun _ l => sy_xv l fun _ l => sy_xn l (sy_xl st fun s0 l => sy_xl l fun s1 l => sy_xn l (k a4 s0 s1 M))
theorem jwL_law__2533 {d : Nat} {k : Int32 → Int64 → Int64 → sy_M → sy_O} (hk : ∀ (w5 : Value) (w6 : Value) (a4 : Int32) (s0 : Int64) (s1 : Int64) (M : sy_M) (r : xe_R × sy_M), k a4 s0 s1 M = some r → sy_E (d) qL_law_ 2533 [.ref 1000000, .ref 0, .ref 121, .ref 132, .int a4, w5, w6] [.long s0, .long s1] M r) : ∀ ls st M r, juL_law__2533 k ls st M = some r → sy_E d qL_law_ 2533 ls st M r := by
  intro ls st M r h
  obtain ⟨l, e, h1⟩ := sy_xc_ok h; subst e
  obtain ⟨l, e, h2⟩ := sy_xc_ok h1; subst e
  obtain ⟨l, e, h3⟩ := sy_xc_ok h2; subst e
  obtain ⟨l, e, h4⟩ := sy_xc_ok h3; subst e
  obtain ⟨a4, l, e, h5⟩ := sy_xi_ok h4; subst e
  obtain ⟨w5, l, e, h6⟩ := sy_xv_ok h5; subst e
  obtain ⟨w6, l, e, h7⟩ := sy_xv_ok h6; subst e
  obtain ⟨e, h8⟩ := sy_xn_ok h7; subst e
  obtain ⟨s0, l, e, h9⟩ := sy_xl_ok h8; subst e
  obtain ⟨s1, l, e, h10⟩ := sy_xl_ok h9; subst e
  obtain ⟨e, h11⟩ := sy_xn_ok h10; subst e
  exact hk _ _ a4 s0 s1 M r h11
def juL_law__2479 (k : Int32 → sy_M → sy_O) (ls st : List Value) (M : sy_M) : sy_O := sy_xc 1000000 ls fun l => sy_xc 0 l fun l => sy_xc 121 l fun l => sy_xc 132 l fun l => sy_xi l fun a4 l => sy_xv l fun _ l => sy_xv l fun _ l => sy_xn l (sy_xn st (k a4 M))
theorem jwL_law__2479 {d : Nat} {k : Int32 → sy_M → sy_O} (hk : ∀ (w5 : Value) (w6 : Value) (a4 : Int32) (M : sy_M) (r : xe_R × sy_M), k a4 M = some r → sy_E (d) qL_law_ 2479 [.ref 1000000, .ref 0, .ref 121, .ref 132, .int a4, w5, w6] [] M r) : ∀ ls st M r, juL_law__2479 k ls st M = some r → sy_E d qL_law_ 2479 ls st M r := by
  intro ls st M r h
  obtain ⟨l, e, h1⟩ := sy_xc_ok h; subst e
  obtain ⟨l, e, h2⟩ := sy_xc_ok h1; subst e
  obtain ⟨l, e, h3⟩ := sy_xc_ok h2; subst e
  obtain ⟨l, e, h4⟩ := sy_xc_ok h3; subst e
  obtain ⟨a4, l, e, h5⟩ := sy_xi_ok h4; subst e
  obtain ⟨w5, l, e, h6⟩ := sy_xv_ok h5; subst e
  obtain ⟨w6, l, e, h7⟩ := sy_xv_ok h6; subst e
  obtain ⟨e, h8⟩ := sy_xn_ok h7; subst e
  obtain ⟨e, h9⟩ := sy_xn_ok h8; subst e
  exact hk _ _ a4 M r h9
def juL_law__2542 (k : Int32 → sy_M → sy_O) (ls st : List Value) (M : sy_M) : sy_O := sy_xc 1000000 ls fun l => sy_xc 0 l fun l => sy_xc 121 l fun l => sy_xc 132 l fun l => sy_xi l fun a4 l => sy_xv l fun _ l => sy_xv l fun _ l => sy_xn l (sy_xn st (k a4 M))
theorem jwL_law__2542 {d : Nat} {k : Int32 → sy_M → sy_O} (hk : ∀ (w5 : Value) (w6 : Value) (a4 : Int32) (M : sy_M) (r : xe_R × sy_M), k a4 M = some r → sy_E (d) qL_law_ 2542 [.ref 1000000, .ref 0, .ref 121, .ref 132, .int a4, w5, w6] [] M r) : ∀ ls st M r, juL_law__2542 k ls st M = some r → sy_E d qL_law_ 2542 ls st M r := by
  intro ls st M r h
  obtain ⟨l, e, h1⟩ := sy_xc_ok h; subst e
  obtain ⟨l, e, h2⟩ := sy_xc_ok h1; subst e
  obtain ⟨l, e, h3⟩ := sy_xc_ok h2; subst e
  obtain ⟨l, e, h4⟩ := sy_xc_ok h3; subst e
  obtain ⟨a4, l, e, h5⟩ := sy_xi_ok h4; subst e
  obtain ⟨w5, l, e, h6⟩ := sy_xv_ok h5; subst e
  obtain ⟨w6, l, e, h7⟩ := sy_xv_ok h6; subst e
  obtain ⟨e, h8⟩ := sy_xn_ok h7; subst e
  obtain ⟨e, h9⟩ := sy_xn_ok h8; subst e
  exact hk _ _ a4 M r h9
def juL_law__2620 (k : Int32 → sy_M → sy_O) (ls st : List Value) (M : sy_M) : sy_O := sy_xc 1000000 ls fun l => sy_xc 0 l fun l => sy_xc 121 l fun l => sy_xc 132 l fun l => sy_xi l fun a4 l => sy_xv l fun _ l => sy_xv l fun _ l => sy_xn l (sy_xn st (k a4 M))
theorem jwL_law__2620 {d : Nat} {k : Int32 → sy_M → sy_O} (hk : ∀ (w5 : Value) (w6 : Value) (a4 : Int32) (M : sy_M) (r : xe_R × sy_M), k a4 M = some r → sy_E (d) qL_law_ 2620 [.ref 1000000, .ref 0, .ref 121, .ref 132, .int a4, w5, w6] [] M r) : ∀ ls st M r, juL_law__2620 k ls st M = some r → sy_E d qL_law_ 2620 ls st M r := by
  intro ls st M r h
  obtain ⟨l, e, h1⟩ := sy_xc_ok h; subst e
  obtain ⟨l, e, h2⟩ := sy_xc_ok h1; subst e
  obtain ⟨l, e, h3⟩ := sy_xc_ok h2; subst e
  obtain ⟨l, e, h4⟩ := sy_xc_ok h3; subst e
  obtain ⟨a4, l, e, h5⟩ := sy_xi_ok h4; subst e
  obtain ⟨w5, l, e, h6⟩ := sy_xv_ok h5; subst e
  obtain ⟨w6, l, e, h7⟩ := sy_xv_ok h6; subst e
  obtain ⟨e, h8⟩ := sy_xn_ok h7; subst e
  obtain ⟨e, h9⟩ := sy_xn_ok h8; subst e
  exact hk _ _ a4 M r h9
def juL_law__2555 (k : Int32 → sy_M → sy_O) (ls st : List Value) (M : sy_M) : sy_O := sy_xc 1000000 ls fun l => sy_xc 0 l fun l => sy_xc 121 l fun l => sy_xc 132 l fun l => sy_xi l fun a4 l => sy_xv l fun _ l => sy_xv l fun _ l => sy_xn l (sy_xn st (k a4 M))
theorem jwL_law__2555 {d : Nat} {k : Int32 → sy_M → sy_O} (hk : ∀ (w5 : Value) (w6 : Value) (a4 : Int32) (M : sy_M) (r : xe_R × sy_M), k a4 M = some r → sy_E (d) qL_law_ 2555 [.ref 1000000, .ref 0, .ref 121, .ref 132, .int a4, w5, w6] [] M r) : ∀ ls st M r, juL_law__2555 k ls st M = some r → sy_E d qL_law_ 2555 ls st M r := by
  intro ls st M r h
  obtain ⟨l, e, h1⟩ := sy_xc_ok h; subst e
  obtain ⟨l, e, h2⟩ := sy_xc_ok h1; subst e
  obtain ⟨l, e, h3⟩ := sy_xc_ok h2; subst e
  obtain ⟨l, e, h4⟩ := sy_xc_ok h3; subst e
  obtain ⟨a4, l, e, h5⟩ := sy_xi_ok h4; subst e
  obtain ⟨w5, l, e, h6⟩ := sy_xv_ok h5; subst e
  obtain ⟨w6, l, e, h7⟩ := sy_xv_ok h6; subst e
  obtain ⟨e, h8⟩ := sy_xn_ok h7; subst e
  obtain ⟨e, h9⟩ := sy_xn_ok h8; subst e
  exact hk _ _ a4 M r h9
def juL_law__2688 (k : Int32 → sy_M → sy_O) (ls st : List Value) (M : sy_M) : sy_O := sy_xc 1000000 ls fun l => sy_xc 0 l fun l => sy_xc 121 l fun l => sy_xc 132 l fun l => sy_xi l fun a4 l => sy_xv l fun _ l => sy_xv l fun _ l => sy_xn l (sy_xn st (k a4 M))
theorem jwL_law__2688 {d : Nat} {k : Int32 → sy_M → sy_O} (hk : ∀ (w5 : Value) (w6 : Value) (a4 : Int32) (M : sy_M) (r : xe_R × sy_M), k a4 M = some r → sy_E (d) qL_law_ 2688 [.ref 1000000, .ref 0, .ref 121, .ref 132, .int a4, w5, w6] [] M r) : ∀ ls st M r, juL_law__2688 k ls st M = some r → sy_E d qL_law_ 2688 ls st M r := by
  intro ls st M r h
  obtain ⟨l, e, h1⟩ := sy_xc_ok h; subst e
  obtain ⟨l, e, h2⟩ := sy_xc_ok h1; subst e
  obtain ⟨l, e, h3⟩ := sy_xc_ok h2; subst e
  obtain ⟨l, e, h4⟩ := sy_xc_ok h3; subst e
  obtain ⟨a4, l, e, h5⟩ := sy_xi_ok h4; subst e
  obtain ⟨w5, l, e, h6⟩ := sy_xv_ok h5; subst e
  obtain ⟨w6, l, e, h7⟩ := sy_xv_ok h6; subst e
  obtain ⟨e, h8⟩ := sy_xn_ok h7; subst e
  obtain ⟨e, h9⟩ := sy_xn_ok h8; subst e
  exact hk _ _ a4 M r h9
def juL_law__2623 (k : Int32 → sy_M → sy_O) (ls st : List Value) (M : sy_M) : sy_O := sy_xc 1000000 ls fun l => sy_xc 0 l fun l => sy_xc 121 l fun l => sy_xc 132 l fun l => sy_xi l fun a4 l => sy_xv l fun _ l => sy_xv l fun _ l => sy_xn l (sy_xn st (k a4 M))
theorem jwL_law__2623 {d : Nat} {k : Int32 → sy_M → sy_O} (hk : ∀ (w5 : Value) (w6 : Value) (a4 : Int32) (M : sy_M) (r : xe_R × sy_M), k a4 M = some r → sy_E (d) qL_law_ 2623 [.ref 1000000, .ref 0, .ref 121, .ref 132, .int a4, w5, w6] [] M r) : ∀ ls st M r, juL_law__2623 k ls st M = some r → sy_E d qL_law_ 2623 ls st M r := by
  intro ls st M r h
  obtain ⟨l, e, h1⟩ := sy_xc_ok h; subst e
  obtain ⟨l, e, h2⟩ := sy_xc_ok h1; subst e
  obtain ⟨l, e, h3⟩ := sy_xc_ok h2; subst e
  obtain ⟨l, e, h4⟩ := sy_xc_ok h3; subst e
  obtain ⟨a4, l, e, h5⟩ := sy_xi_ok h4; subst e
  obtain ⟨w5, l, e, h6⟩ := sy_xv_ok h5; subst e
  obtain ⟨w6, l, e, h7⟩ := sy_xv_ok h6; subst e
  obtain ⟨e, h8⟩ := sy_xn_ok h7; subst e
  obtain ⟨e, h9⟩ := sy_xn_ok h8; subst e
  exact hk _ _ a4 M r h9
def juL_law__2691 (k : Int32 → sy_M → sy_O) (ls st : List Value) (M : sy_M) : sy_O := sy_xc 1000000 ls fun l => sy_xc 0 l fun l => sy_xc 121 l fun l => sy_xc 132 l fun l => sy_xi l fun a4 l => sy_xv l fun _ l => sy_xv l fun _ l => sy_xn l (sy_xn st (k a4 M))
theorem jwL_law__2691 {d : Nat} {k : Int32 → sy_M → sy_O} (hk : ∀ (w5 : Value) (w6 : Value) (a4 : Int32) (M : sy_M) (r : xe_R × sy_M), k a4 M = some r → sy_E (d) qL_law_ 2691 [.ref 1000000, .ref 0, .ref 121, .ref 132, .int a4, w5, w6] [] M r) : ∀ ls st M r, juL_law__2691 k ls st M = some r → sy_E d qL_law_ 2691 ls st M r := by
  intro ls st M r h
  obtain ⟨l, e, h1⟩ := sy_xc_ok h; subst e
  obtain ⟨l, e, h2⟩ := sy_xc_ok h1; subst e
  obtain ⟨l, e, h3⟩ := sy_xc_ok h2; subst e
  obtain ⟨l, e, h4⟩ := sy_xc_ok h3; subst e
  obtain ⟨a4, l, e, h5⟩ := sy_xi_ok h4; subst e
  obtain ⟨w5, l, e, h6⟩ := sy_xv_ok h5; subst e
  obtain ⟨w6, l, e, h7⟩ := sy_xv_ok h6; subst e
  obtain ⟨e, h8⟩ := sy_xn_ok h7; subst e
  obtain ⟨e, h9⟩ := sy_xn_ok h8; subst e
  exact hk _ _ a4 M r h9
def juL_law__2704 (k : Int32 → sy_M → sy_O) (ls st : List Value) (M : sy_M) : sy_O := sy_xc 1000000 ls fun l => sy_xc 0 l fun l => sy_xc 121 l fun l => sy_xc 132 l fun l => sy_xi l fun a4 l => sy_xv l fun _ l => sy_xv l fun _ l => sy_xn l (sy_xn st (k a4 M))
theorem jwL_law__2704 {d : Nat} {k : Int32 → sy_M → sy_O} (hk : ∀ (w5 : Value) (w6 : Value) (a4 : Int32) (M : sy_M) (r : xe_R × sy_M), k a4 M = some r → sy_E (d) qL_law_ 2704 [.ref 1000000, .ref 0, .ref 121, .ref 132, .int a4, w5, w6] [] M r) : ∀ ls st M r, juL_law__2704 k ls st M = some r → sy_E d qL_law_ 2704 ls st M r := by
  intro ls st M r h
  obtain ⟨l, e, h1⟩ := sy_xc_ok h; subst e
  obtain ⟨l, e, h2⟩ := sy_xc_ok h1; subst e
  obtain ⟨l, e, h3⟩ := sy_xc_ok h2; subst e
  obtain ⟨l, e, h4⟩ := sy_xc_ok h3; subst e
  obtain ⟨a4, l, e, h5⟩ := sy_xi_ok h4; subst e
  obtain ⟨w5, l, e, h6⟩ := sy_xv_ok h5; subst e
  obtain ⟨w6, l, e, h7⟩ := sy_xv_ok h6; subst e
  obtain ⟨e, h8⟩ := sy_xn_ok h7; subst e
  obtain ⟨e, h9⟩ := sy_xn_ok h8; subst e
  exact hk _ _ a4 M r h9
def juL_law__2717 (k : Int32 → sy_M → sy_O) (ls st : List Value) (M : sy_M) : sy_O := sy_xc 1000000 ls fun l => sy_xc 0 l fun l => sy_xc 121 l fun l => sy_xc 132 l fun l => sy_xi l fun a4 l => sy_xv l fun _ l => sy_xv l fun _ l => sy_xn l (sy_xn st (k a4 M))
theorem jwL_law__2717 {d : Nat} {k : Int32 → sy_M → sy_O} (hk : ∀ (w5 : Value) (w6 : Value) (a4 : Int32) (M : sy_M) (r : xe_R × sy_M), k a4 M = some r → sy_E (d) qL_law_ 2717 [.ref 1000000, .ref 0, .ref 121, .ref 132, .int a4, w5, w6] [] M r) : ∀ ls st M r, juL_law__2717 k ls st M = some r → sy_E d qL_law_ 2717 ls st M r := by
  intro ls st M r h
  obtain ⟨l, e, h1⟩ := sy_xc_ok h; subst e
  obtain ⟨l, e, h2⟩ := sy_xc_ok h1; subst e
  obtain ⟨l, e, h3⟩ := sy_xc_ok h2; subst e
  obtain ⟨l, e, h4⟩ := sy_xc_ok h3; subst e
  obtain ⟨a4, l, e, h5⟩ := sy_xi_ok h4; subst e
  obtain ⟨w5, l, e, h6⟩ := sy_xv_ok h5; subst e
  obtain ⟨w6, l, e, h7⟩ := sy_xv_ok h6; subst e
  obtain ⟨e, h8⟩ := sy_xn_ok h7; subst e
  obtain ⟨e, h9⟩ := sy_xn_ok h8; subst e
  exact hk _ _ a4 M r h9
def juL_law__2730 (k : Int32 → sy_M → sy_O) (ls st : List Value) (M : sy_M) : sy_O := sy_xc 1000000 ls fun l => sy_xc 0 l fun l => sy_xc 121 l fun l => sy_xc 132 l fun l => sy_xi l fun a4 l => sy_xv l fun _ l => sy_xv l fun _ l => sy_xn l (sy_xn st (k a4 M))
theorem jwL_law__2730 {d : Nat} {k : Int32 → sy_M → sy_O} (hk : ∀ (w5 : Value) (w6 : Value) (a4 : Int32) (M : sy_M) (r : xe_R × sy_M), k a4 M = some r → sy_E (d) qL_law_ 2730 [.ref 1000000, .ref 0, .ref 121, .ref 132, .int a4, w5, w6] [] M r) : ∀ ls st M r, juL_law__2730 k ls st M = some r → sy_E d qL_law_ 2730 ls st M r := by
  intro ls st M r h
  obtain ⟨l, e, h1⟩ := sy_xc_ok h; subst e
  obtain ⟨l, e, h2⟩ := sy_xc_ok h1; subst e
  obtain ⟨l, e, h3⟩ := sy_xc_ok h2; subst e
  obtain ⟨l, e, h4⟩ := sy_xc_ok h3; subst e
  obtain ⟨a4, l, e, h5⟩ := sy_xi_ok h4; subst e
  obtain ⟨w5, l, e, h6⟩ := sy_xv_ok h5; subst e
  obtain ⟨w6, l, e, h7⟩ := sy_xv_ok h6; subst e
  obtain ⟨e, h8⟩ := sy_xn_ok h7; subst e
  obtain ⟨e, h9⟩ := sy_xn_ok h8; subst e
  exact hk _ _ a4 M r h9
def juL_law__2824 (k : Int32 → sy_M → sy_O) (ls st : List Value) (M : sy_M) : sy_O := sy_xc 1000000 ls fun l => sy_xc 0 l fun l => sy_xc 121 l fun l => sy_xc 132 l fun l => sy_xi l fun a4 l => sy_xv l fun _ l => sy_xv l fun _ l => sy_xn l (sy_xn st (k a4 M))
theorem jwL_law__2824 {d : Nat} {k : Int32 → sy_M → sy_O} (hk : ∀ (w5 : Value) (w6 : Value) (a4 : Int32) (M : sy_M) (r : xe_R × sy_M), k a4 M = some r → sy_E (d) qL_law_ 2824 [.ref 1000000, .ref 0, .ref 121, .ref 132, .int a4, w5, w6] [] M r) : ∀ ls st M r, juL_law__2824 k ls st M = some r → sy_E d qL_law_ 2824 ls st M r := by
  intro ls st M r h
  obtain ⟨l, e, h1⟩ := sy_xc_ok h; subst e
  obtain ⟨l, e, h2⟩ := sy_xc_ok h1; subst e
  obtain ⟨l, e, h3⟩ := sy_xc_ok h2; subst e
  obtain ⟨l, e, h4⟩ := sy_xc_ok h3; subst e
  obtain ⟨a4, l, e, h5⟩ := sy_xi_ok h4; subst e
  obtain ⟨w5, l, e, h6⟩ := sy_xv_ok h5; subst e
  obtain ⟨w6, l, e, h7⟩ := sy_xv_ok h6; subst e
  obtain ⟨e, h8⟩ := sy_xn_ok h7; subst e
  obtain ⟨e, h9⟩ := sy_xn_ok h8; subst e
  exact hk _ _ a4 M r h9
def juL_law__2791 (k : Int32 → Int32 → Int32 → Int32 → sy_M → sy_O) (ls st : List Value) (M : sy_M) : sy_O := sy_xc 1000000 ls fun l => sy_xc 0 l fun l => sy_xc 121 l fun l => sy_xc 132 l fun l => sy_xi l fun a4 l => sy_xi l fun a5 l => sy_xv l fun _ l => sy_xn l (sy_xi st fun s0 l => sy_xi l fun s1 l => sy_xc 121 l fun l => sy_xn l (k a4 a5 s0 s1 M))
theorem jwL_law__2791 {d : Nat} {k : Int32 → Int32 → Int32 → Int32 → sy_M → sy_O} (hk : ∀ (w6 : Value) (a4 : Int32) (a5 : Int32) (s0 : Int32) (s1 : Int32) (M : sy_M) (r : xe_R × sy_M), k a4 a5 s0 s1 M = some r → sy_E (d) qL_law_ 2791 [.ref 1000000, .ref 0, .ref 121, .ref 132, .int a4, .int a5, w6] [.int s0, .int s1, .ref 121] M r) : ∀ ls st M r, juL_law__2791 k ls st M = some r → sy_E d qL_law_ 2791 ls st M r := by
  intro ls st M r h
  obtain ⟨l, e, h1⟩ := sy_xc_ok h; subst e
  obtain ⟨l, e, h2⟩ := sy_xc_ok h1; subst e
  obtain ⟨l, e, h3⟩ := sy_xc_ok h2; subst e
  obtain ⟨l, e, h4⟩ := sy_xc_ok h3; subst e
  obtain ⟨a4, l, e, h5⟩ := sy_xi_ok h4; subst e
  obtain ⟨a5, l, e, h6⟩ := sy_xi_ok h5; subst e
  obtain ⟨w6, l, e, h7⟩ := sy_xv_ok h6; subst e
  obtain ⟨e, h8⟩ := sy_xn_ok h7; subst e
  obtain ⟨s0, l, e, h9⟩ := sy_xi_ok h8; subst e
  obtain ⟨s1, l, e, h10⟩ := sy_xi_ok h9; subst e
  obtain ⟨l, e, h11⟩ := sy_xc_ok h10; subst e
  obtain ⟨e, h12⟩ := sy_xn_ok h11; subst e
  exact hk _ a4 a5 s0 s1 M r h12
def juL_law__2764 (k : Int32 → Int32 → Int32 → sy_M → sy_O) (ls st : List Value) (M : sy_M) : sy_O := sy_xc 1000000 ls fun l => sy_xc 0 l fun l => sy_xc 121 l fun l => sy_xc 132 l fun l => sy_xi l fun a4 l => sy_xv l fun _ l => sy_xv l fun _ l => sy_xn l (sy_xi st fun s0 l => sy_xi l fun s1 l => sy_xc 0 l fun l => sy_xn l (k a4 s0 s1 M))
theorem jwL_law__2764 {d : Nat} {k : Int32 → Int32 → Int32 → sy_M → sy_O} (hk : ∀ (w5 : Value) (w6 : Value) (a4 : Int32) (s0 : Int32) (s1 : Int32) (M : sy_M) (r : xe_R × sy_M), k a4 s0 s1 M = some r → sy_E (d) qL_law_ 2764 [.ref 1000000, .ref 0, .ref 121, .ref 132, .int a4, w5, w6] [.int s0, .int s1, .ref 0] M r) : ∀ ls st M r, juL_law__2764 k ls st M = some r → sy_E d qL_law_ 2764 ls st M r := by
  intro ls st M r h
  obtain ⟨l, e, h1⟩ := sy_xc_ok h; subst e
  obtain ⟨l, e, h2⟩ := sy_xc_ok h1; subst e
  obtain ⟨l, e, h3⟩ := sy_xc_ok h2; subst e
  obtain ⟨l, e, h4⟩ := sy_xc_ok h3; subst e
  obtain ⟨a4, l, e, h5⟩ := sy_xi_ok h4; subst e
  obtain ⟨w5, l, e, h6⟩ := sy_xv_ok h5; subst e
  obtain ⟨w6, l, e, h7⟩ := sy_xv_ok h6; subst e
  obtain ⟨e, h8⟩ := sy_xn_ok h7; subst e
  obtain ⟨s0, l, e, h9⟩ := sy_xi_ok h8; subst e
  obtain ⟨s1, l, e, h10⟩ := sy_xi_ok h9; subst e
  obtain ⟨l, e, h11⟩ := sy_xc_ok h10; subst e
  obtain ⟨e, h12⟩ := sy_xn_ok h11; subst e
  exact hk _ _ a4 s0 s1 M r h12
def juL_law__2743 (k : Int32 → sy_M → sy_O) (ls st : List Value) (M : sy_M) : sy_O := sy_xc 1000000 ls fun l => sy_xc 0 l fun l => sy_xc 121 l fun l => sy_xc 132 l fun l => sy_xi l fun a4 l => sy_xv l fun _ l => sy_xv l fun _ l => sy_xn l (sy_xn st (k a4 M))
theorem jwL_law__2743 {d : Nat} {k : Int32 → sy_M → sy_O} (hk : ∀ (w5 : Value) (w6 : Value) (a4 : Int32) (M : sy_M) (r : xe_R × sy_M), k a4 M = some r → sy_E (d) qL_law_ 2743 [.ref 1000000, .ref 0, .ref 121, .ref 132, .int a4, w5, w6] [] M r) : ∀ ls st M r, juL_law__2743 k ls st M = some r → sy_E d qL_law_ 2743 ls st M r := by
  intro ls st M r h
  obtain ⟨l, e, h1⟩ := sy_xc_ok h; subst e
  obtain ⟨l, e, h2⟩ := sy_xc_ok h1; subst e
  obtain ⟨l, e, h3⟩ := sy_xc_ok h2; subst e
  obtain ⟨l, e, h4⟩ := sy_xc_ok h3; subst e
  obtain ⟨a4, l, e, h5⟩ := sy_xi_ok h4; subst e
  obtain ⟨w5, l, e, h6⟩ := sy_xv_ok h5; subst e
  obtain ⟨w6, l, e, h7⟩ := sy_xv_ok h6; subst e
  obtain ⟨e, h8⟩ := sy_xn_ok h7; subst e
  obtain ⟨e, h9⟩ := sy_xn_ok h8; subst e
  exact hk _ _ a4 M r h9
def juL_law__2908 (k : Int32 → sy_M → sy_O) (ls st : List Value) (M : sy_M) : sy_O := sy_xc 1000000 ls fun l => sy_xc 0 l fun l => sy_xc 121 l fun l => sy_xc 132 l fun l => sy_xi l fun a4 l => sy_xv l fun _ l => sy_xv l fun _ l => sy_xn l (sy_xn st (k a4 M))
theorem jwL_law__2908 {d : Nat} {k : Int32 → sy_M → sy_O} (hk : ∀ (w5 : Value) (w6 : Value) (a4 : Int32) (M : sy_M) (r : xe_R × sy_M), k a4 M = some r → sy_E (d) qL_law_ 2908 [.ref 1000000, .ref 0, .ref 121, .ref 132, .int a4, w5, w6] [] M r) : ∀ ls st M r, juL_law__2908 k ls st M = some r → sy_E d qL_law_ 2908 ls st M r := by
  intro ls st M r h
  obtain ⟨l, e, h1⟩ := sy_xc_ok h; subst e
  obtain ⟨l, e, h2⟩ := sy_xc_ok h1; subst e
  obtain ⟨l, e, h3⟩ := sy_xc_ok h2; subst e
  obtain ⟨l, e, h4⟩ := sy_xc_ok h3; subst e
  obtain ⟨a4, l, e, h5⟩ := sy_xi_ok h4; subst e
  obtain ⟨w5, l, e, h6⟩ := sy_xv_ok h5; subst e
  obtain ⟨w6, l, e, h7⟩ := sy_xv_ok h6; subst e
  obtain ⟨e, h8⟩ := sy_xn_ok h7; subst e
  obtain ⟨e, h9⟩ := sy_xn_ok h8; subst e
  exact hk _ _ a4 M r h9
def juL_law__2875 (k : Int32 → Int32 → Int32 → Int32 → sy_M → sy_O) (ls st : List Value) (M : sy_M) : sy_O := sy_xc 1000000 ls fun l => sy_xc 0 l fun l => sy_xc 121 l fun l => sy_xc 132 l fun l => sy_xi l fun a4 l => sy_xi l fun a5 l => sy_xv l fun _ l => sy_xn l (sy_xi st fun s0 l => sy_xi l fun s1 l => sy_xc 121 l fun l => sy_xn l (k a4 a5 s0 s1 M))
theorem jwL_law__2875 {d : Nat} {k : Int32 → Int32 → Int32 → Int32 → sy_M → sy_O} (hk : ∀ (w6 : Value) (a4 : Int32) (a5 : Int32) (s0 : Int32) (s1 : Int32) (M : sy_M) (r : xe_R × sy_M), k a4 a5 s0 s1 M = some r → sy_E (d) qL_law_ 2875 [.ref 1000000, .ref 0, .ref 121, .ref 132, .int a4, .int a5, w6] [.int s0, .int s1, .ref 121] M r) : ∀ ls st M r, juL_law__2875 k ls st M = some r → sy_E d qL_law_ 2875 ls st M r := by
  intro ls st M r h
  obtain ⟨l, e, h1⟩ := sy_xc_ok h; subst e
  obtain ⟨l, e, h2⟩ := sy_xc_ok h1; subst e
  obtain ⟨l, e, h3⟩ := sy_xc_ok h2; subst e
  obtain ⟨l, e, h4⟩ := sy_xc_ok h3; subst e
  obtain ⟨a4, l, e, h5⟩ := sy_xi_ok h4; subst e
  obtain ⟨a5, l, e, h6⟩ := sy_xi_ok h5; subst e
  obtain ⟨w6, l, e, h7⟩ := sy_xv_ok h6; subst e
  obtain ⟨e, h8⟩ := sy_xn_ok h7; subst e
  obtain ⟨s0, l, e, h9⟩ := sy_xi_ok h8; subst e
  obtain ⟨s1, l, e, h10⟩ := sy_xi_ok h9; subst e
  obtain ⟨l, e, h11⟩ := sy_xc_ok h10; subst e
  obtain ⟨e, h12⟩ := sy_xn_ok h11; subst e
  exact hk _ a4 a5 s0 s1 M r h12
def juL_law__2848 (k : Int32 → Int32 → Int32 → sy_M → sy_O) (ls st : List Value) (M : sy_M) : sy_O := sy_xc 1000000 ls fun l => sy_xc 0 l fun l => sy_xc 121 l fun l => sy_xc 132 l fun l => sy_xi l fun a4 l => sy_xv l fun _ l => sy_xv l fun _ l => sy_xn l (sy_xi st fun s0 l => sy_xi l fun s1 l => sy_xc 0 l fun l => sy_xn l (k a4 s0 s1 M))
theorem jwL_law__2848 {d : Nat} {k : Int32 → Int32 → Int32 → sy_M → sy_O} (hk : ∀ (w5 : Value) (w6 : Value) (a4 : Int32) (s0 : Int32) (s1 : Int32) (M : sy_M) (r : xe_R × sy_M), k a4 s0 s1 M = some r → sy_E (d) qL_law_ 2848 [.ref 1000000, .ref 0, .ref 121, .ref 132, .int a4, w5, w6] [.int s0, .int s1, .ref 0] M r) : ∀ ls st M r, juL_law__2848 k ls st M = some r → sy_E d qL_law_ 2848 ls st M r := by
  intro ls st M r h
  obtain ⟨l, e, h1⟩ := sy_xc_ok h; subst e
  obtain ⟨l, e, h2⟩ := sy_xc_ok h1; subst e
  obtain ⟨l, e, h3⟩ := sy_xc_ok h2; subst e
  obtain ⟨l, e, h4⟩ := sy_xc_ok h3; subst e
  obtain ⟨a4, l, e, h5⟩ := sy_xi_ok h4; subst e
  obtain ⟨w5, l, e, h6⟩ := sy_xv_ok h5; subst e
  obtain ⟨w6, l, e, h7⟩ := sy_xv_ok h6; subst e
  obtain ⟨e, h8⟩ := sy_xn_ok h7; subst e
  obtain ⟨s0, l, e, h9⟩ := sy_xi_ok h8; subst e
  obtain ⟨s1, l, e, h10⟩ := sy_xi_ok h9; subst e
  obtain ⟨l, e, h11⟩ := sy_xc_ok h10; subst e
  obtain ⟨e, h12⟩ := sy_xn_ok h11; subst e
  exact hk _ _ a4 s0 s1 M r h12
def juL_law__2827 (k : Int32 → sy_M → sy_O) (ls st : List Value) (M : sy_M) : sy_O := sy_xc 1000000 ls fun l => sy_xc 0 l fun l => sy_xc 121 l fun l => sy_xc 132 l fun l => sy_xi l fun a4 l => sy_xv l fun _ l => sy_xv l fun _ l => sy_xn l (sy_xn st (k a4 M))
theorem jwL_law__2827 {d : Nat} {k : Int32 → sy_M → sy_O} (hk : ∀ (w5 : Value) (w6 : Value) (a4 : Int32) (M : sy_M) (r : xe_R × sy_M), k a4 M = some r → sy_E (d) qL_law_ 2827 [.ref 1000000, .ref 0, .ref 121, .ref 132, .int a4, w5, w6] [] M r) : ∀ ls st M r, juL_law__2827 k ls st M = some r → sy_E d qL_law_ 2827 ls st M r := by
  intro ls st M r h
  obtain ⟨l, e, h1⟩ := sy_xc_ok h; subst e
  obtain ⟨l, e, h2⟩ := sy_xc_ok h1; subst e
  obtain ⟨l, e, h3⟩ := sy_xc_ok h2; subst e
  obtain ⟨l, e, h4⟩ := sy_xc_ok h3; subst e
  obtain ⟨a4, l, e, h5⟩ := sy_xi_ok h4; subst e
  obtain ⟨w5, l, e, h6⟩ := sy_xv_ok h5; subst e
  obtain ⟨w6, l, e, h7⟩ := sy_xv_ok h6; subst e
  obtain ⟨e, h8⟩ := sy_xn_ok h7; subst e
  obtain ⟨e, h9⟩ := sy_xn_ok h8; subst e
  exact hk _ _ a4 M r h9
def juL_law__2992 (k : Int32 → sy_M → sy_O) (ls st : List Value) (M : sy_M) : sy_O := sy_xc 1000000 ls fun l => sy_xc 0 l fun l => sy_xc 121 l fun l => sy_xc 132 l fun l => sy_xi l fun a4 l => sy_xv l fun _ l => sy_xv l fun _ l => sy_xn l (sy_xn st (k a4 M))
theorem jwL_law__2992 {d : Nat} {k : Int32 → sy_M → sy_O} (hk : ∀ (w5 : Value) (w6 : Value) (a4 : Int32) (M : sy_M) (r : xe_R × sy_M), k a4 M = some r → sy_E (d) qL_law_ 2992 [.ref 1000000, .ref 0, .ref 121, .ref 132, .int a4, w5, w6] [] M r) : ∀ ls st M r, juL_law__2992 k ls st M = some r → sy_E d qL_law_ 2992 ls st M r := by
  intro ls st M r h
  obtain ⟨l, e, h1⟩ := sy_xc_ok h; subst e
  obtain ⟨l, e, h2⟩ := sy_xc_ok h1; subst e
  obtain ⟨l, e, h3⟩ := sy_xc_ok h2; subst e
  obtain ⟨l, e, h4⟩ := sy_xc_ok h3; subst e
  obtain ⟨a4, l, e, h5⟩ := sy_xi_ok h4; subst e
  obtain ⟨w5, l, e, h6⟩ := sy_xv_ok h5; subst e
  obtain ⟨w6, l, e, h7⟩ := sy_xv_ok h6; subst e
  obtain ⟨e, h8⟩ := sy_xn_ok h7; subst e
  obtain ⟨e, h9⟩ := sy_xn_ok h8; subst e
  exact hk _ _ a4 M r h9
def juL_law__2959 (k : Int32 → Int32 → Int32 → Int32 → sy_M → sy_O) (ls st : List Value) (M : sy_M) : sy_O := sy_xc 1000000 ls fun l => sy_xc 0 l fun l => sy_xc 121 l fun l => sy_xc 132 l fun l => sy_xi l fun a4 l => sy_xi l fun a5 l => sy_xv l fun _ l => sy_xn l (sy_xi st fun s0 l => sy_xi l fun s1 l => sy_xc 121 l fun l => sy_xn l (k a4 a5 s0 s1 M))
theorem jwL_law__2959 {d : Nat} {k : Int32 → Int32 → Int32 → Int32 → sy_M → sy_O} (hk : ∀ (w6 : Value) (a4 : Int32) (a5 : Int32) (s0 : Int32) (s1 : Int32) (M : sy_M) (r : xe_R × sy_M), k a4 a5 s0 s1 M = some r → sy_E (d) qL_law_ 2959 [.ref 1000000, .ref 0, .ref 121, .ref 132, .int a4, .int a5, w6] [.int s0, .int s1, .ref 121] M r) : ∀ ls st M r, juL_law__2959 k ls st M = some r → sy_E d qL_law_ 2959 ls st M r := by
  intro ls st M r h
  obtain ⟨l, e, h1⟩ := sy_xc_ok h; subst e
  obtain ⟨l, e, h2⟩ := sy_xc_ok h1; subst e
  obtain ⟨l, e, h3⟩ := sy_xc_ok h2; subst e
  obtain ⟨l, e, h4⟩ := sy_xc_ok h3; subst e
  obtain ⟨a4, l, e, h5⟩ := sy_xi_ok h4; subst e
  obtain ⟨a5, l, e, h6⟩ := sy_xi_ok h5; subst e
  obtain ⟨w6, l, e, h7⟩ := sy_xv_ok h6; subst e
  obtain ⟨e, h8⟩ := sy_xn_ok h7; subst e
  obtain ⟨s0, l, e, h9⟩ := sy_xi_ok h8; subst e
  obtain ⟨s1, l, e, h10⟩ := sy_xi_ok h9; subst e
  obtain ⟨l, e, h11⟩ := sy_xc_ok h10; subst e
  obtain ⟨e, h12⟩ := sy_xn_ok h11; subst e
  exact hk _ a4 a5 s0 s1 M r h12
def juL_law__2932 (k : Int32 → Int32 → Int32 → sy_M → sy_O) (ls st : List Value) (M : sy_M) : sy_O := sy_xc 1000000 ls fun l => sy_xc 0 l fun l => sy_xc 121 l fun l => sy_xc 132 l fun l => sy_xi l fun a4 l => sy_xv l fun _ l => sy_xv l fun _ l => sy_xn l (sy_xi st fun s0 l => sy_xi l fun s1 l => sy_xc 0 l fun l => sy_xn l (k a4 s0 s1 M))
theorem jwL_law__2932 {d : Nat} {k : Int32 → Int32 → Int32 → sy_M → sy_O} (hk : ∀ (w5 : Value) (w6 : Value) (a4 : Int32) (s0 : Int32) (s1 : Int32) (M : sy_M) (r : xe_R × sy_M), k a4 s0 s1 M = some r → sy_E (d) qL_law_ 2932 [.ref 1000000, .ref 0, .ref 121, .ref 132, .int a4, w5, w6] [.int s0, .int s1, .ref 0] M r) : ∀ ls st M r, juL_law__2932 k ls st M = some r → sy_E d qL_law_ 2932 ls st M r := by
  intro ls st M r h
  obtain ⟨l, e, h1⟩ := sy_xc_ok h; subst e
  obtain ⟨l, e, h2⟩ := sy_xc_ok h1; subst e
  obtain ⟨l, e, h3⟩ := sy_xc_ok h2; subst e
  obtain ⟨l, e, h4⟩ := sy_xc_ok h3; subst e
  obtain ⟨a4, l, e, h5⟩ := sy_xi_ok h4; subst e
  obtain ⟨w5, l, e, h6⟩ := sy_xv_ok h5; subst e
  obtain ⟨w6, l, e, h7⟩ := sy_xv_ok h6; subst e
  obtain ⟨e, h8⟩ := sy_xn_ok h7; subst e
  obtain ⟨s0, l, e, h9⟩ := sy_xi_ok h8; subst e
  obtain ⟨s1, l, e, h10⟩ := sy_xi_ok h9; subst e
  obtain ⟨l, e, h11⟩ := sy_xc_ok h10; subst e
  obtain ⟨e, h12⟩ := sy_xn_ok h11; subst e
  exact hk _ _ a4 s0 s1 M r h12
def juL_law__2911 (k : Int32 → sy_M → sy_O) (ls st : List Value) (M : sy_M) : sy_O := sy_xc 1000000 ls fun l => sy_xc 0 l fun l => sy_xc 121 l fun l => sy_xc 132 l fun l => sy_xi l fun a4 l => sy_xv l fun _ l => sy_xv l fun _ l => sy_xn l (sy_xn st (k a4 M))
theorem jwL_law__2911 {d : Nat} {k : Int32 → sy_M → sy_O} (hk : ∀ (w5 : Value) (w6 : Value) (a4 : Int32) (M : sy_M) (r : xe_R × sy_M), k a4 M = some r → sy_E (d) qL_law_ 2911 [.ref 1000000, .ref 0, .ref 121, .ref 132, .int a4, w5, w6] [] M r) : ∀ ls st M r, juL_law__2911 k ls st M = some r → sy_E d qL_law_ 2911 ls st M r := by
  intro ls st M r h
  obtain ⟨l, e, h1⟩ := sy_xc_ok h; subst e
  obtain ⟨l, e, h2⟩ := sy_xc_ok h1; subst e
  obtain ⟨l, e, h3⟩ := sy_xc_ok h2; subst e
  obtain ⟨l, e, h4⟩ := sy_xc_ok h3; subst e
  obtain ⟨a4, l, e, h5⟩ := sy_xi_ok h4; subst e
  obtain ⟨w5, l, e, h6⟩ := sy_xv_ok h5; subst e
  obtain ⟨w6, l, e, h7⟩ := sy_xv_ok h6; subst e
  obtain ⟨e, h8⟩ := sy_xn_ok h7; subst e
  obtain ⟨e, h9⟩ := sy_xn_ok h8; subst e
  exact hk _ _ a4 M r h9
def juL_law__3060 (k : Int32 → sy_M → sy_O) (ls st : List Value) (M : sy_M) : sy_O := sy_xc 1000000 ls fun l => sy_xc 0 l fun l => sy_xc 121 l fun l => sy_xc 132 l fun l => sy_xi l fun a4 l => sy_xv l fun _ l => sy_xv l fun _ l => sy_xn l (sy_xn st (k a4 M))
theorem jwL_law__3060 {d : Nat} {k : Int32 → sy_M → sy_O} (hk : ∀ (w5 : Value) (w6 : Value) (a4 : Int32) (M : sy_M) (r : xe_R × sy_M), k a4 M = some r → sy_E (d) qL_law_ 3060 [.ref 1000000, .ref 0, .ref 121, .ref 132, .int a4, w5, w6] [] M r) : ∀ ls st M r, juL_law__3060 k ls st M = some r → sy_E d qL_law_ 3060 ls st M r := by
  intro ls st M r h
  obtain ⟨l, e, h1⟩ := sy_xc_ok h; subst e
  obtain ⟨l, e, h2⟩ := sy_xc_ok h1; subst e
  obtain ⟨l, e, h3⟩ := sy_xc_ok h2; subst e
  obtain ⟨l, e, h4⟩ := sy_xc_ok h3; subst e
  obtain ⟨a4, l, e, h5⟩ := sy_xi_ok h4; subst e
  obtain ⟨w5, l, e, h6⟩ := sy_xv_ok h5; subst e
  obtain ⟨w6, l, e, h7⟩ := sy_xv_ok h6; subst e
  obtain ⟨e, h8⟩ := sy_xn_ok h7; subst e
  obtain ⟨e, h9⟩ := sy_xn_ok h8; subst e
  exact hk _ _ a4 M r h9
def juL_law__2995 (k : Int32 → sy_M → sy_O) (ls st : List Value) (M : sy_M) : sy_O := sy_xc 1000000 ls fun l => sy_xc 0 l fun l => sy_xc 121 l fun l => sy_xc 132 l fun l => sy_xi l fun a4 l => sy_xv l fun _ l => sy_xv l fun _ l => sy_xn l (sy_xn st (k a4 M))
theorem jwL_law__2995 {d : Nat} {k : Int32 → sy_M → sy_O} (hk : ∀ (w5 : Value) (w6 : Value) (a4 : Int32) (M : sy_M) (r : xe_R × sy_M), k a4 M = some r → sy_E (d) qL_law_ 2995 [.ref 1000000, .ref 0, .ref 121, .ref 132, .int a4, w5, w6] [] M r) : ∀ ls st M r, juL_law__2995 k ls st M = some r → sy_E d qL_law_ 2995 ls st M r := by
  intro ls st M r h
  obtain ⟨l, e, h1⟩ := sy_xc_ok h; subst e
  obtain ⟨l, e, h2⟩ := sy_xc_ok h1; subst e
  obtain ⟨l, e, h3⟩ := sy_xc_ok h2; subst e
  obtain ⟨l, e, h4⟩ := sy_xc_ok h3; subst e
  obtain ⟨a4, l, e, h5⟩ := sy_xi_ok h4; subst e
  obtain ⟨w5, l, e, h6⟩ := sy_xv_ok h5; subst e
  obtain ⟨w6, l, e, h7⟩ := sy_xv_ok h6; subst e
  obtain ⟨e, h8⟩ := sy_xn_ok h7; subst e
  obtain ⟨e, h9⟩ := sy_xn_ok h8; subst e
  exact hk _ _ a4 M r h9
def juL_law__3063 (k : Int32 → sy_M → sy_O) (ls st : List Value) (M : sy_M) : sy_O := sy_xc 1000000 ls fun l => sy_xc 0 l fun l => sy_xc 121 l fun l => sy_xc 132 l fun l => sy_xi l fun a4 l => sy_xv l fun _ l => sy_xv l fun _ l => sy_xn l (sy_xn st (k a4 M))
theorem jwL_law__3063 {d : Nat} {k : Int32 → sy_M → sy_O} (hk : ∀ (w5 : Value) (w6 : Value) (a4 : Int32) (M : sy_M) (r : xe_R × sy_M), k a4 M = some r → sy_E (d) qL_law_ 3063 [.ref 1000000, .ref 0, .ref 121, .ref 132, .int a4, w5, w6] [] M r) : ∀ ls st M r, juL_law__3063 k ls st M = some r → sy_E d qL_law_ 3063 ls st M r := by
  intro ls st M r h
  obtain ⟨l, e, h1⟩ := sy_xc_ok h; subst e
  obtain ⟨l, e, h2⟩ := sy_xc_ok h1; subst e
  obtain ⟨l, e, h3⟩ := sy_xc_ok h2; subst e
  obtain ⟨l, e, h4⟩ := sy_xc_ok h3; subst e
  obtain ⟨a4, l, e, h5⟩ := sy_xi_ok h4; subst e
  obtain ⟨w5, l, e, h6⟩ := sy_xv_ok h5; subst e
  obtain ⟨w6, l, e, h7⟩ := sy_xv_ok h6; subst e
  obtain ⟨e, h8⟩ := sy_xn_ok h7; subst e
  obtain ⟨e, h9⟩ := sy_xn_ok h8; subst e
  exact hk _ _ a4 M r h9
def juL_law__3088 (k : Int32 → sy_M → sy_O) (ls st : List Value) (M : sy_M) : sy_O := sy_xc 1000000 ls fun l => sy_xc 0 l fun l => sy_xc 121 l fun l => sy_xc 132 l fun l => sy_xi l fun a4 l => sy_xv l fun _ l => sy_xv l fun _ l => sy_xn l (sy_xn st (k a4 M))
theorem jwL_law__3088 {d : Nat} {k : Int32 → sy_M → sy_O} (hk : ∀ (w5 : Value) (w6 : Value) (a4 : Int32) (M : sy_M) (r : xe_R × sy_M), k a4 M = some r → sy_E (d) qL_law_ 3088 [.ref 1000000, .ref 0, .ref 121, .ref 132, .int a4, w5, w6] [] M r) : ∀ ls st M r, juL_law__3088 k ls st M = some r → sy_E d qL_law_ 3088 ls st M r := by
  intro ls st M r h
  obtain ⟨l, e, h1⟩ := sy_xc_ok h; subst e
  obtain ⟨l, e, h2⟩ := sy_xc_ok h1; subst e
  obtain ⟨l, e, h3⟩ := sy_xc_ok h2; subst e
  obtain ⟨l, e, h4⟩ := sy_xc_ok h3; subst e
  obtain ⟨a4, l, e, h5⟩ := sy_xi_ok h4; subst e
  obtain ⟨w5, l, e, h6⟩ := sy_xv_ok h5; subst e
  obtain ⟨w6, l, e, h7⟩ := sy_xv_ok h6; subst e
  obtain ⟨e, h8⟩ := sy_xn_ok h7; subst e
  obtain ⟨e, h9⟩ := sy_xn_ok h8; subst e
  exact hk _ _ a4 M r h9
def juL_law__3101 (k : Int32 → sy_M → sy_O) (ls st : List Value) (M : sy_M) : sy_O := sy_xc 1000000 ls fun l => sy_xc 0 l fun l => sy_xc 121 l fun l => sy_xc 132 l fun l => sy_xi l fun a4 l => sy_xv l fun _ l => sy_xv l fun _ l => sy_xn l (sy_xn st (k a4 M))
theorem jwL_law__3101 {d : Nat} {k : Int32 → sy_M → sy_O} (hk : ∀ (w5 : Value) (w6 : Value) (a4 : Int32) (M : sy_M) (r : xe_R × sy_M), k a4 M = some r → sy_E (d) qL_law_ 3101 [.ref 1000000, .ref 0, .ref 121, .ref 132, .int a4, w5, w6] [] M r) : ∀ ls st M r, juL_law__3101 k ls st M = some r → sy_E d qL_law_ 3101 ls st M r := by
  intro ls st M r h
  obtain ⟨l, e, h1⟩ := sy_xc_ok h; subst e
  obtain ⟨l, e, h2⟩ := sy_xc_ok h1; subst e
  obtain ⟨l, e, h3⟩ := sy_xc_ok h2; subst e
  obtain ⟨l, e, h4⟩ := sy_xc_ok h3; subst e
  obtain ⟨a4, l, e, h5⟩ := sy_xi_ok h4; subst e
  obtain ⟨w5, l, e, h6⟩ := sy_xv_ok h5; subst e
  obtain ⟨w6, l, e, h7⟩ := sy_xv_ok h6; subst e
  obtain ⟨e, h8⟩ := sy_xn_ok h7; subst e
  obtain ⟨e, h9⟩ := sy_xn_ok h8; subst e
  exact hk _ _ a4 M r h9
def juL_law__3112 (k : Int32 → sy_M → sy_O) (ls st : List Value) (M : sy_M) : sy_O := sy_xc 1000000 ls fun l => sy_xc 0 l fun l => sy_xc 121 l fun l => sy_xc 132 l fun l => sy_xi l fun a4 l => sy_xv l fun _ l => sy_xv l fun _ l => sy_xn l (sy_xn st (k a4 M))
theorem jwL_law__3112 {d : Nat} {k : Int32 → sy_M → sy_O} (hk : ∀ (w5 : Value) (w6 : Value) (a4 : Int32) (M : sy_M) (r : xe_R × sy_M), k a4 M = some r → sy_E (d) qL_law_ 3112 [.ref 1000000, .ref 0, .ref 121, .ref 132, .int a4, w5, w6] [] M r) : ∀ ls st M r, juL_law__3112 k ls st M = some r → sy_E d qL_law_ 3112 ls st M r := by
  intro ls st M r h
  obtain ⟨l, e, h1⟩ := sy_xc_ok h; subst e
  obtain ⟨l, e, h2⟩ := sy_xc_ok h1; subst e
  obtain ⟨l, e, h3⟩ := sy_xc_ok h2; subst e
  obtain ⟨l, e, h4⟩ := sy_xc_ok h3; subst e
  obtain ⟨a4, l, e, h5⟩ := sy_xi_ok h4; subst e
  obtain ⟨w5, l, e, h6⟩ := sy_xv_ok h5; subst e
  obtain ⟨w6, l, e, h7⟩ := sy_xv_ok h6; subst e
  obtain ⟨e, h8⟩ := sy_xn_ok h7; subst e
  obtain ⟨e, h9⟩ := sy_xn_ok h8; subst e
  exact hk _ _ a4 M r h9
def juL_law__3125 (k : Int32 → sy_M → sy_O) (ls st : List Value) (M : sy_M) : sy_O := sy_xc 1000000 ls fun l => sy_xc 0 l fun l => sy_xc 121 l fun l => sy_xc 132 l fun l => sy_xi l fun a4 l => sy_xv l fun _ l => sy_xv l fun _ l => sy_xn l (sy_xn st (k a4 M))
theorem jwL_law__3125 {d : Nat} {k : Int32 → sy_M → sy_O} (hk : ∀ (w5 : Value) (w6 : Value) (a4 : Int32) (M : sy_M) (r : xe_R × sy_M), k a4 M = some r → sy_E (d) qL_law_ 3125 [.ref 1000000, .ref 0, .ref 121, .ref 132, .int a4, w5, w6] [] M r) : ∀ ls st M r, juL_law__3125 k ls st M = some r → sy_E d qL_law_ 3125 ls st M r := by
  intro ls st M r h
  obtain ⟨l, e, h1⟩ := sy_xc_ok h; subst e
  obtain ⟨l, e, h2⟩ := sy_xc_ok h1; subst e
  obtain ⟨l, e, h3⟩ := sy_xc_ok h2; subst e
  obtain ⟨l, e, h4⟩ := sy_xc_ok h3; subst e
  obtain ⟨a4, l, e, h5⟩ := sy_xi_ok h4; subst e
  obtain ⟨w5, l, e, h6⟩ := sy_xv_ok h5; subst e
  obtain ⟨w6, l, e, h7⟩ := sy_xv_ok h6; subst e
  obtain ⟨e, h8⟩ := sy_xn_ok h7; subst e
  obtain ⟨e, h9⟩ := sy_xn_ok h8; subst e
  exact hk _ _ a4 M r h9
def juL_law__23 (k : Int32 → sy_M → sy_O) (ls st : List Value) (M : sy_M) : sy_O := sy_xc 1000000 ls fun l => sy_xc 0 l fun l => sy_xc 121 l fun l => sy_xc 132 l fun l => sy_xi l fun a4 l => sy_xv l fun _ l => sy_xv l fun _ l => sy_xn l (sy_xn st (k a4 M))
theorem jwL_law__23 {d : Nat} {k : Int32 → sy_M → sy_O} (hk : ∀ (w5 : Value) (w6 : Value) (a4 : Int32) (M : sy_M) (r : xe_R × sy_M), k a4 M = some r → sy_E (d) qL_law_ 23 [.ref 1000000, .ref 0, .ref 121, .ref 132, .int a4, w5, w6] [] M r) : ∀ ls st M r, juL_law__23 k ls st M = some r → sy_E d qL_law_ 23 ls st M r := by
  intro ls st M r h
  obtain ⟨l, e, h1⟩ := sy_xc_ok h; subst e
  obtain ⟨l, e, h2⟩ := sy_xc_ok h1; subst e
  obtain ⟨l, e, h3⟩ := sy_xc_ok h2; subst e
  obtain ⟨l, e, h4⟩ := sy_xc_ok h3; subst e
  obtain ⟨a4, l, e, h5⟩ := sy_xi_ok h4; subst e
  obtain ⟨w5, l, e, h6⟩ := sy_xv_ok h5; subst e
  obtain ⟨w6, l, e, h7⟩ := sy_xv_ok h6; subst e
  obtain ⟨e, h8⟩ := sy_xn_ok h7; subst e
  obtain ⟨e, h9⟩ := sy_xn_ok h8; subst e
  exact hk _ _ a4 M r h9
end
