/-! ===== functions of the methods (14); written by wip/whole/run_f.py ===== -/
noncomputable section
/-! L_law_ StairMeterLaw law ([I)Z [('R', 1000000)] -/
def juL_law__3150 (k : Int32 → sy_M → sy_O) (ls st : List Value) (M : sy_M) : sy_O := sy_xc 1000000 ls fun l => sy_xc 0 l fun l => sy_xc 121 l fun l => sy_xc 132 l fun l => sy_xi l fun a4 l => sy_xv l fun _ l => sy_xv l fun _ l => sy_xn l (sy_xn st (k a4 M))
theorem jwL_law__3150 {d : Nat} {k : Int32 → sy_M → sy_O} (hk : ∀ (w5 : Value) (w6 : Value) (a4 : Int32) (M : sy_M) (r : xe_R × sy_M), k a4 M = some r → sy_E (d) qL_law_ 3150 [.ref 1000000, .ref 0, .ref 121, .ref 132, .int a4, w5, w6] [] M r) : ∀ ls st M r, juL_law__3150 k ls st M = some r → sy_E d qL_law_ 3150 ls st M r := by
  intro ls st M r h
  obtain ⟨l, e, h1⟩ := sy_xc_ok h; subst e
  obtain ⟨l, e, h2⟩ := sy_xc_ok h1; subst e
  obtain ⟨l, e, h3⟩ := sy_xc_ok h2; subst e
  obtain ⟨l, e, h4⟩ := sy_xc_ok h3; subst e
  obtain ⟨a4, l, e, h5⟩ := sy_xi_ok h4; subst e
  obtain ⟨w5, l, e, h6⟩ := sy_xv_ok h5; subst e
  obtain ⟨w6, l, e, h7⟩ := sy_xv_ok h6; subst e
  obtain ⟨e, h8⟩ := sy_xn_ok h7; subst e
  obtain ⟨e, h9⟩ := sy_xn_ok h8; subst e
  exact hk _ _ a4 M r h9
def juL_law__308 (k : Int32 → sy_M → sy_O) (ls st : List Value) (M : sy_M) : sy_O := sy_xc 1000000 ls fun l => sy_xc 0 l fun l => sy_xc 121 l fun l => sy_xc 132 l fun l => sy_xi l fun a4 l => sy_xv l fun _ l => sy_xv l fun _ l => sy_xn l (sy_xn st (k a4 M))
theorem jwL_law__308 {d : Nat} {k : Int32 → sy_M → sy_O} (hk : ∀ (w5 : Value) (w6 : Value) (a4 : Int32) (M : sy_M) (r : xe_R × sy_M), k a4 M = some r → sy_E (d) qL_law_ 308 [.ref 1000000, .ref 0, .ref 121, .ref 132, .int a4, w5, w6] [] M r) : ∀ ls st M r, juL_law__308 k ls st M = some r → sy_E d qL_law_ 308 ls st M r := by
  intro ls st M r h
  obtain ⟨l, e, h1⟩ := sy_xc_ok h; subst e
  obtain ⟨l, e, h2⟩ := sy_xc_ok h1; subst e
  obtain ⟨l, e, h3⟩ := sy_xc_ok h2; subst e
  obtain ⟨l, e, h4⟩ := sy_xc_ok h3; subst e
  obtain ⟨a4, l, e, h5⟩ := sy_xi_ok h4; subst e
  obtain ⟨w5, l, e, h6⟩ := sy_xv_ok h5; subst e
  obtain ⟨w6, l, e, h7⟩ := sy_xv_ok h6; subst e
  obtain ⟨e, h8⟩ := sy_xn_ok h7; subst e
  obtain ⟨e, h9⟩ := sy_xn_ok h8; subst e
  exact hk _ _ a4 M r h9
def juL_law__381 (k : Int32 → sy_M → sy_O) (ls st : List Value) (M : sy_M) : sy_O := sy_xc 1000000 ls fun l => sy_xc 0 l fun l => sy_xc 121 l fun l => sy_xc 132 l fun l => sy_xi l fun a4 l => sy_xv l fun _ l => sy_xv l fun _ l => sy_xn l (sy_xn st (k a4 M))
theorem jwL_law__381 {d : Nat} {k : Int32 → sy_M → sy_O} (hk : ∀ (w5 : Value) (w6 : Value) (a4 : Int32) (M : sy_M) (r : xe_R × sy_M), k a4 M = some r → sy_E (d) qL_law_ 381 [.ref 1000000, .ref 0, .ref 121, .ref 132, .int a4, w5, w6] [] M r) : ∀ ls st M r, juL_law__381 k ls st M = some r → sy_E d qL_law_ 381 ls st M r := by
  intro ls st M r h
  obtain ⟨l, e, h1⟩ := sy_xc_ok h; subst e
  obtain ⟨l, e, h2⟩ := sy_xc_ok h1; subst e
  obtain ⟨l, e, h3⟩ := sy_xc_ok h2; subst e
  obtain ⟨l, e, h4⟩ := sy_xc_ok h3; subst e
  obtain ⟨a4, l, e, h5⟩ := sy_xi_ok h4; subst e
  obtain ⟨w5, l, e, h6⟩ := sy_xv_ok h5; subst e
  obtain ⟨w6, l, e, h7⟩ := sy_xv_ok h6; subst e
  obtain ⟨e, h8⟩ := sy_xn_ok h7; subst e
  obtain ⟨e, h9⟩ := sy_xn_ok h8; subst e
  exact hk _ _ a4 M r h9
def juL_law__447 (k : Int32 → sy_M → sy_O) (ls st : List Value) (M : sy_M) : sy_O := sy_xc 1000000 ls fun l => sy_xc 0 l fun l => sy_xc 121 l fun l => sy_xc 132 l fun l => sy_xi l fun a4 l => sy_xv l fun _ l => sy_xv l fun _ l => sy_xn l (sy_xn st (k a4 M))
theorem jwL_law__447 {d : Nat} {k : Int32 → sy_M → sy_O} (hk : ∀ (w5 : Value) (w6 : Value) (a4 : Int32) (M : sy_M) (r : xe_R × sy_M), k a4 M = some r → sy_E (d) qL_law_ 447 [.ref 1000000, .ref 0, .ref 121, .ref 132, .int a4, w5, w6] [] M r) : ∀ ls st M r, juL_law__447 k ls st M = some r → sy_E d qL_law_ 447 ls st M r := by
  intro ls st M r h
  obtain ⟨l, e, h1⟩ := sy_xc_ok h; subst e
  obtain ⟨l, e, h2⟩ := sy_xc_ok h1; subst e
  obtain ⟨l, e, h3⟩ := sy_xc_ok h2; subst e
  obtain ⟨l, e, h4⟩ := sy_xc_ok h3; subst e
  obtain ⟨a4, l, e, h5⟩ := sy_xi_ok h4; subst e
  obtain ⟨w5, l, e, h6⟩ := sy_xv_ok h5; subst e
  obtain ⟨w6, l, e, h7⟩ := sy_xv_ok h6; subst e
  obtain ⟨e, h8⟩ := sy_xn_ok h7; subst e
  obtain ⟨e, h9⟩ := sy_xn_ok h8; subst e
  exact hk _ _ a4 M r h9
def juL_law__406 (k : Int32 → sy_M → sy_O) (ls st : List Value) (M : sy_M) : sy_O := sy_xc 1000000 ls fun l => sy_xc 0 l fun l => sy_xc 121 l fun l => sy_xc 132 l fun l => sy_xi l fun a4 l => sy_xv l fun _ l => sy_xv l fun _ l => sy_xn l (sy_xn st (k a4 M))
theorem jwL_law__406 {d : Nat} {k : Int32 → sy_M → sy_O} (hk : ∀ (w5 : Value) (w6 : Value) (a4 : Int32) (M : sy_M) (r : xe_R × sy_M), k a4 M = some r → sy_E (d) qL_law_ 406 [.ref 1000000, .ref 0, .ref 121, .ref 132, .int a4, w5, w6] [] M r) : ∀ ls st M r, juL_law__406 k ls st M = some r → sy_E d qL_law_ 406 ls st M r := by
  intro ls st M r h
  obtain ⟨l, e, h1⟩ := sy_xc_ok h; subst e
  obtain ⟨l, e, h2⟩ := sy_xc_ok h1; subst e
  obtain ⟨l, e, h3⟩ := sy_xc_ok h2; subst e
  obtain ⟨l, e, h4⟩ := sy_xc_ok h3; subst e
  obtain ⟨a4, l, e, h5⟩ := sy_xi_ok h4; subst e
  obtain ⟨w5, l, e, h6⟩ := sy_xv_ok h5; subst e
  obtain ⟨w6, l, e, h7⟩ := sy_xv_ok h6; subst e
  obtain ⟨e, h8⟩ := sy_xn_ok h7; subst e
  obtain ⟨e, h9⟩ := sy_xn_ok h8; subst e
  exact hk _ _ a4 M r h9
def juL_law__491 (k : Int32 → sy_M → sy_O) (ls st : List Value) (M : sy_M) : sy_O := sy_xc 1000000 ls fun l => sy_xc 0 l fun l => sy_xc 121 l fun l => sy_xc 132 l fun l => sy_xi l fun a4 l => sy_xv l fun _ l => sy_xv l fun _ l => sy_xn l (sy_xn st (k a4 M))
theorem jwL_law__491 {d : Nat} {k : Int32 → sy_M → sy_O} (hk : ∀ (w5 : Value) (w6 : Value) (a4 : Int32) (M : sy_M) (r : xe_R × sy_M), k a4 M = some r → sy_E (d) qL_law_ 491 [.ref 1000000, .ref 0, .ref 121, .ref 132, .int a4, w5, w6] [] M r) : ∀ ls st M r, juL_law__491 k ls st M = some r → sy_E d qL_law_ 491 ls st M r := by
  intro ls st M r h
  obtain ⟨l, e, h1⟩ := sy_xc_ok h; subst e
  obtain ⟨l, e, h2⟩ := sy_xc_ok h1; subst e
  obtain ⟨l, e, h3⟩ := sy_xc_ok h2; subst e
  obtain ⟨l, e, h4⟩ := sy_xc_ok h3; subst e
  obtain ⟨a4, l, e, h5⟩ := sy_xi_ok h4; subst e
  obtain ⟨w5, l, e, h6⟩ := sy_xv_ok h5; subst e
  obtain ⟨w6, l, e, h7⟩ := sy_xv_ok h6; subst e
  obtain ⟨e, h8⟩ := sy_xn_ok h7; subst e
  obtain ⟨e, h9⟩ := sy_xn_ok h8; subst e
  exact hk _ _ a4 M r h9
def juL_law__450 (k : Int32 → sy_M → sy_O) (ls st : List Value) (M : sy_M) : sy_O := sy_xc 1000000 ls fun l => sy_xc 0 l fun l => sy_xc 121 l fun l => sy_xc 132 l fun l => sy_xi l fun a4 l => sy_xv l fun _ l => sy_xv l fun _ l => sy_xn l (sy_xn st (k a4 M))
theorem jwL_law__450 {d : Nat} {k : Int32 → sy_M → sy_O} (hk : ∀ (w5 : Value) (w6 : Value) (a4 : Int32) (M : sy_M) (r : xe_R × sy_M), k a4 M = some r → sy_E (d) qL_law_ 450 [.ref 1000000, .ref 0, .ref 121, .ref 132, .int a4, w5, w6] [] M r) : ∀ ls st M r, juL_law__450 k ls st M = some r → sy_E d qL_law_ 450 ls st M r := by
  intro ls st M r h
  obtain ⟨l, e, h1⟩ := sy_xc_ok h; subst e
  obtain ⟨l, e, h2⟩ := sy_xc_ok h1; subst e
  obtain ⟨l, e, h3⟩ := sy_xc_ok h2; subst e
  obtain ⟨l, e, h4⟩ := sy_xc_ok h3; subst e
  obtain ⟨a4, l, e, h5⟩ := sy_xi_ok h4; subst e
  obtain ⟨w5, l, e, h6⟩ := sy_xv_ok h5; subst e
  obtain ⟨w6, l, e, h7⟩ := sy_xv_ok h6; subst e
  obtain ⟨e, h8⟩ := sy_xn_ok h7; subst e
  obtain ⟨e, h9⟩ := sy_xn_ok h8; subst e
  exact hk _ _ a4 M r h9
def juL_law__494 (k : Int32 → sy_M → sy_O) (ls st : List Value) (M : sy_M) : sy_O := sy_xc 1000000 ls fun l => sy_xc 0 l fun l => sy_xc 121 l fun l => sy_xc 132 l fun l => sy_xi l fun a4 l => sy_xv l fun _ l => sy_xv l fun _ l => sy_xn l (sy_xn st (k a4 M))
theorem jwL_law__494 {d : Nat} {k : Int32 → sy_M → sy_O} (hk : ∀ (w5 : Value) (w6 : Value) (a4 : Int32) (M : sy_M) (r : xe_R × sy_M), k a4 M = some r → sy_E (d) qL_law_ 494 [.ref 1000000, .ref 0, .ref 121, .ref 132, .int a4, w5, w6] [] M r) : ∀ ls st M r, juL_law__494 k ls st M = some r → sy_E d qL_law_ 494 ls st M r := by
  intro ls st M r h
  obtain ⟨l, e, h1⟩ := sy_xc_ok h; subst e
  obtain ⟨l, e, h2⟩ := sy_xc_ok h1; subst e
  obtain ⟨l, e, h3⟩ := sy_xc_ok h2; subst e
  obtain ⟨l, e, h4⟩ := sy_xc_ok h3; subst e
  obtain ⟨a4, l, e, h5⟩ := sy_xi_ok h4; subst e
  obtain ⟨w5, l, e, h6⟩ := sy_xv_ok h5; subst e
  obtain ⟨w6, l, e, h7⟩ := sy_xv_ok h6; subst e
  obtain ⟨e, h8⟩ := sy_xn_ok h7; subst e
  obtain ⟨e, h9⟩ := sy_xn_ok h8; subst e
  exact hk _ _ a4 M r h9
def juL_law__572 (k : Int32 → sy_M → sy_O) (ls st : List Value) (M : sy_M) : sy_O := sy_xc 1000000 ls fun l => sy_xc 0 l fun l => sy_xc 121 l fun l => sy_xc 132 l fun l => sy_xi l fun a4 l => sy_xv l fun _ l => sy_xv l fun _ l => sy_xn l (sy_xn st (k a4 M))
theorem jwL_law__572 {d : Nat} {k : Int32 → sy_M → sy_O} (hk : ∀ (w5 : Value) (w6 : Value) (a4 : Int32) (M : sy_M) (r : xe_R × sy_M), k a4 M = some r → sy_E (d) qL_law_ 572 [.ref 1000000, .ref 0, .ref 121, .ref 132, .int a4, w5, w6] [] M r) : ∀ ls st M r, juL_law__572 k ls st M = some r → sy_E d qL_law_ 572 ls st M r := by
  intro ls st M r h
  obtain ⟨l, e, h1⟩ := sy_xc_ok h; subst e
  obtain ⟨l, e, h2⟩ := sy_xc_ok h1; subst e
  obtain ⟨l, e, h3⟩ := sy_xc_ok h2; subst e
  obtain ⟨l, e, h4⟩ := sy_xc_ok h3; subst e
  obtain ⟨a4, l, e, h5⟩ := sy_xi_ok h4; subst e
  obtain ⟨w5, l, e, h6⟩ := sy_xv_ok h5; subst e
  obtain ⟨w6, l, e, h7⟩ := sy_xv_ok h6; subst e
  obtain ⟨e, h8⟩ := sy_xn_ok h7; subst e
  obtain ⟨e, h9⟩ := sy_xn_ok h8; subst e
  exact hk _ _ a4 M r h9
def juL_law__507 (k : Int32 → sy_M → sy_O) (ls st : List Value) (M : sy_M) : sy_O := sy_xc 1000000 ls fun l => sy_xc 0 l fun l => sy_xc 121 l fun l => sy_xc 132 l fun l => sy_xi l fun a4 l => sy_xv l fun _ l => sy_xv l fun _ l => sy_xn l (sy_xn st (k a4 M))
theorem jwL_law__507 {d : Nat} {k : Int32 → sy_M → sy_O} (hk : ∀ (w5 : Value) (w6 : Value) (a4 : Int32) (M : sy_M) (r : xe_R × sy_M), k a4 M = some r → sy_E (d) qL_law_ 507 [.ref 1000000, .ref 0, .ref 121, .ref 132, .int a4, w5, w6] [] M r) : ∀ ls st M r, juL_law__507 k ls st M = some r → sy_E d qL_law_ 507 ls st M r := by
  intro ls st M r h
  obtain ⟨l, e, h1⟩ := sy_xc_ok h; subst e
  obtain ⟨l, e, h2⟩ := sy_xc_ok h1; subst e
  obtain ⟨l, e, h3⟩ := sy_xc_ok h2; subst e
  obtain ⟨l, e, h4⟩ := sy_xc_ok h3; subst e
  obtain ⟨a4, l, e, h5⟩ := sy_xi_ok h4; subst e
  obtain ⟨w5, l, e, h6⟩ := sy_xv_ok h5; subst e
  obtain ⟨w6, l, e, h7⟩ := sy_xv_ok h6; subst e
  obtain ⟨e, h8⟩ := sy_xn_ok h7; subst e
  obtain ⟨e, h9⟩ := sy_xn_ok h8; subst e
  exact hk _ _ a4 M r h9
def juL_law__640 (k : Int32 → sy_M → sy_O) (ls st : List Value) (M : sy_M) : sy_O := sy_xc 1000000 ls fun l => sy_xc 0 l fun l => sy_xc 121 l fun l => sy_xc 132 l fun l => sy_xi l fun a4 l => sy_xv l fun _ l => sy_xv l fun _ l => sy_xn l (sy_xn st (k a4 M))
theorem jwL_law__640 {d : Nat} {k : Int32 → sy_M → sy_O} (hk : ∀ (w5 : Value) (w6 : Value) (a4 : Int32) (M : sy_M) (r : xe_R × sy_M), k a4 M = some r → sy_E (d) qL_law_ 640 [.ref 1000000, .ref 0, .ref 121, .ref 132, .int a4, w5, w6] [] M r) : ∀ ls st M r, juL_law__640 k ls st M = some r → sy_E d qL_law_ 640 ls st M r := by
  intro ls st M r h
  obtain ⟨l, e, h1⟩ := sy_xc_ok h; subst e
  obtain ⟨l, e, h2⟩ := sy_xc_ok h1; subst e
  obtain ⟨l, e, h3⟩ := sy_xc_ok h2; subst e
  obtain ⟨l, e, h4⟩ := sy_xc_ok h3; subst e
  obtain ⟨a4, l, e, h5⟩ := sy_xi_ok h4; subst e
  obtain ⟨w5, l, e, h6⟩ := sy_xv_ok h5; subst e
  obtain ⟨w6, l, e, h7⟩ := sy_xv_ok h6; subst e
  obtain ⟨e, h8⟩ := sy_xn_ok h7; subst e
  obtain ⟨e, h9⟩ := sy_xn_ok h8; subst e
  exact hk _ _ a4 M r h9
def juL_law__575 (k : Int32 → sy_M → sy_O) (ls st : List Value) (M : sy_M) : sy_O := sy_xc 1000000 ls fun l => sy_xc 0 l fun l => sy_xc 121 l fun l => sy_xc 132 l fun l => sy_xi l fun a4 l => sy_xv l fun _ l => sy_xv l fun _ l => sy_xn l (sy_xn st (k a4 M))
theorem jwL_law__575 {d : Nat} {k : Int32 → sy_M → sy_O} (hk : ∀ (w5 : Value) (w6 : Value) (a4 : Int32) (M : sy_M) (r : xe_R × sy_M), k a4 M = some r → sy_E (d) qL_law_ 575 [.ref 1000000, .ref 0, .ref 121, .ref 132, .int a4, w5, w6] [] M r) : ∀ ls st M r, juL_law__575 k ls st M = some r → sy_E d qL_law_ 575 ls st M r := by
  intro ls st M r h
  obtain ⟨l, e, h1⟩ := sy_xc_ok h; subst e
  obtain ⟨l, e, h2⟩ := sy_xc_ok h1; subst e
  obtain ⟨l, e, h3⟩ := sy_xc_ok h2; subst e
  obtain ⟨l, e, h4⟩ := sy_xc_ok h3; subst e
  obtain ⟨a4, l, e, h5⟩ := sy_xi_ok h4; subst e
  obtain ⟨w5, l, e, h6⟩ := sy_xv_ok h5; subst e
  obtain ⟨w6, l, e, h7⟩ := sy_xv_ok h6; subst e
  obtain ⟨e, h8⟩ := sy_xn_ok h7; subst e
  obtain ⟨e, h9⟩ := sy_xn_ok h8; subst e
  exact hk _ _ a4 M r h9
def juL_law__715 (k : Int32 → sy_M → sy_O) (ls st : List Value) (M : sy_M) : sy_O := sy_xc 1000000 ls fun l => sy_xc 0 l fun l => sy_xc 121 l fun l => sy_xc 132 l fun l => sy_xi l fun a4 l => sy_xv l fun _ l => sy_xv l fun _ l => sy_xn l (sy_xn st (k a4 M))
theorem jwL_law__715 {d : Nat} {k : Int32 → sy_M → sy_O} (hk : ∀ (w5 : Value) (w6 : Value) (a4 : Int32) (M : sy_M) (r : xe_R × sy_M), k a4 M = some r → sy_E (d) qL_law_ 715 [.ref 1000000, .ref 0, .ref 121, .ref 132, .int a4, w5, w6] [] M r) : ∀ ls st M r, juL_law__715 k ls st M = some r → sy_E d qL_law_ 715 ls st M r := by
  intro ls st M r h
  obtain ⟨l, e, h1⟩ := sy_xc_ok h; subst e
  obtain ⟨l, e, h2⟩ := sy_xc_ok h1; subst e
  obtain ⟨l, e, h3⟩ := sy_xc_ok h2; subst e
  obtain ⟨l, e, h4⟩ := sy_xc_ok h3; subst e
  obtain ⟨a4, l, e, h5⟩ := sy_xi_ok h4; subst e
  obtain ⟨w5, l, e, h6⟩ := sy_xv_ok h5; subst e
  obtain ⟨w6, l, e, h7⟩ := sy_xv_ok h6; subst e
  obtain ⟨e, h8⟩ := sy_xn_ok h7; subst e
  obtain ⟨e, h9⟩ := sy_xn_ok h8; subst e
  exact hk _ _ a4 M r h9
def juL_law__709 (k : Int32 → Int64 → Int64 → sy_M → sy_O) (ls st : List Value) (M : sy_M) : sy_O := sy_xc 1000000 ls fun l => sy_xc 0 l fun l => sy_xc 121 l fun l => sy_xc 132 l fun l => sy_xi l fun a4 l => sy_xv l fun _ l => sy_xv l fun _ l => sy_xn l (sy_xl st fun s0 l => sy_xl l fun s1 l => sy_xn l (k a4 s0 s1 M))
theorem jwL_law__709 {d : Nat} {k : Int32 → Int64 → Int64 → sy_M → sy_O} (hk : ∀ (w5 : Value) (w6 : Value) (a4 : Int32) (s0 : Int64) (s1 : Int64) (M : sy_M) (r : xe_R × sy_M), k a4 s0 s1 M = some r → sy_E (d) qL_law_ 709 [.ref 1000000, .ref 0, .ref 121, .ref 132, .int a4, w5, w6] [.long s0, .long s1] M r) : ∀ ls st M r, juL_law__709 k ls st M = some r → sy_E d qL_law_ 709 ls st M r := by
  intro ls st M r h
  obtain ⟨l, e, h1⟩ := sy_xc_ok h; subst e
  obtain ⟨l, e, h2⟩ := sy_xc_ok h1; subst e
  obtain ⟨l, e, h3⟩ := sy_xc_ok h2; subst e
  obtain ⟨l, e, h4⟩ := sy_xc_ok h3; subst e
  obtain ⟨a4, l, e, h5⟩ := sy_xi_ok h4; subst e
  obtain ⟨w5, l, e, h6⟩ := sy_xv_ok h5; subst e
  obtain ⟨w6, l, e, h7⟩ := sy_xv_ok h6; subst e
  obtain ⟨e, h8⟩ := sy_xn_ok h7; subst e
  obtain ⟨s0, l, e, h9⟩ := sy_xl_ok h8; subst e
  obtain ⟨s1, l, e, h10⟩ := sy_xl_ok h9; subst e
  obtain ⟨e, h11⟩ := sy_xn_ok h10; subst e
  exact hk _ _ a4 s0 s1 M r h11
def juL_law__643 (k : Int32 → sy_M → sy_O) (ls st : List Value) (M : sy_M) : sy_O := sy_xc 1000000 ls fun l => sy_xc 0 l fun l => sy_xc 121 l fun l => sy_xc 132 l fun l => sy_xi l fun a4 l => sy_xv l fun _ l => sy_xv l fun _ l => sy_xn l (sy_xn st (k a4 M))
theorem jwL_law__643 {d : Nat} {k : Int32 → sy_M → sy_O} (hk : ∀ (w5 : Value) (w6 : Value) (a4 : Int32) (M : sy_M) (r : xe_R × sy_M), k a4 M = some r → sy_E (d) qL_law_ 643 [.ref 1000000, .ref 0, .ref 121, .ref 132, .int a4, w5, w6] [] M r) : ∀ ls st M r, juL_law__643 k ls st M = some r → sy_E d qL_law_ 643 ls st M r := by
  intro ls st M r h
  obtain ⟨l, e, h1⟩ := sy_xc_ok h; subst e
  obtain ⟨l, e, h2⟩ := sy_xc_ok h1; subst e
  obtain ⟨l, e, h3⟩ := sy_xc_ok h2; subst e
  obtain ⟨l, e, h4⟩ := sy_xc_ok h3; subst e
  obtain ⟨a4, l, e, h5⟩ := sy_xi_ok h4; subst e
  obtain ⟨w5, l, e, h6⟩ := sy_xv_ok h5; subst e
  obtain ⟨w6, l, e, h7⟩ := sy_xv_ok h6; subst e
  obtain ⟨e, h8⟩ := sy_xn_ok h7; subst e
  obtain ⟨e, h9⟩ := sy_xn_ok h8; subst e
  exact hk _ _ a4 M r h9
def juL_law__771 (k : Int32 → sy_M → sy_O) (ls st : List Value) (M : sy_M) : sy_O := sy_xc 1000000 ls fun l => sy_xc 0 l fun l => sy_xc 121 l fun l => sy_xc 132 l fun l => sy_xi l fun a4 l => sy_xv l fun _ l => sy_xv l fun _ l => sy_xn l (sy_xn st (k a4 M))
theorem jwL_law__771 {d : Nat} {k : Int32 → sy_M → sy_O} (hk : ∀ (w5 : Value) (w6 : Value) (a4 : Int32) (M : sy_M) (r : xe_R × sy_M), k a4 M = some r → sy_E (d) qL_law_ 771 [.ref 1000000, .ref 0, .ref 121, .ref 132, .int a4, w5, w6] [] M r) : ∀ ls st M r, juL_law__771 k ls st M = some r → sy_E d qL_law_ 771 ls st M r := by
  intro ls st M r h
  obtain ⟨l, e, h1⟩ := sy_xc_ok h; subst e
  obtain ⟨l, e, h2⟩ := sy_xc_ok h1; subst e
  obtain ⟨l, e, h3⟩ := sy_xc_ok h2; subst e
  obtain ⟨l, e, h4⟩ := sy_xc_ok h3; subst e
  obtain ⟨a4, l, e, h5⟩ := sy_xi_ok h4; subst e
  obtain ⟨w5, l, e, h6⟩ := sy_xv_ok h5; subst e
  obtain ⟨w6, l, e, h7⟩ := sy_xv_ok h6; subst e
  obtain ⟨e, h8⟩ := sy_xn_ok h7; subst e
  obtain ⟨e, h9⟩ := sy_xn_ok h8; subst e
  exact hk _ _ a4 M r h9
def juL_law__718 (k : Int32 → sy_M → sy_O) (ls st : List Value) (M : sy_M) : sy_O := sy_xc 1000000 ls fun l => sy_xc 0 l fun l => sy_xc 121 l fun l => sy_xc 132 l fun l => sy_xi l fun a4 l => sy_xv l fun _ l => sy_xv l fun _ l => sy_xn l (sy_xn st (k a4 M))
theorem jwL_law__718 {d : Nat} {k : Int32 → sy_M → sy_O} (hk : ∀ (w5 : Value) (w6 : Value) (a4 : Int32) (M : sy_M) (r : xe_R × sy_M), k a4 M = some r → sy_E (d) qL_law_ 718 [.ref 1000000, .ref 0, .ref 121, .ref 132, .int a4, w5, w6] [] M r) : ∀ ls st M r, juL_law__718 k ls st M = some r → sy_E d qL_law_ 718 ls st M r := by
  intro ls st M r h
  obtain ⟨l, e, h1⟩ := sy_xc_ok h; subst e
  obtain ⟨l, e, h2⟩ := sy_xc_ok h1; subst e
  obtain ⟨l, e, h3⟩ := sy_xc_ok h2; subst e
  obtain ⟨l, e, h4⟩ := sy_xc_ok h3; subst e
  obtain ⟨a4, l, e, h5⟩ := sy_xi_ok h4; subst e
  obtain ⟨w5, l, e, h6⟩ := sy_xv_ok h5; subst e
  obtain ⟨w6, l, e, h7⟩ := sy_xv_ok h6; subst e
  obtain ⟨e, h8⟩ := sy_xn_ok h7; subst e
  obtain ⟨e, h9⟩ := sy_xn_ok h8; subst e
  exact hk _ _ a4 M r h9
def juL_law__827 (k : Int32 → sy_M → sy_O) (ls st : List Value) (M : sy_M) : sy_O := sy_xc 1000000 ls fun l => sy_xc 0 l fun l => sy_xc 121 l fun l => sy_xc 132 l fun l => sy_xi l fun a4 l => sy_xv l fun _ l => sy_xv l fun _ l => sy_xn l (sy_xn st (k a4 M))
theorem jwL_law__827 {d : Nat} {k : Int32 → sy_M → sy_O} (hk : ∀ (w5 : Value) (w6 : Value) (a4 : Int32) (M : sy_M) (r : xe_R × sy_M), k a4 M = some r → sy_E (d) qL_law_ 827 [.ref 1000000, .ref 0, .ref 121, .ref 132, .int a4, w5, w6] [] M r) : ∀ ls st M r, juL_law__827 k ls st M = some r → sy_E d qL_law_ 827 ls st M r := by
  intro ls st M r h
  obtain ⟨l, e, h1⟩ := sy_xc_ok h; subst e
  obtain ⟨l, e, h2⟩ := sy_xc_ok h1; subst e
  obtain ⟨l, e, h3⟩ := sy_xc_ok h2; subst e
  obtain ⟨l, e, h4⟩ := sy_xc_ok h3; subst e
  obtain ⟨a4, l, e, h5⟩ := sy_xi_ok h4; subst e
  obtain ⟨w5, l, e, h6⟩ := sy_xv_ok h5; subst e
  obtain ⟨w6, l, e, h7⟩ := sy_xv_ok h6; subst e
  obtain ⟨e, h8⟩ := sy_xn_ok h7; subst e
  obtain ⟨e, h9⟩ := sy_xn_ok h8; subst e
  exact hk _ _ a4 M r h9
def juL_law__774 (k : Int32 → sy_M → sy_O) (ls st : List Value) (M : sy_M) : sy_O := sy_xc 1000000 ls fun l => sy_xc 0 l fun l => sy_xc 121 l fun l => sy_xc 132 l fun l => sy_xi l fun a4 l => sy_xv l fun _ l => sy_xv l fun _ l => sy_xn l (sy_xn st (k a4 M))
theorem jwL_law__774 {d : Nat} {k : Int32 → sy_M → sy_O} (hk : ∀ (w5 : Value) (w6 : Value) (a4 : Int32) (M : sy_M) (r : xe_R × sy_M), k a4 M = some r → sy_E (d) qL_law_ 774 [.ref 1000000, .ref 0, .ref 121, .ref 132, .int a4, w5, w6] [] M r) : ∀ ls st M r, juL_law__774 k ls st M = some r → sy_E d qL_law_ 774 ls st M r := by
  intro ls st M r h
  obtain ⟨l, e, h1⟩ := sy_xc_ok h; subst e
  obtain ⟨l, e, h2⟩ := sy_xc_ok h1; subst e
  obtain ⟨l, e, h3⟩ := sy_xc_ok h2; subst e
  obtain ⟨l, e, h4⟩ := sy_xc_ok h3; subst e
  obtain ⟨a4, l, e, h5⟩ := sy_xi_ok h4; subst e
  obtain ⟨w5, l, e, h6⟩ := sy_xv_ok h5; subst e
  obtain ⟨w6, l, e, h7⟩ := sy_xv_ok h6; subst e
  obtain ⟨e, h8⟩ := sy_xn_ok h7; subst e
  obtain ⟨e, h9⟩ := sy_xn_ok h8; subst e
  exact hk _ _ a4 M r h9
def juL_law__883 (k : Int32 → sy_M → sy_O) (ls st : List Value) (M : sy_M) : sy_O := sy_xc 1000000 ls fun l => sy_xc 0 l fun l => sy_xc 121 l fun l => sy_xc 132 l fun l => sy_xi l fun a4 l => sy_xv l fun _ l => sy_xv l fun _ l => sy_xn l (sy_xn st (k a4 M))
theorem jwL_law__883 {d : Nat} {k : Int32 → sy_M → sy_O} (hk : ∀ (w5 : Value) (w6 : Value) (a4 : Int32) (M : sy_M) (r : xe_R × sy_M), k a4 M = some r → sy_E (d) qL_law_ 883 [.ref 1000000, .ref 0, .ref 121, .ref 132, .int a4, w5, w6] [] M r) : ∀ ls st M r, juL_law__883 k ls st M = some r → sy_E d qL_law_ 883 ls st M r := by
  intro ls st M r h
  obtain ⟨l, e, h1⟩ := sy_xc_ok h; subst e
  obtain ⟨l, e, h2⟩ := sy_xc_ok h1; subst e
  obtain ⟨l, e, h3⟩ := sy_xc_ok h2; subst e
  obtain ⟨l, e, h4⟩ := sy_xc_ok h3; subst e
  obtain ⟨a4, l, e, h5⟩ := sy_xi_ok h4; subst e
  obtain ⟨w5, l, e, h6⟩ := sy_xv_ok h5; subst e
  obtain ⟨w6, l, e, h7⟩ := sy_xv_ok h6; subst e
  obtain ⟨e, h8⟩ := sy_xn_ok h7; subst e
  obtain ⟨e, h9⟩ := sy_xn_ok h8; subst e
  exact hk _ _ a4 M r h9
def juL_law__830 (k : Int32 → sy_M → sy_O) (ls st : List Value) (M : sy_M) : sy_O := sy_xc 1000000 ls fun l => sy_xc 0 l fun l => sy_xc 121 l fun l => sy_xc 132 l fun l => sy_xi l fun a4 l => sy_xv l fun _ l => sy_xv l fun _ l => sy_xn l (sy_xn st (k a4 M))
theorem jwL_law__830 {d : Nat} {k : Int32 → sy_M → sy_O} (hk : ∀ (w5 : Value) (w6 : Value) (a4 : Int32) (M : sy_M) (r : xe_R × sy_M), k a4 M = some r → sy_E (d) qL_law_ 830 [.ref 1000000, .ref 0, .ref 121, .ref 132, .int a4, w5, w6] [] M r) : ∀ ls st M r, juL_law__830 k ls st M = some r → sy_E d qL_law_ 830 ls st M r := by
  intro ls st M r h
  obtain ⟨l, e, h1⟩ := sy_xc_ok h; subst e
  obtain ⟨l, e, h2⟩ := sy_xc_ok h1; subst e
  obtain ⟨l, e, h3⟩ := sy_xc_ok h2; subst e
  obtain ⟨l, e, h4⟩ := sy_xc_ok h3; subst e
  obtain ⟨a4, l, e, h5⟩ := sy_xi_ok h4; subst e
  obtain ⟨w5, l, e, h6⟩ := sy_xv_ok h5; subst e
  obtain ⟨w6, l, e, h7⟩ := sy_xv_ok h6; subst e
  obtain ⟨e, h8⟩ := sy_xn_ok h7; subst e
  obtain ⟨e, h9⟩ := sy_xn_ok h8; subst e
  exact hk _ _ a4 M r h9
def juL_law__951 (k : Int32 → sy_M → sy_O) (ls st : List Value) (M : sy_M) : sy_O := sy_xc 1000000 ls fun l => sy_xc 0 l fun l => sy_xc 121 l fun l => sy_xc 132 l fun l => sy_xi l fun a4 l => sy_xv l fun _ l => sy_xv l fun _ l => sy_xn l (sy_xn st (k a4 M))
theorem jwL_law__951 {d : Nat} {k : Int32 → sy_M → sy_O} (hk : ∀ (w5 : Value) (w6 : Value) (a4 : Int32) (M : sy_M) (r : xe_R × sy_M), k a4 M = some r → sy_E (d) qL_law_ 951 [.ref 1000000, .ref 0, .ref 121, .ref 132, .int a4, w5, w6] [] M r) : ∀ ls st M r, juL_law__951 k ls st M = some r → sy_E d qL_law_ 951 ls st M r := by
  intro ls st M r h
  obtain ⟨l, e, h1⟩ := sy_xc_ok h; subst e
  obtain ⟨l, e, h2⟩ := sy_xc_ok h1; subst e
  obtain ⟨l, e, h3⟩ := sy_xc_ok h2; subst e
  obtain ⟨l, e, h4⟩ := sy_xc_ok h3; subst e
  obtain ⟨a4, l, e, h5⟩ := sy_xi_ok h4; subst e
  obtain ⟨w5, l, e, h6⟩ := sy_xv_ok h5; subst e
  obtain ⟨w6, l, e, h7⟩ := sy_xv_ok h6; subst e
  obtain ⟨e, h8⟩ := sy_xn_ok h7; subst e
  obtain ⟨e, h9⟩ := sy_xn_ok h8; subst e
  exact hk _ _ a4 M r h9
def juL_law__886 (k : Int32 → sy_M → sy_O) (ls st : List Value) (M : sy_M) : sy_O := sy_xc 1000000 ls fun l => sy_xc 0 l fun l => sy_xc 121 l fun l => sy_xc 132 l fun l => sy_xi l fun a4 l => sy_xv l fun _ l => sy_xv l fun _ l => sy_xn l (sy_xn st (k a4 M))
theorem jwL_law__886 {d : Nat} {k : Int32 → sy_M → sy_O} (hk : ∀ (w5 : Value) (w6 : Value) (a4 : Int32) (M : sy_M) (r : xe_R × sy_M), k a4 M = some r → sy_E (d) qL_law_ 886 [.ref 1000000, .ref 0, .ref 121, .ref 132, .int a4, w5, w6] [] M r) : ∀ ls st M r, juL_law__886 k ls st M = some r → sy_E d qL_law_ 886 ls st M r := by
  intro ls st M r h
  obtain ⟨l, e, h1⟩ := sy_xc_ok h; subst e
  obtain ⟨l, e, h2⟩ := sy_xc_ok h1; subst e
  obtain ⟨l, e, h3⟩ := sy_xc_ok h2; subst e
  obtain ⟨l, e, h4⟩ := sy_xc_ok h3; subst e
  obtain ⟨a4, l, e, h5⟩ := sy_xi_ok h4; subst e
  obtain ⟨w5, l, e, h6⟩ := sy_xv_ok h5; subst e
  obtain ⟨w6, l, e, h7⟩ := sy_xv_ok h6; subst e
  obtain ⟨e, h8⟩ := sy_xn_ok h7; subst e
  obtain ⟨e, h9⟩ := sy_xn_ok h8; subst e
  exact hk _ _ a4 M r h9
def juL_law__1019 (k : Int32 → sy_M → sy_O) (ls st : List Value) (M : sy_M) : sy_O := sy_xc 1000000 ls fun l => sy_xc 0 l fun l => sy_xc 121 l fun l => sy_xc 132 l fun l => sy_xi l fun a4 l => sy_xv l fun _ l => sy_xv l fun _ l => sy_xn l (sy_xn st (k a4 M))
theorem jwL_law__1019 {d : Nat} {k : Int32 → sy_M → sy_O} (hk : ∀ (w5 : Value) (w6 : Value) (a4 : Int32) (M : sy_M) (r : xe_R × sy_M), k a4 M = some r → sy_E (d) qL_law_ 1019 [.ref 1000000, .ref 0, .ref 121, .ref 132, .int a4, w5, w6] [] M r) : ∀ ls st M r, juL_law__1019 k ls st M = some r → sy_E d qL_law_ 1019 ls st M r := by
  intro ls st M r h
  obtain ⟨l, e, h1⟩ := sy_xc_ok h; subst e
  obtain ⟨l, e, h2⟩ := sy_xc_ok h1; subst e
  obtain ⟨l, e, h3⟩ := sy_xc_ok h2; subst e
  obtain ⟨l, e, h4⟩ := sy_xc_ok h3; subst e
  obtain ⟨a4, l, e, h5⟩ := sy_xi_ok h4; subst e
  obtain ⟨w5, l, e, h6⟩ := sy_xv_ok h5; subst e
  obtain ⟨w6, l, e, h7⟩ := sy_xv_ok h6; subst e
  obtain ⟨e, h8⟩ := sy_xn_ok h7; subst e
  obtain ⟨e, h9⟩ := sy_xn_ok h8; subst e
  exact hk _ _ a4 M r h9
def juL_law__954 (k : Int32 → sy_M → sy_O) (ls st : List Value) (M : sy_M) : sy_O := sy_xc 1000000 ls fun l => sy_xc 0 l fun l => sy_xc 121 l fun l => sy_xc 132 l fun l => sy_xi l fun a4 l => sy_xv l fun _ l => sy_xv l fun _ l => sy_xn l (sy_xn st (k a4 M))
theorem jwL_law__954 {d : Nat} {k : Int32 → sy_M → sy_O} (hk : ∀ (w5 : Value) (w6 : Value) (a4 : Int32) (M : sy_M) (r : xe_R × sy_M), k a4 M = some r → sy_E (d) qL_law_ 954 [.ref 1000000, .ref 0, .ref 121, .ref 132, .int a4, w5, w6] [] M r) : ∀ ls st M r, juL_law__954 k ls st M = some r → sy_E d qL_law_ 954 ls st M r := by
  intro ls st M r h
  obtain ⟨l, e, h1⟩ := sy_xc_ok h; subst e
  obtain ⟨l, e, h2⟩ := sy_xc_ok h1; subst e
  obtain ⟨l, e, h3⟩ := sy_xc_ok h2; subst e
  obtain ⟨l, e, h4⟩ := sy_xc_ok h3; subst e
  obtain ⟨a4, l, e, h5⟩ := sy_xi_ok h4; subst e
  obtain ⟨w5, l, e, h6⟩ := sy_xv_ok h5; subst e
  obtain ⟨w6, l, e, h7⟩ := sy_xv_ok h6; subst e
  obtain ⟨e, h8⟩ := sy_xn_ok h7; subst e
  obtain ⟨e, h9⟩ := sy_xn_ok h8; subst e
  exact hk _ _ a4 M r h9
def juL_law__1087 (k : Int32 → sy_M → sy_O) (ls st : List Value) (M : sy_M) : sy_O := sy_xc 1000000 ls fun l => sy_xc 0 l fun l => sy_xc 121 l fun l => sy_xc 132 l fun l => sy_xi l fun a4 l => sy_xv l fun _ l => sy_xv l fun _ l => sy_xn l (sy_xn st (k a4 M))
theorem jwL_law__1087 {d : Nat} {k : Int32 → sy_M → sy_O} (hk : ∀ (w5 : Value) (w6 : Value) (a4 : Int32) (M : sy_M) (r : xe_R × sy_M), k a4 M = some r → sy_E (d) qL_law_ 1087 [.ref 1000000, .ref 0, .ref 121, .ref 132, .int a4, w5, w6] [] M r) : ∀ ls st M r, juL_law__1087 k ls st M = some r → sy_E d qL_law_ 1087 ls st M r := by
  intro ls st M r h
  obtain ⟨l, e, h1⟩ := sy_xc_ok h; subst e
  obtain ⟨l, e, h2⟩ := sy_xc_ok h1; subst e
  obtain ⟨l, e, h3⟩ := sy_xc_ok h2; subst e
  obtain ⟨l, e, h4⟩ := sy_xc_ok h3; subst e
  obtain ⟨a4, l, e, h5⟩ := sy_xi_ok h4; subst e
  obtain ⟨w5, l, e, h6⟩ := sy_xv_ok h5; subst e
  obtain ⟨w6, l, e, h7⟩ := sy_xv_ok h6; subst e
  obtain ⟨e, h8⟩ := sy_xn_ok h7; subst e
  obtain ⟨e, h9⟩ := sy_xn_ok h8; subst e
  exact hk _ _ a4 M r h9
def juL_law__1022 (k : Int32 → sy_M → sy_O) (ls st : List Value) (M : sy_M) : sy_O := sy_xc 1000000 ls fun l => sy_xc 0 l fun l => sy_xc 121 l fun l => sy_xc 132 l fun l => sy_xi l fun a4 l => sy_xv l fun _ l => sy_xv l fun _ l => sy_xn l (sy_xn st (k a4 M))
theorem jwL_law__1022 {d : Nat} {k : Int32 → sy_M → sy_O} (hk : ∀ (w5 : Value) (w6 : Value) (a4 : Int32) (M : sy_M) (r : xe_R × sy_M), k a4 M = some r → sy_E (d) qL_law_ 1022 [.ref 1000000, .ref 0, .ref 121, .ref 132, .int a4, w5, w6] [] M r) : ∀ ls st M r, juL_law__1022 k ls st M = some r → sy_E d qL_law_ 1022 ls st M r := by
  intro ls st M r h
  obtain ⟨l, e, h1⟩ := sy_xc_ok h; subst e
  obtain ⟨l, e, h2⟩ := sy_xc_ok h1; subst e
  obtain ⟨l, e, h3⟩ := sy_xc_ok h2; subst e
  obtain ⟨l, e, h4⟩ := sy_xc_ok h3; subst e
  obtain ⟨a4, l, e, h5⟩ := sy_xi_ok h4; subst e
  obtain ⟨w5, l, e, h6⟩ := sy_xv_ok h5; subst e
  obtain ⟨w6, l, e, h7⟩ := sy_xv_ok h6; subst e
  obtain ⟨e, h8⟩ := sy_xn_ok h7; subst e
  obtain ⟨e, h9⟩ := sy_xn_ok h8; subst e
  exact hk _ _ a4 M r h9
def juL_law__1143 (k : Int32 → sy_M → sy_O) (ls st : List Value) (M : sy_M) : sy_O := sy_xc 1000000 ls fun l => sy_xc 0 l fun l => sy_xc 121 l fun l => sy_xc 132 l fun l => sy_xi l fun a4 l => sy_xv l fun _ l => sy_xv l fun _ l => sy_xn l (sy_xn st (k a4 M))
theorem jwL_law__1143 {d : Nat} {k : Int32 → sy_M → sy_O} (hk : ∀ (w5 : Value) (w6 : Value) (a4 : Int32) (M : sy_M) (r : xe_R × sy_M), k a4 M = some r → sy_E (d) qL_law_ 1143 [.ref 1000000, .ref 0, .ref 121, .ref 132, .int a4, w5, w6] [] M r) : ∀ ls st M r, juL_law__1143 k ls st M = some r → sy_E d qL_law_ 1143 ls st M r := by
  intro ls st M r h
  obtain ⟨l, e, h1⟩ := sy_xc_ok h; subst e
  obtain ⟨l, e, h2⟩ := sy_xc_ok h1; subst e
  obtain ⟨l, e, h3⟩ := sy_xc_ok h2; subst e
  obtain ⟨l, e, h4⟩ := sy_xc_ok h3; subst e
  obtain ⟨a4, l, e, h5⟩ := sy_xi_ok h4; subst e
  obtain ⟨w5, l, e, h6⟩ := sy_xv_ok h5; subst e
  obtain ⟨w6, l, e, h7⟩ := sy_xv_ok h6; subst e
  obtain ⟨e, h8⟩ := sy_xn_ok h7; subst e
  obtain ⟨e, h9⟩ := sy_xn_ok h8; subst e
  exact hk _ _ a4 M r h9
def juL_law__1090 (k : Int32 → sy_M → sy_O) (ls st : List Value) (M : sy_M) : sy_O := sy_xc 1000000 ls fun l => sy_xc 0 l fun l => sy_xc 121 l fun l => sy_xc 132 l fun l => sy_xi l fun a4 l => sy_xv l fun _ l => sy_xv l fun _ l => sy_xn l (sy_xn st (k a4 M))
theorem jwL_law__1090 {d : Nat} {k : Int32 → sy_M → sy_O} (hk : ∀ (w5 : Value) (w6 : Value) (a4 : Int32) (M : sy_M) (r : xe_R × sy_M), k a4 M = some r → sy_E (d) qL_law_ 1090 [.ref 1000000, .ref 0, .ref 121, .ref 132, .int a4, w5, w6] [] M r) : ∀ ls st M r, juL_law__1090 k ls st M = some r → sy_E d qL_law_ 1090 ls st M r := by
  intro ls st M r h
  obtain ⟨l, e, h1⟩ := sy_xc_ok h; subst e
  obtain ⟨l, e, h2⟩ := sy_xc_ok h1; subst e
  obtain ⟨l, e, h3⟩ := sy_xc_ok h2; subst e
  obtain ⟨l, e, h4⟩ := sy_xc_ok h3; subst e
  obtain ⟨a4, l, e, h5⟩ := sy_xi_ok h4; subst e
  obtain ⟨w5, l, e, h6⟩ := sy_xv_ok h5; subst e
  obtain ⟨w6, l, e, h7⟩ := sy_xv_ok h6; subst e
  obtain ⟨e, h8⟩ := sy_xn_ok h7; subst e
  obtain ⟨e, h9⟩ := sy_xn_ok h8; subst e
  exact hk _ _ a4 M r h9
def juL_law__1211 (k : Int32 → sy_M → sy_O) (ls st : List Value) (M : sy_M) : sy_O := sy_xc 1000000 ls fun l => sy_xc 0 l fun l => sy_xc 121 l fun l => sy_xc 132 l fun l => sy_xi l fun a4 l => sy_xv l fun _ l => sy_xv l fun _ l => sy_xn l (sy_xn st (k a4 M))
theorem jwL_law__1211 {d : Nat} {k : Int32 → sy_M → sy_O} (hk : ∀ (w5 : Value) (w6 : Value) (a4 : Int32) (M : sy_M) (r : xe_R × sy_M), k a4 M = some r → sy_E (d) qL_law_ 1211 [.ref 1000000, .ref 0, .ref 121, .ref 132, .int a4, w5, w6] [] M r) : ∀ ls st M r, juL_law__1211 k ls st M = some r → sy_E d qL_law_ 1211 ls st M r := by
  intro ls st M r h
  obtain ⟨l, e, h1⟩ := sy_xc_ok h; subst e
  obtain ⟨l, e, h2⟩ := sy_xc_ok h1; subst e
  obtain ⟨l, e, h3⟩ := sy_xc_ok h2; subst e
  obtain ⟨l, e, h4⟩ := sy_xc_ok h3; subst e
  obtain ⟨a4, l, e, h5⟩ := sy_xi_ok h4; subst e
  obtain ⟨w5, l, e, h6⟩ := sy_xv_ok h5; subst e
  obtain ⟨w6, l, e, h7⟩ := sy_xv_ok h6; subst e
  obtain ⟨e, h8⟩ := sy_xn_ok h7; subst e
  obtain ⟨e, h9⟩ := sy_xn_ok h8; subst e
  exact hk _ _ a4 M r h9
def juL_law__1146 (k : Int32 → sy_M → sy_O) (ls st : List Value) (M : sy_M) : sy_O := sy_xc 1000000 ls fun l => sy_xc 0 l fun l => sy_xc 121 l fun l => sy_xc 132 l fun l => sy_xi l fun a4 l => sy_xv l fun _ l => sy_xv l fun _ l => sy_xn l (sy_xn st (k a4 M))
theorem jwL_law__1146 {d : Nat} {k : Int32 → sy_M → sy_O} (hk : ∀ (w5 : Value) (w6 : Value) (a4 : Int32) (M : sy_M) (r : xe_R × sy_M), k a4 M = some r → sy_E (d) qL_law_ 1146 [.ref 1000000, .ref 0, .ref 121, .ref 132, .int a4, w5, w6] [] M r) : ∀ ls st M r, juL_law__1146 k ls st M = some r → sy_E d qL_law_ 1146 ls st M r := by
  intro ls st M r h
  obtain ⟨l, e, h1⟩ := sy_xc_ok h; subst e
  obtain ⟨l, e, h2⟩ := sy_xc_ok h1; subst e
  obtain ⟨l, e, h3⟩ := sy_xc_ok h2; subst e
  obtain ⟨l, e, h4⟩ := sy_xc_ok h3; subst e
  obtain ⟨a4, l, e, h5⟩ := sy_xi_ok h4; subst e
  obtain ⟨w5, l, e, h6⟩ := sy_xv_ok h5; subst e
  obtain ⟨w6, l, e, h7⟩ := sy_xv_ok h6; subst e
  obtain ⟨e, h8⟩ := sy_xn_ok h7; subst e
  obtain ⟨e, h9⟩ := sy_xn_ok h8; subst e
  exact hk _ _ a4 M r h9
def juL_law__1291 (k : Int32 → sy_M → sy_O) (ls st : List Value) (M : sy_M) : sy_O := sy_xc 1000000 ls fun l => sy_xc 0 l fun l => sy_xc 121 l fun l => sy_xc 132 l fun l => sy_xi l fun a4 l => sy_xv l fun _ l => sy_xv l fun _ l => sy_xn l (sy_xn st (k a4 M))
theorem jwL_law__1291 {d : Nat} {k : Int32 → sy_M → sy_O} (hk : ∀ (w5 : Value) (w6 : Value) (a4 : Int32) (M : sy_M) (r : xe_R × sy_M), k a4 M = some r → sy_E (d) qL_law_ 1291 [.ref 1000000, .ref 0, .ref 121, .ref 132, .int a4, w5, w6] [] M r) : ∀ ls st M r, juL_law__1291 k ls st M = some r → sy_E d qL_law_ 1291 ls st M r := by
  intro ls st M r h
  obtain ⟨l, e, h1⟩ := sy_xc_ok h; subst e
  obtain ⟨l, e, h2⟩ := sy_xc_ok h1; subst e
  obtain ⟨l, e, h3⟩ := sy_xc_ok h2; subst e
  obtain ⟨l, e, h4⟩ := sy_xc_ok h3; subst e
  obtain ⟨a4, l, e, h5⟩ := sy_xi_ok h4; subst e
  obtain ⟨w5, l, e, h6⟩ := sy_xv_ok h5; subst e
  obtain ⟨w6, l, e, h7⟩ := sy_xv_ok h6; subst e
  obtain ⟨e, h8⟩ := sy_xn_ok h7; subst e
  obtain ⟨e, h9⟩ := sy_xn_ok h8; subst e
  exact hk _ _ a4 M r h9
def juL_law__1263 (k : Int32 → Int32 → Int32 → sy_M → sy_O) (ls st : List Value) (M : sy_M) : sy_O := sy_xc 1000000 ls fun l => sy_xc 0 l fun l => sy_xc 121 l fun l => sy_xc 132 l fun l => sy_xi l fun a4 l => sy_xi l fun a5 l => sy_xi l fun a6 l => sy_xn l (sy_xn st (k a4 a5 a6 M))
theorem jwL_law__1263 {d : Nat} {k : Int32 → Int32 → Int32 → sy_M → sy_O} (hk : ∀ (a4 : Int32) (a5 : Int32) (a6 : Int32) (M : sy_M) (r : xe_R × sy_M), k a4 a5 a6 M = some r → sy_E (d) qL_law_ 1263 [.ref 1000000, .ref 0, .ref 121, .ref 132, .int a4, .int a5, .int a6] [] M r) : ∀ ls st M r, juL_law__1263 k ls st M = some r → sy_E d qL_law_ 1263 ls st M r := by
  intro ls st M r h
  obtain ⟨l, e, h1⟩ := sy_xc_ok h; subst e
  obtain ⟨l, e, h2⟩ := sy_xc_ok h1; subst e
  obtain ⟨l, e, h3⟩ := sy_xc_ok h2; subst e
  obtain ⟨l, e, h4⟩ := sy_xc_ok h3; subst e
  obtain ⟨a4, l, e, h5⟩ := sy_xi_ok h4; subst e
  obtain ⟨a5, l, e, h6⟩ := sy_xi_ok h5; subst e
  obtain ⟨a6, l, e, h7⟩ := sy_xi_ok h6; subst e
  obtain ⟨e, h8⟩ := sy_xn_ok h7; subst e
  obtain ⟨e, h9⟩ := sy_xn_ok h8; subst e
  exact hk a4 a5 a6 M r h9
def juL_law__1214 (k : Int32 → sy_M → sy_O) (ls st : List Value) (M : sy_M) : sy_O := sy_xc 1000000 ls fun l => sy_xc 0 l fun l => sy_xc 121 l fun l => sy_xc 132 l fun l => sy_xi l fun a4 l => sy_xv l fun _ l => sy_xv l fun _ l => sy_xn l (sy_xn st (k a4 M))
theorem jwL_law__1214 {d : Nat} {k : Int32 → sy_M → sy_O} (hk : ∀ (w5 : Value) (w6 : Value) (a4 : Int32) (M : sy_M) (r : xe_R × sy_M), k a4 M = some r → sy_E (d) qL_law_ 1214 [.ref 1000000, .ref 0, .ref 121, .ref 132, .int a4, w5, w6] [] M r) : ∀ ls st M r, juL_law__1214 k ls st M = some r → sy_E d qL_law_ 1214 ls st M r := by
  intro ls st M r h
  obtain ⟨l, e, h1⟩ := sy_xc_ok h; subst e
  obtain ⟨l, e, h2⟩ := sy_xc_ok h1; subst e
  obtain ⟨l, e, h3⟩ := sy_xc_ok h2; subst e
  obtain ⟨l, e, h4⟩ := sy_xc_ok h3; subst e
  obtain ⟨a4, l, e, h5⟩ := sy_xi_ok h4; subst e
  obtain ⟨w5, l, e, h6⟩ := sy_xv_ok h5; subst e
  obtain ⟨w6, l, e, h7⟩ := sy_xv_ok h6; subst e
  obtain ⟨e, h8⟩ := sy_xn_ok h7; subst e
  obtain ⟨e, h9⟩ := sy_xn_ok h8; subst e
  exact hk _ _ a4 M r h9
def juL_law__1294 (k : Int32 → sy_M → sy_O) (ls st : List Value) (M : sy_M) : sy_O := sy_xc 1000000 ls fun l => sy_xc 0 l fun l => sy_xc 121 l fun l => sy_xc 132 l fun l => sy_xi l fun a4 l => sy_xv l fun _ l => sy_xv l fun _ l => sy_xn l (sy_xn st (k a4 M))
theorem jwL_law__1294 {d : Nat} {k : Int32 → sy_M → sy_O} (hk : ∀ (w5 : Value) (w6 : Value) (a4 : Int32) (M : sy_M) (r : xe_R × sy_M), k a4 M = some r → sy_E (d) qL_law_ 1294 [.ref 1000000, .ref 0, .ref 121, .ref 132, .int a4, w5, w6] [] M r) : ∀ ls st M r, juL_law__1294 k ls st M = some r → sy_E d qL_law_ 1294 ls st M r := by
  intro ls st M r h
  obtain ⟨l, e, h1⟩ := sy_xc_ok h; subst e
  obtain ⟨l, e, h2⟩ := sy_xc_ok h1; subst e
  obtain ⟨l, e, h3⟩ := sy_xc_ok h2; subst e
  obtain ⟨l, e, h4⟩ := sy_xc_ok h3; subst e
  obtain ⟨a4, l, e, h5⟩ := sy_xi_ok h4; subst e
  obtain ⟨w5, l, e, h6⟩ := sy_xv_ok h5; subst e
  obtain ⟨w6, l, e, h7⟩ := sy_xv_ok h6; subst e
  obtain ⟨e, h8⟩ := sy_xn_ok h7; subst e
  obtain ⟨e, h9⟩ := sy_xn_ok h8; subst e
  exact hk _ _ a4 M r h9
def juL_law__1307 (k : Int32 → sy_M → sy_O) (ls st : List Value) (M : sy_M) : sy_O := sy_xc 1000000 ls fun l => sy_xc 0 l fun l => sy_xc 121 l fun l => sy_xc 132 l fun l => sy_xi l fun a4 l => sy_xv l fun _ l => sy_xv l fun _ l => sy_xn l (sy_xn st (k a4 M))
theorem jwL_law__1307 {d : Nat} {k : Int32 → sy_M → sy_O} (hk : ∀ (w5 : Value) (w6 : Value) (a4 : Int32) (M : sy_M) (r : xe_R × sy_M), k a4 M = some r → sy_E (d) qL_law_ 1307 [.ref 1000000, .ref 0, .ref 121, .ref 132, .int a4, w5, w6] [] M r) : ∀ ls st M r, juL_law__1307 k ls st M = some r → sy_E d qL_law_ 1307 ls st M r := by
  intro ls st M r h
  obtain ⟨l, e, h1⟩ := sy_xc_ok h; subst e
  obtain ⟨l, e, h2⟩ := sy_xc_ok h1; subst e
  obtain ⟨l, e, h3⟩ := sy_xc_ok h2; subst e
  obtain ⟨l, e, h4⟩ := sy_xc_ok h3; subst e
  obtain ⟨a4, l, e, h5⟩ := sy_xi_ok h4; subst e
  obtain ⟨w5, l, e, h6⟩ := sy_xv_ok h5; subst e
  obtain ⟨w6, l, e, h7⟩ := sy_xv_ok h6; subst e
  obtain ⟨e, h8⟩ := sy_xn_ok h7; subst e
  obtain ⟨e, h9⟩ := sy_xn_ok h8; subst e
  exact hk _ _ a4 M r h9
def juL_law__1320 (k : Int32 → sy_M → sy_O) (ls st : List Value) (M : sy_M) : sy_O := sy_xc 1000000 ls fun l => sy_xc 0 l fun l => sy_xc 121 l fun l => sy_xc 132 l fun l => sy_xi l fun a4 l => sy_xv l fun _ l => sy_xv l fun _ l => sy_xn l (sy_xn st (k a4 M))
theorem jwL_law__1320 {d : Nat} {k : Int32 → sy_M → sy_O} (hk : ∀ (w5 : Value) (w6 : Value) (a4 : Int32) (M : sy_M) (r : xe_R × sy_M), k a4 M = some r → sy_E (d) qL_law_ 1320 [.ref 1000000, .ref 0, .ref 121, .ref 132, .int a4, w5, w6] [] M r) : ∀ ls st M r, juL_law__1320 k ls st M = some r → sy_E d qL_law_ 1320 ls st M r := by
  intro ls st M r h
  obtain ⟨l, e, h1⟩ := sy_xc_ok h; subst e
  obtain ⟨l, e, h2⟩ := sy_xc_ok h1; subst e
  obtain ⟨l, e, h3⟩ := sy_xc_ok h2; subst e
  obtain ⟨l, e, h4⟩ := sy_xc_ok h3; subst e
  obtain ⟨a4, l, e, h5⟩ := sy_xi_ok h4; subst e
  obtain ⟨w5, l, e, h6⟩ := sy_xv_ok h5; subst e
  obtain ⟨w6, l, e, h7⟩ := sy_xv_ok h6; subst e
  obtain ⟨e, h8⟩ := sy_xn_ok h7; subst e
  obtain ⟨e, h9⟩ := sy_xn_ok h8; subst e
  exact hk _ _ a4 M r h9
def juL_law__1333 (k : Int32 → sy_M → sy_O) (ls st : List Value) (M : sy_M) : sy_O := sy_xc 1000000 ls fun l => sy_xc 0 l fun l => sy_xc 121 l fun l => sy_xc 132 l fun l => sy_xi l fun a4 l => sy_xv l fun _ l => sy_xv l fun _ l => sy_xn l (sy_xn st (k a4 M))
theorem jwL_law__1333 {d : Nat} {k : Int32 → sy_M → sy_O} (hk : ∀ (w5 : Value) (w6 : Value) (a4 : Int32) (M : sy_M) (r : xe_R × sy_M), k a4 M = some r → sy_E (d) qL_law_ 1333 [.ref 1000000, .ref 0, .ref 121, .ref 132, .int a4, w5, w6] [] M r) : ∀ ls st M r, juL_law__1333 k ls st M = some r → sy_E d qL_law_ 1333 ls st M r := by
  intro ls st M r h
  obtain ⟨l, e, h1⟩ := sy_xc_ok h; subst e
  obtain ⟨l, e, h2⟩ := sy_xc_ok h1; subst e
  obtain ⟨l, e, h3⟩ := sy_xc_ok h2; subst e
  obtain ⟨l, e, h4⟩ := sy_xc_ok h3; subst e
  obtain ⟨a4, l, e, h5⟩ := sy_xi_ok h4; subst e
  obtain ⟨w5, l, e, h6⟩ := sy_xv_ok h5; subst e
  obtain ⟨w6, l, e, h7⟩ := sy_xv_ok h6; subst e
  obtain ⟨e, h8⟩ := sy_xn_ok h7; subst e
  obtain ⟨e, h9⟩ := sy_xn_ok h8; subst e
  exact hk _ _ a4 M r h9
def juL_law__1346 (k : Int32 → sy_M → sy_O) (ls st : List Value) (M : sy_M) : sy_O := sy_xc 1000000 ls fun l => sy_xc 0 l fun l => sy_xc 121 l fun l => sy_xc 132 l fun l => sy_xi l fun a4 l => sy_xv l fun _ l => sy_xv l fun _ l => sy_xn l (sy_xn st (k a4 M))
theorem jwL_law__1346 {d : Nat} {k : Int32 → sy_M → sy_O} (hk : ∀ (w5 : Value) (w6 : Value) (a4 : Int32) (M : sy_M) (r : xe_R × sy_M), k a4 M = some r → sy_E (d) qL_law_ 1346 [.ref 1000000, .ref 0, .ref 121, .ref 132, .int a4, w5, w6] [] M r) : ∀ ls st M r, juL_law__1346 k ls st M = some r → sy_E d qL_law_ 1346 ls st M r := by
  intro ls st M r h
  obtain ⟨l, e, h1⟩ := sy_xc_ok h; subst e
  obtain ⟨l, e, h2⟩ := sy_xc_ok h1; subst e
  obtain ⟨l, e, h3⟩ := sy_xc_ok h2; subst e
  obtain ⟨l, e, h4⟩ := sy_xc_ok h3; subst e
  obtain ⟨a4, l, e, h5⟩ := sy_xi_ok h4; subst e
  obtain ⟨w5, l, e, h6⟩ := sy_xv_ok h5; subst e
  obtain ⟨w6, l, e, h7⟩ := sy_xv_ok h6; subst e
  obtain ⟨e, h8⟩ := sy_xn_ok h7; subst e
  obtain ⟨e, h9⟩ := sy_xn_ok h8; subst e
  exact hk _ _ a4 M r h9
def juL_law__1359 (k : Int32 → sy_M → sy_O) (ls st : List Value) (M : sy_M) : sy_O := sy_xc 1000000 ls fun l => sy_xc 0 l fun l => sy_xc 121 l fun l => sy_xc 132 l fun l => sy_xi l fun a4 l => sy_xv l fun _ l => sy_xv l fun _ l => sy_xn l (sy_xn st (k a4 M))
theorem jwL_law__1359 {d : Nat} {k : Int32 → sy_M → sy_O} (hk : ∀ (w5 : Value) (w6 : Value) (a4 : Int32) (M : sy_M) (r : xe_R × sy_M), k a4 M = some r → sy_E (d) qL_law_ 1359 [.ref 1000000, .ref 0, .ref 121, .ref 132, .int a4, w5, w6] [] M r) : ∀ ls st M r, juL_law__1359 k ls st M = some r → sy_E d qL_law_ 1359 ls st M r := by
  intro ls st M r h
  obtain ⟨l, e, h1⟩ := sy_xc_ok h; subst e
  obtain ⟨l, e, h2⟩ := sy_xc_ok h1; subst e
  obtain ⟨l, e, h3⟩ := sy_xc_ok h2; subst e
  obtain ⟨l, e, h4⟩ := sy_xc_ok h3; subst e
  obtain ⟨a4, l, e, h5⟩ := sy_xi_ok h4; subst e
  obtain ⟨w5, l, e, h6⟩ := sy_xv_ok h5; subst e
  obtain ⟨w6, l, e, h7⟩ := sy_xv_ok h6; subst e
  obtain ⟨e, h8⟩ := sy_xn_ok h7; subst e
  obtain ⟨e, h9⟩ := sy_xn_ok h8; subst e
  exact hk _ _ a4 M r h9
def juL_law__1449 (k : Int32 → sy_M → sy_O) (ls st : List Value) (M : sy_M) : sy_O := sy_xc 1000000 ls fun l => sy_xc 0 l fun l => sy_xc 121 l fun l => sy_xc 132 l fun l => sy_xi l fun a4 l => sy_xv l fun _ l => sy_xv l fun _ l => sy_xn l (sy_xn st (k a4 M))
theorem jwL_law__1449 {d : Nat} {k : Int32 → sy_M → sy_O} (hk : ∀ (w5 : Value) (w6 : Value) (a4 : Int32) (M : sy_M) (r : xe_R × sy_M), k a4 M = some r → sy_E (d) qL_law_ 1449 [.ref 1000000, .ref 0, .ref 121, .ref 132, .int a4, w5, w6] [] M r) : ∀ ls st M r, juL_law__1449 k ls st M = some r → sy_E d qL_law_ 1449 ls st M r := by
  intro ls st M r h
  obtain ⟨l, e, h1⟩ := sy_xc_ok h; subst e
  obtain ⟨l, e, h2⟩ := sy_xc_ok h1; subst e
  obtain ⟨l, e, h3⟩ := sy_xc_ok h2; subst e
  obtain ⟨l, e, h4⟩ := sy_xc_ok h3; subst e
  obtain ⟨a4, l, e, h5⟩ := sy_xi_ok h4; subst e
  obtain ⟨w5, l, e, h6⟩ := sy_xv_ok h5; subst e
  obtain ⟨w6, l, e, h7⟩ := sy_xv_ok h6; subst e
  obtain ⟨e, h8⟩ := sy_xn_ok h7; subst e
  obtain ⟨e, h9⟩ := sy_xn_ok h8; subst e
  exact hk _ _ a4 M r h9
def juL_law__1421 (k : Int32 → Int32 → Int32 → sy_M → sy_O) (ls st : List Value) (M : sy_M) : sy_O := sy_xc 1000000 ls fun l => sy_xc 0 l fun l => sy_xc 121 l fun l => sy_xc 132 l fun l => sy_xi l fun a4 l => sy_xi l fun a5 l => sy_xi l fun a6 l => sy_xn l (sy_xn st (k a4 a5 a6 M))
theorem jwL_law__1421 {d : Nat} {k : Int32 → Int32 → Int32 → sy_M → sy_O} (hk : ∀ (a4 : Int32) (a5 : Int32) (a6 : Int32) (M : sy_M) (r : xe_R × sy_M), k a4 a5 a6 M = some r → sy_E (d) qL_law_ 1421 [.ref 1000000, .ref 0, .ref 121, .ref 132, .int a4, .int a5, .int a6] [] M r) : ∀ ls st M r, juL_law__1421 k ls st M = some r → sy_E d qL_law_ 1421 ls st M r := by
  intro ls st M r h
  obtain ⟨l, e, h1⟩ := sy_xc_ok h; subst e
  obtain ⟨l, e, h2⟩ := sy_xc_ok h1; subst e
  obtain ⟨l, e, h3⟩ := sy_xc_ok h2; subst e
  obtain ⟨l, e, h4⟩ := sy_xc_ok h3; subst e
  obtain ⟨a4, l, e, h5⟩ := sy_xi_ok h4; subst e
  obtain ⟨a5, l, e, h6⟩ := sy_xi_ok h5; subst e
  obtain ⟨a6, l, e, h7⟩ := sy_xi_ok h6; subst e
  obtain ⟨e, h8⟩ := sy_xn_ok h7; subst e
  obtain ⟨e, h9⟩ := sy_xn_ok h8; subst e
  exact hk a4 a5 a6 M r h9
def juL_law__1372 (k : Int32 → sy_M → sy_O) (ls st : List Value) (M : sy_M) : sy_O := sy_xc 1000000 ls fun l => sy_xc 0 l fun l => sy_xc 121 l fun l => sy_xc 132 l fun l => sy_xi l fun a4 l => sy_xv l fun _ l => sy_xv l fun _ l => sy_xn l (sy_xn st (k a4 M))
theorem jwL_law__1372 {d : Nat} {k : Int32 → sy_M → sy_O} (hk : ∀ (w5 : Value) (w6 : Value) (a4 : Int32) (M : sy_M) (r : xe_R × sy_M), k a4 M = some r → sy_E (d) qL_law_ 1372 [.ref 1000000, .ref 0, .ref 121, .ref 132, .int a4, w5, w6] [] M r) : ∀ ls st M r, juL_law__1372 k ls st M = some r → sy_E d qL_law_ 1372 ls st M r := by
  intro ls st M r h
  obtain ⟨l, e, h1⟩ := sy_xc_ok h; subst e
  obtain ⟨l, e, h2⟩ := sy_xc_ok h1; subst e
  obtain ⟨l, e, h3⟩ := sy_xc_ok h2; subst e
  obtain ⟨l, e, h4⟩ := sy_xc_ok h3; subst e
  obtain ⟨a4, l, e, h5⟩ := sy_xi_ok h4; subst e
  obtain ⟨w5, l, e, h6⟩ := sy_xv_ok h5; subst e
  obtain ⟨w6, l, e, h7⟩ := sy_xv_ok h6; subst e
  obtain ⟨e, h8⟩ := sy_xn_ok h7; subst e
  obtain ⟨e, h9⟩ := sy_xn_ok h8; subst e
  exact hk _ _ a4 M r h9
def juL_law__1505 (k : Int32 → sy_M → sy_O) (ls st : List Value) (M : sy_M) : sy_O := sy_xc 1000000 ls fun l => sy_xc 0 l fun l => sy_xc 121 l fun l => sy_xc 132 l fun l => sy_xi l fun a4 l => sy_xv l fun _ l => sy_xv l fun _ l => sy_xn l (sy_xn st (k a4 M))
theorem jwL_law__1505 {d : Nat} {k : Int32 → sy_M → sy_O} (hk : ∀ (w5 : Value) (w6 : Value) (a4 : Int32) (M : sy_M) (r : xe_R × sy_M), k a4 M = some r → sy_E (d) qL_law_ 1505 [.ref 1000000, .ref 0, .ref 121, .ref 132, .int a4, w5, w6] [] M r) : ∀ ls st M r, juL_law__1505 k ls st M = some r → sy_E d qL_law_ 1505 ls st M r := by
  intro ls st M r h
  obtain ⟨l, e, h1⟩ := sy_xc_ok h; subst e
  obtain ⟨l, e, h2⟩ := sy_xc_ok h1; subst e
  obtain ⟨l, e, h3⟩ := sy_xc_ok h2; subst e
  obtain ⟨l, e, h4⟩ := sy_xc_ok h3; subst e
  obtain ⟨a4, l, e, h5⟩ := sy_xi_ok h4; subst e
  obtain ⟨w5, l, e, h6⟩ := sy_xv_ok h5; subst e
  obtain ⟨w6, l, e, h7⟩ := sy_xv_ok h6; subst e
  obtain ⟨e, h8⟩ := sy_xn_ok h7; subst e
  obtain ⟨e, h9⟩ := sy_xn_ok h8; subst e
  exact hk _ _ a4 M r h9
def juL_law__1452 (k : Int32 → sy_M → sy_O) (ls st : List Value) (M : sy_M) : sy_O := sy_xc 1000000 ls fun l => sy_xc 0 l fun l => sy_xc 121 l fun l => sy_xc 132 l fun l => sy_xi l fun a4 l => sy_xv l fun _ l => sy_xv l fun _ l => sy_xn l (sy_xn st (k a4 M))
theorem jwL_law__1452 {d : Nat} {k : Int32 → sy_M → sy_O} (hk : ∀ (w5 : Value) (w6 : Value) (a4 : Int32) (M : sy_M) (r : xe_R × sy_M), k a4 M = some r → sy_E (d) qL_law_ 1452 [.ref 1000000, .ref 0, .ref 121, .ref 132, .int a4, w5, w6] [] M r) : ∀ ls st M r, juL_law__1452 k ls st M = some r → sy_E d qL_law_ 1452 ls st M r := by
  intro ls st M r h
  obtain ⟨l, e, h1⟩ := sy_xc_ok h; subst e
  obtain ⟨l, e, h2⟩ := sy_xc_ok h1; subst e
  obtain ⟨l, e, h3⟩ := sy_xc_ok h2; subst e
  obtain ⟨l, e, h4⟩ := sy_xc_ok h3; subst e
  obtain ⟨a4, l, e, h5⟩ := sy_xi_ok h4; subst e
  obtain ⟨w5, l, e, h6⟩ := sy_xv_ok h5; subst e
  obtain ⟨w6, l, e, h7⟩ := sy_xv_ok h6; subst e
  obtain ⟨e, h8⟩ := sy_xn_ok h7; subst e
  obtain ⟨e, h9⟩ := sy_xn_ok h8; subst e
  exact hk _ _ a4 M r h9
def juL_law__1561 (k : Int32 → sy_M → sy_O) (ls st : List Value) (M : sy_M) : sy_O := sy_xc 1000000 ls fun l => sy_xc 0 l fun l => sy_xc 121 l fun l => sy_xc 132 l fun l => sy_xi l fun a4 l => sy_xv l fun _ l => sy_xv l fun _ l => sy_xn l (sy_xn st (k a4 M))
theorem jwL_law__1561 {d : Nat} {k : Int32 → sy_M → sy_O} (hk : ∀ (w5 : Value) (w6 : Value) (a4 : Int32) (M : sy_M) (r : xe_R × sy_M), k a4 M = some r → sy_E (d) qL_law_ 1561 [.ref 1000000, .ref 0, .ref 121, .ref 132, .int a4, w5, w6] [] M r) : ∀ ls st M r, juL_law__1561 k ls st M = some r → sy_E d qL_law_ 1561 ls st M r := by
  intro ls st M r h
  obtain ⟨l, e, h1⟩ := sy_xc_ok h; subst e
  obtain ⟨l, e, h2⟩ := sy_xc_ok h1; subst e
  obtain ⟨l, e, h3⟩ := sy_xc_ok h2; subst e
  obtain ⟨l, e, h4⟩ := sy_xc_ok h3; subst e
  obtain ⟨a4, l, e, h5⟩ := sy_xi_ok h4; subst e
  obtain ⟨w5, l, e, h6⟩ := sy_xv_ok h5; subst e
  obtain ⟨w6, l, e, h7⟩ := sy_xv_ok h6; subst e
  obtain ⟨e, h8⟩ := sy_xn_ok h7; subst e
  obtain ⟨e, h9⟩ := sy_xn_ok h8; subst e
  exact hk _ _ a4 M r h9
def juL_law__1508 (k : Int32 → sy_M → sy_O) (ls st : List Value) (M : sy_M) : sy_O := sy_xc 1000000 ls fun l => sy_xc 0 l fun l => sy_xc 121 l fun l => sy_xc 132 l fun l => sy_xi l fun a4 l => sy_xv l fun _ l => sy_xv l fun _ l => sy_xn l (sy_xn st (k a4 M))
theorem jwL_law__1508 {d : Nat} {k : Int32 → sy_M → sy_O} (hk : ∀ (w5 : Value) (w6 : Value) (a4 : Int32) (M : sy_M) (r : xe_R × sy_M), k a4 M = some r → sy_E (d) qL_law_ 1508 [.ref 1000000, .ref 0, .ref 121, .ref 132, .int a4, w5, w6] [] M r) : ∀ ls st M r, juL_law__1508 k ls st M = some r → sy_E d qL_law_ 1508 ls st M r := by
  intro ls st M r h
  obtain ⟨l, e, h1⟩ := sy_xc_ok h; subst e
  obtain ⟨l, e, h2⟩ := sy_xc_ok h1; subst e
  obtain ⟨l, e, h3⟩ := sy_xc_ok h2; subst e
  obtain ⟨l, e, h4⟩ := sy_xc_ok h3; subst e
  obtain ⟨a4, l, e, h5⟩ := sy_xi_ok h4; subst e
  obtain ⟨w5, l, e, h6⟩ := sy_xv_ok h5; subst e
  obtain ⟨w6, l, e, h7⟩ := sy_xv_ok h6; subst e
  obtain ⟨e, h8⟩ := sy_xn_ok h7; subst e
  obtain ⟨e, h9⟩ := sy_xn_ok h8; subst e
  exact hk _ _ a4 M r h9
def juL_law__1629 (k : Int32 → sy_M → sy_O) (ls st : List Value) (M : sy_M) : sy_O := sy_xc 1000000 ls fun l => sy_xc 0 l fun l => sy_xc 121 l fun l => sy_xc 132 l fun l => sy_xi l fun a4 l => sy_xv l fun _ l => sy_xv l fun _ l => sy_xn l (sy_xn st (k a4 M))
theorem jwL_law__1629 {d : Nat} {k : Int32 → sy_M → sy_O} (hk : ∀ (w5 : Value) (w6 : Value) (a4 : Int32) (M : sy_M) (r : xe_R × sy_M), k a4 M = some r → sy_E (d) qL_law_ 1629 [.ref 1000000, .ref 0, .ref 121, .ref 132, .int a4, w5, w6] [] M r) : ∀ ls st M r, juL_law__1629 k ls st M = some r → sy_E d qL_law_ 1629 ls st M r := by
  intro ls st M r h
  obtain ⟨l, e, h1⟩ := sy_xc_ok h; subst e
  obtain ⟨l, e, h2⟩ := sy_xc_ok h1; subst e
  obtain ⟨l, e, h3⟩ := sy_xc_ok h2; subst e
  obtain ⟨l, e, h4⟩ := sy_xc_ok h3; subst e
  obtain ⟨a4, l, e, h5⟩ := sy_xi_ok h4; subst e
  obtain ⟨w5, l, e, h6⟩ := sy_xv_ok h5; subst e
  obtain ⟨w6, l, e, h7⟩ := sy_xv_ok h6; subst e
  obtain ⟨e, h8⟩ := sy_xn_ok h7; subst e
  obtain ⟨e, h9⟩ := sy_xn_ok h8; subst e
  exact hk _ _ a4 M r h9
def juL_law__1564 (k : Int32 → sy_M → sy_O) (ls st : List Value) (M : sy_M) : sy_O := sy_xc 1000000 ls fun l => sy_xc 0 l fun l => sy_xc 121 l fun l => sy_xc 132 l fun l => sy_xi l fun a4 l => sy_xv l fun _ l => sy_xv l fun _ l => sy_xn l (sy_xn st (k a4 M))
theorem jwL_law__1564 {d : Nat} {k : Int32 → sy_M → sy_O} (hk : ∀ (w5 : Value) (w6 : Value) (a4 : Int32) (M : sy_M) (r : xe_R × sy_M), k a4 M = some r → sy_E (d) qL_law_ 1564 [.ref 1000000, .ref 0, .ref 121, .ref 132, .int a4, w5, w6] [] M r) : ∀ ls st M r, juL_law__1564 k ls st M = some r → sy_E d qL_law_ 1564 ls st M r := by
  intro ls st M r h
  obtain ⟨l, e, h1⟩ := sy_xc_ok h; subst e
  obtain ⟨l, e, h2⟩ := sy_xc_ok h1; subst e
  obtain ⟨l, e, h3⟩ := sy_xc_ok h2; subst e
  obtain ⟨l, e, h4⟩ := sy_xc_ok h3; subst e
  obtain ⟨a4, l, e, h5⟩ := sy_xi_ok h4; subst e
  obtain ⟨w5, l, e, h6⟩ := sy_xv_ok h5; subst e
  obtain ⟨w6, l, e, h7⟩ := sy_xv_ok h6; subst e
  obtain ⟨e, h8⟩ := sy_xn_ok h7; subst e
  obtain ⟨e, h9⟩ := sy_xn_ok h8; subst e
  exact hk _ _ a4 M r h9
def juL_law__1632 (k : Int32 → sy_M → sy_O) (ls st : List Value) (M : sy_M) : sy_O := sy_xc 1000000 ls fun l => sy_xc 0 l fun l => sy_xc 121 l fun l => sy_xc 132 l fun l => sy_xi l fun a4 l => sy_xv l fun _ l => sy_xv l fun _ l => sy_xn l (sy_xn st (k a4 M))
theorem jwL_law__1632 {d : Nat} {k : Int32 → sy_M → sy_O} (hk : ∀ (w5 : Value) (w6 : Value) (a4 : Int32) (M : sy_M) (r : xe_R × sy_M), k a4 M = some r → sy_E (d) qL_law_ 1632 [.ref 1000000, .ref 0, .ref 121, .ref 132, .int a4, w5, w6] [] M r) : ∀ ls st M r, juL_law__1632 k ls st M = some r → sy_E d qL_law_ 1632 ls st M r := by
  intro ls st M r h
  obtain ⟨l, e, h1⟩ := sy_xc_ok h; subst e
  obtain ⟨l, e, h2⟩ := sy_xc_ok h1; subst e
  obtain ⟨l, e, h3⟩ := sy_xc_ok h2; subst e
  obtain ⟨l, e, h4⟩ := sy_xc_ok h3; subst e
  obtain ⟨a4, l, e, h5⟩ := sy_xi_ok h4; subst e
  obtain ⟨w5, l, e, h6⟩ := sy_xv_ok h5; subst e
  obtain ⟨w6, l, e, h7⟩ := sy_xv_ok h6; subst e
  obtain ⟨e, h8⟩ := sy_xn_ok h7; subst e
  obtain ⟨e, h9⟩ := sy_xn_ok h8; subst e
  exact hk _ _ a4 M r h9
def juL_law__1726 (k : Int32 → sy_M → sy_O) (ls st : List Value) (M : sy_M) : sy_O := sy_xc 1000000 ls fun l => sy_xc 0 l fun l => sy_xc 121 l fun l => sy_xc 132 l fun l => sy_xi l fun a4 l => sy_xv l fun _ l => sy_xv l fun _ l => sy_xn l (sy_xn st (k a4 M))
theorem jwL_law__1726 {d : Nat} {k : Int32 → sy_M → sy_O} (hk : ∀ (w5 : Value) (w6 : Value) (a4 : Int32) (M : sy_M) (r : xe_R × sy_M), k a4 M = some r → sy_E (d) qL_law_ 1726 [.ref 1000000, .ref 0, .ref 121, .ref 132, .int a4, w5, w6] [] M r) : ∀ ls st M r, juL_law__1726 k ls st M = some r → sy_E d qL_law_ 1726 ls st M r := by
  intro ls st M r h
  obtain ⟨l, e, h1⟩ := sy_xc_ok h; subst e
  obtain ⟨l, e, h2⟩ := sy_xc_ok h1; subst e
  obtain ⟨l, e, h3⟩ := sy_xc_ok h2; subst e
  obtain ⟨l, e, h4⟩ := sy_xc_ok h3; subst e
  obtain ⟨a4, l, e, h5⟩ := sy_xi_ok h4; subst e
  obtain ⟨w5, l, e, h6⟩ := sy_xv_ok h5; subst e
  obtain ⟨w6, l, e, h7⟩ := sy_xv_ok h6; subst e
  obtain ⟨e, h8⟩ := sy_xn_ok h7; subst e
  obtain ⟨e, h9⟩ := sy_xn_ok h8; subst e
  exact hk _ _ a4 M r h9
def juL_law__1693 (k : Int32 → Int32 → Int32 → Int32 → sy_M → sy_O) (ls st : List Value) (M : sy_M) : sy_O := sy_xc 1000000 ls fun l => sy_xc 0 l fun l => sy_xc 121 l fun l => sy_xc 132 l fun l => sy_xi l fun a4 l => sy_xi l fun a5 l => sy_xv l fun _ l => sy_xn l (sy_xi st fun s0 l => sy_xi l fun s1 l => sy_xc 121 l fun l => sy_xn l (k a4 a5 s0 s1 M))
theorem jwL_law__1693 {d : Nat} {k : Int32 → Int32 → Int32 → Int32 → sy_M → sy_O} (hk : ∀ (w6 : Value) (a4 : Int32) (a5 : Int32) (s0 : Int32) (s1 : Int32) (M : sy_M) (r : xe_R × sy_M), k a4 a5 s0 s1 M = some r → sy_E (d) qL_law_ 1693 [.ref 1000000, .ref 0, .ref 121, .ref 132, .int a4, .int a5, w6] [.int s0, .int s1, .ref 121] M r) : ∀ ls st M r, juL_law__1693 k ls st M = some r → sy_E d qL_law_ 1693 ls st M r := by
  intro ls st M r h
  obtain ⟨l, e, h1⟩ := sy_xc_ok h; subst e
  obtain ⟨l, e, h2⟩ := sy_xc_ok h1; subst e
  obtain ⟨l, e, h3⟩ := sy_xc_ok h2; subst e
  obtain ⟨l, e, h4⟩ := sy_xc_ok h3; subst e
  obtain ⟨a4, l, e, h5⟩ := sy_xi_ok h4; subst e
  obtain ⟨a5, l, e, h6⟩ := sy_xi_ok h5; subst e
  obtain ⟨w6, l, e, h7⟩ := sy_xv_ok h6; subst e
  obtain ⟨e, h8⟩ := sy_xn_ok h7; subst e
  obtain ⟨s0, l, e, h9⟩ := sy_xi_ok h8; subst e
  obtain ⟨s1, l, e, h10⟩ := sy_xi_ok h9; subst e
  obtain ⟨l, e, h11⟩ := sy_xc_ok h10; subst e
  obtain ⟨e, h12⟩ := sy_xn_ok h11; subst e
  exact hk _ a4 a5 s0 s1 M r h12
def juL_law__1666 (k : Int32 → Int32 → Int32 → sy_M → sy_O) (ls st : List Value) (M : sy_M) : sy_O := sy_xc 1000000 ls fun l => sy_xc 0 l fun l => sy_xc 121 l fun l => sy_xc 132 l fun l => sy_xi l fun a4 l => sy_xv l fun _ l => sy_xv l fun _ l => sy_xn l (sy_xi st fun s0 l => sy_xi l fun s1 l => sy_xc 0 l fun l => sy_xn l (k a4 s0 s1 M))
theorem jwL_law__1666 {d : Nat} {k : Int32 → Int32 → Int32 → sy_M → sy_O} (hk : ∀ (w5 : Value) (w6 : Value) (a4 : Int32) (s0 : Int32) (s1 : Int32) (M : sy_M) (r : xe_R × sy_M), k a4 s0 s1 M = some r → sy_E (d) qL_law_ 1666 [.ref 1000000, .ref 0, .ref 121, .ref 132, .int a4, w5, w6] [.int s0, .int s1, .ref 0] M r) : ∀ ls st M r, juL_law__1666 k ls st M = some r → sy_E d qL_law_ 1666 ls st M r := by
  intro ls st M r h
  obtain ⟨l, e, h1⟩ := sy_xc_ok h; subst e
  obtain ⟨l, e, h2⟩ := sy_xc_ok h1; subst e
  obtain ⟨l, e, h3⟩ := sy_xc_ok h2; subst e
  obtain ⟨l, e, h4⟩ := sy_xc_ok h3; subst e
  obtain ⟨a4, l, e, h5⟩ := sy_xi_ok h4; subst e
  obtain ⟨w5, l, e, h6⟩ := sy_xv_ok h5; subst e
  obtain ⟨w6, l, e, h7⟩ := sy_xv_ok h6; subst e
  obtain ⟨e, h8⟩ := sy_xn_ok h7; subst e
  obtain ⟨s0, l, e, h9⟩ := sy_xi_ok h8; subst e
  obtain ⟨s1, l, e, h10⟩ := sy_xi_ok h9; subst e
  obtain ⟨l, e, h11⟩ := sy_xc_ok h10; subst e
  obtain ⟨e, h12⟩ := sy_xn_ok h11; subst e
  exact hk _ _ a4 s0 s1 M r h12
def juL_law__1645 (k : Int32 → sy_M → sy_O) (ls st : List Value) (M : sy_M) : sy_O := sy_xc 1000000 ls fun l => sy_xc 0 l fun l => sy_xc 121 l fun l => sy_xc 132 l fun l => sy_xi l fun a4 l => sy_xv l fun _ l => sy_xv l fun _ l => sy_xn l (sy_xn st (k a4 M))
theorem jwL_law__1645 {d : Nat} {k : Int32 → sy_M → sy_O} (hk : ∀ (w5 : Value) (w6 : Value) (a4 : Int32) (M : sy_M) (r : xe_R × sy_M), k a4 M = some r → sy_E (d) qL_law_ 1645 [.ref 1000000, .ref 0, .ref 121, .ref 132, .int a4, w5, w6] [] M r) : ∀ ls st M r, juL_law__1645 k ls st M = some r → sy_E d qL_law_ 1645 ls st M r := by
  intro ls st M r h
  obtain ⟨l, e, h1⟩ := sy_xc_ok h; subst e
  obtain ⟨l, e, h2⟩ := sy_xc_ok h1; subst e
  obtain ⟨l, e, h3⟩ := sy_xc_ok h2; subst e
  obtain ⟨l, e, h4⟩ := sy_xc_ok h3; subst e
  obtain ⟨a4, l, e, h5⟩ := sy_xi_ok h4; subst e
  obtain ⟨w5, l, e, h6⟩ := sy_xv_ok h5; subst e
  obtain ⟨w6, l, e, h7⟩ := sy_xv_ok h6; subst e
  obtain ⟨e, h8⟩ := sy_xn_ok h7; subst e
  obtain ⟨e, h9⟩ := sy_xn_ok h8; subst e
  exact hk _ _ a4 M r h9
def juL_law__1794 (k : Int32 → sy_M → sy_O) (ls st : List Value) (M : sy_M) : sy_O := sy_xc 1000000 ls fun l => sy_xc 0 l fun l => sy_xc 121 l fun l => sy_xc 132 l fun l => sy_xi l fun a4 l => sy_xv l fun _ l => sy_xv l fun _ l => sy_xn l (sy_xn st (k a4 M))
theorem jwL_law__1794 {d : Nat} {k : Int32 → sy_M → sy_O} (hk : ∀ (w5 : Value) (w6 : Value) (a4 : Int32) (M : sy_M) (r : xe_R × sy_M), k a4 M = some r → sy_E (d) qL_law_ 1794 [.ref 1000000, .ref 0, .ref 121, .ref 132, .int a4, w5, w6] [] M r) : ∀ ls st M r, juL_law__1794 k ls st M = some r → sy_E d qL_law_ 1794 ls st M r := by
  intro ls st M r h
  obtain ⟨l, e, h1⟩ := sy_xc_ok h; subst e
  obtain ⟨l, e, h2⟩ := sy_xc_ok h1; subst e
  obtain ⟨l, e, h3⟩ := sy_xc_ok h2; subst e
  obtain ⟨l, e, h4⟩ := sy_xc_ok h3; subst e
  obtain ⟨a4, l, e, h5⟩ := sy_xi_ok h4; subst e
  obtain ⟨w5, l, e, h6⟩ := sy_xv_ok h5; subst e
  obtain ⟨w6, l, e, h7⟩ := sy_xv_ok h6; subst e
  obtain ⟨e, h8⟩ := sy_xn_ok h7; subst e
  obtain ⟨e, h9⟩ := sy_xn_ok h8; subst e
  exact hk _ _ a4 M r h9
def juL_law__1729 (k : Int32 → sy_M → sy_O) (ls st : List Value) (M : sy_M) : sy_O := sy_xc 1000000 ls fun l => sy_xc 0 l fun l => sy_xc 121 l fun l => sy_xc 132 l fun l => sy_xi l fun a4 l => sy_xv l fun _ l => sy_xv l fun _ l => sy_xn l (sy_xn st (k a4 M))
theorem jwL_law__1729 {d : Nat} {k : Int32 → sy_M → sy_O} (hk : ∀ (w5 : Value) (w6 : Value) (a4 : Int32) (M : sy_M) (r : xe_R × sy_M), k a4 M = some r → sy_E (d) qL_law_ 1729 [.ref 1000000, .ref 0, .ref 121, .ref 132, .int a4, w5, w6] [] M r) : ∀ ls st M r, juL_law__1729 k ls st M = some r → sy_E d qL_law_ 1729 ls st M r := by
  intro ls st M r h
  obtain ⟨l, e, h1⟩ := sy_xc_ok h; subst e
  obtain ⟨l, e, h2⟩ := sy_xc_ok h1; subst e
  obtain ⟨l, e, h3⟩ := sy_xc_ok h2; subst e
  obtain ⟨l, e, h4⟩ := sy_xc_ok h3; subst e
  obtain ⟨a4, l, e, h5⟩ := sy_xi_ok h4; subst e
  obtain ⟨w5, l, e, h6⟩ := sy_xv_ok h5; subst e
  obtain ⟨w6, l, e, h7⟩ := sy_xv_ok h6; subst e
  obtain ⟨e, h8⟩ := sy_xn_ok h7; subst e
  obtain ⟨e, h9⟩ := sy_xn_ok h8; subst e
  exact hk _ _ a4 M r h9
def juL_law__1797 (k : Int32 → sy_M → sy_O) (ls st : List Value) (M : sy_M) : sy_O := sy_xc 1000000 ls fun l => sy_xc 0 l fun l => sy_xc 121 l fun l => sy_xc 132 l fun l => sy_xi l fun a4 l => sy_xv l fun _ l => sy_xv l fun _ l => sy_xn l (sy_xn st (k a4 M))
theorem jwL_law__1797 {d : Nat} {k : Int32 → sy_M → sy_O} (hk : ∀ (w5 : Value) (w6 : Value) (a4 : Int32) (M : sy_M) (r : xe_R × sy_M), k a4 M = some r → sy_E (d) qL_law_ 1797 [.ref 1000000, .ref 0, .ref 121, .ref 132, .int a4, w5, w6] [] M r) : ∀ ls st M r, juL_law__1797 k ls st M = some r → sy_E d qL_law_ 1797 ls st M r := by
  intro ls st M r h
  obtain ⟨l, e, h1⟩ := sy_xc_ok h; subst e
  obtain ⟨l, e, h2⟩ := sy_xc_ok h1; subst e
  obtain ⟨l, e, h3⟩ := sy_xc_ok h2; subst e
  obtain ⟨l, e, h4⟩ := sy_xc_ok h3; subst e
  obtain ⟨a4, l, e, h5⟩ := sy_xi_ok h4; subst e
  obtain ⟨w5, l, e, h6⟩ := sy_xv_ok h5; subst e
  obtain ⟨w6, l, e, h7⟩ := sy_xv_ok h6; subst e
  obtain ⟨e, h8⟩ := sy_xn_ok h7; subst e
  obtain ⟨e, h9⟩ := sy_xn_ok h8; subst e
  exact hk _ _ a4 M r h9
def juL_law__1875 (k : Int32 → sy_M → sy_O) (ls st : List Value) (M : sy_M) : sy_O := sy_xc 1000000 ls fun l => sy_xc 0 l fun l => sy_xc 121 l fun l => sy_xc 132 l fun l => sy_xi l fun a4 l => sy_xv l fun _ l => sy_xv l fun _ l => sy_xn l (sy_xn st (k a4 M))
theorem jwL_law__1875 {d : Nat} {k : Int32 → sy_M → sy_O} (hk : ∀ (w5 : Value) (w6 : Value) (a4 : Int32) (M : sy_M) (r : xe_R × sy_M), k a4 M = some r → sy_E (d) qL_law_ 1875 [.ref 1000000, .ref 0, .ref 121, .ref 132, .int a4, w5, w6] [] M r) : ∀ ls st M r, juL_law__1875 k ls st M = some r → sy_E d qL_law_ 1875 ls st M r := by
  intro ls st M r h
  obtain ⟨l, e, h1⟩ := sy_xc_ok h; subst e
  obtain ⟨l, e, h2⟩ := sy_xc_ok h1; subst e
  obtain ⟨l, e, h3⟩ := sy_xc_ok h2; subst e
  obtain ⟨l, e, h4⟩ := sy_xc_ok h3; subst e
  obtain ⟨a4, l, e, h5⟩ := sy_xi_ok h4; subst e
  obtain ⟨w5, l, e, h6⟩ := sy_xv_ok h5; subst e
  obtain ⟨w6, l, e, h7⟩ := sy_xv_ok h6; subst e
  obtain ⟨e, h8⟩ := sy_xn_ok h7; subst e
  obtain ⟨e, h9⟩ := sy_xn_ok h8; subst e
  exact hk _ _ a4 M r h9
def juL_law__1822 (k : Int32 → sy_M → sy_O) (ls st : List Value) (M : sy_M) : sy_O := sy_xc 1000000 ls fun l => sy_xc 0 l fun l => sy_xc 121 l fun l => sy_xc 132 l fun l => sy_xi l fun a4 l => sy_xv l fun _ l => sy_xv l fun _ l => sy_xn l (sy_xn st (k a4 M))
theorem jwL_law__1822 {d : Nat} {k : Int32 → sy_M → sy_O} (hk : ∀ (w5 : Value) (w6 : Value) (a4 : Int32) (M : sy_M) (r : xe_R × sy_M), k a4 M = some r → sy_E (d) qL_law_ 1822 [.ref 1000000, .ref 0, .ref 121, .ref 132, .int a4, w5, w6] [] M r) : ∀ ls st M r, juL_law__1822 k ls st M = some r → sy_E d qL_law_ 1822 ls st M r := by
  intro ls st M r h
  obtain ⟨l, e, h1⟩ := sy_xc_ok h; subst e
  obtain ⟨l, e, h2⟩ := sy_xc_ok h1; subst e
  obtain ⟨l, e, h3⟩ := sy_xc_ok h2; subst e
  obtain ⟨l, e, h4⟩ := sy_xc_ok h3; subst e
  obtain ⟨a4, l, e, h5⟩ := sy_xi_ok h4; subst e
  obtain ⟨w5, l, e, h6⟩ := sy_xv_ok h5; subst e
  obtain ⟨w6, l, e, h7⟩ := sy_xv_ok h6; subst e
  obtain ⟨e, h8⟩ := sy_xn_ok h7; subst e
  obtain ⟨e, h9⟩ := sy_xn_ok h8; subst e
  exact hk _ _ a4 M r h9
def juL_law__1911 (k : Int32 → Int32 → Int32 → sy_M → sy_O) (ls st : List Value) (M : sy_M) : sy_O := sy_xc 1000000 ls fun l => sy_xc 0 l fun l => sy_xc 121 l fun l => sy_xc 132 l fun l => sy_xi l fun a4 l => sy_xv l fun _ l => sy_xv l fun _ l => sy_xn l (sy_xi st fun s0 l => sy_xc 121 l fun l => sy_xi l fun s2 l => sy_xn l (k a4 s0 s2 M))
theorem jwL_law__1911 {d : Nat} {k : Int32 → Int32 → Int32 → sy_M → sy_O} (hk : ∀ (w5 : Value) (w6 : Value) (a4 : Int32) (s0 : Int32) (s2 : Int32) (M : sy_M) (r : xe_R × sy_M), k a4 s0 s2 M = some r → sy_E (d) qL_law_ 1911 [.ref 1000000, .ref 0, .ref 121, .ref 132, .int a4, w5, w6] [.int s0, .ref 121, .int s2] M r) : ∀ ls st M r, juL_law__1911 k ls st M = some r → sy_E d qL_law_ 1911 ls st M r := by
  intro ls st M r h
  obtain ⟨l, e, h1⟩ := sy_xc_ok h; subst e
  obtain ⟨l, e, h2⟩ := sy_xc_ok h1; subst e
  obtain ⟨l, e, h3⟩ := sy_xc_ok h2; subst e
  obtain ⟨l, e, h4⟩ := sy_xc_ok h3; subst e
  obtain ⟨a4, l, e, h5⟩ := sy_xi_ok h4; subst e
  obtain ⟨w5, l, e, h6⟩ := sy_xv_ok h5; subst e
  obtain ⟨w6, l, e, h7⟩ := sy_xv_ok h6; subst e
  obtain ⟨e, h8⟩ := sy_xn_ok h7; subst e
  obtain ⟨s0, l, e, h9⟩ := sy_xi_ok h8; subst e
  obtain ⟨l, e, h10⟩ := sy_xc_ok h9; subst e
  obtain ⟨s2, l, e, h11⟩ := sy_xi_ok h10; subst e
  obtain ⟨e, h12⟩ := sy_xn_ok h11; subst e
  exact hk _ _ a4 s0 s2 M r h12
def juL_law__1893 (k : Int32 → Int32 → sy_M → sy_O) (ls st : List Value) (M : sy_M) : sy_O := sy_xc 1000000 ls fun l => sy_xc 0 l fun l => sy_xc 121 l fun l => sy_xc 132 l fun l => sy_xi l fun a4 l => sy_xv l fun _ l => sy_xv l fun _ l => sy_xn l (sy_xi st fun s0 l => sy_xc 0 l fun l => sy_xn l (k a4 s0 M))
theorem jwL_law__1893 {d : Nat} {k : Int32 → Int32 → sy_M → sy_O} (hk : ∀ (w5 : Value) (w6 : Value) (a4 : Int32) (s0 : Int32) (M : sy_M) (r : xe_R × sy_M), k a4 s0 M = some r → sy_E (d) qL_law_ 1893 [.ref 1000000, .ref 0, .ref 121, .ref 132, .int a4, w5, w6] [.int s0, .ref 0] M r) : ∀ ls st M r, juL_law__1893 k ls st M = some r → sy_E d qL_law_ 1893 ls st M r := by
  intro ls st M r h
  obtain ⟨l, e, h1⟩ := sy_xc_ok h; subst e
  obtain ⟨l, e, h2⟩ := sy_xc_ok h1; subst e
  obtain ⟨l, e, h3⟩ := sy_xc_ok h2; subst e
  obtain ⟨l, e, h4⟩ := sy_xc_ok h3; subst e
  obtain ⟨a4, l, e, h5⟩ := sy_xi_ok h4; subst e
  obtain ⟨w5, l, e, h6⟩ := sy_xv_ok h5; subst e
  obtain ⟨w6, l, e, h7⟩ := sy_xv_ok h6; subst e
  obtain ⟨e, h8⟩ := sy_xn_ok h7; subst e
  obtain ⟨s0, l, e, h9⟩ := sy_xi_ok h8; subst e
  obtain ⟨l, e, h10⟩ := sy_xc_ok h9; subst e
  obtain ⟨e, h11⟩ := sy_xn_ok h10; subst e
  exact hk _ _ a4 s0 M r h11
def juL_law__1878 (k : Int32 → sy_M → sy_O) (ls st : List Value) (M : sy_M) : sy_O := sy_xc 1000000 ls fun l => sy_xc 0 l fun l => sy_xc 121 l fun l => sy_xc 132 l fun l => sy_xi l fun a4 l => sy_xv l fun _ l => sy_xv l fun _ l => sy_xn l (sy_xn st (k a4 M))
theorem jwL_law__1878 {d : Nat} {k : Int32 → sy_M → sy_O} (hk : ∀ (w5 : Value) (w6 : Value) (a4 : Int32) (M : sy_M) (r : xe_R × sy_M), k a4 M = some r → sy_E (d) qL_law_ 1878 [.ref 1000000, .ref 0, .ref 121, .ref 132, .int a4, w5, w6] [] M r) : ∀ ls st M r, juL_law__1878 k ls st M = some r → sy_E d qL_law_ 1878 ls st M r := by
  intro ls st M r h
  obtain ⟨l, e, h1⟩ := sy_xc_ok h; subst e
  obtain ⟨l, e, h2⟩ := sy_xc_ok h1; subst e
  obtain ⟨l, e, h3⟩ := sy_xc_ok h2; subst e
  obtain ⟨l, e, h4⟩ := sy_xc_ok h3; subst e
  obtain ⟨a4, l, e, h5⟩ := sy_xi_ok h4; subst e
  obtain ⟨w5, l, e, h6⟩ := sy_xv_ok h5; subst e
  obtain ⟨w6, l, e, h7⟩ := sy_xv_ok h6; subst e
  obtain ⟨e, h8⟩ := sy_xn_ok h7; subst e
  obtain ⟨e, h9⟩ := sy_xn_ok h8; subst e
  exact hk _ _ a4 M r h9
def juL_law__1972 (k : Int32 → sy_M → sy_O) (ls st : List Value) (M : sy_M) : sy_O := sy_xc 1000000 ls fun l => sy_xc 0 l fun l => sy_xc 121 l fun l => sy_xc 132 l fun l => sy_xi l fun a4 l => sy_xv l fun _ l => sy_xv l fun _ l => sy_xn l (sy_xn st (k a4 M))
theorem jwL_law__1972 {d : Nat} {k : Int32 → sy_M → sy_O} (hk : ∀ (w5 : Value) (w6 : Value) (a4 : Int32) (M : sy_M) (r : xe_R × sy_M), k a4 M = some r → sy_E (d) qL_law_ 1972 [.ref 1000000, .ref 0, .ref 121, .ref 132, .int a4, w5, w6] [] M r) : ∀ ls st M r, juL_law__1972 k ls st M = some r → sy_E d qL_law_ 1972 ls st M r := by
  intro ls st M r h
  obtain ⟨l, e, h1⟩ := sy_xc_ok h; subst e
  obtain ⟨l, e, h2⟩ := sy_xc_ok h1; subst e
  obtain ⟨l, e, h3⟩ := sy_xc_ok h2; subst e
  obtain ⟨l, e, h4⟩ := sy_xc_ok h3; subst e
  obtain ⟨a4, l, e, h5⟩ := sy_xi_ok h4; subst e
  obtain ⟨w5, l, e, h6⟩ := sy_xv_ok h5; subst e
  obtain ⟨w6, l, e, h7⟩ := sy_xv_ok h6; subst e
  obtain ⟨e, h8⟩ := sy_xn_ok h7; subst e
  obtain ⟨e, h9⟩ := sy_xn_ok h8; subst e
  exact hk _ _ a4 M r h9
def juL_law__1919 (k : Int32 → sy_M → sy_O) (ls st : List Value) (M : sy_M) : sy_O := sy_xc 1000000 ls fun l => sy_xc 0 l fun l => sy_xc 121 l fun l => sy_xc 132 l fun l => sy_xi l fun a4 l => sy_xv l fun _ l => sy_xv l fun _ l => sy_xn l (sy_xn st (k a4 M))
theorem jwL_law__1919 {d : Nat} {k : Int32 → sy_M → sy_O} (hk : ∀ (w5 : Value) (w6 : Value) (a4 : Int32) (M : sy_M) (r : xe_R × sy_M), k a4 M = some r → sy_E (d) qL_law_ 1919 [.ref 1000000, .ref 0, .ref 121, .ref 132, .int a4, w5, w6] [] M r) : ∀ ls st M r, juL_law__1919 k ls st M = some r → sy_E d qL_law_ 1919 ls st M r := by
  intro ls st M r h
  obtain ⟨l, e, h1⟩ := sy_xc_ok h; subst e
  obtain ⟨l, e, h2⟩ := sy_xc_ok h1; subst e
  obtain ⟨l, e, h3⟩ := sy_xc_ok h2; subst e
  obtain ⟨l, e, h4⟩ := sy_xc_ok h3; subst e
  obtain ⟨a4, l, e, h5⟩ := sy_xi_ok h4; subst e
  obtain ⟨w5, l, e, h6⟩ := sy_xv_ok h5; subst e
  obtain ⟨w6, l, e, h7⟩ := sy_xv_ok h6; subst e
  obtain ⟨e, h8⟩ := sy_xn_ok h7; subst e
  obtain ⟨e, h9⟩ := sy_xn_ok h8; subst e
  exact hk _ _ a4 M r h9
def juL_law__2044 (k : Int32 → sy_M → sy_O) (ls st : List Value) (M : sy_M) : sy_O := sy_xc 1000000 ls fun l => sy_xc 0 l fun l => sy_xc 121 l fun l => sy_xc 132 l fun l => sy_xi l fun a4 l => sy_xv l fun _ l => sy_xv l fun _ l => sy_xn l (sy_xn st (k a4 M))
theorem jwL_law__2044 {d : Nat} {k : Int32 → sy_M → sy_O} (hk : ∀ (w5 : Value) (w6 : Value) (a4 : Int32) (M : sy_M) (r : xe_R × sy_M), k a4 M = some r → sy_E (d) qL_law_ 2044 [.ref 1000000, .ref 0, .ref 121, .ref 132, .int a4, w5, w6] [] M r) : ∀ ls st M r, juL_law__2044 k ls st M = some r → sy_E d qL_law_ 2044 ls st M r := by
  intro ls st M r h
  obtain ⟨l, e, h1⟩ := sy_xc_ok h; subst e
  obtain ⟨l, e, h2⟩ := sy_xc_ok h1; subst e
  obtain ⟨l, e, h3⟩ := sy_xc_ok h2; subst e
  obtain ⟨l, e, h4⟩ := sy_xc_ok h3; subst e
  obtain ⟨a4, l, e, h5⟩ := sy_xi_ok h4; subst e
  obtain ⟨w5, l, e, h6⟩ := sy_xv_ok h5; subst e
  obtain ⟨w6, l, e, h7⟩ := sy_xv_ok h6; subst e
  obtain ⟨e, h8⟩ := sy_xn_ok h7; subst e
  obtain ⟨e, h9⟩ := sy_xn_ok h8; subst e
  exact hk _ _ a4 M r h9
def juL_law__2011 (k : Int32 → Int32 → Int32 → sy_M → sy_O) (ls st : List Value) (M : sy_M) : sy_O := sy_xc 1000000 ls fun l => sy_xc 0 l fun l => sy_xc 121 l fun l => sy_xc 132 l fun l => sy_xi l fun a4 l => sy_xi l fun a5 l => sy_xv l fun _ l => sy_xn l (sy_xi st fun s0 l => sy_xc 121 l fun l => sy_xn l (k a4 a5 s0 M))
theorem jwL_law__2011 {d : Nat} {k : Int32 → Int32 → Int32 → sy_M → sy_O} (hk : ∀ (w6 : Value) (a4 : Int32) (a5 : Int32) (s0 : Int32) (M : sy_M) (r : xe_R × sy_M), k a4 a5 s0 M = some r → sy_E (d) qL_law_ 2011 [.ref 1000000, .ref 0, .ref 121, .ref 132, .int a4, .int a5, w6] [.int s0, .ref 121] M r) : ∀ ls st M r, juL_law__2011 k ls st M = some r → sy_E d qL_law_ 2011 ls st M r := by
  intro ls st M r h
  obtain ⟨l, e, h1⟩ := sy_xc_ok h; subst e
  obtain ⟨l, e, h2⟩ := sy_xc_ok h1; subst e
  obtain ⟨l, e, h3⟩ := sy_xc_ok h2; subst e
  obtain ⟨l, e, h4⟩ := sy_xc_ok h3; subst e
  obtain ⟨a4, l, e, h5⟩ := sy_xi_ok h4; subst e
  obtain ⟨a5, l, e, h6⟩ := sy_xi_ok h5; subst e
  obtain ⟨w6, l, e, h7⟩ := sy_xv_ok h6; subst e
  obtain ⟨e, h8⟩ := sy_xn_ok h7; subst e
  obtain ⟨s0, l, e, h9⟩ := sy_xi_ok h8; subst e
  obtain ⟨l, e, h10⟩ := sy_xc_ok h9; subst e
  obtain ⟨e, h11⟩ := sy_xn_ok h10; subst e
  exact hk _ a4 a5 s0 M r h11
def juL_law__1990 (k : Int32 → Int32 → sy_M → sy_O) (ls st : List Value) (M : sy_M) : sy_O := sy_xc 1000000 ls fun l => sy_xc 0 l fun l => sy_xc 121 l fun l => sy_xc 132 l fun l => sy_xi l fun a4 l => sy_xv l fun _ l => sy_xv l fun _ l => sy_xn l (sy_xi st fun s0 l => sy_xc 0 l fun l => sy_xn l (k a4 s0 M))
theorem jwL_law__1990 {d : Nat} {k : Int32 → Int32 → sy_M → sy_O} (hk : ∀ (w5 : Value) (w6 : Value) (a4 : Int32) (s0 : Int32) (M : sy_M) (r : xe_R × sy_M), k a4 s0 M = some r → sy_E (d) qL_law_ 1990 [.ref 1000000, .ref 0, .ref 121, .ref 132, .int a4, w5, w6] [.int s0, .ref 0] M r) : ∀ ls st M r, juL_law__1990 k ls st M = some r → sy_E d qL_law_ 1990 ls st M r := by
  intro ls st M r h
  obtain ⟨l, e, h1⟩ := sy_xc_ok h; subst e
  obtain ⟨l, e, h2⟩ := sy_xc_ok h1; subst e
  obtain ⟨l, e, h3⟩ := sy_xc_ok h2; subst e
  obtain ⟨l, e, h4⟩ := sy_xc_ok h3; subst e
  obtain ⟨a4, l, e, h5⟩ := sy_xi_ok h4; subst e
  obtain ⟨w5, l, e, h6⟩ := sy_xv_ok h5; subst e
  obtain ⟨w6, l, e, h7⟩ := sy_xv_ok h6; subst e
  obtain ⟨e, h8⟩ := sy_xn_ok h7; subst e
  obtain ⟨s0, l, e, h9⟩ := sy_xi_ok h8; subst e
  obtain ⟨l, e, h10⟩ := sy_xc_ok h9; subst e
  obtain ⟨e, h11⟩ := sy_xn_ok h10; subst e
  exact hk _ _ a4 s0 M r h11
def juL_law__1975 (k : Int32 → sy_M → sy_O) (ls st : List Value) (M : sy_M) : sy_O := sy_xc 1000000 ls fun l => sy_xc 0 l fun l => sy_xc 121 l fun l => sy_xc 132 l fun l => sy_xi l fun a4 l => sy_xv l fun _ l => sy_xv l fun _ l => sy_xn l (sy_xn st (k a4 M))
theorem jwL_law__1975 {d : Nat} {k : Int32 → sy_M → sy_O} (hk : ∀ (w5 : Value) (w6 : Value) (a4 : Int32) (M : sy_M) (r : xe_R × sy_M), k a4 M = some r → sy_E (d) qL_law_ 1975 [.ref 1000000, .ref 0, .ref 121, .ref 132, .int a4, w5, w6] [] M r) : ∀ ls st M r, juL_law__1975 k ls st M = some r → sy_E d qL_law_ 1975 ls st M r := by
  intro ls st M r h
  obtain ⟨l, e, h1⟩ := sy_xc_ok h; subst e
  obtain ⟨l, e, h2⟩ := sy_xc_ok h1; subst e
  obtain ⟨l, e, h3⟩ := sy_xc_ok h2; subst e
  obtain ⟨l, e, h4⟩ := sy_xc_ok h3; subst e
  obtain ⟨a4, l, e, h5⟩ := sy_xi_ok h4; subst e
  obtain ⟨w5, l, e, h6⟩ := sy_xv_ok h5; subst e
  obtain ⟨w6, l, e, h7⟩ := sy_xv_ok h6; subst e
  obtain ⟨e, h8⟩ := sy_xn_ok h7; subst e
  obtain ⟨e, h9⟩ := sy_xn_ok h8; subst e
  exact hk _ _ a4 M r h9
def juL_law__2088 (k : Int32 → sy_M → sy_O) (ls st : List Value) (M : sy_M) : sy_O := sy_xc 1000000 ls fun l => sy_xc 0 l fun l => sy_xc 121 l fun l => sy_xc 132 l fun l => sy_xi l fun a4 l => sy_xv l fun _ l => sy_xv l fun _ l => sy_xn l (sy_xn st (k a4 M))
theorem jwL_law__2088 {d : Nat} {k : Int32 → sy_M → sy_O} (hk : ∀ (w5 : Value) (w6 : Value) (a4 : Int32) (M : sy_M) (r : xe_R × sy_M), k a4 M = some r → sy_E (d) qL_law_ 2088 [.ref 1000000, .ref 0, .ref 121, .ref 132, .int a4, w5, w6] [] M r) : ∀ ls st M r, juL_law__2088 k ls st M = some r → sy_E d qL_law_ 2088 ls st M r := by
  intro ls st M r h
  obtain ⟨l, e, h1⟩ := sy_xc_ok h; subst e
  obtain ⟨l, e, h2⟩ := sy_xc_ok h1; subst e
  obtain ⟨l, e, h3⟩ := sy_xc_ok h2; subst e
  obtain ⟨l, e, h4⟩ := sy_xc_ok h3; subst e
  obtain ⟨a4, l, e, h5⟩ := sy_xi_ok h4; subst e
  obtain ⟨w5, l, e, h6⟩ := sy_xv_ok h5; subst e
  obtain ⟨w6, l, e, h7⟩ := sy_xv_ok h6; subst e
  obtain ⟨e, h8⟩ := sy_xn_ok h7; subst e
  obtain ⟨e, h9⟩ := sy_xn_ok h8; subst e
  exact hk _ _ a4 M r h9
def juL_law__2047 (k : Int32 → sy_M → sy_O) (ls st : List Value) (M : sy_M) : sy_O := sy_xc 1000000 ls fun l => sy_xc 0 l fun l => sy_xc 121 l fun l => sy_xc 132 l fun l => sy_xi l fun a4 l => sy_xv l fun _ l => sy_xv l fun _ l => sy_xn l (sy_xn st (k a4 M))
theorem jwL_law__2047 {d : Nat} {k : Int32 → sy_M → sy_O} (hk : ∀ (w5 : Value) (w6 : Value) (a4 : Int32) (M : sy_M) (r : xe_R × sy_M), k a4 M = some r → sy_E (d) qL_law_ 2047 [.ref 1000000, .ref 0, .ref 121, .ref 132, .int a4, w5, w6] [] M r) : ∀ ls st M r, juL_law__2047 k ls st M = some r → sy_E d qL_law_ 2047 ls st M r := by
  intro ls st M r h
  obtain ⟨l, e, h1⟩ := sy_xc_ok h; subst e
  obtain ⟨l, e, h2⟩ := sy_xc_ok h1; subst e
  obtain ⟨l, e, h3⟩ := sy_xc_ok h2; subst e
  obtain ⟨l, e, h4⟩ := sy_xc_ok h3; subst e
  obtain ⟨a4, l, e, h5⟩ := sy_xi_ok h4; subst e
  obtain ⟨w5, l, e, h6⟩ := sy_xv_ok h5; subst e
  obtain ⟨w6, l, e, h7⟩ := sy_xv_ok h6; subst e
  obtain ⟨e, h8⟩ := sy_xn_ok h7; subst e
  obtain ⟨e, h9⟩ := sy_xn_ok h8; subst e
  exact hk _ _ a4 M r h9
def juL_law__2144 (k : Int32 → sy_M → sy_O) (ls st : List Value) (M : sy_M) : sy_O := sy_xc 1000000 ls fun l => sy_xc 0 l fun l => sy_xc 121 l fun l => sy_xc 132 l fun l => sy_xi l fun a4 l => sy_xv l fun _ l => sy_xv l fun _ l => sy_xn l (sy_xn st (k a4 M))
theorem jwL_law__2144 {d : Nat} {k : Int32 → sy_M → sy_O} (hk : ∀ (w5 : Value) (w6 : Value) (a4 : Int32) (M : sy_M) (r : xe_R × sy_M), k a4 M = some r → sy_E (d) qL_law_ 2144 [.ref 1000000, .ref 0, .ref 121, .ref 132, .int a4, w5, w6] [] M r) : ∀ ls st M r, juL_law__2144 k ls st M = some r → sy_E d qL_law_ 2144 ls st M r := by
  intro ls st M r h
  obtain ⟨l, e, h1⟩ := sy_xc_ok h; subst e
  obtain ⟨l, e, h2⟩ := sy_xc_ok h1; subst e
  obtain ⟨l, e, h3⟩ := sy_xc_ok h2; subst e
  obtain ⟨l, e, h4⟩ := sy_xc_ok h3; subst e
  obtain ⟨a4, l, e, h5⟩ := sy_xi_ok h4; subst e
  obtain ⟨w5, l, e, h6⟩ := sy_xv_ok h5; subst e
  obtain ⟨w6, l, e, h7⟩ := sy_xv_ok h6; subst e
  obtain ⟨e, h8⟩ := sy_xn_ok h7; subst e
  obtain ⟨e, h9⟩ := sy_xn_ok h8; subst e
  exact hk _ _ a4 M r h9
def juL_law__2091 (k : Int32 → sy_M → sy_O) (ls st : List Value) (M : sy_M) : sy_O := sy_xc 1000000 ls fun l => sy_xc 0 l fun l => sy_xc 121 l fun l => sy_xc 132 l fun l => sy_xi l fun a4 l => sy_xv l fun _ l => sy_xv l fun _ l => sy_xn l (sy_xn st (k a4 M))
theorem jwL_law__2091 {d : Nat} {k : Int32 → sy_M → sy_O} (hk : ∀ (w5 : Value) (w6 : Value) (a4 : Int32) (M : sy_M) (r : xe_R × sy_M), k a4 M = some r → sy_E (d) qL_law_ 2091 [.ref 1000000, .ref 0, .ref 121, .ref 132, .int a4, w5, w6] [] M r) : ∀ ls st M r, juL_law__2091 k ls st M = some r → sy_E d qL_law_ 2091 ls st M r := by
  intro ls st M r h
  obtain ⟨l, e, h1⟩ := sy_xc_ok h; subst e
  obtain ⟨l, e, h2⟩ := sy_xc_ok h1; subst e
  obtain ⟨l, e, h3⟩ := sy_xc_ok h2; subst e
  obtain ⟨l, e, h4⟩ := sy_xc_ok h3; subst e
  obtain ⟨a4, l, e, h5⟩ := sy_xi_ok h4; subst e
  obtain ⟨w5, l, e, h6⟩ := sy_xv_ok h5; subst e
  obtain ⟨w6, l, e, h7⟩ := sy_xv_ok h6; subst e
  obtain ⟨e, h8⟩ := sy_xn_ok h7; subst e
  obtain ⟨e, h9⟩ := sy_xn_ok h8; subst e
  exact hk _ _ a4 M r h9
def juL_law__2219 (k : Int32 → sy_M → sy_O) (ls st : List Value) (M : sy_M) : sy_O := sy_xc 1000000 ls fun l => sy_xc 0 l fun l => sy_xc 121 l fun l => sy_xc 132 l fun l => sy_xi l fun a4 l => sy_xv l fun _ l => sy_xv l fun _ l => sy_xn l (sy_xn st (k a4 M))
theorem jwL_law__2219 {d : Nat} {k : Int32 → sy_M → sy_O} (hk : ∀ (w5 : Value) (w6 : Value) (a4 : Int32) (M : sy_M) (r : xe_R × sy_M), k a4 M = some r → sy_E (d) qL_law_ 2219 [.ref 1000000, .ref 0, .ref 121, .ref 132, .int a4, w5, w6] [] M r) : ∀ ls st M r, juL_law__2219 k ls st M = some r → sy_E d qL_law_ 2219 ls st M r := by
  intro ls st M r h
  obtain ⟨l, e, h1⟩ := sy_xc_ok h; subst e
  obtain ⟨l, e, h2⟩ := sy_xc_ok h1; subst e
  obtain ⟨l, e, h3⟩ := sy_xc_ok h2; subst e
  obtain ⟨l, e, h4⟩ := sy_xc_ok h3; subst e
  obtain ⟨a4, l, e, h5⟩ := sy_xi_ok h4; subst e
  obtain ⟨w5, l, e, h6⟩ := sy_xv_ok h5; subst e
  obtain ⟨w6, l, e, h7⟩ := sy_xv_ok h6; subst e
  obtain ⟨e, h8⟩ := sy_xn_ok h7; subst e
  obtain ⟨e, h9⟩ := sy_xn_ok h8; subst e
  exact hk _ _ a4 M r h9
def juL_law__2213 (k : Int32 → Int64 → Int64 → sy_M → sy_O) (ls st : List Value) (M : sy_M) : sy_O := sy_xc 1000000 ls fun l => sy_xc 0 l fun l => sy_xc 121 l fun l => sy_xc 132 l fun l => sy_xi l fun a4 l => sy_xv l fun _ l => sy_xv l fun _ l => sy_xn l (sy_xl st fun s0 l => sy_xl l fun s1 l => sy_xn l (k a4 s0 s1 M))
theorem jwL_law__2213 {d : Nat} {k : Int32 → Int64 → Int64 → sy_M → sy_O} (hk : ∀ (w5 : Value) (w6 : Value) (a4 : Int32) (s0 : Int64) (s1 : Int64) (M : sy_M) (r : xe_R × sy_M), k a4 s0 s1 M = some r → sy_E (d) qL_law_ 2213 [.ref 1000000, .ref 0, .ref 121, .ref 132, .int a4, w5, w6] [.long s0, .long s1] M r) : ∀ ls st M r, juL_law__2213 k ls st M = some r → sy_E d qL_law_ 2213 ls st M r := by
  intro ls st M r h
  obtain ⟨l, e, h1⟩ := sy_xc_ok h; subst e
  obtain ⟨l, e, h2⟩ := sy_xc_ok h1; subst e
  obtain ⟨l, e, h3⟩ := sy_xc_ok h2; subst e
  obtain ⟨l, e, h4⟩ := sy_xc_ok h3; subst e
  obtain ⟨a4, l, e, h5⟩ := sy_xi_ok h4; subst e
  obtain ⟨w5, l, e, h6⟩ := sy_xv_ok h5; subst e
  obtain ⟨w6, l, e, h7⟩ := sy_xv_ok h6; subst e
  obtain ⟨e, h8⟩ := sy_xn_ok h7; subst e
  obtain ⟨s0, l, e, h9⟩ := sy_xl_ok h8; subst e
  obtain ⟨s1, l, e, h10⟩ := sy_xl_ok h9; subst e
  obtain ⟨e, h11⟩ := sy_xn_ok h10; subst e
  exact hk _ _ a4 s0 s1 M r h11
def juL_law__2147 (k : Int32 → sy_M → sy_O) (ls st : List Value) (M : sy_M) : sy_O := sy_xc 1000000 ls fun l => sy_xc 0 l fun l => sy_xc 121 l fun l => sy_xc 132 l fun l => sy_xi l fun a4 l => sy_xv l fun _ l => sy_xv l fun _ l => sy_xn l (sy_xn st (k a4 M))
theorem jwL_law__2147 {d : Nat} {k : Int32 → sy_M → sy_O} (hk : ∀ (w5 : Value) (w6 : Value) (a4 : Int32) (M : sy_M) (r : xe_R × sy_M), k a4 M = some r → sy_E (d) qL_law_ 2147 [.ref 1000000, .ref 0, .ref 121, .ref 132, .int a4, w5, w6] [] M r) : ∀ ls st M r, juL_law__2147 k ls st M = some r → sy_E d qL_law_ 2147 ls st M r := by
  intro ls st M r h
  obtain ⟨l, e, h1⟩ := sy_xc_ok h; subst e
  obtain ⟨l, e, h2⟩ := sy_xc_ok h1; subst e
  obtain ⟨l, e, h3⟩ := sy_xc_ok h2; subst e
  obtain ⟨l, e, h4⟩ := sy_xc_ok h3; subst e
  obtain ⟨a4, l, e, h5⟩ := sy_xi_ok h4; subst e
  obtain ⟨w5, l, e, h6⟩ := sy_xv_ok h5; subst e
  obtain ⟨w6, l, e, h7⟩ := sy_xv_ok h6; subst e
  obtain ⟨e, h8⟩ := sy_xn_ok h7; subst e
  obtain ⟨e, h9⟩ := sy_xn_ok h8; subst e
  exact hk _ _ a4 M r h9
def juL_law__2275 (k : Int32 → sy_M → sy_O) (ls st : List Value) (M : sy_M) : sy_O := sy_xc 1000000 ls fun l => sy_xc 0 l fun l => sy_xc 121 l fun l => sy_xc 132 l fun l => sy_xi l fun a4 l => sy_xv l fun _ l => sy_xv l fun _ l => sy_xn l (sy_xn st (k a4 M))
theorem jwL_law__2275 {d : Nat} {k : Int32 → sy_M → sy_O} (hk : ∀ (w5 : Value) (w6 : Value) (a4 : Int32) (M : sy_M) (r : xe_R × sy_M), k a4 M = some r → sy_E (d) qL_law_ 2275 [.ref 1000000, .ref 0, .ref 121, .ref 132, .int a4, w5, w6] [] M r) : ∀ ls st M r, juL_law__2275 k ls st M = some r → sy_E d qL_law_ 2275 ls st M r := by
  intro ls st M r h
  obtain ⟨l, e, h1⟩ := sy_xc_ok h; subst e
  obtain ⟨l, e, h2⟩ := sy_xc_ok h1; subst e
  obtain ⟨l, e, h3⟩ := sy_xc_ok h2; subst e
  obtain ⟨l, e, h4⟩ := sy_xc_ok h3; subst e
  obtain ⟨a4, l, e, h5⟩ := sy_xi_ok h4; subst e
  obtain ⟨w5, l, e, h6⟩ := sy_xv_ok h5; subst e
  obtain ⟨w6, l, e, h7⟩ := sy_xv_ok h6; subst e
  obtain ⟨e, h8⟩ := sy_xn_ok h7; subst e
  obtain ⟨e, h9⟩ := sy_xn_ok h8; subst e
  exact hk _ _ a4 M r h9
def juL_law__2222 (k : Int32 → sy_M → sy_O) (ls st : List Value) (M : sy_M) : sy_O := sy_xc 1000000 ls fun l => sy_xc 0 l fun l => sy_xc 121 l fun l => sy_xc 132 l fun l => sy_xi l fun a4 l => sy_xv l fun _ l => sy_xv l fun _ l => sy_xn l (sy_xn st (k a4 M))
theorem jwL_law__2222 {d : Nat} {k : Int32 → sy_M → sy_O} (hk : ∀ (w5 : Value) (w6 : Value) (a4 : Int32) (M : sy_M) (r : xe_R × sy_M), k a4 M = some r → sy_E (d) qL_law_ 2222 [.ref 1000000, .ref 0, .ref 121, .ref 132, .int a4, w5, w6] [] M r) : ∀ ls st M r, juL_law__2222 k ls st M = some r → sy_E d qL_law_ 2222 ls st M r := by
  intro ls st M r h
  obtain ⟨l, e, h1⟩ := sy_xc_ok h; subst e
  obtain ⟨l, e, h2⟩ := sy_xc_ok h1; subst e
  obtain ⟨l, e, h3⟩ := sy_xc_ok h2; subst e
  obtain ⟨l, e, h4⟩ := sy_xc_ok h3; subst e
  obtain ⟨a4, l, e, h5⟩ := sy_xi_ok h4; subst e
  obtain ⟨w5, l, e, h6⟩ := sy_xv_ok h5; subst e
  obtain ⟨w6, l, e, h7⟩ := sy_xv_ok h6; subst e
  obtain ⟨e, h8⟩ := sy_xn_ok h7; subst e
  obtain ⟨e, h9⟩ := sy_xn_ok h8; subst e
  exact hk _ _ a4 M r h9
def juL_law__2278 (k : Int32 → sy_M → sy_O) (ls st : List Value) (M : sy_M) : sy_O := sy_xc 1000000 ls fun l => sy_xc 0 l fun l => sy_xc 121 l fun l => sy_xc 132 l fun l => sy_xi l fun a4 l => sy_xv l fun _ l => sy_xv l fun _ l => sy_xn l (sy_xn st (k a4 M))
theorem jwL_law__2278 {d : Nat} {k : Int32 → sy_M → sy_O} (hk : ∀ (w5 : Value) (w6 : Value) (a4 : Int32) (M : sy_M) (r : xe_R × sy_M), k a4 M = some r → sy_E (d) qL_law_ 2278 [.ref 1000000, .ref 0, .ref 121, .ref 132, .int a4, w5, w6] [] M r) : ∀ ls st M r, juL_law__2278 k ls st M = some r → sy_E d qL_law_ 2278 ls st M r := by
  intro ls st M r h
  obtain ⟨l, e, h1⟩ := sy_xc_ok h; subst e
  obtain ⟨l, e, h2⟩ := sy_xc_ok h1; subst e
  obtain ⟨l, e, h3⟩ := sy_xc_ok h2; subst e
  obtain ⟨l, e, h4⟩ := sy_xc_ok h3; subst e
  obtain ⟨a4, l, e, h5⟩ := sy_xi_ok h4; subst e
  obtain ⟨w5, l, e, h6⟩ := sy_xv_ok h5; subst e
  obtain ⟨w6, l, e, h7⟩ := sy_xv_ok h6; subst e
  obtain ⟨e, h8⟩ := sy_xn_ok h7; subst e
  obtain ⟨e, h9⟩ := sy_xn_ok h8; subst e
  exact hk _ _ a4 M r h9
def juL_law__2291 (k : Int32 → sy_M → sy_O) (ls st : List Value) (M : sy_M) : sy_O := sy_xc 1000000 ls fun l => sy_xc 0 l fun l => sy_xc 121 l fun l => sy_xc 132 l fun l => sy_xi l fun a4 l => sy_xv l fun _ l => sy_xv l fun _ l => sy_xn l (sy_xn st (k a4 M))
theorem jwL_law__2291 {d : Nat} {k : Int32 → sy_M → sy_O} (hk : ∀ (w5 : Value) (w6 : Value) (a4 : Int32) (M : sy_M) (r : xe_R × sy_M), k a4 M = some r → sy_E (d) qL_law_ 2291 [.ref 1000000, .ref 0, .ref 121, .ref 132, .int a4, w5, w6] [] M r) : ∀ ls st M r, juL_law__2291 k ls st M = some r → sy_E d qL_law_ 2291 ls st M r := by
  intro ls st M r h
  obtain ⟨l, e, h1⟩ := sy_xc_ok h; subst e
  obtain ⟨l, e, h2⟩ := sy_xc_ok h1; subst e
  obtain ⟨l, e, h3⟩ := sy_xc_ok h2; subst e
  obtain ⟨l, e, h4⟩ := sy_xc_ok h3; subst e
  obtain ⟨a4, l, e, h5⟩ := sy_xi_ok h4; subst e
  obtain ⟨w5, l, e, h6⟩ := sy_xv_ok h5; subst e
  obtain ⟨w6, l, e, h7⟩ := sy_xv_ok h6; subst e
  obtain ⟨e, h8⟩ := sy_xn_ok h7; subst e
  obtain ⟨e, h9⟩ := sy_xn_ok h8; subst e
  exact hk _ _ a4 M r h9
def juL_law__2369 (k : Int32 → sy_M → sy_O) (ls st : List Value) (M : sy_M) : sy_O := sy_xc 1000000 ls fun l => sy_xc 0 l fun l => sy_xc 121 l fun l => sy_xc 132 l fun l => sy_xi l fun a4 l => sy_xv l fun _ l => sy_xv l fun _ l => sy_xn l (sy_xn st (k a4 M))
theorem jwL_law__2369 {d : Nat} {k : Int32 → sy_M → sy_O} (hk : ∀ (w5 : Value) (w6 : Value) (a4 : Int32) (M : sy_M) (r : xe_R × sy_M), k a4 M = some r → sy_E (d) qL_law_ 2369 [.ref 1000000, .ref 0, .ref 121, .ref 132, .int a4, w5, w6] [] M r) : ∀ ls st M r, juL_law__2369 k ls st M = some r → sy_E d qL_law_ 2369 ls st M r := by
  intro ls st M r h
  obtain ⟨l, e, h1⟩ := sy_xc_ok h; subst e
  obtain ⟨l, e, h2⟩ := sy_xc_ok h1; subst e
  obtain ⟨l, e, h3⟩ := sy_xc_ok h2; subst e
  obtain ⟨l, e, h4⟩ := sy_xc_ok h3; subst e
  obtain ⟨a4, l, e, h5⟩ := sy_xi_ok h4; subst e
  obtain ⟨w5, l, e, h6⟩ := sy_xv_ok h5; subst e
  obtain ⟨w6, l, e, h7⟩ := sy_xv_ok h6; subst e
  obtain ⟨e, h8⟩ := sy_xn_ok h7; subst e
  obtain ⟨e, h9⟩ := sy_xn_ok h8; subst e
  exact hk _ _ a4 M r h9
def juL_law__2316 (k : Int32 → sy_M → sy_O) (ls st : List Value) (M : sy_M) : sy_O := sy_xc 1000000 ls fun l => sy_xc 0 l fun l => sy_xc 121 l fun l => sy_xc 132 l fun l => sy_xi l fun a4 l => sy_xv l fun _ l => sy_xv l fun _ l => sy_xn l (sy_xn st (k a4 M))
theorem jwL_law__2316 {d : Nat} {k : Int32 → sy_M → sy_O} (hk : ∀ (w5 : Value) (w6 : Value) (a4 : Int32) (M : sy_M) (r : xe_R × sy_M), k a4 M = some r → sy_E (d) qL_law_ 2316 [.ref 1000000, .ref 0, .ref 121, .ref 132, .int a4, w5, w6] [] M r) : ∀ ls st M r, juL_law__2316 k ls st M = some r → sy_E d qL_law_ 2316 ls st M r := by
  intro ls st M r h
  obtain ⟨l, e, h1⟩ := sy_xc_ok h; subst e
  obtain ⟨l, e, h2⟩ := sy_xc_ok h1; subst e
  obtain ⟨l, e, h3⟩ := sy_xc_ok h2; subst e
  obtain ⟨l, e, h4⟩ := sy_xc_ok h3; subst e
  obtain ⟨a4, l, e, h5⟩ := sy_xi_ok h4; subst e
  obtain ⟨w5, l, e, h6⟩ := sy_xv_ok h5; subst e
  obtain ⟨w6, l, e, h7⟩ := sy_xv_ok h6; subst e
  obtain ⟨e, h8⟩ := sy_xn_ok h7; subst e
  obtain ⟨e, h9⟩ := sy_xn_ok h8; subst e
  exact hk _ _ a4 M r h9
def juL_law__2372 (k : Int32 → sy_M → sy_O) (ls st : List Value) (M : sy_M) : sy_O := sy_xc 1000000 ls fun l => sy_xc 0 l fun l => sy_xc 121 l fun l => sy_xc 132 l fun l => sy_xi l fun a4 l => sy_xv l fun _ l => sy_xv l fun _ l => sy_xn l (sy_xn st (k a4 M))
theorem jwL_law__2372 {d : Nat} {k : Int32 → sy_M → sy_O} (hk : ∀ (w5 : Value) (w6 : Value) (a4 : Int32) (M : sy_M) (r : xe_R × sy_M), k a4 M = some r → sy_E (d) qL_law_ 2372 [.ref 1000000, .ref 0, .ref 121, .ref 132, .int a4, w5, w6] [] M r) : ∀ ls st M r, juL_law__2372 k ls st M = some r → sy_E d qL_law_ 2372 ls st M r := by
  intro ls st M r h
  obtain ⟨l, e, h1⟩ := sy_xc_ok h; subst e
  obtain ⟨l, e, h2⟩ := sy_xc_ok h1; subst e
  obtain ⟨l, e, h3⟩ := sy_xc_ok h2; subst e
  obtain ⟨l, e, h4⟩ := sy_xc_ok h3; subst e
  obtain ⟨a4, l, e, h5⟩ := sy_xi_ok h4; subst e
  obtain ⟨w5, l, e, h6⟩ := sy_xv_ok h5; subst e
  obtain ⟨w6, l, e, h7⟩ := sy_xv_ok h6; subst e
  obtain ⟨e, h8⟩ := sy_xn_ok h7; subst e
  obtain ⟨e, h9⟩ := sy_xn_ok h8; subst e
  exact hk _ _ a4 M r h9
def juL_law__2385 (k : Int32 → sy_M → sy_O) (ls st : List Value) (M : sy_M) : sy_O := sy_xc 1000000 ls fun l => sy_xc 0 l fun l => sy_xc 121 l fun l => sy_xc 132 l fun l => sy_xi l fun a4 l => sy_xv l fun _ l => sy_xv l fun _ l => sy_xn l (sy_xn st (k a4 M))
theorem jwL_law__2385 {d : Nat} {k : Int32 → sy_M → sy_O} (hk : ∀ (w5 : Value) (w6 : Value) (a4 : Int32) (M : sy_M) (r : xe_R × sy_M), k a4 M = some r → sy_E (d) qL_law_ 2385 [.ref 1000000, .ref 0, .ref 121, .ref 132, .int a4, w5, w6] [] M r) : ∀ ls st M r, juL_law__2385 k ls st M = some r → sy_E d qL_law_ 2385 ls st M r := by
  intro ls st M r h
  obtain ⟨l, e, h1⟩ := sy_xc_ok h; subst e
  obtain ⟨l, e, h2⟩ := sy_xc_ok h1; subst e
  obtain ⟨l, e, h3⟩ := sy_xc_ok h2; subst e
  obtain ⟨l, e, h4⟩ := sy_xc_ok h3; subst e
  obtain ⟨a4, l, e, h5⟩ := sy_xi_ok h4; subst e
  obtain ⟨w5, l, e, h6⟩ := sy_xv_ok h5; subst e
  obtain ⟨w6, l, e, h7⟩ := sy_xv_ok h6; subst e
  obtain ⟨e, h8⟩ := sy_xn_ok h7; subst e
  obtain ⟨e, h9⟩ := sy_xn_ok h8; subst e
  exact hk _ _ a4 M r h9
def juL_law__2463 (k : Int32 → sy_M → sy_O) (ls st : List Value) (M : sy_M) : sy_O := sy_xc 1000000 ls fun l => sy_xc 0 l fun l => sy_xc 121 l fun l => sy_xc 132 l fun l => sy_xi l fun a4 l => sy_xv l fun _ l => sy_xv l fun _ l => sy_xn l (sy_xn st (k a4 M))
theorem jwL_law__2463 {d : Nat} {k : Int32 → sy_M → sy_O} (hk : ∀ (w5 : Value) (w6 : Value) (a4 : Int32) (M : sy_M) (r : xe_R × sy_M), k a4 M = some r → sy_E (d) qL_law_ 2463 [.ref 1000000, .ref 0, .ref 121, .ref 132, .int a4, w5, w6] [] M r) : ∀ ls st M r, juL_law__2463 k ls st M = some r → sy_E d qL_law_ 2463 ls st M r := by
  intro ls st M r h
  obtain ⟨l, e, h1⟩ := sy_xc_ok h; subst e
  obtain ⟨l, e, h2⟩ := sy_xc_ok h1; subst e
  obtain ⟨l, e, h3⟩ := sy_xc_ok h2; subst e
  obtain ⟨l, e, h4⟩ := sy_xc_ok h3; subst e
  obtain ⟨a4, l, e, h5⟩ := sy_xi_ok h4; subst e
  obtain ⟨w5, l, e, h6⟩ := sy_xv_ok h5; subst e
  obtain ⟨w6, l, e, h7⟩ := sy_xv_ok h6; subst e
  obtain ⟨e, h8⟩ := sy_xn_ok h7; subst e
  obtain ⟨e, h9⟩ := sy_xn_ok h8; subst e
  exact hk _ _ a4 M r h9
def juL_law__2398 (k : Int32 → sy_M → sy_O) (ls st : List Value) (M : sy_M) : sy_O := sy_xc 1000000 ls fun l => sy_xc 0 l fun l => sy_xc 121 l fun l => sy_xc 132 l fun l => sy_xi l fun a4 l => sy_xv l fun _ l => sy_xv l fun _ l => sy_xn l (sy_xn st (k a4 M))
theorem jwL_law__2398 {d : Nat} {k : Int32 → sy_M → sy_O} (hk : ∀ (w5 : Value) (w6 : Value) (a4 : Int32) (M : sy_M) (r : xe_R × sy_M), k a4 M = some r → sy_E (d) qL_law_ 2398 [.ref 1000000, .ref 0, .ref 121, .ref 132, .int a4, w5, w6] [] M r) : ∀ ls st M r, juL_law__2398 k ls st M = some r → sy_E d qL_law_ 2398 ls st M r := by
  intro ls st M r h
  obtain ⟨l, e, h1⟩ := sy_xc_ok h; subst e
  obtain ⟨l, e, h2⟩ := sy_xc_ok h1; subst e
  obtain ⟨l, e, h3⟩ := sy_xc_ok h2; subst e
  obtain ⟨l, e, h4⟩ := sy_xc_ok h3; subst e
  obtain ⟨a4, l, e, h5⟩ := sy_xi_ok h4; subst e
  obtain ⟨w5, l, e, h6⟩ := sy_xv_ok h5; subst e
  obtain ⟨w6, l, e, h7⟩ := sy_xv_ok h6; subst e
  obtain ⟨e, h8⟩ := sy_xn_ok h7; subst e
  obtain ⟨e, h9⟩ := sy_xn_ok h8; subst e
  exact hk _ _ a4 M r h9
def juL_law__2466 (k : Int32 → sy_M → sy_O) (ls st : List Value) (M : sy_M) : sy_O := sy_xc 1000000 ls fun l => sy_xc 0 l fun l => sy_xc 121 l fun l => sy_xc 132 l fun l => sy_xi l fun a4 l => sy_xv l fun _ l => sy_xv l fun _ l => sy_xn l (sy_xn st (k a4 M))
theorem jwL_law__2466 {d : Nat} {k : Int32 → sy_M → sy_O} (hk : ∀ (w5 : Value) (w6 : Value) (a4 : Int32) (M : sy_M) (r : xe_R × sy_M), k a4 M = some r → sy_E (d) qL_law_ 2466 [.ref 1000000, .ref 0, .ref 121, .ref 132, .int a4, w5, w6] [] M r) : ∀ ls st M r, juL_law__2466 k ls st M = some r → sy_E d qL_law_ 2466 ls st M r := by
  intro ls st M r h
  obtain ⟨l, e, h1⟩ := sy_xc_ok h; subst e
  obtain ⟨l, e, h2⟩ := sy_xc_ok h1; subst e
  obtain ⟨l, e, h3⟩ := sy_xc_ok h2; subst e
  obtain ⟨l, e, h4⟩ := sy_xc_ok h3; subst e
  obtain ⟨a4, l, e, h5⟩ := sy_xi_ok h4; subst e
  obtain ⟨w5, l, e, h6⟩ := sy_xv_ok h5; subst e
  obtain ⟨w6, l, e, h7⟩ := sy_xv_ok h6; subst e
  obtain ⟨e, h8⟩ := sy_xn_ok h7; subst e
  obtain ⟨e, h9⟩ := sy_xn_ok h8; subst e
  exact hk _ _ a4 M r h9
def juL_law__2539 (k : Int32 → sy_M → sy_O) (ls st : List Value) (M : sy_M) : sy_O := sy_xc 1000000 ls fun l => sy_xc 0 l fun l => sy_xc 121 l fun l => sy_xc 132 l fun l => sy_xi l fun a4 l => sy_xv l fun _ l => sy_xv l fun _ l => sy_xn l (sy_xn st (k a4 M))
theorem jwL_law__2539 {d : Nat} {k : Int32 → sy_M → sy_O} (hk : ∀ (w5 : Value) (w6 : Value) (a4 : Int32) (M : sy_M) (r : xe_R × sy_M), k a4 M = some r → sy_E (d) qL_law_ 2539 [.ref 1000000, .ref 0, .ref 121, .ref 132, .int a4, w5, w6] [] M r) : ∀ ls st M r, juL_law__2539 k ls st M = some r → sy_E d qL_law_ 2539 ls st M r := by
  intro ls st M r h
  obtain ⟨l, e, h1⟩ := sy_xc_ok h; subst e
  obtain ⟨l, e, h2⟩ := sy_xc_ok h1; subst e
  obtain ⟨l, e, h3⟩ := sy_xc_ok h2; subst e
  obtain ⟨l, e, h4⟩ := sy_xc_ok h3; subst e
  obtain ⟨a4, l, e, h5⟩ := sy_xi_ok h4; subst e
  obtain ⟨w5, l, e, h6⟩ := sy_xv_ok h5; subst e
  obtain ⟨w6, l, e, h7⟩ := sy_xv_ok h6; subst e
  obtain ⟨e, h8⟩ := sy_xn_ok h7; subst e
  obtain ⟨e, h9⟩ := sy_xn_ok h8; subst e
  exact hk _ _ a4 M r h9
def juL_law__2533 (k : Int32 → Int64 → Int64 → sy_M → sy_O) (ls st : List Value) (M : sy_M) : sy_O := sy_xc 1000000 ls fun l => sy_xc 0 l fun l => sy_xc 121 l fun l => sy_xc 132 l fun l => sy_xi l fun a4 l => sy_xv l fun _ l => sy_xv l fun _ l => sy_xn l (sy_xl st fun s0 l => sy_xl l fun s1 l => sy_xn l (k a4 s0 s1 M))
theorem jwL_law__2533 {d : Nat} {k : Int32 → Int64 → Int64 → sy_M → sy_O} (hk : ∀ (w5 : Value) (w6 : Value) (a4 : Int32) (s0 : Int64) (s1 : Int64) (M : sy_M) (r : xe_R × sy_M), k a4 s0 s1 M = some r → sy_E (d) qL_law_ 2533 [.ref 1000000, .ref 0, .ref 121, .ref 132, .int a4, w5, w6] [.long s0, .long s1] M r) : ∀ ls st M r, juL_law__2533 k ls st M = some r → sy_E d qL_law_ 2533 ls st M r := by
  intro ls st M r h
  obtain ⟨l, e, h1⟩ := sy_xc_ok h; subst e
  obtain ⟨l, e, h2⟩ := sy_xc_ok h1; subst e
  obtain ⟨l, e, h3⟩ := sy_xc_ok h2; subst e
  obtain ⟨l, e, h4⟩ := sy_xc_ok h3; subst e
  obtain ⟨a4, l, e, h5⟩ := sy_xi_ok h4; subst e
  obtain ⟨w5, l, e, h6⟩ := sy_xv_ok h5; subst e
  obtain ⟨w6, l, e, h7⟩ := sy_xv_ok h6; subst e
  obtain ⟨e, h8⟩ := sy_xn_ok h7; subst e
  obtain ⟨s0, l, e, h9⟩ := sy_xl_ok h8; subst e
  obtain ⟨s1, l, e, h10⟩ := sy_xl_ok h9; subst e
  obtain ⟨e, h11⟩ := sy_xn_ok h10; subst e
  exact hk _ _ a4 s0 s1 M r h11
def juL_law__2479 (k : Int32 → sy_M → sy_O) (ls st : List Value) (M : sy_M) : sy_O := sy_xc 1000000 ls fun l => sy_xc 0 l fun l => sy_xc 121 l fun l => sy_xc 132 l fun l => sy_xi l fun a4 l => sy_xv l fun _ l => sy_xv l fun _ l => sy_xn l (sy_xn st (k a4 M))
theorem jwL_law__2479 {d : Nat} {k : Int32 → sy_M → sy_O} (hk : ∀ (w5 : Value) (w6 : Value) (a4 : Int32) (M : sy_M) (r : xe_R × sy_M), k a4 M = some r → sy_E (d) qL_law_ 2479 [.ref 1000000, .ref 0, .ref 121, .ref 132, .int a4, w5, w6] [] M r) : ∀ ls st M r, juL_law__2479 k ls st M = some r → sy_E d qL_law_ 2479 ls st M r := by
  intro ls st M r h
  obtain ⟨l, e, h1⟩ := sy_xc_ok h; subst e
  obtain ⟨l, e, h2⟩ := sy_xc_ok h1; subst e
  obtain ⟨l, e, h3⟩ := sy_xc_ok h2; subst e
  obtain ⟨l, e, h4⟩ := sy_xc_ok h3; subst e
  obtain ⟨a4, l, e, h5⟩ := sy_xi_ok h4; subst e
  obtain ⟨w5, l, e, h6⟩ := sy_xv_ok h5; subst e
  obtain ⟨w6, l, e, h7⟩ := sy_xv_ok h6; subst e
  obtain ⟨e, h8⟩ := sy_xn_ok h7; subst e
  obtain ⟨e, h9⟩ := sy_xn_ok h8; subst e
  exact hk _ _ a4 M r h9
def juL_law__2542 (k : Int32 → sy_M → sy_O) (ls st : List Value) (M : sy_M) : sy_O := sy_xc 1000000 ls fun l => sy_xc 0 l fun l => sy_xc 121 l fun l => sy_xc 132 l fun l => sy_xi l fun a4 l => sy_xv l fun _ l => sy_xv l fun _ l => sy_xn l (sy_xn st (k a4 M))
theorem jwL_law__2542 {d : Nat} {k : Int32 → sy_M → sy_O} (hk : ∀ (w5 : Value) (w6 : Value) (a4 : Int32) (M : sy_M) (r : xe_R × sy_M), k a4 M = some r → sy_E (d) qL_law_ 2542 [.ref 1000000, .ref 0, .ref 121, .ref 132, .int a4, w5, w6] [] M r) : ∀ ls st M r, juL_law__2542 k ls st M = some r → sy_E d qL_law_ 2542 ls st M r := by
  intro ls st M r h
  obtain ⟨l, e, h1⟩ := sy_xc_ok h; subst e
  obtain ⟨l, e, h2⟩ := sy_xc_ok h1; subst e
  obtain ⟨l, e, h3⟩ := sy_xc_ok h2; subst e
  obtain ⟨l, e, h4⟩ := sy_xc_ok h3; subst e
  obtain ⟨a4, l, e, h5⟩ := sy_xi_ok h4; subst e
  obtain ⟨w5, l, e, h6⟩ := sy_xv_ok h5; subst e
  obtain ⟨w6, l, e, h7⟩ := sy_xv_ok h6; subst e
  obtain ⟨e, h8⟩ := sy_xn_ok h7; subst e
  obtain ⟨e, h9⟩ := sy_xn_ok h8; subst e
  exact hk _ _ a4 M r h9
def juL_law__2620 (k : Int32 → sy_M → sy_O) (ls st : List Value) (M : sy_M) : sy_O := sy_xc 1000000 ls fun l => sy_xc 0 l fun l => sy_xc 121 l fun l => sy_xc 132 l fun l => sy_xi l fun a4 l => sy_xv l fun _ l => sy_xv l fun _ l => sy_xn l (sy_xn st (k a4 M))
theorem jwL_law__2620 {d : Nat} {k : Int32 → sy_M → sy_O} (hk : ∀ (w5 : Value) (w6 : Value) (a4 : Int32) (M : sy_M) (r : xe_R × sy_M), k a4 M = some r → sy_E (d) qL_law_ 2620 [.ref 1000000, .ref 0, .ref 121, .ref 132, .int a4, w5, w6] [] M r) : ∀ ls st M r, juL_law__2620 k ls st M = some r → sy_E d qL_law_ 2620 ls st M r := by
  intro ls st M r h
  obtain ⟨l, e, h1⟩ := sy_xc_ok h; subst e
  obtain ⟨l, e, h2⟩ := sy_xc_ok h1; subst e
  obtain ⟨l, e, h3⟩ := sy_xc_ok h2; subst e
  obtain ⟨l, e, h4⟩ := sy_xc_ok h3; subst e
  obtain ⟨a4, l, e, h5⟩ := sy_xi_ok h4; subst e
  obtain ⟨w5, l, e, h6⟩ := sy_xv_ok h5; subst e
  obtain ⟨w6, l, e, h7⟩ := sy_xv_ok h6; subst e
  obtain ⟨e, h8⟩ := sy_xn_ok h7; subst e
  obtain ⟨e, h9⟩ := sy_xn_ok h8; subst e
  exact hk _ _ a4 M r h9
def juL_law__2555 (k : Int32 → sy_M → sy_O) (ls st : List Value) (M : sy_M) : sy_O := sy_xc 1000000 ls fun l => sy_xc 0 l fun l => sy_xc 121 l fun l => sy_xc 132 l fun l => sy_xi l fun a4 l => sy_xv l fun _ l => sy_xv l fun _ l => sy_xn l (sy_xn st (k a4 M))
theorem jwL_law__2555 {d : Nat} {k : Int32 → sy_M → sy_O} (hk : ∀ (w5 : Value) (w6 : Value) (a4 : Int32) (M : sy_M) (r : xe_R × sy_M), k a4 M = some r → sy_E (d) qL_law_ 2555 [.ref 1000000, .ref 0, .ref 121, .ref 132, .int a4, w5, w6] [] M r) : ∀ ls st M r, juL_law__2555 k ls st M = some r → sy_E d qL_law_ 2555 ls st M r := by
  intro ls st M r h
  obtain ⟨l, e, h1⟩ := sy_xc_ok h; subst e
  obtain ⟨l, e, h2⟩ := sy_xc_ok h1; subst e
  obtain ⟨l, e, h3⟩ := sy_xc_ok h2; subst e
  obtain ⟨l, e, h4⟩ := sy_xc_ok h3; subst e
  obtain ⟨a4, l, e, h5⟩ := sy_xi_ok h4; subst e
  obtain ⟨w5, l, e, h6⟩ := sy_xv_ok h5; subst e
  obtain ⟨w6, l, e, h7⟩ := sy_xv_ok h6; subst e
  obtain ⟨e, h8⟩ := sy_xn_ok h7; subst e
  obtain ⟨e, h9⟩ := sy_xn_ok h8; subst e
  exact hk _ _ a4 M r h9
def juL_law__2688 (k : Int32 → sy_M → sy_O) (ls st : List Value) (M : sy_M) : sy_O := sy_xc 1000000 ls fun l => sy_xc 0 l fun l => sy_xc 121 l fun l => sy_xc 132 l fun l => sy_xi l fun a4 l => sy_xv l fun _ l => sy_xv l fun _ l => sy_xn l (sy_xn st (k a4 M))
theorem jwL_law__2688 {d : Nat} {k : Int32 → sy_M → sy_O} (hk : ∀ (w5 : Value) (w6 : Value) (a4 : Int32) (M : sy_M) (r : xe_R × sy_M), k a4 M = some r → sy_E (d) qL_law_ 2688 [.ref 1000000, .ref 0, .ref 121, .ref 132, .int a4, w5, w6] [] M r) : ∀ ls st M r, juL_law__2688 k ls st M = some r → sy_E d qL_law_ 2688 ls st M r := by
  intro ls st M r h
  obtain ⟨l, e, h1⟩ := sy_xc_ok h; subst e
  obtain ⟨l, e, h2⟩ := sy_xc_ok h1; subst e
  obtain ⟨l, e, h3⟩ := sy_xc_ok h2; subst e
  obtain ⟨l, e, h4⟩ := sy_xc_ok h3; subst e
  obtain ⟨a4, l, e, h5⟩ := sy_xi_ok h4; subst e
  obtain ⟨w5, l, e, h6⟩ := sy_xv_ok h5; subst e
  obtain ⟨w6, l, e, h7⟩ := sy_xv_ok h6; subst e
  obtain ⟨e, h8⟩ := sy_xn_ok h7; subst e
  obtain ⟨e, h9⟩ := sy_xn_ok h8; subst e
  exact hk _ _ a4 M r h9
def juL_law__2623 (k : Int32 → sy_M → sy_O) (ls st : List Value) (M : sy_M) : sy_O := sy_xc 1000000 ls fun l => sy_xc 0 l fun l => sy_xc 121 l fun l => sy_xc 132 l fun l => sy_xi l fun a4 l => sy_xv l fun _ l => sy_xv l fun _ l => sy_xn l (sy_xn st (k a4 M))
theorem jwL_law__2623 {d : Nat} {k : Int32 → sy_M → sy_O} (hk : ∀ (w5 : Value) (w6 : Value) (a4 : Int32) (M : sy_M) (r : xe_R × sy_M), k a4 M = some r → sy_E (d) qL_law_ 2623 [.ref 1000000, .ref 0, .ref 121, .ref 132, .int a4, w5, w6] [] M r) : ∀ ls st M r, juL_law__2623 k ls st M = some r → sy_E d qL_law_ 2623 ls st M r := by
  intro ls st M r h
  obtain ⟨l, e, h1⟩ := sy_xc_ok h; subst e
  obtain ⟨l, e, h2⟩ := sy_xc_ok h1; subst e
  obtain ⟨l, e, h3⟩ := sy_xc_ok h2; subst e
  obtain ⟨l, e, h4⟩ := sy_xc_ok h3; subst e
  obtain ⟨a4, l, e, h5⟩ := sy_xi_ok h4; subst e
  obtain ⟨w5, l, e, h6⟩ := sy_xv_ok h5; subst e
  obtain ⟨w6, l, e, h7⟩ := sy_xv_ok h6; subst e
  obtain ⟨e, h8⟩ := sy_xn_ok h7; subst e
  obtain ⟨e, h9⟩ := sy_xn_ok h8; subst e
  exact hk _ _ a4 M r h9
def juL_law__2691 (k : Int32 → sy_M → sy_O) (ls st : List Value) (M : sy_M) : sy_O := sy_xc 1000000 ls fun l => sy_xc 0 l fun l => sy_xc 121 l fun l => sy_xc 132 l fun l => sy_xi l fun a4 l => sy_xv l fun _ l => sy_xv l fun _ l => sy_xn l (sy_xn st (k a4 M))
theorem jwL_law__2691 {d : Nat} {k : Int32 → sy_M → sy_O} (hk : ∀ (w5 : Value) (w6 : Value) (a4 : Int32) (M : sy_M) (r : xe_R × sy_M), k a4 M = some r → sy_E (d) qL_law_ 2691 [.ref 1000000, .ref 0, .ref 121, .ref 132, .int a4, w5, w6] [] M r) : ∀ ls st M r, juL_law__2691 k ls st M = some r → sy_E d qL_law_ 2691 ls st M r := by
  intro ls st M r h
  obtain ⟨l, e, h1⟩ := sy_xc_ok h; subst e
  obtain ⟨l, e, h2⟩ := sy_xc_ok h1; subst e
  obtain ⟨l, e, h3⟩ := sy_xc_ok h2; subst e
  obtain ⟨l, e, h4⟩ := sy_xc_ok h3; subst e
  obtain ⟨a4, l, e, h5⟩ := sy_xi_ok h4; subst e
  obtain ⟨w5, l, e, h6⟩ := sy_xv_ok h5; subst e
  obtain ⟨w6, l, e, h7⟩ := sy_xv_ok h6; subst e
  obtain ⟨e, h8⟩ := sy_xn_ok h7; subst e
  obtain ⟨e, h9⟩ := sy_xn_ok h8; subst e
  exact hk _ _ a4 M r h9
def juL_law__2704 (k : Int32 → sy_M → sy_O) (ls st : List Value) (M : sy_M) : sy_O := sy_xc 1000000 ls fun l => sy_xc 0 l fun l => sy_xc 121 l fun l => sy_xc 132 l fun l => sy_xi l fun a4 l => sy_xv l fun _ l => sy_xv l fun _ l => sy_xn l (sy_xn st (k a4 M))
theorem jwL_law__2704 {d : Nat} {k : Int32 → sy_M → sy_O} (hk : ∀ (w5 : Value) (w6 : Value) (a4 : Int32) (M : sy_M) (r : xe_R × sy_M), k a4 M = some r → sy_E (d) qL_law_ 2704 [.ref 1000000, .ref 0, .ref 121, .ref 132, .int a4, w5, w6] [] M r) : ∀ ls st M r, juL_law__2704 k ls st M = some r → sy_E d qL_law_ 2704 ls st M r := by
  intro ls st M r h
  obtain ⟨l, e, h1⟩ := sy_xc_ok h; subst e
  obtain ⟨l, e, h2⟩ := sy_xc_ok h1; subst e
  obtain ⟨l, e, h3⟩ := sy_xc_ok h2; subst e
  obtain ⟨l, e, h4⟩ := sy_xc_ok h3; subst e
  obtain ⟨a4, l, e, h5⟩ := sy_xi_ok h4; subst e
  obtain ⟨w5, l, e, h6⟩ := sy_xv_ok h5; subst e
  obtain ⟨w6, l, e, h7⟩ := sy_xv_ok h6; subst e
  obtain ⟨e, h8⟩ := sy_xn_ok h7; subst e
  obtain ⟨e, h9⟩ := sy_xn_ok h8; subst e
  exact hk _ _ a4 M r h9
def juL_law__2717 (k : Int32 → sy_M → sy_O) (ls st : List Value) (M : sy_M) : sy_O := sy_xc 1000000 ls fun l => sy_xc 0 l fun l => sy_xc 121 l fun l => sy_xc 132 l fun l => sy_xi l fun a4 l => sy_xv l fun _ l => sy_xv l fun _ l => sy_xn l (sy_xn st (k a4 M))
theorem jwL_law__2717 {d : Nat} {k : Int32 → sy_M → sy_O} (hk : ∀ (w5 : Value) (w6 : Value) (a4 : Int32) (M : sy_M) (r : xe_R × sy_M), k a4 M = some r → sy_E (d) qL_law_ 2717 [.ref 1000000, .ref 0, .ref 121, .ref 132, .int a4, w5, w6] [] M r) : ∀ ls st M r, juL_law__2717 k ls st M = some r → sy_E d qL_law_ 2717 ls st M r := by
  intro ls st M r h
  obtain ⟨l, e, h1⟩ := sy_xc_ok h; subst e
  obtain ⟨l, e, h2⟩ := sy_xc_ok h1; subst e
  obtain ⟨l, e, h3⟩ := sy_xc_ok h2; subst e
  obtain ⟨l, e, h4⟩ := sy_xc_ok h3; subst e
  obtain ⟨a4, l, e, h5⟩ := sy_xi_ok h4; subst e
  obtain ⟨w5, l, e, h6⟩ := sy_xv_ok h5; subst e
  obtain ⟨w6, l, e, h7⟩ := sy_xv_ok h6; subst e
  obtain ⟨e, h8⟩ := sy_xn_ok h7; subst e
  obtain ⟨e, h9⟩ := sy_xn_ok h8; subst e
  exact hk _ _ a4 M r h9
def juL_law__2730 (k : Int32 → sy_M → sy_O) (ls st : List Value) (M : sy_M) : sy_O := sy_xc 1000000 ls fun l => sy_xc 0 l fun l => sy_xc 121 l fun l => sy_xc 132 l fun l => sy_xi l fun a4 l => sy_xv l fun _ l => sy_xv l fun _ l => sy_xn l (sy_xn st (k a4 M))
theorem jwL_law__2730 {d : Nat} {k : Int32 → sy_M → sy_O} (hk : ∀ (w5 : Value) (w6 : Value) (a4 : Int32) (M : sy_M) (r : xe_R × sy_M), k a4 M = some r → sy_E (d) qL_law_ 2730 [.ref 1000000, .ref 0, .ref 121, .ref 132, .int a4, w5, w6] [] M r) : ∀ ls st M r, juL_law__2730 k ls st M = some r → sy_E d qL_law_ 2730 ls st M r := by
  intro ls st M r h
  obtain ⟨l, e, h1⟩ := sy_xc_ok h; subst e
  obtain ⟨l, e, h2⟩ := sy_xc_ok h1; subst e
  obtain ⟨l, e, h3⟩ := sy_xc_ok h2; subst e
  obtain ⟨l, e, h4⟩ := sy_xc_ok h3; subst e
  obtain ⟨a4, l, e, h5⟩ := sy_xi_ok h4; subst e
  obtain ⟨w5, l, e, h6⟩ := sy_xv_ok h5; subst e
  obtain ⟨w6, l, e, h7⟩ := sy_xv_ok h6; subst e
  obtain ⟨e, h8⟩ := sy_xn_ok h7; subst e
  obtain ⟨e, h9⟩ := sy_xn_ok h8; subst e
  exact hk _ _ a4 M r h9
def juL_law__2824 (k : Int32 → sy_M → sy_O) (ls st : List Value) (M : sy_M) : sy_O := sy_xc 1000000 ls fun l => sy_xc 0 l fun l => sy_xc 121 l fun l => sy_xc 132 l fun l => sy_xi l fun a4 l => sy_xv l fun _ l => sy_xv l fun _ l => sy_xn l (sy_xn st (k a4 M))
theorem jwL_law__2824 {d : Nat} {k : Int32 → sy_M → sy_O} (hk : ∀ (w5 : Value) (w6 : Value) (a4 : Int32) (M : sy_M) (r : xe_R × sy_M), k a4 M = some r → sy_E (d) qL_law_ 2824 [.ref 1000000, .ref 0, .ref 121, .ref 132, .int a4, w5, w6] [] M r) : ∀ ls st M r, juL_law__2824 k ls st M = some r → sy_E d qL_law_ 2824 ls st M r := by
  intro ls st M r h
  obtain ⟨l, e, h1⟩ := sy_xc_ok h; subst e
  obtain ⟨l, e, h2⟩ := sy_xc_ok h1; subst e
  obtain ⟨l, e, h3⟩ := sy_xc_ok h2; subst e
  obtain ⟨l, e, h4⟩ := sy_xc_ok h3; subst e
  obtain ⟨a4, l, e, h5⟩ := sy_xi_ok h4; subst e
  obtain ⟨w5, l, e, h6⟩ := sy_xv_ok h5; subst e
  obtain ⟨w6, l, e, h7⟩ := sy_xv_ok h6; subst e
  obtain ⟨e, h8⟩ := sy_xn_ok h7; subst e
  obtain ⟨e, h9⟩ := sy_xn_ok h8; subst e
  exact hk _ _ a4 M r h9
def juL_law__2791 (k : Int32 → Int32 → Int32 → Int32 → sy_M → sy_O) (ls st : List Value) (M : sy_M) : sy_O := sy_xc 1000000 ls fun l => sy_xc 0 l fun l => sy_xc 121 l fun l => sy_xc 132 l fun l => sy_xi l fun a4 l => sy_xi l fun a5 l => sy_xv l fun _ l => sy_xn l (sy_xi st fun s0 l => sy_xi l fun s1 l => sy_xc 121 l fun l => sy_xn l (k a4 a5 s0 s1 M))
theorem jwL_law__2791 {d : Nat} {k : Int32 → Int32 → Int32 → Int32 → sy_M → sy_O} (hk : ∀ (w6 : Value) (a4 : Int32) (a5 : Int32) (s0 : Int32) (s1 : Int32) (M : sy_M) (r : xe_R × sy_M), k a4 a5 s0 s1 M = some r → sy_E (d) qL_law_ 2791 [.ref 1000000, .ref 0, .ref 121, .ref 132, .int a4, .int a5, w6] [.int s0, .int s1, .ref 121] M r) : ∀ ls st M r, juL_law__2791 k ls st M = some r → sy_E d qL_law_ 2791 ls st M r := by
  intro ls st M r h
  obtain ⟨l, e, h1⟩ := sy_xc_ok h; subst e
  obtain ⟨l, e, h2⟩ := sy_xc_ok h1; subst e
  obtain ⟨l, e, h3⟩ := sy_xc_ok h2; subst e
  obtain ⟨l, e, h4⟩ := sy_xc_ok h3; subst e
  obtain ⟨a4, l, e, h5⟩ := sy_xi_ok h4; subst e
  obtain ⟨a5, l, e, h6⟩ := sy_xi_ok h5; subst e
  obtain ⟨w6, l, e, h7⟩ := sy_xv_ok h6; subst e
  obtain ⟨e, h8⟩ := sy_xn_ok h7; subst e
  obtain ⟨s0, l, e, h9⟩ := sy_xi_ok h8; subst e
  obtain ⟨s1, l, e, h10⟩ := sy_xi_ok h9; subst e
  obtain ⟨l, e, h11⟩ := sy_xc_ok h10; subst e
  obtain ⟨e, h12⟩ := sy_xn_ok h11; subst e
  exact hk _ a4 a5 s0 s1 M r h12
def juL_law__2764 (k : Int32 → Int32 → Int32 → sy_M → sy_O) (ls st : List Value) (M : sy_M) : sy_O := sy_xc 1000000 ls fun l => sy_xc 0 l fun l => sy_xc 121 l fun l => sy_xc 132 l fun l => sy_xi l fun a4 l => sy_xv l fun _ l => sy_xv l fun _ l => sy_xn l (sy_xi st fun s0 l => sy_xi l fun s1 l => sy_xc 0 l fun l => sy_xn l (k a4 s0 s1 M))
theorem jwL_law__2764 {d : Nat} {k : Int32 → Int32 → Int32 → sy_M → sy_O} (hk : ∀ (w5 : Value) (w6 : Value) (a4 : Int32) (s0 : Int32) (s1 : Int32) (M : sy_M) (r : xe_R × sy_M), k a4 s0 s1 M = some r → sy_E (d) qL_law_ 2764 [.ref 1000000, .ref 0, .ref 121, .ref 132, .int a4, w5, w6] [.int s0, .int s1, .ref 0] M r) : ∀ ls st M r, juL_law__2764 k ls st M = some r → sy_E d qL_law_ 2764 ls st M r := by
  intro ls st M r h
  obtain ⟨l, e, h1⟩ := sy_xc_ok h; subst e
  obtain ⟨l, e, h2⟩ := sy_xc_ok h1; subst e
  obtain ⟨l, e, h3⟩ := sy_xc_ok h2; subst e
  obtain ⟨l, e, h4⟩ := sy_xc_ok h3; subst e
  obtain ⟨a4, l, e, h5⟩ := sy_xi_ok h4; subst e
  obtain ⟨w5, l, e, h6⟩ := sy_xv_ok h5; subst e
  obtain ⟨w6, l, e, h7⟩ := sy_xv_ok h6; subst e
  obtain ⟨e, h8⟩ := sy_xn_ok h7; subst e
  obtain ⟨s0, l, e, h9⟩ := sy_xi_ok h8; subst e
  obtain ⟨s1, l, e, h10⟩ := sy_xi_ok h9; subst e
  obtain ⟨l, e, h11⟩ := sy_xc_ok h10; subst e
  obtain ⟨e, h12⟩ := sy_xn_ok h11; subst e
  exact hk _ _ a4 s0 s1 M r h12
def juL_law__2743 (k : Int32 → sy_M → sy_O) (ls st : List Value) (M : sy_M) : sy_O := sy_xc 1000000 ls fun l => sy_xc 0 l fun l => sy_xc 121 l fun l => sy_xc 132 l fun l => sy_xi l fun a4 l => sy_xv l fun _ l => sy_xv l fun _ l => sy_xn l (sy_xn st (k a4 M))
theorem jwL_law__2743 {d : Nat} {k : Int32 → sy_M → sy_O} (hk : ∀ (w5 : Value) (w6 : Value) (a4 : Int32) (M : sy_M) (r : xe_R × sy_M), k a4 M = some r → sy_E (d) qL_law_ 2743 [.ref 1000000, .ref 0, .ref 121, .ref 132, .int a4, w5, w6] [] M r) : ∀ ls st M r, juL_law__2743 k ls st M = some r → sy_E d qL_law_ 2743 ls st M r := by
  intro ls st M r h
  obtain ⟨l, e, h1⟩ := sy_xc_ok h; subst e
  obtain ⟨l, e, h2⟩ := sy_xc_ok h1; subst e
  obtain ⟨l, e, h3⟩ := sy_xc_ok h2; subst e
  obtain ⟨l, e, h4⟩ := sy_xc_ok h3; subst e
  obtain ⟨a4, l, e, h5⟩ := sy_xi_ok h4; subst e
  obtain ⟨w5, l, e, h6⟩ := sy_xv_ok h5; subst e
  obtain ⟨w6, l, e, h7⟩ := sy_xv_ok h6; subst e
  obtain ⟨e, h8⟩ := sy_xn_ok h7; subst e
  obtain ⟨e, h9⟩ := sy_xn_ok h8; subst e
  exact hk _ _ a4 M r h9
def juL_law__2908 (k : Int32 → sy_M → sy_O) (ls st : List Value) (M : sy_M) : sy_O := sy_xc 1000000 ls fun l => sy_xc 0 l fun l => sy_xc 121 l fun l => sy_xc 132 l fun l => sy_xi l fun a4 l => sy_xv l fun _ l => sy_xv l fun _ l => sy_xn l (sy_xn st (k a4 M))
theorem jwL_law__2908 {d : Nat} {k : Int32 → sy_M → sy_O} (hk : ∀ (w5 : Value) (w6 : Value) (a4 : Int32) (M : sy_M) (r : xe_R × sy_M), k a4 M = some r → sy_E (d) qL_law_ 2908 [.ref 1000000, .ref 0, .ref 121, .ref 132, .int a4, w5, w6] [] M r) : ∀ ls st M r, juL_law__2908 k ls st M = some r → sy_E d qL_law_ 2908 ls st M r := by
  intro ls st M r h
  obtain ⟨l, e, h1⟩ := sy_xc_ok h; subst e
  obtain ⟨l, e, h2⟩ := sy_xc_ok h1; subst e
  obtain ⟨l, e, h3⟩ := sy_xc_ok h2; subst e
  obtain ⟨l, e, h4⟩ := sy_xc_ok h3; subst e
  obtain ⟨a4, l, e, h5⟩ := sy_xi_ok h4; subst e
  obtain ⟨w5, l, e, h6⟩ := sy_xv_ok h5; subst e
  obtain ⟨w6, l, e, h7⟩ := sy_xv_ok h6; subst e
  obtain ⟨e, h8⟩ := sy_xn_ok h7; subst e
  obtain ⟨e, h9⟩ := sy_xn_ok h8; subst e
  exact hk _ _ a4 M r h9
def juL_law__2875 (k : Int32 → Int32 → Int32 → Int32 → sy_M → sy_O) (ls st : List Value) (M : sy_M) : sy_O := sy_xc 1000000 ls fun l => sy_xc 0 l fun l => sy_xc 121 l fun l => sy_xc 132 l fun l => sy_xi l fun a4 l => sy_xi l fun a5 l => sy_xv l fun _ l => sy_xn l (sy_xi st fun s0 l => sy_xi l fun s1 l => sy_xc 121 l fun l => sy_xn l (k a4 a5 s0 s1 M))
theorem jwL_law__2875 {d : Nat} {k : Int32 → Int32 → Int32 → Int32 → sy_M → sy_O} (hk : ∀ (w6 : Value) (a4 : Int32) (a5 : Int32) (s0 : Int32) (s1 : Int32) (M : sy_M) (r : xe_R × sy_M), k a4 a5 s0 s1 M = some r → sy_E (d) qL_law_ 2875 [.ref 1000000, .ref 0, .ref 121, .ref 132, .int a4, .int a5, w6] [.int s0, .int s1, .ref 121] M r) : ∀ ls st M r, juL_law__2875 k ls st M = some r → sy_E d qL_law_ 2875 ls st M r := by
  intro ls st M r h
  obtain ⟨l, e, h1⟩ := sy_xc_ok h; subst e
  obtain ⟨l, e, h2⟩ := sy_xc_ok h1; subst e
  obtain ⟨l, e, h3⟩ := sy_xc_ok h2; subst e
  obtain ⟨l, e, h4⟩ := sy_xc_ok h3; subst e
  obtain ⟨a4, l, e, h5⟩ := sy_xi_ok h4; subst e
  obtain ⟨a5, l, e, h6⟩ := sy_xi_ok h5; subst e
  obtain ⟨w6, l, e, h7⟩ := sy_xv_ok h6; subst e
  obtain ⟨e, h8⟩ := sy_xn_ok h7; subst e
  obtain ⟨s0, l, e, h9⟩ := sy_xi_ok h8; subst e
  obtain ⟨s1, l, e, h10⟩ := sy_xi_ok h9; subst e
  obtain ⟨l, e, h11⟩ := sy_xc_ok h10; subst e
  obtain ⟨e, h12⟩ := sy_xn_ok h11; subst e
  exact hk _ a4 a5 s0 s1 M r h12
def juL_law__2848 (k : Int32 → Int32 → Int32 → sy_M → sy_O) (ls st : List Value) (M : sy_M) : sy_O := sy_xc 1000000 ls fun l => sy_xc 0 l fun l => sy_xc 121 l fun l => sy_xc 132 l fun l => sy_xi l fun a4 l => sy_xv l fun _ l => sy_xv l fun _ l => sy_xn l (sy_xi st fun s0 l => sy_xi l fun s1 l => sy_xc 0 l fun l => sy_xn l (k a4 s0 s1 M))
theorem jwL_law__2848 {d : Nat} {k : Int32 → Int32 → Int32 → sy_M → sy_O} (hk : ∀ (w5 : Value) (w6 : Value) (a4 : Int32) (s0 : Int32) (s1 : Int32) (M : sy_M) (r : xe_R × sy_M), k a4 s0 s1 M = some r → sy_E (d) qL_law_ 2848 [.ref 1000000, .ref 0, .ref 121, .ref 132, .int a4, w5, w6] [.int s0, .int s1, .ref 0] M r) : ∀ ls st M r, juL_law__2848 k ls st M = some r → sy_E d qL_law_ 2848 ls st M r := by
  intro ls st M r h
  obtain ⟨l, e, h1⟩ := sy_xc_ok h; subst e
  obtain ⟨l, e, h2⟩ := sy_xc_ok h1; subst e
  obtain ⟨l, e, h3⟩ := sy_xc_ok h2; subst e
  obtain ⟨l, e, h4⟩ := sy_xc_ok h3; subst e
  obtain ⟨a4, l, e, h5⟩ := sy_xi_ok h4; subst e
  obtain ⟨w5, l, e, h6⟩ := sy_xv_ok h5; subst e
  obtain ⟨w6, l, e, h7⟩ := sy_xv_ok h6; subst e
  obtain ⟨e, h8⟩ := sy_xn_ok h7; subst e
  obtain ⟨s0, l, e, h9⟩ := sy_xi_ok h8; subst e
  obtain ⟨s1, l, e, h10⟩ := sy_xi_ok h9; subst e
  obtain ⟨l, e, h11⟩ := sy_xc_ok h10; subst e
  obtain ⟨e, h12⟩ := sy_xn_ok h11; subst e
  exact hk _ _ a4 s0 s1 M r h12
def juL_law__2827 (k : Int32 → sy_M → sy_O) (ls st : List Value) (M : sy_M) : sy_O := sy_xc 1000000 ls fun l => sy_xc 0 l fun l => sy_xc 121 l fun l => sy_xc 132 l fun l => sy_xi l fun a4 l => sy_xv l fun _ l => sy_xv l fun _ l => sy_xn l (sy_xn st (k a4 M))
theorem jwL_law__2827 {d : Nat} {k : Int32 → sy_M → sy_O} (hk : ∀ (w5 : Value) (w6 : Value) (a4 : Int32) (M : sy_M) (r : xe_R × sy_M), k a4 M = some r → sy_E (d) qL_law_ 2827 [.ref 1000000, .ref 0, .ref 121, .ref 132, .int a4, w5, w6] [] M r) : ∀ ls st M r, juL_law__2827 k ls st M = some r → sy_E d qL_law_ 2827 ls st M r := by
  intro ls st M r h
  obtain ⟨l, e, h1⟩ := sy_xc_ok h; subst e
  obtain ⟨l, e, h2⟩ := sy_xc_ok h1; subst e
  obtain ⟨l, e, h3⟩ := sy_xc_ok h2; subst e
  obtain ⟨l, e, h4⟩ := sy_xc_ok h3; subst e
  obtain ⟨a4, l, e, h5⟩ := sy_xi_ok h4; subst e
  obtain ⟨w5, l, e, h6⟩ := sy_xv_ok h5; subst e
  obtain ⟨w6, l, e, h7⟩ := sy_xv_ok h6; subst e
  obtain ⟨e, h8⟩ := sy_xn_ok h7; subst e
  obtain ⟨e, h9⟩ := sy_xn_ok h8; subst e
  exact hk _ _ a4 M r h9
def juL_law__2992 (k : Int32 → sy_M → sy_O) (ls st : List Value) (M : sy_M) : sy_O := sy_xc 1000000 ls fun l => sy_xc 0 l fun l => sy_xc 121 l fun l => sy_xc 132 l fun l => sy_xi l fun a4 l => sy_xv l fun _ l => sy_xv l fun _ l => sy_xn l (sy_xn st (k a4 M))
theorem jwL_law__2992 {d : Nat} {k : Int32 → sy_M → sy_O} (hk : ∀ (w5 : Value) (w6 : Value) (a4 : Int32) (M : sy_M) (r : xe_R × sy_M), k a4 M = some r → sy_E (d) qL_law_ 2992 [.ref 1000000, .ref 0, .ref 121, .ref 132, .int a4, w5, w6] [] M r) : ∀ ls st M r, juL_law__2992 k ls st M = some r → sy_E d qL_law_ 2992 ls st M r := by
  intro ls st M r h
  obtain ⟨l, e, h1⟩ := sy_xc_ok h; subst e
  obtain ⟨l, e, h2⟩ := sy_xc_ok h1; subst e
  obtain ⟨l, e, h3⟩ := sy_xc_ok h2; subst e
  obtain ⟨l, e, h4⟩ := sy_xc_ok h3; subst e
  obtain ⟨a4, l, e, h5⟩ := sy_xi_ok h4; subst e
  obtain ⟨w5, l, e, h6⟩ := sy_xv_ok h5; subst e
  obtain ⟨w6, l, e, h7⟩ := sy_xv_ok h6; subst e
  obtain ⟨e, h8⟩ := sy_xn_ok h7; subst e
  obtain ⟨e, h9⟩ := sy_xn_ok h8; subst e
  exact hk _ _ a4 M r h9
def juL_law__2959 (k : Int32 → Int32 → Int32 → Int32 → sy_M → sy_O) (ls st : List Value) (M : sy_M) : sy_O := sy_xc 1000000 ls fun l => sy_xc 0 l fun l => sy_xc 121 l fun l => sy_xc 132 l fun l => sy_xi l fun a4 l => sy_xi l fun a5 l => sy_xv l fun _ l => sy_xn l (sy_xi st fun s0 l => sy_xi l fun s1 l => sy_xc 121 l fun l => sy_xn l (k a4 a5 s0 s1 M))
theorem jwL_law__2959 {d : Nat} {k : Int32 → Int32 → Int32 → Int32 → sy_M → sy_O} (hk : ∀ (w6 : Value) (a4 : Int32) (a5 : Int32) (s0 : Int32) (s1 : Int32) (M : sy_M) (r : xe_R × sy_M), k a4 a5 s0 s1 M = some r → sy_E (d) qL_law_ 2959 [.ref 1000000, .ref 0, .ref 121, .ref 132, .int a4, .int a5, w6] [.int s0, .int s1, .ref 121] M r) : ∀ ls st M r, juL_law__2959 k ls st M = some r → sy_E d qL_law_ 2959 ls st M r := by
  intro ls st M r h
  obtain ⟨l, e, h1⟩ := sy_xc_ok h; subst e
  obtain ⟨l, e, h2⟩ := sy_xc_ok h1; subst e
  obtain ⟨l, e, h3⟩ := sy_xc_ok h2; subst e
  obtain ⟨l, e, h4⟩ := sy_xc_ok h3; subst e
  obtain ⟨a4, l, e, h5⟩ := sy_xi_ok h4; subst e
  obtain ⟨a5, l, e, h6⟩ := sy_xi_ok h5; subst e
  obtain ⟨w6, l, e, h7⟩ := sy_xv_ok h6; subst e
  obtain ⟨e, h8⟩ := sy_xn_ok h7; subst e
  obtain ⟨s0, l, e, h9⟩ := sy_xi_ok h8; subst e
  obtain ⟨s1, l, e, h10⟩ := sy_xi_ok h9; subst e
  obtain ⟨l, e, h11⟩ := sy_xc_ok h10; subst e
  obtain ⟨e, h12⟩ := sy_xn_ok h11; subst e
  exact hk _ a4 a5 s0 s1 M r h12
def juL_law__2932 (k : Int32 → Int32 → Int32 → sy_M → sy_O) (ls st : List Value) (M : sy_M) : sy_O := sy_xc 1000000 ls fun l => sy_xc 0 l fun l => sy_xc 121 l fun l => sy_xc 132 l fun l => sy_xi l fun a4 l => sy_xv l fun _ l => sy_xv l fun _ l => sy_xn l (sy_xi st fun s0 l => sy_xi l fun s1 l => sy_xc 0 l fun l => sy_xn l (k a4 s0 s1 M))
theorem jwL_law__2932 {d : Nat} {k : Int32 → Int32 → Int32 → sy_M → sy_O} (hk : ∀ (w5 : Value) (w6 : Value) (a4 : Int32) (s0 : Int32) (s1 : Int32) (M : sy_M) (r : xe_R × sy_M), k a4 s0 s1 M = some r → sy_E (d) qL_law_ 2932 [.ref 1000000, .ref 0, .ref 121, .ref 132, .int a4, w5, w6] [.int s0, .int s1, .ref 0] M r) : ∀ ls st M r, juL_law__2932 k ls st M = some r → sy_E d qL_law_ 2932 ls st M r := by
  intro ls st M r h
  obtain ⟨l, e, h1⟩ := sy_xc_ok h; subst e
  obtain ⟨l, e, h2⟩ := sy_xc_ok h1; subst e
  obtain ⟨l, e, h3⟩ := sy_xc_ok h2; subst e
  obtain ⟨l, e, h4⟩ := sy_xc_ok h3; subst e
  obtain ⟨a4, l, e, h5⟩ := sy_xi_ok h4; subst e
  obtain ⟨w5, l, e, h6⟩ := sy_xv_ok h5; subst e
  obtain ⟨w6, l, e, h7⟩ := sy_xv_ok h6; subst e
  obtain ⟨e, h8⟩ := sy_xn_ok h7; subst e
  obtain ⟨s0, l, e, h9⟩ := sy_xi_ok h8; subst e
  obtain ⟨s1, l, e, h10⟩ := sy_xi_ok h9; subst e
  obtain ⟨l, e, h11⟩ := sy_xc_ok h10; subst e
  obtain ⟨e, h12⟩ := sy_xn_ok h11; subst e
  exact hk _ _ a4 s0 s1 M r h12
def juL_law__2911 (k : Int32 → sy_M → sy_O) (ls st : List Value) (M : sy_M) : sy_O := sy_xc 1000000 ls fun l => sy_xc 0 l fun l => sy_xc 121 l fun l => sy_xc 132 l fun l => sy_xi l fun a4 l => sy_xv l fun _ l => sy_xv l fun _ l => sy_xn l (sy_xn st (k a4 M))
theorem jwL_law__2911 {d : Nat} {k : Int32 → sy_M → sy_O} (hk : ∀ (w5 : Value) (w6 : Value) (a4 : Int32) (M : sy_M) (r : xe_R × sy_M), k a4 M = some r → sy_E (d) qL_law_ 2911 [.ref 1000000, .ref 0, .ref 121, .ref 132, .int a4, w5, w6] [] M r) : ∀ ls st M r, juL_law__2911 k ls st M = some r → sy_E d qL_law_ 2911 ls st M r := by
  intro ls st M r h
  obtain ⟨l, e, h1⟩ := sy_xc_ok h; subst e
  obtain ⟨l, e, h2⟩ := sy_xc_ok h1; subst e
  obtain ⟨l, e, h3⟩ := sy_xc_ok h2; subst e
  obtain ⟨l, e, h4⟩ := sy_xc_ok h3; subst e
  obtain ⟨a4, l, e, h5⟩ := sy_xi_ok h4; subst e
  obtain ⟨w5, l, e, h6⟩ := sy_xv_ok h5; subst e
  obtain ⟨w6, l, e, h7⟩ := sy_xv_ok h6; subst e
  obtain ⟨e, h8⟩ := sy_xn_ok h7; subst e
  obtain ⟨e, h9⟩ := sy_xn_ok h8; subst e
  exact hk _ _ a4 M r h9
def juL_law__3060 (k : Int32 → sy_M → sy_O) (ls st : List Value) (M : sy_M) : sy_O := sy_xc 1000000 ls fun l => sy_xc 0 l fun l => sy_xc 121 l fun l => sy_xc 132 l fun l => sy_xi l fun a4 l => sy_xv l fun _ l => sy_xv l fun _ l => sy_xn l (sy_xn st (k a4 M))
theorem jwL_law__3060 {d : Nat} {k : Int32 → sy_M → sy_O} (hk : ∀ (w5 : Value) (w6 : Value) (a4 : Int32) (M : sy_M) (r : xe_R × sy_M), k a4 M = some r → sy_E (d) qL_law_ 3060 [.ref 1000000, .ref 0, .ref 121, .ref 132, .int a4, w5, w6] [] M r) : ∀ ls st M r, juL_law__3060 k ls st M = some r → sy_E d qL_law_ 3060 ls st M r := by
  intro ls st M r h
  obtain ⟨l, e, h1⟩ := sy_xc_ok h; subst e
  obtain ⟨l, e, h2⟩ := sy_xc_ok h1; subst e
  obtain ⟨l, e, h3⟩ := sy_xc_ok h2; subst e
  obtain ⟨l, e, h4⟩ := sy_xc_ok h3; subst e
  obtain ⟨a4, l, e, h5⟩ := sy_xi_ok h4; subst e
  obtain ⟨w5, l, e, h6⟩ := sy_xv_ok h5; subst e
  obtain ⟨w6, l, e, h7⟩ := sy_xv_ok h6; subst e
  obtain ⟨e, h8⟩ := sy_xn_ok h7; subst e
  obtain ⟨e, h9⟩ := sy_xn_ok h8; subst e
  exact hk _ _ a4 M r h9
def juL_law__2995 (k : Int32 → sy_M → sy_O) (ls st : List Value) (M : sy_M) : sy_O := sy_xc 1000000 ls fun l => sy_xc 0 l fun l => sy_xc 121 l fun l => sy_xc 132 l fun l => sy_xi l fun a4 l => sy_xv l fun _ l => sy_xv l fun _ l => sy_xn l (sy_xn st (k a4 M))
theorem jwL_law__2995 {d : Nat} {k : Int32 → sy_M → sy_O} (hk : ∀ (w5 : Value) (w6 : Value) (a4 : Int32) (M : sy_M) (r : xe_R × sy_M), k a4 M = some r → sy_E (d) qL_law_ 2995 [.ref 1000000, .ref 0, .ref 121, .ref 132, .int a4, w5, w6] [] M r) : ∀ ls st M r, juL_law__2995 k ls st M = some r → sy_E d qL_law_ 2995 ls st M r := by
  intro ls st M r h
  obtain ⟨l, e, h1⟩ := sy_xc_ok h; subst e
  obtain ⟨l, e, h2⟩ := sy_xc_ok h1; subst e
  obtain ⟨l, e, h3⟩ := sy_xc_ok h2; subst e
  obtain ⟨l, e, h4⟩ := sy_xc_ok h3; subst e
  obtain ⟨a4, l, e, h5⟩ := sy_xi_ok h4; subst e
  obtain ⟨w5, l, e, h6⟩ := sy_xv_ok h5; subst e
  obtain ⟨w6, l, e, h7⟩ := sy_xv_ok h6; subst e
  obtain ⟨e, h8⟩ := sy_xn_ok h7; subst e
  obtain ⟨e, h9⟩ := sy_xn_ok h8; subst e
  exact hk _ _ a4 M r h9
def juL_law__3063 (k : Int32 → sy_M → sy_O) (ls st : List Value) (M : sy_M) : sy_O := sy_xc 1000000 ls fun l => sy_xc 0 l fun l => sy_xc 121 l fun l => sy_xc 132 l fun l => sy_xi l fun a4 l => sy_xv l fun _ l => sy_xv l fun _ l => sy_xn l (sy_xn st (k a4 M))
theorem jwL_law__3063 {d : Nat} {k : Int32 → sy_M → sy_O} (hk : ∀ (w5 : Value) (w6 : Value) (a4 : Int32) (M : sy_M) (r : xe_R × sy_M), k a4 M = some r → sy_E (d) qL_law_ 3063 [.ref 1000000, .ref 0, .ref 121, .ref 132, .int a4, w5, w6] [] M r) : ∀ ls st M r, juL_law__3063 k ls st M = some r → sy_E d qL_law_ 3063 ls st M r := by
  intro ls st M r h
  obtain ⟨l, e, h1⟩ := sy_xc_ok h; subst e
  obtain ⟨l, e, h2⟩ := sy_xc_ok h1; subst e
  obtain ⟨l, e, h3⟩ := sy_xc_ok h2; subst e
  obtain ⟨l, e, h4⟩ := sy_xc_ok h3; subst e
  obtain ⟨a4, l, e, h5⟩ := sy_xi_ok h4; subst e
  obtain ⟨w5, l, e, h6⟩ := sy_xv_ok h5; subst e
  obtain ⟨w6, l, e, h7⟩ := sy_xv_ok h6; subst e
  obtain ⟨e, h8⟩ := sy_xn_ok h7; subst e
  obtain ⟨e, h9⟩ := sy_xn_ok h8; subst e
  exact hk _ _ a4 M r h9
def juL_law__3088 (k : Int32 → sy_M → sy_O) (ls st : List Value) (M : sy_M) : sy_O := sy_xc 1000000 ls fun l => sy_xc 0 l fun l => sy_xc 121 l fun l => sy_xc 132 l fun l => sy_xi l fun a4 l => sy_xv l fun _ l => sy_xv l fun _ l => sy_xn l (sy_xn st (k a4 M))
theorem jwL_law__3088 {d : Nat} {k : Int32 → sy_M → sy_O} (hk : ∀ (w5 : Value) (w6 : Value) (a4 : Int32) (M : sy_M) (r : xe_R × sy_M), k a4 M = some r → sy_E (d) qL_law_ 3088 [.ref 1000000, .ref 0, .ref 121, .ref 132, .int a4, w5, w6] [] M r) : ∀ ls st M r, juL_law__3088 k ls st M = some r → sy_E d qL_law_ 3088 ls st M r := by
  intro ls st M r h
  obtain ⟨l, e, h1⟩ := sy_xc_ok h; subst e
  obtain ⟨l, e, h2⟩ := sy_xc_ok h1; subst e
  obtain ⟨l, e, h3⟩ := sy_xc_ok h2; subst e
  obtain ⟨l, e, h4⟩ := sy_xc_ok h3; subst e
  obtain ⟨a4, l, e, h5⟩ := sy_xi_ok h4; subst e
  obtain ⟨w5, l, e, h6⟩ := sy_xv_ok h5; subst e
  obtain ⟨w6, l, e, h7⟩ := sy_xv_ok h6; subst e
  obtain ⟨e, h8⟩ := sy_xn_ok h7; subst e
  obtain ⟨e, h9⟩ := sy_xn_ok h8; subst e
  exact hk _ _ a4 M r h9
def juL_law__3101 (k : Int32 → sy_M → sy_O) (ls st : List Value) (M : sy_M) : sy_O := sy_xc 1000000 ls fun l => sy_xc 0 l fun l => sy_xc 121 l fun l => sy_xc 132 l fun l => sy_xi l fun a4 l => sy_xv l fun _ l => sy_xv l fun _ l => sy_xn l (sy_xn st (k a4 M))
theorem jwL_law__3101 {d : Nat} {k : Int32 → sy_M → sy_O} (hk : ∀ (w5 : Value) (w6 : Value) (a4 : Int32) (M : sy_M) (r : xe_R × sy_M), k a4 M = some r → sy_E (d) qL_law_ 3101 [.ref 1000000, .ref 0, .ref 121, .ref 132, .int a4, w5, w6] [] M r) : ∀ ls st M r, juL_law__3101 k ls st M = some r → sy_E d qL_law_ 3101 ls st M r := by
  intro ls st M r h
  obtain ⟨l, e, h1⟩ := sy_xc_ok h; subst e
  obtain ⟨l, e, h2⟩ := sy_xc_ok h1; subst e
  obtain ⟨l, e, h3⟩ := sy_xc_ok h2; subst e
  obtain ⟨l, e, h4⟩ := sy_xc_ok h3; subst e
  obtain ⟨a4, l, e, h5⟩ := sy_xi_ok h4; subst e
  obtain ⟨w5, l, e, h6⟩ := sy_xv_ok h5; subst e
  obtain ⟨w6, l, e, h7⟩ := sy_xv_ok h6; subst e
  obtain ⟨e, h8⟩ := sy_xn_ok h7; subst e
  obtain ⟨e, h9⟩ := sy_xn_ok h8; subst e
  exact hk _ _ a4 M r h9
def juL_law__3112 (k : Int32 → sy_M → sy_O) (ls st : List Value) (M : sy_M) : sy_O := sy_xc 1000000 ls fun l => sy_xc 0 l fun l => sy_xc 121 l fun l => sy_xc 132 l fun l => sy_xi l fun a4 l => sy_xv l fun _ l => sy_xv l fun _ l => sy_xn l (sy_xn st (k a4 M))
theorem jwL_law__3112 {d : Nat} {k : Int32 → sy_M → sy_O} (hk : ∀ (w5 : Value) (w6 : Value) (a4 : Int32) (M : sy_M) (r : xe_R × sy_M), k a4 M = some r → sy_E (d) qL_law_ 3112 [.ref 1000000, .ref 0, .ref 121, .ref 132, .int a4, w5, w6] [] M r) : ∀ ls st M r, juL_law__3112 k ls st M = some r → sy_E d qL_law_ 3112 ls st M r := by
  intro ls st M r h
  obtain ⟨l, e, h1⟩ := sy_xc_ok h; subst e
  obtain ⟨l, e, h2⟩ := sy_xc_ok h1; subst e
  obtain ⟨l, e, h3⟩ := sy_xc_ok h2; subst e
  obtain ⟨l, e, h4⟩ := sy_xc_ok h3; subst e
  obtain ⟨a4, l, e, h5⟩ := sy_xi_ok h4; subst e
  obtain ⟨w5, l, e, h6⟩ := sy_xv_ok h5; subst e
  obtain ⟨w6, l, e, h7⟩ := sy_xv_ok h6; subst e
  obtain ⟨e, h8⟩ := sy_xn_ok h7; subst e
  obtain ⟨e, h9⟩ := sy_xn_ok h8; subst e
  exact hk _ _ a4 M r h9
def juL_law__3125 (k : Int32 → sy_M → sy_O) (ls st : List Value) (M : sy_M) : sy_O := sy_xc 1000000 ls fun l => sy_xc 0 l fun l => sy_xc 121 l fun l => sy_xc 132 l fun l => sy_xi l fun a4 l => sy_xv l fun _ l => sy_xv l fun _ l => sy_xn l (sy_xn st (k a4 M))
theorem jwL_law__3125 {d : Nat} {k : Int32 → sy_M → sy_O} (hk : ∀ (w5 : Value) (w6 : Value) (a4 : Int32) (M : sy_M) (r : xe_R × sy_M), k a4 M = some r → sy_E (d) qL_law_ 3125 [.ref 1000000, .ref 0, .ref 121, .ref 132, .int a4, w5, w6] [] M r) : ∀ ls st M r, juL_law__3125 k ls st M = some r → sy_E d qL_law_ 3125 ls st M r := by
  intro ls st M r h
  obtain ⟨l, e, h1⟩ := sy_xc_ok h; subst e
  obtain ⟨l, e, h2⟩ := sy_xc_ok h1; subst e
  obtain ⟨l, e, h3⟩ := sy_xc_ok h2; subst e
  obtain ⟨l, e, h4⟩ := sy_xc_ok h3; subst e
  obtain ⟨a4, l, e, h5⟩ := sy_xi_ok h4; subst e
  obtain ⟨w5, l, e, h6⟩ := sy_xv_ok h5; subst e
  obtain ⟨w6, l, e, h7⟩ := sy_xv_ok h6; subst e
  obtain ⟨e, h8⟩ := sy_xn_ok h7; subst e
  obtain ⟨e, h9⟩ := sy_xn_ok h8; subst e
  exact hk _ _ a4 M r h9
def juL_law__23 (k : Int32 → sy_M → sy_O) (ls st : List Value) (M : sy_M) : sy_O := sy_xc 1000000 ls fun l => sy_xc 0 l fun l => sy_xc 121 l fun l => sy_xc 132 l fun l => sy_xi l fun a4 l => sy_xv l fun _ l => sy_xv l fun _ l => sy_xn l (sy_xn st (k a4 M))
theorem jwL_law__23 {d : Nat} {k : Int32 → sy_M → sy_O} (hk : ∀ (w5 : Value) (w6 : Value) (a4 : Int32) (M : sy_M) (r : xe_R × sy_M), k a4 M = some r → sy_E (d) qL_law_ 23 [.ref 1000000, .ref 0, .ref 121, .ref 132, .int a4, w5, w6] [] M r) : ∀ ls st M r, juL_law__23 k ls st M = some r → sy_E d qL_law_ 23 ls st M r := by
  intro ls st M r h
  obtain ⟨l, e, h1⟩ := sy_xc_ok h; subst e
  obtain ⟨l, e, h2⟩ := sy_xc_ok h1; subst e
  obtain ⟨l, e, h3⟩ := sy_xc_ok h2; subst e
  obtain ⟨l, e, h4⟩ := sy_xc_ok h3; subst e
  obtain ⟨a4, l, e, h5⟩ := sy_xi_ok h4; subst e
  obtain ⟨w5, l, e, h6⟩ := sy_xv_ok h5; subst e
  obtain ⟨w6, l, e, h7⟩ := sy_xv_ok h6; subst e
  obtain ⟨e, h8⟩ := sy_xn_ok h7; subst e
  obtain ⟨e, h9⟩ := sy_xn_ok h8; subst e
  exact hk _ _ a4 M r h9
def jfL_law__3150 (k23 : Int32 → sy_M → sy_O) (a4 : Int32) (M : sy_M) : sy_O :=
  let v1 := a4 + 6
  k23 v1 M
set_option maxRecDepth 100000 in
theorem jrL_law__3150 (k23 : Int32 → sy_M → sy_O) (w5 : Value) (w6 : Value) (a4 : Int32) (M : sy_M) : sy_run skL qL_law_ [(3150, .iinc 4 6, 3, [true, true, true, true, true, false, false]), (3153, .goto (-3130), 3, [])] [] [(23, juL_law__23 k23)] 3 [] 3150 [.ref 1000000, .ref 0, .ref 121, .ref 132, .int a4, w5, w6] [] M = jfL_law__3150 k23 a4 M := rfl
theorem jtL_law__3150 {k23 : Int32 → sy_M → sy_O} (hk23 : ∀ (w5 : Value) (w6 : Value) (a4 : Int32) (M : sy_M) (r : xe_R × sy_M), k23 a4 M = some r → sy_E (56) qL_law_ 23 [.ref 1000000, .ref 0, .ref 121, .ref 132, .int a4, w5, w6] [] M r) : ∀ (w5 : Value) (w6 : Value) (a4 : Int32) (M : sy_M) (r : xe_R × sy_M), jfL_law__3150 k23 a4 M = some r → sy_E (56) qL_law_ 3150 [.ref 1000000, .ref 0, .ref 121, .ref 132, .int a4, w5, w6] [] M r := by
  intro w5 w6 a4 M r h
  exact sy_run_by (d := 55) ((jrL_law__3150 _ _ _ _ M).trans h) hkL (by decide +kernel) sy_cs_nil (sy_us_cons (jwL_law__23 hk23) sy_us_nil)
def jfL_law__308 (k23 : Int32 → sy_M → sy_O) (a4 : Int32) (M : sy_M) : sy_O :=
  sy_bx (xe_in (a4 + 1) (M 134 0).toNatClampNeg) <|
  sy_bx (xe_in (a4 + 2) (M 134 0).toNatClampNeg) <|
  sy_bx (xe_in (a4 + 3) (M 134 0).toNatClampNeg) <|
  sy_bx (xe_in (a4 + 4) (M 134 0).toNatClampNeg) <|
  sy_bx (xe_in (a4 + 5) (M 134 0).toNatClampNeg) <|
  sy_bi (jfX11_feed (M 1000000 (Int32.toNatClampNeg (a4 + 1))) (M 1000000 (Int32.toNatClampNeg (a4 + 2))) (M 1000000 (Int32.toNatClampNeg (a4 + 3))) (M 1000000 (Int32.toNatClampNeg (a4 + 4))) (M 1000000 (Int32.toNatClampNeg (a4 + 5))) M) fun v2 M1 =>
  sy_bx (xe_in (a4 + 1) (M1 134 0).toNatClampNeg) <|
  sy_bx (xe_in (a4 + 2) (M1 134 0).toNatClampNeg) <|
  sy_bx (xe_in (a4 + 3) (M1 134 0).toNatClampNeg) <|
  sy_bx (xe_in (a4 + 4) (M1 134 0).toNatClampNeg) <|
  sy_bx (xe_in (a4 + 5) (M1 134 0).toNatClampNeg) <|
  sy_bi (jfX12_feed (M1 1000000 (Int32.toNatClampNeg (a4 + 1))) (M1 1000000 (Int32.toNatClampNeg (a4 + 2))) (M1 1000000 (Int32.toNatClampNeg (a4 + 3))) (M1 1000000 (Int32.toNatClampNeg (a4 + 4))) (M1 1000000 (Int32.toNatClampNeg (a4 + 5))) M1) fun v4 M3 =>
  if v2 = v4 then
    jfL_law__3150 k23 a4 M3
  else
    sy_ri 0 M3
set_option maxRecDepth 100000 in
theorem jrL_law__308 (k23 : Int32 → sy_M → sy_O) (w5 : Value) (w6 : Value) (a4 : Int32) (M : sy_M) : sy_run skL qL_law_ [(308, .aload_n 1, 1, [true, true, true, true, true, false, false]), (309, .aload_n 0, 1, []), (310, .iload 4, 2, []), (312, .iconst 1, 1, []), (313, .iadd, 1, []), (314, .iaload, 1, []), (315, .aload_n 0, 1, []), (316, .iload 4, 2, []), (318, .iconst 2, 1, []), (319, .iadd, 1, []), (320, .iaload, 1, []), (321, .aload_n 0, 1, []), (322, .iload 4, 2, []), (324, .iconst 3, 1, []), (325, .iadd, 1, []), (326, .iaload, 1, []), (327, .aload_n 0, 1, []), (328, .iload 4, 2, []), (330, .iconst 4, 1, []), (331, .iadd, 1, []), (332, .iaload, 1, []), (333, .aload_n 0, 1, []), (334, .iload 4, 2, []), (336, .iconst 5, 1, []), (337, .iadd, 1, []), (338, .iaload, 1, []), (339, .invokevirtual 139, 3, []), (342, .aload_n 2, 1, []), (343, .aload_n 0, 1, []), (344, .iload 4, 2, []), (346, .iconst 1, 1, []), (347, .iadd, 1, []), (348, .iaload, 1, []), (349, .aload_n 0, 1, []), (350, .iload 4, 2, []), (352, .iconst 2, 1, []), (353, .iadd, 1, []), (354, .iaload, 1, []), (355, .aload_n 0, 1, []), (356, .iload 4, 2, []), (358, .iconst 3, 1, []), (359, .iadd, 1, []), (360, .iaload, 1, []), (361, .aload_n 0, 1, []), (362, .iload 4, 2, []), (364, .iconst 4, 1, []), (365, .iadd, 1, []), (366, .iaload, 1, []), (367, .aload_n 0, 1, []), (368, .iload 4, 2, []), (370, .iconst 5, 1, []), (371, .iadd, 1, []), (372, .iaload, 1, []), (373, .invokevirtual 143, 3, []), (376, .if_icmp .eq 2774, 3, []), (379, .iconst 0, 1, []), (380, .ireturn, 1, [])] [(90, 0, jcX11_feed), (198, 0, jcX12_feed)] [(3150, juL_law__3150 (jfL_law__3150 k23))] 58 [] 308 [.ref 1000000, .ref 0, .ref 121, .ref 132, .int a4, w5, w6] [] M = jfL_law__308 k23 a4 M := rfl
theorem jtL_law__308 {k23 : Int32 → sy_M → sy_O} (hk23 : ∀ (w5 : Value) (w6 : Value) (a4 : Int32) (M : sy_M) (r : xe_R × sy_M), k23 a4 M = some r → sy_E (56) qL_law_ 23 [.ref 1000000, .ref 0, .ref 121, .ref 132, .int a4, w5, w6] [] M r) : ∀ (w5 : Value) (w6 : Value) (a4 : Int32) (M : sy_M) (r : xe_R × sy_M), jfL_law__308 k23 a4 M = some r → sy_E (56) qL_law_ 308 [.ref 1000000, .ref 0, .ref 121, .ref 132, .int a4, w5, w6] [] M r := by
  intro w5 w6 a4 M r h
  exact sy_run_by (d := 55) ((jrL_law__308 _ _ _ _ M).trans h) hkL (by decide +kernel) (sy_cs_cons (jeX11_feed.deep (by decide)) (sy_cs_cons (jeX12_feed.deep (by decide)) sy_cs_nil)) (sy_us_cons (jwL_law__3150 (jtL_law__3150 hk23)) sy_us_nil)
def jfL_law__381 (k23 : Int32 → sy_M → sy_O) (a4 : Int32) (M : sy_M) : sy_O :=
  sy_bx (xe_in (a4 + 1) (M 134 0).toNatClampNeg) <|
  sy_bi (jfX11_end (M 1000000 (Int32.toNatClampNeg (a4 + 1))) M) fun v2 M1 =>
  sy_bx (xe_in (a4 + 1) (M1 134 0).toNatClampNeg) <|
  sy_bi (jfX12_end (M1 1000000 (Int32.toNatClampNeg (a4 + 1))) M1) fun v4 M3 =>
  if v2 = v4 then
    jfL_law__3150 k23 a4 M3
  else
    sy_ri 0 M3
set_option maxRecDepth 100000 in
theorem jrL_law__381 (k23 : Int32 → sy_M → sy_O) (w5 : Value) (w6 : Value) (a4 : Int32) (M : sy_M) : sy_run skL qL_law_ [(381, .aload_n 1, 1, [true, true, true, true, true, false, false]), (382, .aload_n 0, 1, []), (383, .iload 4, 2, []), (385, .iconst 1, 1, []), (386, .iadd, 1, []), (387, .iaload, 1, []), (388, .invokevirtual 144, 3, []), (391, .aload_n 2, 1, []), (392, .aload_n 0, 1, []), (393, .iload 4, 2, []), (395, .iconst 1, 1, []), (396, .iadd, 1, []), (397, .iaload, 1, []), (398, .invokevirtual 147, 3, []), (401, .if_icmp .eq 2749, 3, []), (404, .iconst 0, 1, []), (405, .ireturn, 1, [])] [(91, 0, jcX11_end), (199, 0, jcX12_end)] [(3150, juL_law__3150 (jfL_law__3150 k23))] 18 [] 381 [.ref 1000000, .ref 0, .ref 121, .ref 132, .int a4, w5, w6] [] M = jfL_law__381 k23 a4 M := rfl
theorem jtL_law__381 {k23 : Int32 → sy_M → sy_O} (hk23 : ∀ (w5 : Value) (w6 : Value) (a4 : Int32) (M : sy_M) (r : xe_R × sy_M), k23 a4 M = some r → sy_E (56) qL_law_ 23 [.ref 1000000, .ref 0, .ref 121, .ref 132, .int a4, w5, w6] [] M r) : ∀ (w5 : Value) (w6 : Value) (a4 : Int32) (M : sy_M) (r : xe_R × sy_M), jfL_law__381 k23 a4 M = some r → sy_E (56) qL_law_ 381 [.ref 1000000, .ref 0, .ref 121, .ref 132, .int a4, w5, w6] [] M r := by
  intro w5 w6 a4 M r h
  exact sy_run_by (d := 55) ((jrL_law__381 _ _ _ _ M).trans h) hkL (by decide +kernel) (sy_cs_cons (jeX11_end.deep (by decide)) (sy_cs_cons (jeX12_end.deep (by decide)) sy_cs_nil)) (sy_us_cons (jwL_law__3150 (jtL_law__3150 hk23)) sy_us_nil)
def jfL_law__447 (k23 : Int32 → sy_M → sy_O) (a4 : Int32) (M : sy_M) : sy_O :=
  jfL_law__3150 k23 a4 M
set_option maxRecDepth 100000 in
theorem jrL_law__447 (k23 : Int32 → sy_M → sy_O) (w5 : Value) (w6 : Value) (a4 : Int32) (M : sy_M) : sy_run skL qL_law_ [(447, .goto 2703, 3, [true, true, true, true, true, false, false])] [] [(3150, juL_law__3150 (jfL_law__3150 k23))] 2 [] 447 [.ref 1000000, .ref 0, .ref 121, .ref 132, .int a4, w5, w6] [] M = jfL_law__447 k23 a4 M := rfl
theorem jtL_law__447 {k23 : Int32 → sy_M → sy_O} (hk23 : ∀ (w5 : Value) (w6 : Value) (a4 : Int32) (M : sy_M) (r : xe_R × sy_M), k23 a4 M = some r → sy_E (56) qL_law_ 23 [.ref 1000000, .ref 0, .ref 121, .ref 132, .int a4, w5, w6] [] M r) : ∀ (w5 : Value) (w6 : Value) (a4 : Int32) (M : sy_M) (r : xe_R × sy_M), jfL_law__447 k23 a4 M = some r → sy_E (56) qL_law_ 447 [.ref 1000000, .ref 0, .ref 121, .ref 132, .int a4, w5, w6] [] M r := by
  intro w5 w6 a4 M r h
  exact sy_run_by (d := 55) ((jrL_law__447 _ _ _ _ M).trans h) hkL (by decide +kernel) sy_cs_nil (sy_us_cons (jwL_law__3150 (jtL_law__3150 hk23)) sy_us_nil)
def jfL_law__406 (k23 : Int32 → sy_M → sy_O) (a4 : Int32) (M : sy_M) : sy_O :=
  sy_bi (jfL_house M) fun v2 M1 =>
  sy_bi (jfX12_house M1) fun v4 M3 =>
  sy_bi (jfX12_thrown M3) fun v6 M5 =>
  if v6 = v2 then
    if v2 = 0 then
      if (lg_cmp (sy_rl M5 132 0) (Int32.toInt64 v4)) = 0 then
        jfL_law__447 k23 a4 M5
      else
        sy_ri 0 M5
    else
      jfL_law__447 k23 a4 M5
  else
    sy_ri 0 M5
set_option maxRecDepth 100000 in
theorem jrL_law__406 (k23 : Int32 → sy_M → sy_O) (w5 : Value) (w6 : Value) (a4 : Int32) (M : sy_M) : sy_run skL qL_law_ [(406, .aload_n 1, 1, [true, true, true, true, true, false, false]), (407, .aload_n 3, 1, []), (408, .invokestatic 148, 3, []), (411, .istore 5, 2, []), (413, .aload_n 2, 1, []), (414, .invokevirtual 153, 3, []), (417, .istore 6, 2, []), (419, .aload_n 2, 1, []), (420, .invokevirtual 154, 3, []), (423, .iload 5, 2, []), (425, .if_icmp .eq 5, 3, []), (428, .iconst 0, 1, []), (429, .ireturn, 1, []), (430, .iload 5, 2, []), (432, .ifCond .ne 15, 3, []), (435, .aload_n 3, 1, []), (436, .iconst 0, 1, []), (437, .laload, 1, []), (438, .iload 6, 2, []), (440, .i2l, 1, []), (441, .lcmp, 1, []), (442, .ifCond .eq 5, 3, []), (445, .iconst 0, 1, []), (446, .ireturn, 1, [])] [(321, 0, jcL_house), (217, 0, jcX12_house), (181, 0, jcX12_thrown)] [(447, juL_law__447 (jfL_law__447 k23))] 25 [] 406 [.ref 1000000, .ref 0, .ref 121, .ref 132, .int a4, w5, w6] [] M = jfL_law__406 k23 a4 M := rfl
theorem jtL_law__406 {k23 : Int32 → sy_M → sy_O} (hk23 : ∀ (w5 : Value) (w6 : Value) (a4 : Int32) (M : sy_M) (r : xe_R × sy_M), k23 a4 M = some r → sy_E (56) qL_law_ 23 [.ref 1000000, .ref 0, .ref 121, .ref 132, .int a4, w5, w6] [] M r) : ∀ (w5 : Value) (w6 : Value) (a4 : Int32) (M : sy_M) (r : xe_R × sy_M), jfL_law__406 k23 a4 M = some r → sy_E (56) qL_law_ 406 [.ref 1000000, .ref 0, .ref 121, .ref 132, .int a4, w5, w6] [] M r := by
  intro w5 w6 a4 M r h
  exact sy_run_by (d := 55) ((jrL_law__406 _ _ _ _ M).trans h) hkL (by decide +kernel) (sy_cs_cons (jeL_house.deep (by decide)) (sy_cs_cons (jeX12_house.deep (by decide)) (sy_cs_cons (jeX12_thrown.deep (by decide)) sy_cs_nil))) (sy_us_cons (jwL_law__447 (jtL_law__447 hk23)) sy_us_nil)
def jfL_law__491 (k23 : Int32 → sy_M → sy_O) (a4 : Int32) (M : sy_M) : sy_O :=
  jfL_law__3150 k23 a4 M
set_option maxRecDepth 100000 in
theorem jrL_law__491 (k23 : Int32 → sy_M → sy_O) (w5 : Value) (w6 : Value) (a4 : Int32) (M : sy_M) : sy_run skL qL_law_ [(491, .goto 2659, 3, [true, true, true, true, true, false, false])] [] [(3150, juL_law__3150 (jfL_law__3150 k23))] 2 [] 491 [.ref 1000000, .ref 0, .ref 121, .ref 132, .int a4, w5, w6] [] M = jfL_law__491 k23 a4 M := rfl
theorem jtL_law__491 {k23 : Int32 → sy_M → sy_O} (hk23 : ∀ (w5 : Value) (w6 : Value) (a4 : Int32) (M : sy_M) (r : xe_R × sy_M), k23 a4 M = some r → sy_E (56) qL_law_ 23 [.ref 1000000, .ref 0, .ref 121, .ref 132, .int a4, w5, w6] [] M r) : ∀ (w5 : Value) (w6 : Value) (a4 : Int32) (M : sy_M) (r : xe_R × sy_M), jfL_law__491 k23 a4 M = some r → sy_E (56) qL_law_ 491 [.ref 1000000, .ref 0, .ref 121, .ref 132, .int a4, w5, w6] [] M r := by
  intro w5 w6 a4 M r h
  exact sy_run_by (d := 55) ((jrL_law__491 _ _ _ _ M).trans h) hkL (by decide +kernel) sy_cs_nil (sy_us_cons (jwL_law__3150 (jtL_law__3150 hk23)) sy_us_nil)
def jfL_law__450 (k23 : Int32 → sy_M → sy_O) (a4 : Int32) (M : sy_M) : sy_O :=
  sy_bi (jfL_law M) fun v2 M1 =>
  sy_bi (jfX12_law M1) fun v4 M3 =>
  sy_bi (jfX12_thrown M3) fun v6 M5 =>
  if v6 = v2 then
    if v2 = 0 then
      if (lg_cmp (sy_rl M5 132 0) (Int32.toInt64 v4)) = 0 then
        jfL_law__491 k23 a4 M5
      else
        sy_ri 0 M5
    else
      jfL_law__491 k23 a4 M5
  else
    sy_ri 0 M5
set_option maxRecDepth 100000 in
theorem jrL_law__450 (k23 : Int32 → sy_M → sy_O) (w5 : Value) (w6 : Value) (a4 : Int32) (M : sy_M) : sy_run skL qL_law_ [(450, .aload_n 1, 1, [true, true, true, true, true, false, false]), (451, .aload_n 3, 1, []), (452, .invokestatic 157, 3, []), (455, .istore 5, 2, []), (457, .aload_n 2, 1, []), (458, .invokevirtual 159, 3, []), (461, .istore 6, 2, []), (463, .aload_n 2, 1, []), (464, .invokevirtual 154, 3, []), (467, .iload 5, 2, []), (469, .if_icmp .eq 5, 3, []), (472, .iconst 0, 1, []), (473, .ireturn, 1, []), (474, .iload 5, 2, []), (476, .ifCond .ne 15, 3, []), (479, .aload_n 3, 1, []), (480, .iconst 0, 1, []), (481, .laload, 1, []), (482, .iload 6, 2, []), (484, .i2l, 1, []), (485, .lcmp, 1, []), (486, .ifCond .eq 5, 3, []), (489, .iconst 0, 1, []), (490, .ireturn, 1, [])] [(322, 0, jcL_law), (225, 0, jcX12_law), (181, 0, jcX12_thrown)] [(491, juL_law__491 (jfL_law__491 k23))] 25 [] 450 [.ref 1000000, .ref 0, .ref 121, .ref 132, .int a4, w5, w6] [] M = jfL_law__450 k23 a4 M := rfl
theorem jtL_law__450 {k23 : Int32 → sy_M → sy_O} (hk23 : ∀ (w5 : Value) (w6 : Value) (a4 : Int32) (M : sy_M) (r : xe_R × sy_M), k23 a4 M = some r → sy_E (56) qL_law_ 23 [.ref 1000000, .ref 0, .ref 121, .ref 132, .int a4, w5, w6] [] M r) : ∀ (w5 : Value) (w6 : Value) (a4 : Int32) (M : sy_M) (r : xe_R × sy_M), jfL_law__450 k23 a4 M = some r → sy_E (56) qL_law_ 450 [.ref 1000000, .ref 0, .ref 121, .ref 132, .int a4, w5, w6] [] M r := by
  intro w5 w6 a4 M r h
  exact sy_run_by (d := 55) ((jrL_law__450 _ _ _ _ M).trans h) hkL (by decide +kernel) (sy_cs_cons (jeL_law.deep (by decide)) (sy_cs_cons (jeX12_law.deep (by decide)) (sy_cs_cons (jeX12_thrown.deep (by decide)) sy_cs_nil))) (sy_us_cons (jwL_law__491 (jtL_law__491 hk23)) sy_us_nil)
def jfL_law__494 (k23 : Int32 → sy_M → sy_O) (a4 : Int32) (M : sy_M) : sy_O :=
  sy_bi (jfX11_fault M) fun v2 M1 =>
  sy_bi (jfX12_fault M1) fun v4 M3 =>
  if v2 = v4 then
    jfL_law__3150 k23 a4 M3
  else
    sy_ri 0 M3
set_option maxRecDepth 100000 in
theorem jrL_law__494 (k23 : Int32 → sy_M → sy_O) (w5 : Value) (w6 : Value) (a4 : Int32) (M : sy_M) : sy_run skL qL_law_ [(494, .aload_n 1, 1, [true, true, true, true, true, false, false]), (495, .invokevirtual 160, 3, []), (498, .aload_n 2, 1, []), (499, .invokevirtual 163, 3, []), (502, .if_icmp .eq 2648, 3, []), (505, .iconst 0, 1, []), (506, .ireturn, 1, [])] [(94, 0, jcX11_fault), (226, 0, jcX12_fault)] [(3150, juL_law__3150 (jfL_law__3150 k23))] 8 [] 494 [.ref 1000000, .ref 0, .ref 121, .ref 132, .int a4, w5, w6] [] M = jfL_law__494 k23 a4 M := rfl
theorem jtL_law__494 {k23 : Int32 → sy_M → sy_O} (hk23 : ∀ (w5 : Value) (w6 : Value) (a4 : Int32) (M : sy_M) (r : xe_R × sy_M), k23 a4 M = some r → sy_E (56) qL_law_ 23 [.ref 1000000, .ref 0, .ref 121, .ref 132, .int a4, w5, w6] [] M r) : ∀ (w5 : Value) (w6 : Value) (a4 : Int32) (M : sy_M) (r : xe_R × sy_M), jfL_law__494 k23 a4 M = some r → sy_E (56) qL_law_ 494 [.ref 1000000, .ref 0, .ref 121, .ref 132, .int a4, w5, w6] [] M r := by
  intro w5 w6 a4 M r h
  exact sy_run_by (d := 55) ((jrL_law__494 _ _ _ _ M).trans h) hkL (by decide +kernel) (sy_cs_cons (jeX11_fault.deep (by decide)) (sy_cs_cons (jeX12_fault.deep (by decide)) sy_cs_nil)) (sy_us_cons (jwL_law__3150 (jtL_law__3150 hk23)) sy_us_nil)
def jfL_law__572 (k23 : Int32 → sy_M → sy_O) (a4 : Int32) (M : sy_M) : sy_O :=
  jfL_law__3150 k23 a4 M
set_option maxRecDepth 100000 in
theorem jrL_law__572 (k23 : Int32 → sy_M → sy_O) (w5 : Value) (w6 : Value) (a4 : Int32) (M : sy_M) : sy_run skL qL_law_ [(572, .goto 2578, 3, [true, true, true, true, true, false, false])] [] [(3150, juL_law__3150 (jfL_law__3150 k23))] 2 [] 572 [.ref 1000000, .ref 0, .ref 121, .ref 132, .int a4, w5, w6] [] M = jfL_law__572 k23 a4 M := rfl
theorem jtL_law__572 {k23 : Int32 → sy_M → sy_O} (hk23 : ∀ (w5 : Value) (w6 : Value) (a4 : Int32) (M : sy_M) (r : xe_R × sy_M), k23 a4 M = some r → sy_E (56) qL_law_ 23 [.ref 1000000, .ref 0, .ref 121, .ref 132, .int a4, w5, w6] [] M r) : ∀ (w5 : Value) (w6 : Value) (a4 : Int32) (M : sy_M) (r : xe_R × sy_M), jfL_law__572 k23 a4 M = some r → sy_E (56) qL_law_ 572 [.ref 1000000, .ref 0, .ref 121, .ref 132, .int a4, w5, w6] [] M r := by
  intro w5 w6 a4 M r h
  exact sy_run_by (d := 55) ((jrL_law__572 _ _ _ _ M).trans h) hkL (by decide +kernel) sy_cs_nil (sy_us_cons (jwL_law__3150 (jtL_law__3150 hk23)) sy_us_nil)
def jfL_law__507 (k23 : Int32 → sy_M → sy_O) (a4 : Int32) (M : sy_M) : sy_O :=
  sy_bx (xe_in (a4 + 1) (M 134 0).toNatClampNeg) <|
  sy_bx (xe_in (a4 + 2) (M 134 0).toNatClampNeg) <|
  sy_bi (jfL_lodger (M 1000000 (Int32.toNatClampNeg (a4 + 1))) (M 1000000 (Int32.toNatClampNeg (a4 + 2))) M) fun v2 M1 =>
  sy_bx (xe_in (a4 + 1) (M1 134 0).toNatClampNeg) <|
  sy_bx (xe_in (a4 + 2) (M1 134 0).toNatClampNeg) <|
  sy_bi (jfX12_lodger (M1 1000000 (Int32.toNatClampNeg (a4 + 1))) (M1 1000000 (Int32.toNatClampNeg (a4 + 2))) M1) fun v4 M3 =>
  sy_bi (jfX12_thrown M3) fun v6 M5 =>
  if v6 = v2 then
    if v2 = 0 then
      if (lg_cmp (sy_rl M5 132 0) (Int32.toInt64 v4)) = 0 then
        jfL_law__572 k23 a4 M5
      else
        sy_ri 0 M5
    else
      jfL_law__572 k23 a4 M5
  else
    sy_ri 0 M5
set_option maxRecDepth 100000 in
theorem jrL_law__507 (k23 : Int32 → sy_M → sy_O) (w5 : Value) (w6 : Value) (a4 : Int32) (M : sy_M) : sy_run skL qL_law_ [(507, .aload_n 1, 1, [true, true, true, true, true, false, false]), (508, .aload_n 0, 1, []), (509, .iload 4, 2, []), (511, .iconst 1, 1, []), (512, .iadd, 1, []), (513, .iaload, 1, []), (514, .aload_n 0, 1, []), (515, .iload 4, 2, []), (517, .iconst 2, 1, []), (518, .iadd, 1, []), (519, .iaload, 1, []), (520, .aload_n 3, 1, []), (521, .invokestatic 164, 3, []), (524, .istore 5, 2, []), (526, .aload_n 2, 1, []), (527, .aload_n 0, 1, []), (528, .iload 4, 2, []), (530, .iconst 1, 1, []), (531, .iadd, 1, []), (532, .iaload, 1, []), (533, .aload_n 0, 1, []), (534, .iload 4, 2, []), (536, .iconst 2, 1, []), (537, .iadd, 1, []), (538, .iaload, 1, []), (539, .invokevirtual 167, 3, []), (542, .istore 6, 2, []), (544, .aload_n 2, 1, []), (545, .invokevirtual 154, 3, []), (548, .iload 5, 2, []), (550, .if_icmp .eq 5, 3, []), (553, .iconst 0, 1, []), (554, .ireturn, 1, []), (555, .iload 5, 2, []), (557, .ifCond .ne 15, 3, []), (560, .aload_n 3, 1, []), (561, .iconst 0, 1, []), (562, .laload, 1, []), (563, .iload 6, 2, []), (565, .i2l, 1, []), (566, .lcmp, 1, []), (567, .ifCond .eq 5, 3, []), (570, .iconst 0, 1, []), (571, .ireturn, 1, [])] [(323, 0, jcL_lodger), (239, 0, jcX12_lodger), (181, 0, jcX12_thrown)] [(572, juL_law__572 (jfL_law__572 k23))] 45 [] 507 [.ref 1000000, .ref 0, .ref 121, .ref 132, .int a4, w5, w6] [] M = jfL_law__507 k23 a4 M := rfl
theorem jtL_law__507 {k23 : Int32 → sy_M → sy_O} (hk23 : ∀ (w5 : Value) (w6 : Value) (a4 : Int32) (M : sy_M) (r : xe_R × sy_M), k23 a4 M = some r → sy_E (56) qL_law_ 23 [.ref 1000000, .ref 0, .ref 121, .ref 132, .int a4, w5, w6] [] M r) : ∀ (w5 : Value) (w6 : Value) (a4 : Int32) (M : sy_M) (r : xe_R × sy_M), jfL_law__507 k23 a4 M = some r → sy_E (56) qL_law_ 507 [.ref 1000000, .ref 0, .ref 121, .ref 132, .int a4, w5, w6] [] M r := by
  intro w5 w6 a4 M r h
  exact sy_run_by (d := 55) ((jrL_law__507 _ _ _ _ M).trans h) hkL (by decide +kernel) (sy_cs_cons (jeL_lodger.deep (by decide)) (sy_cs_cons (jeX12_lodger.deep (by decide)) (sy_cs_cons (jeX12_thrown.deep (by decide)) sy_cs_nil))) (sy_us_cons (jwL_law__572 (jtL_law__572 hk23)) sy_us_nil)
def jfL_law__640 (k23 : Int32 → sy_M → sy_O) (a4 : Int32) (M : sy_M) : sy_O :=
  jfL_law__3150 k23 a4 M
set_option maxRecDepth 100000 in
theorem jrL_law__640 (k23 : Int32 → sy_M → sy_O) (w5 : Value) (w6 : Value) (a4 : Int32) (M : sy_M) : sy_run skL qL_law_ [(640, .goto 2510, 3, [true, true, true, true, true, false, false])] [] [(3150, juL_law__3150 (jfL_law__3150 k23))] 2 [] 640 [.ref 1000000, .ref 0, .ref 121, .ref 132, .int a4, w5, w6] [] M = jfL_law__640 k23 a4 M := rfl
theorem jtL_law__640 {k23 : Int32 → sy_M → sy_O} (hk23 : ∀ (w5 : Value) (w6 : Value) (a4 : Int32) (M : sy_M) (r : xe_R × sy_M), k23 a4 M = some r → sy_E (56) qL_law_ 23 [.ref 1000000, .ref 0, .ref 121, .ref 132, .int a4, w5, w6] [] M r) : ∀ (w5 : Value) (w6 : Value) (a4 : Int32) (M : sy_M) (r : xe_R × sy_M), jfL_law__640 k23 a4 M = some r → sy_E (56) qL_law_ 640 [.ref 1000000, .ref 0, .ref 121, .ref 132, .int a4, w5, w6] [] M r := by
  intro w5 w6 a4 M r h
  exact sy_run_by (d := 55) ((jrL_law__640 _ _ _ _ M).trans h) hkL (by decide +kernel) sy_cs_nil (sy_us_cons (jwL_law__3150 (jtL_law__3150 hk23)) sy_us_nil)
def jfL_law__575 (k23 : Int32 → sy_M → sy_O) (a4 : Int32) (M : sy_M) : sy_O :=
  sy_bx (xe_in (a4 + 1) (M 134 0).toNatClampNeg) <|
  sy_bx (xe_in (a4 + 2) (M 134 0).toNatClampNeg) <|
  sy_bi (jfL_owes (M 1000000 (Int32.toNatClampNeg (a4 + 1))) (M 1000000 (Int32.toNatClampNeg (a4 + 2))) M) fun v2 M1 =>
  sy_bx (xe_in (a4 + 1) (M1 134 0).toNatClampNeg) <|
  sy_bx (xe_in (a4 + 2) (M1 134 0).toNatClampNeg) <|
  sy_bi (jfX12_owes (M1 1000000 (Int32.toNatClampNeg (a4 + 1))) (M1 1000000 (Int32.toNatClampNeg (a4 + 2))) M1) fun v4 M3 =>
  sy_bi (jfX12_thrown M3) fun v6 M5 =>
  if v6 = v2 then
    if v2 = 0 then
      if (lg_cmp (sy_rl M5 132 0) (Int32.toInt64 v4)) = 0 then
        jfL_law__640 k23 a4 M5
      else
        sy_ri 0 M5
    else
      jfL_law__640 k23 a4 M5
  else
    sy_ri 0 M5
set_option maxRecDepth 100000 in
theorem jrL_law__575 (k23 : Int32 → sy_M → sy_O) (w5 : Value) (w6 : Value) (a4 : Int32) (M : sy_M) : sy_run skL qL_law_ [(575, .aload_n 1, 1, [true, true, true, true, true, false, false]), (576, .aload_n 0, 1, []), (577, .iload 4, 2, []), (579, .iconst 1, 1, []), (580, .iadd, 1, []), (581, .iaload, 1, []), (582, .aload_n 0, 1, []), (583, .iload 4, 2, []), (585, .iconst 2, 1, []), (586, .iadd, 1, []), (587, .iaload, 1, []), (588, .aload_n 3, 1, []), (589, .invokestatic 168, 3, []), (592, .istore 5, 2, []), (594, .aload_n 2, 1, []), (595, .aload_n 0, 1, []), (596, .iload 4, 2, []), (598, .iconst 1, 1, []), (599, .iadd, 1, []), (600, .iaload, 1, []), (601, .aload_n 0, 1, []), (602, .iload 4, 2, []), (604, .iconst 2, 1, []), (605, .iadd, 1, []), (606, .iaload, 1, []), (607, .invokevirtual 170, 3, []), (610, .istore 6, 2, []), (612, .aload_n 2, 1, []), (613, .invokevirtual 154, 3, []), (616, .iload 5, 2, []), (618, .if_icmp .eq 5, 3, []), (621, .iconst 0, 1, []), (622, .ireturn, 1, []), (623, .iload 5, 2, []), (625, .ifCond .ne 15, 3, []), (628, .aload_n 3, 1, []), (629, .iconst 0, 1, []), (630, .laload, 1, []), (631, .iload 6, 2, []), (633, .i2l, 1, []), (634, .lcmp, 1, []), (635, .ifCond .eq 5, 3, []), (638, .iconst 0, 1, []), (639, .ireturn, 1, [])] [(324, 0, jcL_owes), (241, 0, jcX12_owes), (181, 0, jcX12_thrown)] [(640, juL_law__640 (jfL_law__640 k23))] 45 [] 575 [.ref 1000000, .ref 0, .ref 121, .ref 132, .int a4, w5, w6] [] M = jfL_law__575 k23 a4 M := rfl
theorem jtL_law__575 {k23 : Int32 → sy_M → sy_O} (hk23 : ∀ (w5 : Value) (w6 : Value) (a4 : Int32) (M : sy_M) (r : xe_R × sy_M), k23 a4 M = some r → sy_E (56) qL_law_ 23 [.ref 1000000, .ref 0, .ref 121, .ref 132, .int a4, w5, w6] [] M r) : ∀ (w5 : Value) (w6 : Value) (a4 : Int32) (M : sy_M) (r : xe_R × sy_M), jfL_law__575 k23 a4 M = some r → sy_E (56) qL_law_ 575 [.ref 1000000, .ref 0, .ref 121, .ref 132, .int a4, w5, w6] [] M r := by
  intro w5 w6 a4 M r h
  exact sy_run_by (d := 55) ((jrL_law__575 _ _ _ _ M).trans h) hkL (by decide +kernel) (sy_cs_cons (jeL_owes.deep (by decide)) (sy_cs_cons (jeX12_owes.deep (by decide)) (sy_cs_cons (jeX12_thrown.deep (by decide)) sy_cs_nil))) (sy_us_cons (jwL_law__640 (jtL_law__640 hk23)) sy_us_nil)
def jfL_law__715 (k23 : Int32 → sy_M → sy_O) (a4 : Int32) (M : sy_M) : sy_O :=
  jfL_law__3150 k23 a4 M
set_option maxRecDepth 100000 in
theorem jrL_law__715 (k23 : Int32 → sy_M → sy_O) (w5 : Value) (w6 : Value) (a4 : Int32) (M : sy_M) : sy_run skL qL_law_ [(715, .goto 2435, 3, [true, true, true, true, true, false, false])] [] [(3150, juL_law__3150 (jfL_law__3150 k23))] 2 [] 715 [.ref 1000000, .ref 0, .ref 121, .ref 132, .int a4, w5, w6] [] M = jfL_law__715 k23 a4 M := rfl
theorem jtL_law__715 {k23 : Int32 → sy_M → sy_O} (hk23 : ∀ (w5 : Value) (w6 : Value) (a4 : Int32) (M : sy_M) (r : xe_R × sy_M), k23 a4 M = some r → sy_E (56) qL_law_ 23 [.ref 1000000, .ref 0, .ref 121, .ref 132, .int a4, w5, w6] [] M r) : ∀ (w5 : Value) (w6 : Value) (a4 : Int32) (M : sy_M) (r : xe_R × sy_M), jfL_law__715 k23 a4 M = some r → sy_E (56) qL_law_ 715 [.ref 1000000, .ref 0, .ref 121, .ref 132, .int a4, w5, w6] [] M r := by
  intro w5 w6 a4 M r h
  exact sy_run_by (d := 55) ((jrL_law__715 _ _ _ _ M).trans h) hkL (by decide +kernel) sy_cs_nil (sy_us_cons (jwL_law__3150 (jtL_law__3150 hk23)) sy_us_nil)
def jfL_law__709 (k23 : Int32 → sy_M → sy_O) (a4 : Int32) (s0 : Int64) (s1 : Int64) (M : sy_M) : sy_O :=
  if (lg_cmp s1 s0) = 0 then
    jfL_law__715 k23 a4 M
  else
    sy_ri 0 M
set_option maxRecDepth 100000 in
theorem jrL_law__709 (k23 : Int32 → sy_M → sy_O) (w5 : Value) (w6 : Value) (a4 : Int32) (s0 : Int64) (s1 : Int64) (M : sy_M) : sy_run skL qL_law_ [(709, .lcmp, 1, [true, true, true, true, true, false, false]), (710, .ifCond .eq 5, 3, []), (713, .iconst 0, 1, []), (714, .ireturn, 1, [])] [] [(715, juL_law__715 (jfL_law__715 k23))] 5 [] 709 [.ref 1000000, .ref 0, .ref 121, .ref 132, .int a4, w5, w6] [.long s0, .long s1] M = jfL_law__709 k23 a4 s0 s1 M := rfl
theorem jtL_law__709 {k23 : Int32 → sy_M → sy_O} (hk23 : ∀ (w5 : Value) (w6 : Value) (a4 : Int32) (M : sy_M) (r : xe_R × sy_M), k23 a4 M = some r → sy_E (56) qL_law_ 23 [.ref 1000000, .ref 0, .ref 121, .ref 132, .int a4, w5, w6] [] M r) : ∀ (w5 : Value) (w6 : Value) (a4 : Int32) (s0 : Int64) (s1 : Int64) (M : sy_M) (r : xe_R × sy_M), jfL_law__709 k23 a4 s0 s1 M = some r → sy_E (56) qL_law_ 709 [.ref 1000000, .ref 0, .ref 121, .ref 132, .int a4, w5, w6] [.long s0, .long s1] M r := by
  intro w5 w6 a4 s0 s1 M r h
  exact sy_run_by (d := 55) ((jrL_law__709 _ _ _ _ _ _ M).trans h) hkL (by decide +kernel) sy_cs_nil (sy_us_cons (jwL_law__715 (jtL_law__715 hk23)) sy_us_nil)
def jfL_law__643 (k23 : Int32 → sy_M → sy_O) (a4 : Int32) (M : sy_M) : sy_O :=
  sy_bx (xe_in (a4 + 1) (M 134 0).toNatClampNeg) <|
  sy_bx (xe_in (a4 + 2) (M 134 0).toNatClampNeg) <|
  sy_bi (jfL_isHome (M 1000000 (Int32.toNatClampNeg (a4 + 1))) (M 1000000 (Int32.toNatClampNeg (a4 + 2))) M) fun v2 M1 =>
  sy_bx (xe_in (a4 + 1) (M1 134 0).toNatClampNeg) <|
  sy_bx (xe_in (a4 + 2) (M1 134 0).toNatClampNeg) <|
  sy_bi (jfX12_isHome (M1 1000000 (Int32.toNatClampNeg (a4 + 1))) (M1 1000000 (Int32.toNatClampNeg (a4 + 2))) M1) fun v4 M3 =>
  sy_bi (jfX12_thrown M3) fun v6 M5 =>
  if v6 = v2 then
    if v2 = 0 then
      if v4 = 0 then
        jfL_law__709 k23 a4 (Int64.ofNat 0) (sy_rl M5 132 0) M5
      else
        jfL_law__709 k23 a4 (Int64.ofNat 1) (sy_rl M5 132 0) M5
    else
      jfL_law__715 k23 a4 M5
  else
    sy_ri 0 M5
set_option maxRecDepth 100000 in
theorem jrL_law__643 (k23 : Int32 → sy_M → sy_O) (w5 : Value) (w6 : Value) (a4 : Int32) (M : sy_M) : sy_run skL qL_law_ [(643, .aload_n 1, 1, [true, true, true, true, true, false, false]), (644, .aload_n 0, 1, []), (645, .iload 4, 2, []), (647, .iconst 1, 1, []), (648, .iadd, 1, []), (649, .iaload, 1, []), (650, .aload_n 0, 1, []), (651, .iload 4, 2, []), (653, .iconst 2, 1, []), (654, .iadd, 1, []), (655, .iaload, 1, []), (656, .aload_n 3, 1, []), (657, .invokestatic 171, 3, []), (660, .istore 5, 2, []), (662, .aload_n 2, 1, []), (663, .aload_n 0, 1, []), (664, .iload 4, 2, []), (666, .iconst 1, 1, []), (667, .iadd, 1, []), (668, .iaload, 1, []), (669, .aload_n 0, 1, []), (670, .iload 4, 2, []), (672, .iconst 2, 1, []), (673, .iadd, 1, []), (674, .iaload, 1, []), (675, .invokevirtual 173, 3, []), (678, .istore 6, 2, []), (680, .aload_n 2, 1, []), (681, .invokevirtual 154, 3, []), (684, .iload 5, 2, []), (686, .if_icmp .eq 5, 3, []), (689, .iconst 0, 1, []), (690, .ireturn, 1, []), (691, .iload 5, 2, []), (693, .ifCond .ne 22, 3, []), (696, .aload_n 3, 1, []), (697, .iconst 0, 1, []), (698, .laload, 1, []), (699, .iload 6, 2, []), (701, .ifCond .eq 7, 3, []), (704, .lconst 1, 1, []), (705, .goto 4, 3, []), (708, .lconst 0, 1, [true, true, true, true, true, false, false])] [(325, 0, jcL_isHome), (242, 0, jcX12_isHome), (181, 0, jcX12_thrown)] [(715, juL_law__715 (jfL_law__715 k23)), (709, juL_law__709 (jfL_law__709 k23))] 44 [] 643 [.ref 1000000, .ref 0, .ref 121, .ref 132, .int a4, w5, w6] [] M = jfL_law__643 k23 a4 M := rfl
theorem jtL_law__643 {k23 : Int32 → sy_M → sy_O} (hk23 : ∀ (w5 : Value) (w6 : Value) (a4 : Int32) (M : sy_M) (r : xe_R × sy_M), k23 a4 M = some r → sy_E (56) qL_law_ 23 [.ref 1000000, .ref 0, .ref 121, .ref 132, .int a4, w5, w6] [] M r) : ∀ (w5 : Value) (w6 : Value) (a4 : Int32) (M : sy_M) (r : xe_R × sy_M), jfL_law__643 k23 a4 M = some r → sy_E (56) qL_law_ 643 [.ref 1000000, .ref 0, .ref 121, .ref 132, .int a4, w5, w6] [] M r := by
  intro w5 w6 a4 M r h
  exact sy_run_by (d := 55) ((jrL_law__643 _ _ _ _ M).trans h) hkL (by decide +kernel) (sy_cs_cons (jeL_isHome.deep (by decide)) (sy_cs_cons (jeX12_isHome.deep (by decide)) (sy_cs_cons (jeX12_thrown.deep (by decide)) sy_cs_nil))) (sy_us_cons (jwL_law__715 (jtL_law__715 hk23)) (sy_us_cons (jwL_law__709 (jtL_law__709 hk23)) sy_us_nil))
def jfL_law__771 (k23 : Int32 → sy_M → sy_O) (a4 : Int32) (M : sy_M) : sy_O :=
  jfL_law__3150 k23 a4 M
set_option maxRecDepth 100000 in
theorem jrL_law__771 (k23 : Int32 → sy_M → sy_O) (w5 : Value) (w6 : Value) (a4 : Int32) (M : sy_M) : sy_run skL qL_law_ [(771, .goto 2379, 3, [true, true, true, true, true, false, false])] [] [(3150, juL_law__3150 (jfL_law__3150 k23))] 2 [] 771 [.ref 1000000, .ref 0, .ref 121, .ref 132, .int a4, w5, w6] [] M = jfL_law__771 k23 a4 M := rfl
theorem jtL_law__771 {k23 : Int32 → sy_M → sy_O} (hk23 : ∀ (w5 : Value) (w6 : Value) (a4 : Int32) (M : sy_M) (r : xe_R × sy_M), k23 a4 M = some r → sy_E (56) qL_law_ 23 [.ref 1000000, .ref 0, .ref 121, .ref 132, .int a4, w5, w6] [] M r) : ∀ (w5 : Value) (w6 : Value) (a4 : Int32) (M : sy_M) (r : xe_R × sy_M), jfL_law__771 k23 a4 M = some r → sy_E (56) qL_law_ 771 [.ref 1000000, .ref 0, .ref 121, .ref 132, .int a4, w5, w6] [] M r := by
  intro w5 w6 a4 M r h
  exact sy_run_by (d := 55) ((jrL_law__771 _ _ _ _ M).trans h) hkL (by decide +kernel) sy_cs_nil (sy_us_cons (jwL_law__3150 (jtL_law__3150 hk23)) sy_us_nil)
def jfL_law__718 (k23 : Int32 → sy_M → sy_O) (a4 : Int32) (M : sy_M) : sy_O :=
  sy_bx (xe_in (a4 + 1) (M 134 0).toNatClampNeg) <|
  sy_bi (jfL_needs (M 1000000 (Int32.toNatClampNeg (a4 + 1))) M) fun v2 M1 =>
  sy_bx (xe_in (a4 + 1) (M1 134 0).toNatClampNeg) <|
  sy_bi (jfX12_needs (M1 1000000 (Int32.toNatClampNeg (a4 + 1))) M1) fun v4 M3 =>
  sy_bi (jfX12_thrown M3) fun v6 M5 =>
  if v6 = v2 then
    if v2 = 0 then
      if (lg_cmp (sy_rl M5 132 0) (Int32.toInt64 v4)) = 0 then
        jfL_law__771 k23 a4 M5
      else
        sy_ri 0 M5
    else
      jfL_law__771 k23 a4 M5
  else
    sy_ri 0 M5
set_option maxRecDepth 100000 in
theorem jrL_law__718 (k23 : Int32 → sy_M → sy_O) (w5 : Value) (w6 : Value) (a4 : Int32) (M : sy_M) : sy_run skL qL_law_ [(718, .aload_n 1, 1, [true, true, true, true, true, false, false]), (719, .aload_n 0, 1, []), (720, .iload 4, 2, []), (722, .iconst 1, 1, []), (723, .iadd, 1, []), (724, .iaload, 1, []), (725, .aload_n 3, 1, []), (726, .invokestatic 174, 3, []), (729, .istore 5, 2, []), (731, .aload_n 2, 1, []), (732, .aload_n 0, 1, []), (733, .iload 4, 2, []), (735, .iconst 1, 1, []), (736, .iadd, 1, []), (737, .iaload, 1, []), (738, .invokevirtual 177, 3, []), (741, .istore 6, 2, []), (743, .aload_n 2, 1, []), (744, .invokevirtual 154, 3, []), (747, .iload 5, 2, []), (749, .if_icmp .eq 5, 3, []), (752, .iconst 0, 1, []), (753, .ireturn, 1, []), (754, .iload 5, 2, []), (756, .ifCond .ne 15, 3, []), (759, .aload_n 3, 1, []), (760, .iconst 0, 1, []), (761, .laload, 1, []), (762, .iload 6, 2, []), (764, .i2l, 1, []), (765, .lcmp, 1, []), (766, .ifCond .eq 5, 3, []), (769, .iconst 0, 1, []), (770, .ireturn, 1, [])] [(326, 0, jcL_needs), (243, 0, jcX12_needs), (181, 0, jcX12_thrown)] [(771, juL_law__771 (jfL_law__771 k23))] 35 [] 718 [.ref 1000000, .ref 0, .ref 121, .ref 132, .int a4, w5, w6] [] M = jfL_law__718 k23 a4 M := rfl
theorem jtL_law__718 {k23 : Int32 → sy_M → sy_O} (hk23 : ∀ (w5 : Value) (w6 : Value) (a4 : Int32) (M : sy_M) (r : xe_R × sy_M), k23 a4 M = some r → sy_E (56) qL_law_ 23 [.ref 1000000, .ref 0, .ref 121, .ref 132, .int a4, w5, w6] [] M r) : ∀ (w5 : Value) (w6 : Value) (a4 : Int32) (M : sy_M) (r : xe_R × sy_M), jfL_law__718 k23 a4 M = some r → sy_E (56) qL_law_ 718 [.ref 1000000, .ref 0, .ref 121, .ref 132, .int a4, w5, w6] [] M r := by
  intro w5 w6 a4 M r h
  exact sy_run_by (d := 55) ((jrL_law__718 _ _ _ _ M).trans h) hkL (by decide +kernel) (sy_cs_cons (jeL_needs.deep (by decide)) (sy_cs_cons (jeX12_needs.deep (by decide)) (sy_cs_cons (jeX12_thrown.deep (by decide)) sy_cs_nil))) (sy_us_cons (jwL_law__771 (jtL_law__771 hk23)) sy_us_nil)
def jfL_law__827 (k23 : Int32 → sy_M → sy_O) (a4 : Int32) (M : sy_M) : sy_O :=
  jfL_law__3150 k23 a4 M
set_option maxRecDepth 100000 in
theorem jrL_law__827 (k23 : Int32 → sy_M → sy_O) (w5 : Value) (w6 : Value) (a4 : Int32) (M : sy_M) : sy_run skL qL_law_ [(827, .goto 2323, 3, [true, true, true, true, true, false, false])] [] [(3150, juL_law__3150 (jfL_law__3150 k23))] 2 [] 827 [.ref 1000000, .ref 0, .ref 121, .ref 132, .int a4, w5, w6] [] M = jfL_law__827 k23 a4 M := rfl
theorem jtL_law__827 {k23 : Int32 → sy_M → sy_O} (hk23 : ∀ (w5 : Value) (w6 : Value) (a4 : Int32) (M : sy_M) (r : xe_R × sy_M), k23 a4 M = some r → sy_E (56) qL_law_ 23 [.ref 1000000, .ref 0, .ref 121, .ref 132, .int a4, w5, w6] [] M r) : ∀ (w5 : Value) (w6 : Value) (a4 : Int32) (M : sy_M) (r : xe_R × sy_M), jfL_law__827 k23 a4 M = some r → sy_E (56) qL_law_ 827 [.ref 1000000, .ref 0, .ref 121, .ref 132, .int a4, w5, w6] [] M r := by
  intro w5 w6 a4 M r h
  exact sy_run_by (d := 55) ((jrL_law__827 _ _ _ _ M).trans h) hkL (by decide +kernel) sy_cs_nil (sy_us_cons (jwL_law__3150 (jtL_law__3150 hk23)) sy_us_nil)
def jfL_law__774 (k23 : Int32 → sy_M → sy_O) (a4 : Int32) (M : sy_M) : sy_O :=
  sy_bx (xe_in (a4 + 1) (M 134 0).toNatClampNeg) <|
  sy_bi (jfL_ticks (M 1000000 (Int32.toNatClampNeg (a4 + 1))) M) fun v2 M1 =>
  sy_bx (xe_in (a4 + 1) (M1 134 0).toNatClampNeg) <|
  sy_bi (jfX12_ticks (M1 1000000 (Int32.toNatClampNeg (a4 + 1))) M1) fun v4 M3 =>
  sy_bi (jfX12_thrown M3) fun v6 M5 =>
  if v6 = v2 then
    if v2 = 0 then
      if (lg_cmp (sy_rl M5 132 0) (Int32.toInt64 v4)) = 0 then
        jfL_law__827 k23 a4 M5
      else
        sy_ri 0 M5
    else
      jfL_law__827 k23 a4 M5
  else
    sy_ri 0 M5
set_option maxRecDepth 100000 in
theorem jrL_law__774 (k23 : Int32 → sy_M → sy_O) (w5 : Value) (w6 : Value) (a4 : Int32) (M : sy_M) : sy_run skL qL_law_ [(774, .aload_n 1, 1, [true, true, true, true, true, false, false]), (775, .aload_n 0, 1, []), (776, .iload 4, 2, []), (778, .iconst 1, 1, []), (779, .iadd, 1, []), (780, .iaload, 1, []), (781, .aload_n 3, 1, []), (782, .invokestatic 178, 3, []), (785, .istore 5, 2, []), (787, .aload_n 2, 1, []), (788, .aload_n 0, 1, []), (789, .iload 4, 2, []), (791, .iconst 1, 1, []), (792, .iadd, 1, []), (793, .iaload, 1, []), (794, .invokevirtual 180, 3, []), (797, .istore 6, 2, []), (799, .aload_n 2, 1, []), (800, .invokevirtual 154, 3, []), (803, .iload 5, 2, []), (805, .if_icmp .eq 5, 3, []), (808, .iconst 0, 1, []), (809, .ireturn, 1, []), (810, .iload 5, 2, []), (812, .ifCond .ne 15, 3, []), (815, .aload_n 3, 1, []), (816, .iconst 0, 1, []), (817, .laload, 1, []), (818, .iload 6, 2, []), (820, .i2l, 1, []), (821, .lcmp, 1, []), (822, .ifCond .eq 5, 3, []), (825, .iconst 0, 1, []), (826, .ireturn, 1, [])] [(327, 0, jcL_ticks), (246, 0, jcX12_ticks), (181, 0, jcX12_thrown)] [(827, juL_law__827 (jfL_law__827 k23))] 35 [] 774 [.ref 1000000, .ref 0, .ref 121, .ref 132, .int a4, w5, w6] [] M = jfL_law__774 k23 a4 M := rfl
theorem jtL_law__774 {k23 : Int32 → sy_M → sy_O} (hk23 : ∀ (w5 : Value) (w6 : Value) (a4 : Int32) (M : sy_M) (r : xe_R × sy_M), k23 a4 M = some r → sy_E (56) qL_law_ 23 [.ref 1000000, .ref 0, .ref 121, .ref 132, .int a4, w5, w6] [] M r) : ∀ (w5 : Value) (w6 : Value) (a4 : Int32) (M : sy_M) (r : xe_R × sy_M), jfL_law__774 k23 a4 M = some r → sy_E (56) qL_law_ 774 [.ref 1000000, .ref 0, .ref 121, .ref 132, .int a4, w5, w6] [] M r := by
  intro w5 w6 a4 M r h
  exact sy_run_by (d := 55) ((jrL_law__774 _ _ _ _ M).trans h) hkL (by decide +kernel) (sy_cs_cons (jeL_ticks.deep (by decide)) (sy_cs_cons (jeX12_ticks.deep (by decide)) (sy_cs_cons (jeX12_thrown.deep (by decide)) sy_cs_nil))) (sy_us_cons (jwL_law__827 (jtL_law__827 hk23)) sy_us_nil)
def jfL_law__883 (k23 : Int32 → sy_M → sy_O) (a4 : Int32) (M : sy_M) : sy_O :=
  jfL_law__3150 k23 a4 M
set_option maxRecDepth 100000 in
theorem jrL_law__883 (k23 : Int32 → sy_M → sy_O) (w5 : Value) (w6 : Value) (a4 : Int32) (M : sy_M) : sy_run skL qL_law_ [(883, .goto 2267, 3, [true, true, true, true, true, false, false])] [] [(3150, juL_law__3150 (jfL_law__3150 k23))] 2 [] 883 [.ref 1000000, .ref 0, .ref 121, .ref 132, .int a4, w5, w6] [] M = jfL_law__883 k23 a4 M := rfl
theorem jtL_law__883 {k23 : Int32 → sy_M → sy_O} (hk23 : ∀ (w5 : Value) (w6 : Value) (a4 : Int32) (M : sy_M) (r : xe_R × sy_M), k23 a4 M = some r → sy_E (56) qL_law_ 23 [.ref 1000000, .ref 0, .ref 121, .ref 132, .int a4, w5, w6] [] M r) : ∀ (w5 : Value) (w6 : Value) (a4 : Int32) (M : sy_M) (r : xe_R × sy_M), jfL_law__883 k23 a4 M = some r → sy_E (56) qL_law_ 883 [.ref 1000000, .ref 0, .ref 121, .ref 132, .int a4, w5, w6] [] M r := by
  intro w5 w6 a4 M r h
  exact sy_run_by (d := 55) ((jrL_law__883 _ _ _ _ M).trans h) hkL (by decide +kernel) sy_cs_nil (sy_us_cons (jwL_law__3150 (jtL_law__3150 hk23)) sy_us_nil)
def jfL_law__830 (k23 : Int32 → sy_M → sy_O) (a4 : Int32) (M : sy_M) : sy_O :=
  sy_bx (xe_in (a4 + 1) (M 134 0).toNatClampNeg) <|
  sy_bi (jfL_put (M 1000000 (Int32.toNatClampNeg (a4 + 1))) M) fun v2 M1 =>
  sy_bx (xe_in (a4 + 1) (M1 134 0).toNatClampNeg) <|
  sy_bi (jfX12_put (M1 1000000 (Int32.toNatClampNeg (a4 + 1))) M1) fun v4 M3 =>
  sy_bi (jfX12_thrown M3) fun v6 M5 =>
  if v6 = v2 then
    if v2 = 0 then
      if (lg_cmp (sy_rl M5 132 0) (Int32.toInt64 v4)) = 0 then
        jfL_law__883 k23 a4 M5
      else
        sy_ri 0 M5
    else
      jfL_law__883 k23 a4 M5
  else
    sy_ri 0 M5
set_option maxRecDepth 100000 in
theorem jrL_law__830 (k23 : Int32 → sy_M → sy_O) (w5 : Value) (w6 : Value) (a4 : Int32) (M : sy_M) : sy_run skL qL_law_ [(830, .aload_n 1, 1, [true, true, true, true, true, false, false]), (831, .aload_n 0, 1, []), (832, .iload 4, 2, []), (834, .iconst 1, 1, []), (835, .iadd, 1, []), (836, .iaload, 1, []), (837, .aload_n 3, 1, []), (838, .invokestatic 181, 3, []), (841, .istore 5, 2, []), (843, .aload_n 2, 1, []), (844, .aload_n 0, 1, []), (845, .iload 4, 2, []), (847, .iconst 1, 1, []), (848, .iadd, 1, []), (849, .iaload, 1, []), (850, .invokevirtual 183, 3, []), (853, .istore 6, 2, []), (855, .aload_n 2, 1, []), (856, .invokevirtual 154, 3, []), (859, .iload 5, 2, []), (861, .if_icmp .eq 5, 3, []), (864, .iconst 0, 1, []), (865, .ireturn, 1, []), (866, .iload 5, 2, []), (868, .ifCond .ne 15, 3, []), (871, .aload_n 3, 1, []), (872, .iconst 0, 1, []), (873, .laload, 1, []), (874, .iload 6, 2, []), (876, .i2l, 1, []), (877, .lcmp, 1, []), (878, .ifCond .eq 5, 3, []), (881, .iconst 0, 1, []), (882, .ireturn, 1, [])] [(328, 0, jcL_put), (247, 0, jcX12_put), (181, 0, jcX12_thrown)] [(883, juL_law__883 (jfL_law__883 k23))] 35 [] 830 [.ref 1000000, .ref 0, .ref 121, .ref 132, .int a4, w5, w6] [] M = jfL_law__830 k23 a4 M := rfl
theorem jtL_law__830 {k23 : Int32 → sy_M → sy_O} (hk23 : ∀ (w5 : Value) (w6 : Value) (a4 : Int32) (M : sy_M) (r : xe_R × sy_M), k23 a4 M = some r → sy_E (56) qL_law_ 23 [.ref 1000000, .ref 0, .ref 121, .ref 132, .int a4, w5, w6] [] M r) : ∀ (w5 : Value) (w6 : Value) (a4 : Int32) (M : sy_M) (r : xe_R × sy_M), jfL_law__830 k23 a4 M = some r → sy_E (56) qL_law_ 830 [.ref 1000000, .ref 0, .ref 121, .ref 132, .int a4, w5, w6] [] M r := by
  intro w5 w6 a4 M r h
  exact sy_run_by (d := 55) ((jrL_law__830 _ _ _ _ M).trans h) hkL (by decide +kernel) (sy_cs_cons (jeL_put.deep (by decide)) (sy_cs_cons (jeX12_put.deep (by decide)) (sy_cs_cons (jeX12_thrown.deep (by decide)) sy_cs_nil))) (sy_us_cons (jwL_law__883 (jtL_law__883 hk23)) sy_us_nil)
def jfL_law__951 (k23 : Int32 → sy_M → sy_O) (a4 : Int32) (M : sy_M) : sy_O :=
  jfL_law__3150 k23 a4 M
set_option maxRecDepth 100000 in
theorem jrL_law__951 (k23 : Int32 → sy_M → sy_O) (w5 : Value) (w6 : Value) (a4 : Int32) (M : sy_M) : sy_run skL qL_law_ [(951, .goto 2199, 3, [true, true, true, true, true, false, false])] [] [(3150, juL_law__3150 (jfL_law__3150 k23))] 2 [] 951 [.ref 1000000, .ref 0, .ref 121, .ref 132, .int a4, w5, w6] [] M = jfL_law__951 k23 a4 M := rfl
theorem jtL_law__951 {k23 : Int32 → sy_M → sy_O} (hk23 : ∀ (w5 : Value) (w6 : Value) (a4 : Int32) (M : sy_M) (r : xe_R × sy_M), k23 a4 M = some r → sy_E (56) qL_law_ 23 [.ref 1000000, .ref 0, .ref 121, .ref 132, .int a4, w5, w6] [] M r) : ∀ (w5 : Value) (w6 : Value) (a4 : Int32) (M : sy_M) (r : xe_R × sy_M), jfL_law__951 k23 a4 M = some r → sy_E (56) qL_law_ 951 [.ref 1000000, .ref 0, .ref 121, .ref 132, .int a4, w5, w6] [] M r := by
  intro w5 w6 a4 M r h
  exact sy_run_by (d := 55) ((jrL_law__951 _ _ _ _ M).trans h) hkL (by decide +kernel) sy_cs_nil (sy_us_cons (jwL_law__3150 (jtL_law__3150 hk23)) sy_us_nil)
def jfL_law__886 (k23 : Int32 → sy_M → sy_O) (a4 : Int32) (M : sy_M) : sy_O :=
  sy_bx (xe_in (a4 + 1) (M 134 0).toNatClampNeg) <|
  sy_bx (xe_in (a4 + 2) (M 134 0).toNatClampNeg) <|
  sy_bi (jfL_lend (M 1000000 (Int32.toNatClampNeg (a4 + 1))) (M 1000000 (Int32.toNatClampNeg (a4 + 2))) M) fun v2 M1 =>
  sy_bx (xe_in (a4 + 1) (M1 134 0).toNatClampNeg) <|
  sy_bx (xe_in (a4 + 2) (M1 134 0).toNatClampNeg) <|
  sy_bi (jfX12_lend (M1 1000000 (Int32.toNatClampNeg (a4 + 1))) (M1 1000000 (Int32.toNatClampNeg (a4 + 2))) M1) fun v4 M3 =>
  sy_bi (jfX12_thrown M3) fun v6 M5 =>
  if v6 = v2 then
    if v2 = 0 then
      if (lg_cmp (sy_rl M5 132 0) (Int32.toInt64 v4)) = 0 then
        jfL_law__951 k23 a4 M5
      else
        sy_ri 0 M5
    else
      jfL_law__951 k23 a4 M5
  else
    sy_ri 0 M5
set_option maxRecDepth 100000 in
theorem jrL_law__886 (k23 : Int32 → sy_M → sy_O) (w5 : Value) (w6 : Value) (a4 : Int32) (M : sy_M) : sy_run skL qL_law_ [(886, .aload_n 1, 1, [true, true, true, true, true, false, false]), (887, .aload_n 0, 1, []), (888, .iload 4, 2, []), (890, .iconst 1, 1, []), (891, .iadd, 1, []), (892, .iaload, 1, []), (893, .aload_n 0, 1, []), (894, .iload 4, 2, []), (896, .iconst 2, 1, []), (897, .iadd, 1, []), (898, .iaload, 1, []), (899, .aload_n 3, 1, []), (900, .invokestatic 184, 3, []), (903, .istore 5, 2, []), (905, .aload_n 2, 1, []), (906, .aload_n 0, 1, []), (907, .iload 4, 2, []), (909, .iconst 1, 1, []), (910, .iadd, 1, []), (911, .iaload, 1, []), (912, .aload_n 0, 1, []), (913, .iload 4, 2, []), (915, .iconst 2, 1, []), (916, .iadd, 1, []), (917, .iaload, 1, []), (918, .invokevirtual 186, 3, []), (921, .istore 6, 2, []), (923, .aload_n 2, 1, []), (924, .invokevirtual 154, 3, []), (927, .iload 5, 2, []), (929, .if_icmp .eq 5, 3, []), (932, .iconst 0, 1, []), (933, .ireturn, 1, []), (934, .iload 5, 2, []), (936, .ifCond .ne 15, 3, []), (939, .aload_n 3, 1, []), (940, .iconst 0, 1, []), (941, .laload, 1, []), (942, .iload 6, 2, []), (944, .i2l, 1, []), (945, .lcmp, 1, []), (946, .ifCond .eq 5, 3, []), (949, .iconst 0, 1, []), (950, .ireturn, 1, [])] [(329, 0, jcL_lend), (248, 0, jcX12_lend), (181, 0, jcX12_thrown)] [(951, juL_law__951 (jfL_law__951 k23))] 45 [] 886 [.ref 1000000, .ref 0, .ref 121, .ref 132, .int a4, w5, w6] [] M = jfL_law__886 k23 a4 M := rfl
theorem jtL_law__886 {k23 : Int32 → sy_M → sy_O} (hk23 : ∀ (w5 : Value) (w6 : Value) (a4 : Int32) (M : sy_M) (r : xe_R × sy_M), k23 a4 M = some r → sy_E (56) qL_law_ 23 [.ref 1000000, .ref 0, .ref 121, .ref 132, .int a4, w5, w6] [] M r) : ∀ (w5 : Value) (w6 : Value) (a4 : Int32) (M : sy_M) (r : xe_R × sy_M), jfL_law__886 k23 a4 M = some r → sy_E (56) qL_law_ 886 [.ref 1000000, .ref 0, .ref 121, .ref 132, .int a4, w5, w6] [] M r := by
  intro w5 w6 a4 M r h
  exact sy_run_by (d := 55) ((jrL_law__886 _ _ _ _ M).trans h) hkL (by decide +kernel) (sy_cs_cons (jeL_lend.deep (by decide)) (sy_cs_cons (jeX12_lend.deep (by decide)) (sy_cs_cons (jeX12_thrown.deep (by decide)) sy_cs_nil))) (sy_us_cons (jwL_law__951 (jtL_law__951 hk23)) sy_us_nil)
def jfL_law__1019 (k23 : Int32 → sy_M → sy_O) (a4 : Int32) (M : sy_M) : sy_O :=
  jfL_law__3150 k23 a4 M
set_option maxRecDepth 100000 in
theorem jrL_law__1019 (k23 : Int32 → sy_M → sy_O) (w5 : Value) (w6 : Value) (a4 : Int32) (M : sy_M) : sy_run skL qL_law_ [(1019, .goto 2131, 3, [true, true, true, true, true, false, false])] [] [(3150, juL_law__3150 (jfL_law__3150 k23))] 2 [] 1019 [.ref 1000000, .ref 0, .ref 121, .ref 132, .int a4, w5, w6] [] M = jfL_law__1019 k23 a4 M := rfl
theorem jtL_law__1019 {k23 : Int32 → sy_M → sy_O} (hk23 : ∀ (w5 : Value) (w6 : Value) (a4 : Int32) (M : sy_M) (r : xe_R × sy_M), k23 a4 M = some r → sy_E (56) qL_law_ 23 [.ref 1000000, .ref 0, .ref 121, .ref 132, .int a4, w5, w6] [] M r) : ∀ (w5 : Value) (w6 : Value) (a4 : Int32) (M : sy_M) (r : xe_R × sy_M), jfL_law__1019 k23 a4 M = some r → sy_E (56) qL_law_ 1019 [.ref 1000000, .ref 0, .ref 121, .ref 132, .int a4, w5, w6] [] M r := by
  intro w5 w6 a4 M r h
  exact sy_run_by (d := 55) ((jrL_law__1019 _ _ _ _ M).trans h) hkL (by decide +kernel) sy_cs_nil (sy_us_cons (jwL_law__3150 (jtL_law__3150 hk23)) sy_us_nil)
def jfL_law__954 (k23 : Int32 → sy_M → sy_O) (a4 : Int32) (M : sy_M) : sy_O :=
  sy_bx (xe_in (a4 + 1) (M 134 0).toNatClampNeg) <|
  sy_bx (xe_in (a4 + 2) (M 134 0).toNatClampNeg) <|
  sy_bi (jfL_repay (M 1000000 (Int32.toNatClampNeg (a4 + 1))) (M 1000000 (Int32.toNatClampNeg (a4 + 2))) M) fun v2 M1 =>
  sy_bx (xe_in (a4 + 1) (M1 134 0).toNatClampNeg) <|
  sy_bx (xe_in (a4 + 2) (M1 134 0).toNatClampNeg) <|
  sy_bi (jfX12_repay (M1 1000000 (Int32.toNatClampNeg (a4 + 1))) (M1 1000000 (Int32.toNatClampNeg (a4 + 2))) M1) fun v4 M3 =>
  sy_bi (jfX12_thrown M3) fun v6 M5 =>
  if v6 = v2 then
    if v2 = 0 then
      if (lg_cmp (sy_rl M5 132 0) (Int32.toInt64 v4)) = 0 then
        jfL_law__1019 k23 a4 M5
      else
        sy_ri 0 M5
    else
      jfL_law__1019 k23 a4 M5
  else
    sy_ri 0 M5
set_option maxRecDepth 100000 in
theorem jrL_law__954 (k23 : Int32 → sy_M → sy_O) (w5 : Value) (w6 : Value) (a4 : Int32) (M : sy_M) : sy_run skL qL_law_ [(954, .aload_n 1, 1, [true, true, true, true, true, false, false]), (955, .aload_n 0, 1, []), (956, .iload 4, 2, []), (958, .iconst 1, 1, []), (959, .iadd, 1, []), (960, .iaload, 1, []), (961, .aload_n 0, 1, []), (962, .iload 4, 2, []), (964, .iconst 2, 1, []), (965, .iadd, 1, []), (966, .iaload, 1, []), (967, .aload_n 3, 1, []), (968, .invokestatic 187, 3, []), (971, .istore 5, 2, []), (973, .aload_n 2, 1, []), (974, .aload_n 0, 1, []), (975, .iload 4, 2, []), (977, .iconst 1, 1, []), (978, .iadd, 1, []), (979, .iaload, 1, []), (980, .aload_n 0, 1, []), (981, .iload 4, 2, []), (983, .iconst 2, 1, []), (984, .iadd, 1, []), (985, .iaload, 1, []), (986, .invokevirtual 189, 3, []), (989, .istore 6, 2, []), (991, .aload_n 2, 1, []), (992, .invokevirtual 154, 3, []), (995, .iload 5, 2, []), (997, .if_icmp .eq 5, 3, []), (1000, .iconst 0, 1, []), (1001, .ireturn, 1, []), (1002, .iload 5, 2, []), (1004, .ifCond .ne 15, 3, []), (1007, .aload_n 3, 1, []), (1008, .iconst 0, 1, []), (1009, .laload, 1, []), (1010, .iload 6, 2, []), (1012, .i2l, 1, []), (1013, .lcmp, 1, []), (1014, .ifCond .eq 5, 3, []), (1017, .iconst 0, 1, []), (1018, .ireturn, 1, [])] [(330, 0, jcL_repay), (249, 0, jcX12_repay), (181, 0, jcX12_thrown)] [(1019, juL_law__1019 (jfL_law__1019 k23))] 45 [] 954 [.ref 1000000, .ref 0, .ref 121, .ref 132, .int a4, w5, w6] [] M = jfL_law__954 k23 a4 M := rfl
theorem jtL_law__954 {k23 : Int32 → sy_M → sy_O} (hk23 : ∀ (w5 : Value) (w6 : Value) (a4 : Int32) (M : sy_M) (r : xe_R × sy_M), k23 a4 M = some r → sy_E (56) qL_law_ 23 [.ref 1000000, .ref 0, .ref 121, .ref 132, .int a4, w5, w6] [] M r) : ∀ (w5 : Value) (w6 : Value) (a4 : Int32) (M : sy_M) (r : xe_R × sy_M), jfL_law__954 k23 a4 M = some r → sy_E (56) qL_law_ 954 [.ref 1000000, .ref 0, .ref 121, .ref 132, .int a4, w5, w6] [] M r := by
  intro w5 w6 a4 M r h
  exact sy_run_by (d := 55) ((jrL_law__954 _ _ _ _ M).trans h) hkL (by decide +kernel) (sy_cs_cons (jeL_repay.deep (by decide)) (sy_cs_cons (jeX12_repay.deep (by decide)) (sy_cs_cons (jeX12_thrown.deep (by decide)) sy_cs_nil))) (sy_us_cons (jwL_law__1019 (jtL_law__1019 hk23)) sy_us_nil)
def jfL_law__1087 (k23 : Int32 → sy_M → sy_O) (a4 : Int32) (M : sy_M) : sy_O :=
  jfL_law__3150 k23 a4 M
set_option maxRecDepth 100000 in
theorem jrL_law__1087 (k23 : Int32 → sy_M → sy_O) (w5 : Value) (w6 : Value) (a4 : Int32) (M : sy_M) : sy_run skL qL_law_ [(1087, .goto 2063, 3, [true, true, true, true, true, false, false])] [] [(3150, juL_law__3150 (jfL_law__3150 k23))] 2 [] 1087 [.ref 1000000, .ref 0, .ref 121, .ref 132, .int a4, w5, w6] [] M = jfL_law__1087 k23 a4 M := rfl
theorem jtL_law__1087 {k23 : Int32 → sy_M → sy_O} (hk23 : ∀ (w5 : Value) (w6 : Value) (a4 : Int32) (M : sy_M) (r : xe_R × sy_M), k23 a4 M = some r → sy_E (56) qL_law_ 23 [.ref 1000000, .ref 0, .ref 121, .ref 132, .int a4, w5, w6] [] M r) : ∀ (w5 : Value) (w6 : Value) (a4 : Int32) (M : sy_M) (r : xe_R × sy_M), jfL_law__1087 k23 a4 M = some r → sy_E (56) qL_law_ 1087 [.ref 1000000, .ref 0, .ref 121, .ref 132, .int a4, w5, w6] [] M r := by
  intro w5 w6 a4 M r h
  exact sy_run_by (d := 55) ((jrL_law__1087 _ _ _ _ M).trans h) hkL (by decide +kernel) sy_cs_nil (sy_us_cons (jwL_law__3150 (jtL_law__3150 hk23)) sy_us_nil)
def jfL_law__1022 (k23 : Int32 → sy_M → sy_O) (a4 : Int32) (M : sy_M) : sy_O :=
  sy_bx (xe_in (a4 + 1) (M 134 0).toNatClampNeg) <|
  sy_bx (xe_in (a4 + 2) (M 134 0).toNatClampNeg) <|
  sy_bi (jfL_waits (M 1000000 (Int32.toNatClampNeg (a4 + 1))) (M 1000000 (Int32.toNatClampNeg (a4 + 2))) M) fun v2 M1 =>
  sy_bx (xe_in (a4 + 1) (M1 134 0).toNatClampNeg) <|
  sy_bx (xe_in (a4 + 2) (M1 134 0).toNatClampNeg) <|
  sy_bi (jfX12_waits (M1 1000000 (Int32.toNatClampNeg (a4 + 1))) (M1 1000000 (Int32.toNatClampNeg (a4 + 2))) M1) fun v4 M3 =>
  sy_bi (jfX12_thrown M3) fun v6 M5 =>
  if v6 = v2 then
    if v2 = 0 then
      if (lg_cmp (sy_rl M5 132 0) (Int32.toInt64 v4)) = 0 then
        jfL_law__1087 k23 a4 M5
      else
        sy_ri 0 M5
    else
      jfL_law__1087 k23 a4 M5
  else
    sy_ri 0 M5
set_option maxRecDepth 100000 in
theorem jrL_law__1022 (k23 : Int32 → sy_M → sy_O) (w5 : Value) (w6 : Value) (a4 : Int32) (M : sy_M) : sy_run skL qL_law_ [(1022, .aload_n 1, 1, [true, true, true, true, true, false, false]), (1023, .aload_n 0, 1, []), (1024, .iload 4, 2, []), (1026, .iconst 1, 1, []), (1027, .iadd, 1, []), (1028, .iaload, 1, []), (1029, .aload_n 0, 1, []), (1030, .iload 4, 2, []), (1032, .iconst 2, 1, []), (1033, .iadd, 1, []), (1034, .iaload, 1, []), (1035, .aload_n 3, 1, []), (1036, .invokestatic 190, 3, []), (1039, .istore 5, 2, []), (1041, .aload_n 2, 1, []), (1042, .aload_n 0, 1, []), (1043, .iload 4, 2, []), (1045, .iconst 1, 1, []), (1046, .iadd, 1, []), (1047, .iaload, 1, []), (1048, .aload_n 0, 1, []), (1049, .iload 4, 2, []), (1051, .iconst 2, 1, []), (1052, .iadd, 1, []), (1053, .iaload, 1, []), (1054, .invokevirtual 192, 3, []), (1057, .istore 6, 2, []), (1059, .aload_n 2, 1, []), (1060, .invokevirtual 154, 3, []), (1063, .iload 5, 2, []), (1065, .if_icmp .eq 5, 3, []), (1068, .iconst 0, 1, []), (1069, .ireturn, 1, []), (1070, .iload 5, 2, []), (1072, .ifCond .ne 15, 3, []), (1075, .aload_n 3, 1, []), (1076, .iconst 0, 1, []), (1077, .laload, 1, []), (1078, .iload 6, 2, []), (1080, .i2l, 1, []), (1081, .lcmp, 1, []), (1082, .ifCond .eq 5, 3, []), (1085, .iconst 0, 1, []), (1086, .ireturn, 1, [])] [(331, 0, jcL_waits), (250, 0, jcX12_waits), (181, 0, jcX12_thrown)] [(1087, juL_law__1087 (jfL_law__1087 k23))] 45 [] 1022 [.ref 1000000, .ref 0, .ref 121, .ref 132, .int a4, w5, w6] [] M = jfL_law__1022 k23 a4 M := rfl
theorem jtL_law__1022 {k23 : Int32 → sy_M → sy_O} (hk23 : ∀ (w5 : Value) (w6 : Value) (a4 : Int32) (M : sy_M) (r : xe_R × sy_M), k23 a4 M = some r → sy_E (56) qL_law_ 23 [.ref 1000000, .ref 0, .ref 121, .ref 132, .int a4, w5, w6] [] M r) : ∀ (w5 : Value) (w6 : Value) (a4 : Int32) (M : sy_M) (r : xe_R × sy_M), jfL_law__1022 k23 a4 M = some r → sy_E (56) qL_law_ 1022 [.ref 1000000, .ref 0, .ref 121, .ref 132, .int a4, w5, w6] [] M r := by
  intro w5 w6 a4 M r h
  exact sy_run_by (d := 55) ((jrL_law__1022 _ _ _ _ M).trans h) hkL (by decide +kernel) (sy_cs_cons (jeL_waits.deep (by decide)) (sy_cs_cons (jeX12_waits.deep (by decide)) (sy_cs_cons (jeX12_thrown.deep (by decide)) sy_cs_nil))) (sy_us_cons (jwL_law__1087 (jtL_law__1087 hk23)) sy_us_nil)
def jfL_law__1143 (k23 : Int32 → sy_M → sy_O) (a4 : Int32) (M : sy_M) : sy_O :=
  jfL_law__3150 k23 a4 M
set_option maxRecDepth 100000 in
theorem jrL_law__1143 (k23 : Int32 → sy_M → sy_O) (w5 : Value) (w6 : Value) (a4 : Int32) (M : sy_M) : sy_run skL qL_law_ [(1143, .goto 2007, 3, [true, true, true, true, true, false, false])] [] [(3150, juL_law__3150 (jfL_law__3150 k23))] 2 [] 1143 [.ref 1000000, .ref 0, .ref 121, .ref 132, .int a4, w5, w6] [] M = jfL_law__1143 k23 a4 M := rfl
theorem jtL_law__1143 {k23 : Int32 → sy_M → sy_O} (hk23 : ∀ (w5 : Value) (w6 : Value) (a4 : Int32) (M : sy_M) (r : xe_R × sy_M), k23 a4 M = some r → sy_E (56) qL_law_ 23 [.ref 1000000, .ref 0, .ref 121, .ref 132, .int a4, w5, w6] [] M r) : ∀ (w5 : Value) (w6 : Value) (a4 : Int32) (M : sy_M) (r : xe_R × sy_M), jfL_law__1143 k23 a4 M = some r → sy_E (56) qL_law_ 1143 [.ref 1000000, .ref 0, .ref 121, .ref 132, .int a4, w5, w6] [] M r := by
  intro w5 w6 a4 M r h
  exact sy_run_by (d := 55) ((jrL_law__1143 _ _ _ _ M).trans h) hkL (by decide +kernel) sy_cs_nil (sy_us_cons (jwL_law__3150 (jtL_law__3150 hk23)) sy_us_nil)
def jfL_law__1090 (k23 : Int32 → sy_M → sy_O) (a4 : Int32) (M : sy_M) : sy_O :=
  sy_bx (xe_in (a4 + 1) (M 134 0).toNatClampNeg) <|
  sy_bi (jfL_price (M 1000000 (Int32.toNatClampNeg (a4 + 1))) M) fun v2 M1 =>
  sy_bx (xe_in (a4 + 1) (M1 134 0).toNatClampNeg) <|
  sy_bi (jfX12_price (M1 1000000 (Int32.toNatClampNeg (a4 + 1))) M1) fun v4 M3 =>
  sy_bi (jfX12_thrown M3) fun v6 M5 =>
  if v6 = v2 then
    if v2 = 0 then
      if (lg_cmp (sy_rl M5 132 0) (Int32.toInt64 v4)) = 0 then
        jfL_law__1143 k23 a4 M5
      else
        sy_ri 0 M5
    else
      jfL_law__1143 k23 a4 M5
  else
    sy_ri 0 M5
set_option maxRecDepth 100000 in
theorem jrL_law__1090 (k23 : Int32 → sy_M → sy_O) (w5 : Value) (w6 : Value) (a4 : Int32) (M : sy_M) : sy_run skL qL_law_ [(1090, .aload_n 1, 1, [true, true, true, true, true, false, false]), (1091, .aload_n 0, 1, []), (1092, .iload 4, 2, []), (1094, .iconst 1, 1, []), (1095, .iadd, 1, []), (1096, .iaload, 1, []), (1097, .aload_n 3, 1, []), (1098, .invokestatic 193, 3, []), (1101, .istore 5, 2, []), (1103, .aload_n 2, 1, []), (1104, .aload_n 0, 1, []), (1105, .iload 4, 2, []), (1107, .iconst 1, 1, []), (1108, .iadd, 1, []), (1109, .iaload, 1, []), (1110, .invokevirtual 195, 3, []), (1113, .istore 6, 2, []), (1115, .aload_n 2, 1, []), (1116, .invokevirtual 154, 3, []), (1119, .iload 5, 2, []), (1121, .if_icmp .eq 5, 3, []), (1124, .iconst 0, 1, []), (1125, .ireturn, 1, []), (1126, .iload 5, 2, []), (1128, .ifCond .ne 15, 3, []), (1131, .aload_n 3, 1, []), (1132, .iconst 0, 1, []), (1133, .laload, 1, []), (1134, .iload 6, 2, []), (1136, .i2l, 1, []), (1137, .lcmp, 1, []), (1138, .ifCond .eq 5, 3, []), (1141, .iconst 0, 1, []), (1142, .ireturn, 1, [])] [(332, 0, jcL_price), (251, 0, jcX12_price), (181, 0, jcX12_thrown)] [(1143, juL_law__1143 (jfL_law__1143 k23))] 35 [] 1090 [.ref 1000000, .ref 0, .ref 121, .ref 132, .int a4, w5, w6] [] M = jfL_law__1090 k23 a4 M := rfl
theorem jtL_law__1090 {k23 : Int32 → sy_M → sy_O} (hk23 : ∀ (w5 : Value) (w6 : Value) (a4 : Int32) (M : sy_M) (r : xe_R × sy_M), k23 a4 M = some r → sy_E (56) qL_law_ 23 [.ref 1000000, .ref 0, .ref 121, .ref 132, .int a4, w5, w6] [] M r) : ∀ (w5 : Value) (w6 : Value) (a4 : Int32) (M : sy_M) (r : xe_R × sy_M), jfL_law__1090 k23 a4 M = some r → sy_E (56) qL_law_ 1090 [.ref 1000000, .ref 0, .ref 121, .ref 132, .int a4, w5, w6] [] M r := by
  intro w5 w6 a4 M r h
  exact sy_run_by (d := 55) ((jrL_law__1090 _ _ _ _ M).trans h) hkL (by decide +kernel) (sy_cs_cons (jeL_price.deep (by decide)) (sy_cs_cons (jeX12_price.deep (by decide)) (sy_cs_cons (jeX12_thrown.deep (by decide)) sy_cs_nil))) (sy_us_cons (jwL_law__1143 (jtL_law__1143 hk23)) sy_us_nil)
def jfL_law__1211 (k23 : Int32 → sy_M → sy_O) (a4 : Int32) (M : sy_M) : sy_O :=
  jfL_law__3150 k23 a4 M
set_option maxRecDepth 100000 in
theorem jrL_law__1211 (k23 : Int32 → sy_M → sy_O) (w5 : Value) (w6 : Value) (a4 : Int32) (M : sy_M) : sy_run skL qL_law_ [(1211, .goto 1939, 3, [true, true, true, true, true, false, false])] [] [(3150, juL_law__3150 (jfL_law__3150 k23))] 2 [] 1211 [.ref 1000000, .ref 0, .ref 121, .ref 132, .int a4, w5, w6] [] M = jfL_law__1211 k23 a4 M := rfl
theorem jtL_law__1211 {k23 : Int32 → sy_M → sy_O} (hk23 : ∀ (w5 : Value) (w6 : Value) (a4 : Int32) (M : sy_M) (r : xe_R × sy_M), k23 a4 M = some r → sy_E (56) qL_law_ 23 [.ref 1000000, .ref 0, .ref 121, .ref 132, .int a4, w5, w6] [] M r) : ∀ (w5 : Value) (w6 : Value) (a4 : Int32) (M : sy_M) (r : xe_R × sy_M), jfL_law__1211 k23 a4 M = some r → sy_E (56) qL_law_ 1211 [.ref 1000000, .ref 0, .ref 121, .ref 132, .int a4, w5, w6] [] M r := by
  intro w5 w6 a4 M r h
  exact sy_run_by (d := 55) ((jrL_law__1211 _ _ _ _ M).trans h) hkL (by decide +kernel) sy_cs_nil (sy_us_cons (jwL_law__3150 (jtL_law__3150 hk23)) sy_us_nil)
def jfL_law__1146 (k23 : Int32 → sy_M → sy_O) (a4 : Int32) (M : sy_M) : sy_O :=
  sy_bx (xe_in (a4 + 1) (M 134 0).toNatClampNeg) <|
  sy_bx (xe_in (a4 + 2) (M 134 0).toNatClampNeg) <|
  sy_bi (jfL_change (M 1000000 (Int32.toNatClampNeg (a4 + 1))) (M 1000000 (Int32.toNatClampNeg (a4 + 2))) M) fun v2 M1 =>
  sy_bx (xe_in (a4 + 1) (M1 134 0).toNatClampNeg) <|
  sy_bx (xe_in (a4 + 2) (M1 134 0).toNatClampNeg) <|
  sy_bi (jfX12_change (M1 1000000 (Int32.toNatClampNeg (a4 + 1))) (M1 1000000 (Int32.toNatClampNeg (a4 + 2))) M1) fun v4 M3 =>
  sy_bi (jfX12_thrown M3) fun v6 M5 =>
  if v6 = v2 then
    if v2 = 0 then
      if (lg_cmp (sy_rl M5 132 0) (Int32.toInt64 v4)) = 0 then
        jfL_law__1211 k23 a4 M5
      else
        sy_ri 0 M5
    else
      jfL_law__1211 k23 a4 M5
  else
    sy_ri 0 M5
set_option maxRecDepth 100000 in
theorem jrL_law__1146 (k23 : Int32 → sy_M → sy_O) (w5 : Value) (w6 : Value) (a4 : Int32) (M : sy_M) : sy_run skL qL_law_ [(1146, .aload_n 1, 1, [true, true, true, true, true, false, false]), (1147, .aload_n 0, 1, []), (1148, .iload 4, 2, []), (1150, .iconst 1, 1, []), (1151, .iadd, 1, []), (1152, .iaload, 1, []), (1153, .aload_n 0, 1, []), (1154, .iload 4, 2, []), (1156, .iconst 2, 1, []), (1157, .iadd, 1, []), (1158, .iaload, 1, []), (1159, .aload_n 3, 1, []), (1160, .invokestatic 196, 3, []), (1163, .istore 5, 2, []), (1165, .aload_n 2, 1, []), (1166, .aload_n 0, 1, []), (1167, .iload 4, 2, []), (1169, .iconst 1, 1, []), (1170, .iadd, 1, []), (1171, .iaload, 1, []), (1172, .aload_n 0, 1, []), (1173, .iload 4, 2, []), (1175, .iconst 2, 1, []), (1176, .iadd, 1, []), (1177, .iaload, 1, []), (1178, .invokevirtual 198, 3, []), (1181, .istore 6, 2, []), (1183, .aload_n 2, 1, []), (1184, .invokevirtual 154, 3, []), (1187, .iload 5, 2, []), (1189, .if_icmp .eq 5, 3, []), (1192, .iconst 0, 1, []), (1193, .ireturn, 1, []), (1194, .iload 5, 2, []), (1196, .ifCond .ne 15, 3, []), (1199, .aload_n 3, 1, []), (1200, .iconst 0, 1, []), (1201, .laload, 1, []), (1202, .iload 6, 2, []), (1204, .i2l, 1, []), (1205, .lcmp, 1, []), (1206, .ifCond .eq 5, 3, []), (1209, .iconst 0, 1, []), (1210, .ireturn, 1, [])] [(333, 0, jcL_change), (253, 0, jcX12_change), (181, 0, jcX12_thrown)] [(1211, juL_law__1211 (jfL_law__1211 k23))] 45 [] 1146 [.ref 1000000, .ref 0, .ref 121, .ref 132, .int a4, w5, w6] [] M = jfL_law__1146 k23 a4 M := rfl
theorem jtL_law__1146 {k23 : Int32 → sy_M → sy_O} (hk23 : ∀ (w5 : Value) (w6 : Value) (a4 : Int32) (M : sy_M) (r : xe_R × sy_M), k23 a4 M = some r → sy_E (56) qL_law_ 23 [.ref 1000000, .ref 0, .ref 121, .ref 132, .int a4, w5, w6] [] M r) : ∀ (w5 : Value) (w6 : Value) (a4 : Int32) (M : sy_M) (r : xe_R × sy_M), jfL_law__1146 k23 a4 M = some r → sy_E (56) qL_law_ 1146 [.ref 1000000, .ref 0, .ref 121, .ref 132, .int a4, w5, w6] [] M r := by
  intro w5 w6 a4 M r h
  exact sy_run_by (d := 55) ((jrL_law__1146 _ _ _ _ M).trans h) hkL (by decide +kernel) (sy_cs_cons (jeL_change.deep (by decide)) (sy_cs_cons (jeX12_change.deep (by decide)) (sy_cs_cons (jeX12_thrown.deep (by decide)) sy_cs_nil))) (sy_us_cons (jwL_law__1211 (jtL_law__1211 hk23)) sy_us_nil)
def jfL_law__1291 (k23 : Int32 → sy_M → sy_O) (a4 : Int32) (M : sy_M) : sy_O :=
  jfL_law__3150 k23 a4 M
set_option maxRecDepth 100000 in
theorem jrL_law__1291 (k23 : Int32 → sy_M → sy_O) (w5 : Value) (w6 : Value) (a4 : Int32) (M : sy_M) : sy_run skL qL_law_ [(1291, .goto 1859, 3, [true, true, true, true, true, false, false])] [] [(3150, juL_law__3150 (jfL_law__3150 k23))] 2 [] 1291 [.ref 1000000, .ref 0, .ref 121, .ref 132, .int a4, w5, w6] [] M = jfL_law__1291 k23 a4 M := rfl
theorem jtL_law__1291 {k23 : Int32 → sy_M → sy_O} (hk23 : ∀ (w5 : Value) (w6 : Value) (a4 : Int32) (M : sy_M) (r : xe_R × sy_M), k23 a4 M = some r → sy_E (56) qL_law_ 23 [.ref 1000000, .ref 0, .ref 121, .ref 132, .int a4, w5, w6] [] M r) : ∀ (w5 : Value) (w6 : Value) (a4 : Int32) (M : sy_M) (r : xe_R × sy_M), jfL_law__1291 k23 a4 M = some r → sy_E (56) qL_law_ 1291 [.ref 1000000, .ref 0, .ref 121, .ref 132, .int a4, w5, w6] [] M r := by
  intro w5 w6 a4 M r h
  exact sy_run_by (d := 55) ((jrL_law__1291 _ _ _ _ M).trans h) hkL (by decide +kernel) sy_cs_nil (sy_us_cons (jwL_law__3150 (jtL_law__3150 hk23)) sy_us_nil)
def jfL_law__1263 (k23 : Int32 → sy_M → sy_O) (a4 : Int32) (a5 : Int32) (a6 : Int32) (M : sy_M) : sy_O :=
  sy_bi (jfX12_thrown M) fun v2 M1 =>
  if v2 = a5 then
    if a5 = 0 then
      if (lg_cmp (sy_rl M1 132 0) (Int32.toInt64 a6)) = 0 then
        jfL_law__1291 k23 a4 M1
      else
        sy_ri 0 M1
    else
      jfL_law__1291 k23 a4 M1
  else
    sy_ri 0 M1
set_option maxRecDepth 100000 in
theorem jrL_law__1263 (k23 : Int32 → sy_M → sy_O) (a4 : Int32) (a5 : Int32) (a6 : Int32) (M : sy_M) : sy_run skL qL_law_ [(1263, .aload_n 2, 1, []), (1264, .invokevirtual 154, 3, []), (1267, .iload 5, 2, []), (1269, .if_icmp .eq 5, 3, []), (1272, .iconst 0, 1, []), (1273, .ireturn, 1, []), (1274, .iload 5, 2, []), (1276, .ifCond .ne 15, 3, []), (1279, .aload_n 3, 1, []), (1280, .iconst 0, 1, []), (1281, .laload, 1, []), (1282, .iload 6, 2, []), (1284, .i2l, 1, []), (1285, .lcmp, 1, []), (1286, .ifCond .eq 5, 3, []), (1289, .iconst 0, 1, []), (1290, .ireturn, 1, [])] [(181, 0, jcX12_thrown)] [(1291, juL_law__1291 (jfL_law__1291 k23))] 18 [] 1263 [.ref 1000000, .ref 0, .ref 121, .ref 132, .int a4, .int a5, .int a6] [] M = jfL_law__1263 k23 a4 a5 a6 M := rfl
theorem jtL_law__1263 {k23 : Int32 → sy_M → sy_O} (hk23 : ∀ (w5 : Value) (w6 : Value) (a4 : Int32) (M : sy_M) (r : xe_R × sy_M), k23 a4 M = some r → sy_E (56) qL_law_ 23 [.ref 1000000, .ref 0, .ref 121, .ref 132, .int a4, w5, w6] [] M r) : ∀ (a4 : Int32) (a5 : Int32) (a6 : Int32) (M : sy_M) (r : xe_R × sy_M), jfL_law__1263 k23 a4 a5 a6 M = some r → sy_E (56) qL_law_ 1263 [.ref 1000000, .ref 0, .ref 121, .ref 132, .int a4, .int a5, .int a6] [] M r := by
  intro a4 a5 a6 M r h
  exact sy_run_by (d := 55) ((jrL_law__1263 _ _ _ _ M).trans h) hkL (by decide +kernel) (sy_cs_cons (jeX12_thrown.deep (by decide)) sy_cs_nil) (sy_us_cons (jwL_law__1291 (jtL_law__1291 hk23)) sy_us_nil)
def jfL_law__1214 (k23 : Int32 → sy_M → sy_O) (a4 : Int32) (M : sy_M) : sy_O :=
  sy_bx (xe_in (a4 + 1) (M 134 0).toNatClampNeg) <|
  sy_bx (xe_in (a4 + 2) (M 134 0).toNatClampNeg) <|
  sy_bx (xe_in (a4 + 3) (M 134 0).toNatClampNeg) <|
  sy_bi (jfL_home (M 1000000 (Int32.toNatClampNeg (a4 + 1))) (M 1000000 (Int32.toNatClampNeg (a4 + 2))) (M 1000000 (Int32.toNatClampNeg (a4 + 3))) M) fun v2 M1 =>
  sy_bx (xe_in (a4 + 1) (M1 134 0).toNatClampNeg) <|
  sy_bx (xe_in (a4 + 2) (M1 134 0).toNatClampNeg) <|
  sy_bx (xe_in (a4 + 3) (M1 134 0).toNatClampNeg) <|
  sy_bi (jfX12_home (M1 1000000 (Int32.toNatClampNeg (a4 + 1))) (M1 1000000 (Int32.toNatClampNeg (a4 + 2))) (M1 1000000 (Int32.toNatClampNeg (a4 + 3))) M1) fun v4 M3 =>
  jfL_law__1263 k23 a4 v2 v4 M3
set_option maxRecDepth 100000 in
theorem jrL_law__1214 (k23 : Int32 → sy_M → sy_O) (w5 : Value) (w6 : Value) (a4 : Int32) (M : sy_M) : sy_run skL qL_law_ [(1214, .aload_n 1, 1, [true, true, true, true, true, false, false]), (1215, .aload_n 0, 1, []), (1216, .iload 4, 2, []), (1218, .iconst 1, 1, []), (1219, .iadd, 1, []), (1220, .iaload, 1, []), (1221, .aload_n 0, 1, []), (1222, .iload 4, 2, []), (1224, .iconst 2, 1, []), (1225, .iadd, 1, []), (1226, .iaload, 1, []), (1227, .aload_n 0, 1, []), (1228, .iload 4, 2, []), (1230, .iconst 3, 1, []), (1231, .iadd, 1, []), (1232, .iaload, 1, []), (1233, .aload_n 3, 1, []), (1234, .invokestatic 199, 3, []), (1237, .istore 5, 2, []), (1239, .aload_n 2, 1, []), (1240, .aload_n 0, 1, []), (1241, .iload 4, 2, []), (1243, .iconst 1, 1, []), (1244, .iadd, 1, []), (1245, .iaload, 1, []), (1246, .aload_n 0, 1, []), (1247, .iload 4, 2, []), (1249, .iconst 2, 1, []), (1250, .iadd, 1, []), (1251, .iaload, 1, []), (1252, .aload_n 0, 1, []), (1253, .iload 4, 2, []), (1255, .iconst 3, 1, []), (1256, .iadd, 1, []), (1257, .iaload, 1, []), (1258, .invokevirtual 202, 3, []), (1261, .istore 6, 2, [])] [(334, 0, jcL_home), (254, 0, jcX12_home)] [(1263, juL_law__1263 (jfL_law__1263 k23))] 38 [] 1214 [.ref 1000000, .ref 0, .ref 121, .ref 132, .int a4, w5, w6] [] M = jfL_law__1214 k23 a4 M := rfl
theorem jtL_law__1214 {k23 : Int32 → sy_M → sy_O} (hk23 : ∀ (w5 : Value) (w6 : Value) (a4 : Int32) (M : sy_M) (r : xe_R × sy_M), k23 a4 M = some r → sy_E (56) qL_law_ 23 [.ref 1000000, .ref 0, .ref 121, .ref 132, .int a4, w5, w6] [] M r) : ∀ (w5 : Value) (w6 : Value) (a4 : Int32) (M : sy_M) (r : xe_R × sy_M), jfL_law__1214 k23 a4 M = some r → sy_E (56) qL_law_ 1214 [.ref 1000000, .ref 0, .ref 121, .ref 132, .int a4, w5, w6] [] M r := by
  intro w5 w6 a4 M r h
  exact sy_run_by (d := 55) ((jrL_law__1214 _ _ _ _ M).trans h) hkL (by decide +kernel) (sy_cs_cons (jeL_home.deep (by decide)) (sy_cs_cons (jeX12_home.deep (by decide)) sy_cs_nil)) (sy_us_cons (jwL_law__1263 (jtL_law__1263 hk23)) sy_us_nil)
def jfL_law__1294 (k23 : Int32 → sy_M → sy_O) (a4 : Int32) (M : sy_M) : sy_O :=
  sy_bi (jfX11_empty M) fun v2 M1 =>
  sy_bi (jfX12_empty M1) fun v4 M3 =>
  if v2 = v4 then
    jfL_law__3150 k23 a4 M3
  else
    sy_ri 0 M3
set_option maxRecDepth 100000 in
theorem jrL_law__1294 (k23 : Int32 → sy_M → sy_O) (w5 : Value) (w6 : Value) (a4 : Int32) (M : sy_M) : sy_run skL qL_law_ [(1294, .aload_n 1, 1, [true, true, true, true, true, false, false]), (1295, .invokevirtual 203, 3, []), (1298, .aload_n 2, 1, []), (1299, .invokevirtual 206, 3, []), (1302, .if_icmp .eq 1848, 3, []), (1305, .iconst 0, 1, []), (1306, .ireturn, 1, [])] [(109, 0, jcX11_empty), (255, 0, jcX12_empty)] [(3150, juL_law__3150 (jfL_law__3150 k23))] 8 [] 1294 [.ref 1000000, .ref 0, .ref 121, .ref 132, .int a4, w5, w6] [] M = jfL_law__1294 k23 a4 M := rfl
theorem jtL_law__1294 {k23 : Int32 → sy_M → sy_O} (hk23 : ∀ (w5 : Value) (w6 : Value) (a4 : Int32) (M : sy_M) (r : xe_R × sy_M), k23 a4 M = some r → sy_E (56) qL_law_ 23 [.ref 1000000, .ref 0, .ref 121, .ref 132, .int a4, w5, w6] [] M r) : ∀ (w5 : Value) (w6 : Value) (a4 : Int32) (M : sy_M) (r : xe_R × sy_M), jfL_law__1294 k23 a4 M = some r → sy_E (56) qL_law_ 1294 [.ref 1000000, .ref 0, .ref 121, .ref 132, .int a4, w5, w6] [] M r := by
  intro w5 w6 a4 M r h
  exact sy_run_by (d := 55) ((jrL_law__1294 _ _ _ _ M).trans h) hkL (by decide +kernel) (sy_cs_cons (jeX11_empty.deep (by decide)) (sy_cs_cons (jeX12_empty.deep (by decide)) sy_cs_nil)) (sy_us_cons (jwL_law__3150 (jtL_law__3150 hk23)) sy_us_nil)
def jfL_law__1307 (k23 : Int32 → sy_M → sy_O) (a4 : Int32) (M : sy_M) : sy_O :=
  sy_bi (jfX11_inside M) fun v2 M1 =>
  sy_bi (jfX12_inside M1) fun v4 M3 =>
  if v2 = v4 then
    jfL_law__3150 k23 a4 M3
  else
    sy_ri 0 M3
set_option maxRecDepth 100000 in
theorem jrL_law__1307 (k23 : Int32 → sy_M → sy_O) (w5 : Value) (w6 : Value) (a4 : Int32) (M : sy_M) : sy_run skL qL_law_ [(1307, .aload_n 1, 1, [true, true, true, true, true, false, false]), (1308, .invokevirtual 207, 3, []), (1311, .aload_n 2, 1, []), (1312, .invokevirtual 210, 3, []), (1315, .if_icmp .eq 1835, 3, []), (1318, .iconst 0, 1, []), (1319, .ireturn, 1, [])] [(100, 0, jcX11_inside), (256, 0, jcX12_inside)] [(3150, juL_law__3150 (jfL_law__3150 k23))] 8 [] 1307 [.ref 1000000, .ref 0, .ref 121, .ref 132, .int a4, w5, w6] [] M = jfL_law__1307 k23 a4 M := rfl
theorem jtL_law__1307 {k23 : Int32 → sy_M → sy_O} (hk23 : ∀ (w5 : Value) (w6 : Value) (a4 : Int32) (M : sy_M) (r : xe_R × sy_M), k23 a4 M = some r → sy_E (56) qL_law_ 23 [.ref 1000000, .ref 0, .ref 121, .ref 132, .int a4, w5, w6] [] M r) : ∀ (w5 : Value) (w6 : Value) (a4 : Int32) (M : sy_M) (r : xe_R × sy_M), jfL_law__1307 k23 a4 M = some r → sy_E (56) qL_law_ 1307 [.ref 1000000, .ref 0, .ref 121, .ref 132, .int a4, w5, w6] [] M r := by
  intro w5 w6 a4 M r h
  exact sy_run_by (d := 55) ((jrL_law__1307 _ _ _ _ M).trans h) hkL (by decide +kernel) (sy_cs_cons (jeX11_inside.deep (by decide)) (sy_cs_cons (jeX12_inside.deep (by decide)) sy_cs_nil)) (sy_us_cons (jwL_law__3150 (jtL_law__3150 hk23)) sy_us_nil)
def jfL_law__1320 (k23 : Int32 → sy_M → sy_O) (a4 : Int32) (M : sy_M) : sy_O :=
  sy_bi (jfX11_lasts M) fun v2 M1 =>
  sy_bi (jfX12_lasts M1) fun v4 M3 =>
  if v2 = v4 then
    jfL_law__3150 k23 a4 M3
  else
    sy_ri 0 M3
set_option maxRecDepth 100000 in
theorem jrL_law__1320 (k23 : Int32 → sy_M → sy_O) (w5 : Value) (w6 : Value) (a4 : Int32) (M : sy_M) : sy_run skL qL_law_ [(1320, .aload_n 1, 1, [true, true, true, true, true, false, false]), (1321, .invokevirtual 211, 3, []), (1324, .aload_n 2, 1, []), (1325, .invokevirtual 214, 3, []), (1328, .if_icmp .eq 1822, 3, []), (1331, .iconst 0, 1, []), (1332, .ireturn, 1, [])] [(110, 0, jcX11_lasts), (258, 0, jcX12_lasts)] [(3150, juL_law__3150 (jfL_law__3150 k23))] 8 [] 1320 [.ref 1000000, .ref 0, .ref 121, .ref 132, .int a4, w5, w6] [] M = jfL_law__1320 k23 a4 M := rfl
theorem jtL_law__1320 {k23 : Int32 → sy_M → sy_O} (hk23 : ∀ (w5 : Value) (w6 : Value) (a4 : Int32) (M : sy_M) (r : xe_R × sy_M), k23 a4 M = some r → sy_E (56) qL_law_ 23 [.ref 1000000, .ref 0, .ref 121, .ref 132, .int a4, w5, w6] [] M r) : ∀ (w5 : Value) (w6 : Value) (a4 : Int32) (M : sy_M) (r : xe_R × sy_M), jfL_law__1320 k23 a4 M = some r → sy_E (56) qL_law_ 1320 [.ref 1000000, .ref 0, .ref 121, .ref 132, .int a4, w5, w6] [] M r := by
  intro w5 w6 a4 M r h
  exact sy_run_by (d := 55) ((jrL_law__1320 _ _ _ _ M).trans h) hkL (by decide +kernel) (sy_cs_cons (jeX11_lasts.deep (by decide)) (sy_cs_cons (jeX12_lasts.deep (by decide)) sy_cs_nil)) (sy_us_cons (jwL_law__3150 (jtL_law__3150 hk23)) sy_us_nil)
def jfL_law__1333 (k23 : Int32 → sy_M → sy_O) (a4 : Int32) (M : sy_M) : sy_O :=
  sy_bi (jfX11_out M) fun v2 M1 =>
  sy_bi (jfX12_out M1) fun v4 M3 =>
  if v2 = v4 then
    jfL_law__3150 k23 a4 M3
  else
    sy_ri 0 M3
set_option maxRecDepth 100000 in
theorem jrL_law__1333 (k23 : Int32 → sy_M → sy_O) (w5 : Value) (w6 : Value) (a4 : Int32) (M : sy_M) : sy_run skL qL_law_ [(1333, .aload_n 1, 1, [true, true, true, true, true, false, false]), (1334, .invokevirtual 215, 3, []), (1337, .aload_n 2, 1, []), (1338, .invokevirtual 218, 3, []), (1341, .if_icmp .eq 1809, 3, []), (1344, .iconst 0, 1, []), (1345, .ireturn, 1, [])] [(111, 0, jcX11_out), (259, 0, jcX12_out)] [(3150, juL_law__3150 (jfL_law__3150 k23))] 8 [] 1333 [.ref 1000000, .ref 0, .ref 121, .ref 132, .int a4, w5, w6] [] M = jfL_law__1333 k23 a4 M := rfl
theorem jtL_law__1333 {k23 : Int32 → sy_M → sy_O} (hk23 : ∀ (w5 : Value) (w6 : Value) (a4 : Int32) (M : sy_M) (r : xe_R × sy_M), k23 a4 M = some r → sy_E (56) qL_law_ 23 [.ref 1000000, .ref 0, .ref 121, .ref 132, .int a4, w5, w6] [] M r) : ∀ (w5 : Value) (w6 : Value) (a4 : Int32) (M : sy_M) (r : xe_R × sy_M), jfL_law__1333 k23 a4 M = some r → sy_E (56) qL_law_ 1333 [.ref 1000000, .ref 0, .ref 121, .ref 132, .int a4, w5, w6] [] M r := by
  intro w5 w6 a4 M r h
  exact sy_run_by (d := 55) ((jrL_law__1333 _ _ _ _ M).trans h) hkL (by decide +kernel) (sy_cs_cons (jeX11_out.deep (by decide)) (sy_cs_cons (jeX12_out.deep (by decide)) sy_cs_nil)) (sy_us_cons (jwL_law__3150 (jtL_law__3150 hk23)) sy_us_nil)
def jfL_law__1346 (k23 : Int32 → sy_M → sy_O) (a4 : Int32) (M : sy_M) : sy_O :=
  sy_bi (jfX11_feeder M) fun v2 M1 =>
  sy_bi (jfX12_feeder M1) fun v4 M3 =>
  if v2 = v4 then
    jfL_law__3150 k23 a4 M3
  else
    sy_ri 0 M3
set_option maxRecDepth 100000 in
theorem jrL_law__1346 (k23 : Int32 → sy_M → sy_O) (w5 : Value) (w6 : Value) (a4 : Int32) (M : sy_M) : sy_run skL qL_law_ [(1346, .aload_n 1, 1, [true, true, true, true, true, false, false]), (1347, .invokevirtual 219, 3, []), (1350, .aload_n 2, 1, []), (1351, .invokevirtual 222, 3, []), (1354, .if_icmp .eq 1796, 3, []), (1357, .iconst 0, 1, []), (1358, .ireturn, 1, [])] [(113, 0, jcX11_feeder), (260, 0, jcX12_feeder)] [(3150, juL_law__3150 (jfL_law__3150 k23))] 8 [] 1346 [.ref 1000000, .ref 0, .ref 121, .ref 132, .int a4, w5, w6] [] M = jfL_law__1346 k23 a4 M := rfl
theorem jtL_law__1346 {k23 : Int32 → sy_M → sy_O} (hk23 : ∀ (w5 : Value) (w6 : Value) (a4 : Int32) (M : sy_M) (r : xe_R × sy_M), k23 a4 M = some r → sy_E (56) qL_law_ 23 [.ref 1000000, .ref 0, .ref 121, .ref 132, .int a4, w5, w6] [] M r) : ∀ (w5 : Value) (w6 : Value) (a4 : Int32) (M : sy_M) (r : xe_R × sy_M), jfL_law__1346 k23 a4 M = some r → sy_E (56) qL_law_ 1346 [.ref 1000000, .ref 0, .ref 121, .ref 132, .int a4, w5, w6] [] M r := by
  intro w5 w6 a4 M r h
  exact sy_run_by (d := 55) ((jrL_law__1346 _ _ _ _ M).trans h) hkL (by decide +kernel) (sy_cs_cons (jeX11_feeder.deep (by decide)) (sy_cs_cons (jeX12_feeder.deep (by decide)) sy_cs_nil)) (sy_us_cons (jwL_law__3150 (jtL_law__3150 hk23)) sy_us_nil)
def jfL_law__1359 (k23 : Int32 → sy_M → sy_O) (a4 : Int32) (M : sy_M) : sy_O :=
  sy_bi (jfX11_shiver M) fun v2 M1 =>
  sy_bi (jfX12_shiver M1) fun v4 M3 =>
  if v2 = v4 then
    jfL_law__3150 k23 a4 M3
  else
    sy_ri 0 M3
set_option maxRecDepth 100000 in
theorem jrL_law__1359 (k23 : Int32 → sy_M → sy_O) (w5 : Value) (w6 : Value) (a4 : Int32) (M : sy_M) : sy_run skL qL_law_ [(1359, .aload_n 1, 1, [true, true, true, true, true, false, false]), (1360, .invokevirtual 223, 3, []), (1363, .aload_n 2, 1, []), (1364, .invokevirtual 226, 3, []), (1367, .if_icmp .eq 1783, 3, []), (1370, .iconst 0, 1, []), (1371, .ireturn, 1, [])] [(114, 0, jcX11_shiver), (263, 0, jcX12_shiver)] [(3150, juL_law__3150 (jfL_law__3150 k23))] 8 [] 1359 [.ref 1000000, .ref 0, .ref 121, .ref 132, .int a4, w5, w6] [] M = jfL_law__1359 k23 a4 M := rfl
theorem jtL_law__1359 {k23 : Int32 → sy_M → sy_O} (hk23 : ∀ (w5 : Value) (w6 : Value) (a4 : Int32) (M : sy_M) (r : xe_R × sy_M), k23 a4 M = some r → sy_E (56) qL_law_ 23 [.ref 1000000, .ref 0, .ref 121, .ref 132, .int a4, w5, w6] [] M r) : ∀ (w5 : Value) (w6 : Value) (a4 : Int32) (M : sy_M) (r : xe_R × sy_M), jfL_law__1359 k23 a4 M = some r → sy_E (56) qL_law_ 1359 [.ref 1000000, .ref 0, .ref 121, .ref 132, .int a4, w5, w6] [] M r := by
  intro w5 w6 a4 M r h
  exact sy_run_by (d := 55) ((jrL_law__1359 _ _ _ _ M).trans h) hkL (by decide +kernel) (sy_cs_cons (jeX11_shiver.deep (by decide)) (sy_cs_cons (jeX12_shiver.deep (by decide)) sy_cs_nil)) (sy_us_cons (jwL_law__3150 (jtL_law__3150 hk23)) sy_us_nil)
def jfL_law__1449 (k23 : Int32 → sy_M → sy_O) (a4 : Int32) (M : sy_M) : sy_O :=
  jfL_law__3150 k23 a4 M
set_option maxRecDepth 100000 in
theorem jrL_law__1449 (k23 : Int32 → sy_M → sy_O) (w5 : Value) (w6 : Value) (a4 : Int32) (M : sy_M) : sy_run skL qL_law_ [(1449, .goto 1701, 3, [true, true, true, true, true, false, false])] [] [(3150, juL_law__3150 (jfL_law__3150 k23))] 2 [] 1449 [.ref 1000000, .ref 0, .ref 121, .ref 132, .int a4, w5, w6] [] M = jfL_law__1449 k23 a4 M := rfl
theorem jtL_law__1449 {k23 : Int32 → sy_M → sy_O} (hk23 : ∀ (w5 : Value) (w6 : Value) (a4 : Int32) (M : sy_M) (r : xe_R × sy_M), k23 a4 M = some r → sy_E (56) qL_law_ 23 [.ref 1000000, .ref 0, .ref 121, .ref 132, .int a4, w5, w6] [] M r) : ∀ (w5 : Value) (w6 : Value) (a4 : Int32) (M : sy_M) (r : xe_R × sy_M), jfL_law__1449 k23 a4 M = some r → sy_E (56) qL_law_ 1449 [.ref 1000000, .ref 0, .ref 121, .ref 132, .int a4, w5, w6] [] M r := by
  intro w5 w6 a4 M r h
  exact sy_run_by (d := 55) ((jrL_law__1449 _ _ _ _ M).trans h) hkL (by decide +kernel) sy_cs_nil (sy_us_cons (jwL_law__3150 (jtL_law__3150 hk23)) sy_us_nil)
def jfL_law__1421 (k23 : Int32 → sy_M → sy_O) (a4 : Int32) (a5 : Int32) (a6 : Int32) (M : sy_M) : sy_O :=
  sy_bi (jfX12_thrown M) fun v2 M1 =>
  if v2 = a5 then
    if a5 = 0 then
      if (lg_cmp (sy_rl M1 132 0) (Int32.toInt64 a6)) = 0 then
        jfL_law__1449 k23 a4 M1
      else
        sy_ri 0 M1
    else
      jfL_law__1449 k23 a4 M1
  else
    sy_ri 0 M1
set_option maxRecDepth 100000 in
theorem jrL_law__1421 (k23 : Int32 → sy_M → sy_O) (a4 : Int32) (a5 : Int32) (a6 : Int32) (M : sy_M) : sy_run skL qL_law_ [(1421, .aload_n 2, 1, []), (1422, .invokevirtual 154, 3, []), (1425, .iload 5, 2, []), (1427, .if_icmp .eq 5, 3, []), (1430, .iconst 0, 1, []), (1431, .ireturn, 1, []), (1432, .iload 5, 2, []), (1434, .ifCond .ne 15, 3, []), (1437, .aload_n 3, 1, []), (1438, .iconst 0, 1, []), (1439, .laload, 1, []), (1440, .iload 6, 2, []), (1442, .i2l, 1, []), (1443, .lcmp, 1, []), (1444, .ifCond .eq 5, 3, []), (1447, .iconst 0, 1, []), (1448, .ireturn, 1, [])] [(181, 0, jcX12_thrown)] [(1449, juL_law__1449 (jfL_law__1449 k23))] 18 [] 1421 [.ref 1000000, .ref 0, .ref 121, .ref 132, .int a4, .int a5, .int a6] [] M = jfL_law__1421 k23 a4 a5 a6 M := rfl
theorem jtL_law__1421 {k23 : Int32 → sy_M → sy_O} (hk23 : ∀ (w5 : Value) (w6 : Value) (a4 : Int32) (M : sy_M) (r : xe_R × sy_M), k23 a4 M = some r → sy_E (56) qL_law_ 23 [.ref 1000000, .ref 0, .ref 121, .ref 132, .int a4, w5, w6] [] M r) : ∀ (a4 : Int32) (a5 : Int32) (a6 : Int32) (M : sy_M) (r : xe_R × sy_M), jfL_law__1421 k23 a4 a5 a6 M = some r → sy_E (56) qL_law_ 1421 [.ref 1000000, .ref 0, .ref 121, .ref 132, .int a4, .int a5, .int a6] [] M r := by
  intro a4 a5 a6 M r h
  exact sy_run_by (d := 55) ((jrL_law__1421 _ _ _ _ M).trans h) hkL (by decide +kernel) (sy_cs_cons (jeX12_thrown.deep (by decide)) sy_cs_nil) (sy_us_cons (jwL_law__1449 (jtL_law__1449 hk23)) sy_us_nil)
def jfL_law__1372 (k23 : Int32 → sy_M → sy_O) (a4 : Int32) (M : sy_M) : sy_O :=
  sy_bx (xe_in (a4 + 1) (M 134 0).toNatClampNeg) <|
  sy_bx (xe_in (a4 + 2) (M 134 0).toNatClampNeg) <|
  sy_bx (xe_in (a4 + 3) (M 134 0).toNatClampNeg) <|
  sy_bi (jfL_after (M 1000000 (Int32.toNatClampNeg (a4 + 1))) (M 1000000 (Int32.toNatClampNeg (a4 + 2))) (M 1000000 (Int32.toNatClampNeg (a4 + 3))) M) fun v2 M1 =>
  sy_bx (xe_in (a4 + 1) (M1 134 0).toNatClampNeg) <|
  sy_bx (xe_in (a4 + 2) (M1 134 0).toNatClampNeg) <|
  sy_bx (xe_in (a4 + 3) (M1 134 0).toNatClampNeg) <|
  sy_bi (jfX12_after (M1 1000000 (Int32.toNatClampNeg (a4 + 1))) (M1 1000000 (Int32.toNatClampNeg (a4 + 2))) (M1 1000000 (Int32.toNatClampNeg (a4 + 3))) M1) fun v4 M3 =>
  jfL_law__1421 k23 a4 v2 v4 M3
set_option maxRecDepth 100000 in
theorem jrL_law__1372 (k23 : Int32 → sy_M → sy_O) (w5 : Value) (w6 : Value) (a4 : Int32) (M : sy_M) : sy_run skL qL_law_ [(1372, .aload_n 1, 1, [true, true, true, true, true, false, false]), (1373, .aload_n 0, 1, []), (1374, .iload 4, 2, []), (1376, .iconst 1, 1, []), (1377, .iadd, 1, []), (1378, .iaload, 1, []), (1379, .aload_n 0, 1, []), (1380, .iload 4, 2, []), (1382, .iconst 2, 1, []), (1383, .iadd, 1, []), (1384, .iaload, 1, []), (1385, .aload_n 0, 1, []), (1386, .iload 4, 2, []), (1388, .iconst 3, 1, []), (1389, .iadd, 1, []), (1390, .iaload, 1, []), (1391, .aload_n 3, 1, []), (1392, .invokestatic 227, 3, []), (1395, .istore 5, 2, []), (1397, .aload_n 2, 1, []), (1398, .aload_n 0, 1, []), (1399, .iload 4, 2, []), (1401, .iconst 1, 1, []), (1402, .iadd, 1, []), (1403, .iaload, 1, []), (1404, .aload_n 0, 1, []), (1405, .iload 4, 2, []), (1407, .iconst 2, 1, []), (1408, .iadd, 1, []), (1409, .iaload, 1, []), (1410, .aload_n 0, 1, []), (1411, .iload 4, 2, []), (1413, .iconst 3, 1, []), (1414, .iadd, 1, []), (1415, .iaload, 1, []), (1416, .invokevirtual 229, 3, []), (1419, .istore 6, 2, [])] [(335, 0, jcL_after), (264, 0, jcX12_after)] [(1421, juL_law__1421 (jfL_law__1421 k23))] 38 [] 1372 [.ref 1000000, .ref 0, .ref 121, .ref 132, .int a4, w5, w6] [] M = jfL_law__1372 k23 a4 M := rfl
theorem jtL_law__1372 {k23 : Int32 → sy_M → sy_O} (hk23 : ∀ (w5 : Value) (w6 : Value) (a4 : Int32) (M : sy_M) (r : xe_R × sy_M), k23 a4 M = some r → sy_E (56) qL_law_ 23 [.ref 1000000, .ref 0, .ref 121, .ref 132, .int a4, w5, w6] [] M r) : ∀ (w5 : Value) (w6 : Value) (a4 : Int32) (M : sy_M) (r : xe_R × sy_M), jfL_law__1372 k23 a4 M = some r → sy_E (56) qL_law_ 1372 [.ref 1000000, .ref 0, .ref 121, .ref 132, .int a4, w5, w6] [] M r := by
  intro w5 w6 a4 M r h
  exact sy_run_by (d := 55) ((jrL_law__1372 _ _ _ _ M).trans h) hkL (by decide +kernel) (sy_cs_cons (jeL_after.deep (by decide)) (sy_cs_cons (jeX12_after.deep (by decide)) sy_cs_nil)) (sy_us_cons (jwL_law__1421 (jtL_law__1421 hk23)) sy_us_nil)
def jfL_law__1505 (k23 : Int32 → sy_M → sy_O) (a4 : Int32) (M : sy_M) : sy_O :=
  jfL_law__3150 k23 a4 M
set_option maxRecDepth 100000 in
theorem jrL_law__1505 (k23 : Int32 → sy_M → sy_O) (w5 : Value) (w6 : Value) (a4 : Int32) (M : sy_M) : sy_run skL qL_law_ [(1505, .goto 1645, 3, [true, true, true, true, true, false, false])] [] [(3150, juL_law__3150 (jfL_law__3150 k23))] 2 [] 1505 [.ref 1000000, .ref 0, .ref 121, .ref 132, .int a4, w5, w6] [] M = jfL_law__1505 k23 a4 M := rfl
theorem jtL_law__1505 {k23 : Int32 → sy_M → sy_O} (hk23 : ∀ (w5 : Value) (w6 : Value) (a4 : Int32) (M : sy_M) (r : xe_R × sy_M), k23 a4 M = some r → sy_E (56) qL_law_ 23 [.ref 1000000, .ref 0, .ref 121, .ref 132, .int a4, w5, w6] [] M r) : ∀ (w5 : Value) (w6 : Value) (a4 : Int32) (M : sy_M) (r : xe_R × sy_M), jfL_law__1505 k23 a4 M = some r → sy_E (56) qL_law_ 1505 [.ref 1000000, .ref 0, .ref 121, .ref 132, .int a4, w5, w6] [] M r := by
  intro w5 w6 a4 M r h
  exact sy_run_by (d := 55) ((jrL_law__1505 _ _ _ _ M).trans h) hkL (by decide +kernel) sy_cs_nil (sy_us_cons (jwL_law__3150 (jtL_law__3150 hk23)) sy_us_nil)
def jfL_law__1452 (k23 : Int32 → sy_M → sy_O) (a4 : Int32) (M : sy_M) : sy_O :=
  sy_bx (xe_in (a4 + 1) (M 134 0).toNatClampNeg) <|
  sy_bi (jfL_coins (M 1000000 (Int32.toNatClampNeg (a4 + 1))) M) fun v2 M1 =>
  sy_bx (xe_in (a4 + 1) (M1 134 0).toNatClampNeg) <|
  sy_bi (jfX12_coins (M1 1000000 (Int32.toNatClampNeg (a4 + 1))) M1) fun v4 M3 =>
  sy_bi (jfX12_thrown M3) fun v6 M5 =>
  if v6 = v2 then
    if v2 = 0 then
      if (lg_cmp (sy_rl M5 132 0) (Int32.toInt64 v4)) = 0 then
        jfL_law__1505 k23 a4 M5
      else
        sy_ri 0 M5
    else
      jfL_law__1505 k23 a4 M5
  else
    sy_ri 0 M5
set_option maxRecDepth 100000 in
theorem jrL_law__1452 (k23 : Int32 → sy_M → sy_O) (w5 : Value) (w6 : Value) (a4 : Int32) (M : sy_M) : sy_run skL qL_law_ [(1452, .aload_n 1, 1, [true, true, true, true, true, false, false]), (1453, .aload_n 0, 1, []), (1454, .iload 4, 2, []), (1456, .iconst 1, 1, []), (1457, .iadd, 1, []), (1458, .iaload, 1, []), (1459, .aload_n 3, 1, []), (1460, .invokestatic 230, 3, []), (1463, .istore 5, 2, []), (1465, .aload_n 2, 1, []), (1466, .aload_n 0, 1, []), (1467, .iload 4, 2, []), (1469, .iconst 1, 1, []), (1470, .iadd, 1, []), (1471, .iaload, 1, []), (1472, .invokevirtual 232, 3, []), (1475, .istore 6, 2, []), (1477, .aload_n 2, 1, []), (1478, .invokevirtual 154, 3, []), (1481, .iload 5, 2, []), (1483, .if_icmp .eq 5, 3, []), (1486, .iconst 0, 1, []), (1487, .ireturn, 1, []), (1488, .iload 5, 2, []), (1490, .ifCond .ne 15, 3, []), (1493, .aload_n 3, 1, []), (1494, .iconst 0, 1, []), (1495, .laload, 1, []), (1496, .iload 6, 2, []), (1498, .i2l, 1, []), (1499, .lcmp, 1, []), (1500, .ifCond .eq 5, 3, []), (1503, .iconst 0, 1, []), (1504, .ireturn, 1, [])] [(336, 0, jcL_coins), (265, 0, jcX12_coins), (181, 0, jcX12_thrown)] [(1505, juL_law__1505 (jfL_law__1505 k23))] 35 [] 1452 [.ref 1000000, .ref 0, .ref 121, .ref 132, .int a4, w5, w6] [] M = jfL_law__1452 k23 a4 M := rfl
theorem jtL_law__1452 {k23 : Int32 → sy_M → sy_O} (hk23 : ∀ (w5 : Value) (w6 : Value) (a4 : Int32) (M : sy_M) (r : xe_R × sy_M), k23 a4 M = some r → sy_E (56) qL_law_ 23 [.ref 1000000, .ref 0, .ref 121, .ref 132, .int a4, w5, w6] [] M r) : ∀ (w5 : Value) (w6 : Value) (a4 : Int32) (M : sy_M) (r : xe_R × sy_M), jfL_law__1452 k23 a4 M = some r → sy_E (56) qL_law_ 1452 [.ref 1000000, .ref 0, .ref 121, .ref 132, .int a4, w5, w6] [] M r := by
  intro w5 w6 a4 M r h
  exact sy_run_by (d := 55) ((jrL_law__1452 _ _ _ _ M).trans h) hkL (by decide +kernel) (sy_cs_cons (jeL_coins.deep (by decide)) (sy_cs_cons (jeX12_coins.deep (by decide)) (sy_cs_cons (jeX12_thrown.deep (by decide)) sy_cs_nil))) (sy_us_cons (jwL_law__1505 (jtL_law__1505 hk23)) sy_us_nil)
def jfL_law__1561 (k23 : Int32 → sy_M → sy_O) (a4 : Int32) (M : sy_M) : sy_O :=
  jfL_law__3150 k23 a4 M
set_option maxRecDepth 100000 in
theorem jrL_law__1561 (k23 : Int32 → sy_M → sy_O) (w5 : Value) (w6 : Value) (a4 : Int32) (M : sy_M) : sy_run skL qL_law_ [(1561, .goto 1589, 3, [true, true, true, true, true, false, false])] [] [(3150, juL_law__3150 (jfL_law__3150 k23))] 2 [] 1561 [.ref 1000000, .ref 0, .ref 121, .ref 132, .int a4, w5, w6] [] M = jfL_law__1561 k23 a4 M := rfl
theorem jtL_law__1561 {k23 : Int32 → sy_M → sy_O} (hk23 : ∀ (w5 : Value) (w6 : Value) (a4 : Int32) (M : sy_M) (r : xe_R × sy_M), k23 a4 M = some r → sy_E (56) qL_law_ 23 [.ref 1000000, .ref 0, .ref 121, .ref 132, .int a4, w5, w6] [] M r) : ∀ (w5 : Value) (w6 : Value) (a4 : Int32) (M : sy_M) (r : xe_R × sy_M), jfL_law__1561 k23 a4 M = some r → sy_E (56) qL_law_ 1561 [.ref 1000000, .ref 0, .ref 121, .ref 132, .int a4, w5, w6] [] M r := by
  intro w5 w6 a4 M r h
  exact sy_run_by (d := 55) ((jrL_law__1561 _ _ _ _ M).trans h) hkL (by decide +kernel) sy_cs_nil (sy_us_cons (jwL_law__3150 (jtL_law__3150 hk23)) sy_us_nil)
def jfL_law__1508 (k23 : Int32 → sy_M → sy_O) (a4 : Int32) (M : sy_M) : sy_O :=
  sy_bx (xe_in (a4 + 1) (M 134 0).toNatClampNeg) <|
  sy_bi (jfL_ease (M 1000000 (Int32.toNatClampNeg (a4 + 1))) M) fun v2 M1 =>
  sy_bx (xe_in (a4 + 1) (M1 134 0).toNatClampNeg) <|
  sy_bi (jfX12_ease (M1 1000000 (Int32.toNatClampNeg (a4 + 1))) M1) fun v4 M3 =>
  sy_bi (jfX12_thrown M3) fun v6 M5 =>
  if v6 = v2 then
    if v2 = 0 then
      if (lg_cmp (sy_rl M5 132 0) (Int32.toInt64 v4)) = 0 then
        jfL_law__1561 k23 a4 M5
      else
        sy_ri 0 M5
    else
      jfL_law__1561 k23 a4 M5
  else
    sy_ri 0 M5
set_option maxRecDepth 100000 in
theorem jrL_law__1508 (k23 : Int32 → sy_M → sy_O) (w5 : Value) (w6 : Value) (a4 : Int32) (M : sy_M) : sy_run skL qL_law_ [(1508, .aload_n 1, 1, [true, true, true, true, true, false, false]), (1509, .aload_n 0, 1, []), (1510, .iload 4, 2, []), (1512, .iconst 1, 1, []), (1513, .iadd, 1, []), (1514, .iaload, 1, []), (1515, .aload_n 3, 1, []), (1516, .invokestatic 233, 3, []), (1519, .istore 5, 2, []), (1521, .aload_n 2, 1, []), (1522, .aload_n 0, 1, []), (1523, .iload 4, 2, []), (1525, .iconst 1, 1, []), (1526, .iadd, 1, []), (1527, .iaload, 1, []), (1528, .invokevirtual 235, 3, []), (1531, .istore 6, 2, []), (1533, .aload_n 2, 1, []), (1534, .invokevirtual 154, 3, []), (1537, .iload 5, 2, []), (1539, .if_icmp .eq 5, 3, []), (1542, .iconst 0, 1, []), (1543, .ireturn, 1, []), (1544, .iload 5, 2, []), (1546, .ifCond .ne 15, 3, []), (1549, .aload_n 3, 1, []), (1550, .iconst 0, 1, []), (1551, .laload, 1, []), (1552, .iload 6, 2, []), (1554, .i2l, 1, []), (1555, .lcmp, 1, []), (1556, .ifCond .eq 5, 3, []), (1559, .iconst 0, 1, []), (1560, .ireturn, 1, [])] [(337, 0, jcL_ease), (266, 0, jcX12_ease), (181, 0, jcX12_thrown)] [(1561, juL_law__1561 (jfL_law__1561 k23))] 35 [] 1508 [.ref 1000000, .ref 0, .ref 121, .ref 132, .int a4, w5, w6] [] M = jfL_law__1508 k23 a4 M := rfl
theorem jtL_law__1508 {k23 : Int32 → sy_M → sy_O} (hk23 : ∀ (w5 : Value) (w6 : Value) (a4 : Int32) (M : sy_M) (r : xe_R × sy_M), k23 a4 M = some r → sy_E (56) qL_law_ 23 [.ref 1000000, .ref 0, .ref 121, .ref 132, .int a4, w5, w6] [] M r) : ∀ (w5 : Value) (w6 : Value) (a4 : Int32) (M : sy_M) (r : xe_R × sy_M), jfL_law__1508 k23 a4 M = some r → sy_E (56) qL_law_ 1508 [.ref 1000000, .ref 0, .ref 121, .ref 132, .int a4, w5, w6] [] M r := by
  intro w5 w6 a4 M r h
  exact sy_run_by (d := 55) ((jrL_law__1508 _ _ _ _ M).trans h) hkL (by decide +kernel) (sy_cs_cons (jeL_ease.deep (by decide)) (sy_cs_cons (jeX12_ease.deep (by decide)) (sy_cs_cons (jeX12_thrown.deep (by decide)) sy_cs_nil))) (sy_us_cons (jwL_law__1561 (jtL_law__1561 hk23)) sy_us_nil)
def jfL_law__1629 (k23 : Int32 → sy_M → sy_O) (a4 : Int32) (M : sy_M) : sy_O :=
  jfL_law__3150 k23 a4 M
set_option maxRecDepth 100000 in
theorem jrL_law__1629 (k23 : Int32 → sy_M → sy_O) (w5 : Value) (w6 : Value) (a4 : Int32) (M : sy_M) : sy_run skL qL_law_ [(1629, .goto 1521, 3, [true, true, true, true, true, false, false])] [] [(3150, juL_law__3150 (jfL_law__3150 k23))] 2 [] 1629 [.ref 1000000, .ref 0, .ref 121, .ref 132, .int a4, w5, w6] [] M = jfL_law__1629 k23 a4 M := rfl
theorem jtL_law__1629 {k23 : Int32 → sy_M → sy_O} (hk23 : ∀ (w5 : Value) (w6 : Value) (a4 : Int32) (M : sy_M) (r : xe_R × sy_M), k23 a4 M = some r → sy_E (56) qL_law_ 23 [.ref 1000000, .ref 0, .ref 121, .ref 132, .int a4, w5, w6] [] M r) : ∀ (w5 : Value) (w6 : Value) (a4 : Int32) (M : sy_M) (r : xe_R × sy_M), jfL_law__1629 k23 a4 M = some r → sy_E (56) qL_law_ 1629 [.ref 1000000, .ref 0, .ref 121, .ref 132, .int a4, w5, w6] [] M r := by
  intro w5 w6 a4 M r h
  exact sy_run_by (d := 55) ((jrL_law__1629 _ _ _ _ M).trans h) hkL (by decide +kernel) sy_cs_nil (sy_us_cons (jwL_law__3150 (jtL_law__3150 hk23)) sy_us_nil)
def jfL_law__1564 (k23 : Int32 → sy_M → sy_O) (a4 : Int32) (M : sy_M) : sy_O :=
  sy_bx (xe_in (a4 + 1) (M 134 0).toNatClampNeg) <|
  sy_bx (xe_in (a4 + 2) (M 134 0).toNatClampNeg) <|
  sy_bi (jfL_grief (M 1000000 (Int32.toNatClampNeg (a4 + 1))) (M 1000000 (Int32.toNatClampNeg (a4 + 2))) M) fun v2 M1 =>
  sy_bx (xe_in (a4 + 1) (M1 134 0).toNatClampNeg) <|
  sy_bx (xe_in (a4 + 2) (M1 134 0).toNatClampNeg) <|
  sy_bi (jfX12_grief (M1 1000000 (Int32.toNatClampNeg (a4 + 1))) (M1 1000000 (Int32.toNatClampNeg (a4 + 2))) M1) fun v4 M3 =>
  sy_bi (jfX12_thrown M3) fun v6 M5 =>
  if v6 = v2 then
    if v2 = 0 then
      if (lg_cmp (sy_rl M5 132 0) (Int32.toInt64 v4)) = 0 then
        jfL_law__1629 k23 a4 M5
      else
        sy_ri 0 M5
    else
      jfL_law__1629 k23 a4 M5
  else
    sy_ri 0 M5
set_option maxRecDepth 100000 in
theorem jrL_law__1564 (k23 : Int32 → sy_M → sy_O) (w5 : Value) (w6 : Value) (a4 : Int32) (M : sy_M) : sy_run skL qL_law_ [(1564, .aload_n 1, 1, [true, true, true, true, true, false, false]), (1565, .aload_n 0, 1, []), (1566, .iload 4, 2, []), (1568, .iconst 1, 1, []), (1569, .iadd, 1, []), (1570, .iaload, 1, []), (1571, .aload_n 0, 1, []), (1572, .iload 4, 2, []), (1574, .iconst 2, 1, []), (1575, .iadd, 1, []), (1576, .iaload, 1, []), (1577, .aload_n 3, 1, []), (1578, .invokestatic 236, 3, []), (1581, .istore 5, 2, []), (1583, .aload_n 2, 1, []), (1584, .aload_n 0, 1, []), (1585, .iload 4, 2, []), (1587, .iconst 1, 1, []), (1588, .iadd, 1, []), (1589, .iaload, 1, []), (1590, .aload_n 0, 1, []), (1591, .iload 4, 2, []), (1593, .iconst 2, 1, []), (1594, .iadd, 1, []), (1595, .iaload, 1, []), (1596, .invokevirtual 238, 3, []), (1599, .istore 6, 2, []), (1601, .aload_n 2, 1, []), (1602, .invokevirtual 154, 3, []), (1605, .iload 5, 2, []), (1607, .if_icmp .eq 5, 3, []), (1610, .iconst 0, 1, []), (1611, .ireturn, 1, []), (1612, .iload 5, 2, []), (1614, .ifCond .ne 15, 3, []), (1617, .aload_n 3, 1, []), (1618, .iconst 0, 1, []), (1619, .laload, 1, []), (1620, .iload 6, 2, []), (1622, .i2l, 1, []), (1623, .lcmp, 1, []), (1624, .ifCond .eq 5, 3, []), (1627, .iconst 0, 1, []), (1628, .ireturn, 1, [])] [(338, 0, jcL_grief), (270, 0, jcX12_grief), (181, 0, jcX12_thrown)] [(1629, juL_law__1629 (jfL_law__1629 k23))] 45 [] 1564 [.ref 1000000, .ref 0, .ref 121, .ref 132, .int a4, w5, w6] [] M = jfL_law__1564 k23 a4 M := rfl
theorem jtL_law__1564 {k23 : Int32 → sy_M → sy_O} (hk23 : ∀ (w5 : Value) (w6 : Value) (a4 : Int32) (M : sy_M) (r : xe_R × sy_M), k23 a4 M = some r → sy_E (56) qL_law_ 23 [.ref 1000000, .ref 0, .ref 121, .ref 132, .int a4, w5, w6] [] M r) : ∀ (w5 : Value) (w6 : Value) (a4 : Int32) (M : sy_M) (r : xe_R × sy_M), jfL_law__1564 k23 a4 M = some r → sy_E (56) qL_law_ 1564 [.ref 1000000, .ref 0, .ref 121, .ref 132, .int a4, w5, w6] [] M r := by
  intro w5 w6 a4 M r h
  exact sy_run_by (d := 55) ((jrL_law__1564 _ _ _ _ M).trans h) hkL (by decide +kernel) (sy_cs_cons (jeL_grief.deep (by decide)) (sy_cs_cons (jeX12_grief.deep (by decide)) (sy_cs_cons (jeX12_thrown.deep (by decide)) sy_cs_nil))) (sy_us_cons (jwL_law__1629 (jtL_law__1629 hk23)) sy_us_nil)
def jfL_law__1632 (k23 : Int32 → sy_M → sy_O) (a4 : Int32) (M : sy_M) : sy_O :=
  sy_bi (jfX11_restless M) fun v2 M1 =>
  sy_bi (jfX12_restless M1) fun v4 M3 =>
  if v2 = v4 then
    jfL_law__3150 k23 a4 M3
  else
    sy_ri 0 M3
set_option maxRecDepth 100000 in
theorem jrL_law__1632 (k23 : Int32 → sy_M → sy_O) (w5 : Value) (w6 : Value) (a4 : Int32) (M : sy_M) : sy_run skL qL_law_ [(1632, .aload_n 1, 1, [true, true, true, true, true, false, false]), (1633, .invokevirtual 239, 3, []), (1636, .aload_n 2, 1, []), (1637, .invokevirtual 242, 3, []), (1640, .if_icmp .eq 1510, 3, []), (1643, .iconst 0, 1, []), (1644, .ireturn, 1, [])] [(122, 0, jcX11_restless), (271, 0, jcX12_restless)] [(3150, juL_law__3150 (jfL_law__3150 k23))] 8 [] 1632 [.ref 1000000, .ref 0, .ref 121, .ref 132, .int a4, w5, w6] [] M = jfL_law__1632 k23 a4 M := rfl
theorem jtL_law__1632 {k23 : Int32 → sy_M → sy_O} (hk23 : ∀ (w5 : Value) (w6 : Value) (a4 : Int32) (M : sy_M) (r : xe_R × sy_M), k23 a4 M = some r → sy_E (56) qL_law_ 23 [.ref 1000000, .ref 0, .ref 121, .ref 132, .int a4, w5, w6] [] M r) : ∀ (w5 : Value) (w6 : Value) (a4 : Int32) (M : sy_M) (r : xe_R × sy_M), jfL_law__1632 k23 a4 M = some r → sy_E (56) qL_law_ 1632 [.ref 1000000, .ref 0, .ref 121, .ref 132, .int a4, w5, w6] [] M r := by
  intro w5 w6 a4 M r h
  exact sy_run_by (d := 55) ((jrL_law__1632 _ _ _ _ M).trans h) hkL (by decide +kernel) (sy_cs_cons (jeX11_restless.deep (by decide)) (sy_cs_cons (jeX12_restless.deep (by decide)) sy_cs_nil)) (sy_us_cons (jwL_law__3150 (jtL_law__3150 hk23)) sy_us_nil)
def jfL_law__1726 (k23 : Int32 → sy_M → sy_O) (a4 : Int32) (M : sy_M) : sy_O :=
  jfL_law__3150 k23 a4 M
set_option maxRecDepth 100000 in
theorem jrL_law__1726 (k23 : Int32 → sy_M → sy_O) (w5 : Value) (w6 : Value) (a4 : Int32) (M : sy_M) : sy_run skL qL_law_ [(1726, .goto 1424, 3, [true, true, true, true, true, false, false])] [] [(3150, juL_law__3150 (jfL_law__3150 k23))] 2 [] 1726 [.ref 1000000, .ref 0, .ref 121, .ref 132, .int a4, w5, w6] [] M = jfL_law__1726 k23 a4 M := rfl
theorem jtL_law__1726 {k23 : Int32 → sy_M → sy_O} (hk23 : ∀ (w5 : Value) (w6 : Value) (a4 : Int32) (M : sy_M) (r : xe_R × sy_M), k23 a4 M = some r → sy_E (56) qL_law_ 23 [.ref 1000000, .ref 0, .ref 121, .ref 132, .int a4, w5, w6] [] M r) : ∀ (w5 : Value) (w6 : Value) (a4 : Int32) (M : sy_M) (r : xe_R × sy_M), jfL_law__1726 k23 a4 M = some r → sy_E (56) qL_law_ 1726 [.ref 1000000, .ref 0, .ref 121, .ref 132, .int a4, w5, w6] [] M r := by
  intro w5 w6 a4 M r h
  exact sy_run_by (d := 55) ((jrL_law__1726 _ _ _ _ M).trans h) hkL (by decide +kernel) sy_cs_nil (sy_us_cons (jwL_law__3150 (jtL_law__3150 hk23)) sy_us_nil)
def jfL_law__1693 (k23 : Int32 → sy_M → sy_O) (a4 : Int32) (a5 : Int32) (s0 : Int32) (s1 : Int32) (M : sy_M) : sy_O :=
  sy_bi (jfX12_saint s1 s0 M) fun v2 M1 =>
  sy_bi (jfX12_thrown M1) fun v4 M3 =>
  if v4 = a5 then
    if a5 = 0 then
      if (lg_cmp (sy_rl M3 132 0) (Int32.toInt64 v2)) = 0 then
        jfL_law__1726 k23 a4 M3
      else
        sy_ri 0 M3
    else
      jfL_law__1726 k23 a4 M3
  else
    sy_ri 0 M3
set_option maxRecDepth 100000 in
theorem jrL_law__1693 (k23 : Int32 → sy_M → sy_O) (w6 : Value) (a4 : Int32) (a5 : Int32) (s0 : Int32) (s1 : Int32) (M : sy_M) : sy_run skL qL_law_ [(1693, .invokevirtual 246, 3, [true, true, true, true, true, true, false]), (1696, .istore 6, 2, []), (1698, .aload_n 2, 1, []), (1699, .invokevirtual 154, 3, []), (1702, .iload 5, 2, []), (1704, .if_icmp .eq 5, 3, []), (1707, .iconst 0, 1, []), (1708, .ireturn, 1, []), (1709, .iload 5, 2, []), (1711, .ifCond .ne 15, 3, []), (1714, .aload_n 3, 1, []), (1715, .iconst 0, 1, []), (1716, .laload, 1, []), (1717, .iload 6, 2, []), (1719, .i2l, 1, []), (1720, .lcmp, 1, []), (1721, .ifCond .eq 5, 3, []), (1724, .iconst 0, 1, []), (1725, .ireturn, 1, [])] [(272, 0, jcX12_saint), (181, 0, jcX12_thrown)] [(1726, juL_law__1726 (jfL_law__1726 k23))] 20 [] 1693 [.ref 1000000, .ref 0, .ref 121, .ref 132, .int a4, .int a5, w6] [.int s0, .int s1, .ref 121] M = jfL_law__1693 k23 a4 a5 s0 s1 M := rfl
theorem jtL_law__1693 {k23 : Int32 → sy_M → sy_O} (hk23 : ∀ (w5 : Value) (w6 : Value) (a4 : Int32) (M : sy_M) (r : xe_R × sy_M), k23 a4 M = some r → sy_E (56) qL_law_ 23 [.ref 1000000, .ref 0, .ref 121, .ref 132, .int a4, w5, w6] [] M r) : ∀ (w6 : Value) (a4 : Int32) (a5 : Int32) (s0 : Int32) (s1 : Int32) (M : sy_M) (r : xe_R × sy_M), jfL_law__1693 k23 a4 a5 s0 s1 M = some r → sy_E (56) qL_law_ 1693 [.ref 1000000, .ref 0, .ref 121, .ref 132, .int a4, .int a5, w6] [.int s0, .int s1, .ref 121] M r := by
  intro w6 a4 a5 s0 s1 M r h
  exact sy_run_by (d := 55) ((jrL_law__1693 _ _ _ _ _ _ M).trans h) hkL (by decide +kernel) (sy_cs_cons (jeX12_saint.deep (by decide)) (sy_cs_cons (jeX12_thrown.deep (by decide)) sy_cs_nil)) (sy_us_cons (jwL_law__1726 (jtL_law__1726 hk23)) sy_us_nil)
def jfL_law__1666 (k23 : Int32 → sy_M → sy_O) (a4 : Int32) (s0 : Int32) (s1 : Int32) (M : sy_M) : sy_O :=
  sy_bi (jfL_saint s1 s0 M) fun v2 M1 =>
  sy_bx (xe_in (a4 + 1) (M1 134 0).toNatClampNeg) <|
  sy_bx (xe_in (a4 + 2) (M1 134 0).toNatClampNeg) <|
  if (M1 1000000 (Int32.toNatClampNeg (a4 + 2))) = 0 then
    jfL_law__1693 k23 a4 v2 0 (M1 1000000 (Int32.toNatClampNeg (a4 + 1))) M1
  else
    jfL_law__1693 k23 a4 v2 1 (M1 1000000 (Int32.toNatClampNeg (a4 + 1))) M1
set_option maxRecDepth 100000 in
theorem jrL_law__1666 (k23 : Int32 → sy_M → sy_O) (w5 : Value) (w6 : Value) (a4 : Int32) (s0 : Int32) (s1 : Int32) (M : sy_M) : sy_run skL qL_law_ [(1666, .aload_n 3, 1, [true, true, true, true, true, false, false]), (1667, .invokestatic 243, 3, []), (1670, .istore 5, 2, []), (1672, .aload_n 2, 1, []), (1673, .aload_n 0, 1, []), (1674, .iload 4, 2, []), (1676, .iconst 1, 1, []), (1677, .iadd, 1, []), (1678, .iaload, 1, []), (1679, .aload_n 0, 1, []), (1680, .iload 4, 2, []), (1682, .iconst 2, 1, []), (1683, .iadd, 1, []), (1684, .iaload, 1, []), (1685, .ifCond .eq 7, 3, []), (1688, .iconst 1, 1, []), (1689, .goto 4, 3, []), (1692, .iconst 0, 1, [true, true, true, true, true, true, false])] [(339, 0, jcL_saint)] [(1693, juL_law__1693 (jfL_law__1693 k23))] 19 [] 1666 [.ref 1000000, .ref 0, .ref 121, .ref 132, .int a4, w5, w6] [.int s0, .int s1, .ref 0] M = jfL_law__1666 k23 a4 s0 s1 M := rfl
theorem jtL_law__1666 {k23 : Int32 → sy_M → sy_O} (hk23 : ∀ (w5 : Value) (w6 : Value) (a4 : Int32) (M : sy_M) (r : xe_R × sy_M), k23 a4 M = some r → sy_E (56) qL_law_ 23 [.ref 1000000, .ref 0, .ref 121, .ref 132, .int a4, w5, w6] [] M r) : ∀ (w5 : Value) (w6 : Value) (a4 : Int32) (s0 : Int32) (s1 : Int32) (M : sy_M) (r : xe_R × sy_M), jfL_law__1666 k23 a4 s0 s1 M = some r → sy_E (56) qL_law_ 1666 [.ref 1000000, .ref 0, .ref 121, .ref 132, .int a4, w5, w6] [.int s0, .int s1, .ref 0] M r := by
  intro w5 w6 a4 s0 s1 M r h
  exact sy_run_by (d := 55) ((jrL_law__1666 _ _ _ _ _ _ M).trans h) hkL (by decide +kernel) (sy_cs_cons (jeL_saint.deep (by decide)) sy_cs_nil) (sy_us_cons (jwL_law__1693 (jtL_law__1693 hk23)) sy_us_nil)
def jfL_law__1645 (k23 : Int32 → sy_M → sy_O) (a4 : Int32) (M : sy_M) : sy_O :=
  sy_bx (xe_in (a4 + 1) (M 134 0).toNatClampNeg) <|
  sy_bx (xe_in (a4 + 2) (M 134 0).toNatClampNeg) <|
  if (M 1000000 (Int32.toNatClampNeg (a4 + 2))) = 0 then
    jfL_law__1666 k23 a4 0 (M 1000000 (Int32.toNatClampNeg (a4 + 1))) M
  else
    jfL_law__1666 k23 a4 1 (M 1000000 (Int32.toNatClampNeg (a4 + 1))) M
set_option maxRecDepth 100000 in
theorem jrL_law__1645 (k23 : Int32 → sy_M → sy_O) (w5 : Value) (w6 : Value) (a4 : Int32) (M : sy_M) : sy_run skL qL_law_ [(1645, .aload_n 1, 1, [true, true, true, true, true, false, false]), (1646, .aload_n 0, 1, []), (1647, .iload 4, 2, []), (1649, .iconst 1, 1, []), (1650, .iadd, 1, []), (1651, .iaload, 1, []), (1652, .aload_n 0, 1, []), (1653, .iload 4, 2, []), (1655, .iconst 2, 1, []), (1656, .iadd, 1, []), (1657, .iaload, 1, []), (1658, .ifCond .eq 7, 3, []), (1661, .iconst 1, 1, []), (1662, .goto 4, 3, []), (1665, .iconst 0, 1, [true, true, true, true, true, false, false])] [] [(1666, juL_law__1666 (jfL_law__1666 k23))] 16 [] 1645 [.ref 1000000, .ref 0, .ref 121, .ref 132, .int a4, w5, w6] [] M = jfL_law__1645 k23 a4 M := rfl
theorem jtL_law__1645 {k23 : Int32 → sy_M → sy_O} (hk23 : ∀ (w5 : Value) (w6 : Value) (a4 : Int32) (M : sy_M) (r : xe_R × sy_M), k23 a4 M = some r → sy_E (56) qL_law_ 23 [.ref 1000000, .ref 0, .ref 121, .ref 132, .int a4, w5, w6] [] M r) : ∀ (w5 : Value) (w6 : Value) (a4 : Int32) (M : sy_M) (r : xe_R × sy_M), jfL_law__1645 k23 a4 M = some r → sy_E (56) qL_law_ 1645 [.ref 1000000, .ref 0, .ref 121, .ref 132, .int a4, w5, w6] [] M r := by
  intro w5 w6 a4 M r h
  exact sy_run_by (d := 55) ((jrL_law__1645 _ _ _ _ M).trans h) hkL (by decide +kernel) sy_cs_nil (sy_us_cons (jwL_law__1666 (jtL_law__1666 hk23)) sy_us_nil)
def jfL_law__1794 (k23 : Int32 → sy_M → sy_O) (a4 : Int32) (M : sy_M) : sy_O :=
  jfL_law__3150 k23 a4 M
set_option maxRecDepth 100000 in
theorem jrL_law__1794 (k23 : Int32 → sy_M → sy_O) (w5 : Value) (w6 : Value) (a4 : Int32) (M : sy_M) : sy_run skL qL_law_ [(1794, .goto 1356, 3, [true, true, true, true, true, false, false])] [] [(3150, juL_law__3150 (jfL_law__3150 k23))] 2 [] 1794 [.ref 1000000, .ref 0, .ref 121, .ref 132, .int a4, w5, w6] [] M = jfL_law__1794 k23 a4 M := rfl
theorem jtL_law__1794 {k23 : Int32 → sy_M → sy_O} (hk23 : ∀ (w5 : Value) (w6 : Value) (a4 : Int32) (M : sy_M) (r : xe_R × sy_M), k23 a4 M = some r → sy_E (56) qL_law_ 23 [.ref 1000000, .ref 0, .ref 121, .ref 132, .int a4, w5, w6] [] M r) : ∀ (w5 : Value) (w6 : Value) (a4 : Int32) (M : sy_M) (r : xe_R × sy_M), jfL_law__1794 k23 a4 M = some r → sy_E (56) qL_law_ 1794 [.ref 1000000, .ref 0, .ref 121, .ref 132, .int a4, w5, w6] [] M r := by
  intro w5 w6 a4 M r h
  exact sy_run_by (d := 55) ((jrL_law__1794 _ _ _ _ M).trans h) hkL (by decide +kernel) sy_cs_nil (sy_us_cons (jwL_law__3150 (jtL_law__3150 hk23)) sy_us_nil)
def jfL_law__1729 (k23 : Int32 → sy_M → sy_O) (a4 : Int32) (M : sy_M) : sy_O :=
  sy_bx (xe_in (a4 + 1) (M 134 0).toNatClampNeg) <|
  sy_bx (xe_in (a4 + 2) (M 134 0).toNatClampNeg) <|
  sy_bi (jfL_fair (M 1000000 (Int32.toNatClampNeg (a4 + 1))) (M 1000000 (Int32.toNatClampNeg (a4 + 2))) M) fun v2 M1 =>
  sy_bx (xe_in (a4 + 1) (M1 134 0).toNatClampNeg) <|
  sy_bx (xe_in (a4 + 2) (M1 134 0).toNatClampNeg) <|
  sy_bi (jfX12_fair (M1 1000000 (Int32.toNatClampNeg (a4 + 1))) (M1 1000000 (Int32.toNatClampNeg (a4 + 2))) M1) fun v4 M3 =>
  sy_bi (jfX12_thrown M3) fun v6 M5 =>
  if v6 = v2 then
    if v2 = 0 then
      if (lg_cmp (sy_rl M5 132 0) (Int32.toInt64 v4)) = 0 then
        jfL_law__1794 k23 a4 M5
      else
        sy_ri 0 M5
    else
      jfL_law__1794 k23 a4 M5
  else
    sy_ri 0 M5
set_option maxRecDepth 100000 in
theorem jrL_law__1729 (k23 : Int32 → sy_M → sy_O) (w5 : Value) (w6 : Value) (a4 : Int32) (M : sy_M) : sy_run skL qL_law_ [(1729, .aload_n 1, 1, [true, true, true, true, true, false, false]), (1730, .aload_n 0, 1, []), (1731, .iload 4, 2, []), (1733, .iconst 1, 1, []), (1734, .iadd, 1, []), (1735, .iaload, 1, []), (1736, .aload_n 0, 1, []), (1737, .iload 4, 2, []), (1739, .iconst 2, 1, []), (1740, .iadd, 1, []), (1741, .iaload, 1, []), (1742, .aload_n 3, 1, []), (1743, .invokestatic 247, 3, []), (1746, .istore 5, 2, []), (1748, .aload_n 2, 1, []), (1749, .aload_n 0, 1, []), (1750, .iload 4, 2, []), (1752, .iconst 1, 1, []), (1753, .iadd, 1, []), (1754, .iaload, 1, []), (1755, .aload_n 0, 1, []), (1756, .iload 4, 2, []), (1758, .iconst 2, 1, []), (1759, .iadd, 1, []), (1760, .iaload, 1, []), (1761, .invokevirtual 249, 3, []), (1764, .istore 6, 2, []), (1766, .aload_n 2, 1, []), (1767, .invokevirtual 154, 3, []), (1770, .iload 5, 2, []), (1772, .if_icmp .eq 5, 3, []), (1775, .iconst 0, 1, []), (1776, .ireturn, 1, []), (1777, .iload 5, 2, []), (1779, .ifCond .ne 15, 3, []), (1782, .aload_n 3, 1, []), (1783, .iconst 0, 1, []), (1784, .laload, 1, []), (1785, .iload 6, 2, []), (1787, .i2l, 1, []), (1788, .lcmp, 1, []), (1789, .ifCond .eq 5, 3, []), (1792, .iconst 0, 1, []), (1793, .ireturn, 1, [])] [(340, 0, jcL_fair), (273, 0, jcX12_fair), (181, 0, jcX12_thrown)] [(1794, juL_law__1794 (jfL_law__1794 k23))] 45 [] 1729 [.ref 1000000, .ref 0, .ref 121, .ref 132, .int a4, w5, w6] [] M = jfL_law__1729 k23 a4 M := rfl
theorem jtL_law__1729 {k23 : Int32 → sy_M → sy_O} (hk23 : ∀ (w5 : Value) (w6 : Value) (a4 : Int32) (M : sy_M) (r : xe_R × sy_M), k23 a4 M = some r → sy_E (56) qL_law_ 23 [.ref 1000000, .ref 0, .ref 121, .ref 132, .int a4, w5, w6] [] M r) : ∀ (w5 : Value) (w6 : Value) (a4 : Int32) (M : sy_M) (r : xe_R × sy_M), jfL_law__1729 k23 a4 M = some r → sy_E (56) qL_law_ 1729 [.ref 1000000, .ref 0, .ref 121, .ref 132, .int a4, w5, w6] [] M r := by
  intro w5 w6 a4 M r h
  exact sy_run_by (d := 55) ((jrL_law__1729 _ _ _ _ M).trans h) hkL (by decide +kernel) (sy_cs_cons (jeL_fair.deep (by decide)) (sy_cs_cons (jeX12_fair.deep (by decide)) (sy_cs_cons (jeX12_thrown.deep (by decide)) sy_cs_nil))) (sy_us_cons (jwL_law__1794 (jtL_law__1794 hk23)) sy_us_nil)
def jfL_law__1797 (k23 : Int32 → sy_M → sy_O) (a4 : Int32) (M : sy_M) : sy_O :=
  sy_bx (xe_in (a4 + 1) (M 134 0).toNatClampNeg) <|
  sy_bi (jfX11_tops (M 1000000 (Int32.toNatClampNeg (a4 + 1))) M) fun v2 M1 =>
  sy_bx (xe_in (a4 + 1) (M1 134 0).toNatClampNeg) <|
  sy_bi (jfX12_tops (M1 1000000 (Int32.toNatClampNeg (a4 + 1))) M1) fun v4 M3 =>
  if v2 = v4 then
    jfL_law__3150 k23 a4 M3
  else
    sy_ri 0 M3
set_option maxRecDepth 100000 in
theorem jrL_law__1797 (k23 : Int32 → sy_M → sy_O) (w5 : Value) (w6 : Value) (a4 : Int32) (M : sy_M) : sy_run skL qL_law_ [(1797, .aload_n 1, 1, [true, true, true, true, true, false, false]), (1798, .aload_n 0, 1, []), (1799, .iload 4, 2, []), (1801, .iconst 1, 1, []), (1802, .iadd, 1, []), (1803, .iaload, 1, []), (1804, .invokevirtual 250, 3, []), (1807, .aload_n 2, 1, []), (1808, .aload_n 0, 1, []), (1809, .iload 4, 2, []), (1811, .iconst 1, 1, []), (1812, .iadd, 1, []), (1813, .iaload, 1, []), (1814, .invokevirtual 253, 3, []), (1817, .if_icmp .eq 1333, 3, []), (1820, .iconst 0, 1, []), (1821, .ireturn, 1, [])] [(132, 0, jcX11_tops), (275, 0, jcX12_tops)] [(3150, juL_law__3150 (jfL_law__3150 k23))] 18 [] 1797 [.ref 1000000, .ref 0, .ref 121, .ref 132, .int a4, w5, w6] [] M = jfL_law__1797 k23 a4 M := rfl
theorem jtL_law__1797 {k23 : Int32 → sy_M → sy_O} (hk23 : ∀ (w5 : Value) (w6 : Value) (a4 : Int32) (M : sy_M) (r : xe_R × sy_M), k23 a4 M = some r → sy_E (56) qL_law_ 23 [.ref 1000000, .ref 0, .ref 121, .ref 132, .int a4, w5, w6] [] M r) : ∀ (w5 : Value) (w6 : Value) (a4 : Int32) (M : sy_M) (r : xe_R × sy_M), jfL_law__1797 k23 a4 M = some r → sy_E (56) qL_law_ 1797 [.ref 1000000, .ref 0, .ref 121, .ref 132, .int a4, w5, w6] [] M r := by
  intro w5 w6 a4 M r h
  exact sy_run_by (d := 55) ((jrL_law__1797 _ _ _ _ M).trans h) hkL (by decide +kernel) (sy_cs_cons (jeX11_tops.deep (by decide)) (sy_cs_cons (jeX12_tops.deep (by decide)) sy_cs_nil)) (sy_us_cons (jwL_law__3150 (jtL_law__3150 hk23)) sy_us_nil)
def jfL_law__1875 (k23 : Int32 → sy_M → sy_O) (a4 : Int32) (M : sy_M) : sy_O :=
  jfL_law__3150 k23 a4 M
set_option maxRecDepth 100000 in
theorem jrL_law__1875 (k23 : Int32 → sy_M → sy_O) (w5 : Value) (w6 : Value) (a4 : Int32) (M : sy_M) : sy_run skL qL_law_ [(1875, .goto 1275, 3, [true, true, true, true, true, false, false])] [] [(3150, juL_law__3150 (jfL_law__3150 k23))] 2 [] 1875 [.ref 1000000, .ref 0, .ref 121, .ref 132, .int a4, w5, w6] [] M = jfL_law__1875 k23 a4 M := rfl
theorem jtL_law__1875 {k23 : Int32 → sy_M → sy_O} (hk23 : ∀ (w5 : Value) (w6 : Value) (a4 : Int32) (M : sy_M) (r : xe_R × sy_M), k23 a4 M = some r → sy_E (56) qL_law_ 23 [.ref 1000000, .ref 0, .ref 121, .ref 132, .int a4, w5, w6] [] M r) : ∀ (w5 : Value) (w6 : Value) (a4 : Int32) (M : sy_M) (r : xe_R × sy_M), jfL_law__1875 k23 a4 M = some r → sy_E (56) qL_law_ 1875 [.ref 1000000, .ref 0, .ref 121, .ref 132, .int a4, w5, w6] [] M r := by
  intro w5 w6 a4 M r h
  exact sy_run_by (d := 55) ((jrL_law__1875 _ _ _ _ M).trans h) hkL (by decide +kernel) sy_cs_nil (sy_us_cons (jwL_law__3150 (jtL_law__3150 hk23)) sy_us_nil)
def jfL_law__1822 (k23 : Int32 → sy_M → sy_O) (a4 : Int32) (M : sy_M) : sy_O :=
  sy_bx (xe_in (a4 + 1) (M 134 0).toNatClampNeg) <|
  sy_bi (jfL_stand (M 1000000 (Int32.toNatClampNeg (a4 + 1))) M) fun v2 M1 =>
  sy_bx (xe_in (a4 + 1) (M1 134 0).toNatClampNeg) <|
  sy_bi (jfX12_stand (M1 1000000 (Int32.toNatClampNeg (a4 + 1))) M1) fun v4 M3 =>
  sy_bi (jfX12_thrown M3) fun v6 M5 =>
  if v6 = v2 then
    if v2 = 0 then
      if (lg_cmp (sy_rl M5 132 0) (Int32.toInt64 v4)) = 0 then
        jfL_law__1875 k23 a4 M5
      else
        sy_ri 0 M5
    else
      jfL_law__1875 k23 a4 M5
  else
    sy_ri 0 M5
set_option maxRecDepth 100000 in
theorem jrL_law__1822 (k23 : Int32 → sy_M → sy_O) (w5 : Value) (w6 : Value) (a4 : Int32) (M : sy_M) : sy_run skL qL_law_ [(1822, .aload_n 1, 1, [true, true, true, true, true, false, false]), (1823, .aload_n 0, 1, []), (1824, .iload 4, 2, []), (1826, .iconst 1, 1, []), (1827, .iadd, 1, []), (1828, .iaload, 1, []), (1829, .aload_n 3, 1, []), (1830, .invokestatic 254, 3, []), (1833, .istore 5, 2, []), (1835, .aload_n 2, 1, []), (1836, .aload_n 0, 1, []), (1837, .iload 4, 2, []), (1839, .iconst 1, 1, []), (1840, .iadd, 1, []), (1841, .iaload, 1, []), (1842, .invokevirtual 256, 3, []), (1845, .istore 6, 2, []), (1847, .aload_n 2, 1, []), (1848, .invokevirtual 154, 3, []), (1851, .iload 5, 2, []), (1853, .if_icmp .eq 5, 3, []), (1856, .iconst 0, 1, []), (1857, .ireturn, 1, []), (1858, .iload 5, 2, []), (1860, .ifCond .ne 15, 3, []), (1863, .aload_n 3, 1, []), (1864, .iconst 0, 1, []), (1865, .laload, 1, []), (1866, .iload 6, 2, []), (1868, .i2l, 1, []), (1869, .lcmp, 1, []), (1870, .ifCond .eq 5, 3, []), (1873, .iconst 0, 1, []), (1874, .ireturn, 1, [])] [(341, 0, jcL_stand), (276, 0, jcX12_stand), (181, 0, jcX12_thrown)] [(1875, juL_law__1875 (jfL_law__1875 k23))] 35 [] 1822 [.ref 1000000, .ref 0, .ref 121, .ref 132, .int a4, w5, w6] [] M = jfL_law__1822 k23 a4 M := rfl
theorem jtL_law__1822 {k23 : Int32 → sy_M → sy_O} (hk23 : ∀ (w5 : Value) (w6 : Value) (a4 : Int32) (M : sy_M) (r : xe_R × sy_M), k23 a4 M = some r → sy_E (56) qL_law_ 23 [.ref 1000000, .ref 0, .ref 121, .ref 132, .int a4, w5, w6] [] M r) : ∀ (w5 : Value) (w6 : Value) (a4 : Int32) (M : sy_M) (r : xe_R × sy_M), jfL_law__1822 k23 a4 M = some r → sy_E (56) qL_law_ 1822 [.ref 1000000, .ref 0, .ref 121, .ref 132, .int a4, w5, w6] [] M r := by
  intro w5 w6 a4 M r h
  exact sy_run_by (d := 55) ((jrL_law__1822 _ _ _ _ M).trans h) hkL (by decide +kernel) (sy_cs_cons (jeL_stand.deep (by decide)) (sy_cs_cons (jeX12_stand.deep (by decide)) (sy_cs_cons (jeX12_thrown.deep (by decide)) sy_cs_nil))) (sy_us_cons (jwL_law__1875 (jtL_law__1875 hk23)) sy_us_nil)
def jfL_law__1911 (k23 : Int32 → sy_M → sy_O) (a4 : Int32) (s0 : Int32) (s2 : Int32) (M : sy_M) : sy_O :=
  sy_bi (jfX12_dear s0 M) fun v2 M1 =>
  if s2 = v2 then
    jfL_law__3150 k23 a4 M1
  else
    sy_ri 0 M1
set_option maxRecDepth 100000 in
theorem jrL_law__1911 (k23 : Int32 → sy_M → sy_O) (w5 : Value) (w6 : Value) (a4 : Int32) (s0 : Int32) (s2 : Int32) (M : sy_M) : sy_run skL qL_law_ [(1911, .invokevirtual 260, 3, [true, true, true, true, true, false, false]), (1914, .if_icmp .eq 1236, 3, []), (1917, .iconst 0, 1, []), (1918, .ireturn, 1, [])] [(278, 0, jcX12_dear)] [(3150, juL_law__3150 (jfL_law__3150 k23))] 5 [] 1911 [.ref 1000000, .ref 0, .ref 121, .ref 132, .int a4, w5, w6] [.int s0, .ref 121, .int s2] M = jfL_law__1911 k23 a4 s0 s2 M := rfl
theorem jtL_law__1911 {k23 : Int32 → sy_M → sy_O} (hk23 : ∀ (w5 : Value) (w6 : Value) (a4 : Int32) (M : sy_M) (r : xe_R × sy_M), k23 a4 M = some r → sy_E (56) qL_law_ 23 [.ref 1000000, .ref 0, .ref 121, .ref 132, .int a4, w5, w6] [] M r) : ∀ (w5 : Value) (w6 : Value) (a4 : Int32) (s0 : Int32) (s2 : Int32) (M : sy_M) (r : xe_R × sy_M), jfL_law__1911 k23 a4 s0 s2 M = some r → sy_E (56) qL_law_ 1911 [.ref 1000000, .ref 0, .ref 121, .ref 132, .int a4, w5, w6] [.int s0, .ref 121, .int s2] M r := by
  intro w5 w6 a4 s0 s2 M r h
  exact sy_run_by (d := 55) ((jrL_law__1911 _ _ _ _ _ _ M).trans h) hkL (by decide +kernel) (sy_cs_cons (jeX12_dear.deep (by decide)) sy_cs_nil) (sy_us_cons (jwL_law__3150 (jtL_law__3150 hk23)) sy_us_nil)
def jfL_law__1893 (k23 : Int32 → sy_M → sy_O) (a4 : Int32) (s0 : Int32) (M : sy_M) : sy_O :=
  sy_bi (jfX11_dear s0 M) fun v2 M1 =>
  sy_bx (xe_in (a4 + 1) (M1 134 0).toNatClampNeg) <|
  if (M1 1000000 (Int32.toNatClampNeg (a4 + 1))) = 0 then
    jfL_law__1911 k23 a4 0 v2 M1
  else
    jfL_law__1911 k23 a4 1 v2 M1
set_option maxRecDepth 100000 in
theorem jrL_law__1893 (k23 : Int32 → sy_M → sy_O) (w5 : Value) (w6 : Value) (a4 : Int32) (s0 : Int32) (M : sy_M) : sy_run skL qL_law_ [(1893, .invokevirtual 257, 3, [true, true, true, true, true, false, false]), (1896, .aload_n 2, 1, []), (1897, .aload_n 0, 1, []), (1898, .iload 4, 2, []), (1900, .iconst 1, 1, []), (1901, .iadd, 1, []), (1902, .iaload, 1, []), (1903, .ifCond .eq 7, 3, []), (1906, .iconst 1, 1, []), (1907, .goto 4, 3, []), (1910, .iconst 0, 1, [true, true, true, true, true, false, false])] [(135, 0, jcX11_dear)] [(1911, juL_law__1911 (jfL_law__1911 k23))] 12 [] 1893 [.ref 1000000, .ref 0, .ref 121, .ref 132, .int a4, w5, w6] [.int s0, .ref 0] M = jfL_law__1893 k23 a4 s0 M := rfl
theorem jtL_law__1893 {k23 : Int32 → sy_M → sy_O} (hk23 : ∀ (w5 : Value) (w6 : Value) (a4 : Int32) (M : sy_M) (r : xe_R × sy_M), k23 a4 M = some r → sy_E (56) qL_law_ 23 [.ref 1000000, .ref 0, .ref 121, .ref 132, .int a4, w5, w6] [] M r) : ∀ (w5 : Value) (w6 : Value) (a4 : Int32) (s0 : Int32) (M : sy_M) (r : xe_R × sy_M), jfL_law__1893 k23 a4 s0 M = some r → sy_E (56) qL_law_ 1893 [.ref 1000000, .ref 0, .ref 121, .ref 132, .int a4, w5, w6] [.int s0, .ref 0] M r := by
  intro w5 w6 a4 s0 M r h
  exact sy_run_by (d := 55) ((jrL_law__1893 _ _ _ _ _ M).trans h) hkL (by decide +kernel) (sy_cs_cons (jeX11_dear.deep (by decide)) sy_cs_nil) (sy_us_cons (jwL_law__1911 (jtL_law__1911 hk23)) sy_us_nil)
def jfL_law__1878 (k23 : Int32 → sy_M → sy_O) (a4 : Int32) (M : sy_M) : sy_O :=
  sy_bx (xe_in (a4 + 1) (M 134 0).toNatClampNeg) <|
  if (M 1000000 (Int32.toNatClampNeg (a4 + 1))) = 0 then
    jfL_law__1893 k23 a4 0 M
  else
    jfL_law__1893 k23 a4 1 M
set_option maxRecDepth 100000 in
theorem jrL_law__1878 (k23 : Int32 → sy_M → sy_O) (w5 : Value) (w6 : Value) (a4 : Int32) (M : sy_M) : sy_run skL qL_law_ [(1878, .aload_n 1, 1, [true, true, true, true, true, false, false]), (1879, .aload_n 0, 1, []), (1880, .iload 4, 2, []), (1882, .iconst 1, 1, []), (1883, .iadd, 1, []), (1884, .iaload, 1, []), (1885, .ifCond .eq 7, 3, []), (1888, .iconst 1, 1, []), (1889, .goto 4, 3, []), (1892, .iconst 0, 1, [true, true, true, true, true, false, false])] [] [(1893, juL_law__1893 (jfL_law__1893 k23))] 11 [] 1878 [.ref 1000000, .ref 0, .ref 121, .ref 132, .int a4, w5, w6] [] M = jfL_law__1878 k23 a4 M := rfl
theorem jtL_law__1878 {k23 : Int32 → sy_M → sy_O} (hk23 : ∀ (w5 : Value) (w6 : Value) (a4 : Int32) (M : sy_M) (r : xe_R × sy_M), k23 a4 M = some r → sy_E (56) qL_law_ 23 [.ref 1000000, .ref 0, .ref 121, .ref 132, .int a4, w5, w6] [] M r) : ∀ (w5 : Value) (w6 : Value) (a4 : Int32) (M : sy_M) (r : xe_R × sy_M), jfL_law__1878 k23 a4 M = some r → sy_E (56) qL_law_ 1878 [.ref 1000000, .ref 0, .ref 121, .ref 132, .int a4, w5, w6] [] M r := by
  intro w5 w6 a4 M r h
  exact sy_run_by (d := 55) ((jrL_law__1878 _ _ _ _ M).trans h) hkL (by decide +kernel) sy_cs_nil (sy_us_cons (jwL_law__1893 (jtL_law__1893 hk23)) sy_us_nil)
def jfL_law__1972 (k23 : Int32 → sy_M → sy_O) (a4 : Int32) (M : sy_M) : sy_O :=
  jfL_law__3150 k23 a4 M
set_option maxRecDepth 100000 in
theorem jrL_law__1972 (k23 : Int32 → sy_M → sy_O) (w5 : Value) (w6 : Value) (a4 : Int32) (M : sy_M) : sy_run skL qL_law_ [(1972, .goto 1178, 3, [true, true, true, true, true, false, false])] [] [(3150, juL_law__3150 (jfL_law__3150 k23))] 2 [] 1972 [.ref 1000000, .ref 0, .ref 121, .ref 132, .int a4, w5, w6] [] M = jfL_law__1972 k23 a4 M := rfl
theorem jtL_law__1972 {k23 : Int32 → sy_M → sy_O} (hk23 : ∀ (w5 : Value) (w6 : Value) (a4 : Int32) (M : sy_M) (r : xe_R × sy_M), k23 a4 M = some r → sy_E (56) qL_law_ 23 [.ref 1000000, .ref 0, .ref 121, .ref 132, .int a4, w5, w6] [] M r) : ∀ (w5 : Value) (w6 : Value) (a4 : Int32) (M : sy_M) (r : xe_R × sy_M), jfL_law__1972 k23 a4 M = some r → sy_E (56) qL_law_ 1972 [.ref 1000000, .ref 0, .ref 121, .ref 132, .int a4, w5, w6] [] M r := by
  intro w5 w6 a4 M r h
  exact sy_run_by (d := 55) ((jrL_law__1972 _ _ _ _ M).trans h) hkL (by decide +kernel) sy_cs_nil (sy_us_cons (jwL_law__3150 (jtL_law__3150 hk23)) sy_us_nil)
def jfL_law__1919 (k23 : Int32 → sy_M → sy_O) (a4 : Int32) (M : sy_M) : sy_O :=
  sy_bx (xe_in (a4 + 1) (M 134 0).toNatClampNeg) <|
  sy_bi (jfL_earns (M 1000000 (Int32.toNatClampNeg (a4 + 1))) M) fun v2 M1 =>
  sy_bx (xe_in (a4 + 1) (M1 134 0).toNatClampNeg) <|
  sy_bi (jfX12_earns (M1 1000000 (Int32.toNatClampNeg (a4 + 1))) M1) fun v4 M3 =>
  sy_bi (jfX12_thrown M3) fun v6 M5 =>
  if v6 = v2 then
    if v2 = 0 then
      if (lg_cmp (sy_rl M5 132 0) (Int32.toInt64 v4)) = 0 then
        jfL_law__1972 k23 a4 M5
      else
        sy_ri 0 M5
    else
      jfL_law__1972 k23 a4 M5
  else
    sy_ri 0 M5
set_option maxRecDepth 100000 in
theorem jrL_law__1919 (k23 : Int32 → sy_M → sy_O) (w5 : Value) (w6 : Value) (a4 : Int32) (M : sy_M) : sy_run skL qL_law_ [(1919, .aload_n 1, 1, [true, true, true, true, true, false, false]), (1920, .aload_n 0, 1, []), (1921, .iload 4, 2, []), (1923, .iconst 1, 1, []), (1924, .iadd, 1, []), (1925, .iaload, 1, []), (1926, .aload_n 3, 1, []), (1927, .invokestatic 261, 3, []), (1930, .istore 5, 2, []), (1932, .aload_n 2, 1, []), (1933, .aload_n 0, 1, []), (1934, .iload 4, 2, []), (1936, .iconst 1, 1, []), (1937, .iadd, 1, []), (1938, .iaload, 1, []), (1939, .invokevirtual 263, 3, []), (1942, .istore 6, 2, []), (1944, .aload_n 2, 1, []), (1945, .invokevirtual 154, 3, []), (1948, .iload 5, 2, []), (1950, .if_icmp .eq 5, 3, []), (1953, .iconst 0, 1, []), (1954, .ireturn, 1, []), (1955, .iload 5, 2, []), (1957, .ifCond .ne 15, 3, []), (1960, .aload_n 3, 1, []), (1961, .iconst 0, 1, []), (1962, .laload, 1, []), (1963, .iload 6, 2, []), (1965, .i2l, 1, []), (1966, .lcmp, 1, []), (1967, .ifCond .eq 5, 3, []), (1970, .iconst 0, 1, []), (1971, .ireturn, 1, [])] [(342, 0, jcL_earns), (279, 0, jcX12_earns), (181, 0, jcX12_thrown)] [(1972, juL_law__1972 (jfL_law__1972 k23))] 35 [] 1919 [.ref 1000000, .ref 0, .ref 121, .ref 132, .int a4, w5, w6] [] M = jfL_law__1919 k23 a4 M := rfl
theorem jtL_law__1919 {k23 : Int32 → sy_M → sy_O} (hk23 : ∀ (w5 : Value) (w6 : Value) (a4 : Int32) (M : sy_M) (r : xe_R × sy_M), k23 a4 M = some r → sy_E (56) qL_law_ 23 [.ref 1000000, .ref 0, .ref 121, .ref 132, .int a4, w5, w6] [] M r) : ∀ (w5 : Value) (w6 : Value) (a4 : Int32) (M : sy_M) (r : xe_R × sy_M), jfL_law__1919 k23 a4 M = some r → sy_E (56) qL_law_ 1919 [.ref 1000000, .ref 0, .ref 121, .ref 132, .int a4, w5, w6] [] M r := by
  intro w5 w6 a4 M r h
  exact sy_run_by (d := 55) ((jrL_law__1919 _ _ _ _ M).trans h) hkL (by decide +kernel) (sy_cs_cons (jeL_earns.deep (by decide)) (sy_cs_cons (jeX12_earns.deep (by decide)) (sy_cs_cons (jeX12_thrown.deep (by decide)) sy_cs_nil))) (sy_us_cons (jwL_law__1972 (jtL_law__1972 hk23)) sy_us_nil)
def jfL_law__2044 (k23 : Int32 → sy_M → sy_O) (a4 : Int32) (M : sy_M) : sy_O :=
  jfL_law__3150 k23 a4 M
set_option maxRecDepth 100000 in
theorem jrL_law__2044 (k23 : Int32 → sy_M → sy_O) (w5 : Value) (w6 : Value) (a4 : Int32) (M : sy_M) : sy_run skL qL_law_ [(2044, .goto 1106, 3, [true, true, true, true, true, false, false])] [] [(3150, juL_law__3150 (jfL_law__3150 k23))] 2 [] 2044 [.ref 1000000, .ref 0, .ref 121, .ref 132, .int a4, w5, w6] [] M = jfL_law__2044 k23 a4 M := rfl
theorem jtL_law__2044 {k23 : Int32 → sy_M → sy_O} (hk23 : ∀ (w5 : Value) (w6 : Value) (a4 : Int32) (M : sy_M) (r : xe_R × sy_M), k23 a4 M = some r → sy_E (56) qL_law_ 23 [.ref 1000000, .ref 0, .ref 121, .ref 132, .int a4, w5, w6] [] M r) : ∀ (w5 : Value) (w6 : Value) (a4 : Int32) (M : sy_M) (r : xe_R × sy_M), jfL_law__2044 k23 a4 M = some r → sy_E (56) qL_law_ 2044 [.ref 1000000, .ref 0, .ref 121, .ref 132, .int a4, w5, w6] [] M r := by
  intro w5 w6 a4 M r h
  exact sy_run_by (d := 55) ((jrL_law__2044 _ _ _ _ M).trans h) hkL (by decide +kernel) sy_cs_nil (sy_us_cons (jwL_law__3150 (jtL_law__3150 hk23)) sy_us_nil)
def jfL_law__2011 (k23 : Int32 → sy_M → sy_O) (a4 : Int32) (a5 : Int32) (s0 : Int32) (M : sy_M) : sy_O :=
  sy_bi (jfX12_culprit s0 M) fun v2 M1 =>
  sy_bi (jfX12_thrown M1) fun v4 M3 =>
  if v4 = a5 then
    if a5 = 0 then
      if (lg_cmp (sy_rl M3 132 0) (Int32.toInt64 v2)) = 0 then
        jfL_law__2044 k23 a4 M3
      else
        sy_ri 0 M3
    else
      jfL_law__2044 k23 a4 M3
  else
    sy_ri 0 M3
set_option maxRecDepth 100000 in
theorem jrL_law__2011 (k23 : Int32 → sy_M → sy_O) (w6 : Value) (a4 : Int32) (a5 : Int32) (s0 : Int32) (M : sy_M) : sy_run skL qL_law_ [(2011, .invokevirtual 267, 3, [true, true, true, true, true, true, false]), (2014, .istore 6, 2, []), (2016, .aload_n 2, 1, []), (2017, .invokevirtual 154, 3, []), (2020, .iload 5, 2, []), (2022, .if_icmp .eq 5, 3, []), (2025, .iconst 0, 1, []), (2026, .ireturn, 1, []), (2027, .iload 5, 2, []), (2029, .ifCond .ne 15, 3, []), (2032, .aload_n 3, 1, []), (2033, .iconst 0, 1, []), (2034, .laload, 1, []), (2035, .iload 6, 2, []), (2037, .i2l, 1, []), (2038, .lcmp, 1, []), (2039, .ifCond .eq 5, 3, []), (2042, .iconst 0, 1, []), (2043, .ireturn, 1, [])] [(282, 0, jcX12_culprit), (181, 0, jcX12_thrown)] [(2044, juL_law__2044 (jfL_law__2044 k23))] 20 [] 2011 [.ref 1000000, .ref 0, .ref 121, .ref 132, .int a4, .int a5, w6] [.int s0, .ref 121] M = jfL_law__2011 k23 a4 a5 s0 M := rfl
theorem jtL_law__2011 {k23 : Int32 → sy_M → sy_O} (hk23 : ∀ (w5 : Value) (w6 : Value) (a4 : Int32) (M : sy_M) (r : xe_R × sy_M), k23 a4 M = some r → sy_E (56) qL_law_ 23 [.ref 1000000, .ref 0, .ref 121, .ref 132, .int a4, w5, w6] [] M r) : ∀ (w6 : Value) (a4 : Int32) (a5 : Int32) (s0 : Int32) (M : sy_M) (r : xe_R × sy_M), jfL_law__2011 k23 a4 a5 s0 M = some r → sy_E (56) qL_law_ 2011 [.ref 1000000, .ref 0, .ref 121, .ref 132, .int a4, .int a5, w6] [.int s0, .ref 121] M r := by
  intro w6 a4 a5 s0 M r h
  exact sy_run_by (d := 55) ((jrL_law__2011 _ _ _ _ _ M).trans h) hkL (by decide +kernel) (sy_cs_cons (jeX12_culprit.deep (by decide)) (sy_cs_cons (jeX12_thrown.deep (by decide)) sy_cs_nil)) (sy_us_cons (jwL_law__2044 (jtL_law__2044 hk23)) sy_us_nil)
def jfL_law__1990 (k23 : Int32 → sy_M → sy_O) (a4 : Int32) (s0 : Int32) (M : sy_M) : sy_O :=
  sy_bi (jfL_culprit s0 M) fun v2 M1 =>
  sy_bx (xe_in (a4 + 1) (M1 134 0).toNatClampNeg) <|
  if (M1 1000000 (Int32.toNatClampNeg (a4 + 1))) = 0 then
    jfL_law__2011 k23 a4 v2 0 M1
  else
    jfL_law__2011 k23 a4 v2 1 M1
set_option maxRecDepth 100000 in
theorem jrL_law__1990 (k23 : Int32 → sy_M → sy_O) (w5 : Value) (w6 : Value) (a4 : Int32) (s0 : Int32) (M : sy_M) : sy_run skL qL_law_ [(1990, .aload_n 3, 1, [true, true, true, true, true, false, false]), (1991, .invokestatic 264, 3, []), (1994, .istore 5, 2, []), (1996, .aload_n 2, 1, []), (1997, .aload_n 0, 1, []), (1998, .iload 4, 2, []), (2000, .iconst 1, 1, []), (2001, .iadd, 1, []), (2002, .iaload, 1, []), (2003, .ifCond .eq 7, 3, []), (2006, .iconst 1, 1, []), (2007, .goto 4, 3, []), (2010, .iconst 0, 1, [true, true, true, true, true, true, false])] [(343, 0, jcL_culprit)] [(2011, juL_law__2011 (jfL_law__2011 k23))] 14 [] 1990 [.ref 1000000, .ref 0, .ref 121, .ref 132, .int a4, w5, w6] [.int s0, .ref 0] M = jfL_law__1990 k23 a4 s0 M := rfl
theorem jtL_law__1990 {k23 : Int32 → sy_M → sy_O} (hk23 : ∀ (w5 : Value) (w6 : Value) (a4 : Int32) (M : sy_M) (r : xe_R × sy_M), k23 a4 M = some r → sy_E (56) qL_law_ 23 [.ref 1000000, .ref 0, .ref 121, .ref 132, .int a4, w5, w6] [] M r) : ∀ (w5 : Value) (w6 : Value) (a4 : Int32) (s0 : Int32) (M : sy_M) (r : xe_R × sy_M), jfL_law__1990 k23 a4 s0 M = some r → sy_E (56) qL_law_ 1990 [.ref 1000000, .ref 0, .ref 121, .ref 132, .int a4, w5, w6] [.int s0, .ref 0] M r := by
  intro w5 w6 a4 s0 M r h
  exact sy_run_by (d := 55) ((jrL_law__1990 _ _ _ _ _ M).trans h) hkL (by decide +kernel) (sy_cs_cons (jeL_culprit.deep (by decide)) sy_cs_nil) (sy_us_cons (jwL_law__2011 (jtL_law__2011 hk23)) sy_us_nil)
def jfL_law__1975 (k23 : Int32 → sy_M → sy_O) (a4 : Int32) (M : sy_M) : sy_O :=
  sy_bx (xe_in (a4 + 1) (M 134 0).toNatClampNeg) <|
  if (M 1000000 (Int32.toNatClampNeg (a4 + 1))) = 0 then
    jfL_law__1990 k23 a4 0 M
  else
    jfL_law__1990 k23 a4 1 M
set_option maxRecDepth 100000 in
theorem jrL_law__1975 (k23 : Int32 → sy_M → sy_O) (w5 : Value) (w6 : Value) (a4 : Int32) (M : sy_M) : sy_run skL qL_law_ [(1975, .aload_n 1, 1, [true, true, true, true, true, false, false]), (1976, .aload_n 0, 1, []), (1977, .iload 4, 2, []), (1979, .iconst 1, 1, []), (1980, .iadd, 1, []), (1981, .iaload, 1, []), (1982, .ifCond .eq 7, 3, []), (1985, .iconst 1, 1, []), (1986, .goto 4, 3, []), (1989, .iconst 0, 1, [true, true, true, true, true, false, false])] [] [(1990, juL_law__1990 (jfL_law__1990 k23))] 11 [] 1975 [.ref 1000000, .ref 0, .ref 121, .ref 132, .int a4, w5, w6] [] M = jfL_law__1975 k23 a4 M := rfl
theorem jtL_law__1975 {k23 : Int32 → sy_M → sy_O} (hk23 : ∀ (w5 : Value) (w6 : Value) (a4 : Int32) (M : sy_M) (r : xe_R × sy_M), k23 a4 M = some r → sy_E (56) qL_law_ 23 [.ref 1000000, .ref 0, .ref 121, .ref 132, .int a4, w5, w6] [] M r) : ∀ (w5 : Value) (w6 : Value) (a4 : Int32) (M : sy_M) (r : xe_R × sy_M), jfL_law__1975 k23 a4 M = some r → sy_E (56) qL_law_ 1975 [.ref 1000000, .ref 0, .ref 121, .ref 132, .int a4, w5, w6] [] M r := by
  intro w5 w6 a4 M r h
  exact sy_run_by (d := 55) ((jrL_law__1975 _ _ _ _ M).trans h) hkL (by decide +kernel) sy_cs_nil (sy_us_cons (jwL_law__1990 (jtL_law__1990 hk23)) sy_us_nil)
def jfL_law__2088 (k23 : Int32 → sy_M → sy_O) (a4 : Int32) (M : sy_M) : sy_O :=
  jfL_law__3150 k23 a4 M
set_option maxRecDepth 100000 in
theorem jrL_law__2088 (k23 : Int32 → sy_M → sy_O) (w5 : Value) (w6 : Value) (a4 : Int32) (M : sy_M) : sy_run skL qL_law_ [(2088, .goto 1062, 3, [true, true, true, true, true, false, false])] [] [(3150, juL_law__3150 (jfL_law__3150 k23))] 2 [] 2088 [.ref 1000000, .ref 0, .ref 121, .ref 132, .int a4, w5, w6] [] M = jfL_law__2088 k23 a4 M := rfl
theorem jtL_law__2088 {k23 : Int32 → sy_M → sy_O} (hk23 : ∀ (w5 : Value) (w6 : Value) (a4 : Int32) (M : sy_M) (r : xe_R × sy_M), k23 a4 M = some r → sy_E (56) qL_law_ 23 [.ref 1000000, .ref 0, .ref 121, .ref 132, .int a4, w5, w6] [] M r) : ∀ (w5 : Value) (w6 : Value) (a4 : Int32) (M : sy_M) (r : xe_R × sy_M), jfL_law__2088 k23 a4 M = some r → sy_E (56) qL_law_ 2088 [.ref 1000000, .ref 0, .ref 121, .ref 132, .int a4, w5, w6] [] M r := by
  intro w5 w6 a4 M r h
  exact sy_run_by (d := 55) ((jrL_law__2088 _ _ _ _ M).trans h) hkL (by decide +kernel) sy_cs_nil (sy_us_cons (jwL_law__3150 (jtL_law__3150 hk23)) sy_us_nil)
def jfL_law__2047 (k23 : Int32 → sy_M → sy_O) (a4 : Int32) (M : sy_M) : sy_O :=
  sy_bi (jfL_ask M) fun v2 M1 =>
  sy_bi (jfX12_ask M1) fun v4 M3 =>
  sy_bi (jfX12_thrown M3) fun v6 M5 =>
  if v6 = v2 then
    if v2 = 0 then
      if (lg_cmp (sy_rl M5 132 0) (Int32.toInt64 v4)) = 0 then
        jfL_law__2088 k23 a4 M5
      else
        sy_ri 0 M5
    else
      jfL_law__2088 k23 a4 M5
  else
    sy_ri 0 M5
set_option maxRecDepth 100000 in
theorem jrL_law__2047 (k23 : Int32 → sy_M → sy_O) (w5 : Value) (w6 : Value) (a4 : Int32) (M : sy_M) : sy_run skL qL_law_ [(2047, .aload_n 1, 1, [true, true, true, true, true, false, false]), (2048, .aload_n 3, 1, []), (2049, .invokestatic 268, 3, []), (2052, .istore 5, 2, []), (2054, .aload_n 2, 1, []), (2055, .invokevirtual 270, 3, []), (2058, .istore 6, 2, []), (2060, .aload_n 2, 1, []), (2061, .invokevirtual 154, 3, []), (2064, .iload 5, 2, []), (2066, .if_icmp .eq 5, 3, []), (2069, .iconst 0, 1, []), (2070, .ireturn, 1, []), (2071, .iload 5, 2, []), (2073, .ifCond .ne 15, 3, []), (2076, .aload_n 3, 1, []), (2077, .iconst 0, 1, []), (2078, .laload, 1, []), (2079, .iload 6, 2, []), (2081, .i2l, 1, []), (2082, .lcmp, 1, []), (2083, .ifCond .eq 5, 3, []), (2086, .iconst 0, 1, []), (2087, .ireturn, 1, [])] [(344, 0, jcL_ask), (283, 0, jcX12_ask), (181, 0, jcX12_thrown)] [(2088, juL_law__2088 (jfL_law__2088 k23))] 25 [] 2047 [.ref 1000000, .ref 0, .ref 121, .ref 132, .int a4, w5, w6] [] M = jfL_law__2047 k23 a4 M := rfl
theorem jtL_law__2047 {k23 : Int32 → sy_M → sy_O} (hk23 : ∀ (w5 : Value) (w6 : Value) (a4 : Int32) (M : sy_M) (r : xe_R × sy_M), k23 a4 M = some r → sy_E (56) qL_law_ 23 [.ref 1000000, .ref 0, .ref 121, .ref 132, .int a4, w5, w6] [] M r) : ∀ (w5 : Value) (w6 : Value) (a4 : Int32) (M : sy_M) (r : xe_R × sy_M), jfL_law__2047 k23 a4 M = some r → sy_E (56) qL_law_ 2047 [.ref 1000000, .ref 0, .ref 121, .ref 132, .int a4, w5, w6] [] M r := by
  intro w5 w6 a4 M r h
  exact sy_run_by (d := 55) ((jrL_law__2047 _ _ _ _ M).trans h) hkL (by decide +kernel) (sy_cs_cons (jeL_ask.deep (by decide)) (sy_cs_cons (jeX12_ask.deep (by decide)) (sy_cs_cons (jeX12_thrown.deep (by decide)) sy_cs_nil))) (sy_us_cons (jwL_law__2088 (jtL_law__2088 hk23)) sy_us_nil)
def jfL_law__2144 (k23 : Int32 → sy_M → sy_O) (a4 : Int32) (M : sy_M) : sy_O :=
  jfL_law__3150 k23 a4 M
set_option maxRecDepth 100000 in
theorem jrL_law__2144 (k23 : Int32 → sy_M → sy_O) (w5 : Value) (w6 : Value) (a4 : Int32) (M : sy_M) : sy_run skL qL_law_ [(2144, .goto 1006, 3, [true, true, true, true, true, false, false])] [] [(3150, juL_law__3150 (jfL_law__3150 k23))] 2 [] 2144 [.ref 1000000, .ref 0, .ref 121, .ref 132, .int a4, w5, w6] [] M = jfL_law__2144 k23 a4 M := rfl
theorem jtL_law__2144 {k23 : Int32 → sy_M → sy_O} (hk23 : ∀ (w5 : Value) (w6 : Value) (a4 : Int32) (M : sy_M) (r : xe_R × sy_M), k23 a4 M = some r → sy_E (56) qL_law_ 23 [.ref 1000000, .ref 0, .ref 121, .ref 132, .int a4, w5, w6] [] M r) : ∀ (w5 : Value) (w6 : Value) (a4 : Int32) (M : sy_M) (r : xe_R × sy_M), jfL_law__2144 k23 a4 M = some r → sy_E (56) qL_law_ 2144 [.ref 1000000, .ref 0, .ref 121, .ref 132, .int a4, w5, w6] [] M r := by
  intro w5 w6 a4 M r h
  exact sy_run_by (d := 55) ((jrL_law__2144 _ _ _ _ M).trans h) hkL (by decide +kernel) sy_cs_nil (sy_us_cons (jwL_law__3150 (jtL_law__3150 hk23)) sy_us_nil)
def jfL_law__2091 (k23 : Int32 → sy_M → sy_O) (a4 : Int32) (M : sy_M) : sy_O :=
  sy_bx (xe_in (a4 + 1) (M 134 0).toNatClampNeg) <|
  sy_bi (jfL_drawn (M 1000000 (Int32.toNatClampNeg (a4 + 1))) M) fun v2 M1 =>
  sy_bx (xe_in (a4 + 1) (M1 134 0).toNatClampNeg) <|
  sy_bi (jfX12_drawn (M1 1000000 (Int32.toNatClampNeg (a4 + 1))) M1) fun v4 M3 =>
  sy_bi (jfX12_thrown M3) fun v6 M5 =>
  if v6 = v2 then
    if v2 = 0 then
      if (lg_cmp (sy_rl M5 132 0) (Int32.toInt64 v4)) = 0 then
        jfL_law__2144 k23 a4 M5
      else
        sy_ri 0 M5
    else
      jfL_law__2144 k23 a4 M5
  else
    sy_ri 0 M5
set_option maxRecDepth 100000 in
theorem jrL_law__2091 (k23 : Int32 → sy_M → sy_O) (w5 : Value) (w6 : Value) (a4 : Int32) (M : sy_M) : sy_run skL qL_law_ [(2091, .aload_n 1, 1, [true, true, true, true, true, false, false]), (2092, .aload_n 0, 1, []), (2093, .iload 4, 2, []), (2095, .iconst 1, 1, []), (2096, .iadd, 1, []), (2097, .iaload, 1, []), (2098, .aload_n 3, 1, []), (2099, .invokestatic 271, 3, []), (2102, .istore 5, 2, []), (2104, .aload_n 2, 1, []), (2105, .aload_n 0, 1, []), (2106, .iload 4, 2, []), (2108, .iconst 1, 1, []), (2109, .iadd, 1, []), (2110, .iaload, 1, []), (2111, .invokevirtual 273, 3, []), (2114, .istore 6, 2, []), (2116, .aload_n 2, 1, []), (2117, .invokevirtual 154, 3, []), (2120, .iload 5, 2, []), (2122, .if_icmp .eq 5, 3, []), (2125, .iconst 0, 1, []), (2126, .ireturn, 1, []), (2127, .iload 5, 2, []), (2129, .ifCond .ne 15, 3, []), (2132, .aload_n 3, 1, []), (2133, .iconst 0, 1, []), (2134, .laload, 1, []), (2135, .iload 6, 2, []), (2137, .i2l, 1, []), (2138, .lcmp, 1, []), (2139, .ifCond .eq 5, 3, []), (2142, .iconst 0, 1, []), (2143, .ireturn, 1, [])] [(345, 0, jcL_drawn), (284, 0, jcX12_drawn), (181, 0, jcX12_thrown)] [(2144, juL_law__2144 (jfL_law__2144 k23))] 35 [] 2091 [.ref 1000000, .ref 0, .ref 121, .ref 132, .int a4, w5, w6] [] M = jfL_law__2091 k23 a4 M := rfl
theorem jtL_law__2091 {k23 : Int32 → sy_M → sy_O} (hk23 : ∀ (w5 : Value) (w6 : Value) (a4 : Int32) (M : sy_M) (r : xe_R × sy_M), k23 a4 M = some r → sy_E (56) qL_law_ 23 [.ref 1000000, .ref 0, .ref 121, .ref 132, .int a4, w5, w6] [] M r) : ∀ (w5 : Value) (w6 : Value) (a4 : Int32) (M : sy_M) (r : xe_R × sy_M), jfL_law__2091 k23 a4 M = some r → sy_E (56) qL_law_ 2091 [.ref 1000000, .ref 0, .ref 121, .ref 132, .int a4, w5, w6] [] M r := by
  intro w5 w6 a4 M r h
  exact sy_run_by (d := 55) ((jrL_law__2091 _ _ _ _ M).trans h) hkL (by decide +kernel) (sy_cs_cons (jeL_drawn.deep (by decide)) (sy_cs_cons (jeX12_drawn.deep (by decide)) (sy_cs_cons (jeX12_thrown.deep (by decide)) sy_cs_nil))) (sy_us_cons (jwL_law__2144 (jtL_law__2144 hk23)) sy_us_nil)
def jfL_law__2219 (k23 : Int32 → sy_M → sy_O) (a4 : Int32) (M : sy_M) : sy_O :=
  jfL_law__3150 k23 a4 M
set_option maxRecDepth 100000 in
theorem jrL_law__2219 (k23 : Int32 → sy_M → sy_O) (w5 : Value) (w6 : Value) (a4 : Int32) (M : sy_M) : sy_run skL qL_law_ [(2219, .goto 931, 3, [true, true, true, true, true, false, false])] [] [(3150, juL_law__3150 (jfL_law__3150 k23))] 2 [] 2219 [.ref 1000000, .ref 0, .ref 121, .ref 132, .int a4, w5, w6] [] M = jfL_law__2219 k23 a4 M := rfl
theorem jtL_law__2219 {k23 : Int32 → sy_M → sy_O} (hk23 : ∀ (w5 : Value) (w6 : Value) (a4 : Int32) (M : sy_M) (r : xe_R × sy_M), k23 a4 M = some r → sy_E (56) qL_law_ 23 [.ref 1000000, .ref 0, .ref 121, .ref 132, .int a4, w5, w6] [] M r) : ∀ (w5 : Value) (w6 : Value) (a4 : Int32) (M : sy_M) (r : xe_R × sy_M), jfL_law__2219 k23 a4 M = some r → sy_E (56) qL_law_ 2219 [.ref 1000000, .ref 0, .ref 121, .ref 132, .int a4, w5, w6] [] M r := by
  intro w5 w6 a4 M r h
  exact sy_run_by (d := 55) ((jrL_law__2219 _ _ _ _ M).trans h) hkL (by decide +kernel) sy_cs_nil (sy_us_cons (jwL_law__3150 (jtL_law__3150 hk23)) sy_us_nil)
def jfL_law__2213 (k23 : Int32 → sy_M → sy_O) (a4 : Int32) (s0 : Int64) (s1 : Int64) (M : sy_M) : sy_O :=
  if (lg_cmp s1 s0) = 0 then
    jfL_law__2219 k23 a4 M
  else
    sy_ri 0 M
set_option maxRecDepth 100000 in
theorem jrL_law__2213 (k23 : Int32 → sy_M → sy_O) (w5 : Value) (w6 : Value) (a4 : Int32) (s0 : Int64) (s1 : Int64) (M : sy_M) : sy_run skL qL_law_ [(2213, .lcmp, 1, [true, true, true, true, true, false, false]), (2214, .ifCond .eq 5, 3, []), (2217, .iconst 0, 1, []), (2218, .ireturn, 1, [])] [] [(2219, juL_law__2219 (jfL_law__2219 k23))] 5 [] 2213 [.ref 1000000, .ref 0, .ref 121, .ref 132, .int a4, w5, w6] [.long s0, .long s1] M = jfL_law__2213 k23 a4 s0 s1 M := rfl
theorem jtL_law__2213 {k23 : Int32 → sy_M → sy_O} (hk23 : ∀ (w5 : Value) (w6 : Value) (a4 : Int32) (M : sy_M) (r : xe_R × sy_M), k23 a4 M = some r → sy_E (56) qL_law_ 23 [.ref 1000000, .ref 0, .ref 121, .ref 132, .int a4, w5, w6] [] M r) : ∀ (w5 : Value) (w6 : Value) (a4 : Int32) (s0 : Int64) (s1 : Int64) (M : sy_M) (r : xe_R × sy_M), jfL_law__2213 k23 a4 s0 s1 M = some r → sy_E (56) qL_law_ 2213 [.ref 1000000, .ref 0, .ref 121, .ref 132, .int a4, w5, w6] [.long s0, .long s1] M r := by
  intro w5 w6 a4 s0 s1 M r h
  exact sy_run_by (d := 55) ((jrL_law__2213 _ _ _ _ _ _ M).trans h) hkL (by decide +kernel) sy_cs_nil (sy_us_cons (jwL_law__2219 (jtL_law__2219 hk23)) sy_us_nil)
def jfL_law__2147 (k23 : Int32 → sy_M → sy_O) (a4 : Int32) (M : sy_M) : sy_O :=
  sy_bx (xe_in (a4 + 1) (M 134 0).toNatClampNeg) <|
  sy_bx (xe_in (a4 + 2) (M 134 0).toNatClampNeg) <|
  sy_bi (jfL_warmer (M 1000000 (Int32.toNatClampNeg (a4 + 1))) (M 1000000 (Int32.toNatClampNeg (a4 + 2))) M) fun v2 M1 =>
  sy_bx (xe_in (a4 + 1) (M1 134 0).toNatClampNeg) <|
  sy_bx (xe_in (a4 + 2) (M1 134 0).toNatClampNeg) <|
  sy_bi (jfX12_warmer (M1 1000000 (Int32.toNatClampNeg (a4 + 1))) (M1 1000000 (Int32.toNatClampNeg (a4 + 2))) M1) fun v4 M3 =>
  sy_bi (jfX12_thrown M3) fun v6 M5 =>
  if v6 = v2 then
    if v2 = 0 then
      if v4 = 0 then
        jfL_law__2213 k23 a4 (Int64.ofNat 0) (sy_rl M5 132 0) M5
      else
        jfL_law__2213 k23 a4 (Int64.ofNat 1) (sy_rl M5 132 0) M5
    else
      jfL_law__2219 k23 a4 M5
  else
    sy_ri 0 M5
set_option maxRecDepth 100000 in
theorem jrL_law__2147 (k23 : Int32 → sy_M → sy_O) (w5 : Value) (w6 : Value) (a4 : Int32) (M : sy_M) : sy_run skL qL_law_ [(2147, .aload_n 1, 1, [true, true, true, true, true, false, false]), (2148, .aload_n 0, 1, []), (2149, .iload 4, 2, []), (2151, .iconst 1, 1, []), (2152, .iadd, 1, []), (2153, .iaload, 1, []), (2154, .aload_n 0, 1, []), (2155, .iload 4, 2, []), (2157, .iconst 2, 1, []), (2158, .iadd, 1, []), (2159, .iaload, 1, []), (2160, .aload_n 3, 1, []), (2161, .invokestatic 274, 3, []), (2164, .istore 5, 2, []), (2166, .aload_n 2, 1, []), (2167, .aload_n 0, 1, []), (2168, .iload 4, 2, []), (2170, .iconst 1, 1, []), (2171, .iadd, 1, []), (2172, .iaload, 1, []), (2173, .aload_n 0, 1, []), (2174, .iload 4, 2, []), (2176, .iconst 2, 1, []), (2177, .iadd, 1, []), (2178, .iaload, 1, []), (2179, .invokevirtual 276, 3, []), (2182, .istore 6, 2, []), (2184, .aload_n 2, 1, []), (2185, .invokevirtual 154, 3, []), (2188, .iload 5, 2, []), (2190, .if_icmp .eq 5, 3, []), (2193, .iconst 0, 1, []), (2194, .ireturn, 1, []), (2195, .iload 5, 2, []), (2197, .ifCond .ne 22, 3, []), (2200, .aload_n 3, 1, []), (2201, .iconst 0, 1, []), (2202, .laload, 1, []), (2203, .iload 6, 2, []), (2205, .ifCond .eq 7, 3, []), (2208, .lconst 1, 1, []), (2209, .goto 4, 3, []), (2212, .lconst 0, 1, [true, true, true, true, true, false, false])] [(346, 0, jcL_warmer), (285, 0, jcX12_warmer), (181, 0, jcX12_thrown)] [(2219, juL_law__2219 (jfL_law__2219 k23)), (2213, juL_law__2213 (jfL_law__2213 k23))] 44 [] 2147 [.ref 1000000, .ref 0, .ref 121, .ref 132, .int a4, w5, w6] [] M = jfL_law__2147 k23 a4 M := rfl
theorem jtL_law__2147 {k23 : Int32 → sy_M → sy_O} (hk23 : ∀ (w5 : Value) (w6 : Value) (a4 : Int32) (M : sy_M) (r : xe_R × sy_M), k23 a4 M = some r → sy_E (56) qL_law_ 23 [.ref 1000000, .ref 0, .ref 121, .ref 132, .int a4, w5, w6] [] M r) : ∀ (w5 : Value) (w6 : Value) (a4 : Int32) (M : sy_M) (r : xe_R × sy_M), jfL_law__2147 k23 a4 M = some r → sy_E (56) qL_law_ 2147 [.ref 1000000, .ref 0, .ref 121, .ref 132, .int a4, w5, w6] [] M r := by
  intro w5 w6 a4 M r h
  exact sy_run_by (d := 55) ((jrL_law__2147 _ _ _ _ M).trans h) hkL (by decide +kernel) (sy_cs_cons (jeL_warmer.deep (by decide)) (sy_cs_cons (jeX12_warmer.deep (by decide)) (sy_cs_cons (jeX12_thrown.deep (by decide)) sy_cs_nil))) (sy_us_cons (jwL_law__2219 (jtL_law__2219 hk23)) (sy_us_cons (jwL_law__2213 (jtL_law__2213 hk23)) sy_us_nil))
def jfL_law__2275 (k23 : Int32 → sy_M → sy_O) (a4 : Int32) (M : sy_M) : sy_O :=
  jfL_law__3150 k23 a4 M
set_option maxRecDepth 100000 in
theorem jrL_law__2275 (k23 : Int32 → sy_M → sy_O) (w5 : Value) (w6 : Value) (a4 : Int32) (M : sy_M) : sy_run skL qL_law_ [(2275, .goto 875, 3, [true, true, true, true, true, false, false])] [] [(3150, juL_law__3150 (jfL_law__3150 k23))] 2 [] 2275 [.ref 1000000, .ref 0, .ref 121, .ref 132, .int a4, w5, w6] [] M = jfL_law__2275 k23 a4 M := rfl
theorem jtL_law__2275 {k23 : Int32 → sy_M → sy_O} (hk23 : ∀ (w5 : Value) (w6 : Value) (a4 : Int32) (M : sy_M) (r : xe_R × sy_M), k23 a4 M = some r → sy_E (56) qL_law_ 23 [.ref 1000000, .ref 0, .ref 121, .ref 132, .int a4, w5, w6] [] M r) : ∀ (w5 : Value) (w6 : Value) (a4 : Int32) (M : sy_M) (r : xe_R × sy_M), jfL_law__2275 k23 a4 M = some r → sy_E (56) qL_law_ 2275 [.ref 1000000, .ref 0, .ref 121, .ref 132, .int a4, w5, w6] [] M r := by
  intro w5 w6 a4 M r h
  exact sy_run_by (d := 55) ((jrL_law__2275 _ _ _ _ M).trans h) hkL (by decide +kernel) sy_cs_nil (sy_us_cons (jwL_law__3150 (jtL_law__3150 hk23)) sy_us_nil)
def jfL_law__2222 (k23 : Int32 → sy_M → sy_O) (a4 : Int32) (M : sy_M) : sy_O :=
  sy_bx (xe_in (a4 + 1) (M 134 0).toNatClampNeg) <|
  sy_bi (jfL_pairs (M 1000000 (Int32.toNatClampNeg (a4 + 1))) M) fun v2 M1 =>
  sy_bx (xe_in (a4 + 1) (M1 134 0).toNatClampNeg) <|
  sy_bi (jfX12_pairs (M1 1000000 (Int32.toNatClampNeg (a4 + 1))) M1) fun v4 M3 =>
  sy_bi (jfX12_thrown M3) fun v6 M5 =>
  if v6 = v2 then
    if v2 = 0 then
      if (lg_cmp (sy_rl M5 132 0) (Int32.toInt64 v4)) = 0 then
        jfL_law__2275 k23 a4 M5
      else
        sy_ri 0 M5
    else
      jfL_law__2275 k23 a4 M5
  else
    sy_ri 0 M5
set_option maxRecDepth 100000 in
theorem jrL_law__2222 (k23 : Int32 → sy_M → sy_O) (w5 : Value) (w6 : Value) (a4 : Int32) (M : sy_M) : sy_run skL qL_law_ [(2222, .aload_n 1, 1, [true, true, true, true, true, false, false]), (2223, .aload_n 0, 1, []), (2224, .iload 4, 2, []), (2226, .iconst 1, 1, []), (2227, .iadd, 1, []), (2228, .iaload, 1, []), (2229, .aload_n 3, 1, []), (2230, .invokestatic 277, 3, []), (2233, .istore 5, 2, []), (2235, .aload_n 2, 1, []), (2236, .aload_n 0, 1, []), (2237, .iload 4, 2, []), (2239, .iconst 1, 1, []), (2240, .iadd, 1, []), (2241, .iaload, 1, []), (2242, .invokevirtual 279, 3, []), (2245, .istore 6, 2, []), (2247, .aload_n 2, 1, []), (2248, .invokevirtual 154, 3, []), (2251, .iload 5, 2, []), (2253, .if_icmp .eq 5, 3, []), (2256, .iconst 0, 1, []), (2257, .ireturn, 1, []), (2258, .iload 5, 2, []), (2260, .ifCond .ne 15, 3, []), (2263, .aload_n 3, 1, []), (2264, .iconst 0, 1, []), (2265, .laload, 1, []), (2266, .iload 6, 2, []), (2268, .i2l, 1, []), (2269, .lcmp, 1, []), (2270, .ifCond .eq 5, 3, []), (2273, .iconst 0, 1, []), (2274, .ireturn, 1, [])] [(347, 0, jcL_pairs), (289, 0, jcX12_pairs), (181, 0, jcX12_thrown)] [(2275, juL_law__2275 (jfL_law__2275 k23))] 35 [] 2222 [.ref 1000000, .ref 0, .ref 121, .ref 132, .int a4, w5, w6] [] M = jfL_law__2222 k23 a4 M := rfl
theorem jtL_law__2222 {k23 : Int32 → sy_M → sy_O} (hk23 : ∀ (w5 : Value) (w6 : Value) (a4 : Int32) (M : sy_M) (r : xe_R × sy_M), k23 a4 M = some r → sy_E (56) qL_law_ 23 [.ref 1000000, .ref 0, .ref 121, .ref 132, .int a4, w5, w6] [] M r) : ∀ (w5 : Value) (w6 : Value) (a4 : Int32) (M : sy_M) (r : xe_R × sy_M), jfL_law__2222 k23 a4 M = some r → sy_E (56) qL_law_ 2222 [.ref 1000000, .ref 0, .ref 121, .ref 132, .int a4, w5, w6] [] M r := by
  intro w5 w6 a4 M r h
  exact sy_run_by (d := 55) ((jrL_law__2222 _ _ _ _ M).trans h) hkL (by decide +kernel) (sy_cs_cons (jeL_pairs.deep (by decide)) (sy_cs_cons (jeX12_pairs.deep (by decide)) (sy_cs_cons (jeX12_thrown.deep (by decide)) sy_cs_nil))) (sy_us_cons (jwL_law__2275 (jtL_law__2275 hk23)) sy_us_nil)
def jfL_law__2278 (k23 : Int32 → sy_M → sy_O) (a4 : Int32) (M : sy_M) : sy_O :=
  sy_bi (jfX11_keepers M) fun v2 M1 =>
  sy_bi (jfX12_keepers M1) fun v4 M3 =>
  if v2 = v4 then
    jfL_law__3150 k23 a4 M3
  else
    sy_ri 0 M3
set_option maxRecDepth 100000 in
theorem jrL_law__2278 (k23 : Int32 → sy_M → sy_O) (w5 : Value) (w6 : Value) (a4 : Int32) (M : sy_M) : sy_run skL qL_law_ [(2278, .aload_n 1, 1, [true, true, true, true, true, false, false]), (2279, .invokevirtual 280, 3, []), (2282, .aload_n 2, 1, []), (2283, .invokevirtual 283, 3, []), (2286, .if_icmp .eq 864, 3, []), (2289, .iconst 0, 1, []), (2290, .ireturn, 1, [])] [(147, 0, jcX11_keepers), (290, 0, jcX12_keepers)] [(3150, juL_law__3150 (jfL_law__3150 k23))] 8 [] 2278 [.ref 1000000, .ref 0, .ref 121, .ref 132, .int a4, w5, w6] [] M = jfL_law__2278 k23 a4 M := rfl
theorem jtL_law__2278 {k23 : Int32 → sy_M → sy_O} (hk23 : ∀ (w5 : Value) (w6 : Value) (a4 : Int32) (M : sy_M) (r : xe_R × sy_M), k23 a4 M = some r → sy_E (56) qL_law_ 23 [.ref 1000000, .ref 0, .ref 121, .ref 132, .int a4, w5, w6] [] M r) : ∀ (w5 : Value) (w6 : Value) (a4 : Int32) (M : sy_M) (r : xe_R × sy_M), jfL_law__2278 k23 a4 M = some r → sy_E (56) qL_law_ 2278 [.ref 1000000, .ref 0, .ref 121, .ref 132, .int a4, w5, w6] [] M r := by
  intro w5 w6 a4 M r h
  exact sy_run_by (d := 55) ((jrL_law__2278 _ _ _ _ M).trans h) hkL (by decide +kernel) (sy_cs_cons (jeX11_keepers.deep (by decide)) (sy_cs_cons (jeX12_keepers.deep (by decide)) sy_cs_nil)) (sy_us_cons (jwL_law__3150 (jtL_law__3150 hk23)) sy_us_nil)
def jfL_law__2291 (k23 : Int32 → sy_M → sy_O) (a4 : Int32) (M : sy_M) : sy_O :=
  sy_bx (xe_in (a4 + 1) (M 134 0).toNatClampNeg) <|
  sy_bi (jfX11_kettle (M 1000000 (Int32.toNatClampNeg (a4 + 1))) M) fun v2 M1 =>
  sy_bx (xe_in (a4 + 1) (M1 134 0).toNatClampNeg) <|
  sy_bi (jfX12_kettle (M1 1000000 (Int32.toNatClampNeg (a4 + 1))) M1) fun v4 M3 =>
  if v2 = v4 then
    jfL_law__3150 k23 a4 M3
  else
    sy_ri 0 M3
set_option maxRecDepth 100000 in
theorem jrL_law__2291 (k23 : Int32 → sy_M → sy_O) (w5 : Value) (w6 : Value) (a4 : Int32) (M : sy_M) : sy_run skL qL_law_ [(2291, .aload_n 1, 1, [true, true, true, true, true, false, false]), (2292, .aload_n 0, 1, []), (2293, .iload 4, 2, []), (2295, .iconst 1, 1, []), (2296, .iadd, 1, []), (2297, .iaload, 1, []), (2298, .invokevirtual 284, 3, []), (2301, .aload_n 2, 1, []), (2302, .aload_n 0, 1, []), (2303, .iload 4, 2, []), (2305, .iconst 1, 1, []), (2306, .iadd, 1, []), (2307, .iaload, 1, []), (2308, .invokevirtual 287, 3, []), (2311, .if_icmp .eq 839, 3, []), (2314, .iconst 0, 1, []), (2315, .ireturn, 1, [])] [(149, 0, jcX11_kettle), (292, 0, jcX12_kettle)] [(3150, juL_law__3150 (jfL_law__3150 k23))] 18 [] 2291 [.ref 1000000, .ref 0, .ref 121, .ref 132, .int a4, w5, w6] [] M = jfL_law__2291 k23 a4 M := rfl
theorem jtL_law__2291 {k23 : Int32 → sy_M → sy_O} (hk23 : ∀ (w5 : Value) (w6 : Value) (a4 : Int32) (M : sy_M) (r : xe_R × sy_M), k23 a4 M = some r → sy_E (56) qL_law_ 23 [.ref 1000000, .ref 0, .ref 121, .ref 132, .int a4, w5, w6] [] M r) : ∀ (w5 : Value) (w6 : Value) (a4 : Int32) (M : sy_M) (r : xe_R × sy_M), jfL_law__2291 k23 a4 M = some r → sy_E (56) qL_law_ 2291 [.ref 1000000, .ref 0, .ref 121, .ref 132, .int a4, w5, w6] [] M r := by
  intro w5 w6 a4 M r h
  exact sy_run_by (d := 55) ((jrL_law__2291 _ _ _ _ M).trans h) hkL (by decide +kernel) (sy_cs_cons (jeX11_kettle.deep (by decide)) (sy_cs_cons (jeX12_kettle.deep (by decide)) sy_cs_nil)) (sy_us_cons (jwL_law__3150 (jtL_law__3150 hk23)) sy_us_nil)
def jfL_law__2369 (k23 : Int32 → sy_M → sy_O) (a4 : Int32) (M : sy_M) : sy_O :=
  jfL_law__3150 k23 a4 M
set_option maxRecDepth 100000 in
theorem jrL_law__2369 (k23 : Int32 → sy_M → sy_O) (w5 : Value) (w6 : Value) (a4 : Int32) (M : sy_M) : sy_run skL qL_law_ [(2369, .goto 781, 3, [true, true, true, true, true, false, false])] [] [(3150, juL_law__3150 (jfL_law__3150 k23))] 2 [] 2369 [.ref 1000000, .ref 0, .ref 121, .ref 132, .int a4, w5, w6] [] M = jfL_law__2369 k23 a4 M := rfl
theorem jtL_law__2369 {k23 : Int32 → sy_M → sy_O} (hk23 : ∀ (w5 : Value) (w6 : Value) (a4 : Int32) (M : sy_M) (r : xe_R × sy_M), k23 a4 M = some r → sy_E (56) qL_law_ 23 [.ref 1000000, .ref 0, .ref 121, .ref 132, .int a4, w5, w6] [] M r) : ∀ (w5 : Value) (w6 : Value) (a4 : Int32) (M : sy_M) (r : xe_R × sy_M), jfL_law__2369 k23 a4 M = some r → sy_E (56) qL_law_ 2369 [.ref 1000000, .ref 0, .ref 121, .ref 132, .int a4, w5, w6] [] M r := by
  intro w5 w6 a4 M r h
  exact sy_run_by (d := 55) ((jrL_law__2369 _ _ _ _ M).trans h) hkL (by decide +kernel) sy_cs_nil (sy_us_cons (jwL_law__3150 (jtL_law__3150 hk23)) sy_us_nil)
def jfL_law__2316 (k23 : Int32 → sy_M → sy_O) (a4 : Int32) (M : sy_M) : sy_O :=
  sy_bx (xe_in (a4 + 1) (M 134 0).toNatClampNeg) <|
  sy_bi (jfL_swings (M 1000000 (Int32.toNatClampNeg (a4 + 1))) M) fun v2 M1 =>
  sy_bx (xe_in (a4 + 1) (M1 134 0).toNatClampNeg) <|
  sy_bi (jfX12_swings (M1 1000000 (Int32.toNatClampNeg (a4 + 1))) M1) fun v4 M3 =>
  sy_bi (jfX12_thrown M3) fun v6 M5 =>
  if v6 = v2 then
    if v2 = 0 then
      if (lg_cmp (sy_rl M5 132 0) (Int32.toInt64 v4)) = 0 then
        jfL_law__2369 k23 a4 M5
      else
        sy_ri 0 M5
    else
      jfL_law__2369 k23 a4 M5
  else
    sy_ri 0 M5
set_option maxRecDepth 100000 in
theorem jrL_law__2316 (k23 : Int32 → sy_M → sy_O) (w5 : Value) (w6 : Value) (a4 : Int32) (M : sy_M) : sy_run skL qL_law_ [(2316, .aload_n 1, 1, [true, true, true, true, true, false, false]), (2317, .aload_n 0, 1, []), (2318, .iload 4, 2, []), (2320, .iconst 1, 1, []), (2321, .iadd, 1, []), (2322, .iaload, 1, []), (2323, .aload_n 3, 1, []), (2324, .invokestatic 288, 3, []), (2327, .istore 5, 2, []), (2329, .aload_n 2, 1, []), (2330, .aload_n 0, 1, []), (2331, .iload 4, 2, []), (2333, .iconst 1, 1, []), (2334, .iadd, 1, []), (2335, .iaload, 1, []), (2336, .invokevirtual 290, 3, []), (2339, .istore 6, 2, []), (2341, .aload_n 2, 1, []), (2342, .invokevirtual 154, 3, []), (2345, .iload 5, 2, []), (2347, .if_icmp .eq 5, 3, []), (2350, .iconst 0, 1, []), (2351, .ireturn, 1, []), (2352, .iload 5, 2, []), (2354, .ifCond .ne 15, 3, []), (2357, .aload_n 3, 1, []), (2358, .iconst 0, 1, []), (2359, .laload, 1, []), (2360, .iload 6, 2, []), (2362, .i2l, 1, []), (2363, .lcmp, 1, []), (2364, .ifCond .eq 5, 3, []), (2367, .iconst 0, 1, []), (2368, .ireturn, 1, [])] [(348, 0, jcL_swings), (295, 0, jcX12_swings), (181, 0, jcX12_thrown)] [(2369, juL_law__2369 (jfL_law__2369 k23))] 35 [] 2316 [.ref 1000000, .ref 0, .ref 121, .ref 132, .int a4, w5, w6] [] M = jfL_law__2316 k23 a4 M := rfl
theorem jtL_law__2316 {k23 : Int32 → sy_M → sy_O} (hk23 : ∀ (w5 : Value) (w6 : Value) (a4 : Int32) (M : sy_M) (r : xe_R × sy_M), k23 a4 M = some r → sy_E (56) qL_law_ 23 [.ref 1000000, .ref 0, .ref 121, .ref 132, .int a4, w5, w6] [] M r) : ∀ (w5 : Value) (w6 : Value) (a4 : Int32) (M : sy_M) (r : xe_R × sy_M), jfL_law__2316 k23 a4 M = some r → sy_E (56) qL_law_ 2316 [.ref 1000000, .ref 0, .ref 121, .ref 132, .int a4, w5, w6] [] M r := by
  intro w5 w6 a4 M r h
  exact sy_run_by (d := 55) ((jrL_law__2316 _ _ _ _ M).trans h) hkL (by decide +kernel) (sy_cs_cons (jeL_swings.deep (by decide)) (sy_cs_cons (jeX12_swings.deep (by decide)) (sy_cs_cons (jeX12_thrown.deep (by decide)) sy_cs_nil))) (sy_us_cons (jwL_law__2369 (jtL_law__2369 hk23)) sy_us_nil)
def jfL_law__2372 (k23 : Int32 → sy_M → sy_O) (a4 : Int32) (M : sy_M) : sy_O :=
  sy_bi (jfX11_minimal M) fun v2 M1 =>
  sy_bi (jfX12_minimal M1) fun v4 M3 =>
  if v2 = v4 then
    jfL_law__3150 k23 a4 M3
  else
    sy_ri 0 M3
set_option maxRecDepth 100000 in
theorem jrL_law__2372 (k23 : Int32 → sy_M → sy_O) (w5 : Value) (w6 : Value) (a4 : Int32) (M : sy_M) : sy_run skL qL_law_ [(2372, .aload_n 1, 1, [true, true, true, true, true, false, false]), (2373, .invokevirtual 291, 3, []), (2376, .aload_n 2, 1, []), (2377, .invokevirtual 294, 3, []), (2380, .if_icmp .eq 770, 3, []), (2383, .iconst 0, 1, []), (2384, .ireturn, 1, [])] [(151, 0, jcX11_minimal), (297, 0, jcX12_minimal)] [(3150, juL_law__3150 (jfL_law__3150 k23))] 8 [] 2372 [.ref 1000000, .ref 0, .ref 121, .ref 132, .int a4, w5, w6] [] M = jfL_law__2372 k23 a4 M := rfl
theorem jtL_law__2372 {k23 : Int32 → sy_M → sy_O} (hk23 : ∀ (w5 : Value) (w6 : Value) (a4 : Int32) (M : sy_M) (r : xe_R × sy_M), k23 a4 M = some r → sy_E (56) qL_law_ 23 [.ref 1000000, .ref 0, .ref 121, .ref 132, .int a4, w5, w6] [] M r) : ∀ (w5 : Value) (w6 : Value) (a4 : Int32) (M : sy_M) (r : xe_R × sy_M), jfL_law__2372 k23 a4 M = some r → sy_E (56) qL_law_ 2372 [.ref 1000000, .ref 0, .ref 121, .ref 132, .int a4, w5, w6] [] M r := by
  intro w5 w6 a4 M r h
  exact sy_run_by (d := 55) ((jrL_law__2372 _ _ _ _ M).trans h) hkL (by decide +kernel) (sy_cs_cons (jeX11_minimal.deep (by decide)) (sy_cs_cons (jeX12_minimal.deep (by decide)) sy_cs_nil)) (sy_us_cons (jwL_law__3150 (jtL_law__3150 hk23)) sy_us_nil)
def jfL_law__2385 (k23 : Int32 → sy_M → sy_O) (a4 : Int32) (M : sy_M) : sy_O :=
  sy_bi (jfX11_dummies M) fun v2 M1 =>
  sy_bi (jfX12_dummies M1) fun v4 M3 =>
  if v2 = v4 then
    jfL_law__3150 k23 a4 M3
  else
    sy_ri 0 M3
set_option maxRecDepth 100000 in
theorem jrL_law__2385 (k23 : Int32 → sy_M → sy_O) (w5 : Value) (w6 : Value) (a4 : Int32) (M : sy_M) : sy_run skL qL_law_ [(2385, .aload_n 1, 1, [true, true, true, true, true, false, false]), (2386, .invokevirtual 295, 3, []), (2389, .aload_n 2, 1, []), (2390, .invokevirtual 298, 3, []), (2393, .if_icmp .eq 757, 3, []), (2396, .iconst 0, 1, []), (2397, .ireturn, 1, [])] [(152, 0, jcX11_dummies), (298, 0, jcX12_dummies)] [(3150, juL_law__3150 (jfL_law__3150 k23))] 8 [] 2385 [.ref 1000000, .ref 0, .ref 121, .ref 132, .int a4, w5, w6] [] M = jfL_law__2385 k23 a4 M := rfl
theorem jtL_law__2385 {k23 : Int32 → sy_M → sy_O} (hk23 : ∀ (w5 : Value) (w6 : Value) (a4 : Int32) (M : sy_M) (r : xe_R × sy_M), k23 a4 M = some r → sy_E (56) qL_law_ 23 [.ref 1000000, .ref 0, .ref 121, .ref 132, .int a4, w5, w6] [] M r) : ∀ (w5 : Value) (w6 : Value) (a4 : Int32) (M : sy_M) (r : xe_R × sy_M), jfL_law__2385 k23 a4 M = some r → sy_E (56) qL_law_ 2385 [.ref 1000000, .ref 0, .ref 121, .ref 132, .int a4, w5, w6] [] M r := by
  intro w5 w6 a4 M r h
  exact sy_run_by (d := 55) ((jrL_law__2385 _ _ _ _ M).trans h) hkL (by decide +kernel) (sy_cs_cons (jeX11_dummies.deep (by decide)) (sy_cs_cons (jeX12_dummies.deep (by decide)) sy_cs_nil)) (sy_us_cons (jwL_law__3150 (jtL_law__3150 hk23)) sy_us_nil)
def jfL_law__2463 (k23 : Int32 → sy_M → sy_O) (a4 : Int32) (M : sy_M) : sy_O :=
  jfL_law__3150 k23 a4 M
set_option maxRecDepth 100000 in
theorem jrL_law__2463 (k23 : Int32 → sy_M → sy_O) (w5 : Value) (w6 : Value) (a4 : Int32) (M : sy_M) : sy_run skL qL_law_ [(2463, .goto 687, 3, [true, true, true, true, true, false, false])] [] [(3150, juL_law__3150 (jfL_law__3150 k23))] 2 [] 2463 [.ref 1000000, .ref 0, .ref 121, .ref 132, .int a4, w5, w6] [] M = jfL_law__2463 k23 a4 M := rfl
theorem jtL_law__2463 {k23 : Int32 → sy_M → sy_O} (hk23 : ∀ (w5 : Value) (w6 : Value) (a4 : Int32) (M : sy_M) (r : xe_R × sy_M), k23 a4 M = some r → sy_E (56) qL_law_ 23 [.ref 1000000, .ref 0, .ref 121, .ref 132, .int a4, w5, w6] [] M r) : ∀ (w5 : Value) (w6 : Value) (a4 : Int32) (M : sy_M) (r : xe_R × sy_M), jfL_law__2463 k23 a4 M = some r → sy_E (56) qL_law_ 2463 [.ref 1000000, .ref 0, .ref 121, .ref 132, .int a4, w5, w6] [] M r := by
  intro w5 w6 a4 M r h
  exact sy_run_by (d := 55) ((jrL_law__2463 _ _ _ _ M).trans h) hkL (by decide +kernel) sy_cs_nil (sy_us_cons (jwL_law__3150 (jtL_law__3150 hk23)) sy_us_nil)
def jfL_law__2398 (k23 : Int32 → sy_M → sy_O) (a4 : Int32) (M : sy_M) : sy_O :=
  sy_bx (xe_in (a4 + 1) (M 134 0).toNatClampNeg) <|
  sy_bx (xe_in (a4 + 2) (M 134 0).toNatClampNeg) <|
  sy_bi (jfL_net (M 1000000 (Int32.toNatClampNeg (a4 + 1))) (M 1000000 (Int32.toNatClampNeg (a4 + 2))) M) fun v2 M1 =>
  sy_bx (xe_in (a4 + 1) (M1 134 0).toNatClampNeg) <|
  sy_bx (xe_in (a4 + 2) (M1 134 0).toNatClampNeg) <|
  sy_bi (jfX12_net (M1 1000000 (Int32.toNatClampNeg (a4 + 1))) (M1 1000000 (Int32.toNatClampNeg (a4 + 2))) M1) fun v4 M3 =>
  sy_bi (jfX12_thrown M3) fun v6 M5 =>
  if v6 = v2 then
    if v2 = 0 then
      if (lg_cmp (sy_rl M5 132 0) (Int32.toInt64 v4)) = 0 then
        jfL_law__2463 k23 a4 M5
      else
        sy_ri 0 M5
    else
      jfL_law__2463 k23 a4 M5
  else
    sy_ri 0 M5
set_option maxRecDepth 100000 in
theorem jrL_law__2398 (k23 : Int32 → sy_M → sy_O) (w5 : Value) (w6 : Value) (a4 : Int32) (M : sy_M) : sy_run skL qL_law_ [(2398, .aload_n 1, 1, [true, true, true, true, true, false, false]), (2399, .aload_n 0, 1, []), (2400, .iload 4, 2, []), (2402, .iconst 1, 1, []), (2403, .iadd, 1, []), (2404, .iaload, 1, []), (2405, .aload_n 0, 1, []), (2406, .iload 4, 2, []), (2408, .iconst 2, 1, []), (2409, .iadd, 1, []), (2410, .iaload, 1, []), (2411, .aload_n 3, 1, []), (2412, .invokestatic 299, 3, []), (2415, .istore 5, 2, []), (2417, .aload_n 2, 1, []), (2418, .aload_n 0, 1, []), (2419, .iload 4, 2, []), (2421, .iconst 1, 1, []), (2422, .iadd, 1, []), (2423, .iaload, 1, []), (2424, .aload_n 0, 1, []), (2425, .iload 4, 2, []), (2427, .iconst 2, 1, []), (2428, .iadd, 1, []), (2429, .iaload, 1, []), (2430, .invokevirtual 301, 3, []), (2433, .istore 6, 2, []), (2435, .aload_n 2, 1, []), (2436, .invokevirtual 154, 3, []), (2439, .iload 5, 2, []), (2441, .if_icmp .eq 5, 3, []), (2444, .iconst 0, 1, []), (2445, .ireturn, 1, []), (2446, .iload 5, 2, []), (2448, .ifCond .ne 15, 3, []), (2451, .aload_n 3, 1, []), (2452, .iconst 0, 1, []), (2453, .laload, 1, []), (2454, .iload 6, 2, []), (2456, .i2l, 1, []), (2457, .lcmp, 1, []), (2458, .ifCond .eq 5, 3, []), (2461, .iconst 0, 1, []), (2462, .ireturn, 1, [])] [(349, 0, jcL_net), (299, 0, jcX12_net), (181, 0, jcX12_thrown)] [(2463, juL_law__2463 (jfL_law__2463 k23))] 45 [] 2398 [.ref 1000000, .ref 0, .ref 121, .ref 132, .int a4, w5, w6] [] M = jfL_law__2398 k23 a4 M := rfl
theorem jtL_law__2398 {k23 : Int32 → sy_M → sy_O} (hk23 : ∀ (w5 : Value) (w6 : Value) (a4 : Int32) (M : sy_M) (r : xe_R × sy_M), k23 a4 M = some r → sy_E (56) qL_law_ 23 [.ref 1000000, .ref 0, .ref 121, .ref 132, .int a4, w5, w6] [] M r) : ∀ (w5 : Value) (w6 : Value) (a4 : Int32) (M : sy_M) (r : xe_R × sy_M), jfL_law__2398 k23 a4 M = some r → sy_E (56) qL_law_ 2398 [.ref 1000000, .ref 0, .ref 121, .ref 132, .int a4, w5, w6] [] M r := by
  intro w5 w6 a4 M r h
  exact sy_run_by (d := 55) ((jrL_law__2398 _ _ _ _ M).trans h) hkL (by decide +kernel) (sy_cs_cons (jeL_net.deep (by decide)) (sy_cs_cons (jeX12_net.deep (by decide)) (sy_cs_cons (jeX12_thrown.deep (by decide)) sy_cs_nil))) (sy_us_cons (jwL_law__2463 (jtL_law__2463 hk23)) sy_us_nil)
def jfL_law__2466 (k23 : Int32 → sy_M → sy_O) (a4 : Int32) (M : sy_M) : sy_O :=
  sy_bi (jfX11_debt M) fun v2 M1 =>
  sy_bi (jfX12_debt M1) fun v4 M3 =>
  if v2 = v4 then
    jfL_law__3150 k23 a4 M3
  else
    sy_ri 0 M3
set_option maxRecDepth 100000 in
theorem jrL_law__2466 (k23 : Int32 → sy_M → sy_O) (w5 : Value) (w6 : Value) (a4 : Int32) (M : sy_M) : sy_run skL qL_law_ [(2466, .aload_n 1, 1, [true, true, true, true, true, false, false]), (2467, .invokevirtual 302, 3, []), (2470, .aload_n 2, 1, []), (2471, .invokevirtual 305, 3, []), (2474, .if_icmp .eq 676, 3, []), (2477, .iconst 0, 1, []), (2478, .ireturn, 1, [])] [(157, 0, jcX11_debt), (301, 0, jcX12_debt)] [(3150, juL_law__3150 (jfL_law__3150 k23))] 8 [] 2466 [.ref 1000000, .ref 0, .ref 121, .ref 132, .int a4, w5, w6] [] M = jfL_law__2466 k23 a4 M := rfl
theorem jtL_law__2466 {k23 : Int32 → sy_M → sy_O} (hk23 : ∀ (w5 : Value) (w6 : Value) (a4 : Int32) (M : sy_M) (r : xe_R × sy_M), k23 a4 M = some r → sy_E (56) qL_law_ 23 [.ref 1000000, .ref 0, .ref 121, .ref 132, .int a4, w5, w6] [] M r) : ∀ (w5 : Value) (w6 : Value) (a4 : Int32) (M : sy_M) (r : xe_R × sy_M), jfL_law__2466 k23 a4 M = some r → sy_E (56) qL_law_ 2466 [.ref 1000000, .ref 0, .ref 121, .ref 132, .int a4, w5, w6] [] M r := by
  intro w5 w6 a4 M r h
  exact sy_run_by (d := 55) ((jrL_law__2466 _ _ _ _ M).trans h) hkL (by decide +kernel) (sy_cs_cons (jeX11_debt.deep (by decide)) (sy_cs_cons (jeX12_debt.deep (by decide)) sy_cs_nil)) (sy_us_cons (jwL_law__3150 (jtL_law__3150 hk23)) sy_us_nil)
def jfL_law__2539 (k23 : Int32 → sy_M → sy_O) (a4 : Int32) (M : sy_M) : sy_O :=
  jfL_law__3150 k23 a4 M
set_option maxRecDepth 100000 in
theorem jrL_law__2539 (k23 : Int32 → sy_M → sy_O) (w5 : Value) (w6 : Value) (a4 : Int32) (M : sy_M) : sy_run skL qL_law_ [(2539, .goto 611, 3, [true, true, true, true, true, false, false])] [] [(3150, juL_law__3150 (jfL_law__3150 k23))] 2 [] 2539 [.ref 1000000, .ref 0, .ref 121, .ref 132, .int a4, w5, w6] [] M = jfL_law__2539 k23 a4 M := rfl
theorem jtL_law__2539 {k23 : Int32 → sy_M → sy_O} (hk23 : ∀ (w5 : Value) (w6 : Value) (a4 : Int32) (M : sy_M) (r : xe_R × sy_M), k23 a4 M = some r → sy_E (56) qL_law_ 23 [.ref 1000000, .ref 0, .ref 121, .ref 132, .int a4, w5, w6] [] M r) : ∀ (w5 : Value) (w6 : Value) (a4 : Int32) (M : sy_M) (r : xe_R × sy_M), jfL_law__2539 k23 a4 M = some r → sy_E (56) qL_law_ 2539 [.ref 1000000, .ref 0, .ref 121, .ref 132, .int a4, w5, w6] [] M r := by
  intro w5 w6 a4 M r h
  exact sy_run_by (d := 55) ((jrL_law__2539 _ _ _ _ M).trans h) hkL (by decide +kernel) sy_cs_nil (sy_us_cons (jwL_law__3150 (jtL_law__3150 hk23)) sy_us_nil)
def jfL_law__2533 (k23 : Int32 → sy_M → sy_O) (a4 : Int32) (s0 : Int64) (s1 : Int64) (M : sy_M) : sy_O :=
  if (lg_cmp s1 s0) = 0 then
    jfL_law__2539 k23 a4 M
  else
    sy_ri 0 M
set_option maxRecDepth 100000 in
theorem jrL_law__2533 (k23 : Int32 → sy_M → sy_O) (w5 : Value) (w6 : Value) (a4 : Int32) (s0 : Int64) (s1 : Int64) (M : sy_M) : sy_run skL qL_law_ [(2533, .lcmp, 1, [true, true, true, true, true, false, false]), (2534, .ifCond .eq 5, 3, []), (2537, .iconst 0, 1, []), (2538, .ireturn, 1, [])] [] [(2539, juL_law__2539 (jfL_law__2539 k23))] 5 [] 2533 [.ref 1000000, .ref 0, .ref 121, .ref 132, .int a4, w5, w6] [.long s0, .long s1] M = jfL_law__2533 k23 a4 s0 s1 M := rfl
theorem jtL_law__2533 {k23 : Int32 → sy_M → sy_O} (hk23 : ∀ (w5 : Value) (w6 : Value) (a4 : Int32) (M : sy_M) (r : xe_R × sy_M), k23 a4 M = some r → sy_E (56) qL_law_ 23 [.ref 1000000, .ref 0, .ref 121, .ref 132, .int a4, w5, w6] [] M r) : ∀ (w5 : Value) (w6 : Value) (a4 : Int32) (s0 : Int64) (s1 : Int64) (M : sy_M) (r : xe_R × sy_M), jfL_law__2533 k23 a4 s0 s1 M = some r → sy_E (56) qL_law_ 2533 [.ref 1000000, .ref 0, .ref 121, .ref 132, .int a4, w5, w6] [.long s0, .long s1] M r := by
  intro w5 w6 a4 s0 s1 M r h
  exact sy_run_by (d := 55) ((jrL_law__2533 _ _ _ _ _ _ M).trans h) hkL (by decide +kernel) sy_cs_nil (sy_us_cons (jwL_law__2539 (jtL_law__2539 hk23)) sy_us_nil)
def jfL_law__2479 (k23 : Int32 → sy_M → sy_O) (a4 : Int32) (M : sy_M) : sy_O :=
  sy_bx (xe_in (a4 + 1) (M 134 0).toNatClampNeg) <|
  sy_bi (jfL_ring (M 1000000 (Int32.toNatClampNeg (a4 + 1))) M) fun v2 M1 =>
  sy_bx (xe_in (a4 + 1) (M1 134 0).toNatClampNeg) <|
  sy_bi (jfX12_ring (M1 1000000 (Int32.toNatClampNeg (a4 + 1))) M1) fun v4 M3 =>
  sy_bi (jfX12_thrown M3) fun v6 M5 =>
  if v6 = v2 then
    if v2 = 0 then
      if v4 = 0 then
        jfL_law__2533 k23 a4 (Int64.ofNat 0) (sy_rl M5 132 0) M5
      else
        jfL_law__2533 k23 a4 (Int64.ofNat 1) (sy_rl M5 132 0) M5
    else
      jfL_law__2539 k23 a4 M5
  else
    sy_ri 0 M5
set_option maxRecDepth 100000 in
theorem jrL_law__2479 (k23 : Int32 → sy_M → sy_O) (w5 : Value) (w6 : Value) (a4 : Int32) (M : sy_M) : sy_run skL qL_law_ [(2479, .aload_n 1, 1, [true, true, true, true, true, false, false]), (2480, .aload_n 0, 1, []), (2481, .iload 4, 2, []), (2483, .iconst 1, 1, []), (2484, .iadd, 1, []), (2485, .iaload, 1, []), (2486, .aload_n 3, 1, []), (2487, .invokestatic 306, 3, []), (2490, .istore 5, 2, []), (2492, .aload_n 2, 1, []), (2493, .aload_n 0, 1, []), (2494, .iload 4, 2, []), (2496, .iconst 1, 1, []), (2497, .iadd, 1, []), (2498, .iaload, 1, []), (2499, .invokevirtual 308, 3, []), (2502, .istore 6, 2, []), (2504, .aload_n 2, 1, []), (2505, .invokevirtual 154, 3, []), (2508, .iload 5, 2, []), (2510, .if_icmp .eq 5, 3, []), (2513, .iconst 0, 1, []), (2514, .ireturn, 1, []), (2515, .iload 5, 2, []), (2517, .ifCond .ne 22, 3, []), (2520, .aload_n 3, 1, []), (2521, .iconst 0, 1, []), (2522, .laload, 1, []), (2523, .iload 6, 2, []), (2525, .ifCond .eq 7, 3, []), (2528, .lconst 1, 1, []), (2529, .goto 4, 3, []), (2532, .lconst 0, 1, [true, true, true, true, true, false, false])] [(350, 0, jcL_ring), (302, 0, jcX12_ring), (181, 0, jcX12_thrown)] [(2539, juL_law__2539 (jfL_law__2539 k23)), (2533, juL_law__2533 (jfL_law__2533 k23))] 34 [] 2479 [.ref 1000000, .ref 0, .ref 121, .ref 132, .int a4, w5, w6] [] M = jfL_law__2479 k23 a4 M := rfl
theorem jtL_law__2479 {k23 : Int32 → sy_M → sy_O} (hk23 : ∀ (w5 : Value) (w6 : Value) (a4 : Int32) (M : sy_M) (r : xe_R × sy_M), k23 a4 M = some r → sy_E (56) qL_law_ 23 [.ref 1000000, .ref 0, .ref 121, .ref 132, .int a4, w5, w6] [] M r) : ∀ (w5 : Value) (w6 : Value) (a4 : Int32) (M : sy_M) (r : xe_R × sy_M), jfL_law__2479 k23 a4 M = some r → sy_E (56) qL_law_ 2479 [.ref 1000000, .ref 0, .ref 121, .ref 132, .int a4, w5, w6] [] M r := by
  intro w5 w6 a4 M r h
  exact sy_run_by (d := 55) ((jrL_law__2479 _ _ _ _ M).trans h) hkL (by decide +kernel) (sy_cs_cons (jeL_ring.deep (by decide)) (sy_cs_cons (jeX12_ring.deep (by decide)) (sy_cs_cons (jeX12_thrown.deep (by decide)) sy_cs_nil))) (sy_us_cons (jwL_law__2539 (jtL_law__2539 hk23)) (sy_us_cons (jwL_law__2533 (jtL_law__2533 hk23)) sy_us_nil))
def jfL_law__2542 (k23 : Int32 → sy_M → sy_O) (a4 : Int32) (M : sy_M) : sy_O :=
  sy_bi (jfX11_poorest M) fun v2 M1 =>
  sy_bi (jfX12_poorest M1) fun v4 M3 =>
  if v2 = v4 then
    jfL_law__3150 k23 a4 M3
  else
    sy_ri 0 M3
set_option maxRecDepth 100000 in
theorem jrL_law__2542 (k23 : Int32 → sy_M → sy_O) (w5 : Value) (w6 : Value) (a4 : Int32) (M : sy_M) : sy_run skL qL_law_ [(2542, .aload_n 1, 1, [true, true, true, true, true, false, false]), (2543, .invokevirtual 309, 3, []), (2546, .aload_n 2, 1, []), (2547, .invokevirtual 312, 3, []), (2550, .if_icmp .eq 600, 3, []), (2553, .iconst 0, 1, []), (2554, .ireturn, 1, [])] [(159, 0, jcX11_poorest), (303, 0, jcX12_poorest)] [(3150, juL_law__3150 (jfL_law__3150 k23))] 8 [] 2542 [.ref 1000000, .ref 0, .ref 121, .ref 132, .int a4, w5, w6] [] M = jfL_law__2542 k23 a4 M := rfl
theorem jtL_law__2542 {k23 : Int32 → sy_M → sy_O} (hk23 : ∀ (w5 : Value) (w6 : Value) (a4 : Int32) (M : sy_M) (r : xe_R × sy_M), k23 a4 M = some r → sy_E (56) qL_law_ 23 [.ref 1000000, .ref 0, .ref 121, .ref 132, .int a4, w5, w6] [] M r) : ∀ (w5 : Value) (w6 : Value) (a4 : Int32) (M : sy_M) (r : xe_R × sy_M), jfL_law__2542 k23 a4 M = some r → sy_E (56) qL_law_ 2542 [.ref 1000000, .ref 0, .ref 121, .ref 132, .int a4, w5, w6] [] M r := by
  intro w5 w6 a4 M r h
  exact sy_run_by (d := 55) ((jrL_law__2542 _ _ _ _ M).trans h) hkL (by decide +kernel) (sy_cs_cons (jeX11_poorest.deep (by decide)) (sy_cs_cons (jeX12_poorest.deep (by decide)) sy_cs_nil)) (sy_us_cons (jwL_law__3150 (jtL_law__3150 hk23)) sy_us_nil)
def jfL_law__2620 (k23 : Int32 → sy_M → sy_O) (a4 : Int32) (M : sy_M) : sy_O :=
  jfL_law__3150 k23 a4 M
set_option maxRecDepth 100000 in
theorem jrL_law__2620 (k23 : Int32 → sy_M → sy_O) (w5 : Value) (w6 : Value) (a4 : Int32) (M : sy_M) : sy_run skL qL_law_ [(2620, .goto 530, 3, [true, true, true, true, true, false, false])] [] [(3150, juL_law__3150 (jfL_law__3150 k23))] 2 [] 2620 [.ref 1000000, .ref 0, .ref 121, .ref 132, .int a4, w5, w6] [] M = jfL_law__2620 k23 a4 M := rfl
theorem jtL_law__2620 {k23 : Int32 → sy_M → sy_O} (hk23 : ∀ (w5 : Value) (w6 : Value) (a4 : Int32) (M : sy_M) (r : xe_R × sy_M), k23 a4 M = some r → sy_E (56) qL_law_ 23 [.ref 1000000, .ref 0, .ref 121, .ref 132, .int a4, w5, w6] [] M r) : ∀ (w5 : Value) (w6 : Value) (a4 : Int32) (M : sy_M) (r : xe_R × sy_M), jfL_law__2620 k23 a4 M = some r → sy_E (56) qL_law_ 2620 [.ref 1000000, .ref 0, .ref 121, .ref 132, .int a4, w5, w6] [] M r := by
  intro w5 w6 a4 M r h
  exact sy_run_by (d := 55) ((jrL_law__2620 _ _ _ _ M).trans h) hkL (by decide +kernel) sy_cs_nil (sy_us_cons (jwL_law__3150 (jtL_law__3150 hk23)) sy_us_nil)
def jfL_law__2555 (k23 : Int32 → sy_M → sy_O) (a4 : Int32) (M : sy_M) : sy_O :=
  sy_bx (xe_in (a4 + 1) (M 134 0).toNatClampNeg) <|
  sy_bx (xe_in (a4 + 2) (M 134 0).toNatClampNeg) <|
  sy_bi (jfL_rests (M 1000000 (Int32.toNatClampNeg (a4 + 1))) (M 1000000 (Int32.toNatClampNeg (a4 + 2))) M) fun v2 M1 =>
  sy_bx (xe_in (a4 + 1) (M1 134 0).toNatClampNeg) <|
  sy_bx (xe_in (a4 + 2) (M1 134 0).toNatClampNeg) <|
  sy_bi (jfX12_rests (M1 1000000 (Int32.toNatClampNeg (a4 + 1))) (M1 1000000 (Int32.toNatClampNeg (a4 + 2))) M1) fun v4 M3 =>
  sy_bi (jfX12_thrown M3) fun v6 M5 =>
  if v6 = v2 then
    if v2 = 0 then
      if (lg_cmp (sy_rl M5 132 0) (Int32.toInt64 v4)) = 0 then
        jfL_law__2620 k23 a4 M5
      else
        sy_ri 0 M5
    else
      jfL_law__2620 k23 a4 M5
  else
    sy_ri 0 M5
set_option maxRecDepth 100000 in
theorem jrL_law__2555 (k23 : Int32 → sy_M → sy_O) (w5 : Value) (w6 : Value) (a4 : Int32) (M : sy_M) : sy_run skL qL_law_ [(2555, .aload_n 1, 1, [true, true, true, true, true, false, false]), (2556, .aload_n 0, 1, []), (2557, .iload 4, 2, []), (2559, .iconst 1, 1, []), (2560, .iadd, 1, []), (2561, .iaload, 1, []), (2562, .aload_n 0, 1, []), (2563, .iload 4, 2, []), (2565, .iconst 2, 1, []), (2566, .iadd, 1, []), (2567, .iaload, 1, []), (2568, .aload_n 3, 1, []), (2569, .invokestatic 313, 3, []), (2572, .istore 5, 2, []), (2574, .aload_n 2, 1, []), (2575, .aload_n 0, 1, []), (2576, .iload 4, 2, []), (2578, .iconst 1, 1, []), (2579, .iadd, 1, []), (2580, .iaload, 1, []), (2581, .aload_n 0, 1, []), (2582, .iload 4, 2, []), (2584, .iconst 2, 1, []), (2585, .iadd, 1, []), (2586, .iaload, 1, []), (2587, .invokevirtual 315, 3, []), (2590, .istore 6, 2, []), (2592, .aload_n 2, 1, []), (2593, .invokevirtual 154, 3, []), (2596, .iload 5, 2, []), (2598, .if_icmp .eq 5, 3, []), (2601, .iconst 0, 1, []), (2602, .ireturn, 1, []), (2603, .iload 5, 2, []), (2605, .ifCond .ne 15, 3, []), (2608, .aload_n 3, 1, []), (2609, .iconst 0, 1, []), (2610, .laload, 1, []), (2611, .iload 6, 2, []), (2613, .i2l, 1, []), (2614, .lcmp, 1, []), (2615, .ifCond .eq 5, 3, []), (2618, .iconst 0, 1, []), (2619, .ireturn, 1, [])] [(351, 0, jcL_rests), (305, 0, jcX12_rests), (181, 0, jcX12_thrown)] [(2620, juL_law__2620 (jfL_law__2620 k23))] 45 [] 2555 [.ref 1000000, .ref 0, .ref 121, .ref 132, .int a4, w5, w6] [] M = jfL_law__2555 k23 a4 M := rfl
theorem jtL_law__2555 {k23 : Int32 → sy_M → sy_O} (hk23 : ∀ (w5 : Value) (w6 : Value) (a4 : Int32) (M : sy_M) (r : xe_R × sy_M), k23 a4 M = some r → sy_E (56) qL_law_ 23 [.ref 1000000, .ref 0, .ref 121, .ref 132, .int a4, w5, w6] [] M r) : ∀ (w5 : Value) (w6 : Value) (a4 : Int32) (M : sy_M) (r : xe_R × sy_M), jfL_law__2555 k23 a4 M = some r → sy_E (56) qL_law_ 2555 [.ref 1000000, .ref 0, .ref 121, .ref 132, .int a4, w5, w6] [] M r := by
  intro w5 w6 a4 M r h
  exact sy_run_by (d := 55) ((jrL_law__2555 _ _ _ _ M).trans h) hkL (by decide +kernel) (sy_cs_cons (jeL_rests.deep (by decide)) (sy_cs_cons (jeX12_rests.deep (by decide)) (sy_cs_cons (jeX12_thrown.deep (by decide)) sy_cs_nil))) (sy_us_cons (jwL_law__2620 (jtL_law__2620 hk23)) sy_us_nil)
def jfL_law__2688 (k23 : Int32 → sy_M → sy_O) (a4 : Int32) (M : sy_M) : sy_O :=
  jfL_law__3150 k23 a4 M
set_option maxRecDepth 100000 in
theorem jrL_law__2688 (k23 : Int32 → sy_M → sy_O) (w5 : Value) (w6 : Value) (a4 : Int32) (M : sy_M) : sy_run skL qL_law_ [(2688, .goto 462, 3, [true, true, true, true, true, false, false])] [] [(3150, juL_law__3150 (jfL_law__3150 k23))] 2 [] 2688 [.ref 1000000, .ref 0, .ref 121, .ref 132, .int a4, w5, w6] [] M = jfL_law__2688 k23 a4 M := rfl
theorem jtL_law__2688 {k23 : Int32 → sy_M → sy_O} (hk23 : ∀ (w5 : Value) (w6 : Value) (a4 : Int32) (M : sy_M) (r : xe_R × sy_M), k23 a4 M = some r → sy_E (56) qL_law_ 23 [.ref 1000000, .ref 0, .ref 121, .ref 132, .int a4, w5, w6] [] M r) : ∀ (w5 : Value) (w6 : Value) (a4 : Int32) (M : sy_M) (r : xe_R × sy_M), jfL_law__2688 k23 a4 M = some r → sy_E (56) qL_law_ 2688 [.ref 1000000, .ref 0, .ref 121, .ref 132, .int a4, w5, w6] [] M r := by
  intro w5 w6 a4 M r h
  exact sy_run_by (d := 55) ((jrL_law__2688 _ _ _ _ M).trans h) hkL (by decide +kernel) sy_cs_nil (sy_us_cons (jwL_law__3150 (jtL_law__3150 hk23)) sy_us_nil)
def jfL_law__2623 (k23 : Int32 → sy_M → sy_O) (a4 : Int32) (M : sy_M) : sy_O :=
  sy_bx (xe_in (a4 + 1) (M 134 0).toNatClampNeg) <|
  sy_bx (xe_in (a4 + 2) (M 134 0).toNatClampNeg) <|
  sy_bi (jfL_odds (M 1000000 (Int32.toNatClampNeg (a4 + 1))) (M 1000000 (Int32.toNatClampNeg (a4 + 2))) M) fun v2 M1 =>
  sy_bx (xe_in (a4 + 1) (M1 134 0).toNatClampNeg) <|
  sy_bx (xe_in (a4 + 2) (M1 134 0).toNatClampNeg) <|
  sy_bi (jfX12_odds (M1 1000000 (Int32.toNatClampNeg (a4 + 1))) (M1 1000000 (Int32.toNatClampNeg (a4 + 2))) M1) fun v4 M3 =>
  sy_bi (jfX12_thrown M3) fun v6 M5 =>
  if v6 = v2 then
    if v2 = 0 then
      if (lg_cmp (sy_rl M5 132 0) (Int32.toInt64 v4)) = 0 then
        jfL_law__2688 k23 a4 M5
      else
        sy_ri 0 M5
    else
      jfL_law__2688 k23 a4 M5
  else
    sy_ri 0 M5
set_option maxRecDepth 100000 in
theorem jrL_law__2623 (k23 : Int32 → sy_M → sy_O) (w5 : Value) (w6 : Value) (a4 : Int32) (M : sy_M) : sy_run skL qL_law_ [(2623, .aload_n 1, 1, [true, true, true, true, true, false, false]), (2624, .aload_n 0, 1, []), (2625, .iload 4, 2, []), (2627, .iconst 1, 1, []), (2628, .iadd, 1, []), (2629, .iaload, 1, []), (2630, .aload_n 0, 1, []), (2631, .iload 4, 2, []), (2633, .iconst 2, 1, []), (2634, .iadd, 1, []), (2635, .iaload, 1, []), (2636, .aload_n 3, 1, []), (2637, .invokestatic 316, 3, []), (2640, .istore 5, 2, []), (2642, .aload_n 2, 1, []), (2643, .aload_n 0, 1, []), (2644, .iload 4, 2, []), (2646, .iconst 1, 1, []), (2647, .iadd, 1, []), (2648, .iaload, 1, []), (2649, .aload_n 0, 1, []), (2650, .iload 4, 2, []), (2652, .iconst 2, 1, []), (2653, .iadd, 1, []), (2654, .iaload, 1, []), (2655, .invokevirtual 318, 3, []), (2658, .istore 6, 2, []), (2660, .aload_n 2, 1, []), (2661, .invokevirtual 154, 3, []), (2664, .iload 5, 2, []), (2666, .if_icmp .eq 5, 3, []), (2669, .iconst 0, 1, []), (2670, .ireturn, 1, []), (2671, .iload 5, 2, []), (2673, .ifCond .ne 15, 3, []), (2676, .aload_n 3, 1, []), (2677, .iconst 0, 1, []), (2678, .laload, 1, []), (2679, .iload 6, 2, []), (2681, .i2l, 1, []), (2682, .lcmp, 1, []), (2683, .ifCond .eq 5, 3, []), (2686, .iconst 0, 1, []), (2687, .ireturn, 1, [])] [(352, 0, jcL_odds), (306, 0, jcX12_odds), (181, 0, jcX12_thrown)] [(2688, juL_law__2688 (jfL_law__2688 k23))] 45 [] 2623 [.ref 1000000, .ref 0, .ref 121, .ref 132, .int a4, w5, w6] [] M = jfL_law__2623 k23 a4 M := rfl
theorem jtL_law__2623 {k23 : Int32 → sy_M → sy_O} (hk23 : ∀ (w5 : Value) (w6 : Value) (a4 : Int32) (M : sy_M) (r : xe_R × sy_M), k23 a4 M = some r → sy_E (56) qL_law_ 23 [.ref 1000000, .ref 0, .ref 121, .ref 132, .int a4, w5, w6] [] M r) : ∀ (w5 : Value) (w6 : Value) (a4 : Int32) (M : sy_M) (r : xe_R × sy_M), jfL_law__2623 k23 a4 M = some r → sy_E (56) qL_law_ 2623 [.ref 1000000, .ref 0, .ref 121, .ref 132, .int a4, w5, w6] [] M r := by
  intro w5 w6 a4 M r h
  exact sy_run_by (d := 55) ((jrL_law__2623 _ _ _ _ M).trans h) hkL (by decide +kernel) (sy_cs_cons (jeL_odds.deep (by decide)) (sy_cs_cons (jeX12_odds.deep (by decide)) (sy_cs_cons (jeX12_thrown.deep (by decide)) sy_cs_nil))) (sy_us_cons (jwL_law__2688 (jtL_law__2688 hk23)) sy_us_nil)
def jfL_law__2691 (k23 : Int32 → sy_M → sy_O) (a4 : Int32) (M : sy_M) : sy_O :=
  sy_bi (jfX11_busy M) fun v2 M1 =>
  sy_bi (jfX12_busy M1) fun v4 M3 =>
  if v2 = v4 then
    jfL_law__3150 k23 a4 M3
  else
    sy_ri 0 M3
set_option maxRecDepth 100000 in
theorem jrL_law__2691 (k23 : Int32 → sy_M → sy_O) (w5 : Value) (w6 : Value) (a4 : Int32) (M : sy_M) : sy_run skL qL_law_ [(2691, .aload_n 1, 1, [true, true, true, true, true, false, false]), (2692, .invokevirtual 319, 3, []), (2695, .aload_n 2, 1, []), (2696, .invokevirtual 322, 3, []), (2699, .if_icmp .eq 451, 3, []), (2702, .iconst 0, 1, []), (2703, .ireturn, 1, [])] [(163, 0, jcX11_busy), (307, 0, jcX12_busy)] [(3150, juL_law__3150 (jfL_law__3150 k23))] 8 [] 2691 [.ref 1000000, .ref 0, .ref 121, .ref 132, .int a4, w5, w6] [] M = jfL_law__2691 k23 a4 M := rfl
theorem jtL_law__2691 {k23 : Int32 → sy_M → sy_O} (hk23 : ∀ (w5 : Value) (w6 : Value) (a4 : Int32) (M : sy_M) (r : xe_R × sy_M), k23 a4 M = some r → sy_E (56) qL_law_ 23 [.ref 1000000, .ref 0, .ref 121, .ref 132, .int a4, w5, w6] [] M r) : ∀ (w5 : Value) (w6 : Value) (a4 : Int32) (M : sy_M) (r : xe_R × sy_M), jfL_law__2691 k23 a4 M = some r → sy_E (56) qL_law_ 2691 [.ref 1000000, .ref 0, .ref 121, .ref 132, .int a4, w5, w6] [] M r := by
  intro w5 w6 a4 M r h
  exact sy_run_by (d := 55) ((jrL_law__2691 _ _ _ _ M).trans h) hkL (by decide +kernel) (sy_cs_cons (jeX11_busy.deep (by decide)) (sy_cs_cons (jeX12_busy.deep (by decide)) sy_cs_nil)) (sy_us_cons (jwL_law__3150 (jtL_law__3150 hk23)) sy_us_nil)
def jfL_law__2704 (k23 : Int32 → sy_M → sy_O) (a4 : Int32) (M : sy_M) : sy_O :=
  sy_bi (jfX11_alone M) fun v2 M1 =>
  sy_bi (jfX12_alone M1) fun v4 M3 =>
  if v2 = v4 then
    jfL_law__3150 k23 a4 M3
  else
    sy_ri 0 M3
set_option maxRecDepth 100000 in
theorem jrL_law__2704 (k23 : Int32 → sy_M → sy_O) (w5 : Value) (w6 : Value) (a4 : Int32) (M : sy_M) : sy_run skL qL_law_ [(2704, .aload_n 1, 1, [true, true, true, true, true, false, false]), (2705, .invokevirtual 323, 3, []), (2708, .aload_n 2, 1, []), (2709, .invokevirtual 326, 3, []), (2712, .if_icmp .eq 438, 3, []), (2715, .iconst 0, 1, []), (2716, .ireturn, 1, [])] [(164, 0, jcX11_alone), (308, 0, jcX12_alone)] [(3150, juL_law__3150 (jfL_law__3150 k23))] 8 [] 2704 [.ref 1000000, .ref 0, .ref 121, .ref 132, .int a4, w5, w6] [] M = jfL_law__2704 k23 a4 M := rfl
theorem jtL_law__2704 {k23 : Int32 → sy_M → sy_O} (hk23 : ∀ (w5 : Value) (w6 : Value) (a4 : Int32) (M : sy_M) (r : xe_R × sy_M), k23 a4 M = some r → sy_E (56) qL_law_ 23 [.ref 1000000, .ref 0, .ref 121, .ref 132, .int a4, w5, w6] [] M r) : ∀ (w5 : Value) (w6 : Value) (a4 : Int32) (M : sy_M) (r : xe_R × sy_M), jfL_law__2704 k23 a4 M = some r → sy_E (56) qL_law_ 2704 [.ref 1000000, .ref 0, .ref 121, .ref 132, .int a4, w5, w6] [] M r := by
  intro w5 w6 a4 M r h
  exact sy_run_by (d := 55) ((jrL_law__2704 _ _ _ _ M).trans h) hkL (by decide +kernel) (sy_cs_cons (jeX11_alone.deep (by decide)) (sy_cs_cons (jeX12_alone.deep (by decide)) sy_cs_nil)) (sy_us_cons (jwL_law__3150 (jtL_law__3150 hk23)) sy_us_nil)
def jfL_law__2717 (k23 : Int32 → sy_M → sy_O) (a4 : Int32) (M : sy_M) : sy_O :=
  sy_bi (jfX11_miser M) fun v2 M1 =>
  sy_bi (jfX12_miser M1) fun v4 M3 =>
  if v2 = v4 then
    jfL_law__3150 k23 a4 M3
  else
    sy_ri 0 M3
set_option maxRecDepth 100000 in
theorem jrL_law__2717 (k23 : Int32 → sy_M → sy_O) (w5 : Value) (w6 : Value) (a4 : Int32) (M : sy_M) : sy_run skL qL_law_ [(2717, .aload_n 1, 1, [true, true, true, true, true, false, false]), (2718, .invokevirtual 327, 3, []), (2721, .aload_n 2, 1, []), (2722, .invokevirtual 330, 3, []), (2725, .if_icmp .eq 425, 3, []), (2728, .iconst 0, 1, []), (2729, .ireturn, 1, [])] [(165, 0, jcX11_miser), (309, 0, jcX12_miser)] [(3150, juL_law__3150 (jfL_law__3150 k23))] 8 [] 2717 [.ref 1000000, .ref 0, .ref 121, .ref 132, .int a4, w5, w6] [] M = jfL_law__2717 k23 a4 M := rfl
theorem jtL_law__2717 {k23 : Int32 → sy_M → sy_O} (hk23 : ∀ (w5 : Value) (w6 : Value) (a4 : Int32) (M : sy_M) (r : xe_R × sy_M), k23 a4 M = some r → sy_E (56) qL_law_ 23 [.ref 1000000, .ref 0, .ref 121, .ref 132, .int a4, w5, w6] [] M r) : ∀ (w5 : Value) (w6 : Value) (a4 : Int32) (M : sy_M) (r : xe_R × sy_M), jfL_law__2717 k23 a4 M = some r → sy_E (56) qL_law_ 2717 [.ref 1000000, .ref 0, .ref 121, .ref 132, .int a4, w5, w6] [] M r := by
  intro w5 w6 a4 M r h
  exact sy_run_by (d := 55) ((jrL_law__2717 _ _ _ _ M).trans h) hkL (by decide +kernel) (sy_cs_cons (jeX11_miser.deep (by decide)) (sy_cs_cons (jeX12_miser.deep (by decide)) sy_cs_nil)) (sy_us_cons (jwL_law__3150 (jtL_law__3150 hk23)) sy_us_nil)
def jfL_law__2730 (k23 : Int32 → sy_M → sy_O) (a4 : Int32) (M : sy_M) : sy_O :=
  sy_bi (jfX11_alike M) fun v2 M1 =>
  sy_bi (jfX12_alike M1) fun v4 M3 =>
  if v2 = v4 then
    jfL_law__3150 k23 a4 M3
  else
    sy_ri 0 M3
set_option maxRecDepth 100000 in
theorem jrL_law__2730 (k23 : Int32 → sy_M → sy_O) (w5 : Value) (w6 : Value) (a4 : Int32) (M : sy_M) : sy_run skL qL_law_ [(2730, .aload_n 1, 1, [true, true, true, true, true, false, false]), (2731, .invokevirtual 331, 3, []), (2734, .aload_n 2, 1, []), (2735, .invokevirtual 334, 3, []), (2738, .if_icmp .eq 412, 3, []), (2741, .iconst 0, 1, []), (2742, .ireturn, 1, [])] [(166, 0, jcX11_alike), (310, 0, jcX12_alike)] [(3150, juL_law__3150 (jfL_law__3150 k23))] 8 [] 2730 [.ref 1000000, .ref 0, .ref 121, .ref 132, .int a4, w5, w6] [] M = jfL_law__2730 k23 a4 M := rfl
theorem jtL_law__2730 {k23 : Int32 → sy_M → sy_O} (hk23 : ∀ (w5 : Value) (w6 : Value) (a4 : Int32) (M : sy_M) (r : xe_R × sy_M), k23 a4 M = some r → sy_E (56) qL_law_ 23 [.ref 1000000, .ref 0, .ref 121, .ref 132, .int a4, w5, w6] [] M r) : ∀ (w5 : Value) (w6 : Value) (a4 : Int32) (M : sy_M) (r : xe_R × sy_M), jfL_law__2730 k23 a4 M = some r → sy_E (56) qL_law_ 2730 [.ref 1000000, .ref 0, .ref 121, .ref 132, .int a4, w5, w6] [] M r := by
  intro w5 w6 a4 M r h
  exact sy_run_by (d := 55) ((jrL_law__2730 _ _ _ _ M).trans h) hkL (by decide +kernel) (sy_cs_cons (jeX11_alike.deep (by decide)) (sy_cs_cons (jeX12_alike.deep (by decide)) sy_cs_nil)) (sy_us_cons (jwL_law__3150 (jtL_law__3150 hk23)) sy_us_nil)
def jfL_law__2824 (k23 : Int32 → sy_M → sy_O) (a4 : Int32) (M : sy_M) : sy_O :=
  jfL_law__3150 k23 a4 M
set_option maxRecDepth 100000 in
theorem jrL_law__2824 (k23 : Int32 → sy_M → sy_O) (w5 : Value) (w6 : Value) (a4 : Int32) (M : sy_M) : sy_run skL qL_law_ [(2824, .goto 326, 3, [true, true, true, true, true, false, false])] [] [(3150, juL_law__3150 (jfL_law__3150 k23))] 2 [] 2824 [.ref 1000000, .ref 0, .ref 121, .ref 132, .int a4, w5, w6] [] M = jfL_law__2824 k23 a4 M := rfl
theorem jtL_law__2824 {k23 : Int32 → sy_M → sy_O} (hk23 : ∀ (w5 : Value) (w6 : Value) (a4 : Int32) (M : sy_M) (r : xe_R × sy_M), k23 a4 M = some r → sy_E (56) qL_law_ 23 [.ref 1000000, .ref 0, .ref 121, .ref 132, .int a4, w5, w6] [] M r) : ∀ (w5 : Value) (w6 : Value) (a4 : Int32) (M : sy_M) (r : xe_R × sy_M), jfL_law__2824 k23 a4 M = some r → sy_E (56) qL_law_ 2824 [.ref 1000000, .ref 0, .ref 121, .ref 132, .int a4, w5, w6] [] M r := by
  intro w5 w6 a4 M r h
  exact sy_run_by (d := 55) ((jrL_law__2824 _ _ _ _ M).trans h) hkL (by decide +kernel) sy_cs_nil (sy_us_cons (jwL_law__3150 (jtL_law__3150 hk23)) sy_us_nil)
def jfL_law__2791 (k23 : Int32 → sy_M → sy_O) (a4 : Int32) (a5 : Int32) (s0 : Int32) (s1 : Int32) (M : sy_M) : sy_O :=
  sy_bi (jfX12_trial s1 s0 M) fun v2 M1 =>
  sy_bi (jfX12_thrown M1) fun v4 M3 =>
  if v4 = a5 then
    if a5 = 0 then
      if (lg_cmp (sy_rl M3 132 0) (Int32.toInt64 v2)) = 0 then
        jfL_law__2824 k23 a4 M3
      else
        sy_ri 0 M3
    else
      jfL_law__2824 k23 a4 M3
  else
    sy_ri 0 M3
set_option maxRecDepth 100000 in
theorem jrL_law__2791 (k23 : Int32 → sy_M → sy_O) (w6 : Value) (a4 : Int32) (a5 : Int32) (s0 : Int32) (s1 : Int32) (M : sy_M) : sy_run skL qL_law_ [(2791, .invokevirtual 337, 3, [true, true, true, true, true, true, false]), (2794, .istore 6, 2, []), (2796, .aload_n 2, 1, []), (2797, .invokevirtual 154, 3, []), (2800, .iload 5, 2, []), (2802, .if_icmp .eq 5, 3, []), (2805, .iconst 0, 1, []), (2806, .ireturn, 1, []), (2807, .iload 5, 2, []), (2809, .ifCond .ne 15, 3, []), (2812, .aload_n 3, 1, []), (2813, .iconst 0, 1, []), (2814, .laload, 1, []), (2815, .iload 6, 2, []), (2817, .i2l, 1, []), (2818, .lcmp, 1, []), (2819, .ifCond .eq 5, 3, []), (2822, .iconst 0, 1, []), (2823, .ireturn, 1, [])] [(311, 0, jcX12_trial), (181, 0, jcX12_thrown)] [(2824, juL_law__2824 (jfL_law__2824 k23))] 20 [] 2791 [.ref 1000000, .ref 0, .ref 121, .ref 132, .int a4, .int a5, w6] [.int s0, .int s1, .ref 121] M = jfL_law__2791 k23 a4 a5 s0 s1 M := rfl
theorem jtL_law__2791 {k23 : Int32 → sy_M → sy_O} (hk23 : ∀ (w5 : Value) (w6 : Value) (a4 : Int32) (M : sy_M) (r : xe_R × sy_M), k23 a4 M = some r → sy_E (56) qL_law_ 23 [.ref 1000000, .ref 0, .ref 121, .ref 132, .int a4, w5, w6] [] M r) : ∀ (w6 : Value) (a4 : Int32) (a5 : Int32) (s0 : Int32) (s1 : Int32) (M : sy_M) (r : xe_R × sy_M), jfL_law__2791 k23 a4 a5 s0 s1 M = some r → sy_E (56) qL_law_ 2791 [.ref 1000000, .ref 0, .ref 121, .ref 132, .int a4, .int a5, w6] [.int s0, .int s1, .ref 121] M r := by
  intro w6 a4 a5 s0 s1 M r h
  exact sy_run_by (d := 55) ((jrL_law__2791 _ _ _ _ _ _ M).trans h) hkL (by decide +kernel) (sy_cs_cons (jeX12_trial.deep (by decide)) (sy_cs_cons (jeX12_thrown.deep (by decide)) sy_cs_nil)) (sy_us_cons (jwL_law__2824 (jtL_law__2824 hk23)) sy_us_nil)
def jfL_law__2764 (k23 : Int32 → sy_M → sy_O) (a4 : Int32) (s0 : Int32) (s1 : Int32) (M : sy_M) : sy_O :=
  sy_bi (jfL_trial s1 s0 M) fun v2 M1 =>
  sy_bx (xe_in (a4 + 1) (M1 134 0).toNatClampNeg) <|
  sy_bx (xe_in (a4 + 2) (M1 134 0).toNatClampNeg) <|
  if (M1 1000000 (Int32.toNatClampNeg (a4 + 2))) = 0 then
    jfL_law__2791 k23 a4 v2 0 (M1 1000000 (Int32.toNatClampNeg (a4 + 1))) M1
  else
    jfL_law__2791 k23 a4 v2 1 (M1 1000000 (Int32.toNatClampNeg (a4 + 1))) M1
set_option maxRecDepth 100000 in
theorem jrL_law__2764 (k23 : Int32 → sy_M → sy_O) (w5 : Value) (w6 : Value) (a4 : Int32) (s0 : Int32) (s1 : Int32) (M : sy_M) : sy_run skL qL_law_ [(2764, .aload_n 3, 1, [true, true, true, true, true, false, false]), (2765, .invokestatic 335, 3, []), (2768, .istore 5, 2, []), (2770, .aload_n 2, 1, []), (2771, .aload_n 0, 1, []), (2772, .iload 4, 2, []), (2774, .iconst 1, 1, []), (2775, .iadd, 1, []), (2776, .iaload, 1, []), (2777, .aload_n 0, 1, []), (2778, .iload 4, 2, []), (2780, .iconst 2, 1, []), (2781, .iadd, 1, []), (2782, .iaload, 1, []), (2783, .ifCond .eq 7, 3, []), (2786, .iconst 1, 1, []), (2787, .goto 4, 3, []), (2790, .iconst 0, 1, [true, true, true, true, true, true, false])] [(353, 0, jcL_trial)] [(2791, juL_law__2791 (jfL_law__2791 k23))] 19 [] 2764 [.ref 1000000, .ref 0, .ref 121, .ref 132, .int a4, w5, w6] [.int s0, .int s1, .ref 0] M = jfL_law__2764 k23 a4 s0 s1 M := rfl
theorem jtL_law__2764 {k23 : Int32 → sy_M → sy_O} (hk23 : ∀ (w5 : Value) (w6 : Value) (a4 : Int32) (M : sy_M) (r : xe_R × sy_M), k23 a4 M = some r → sy_E (56) qL_law_ 23 [.ref 1000000, .ref 0, .ref 121, .ref 132, .int a4, w5, w6] [] M r) : ∀ (w5 : Value) (w6 : Value) (a4 : Int32) (s0 : Int32) (s1 : Int32) (M : sy_M) (r : xe_R × sy_M), jfL_law__2764 k23 a4 s0 s1 M = some r → sy_E (56) qL_law_ 2764 [.ref 1000000, .ref 0, .ref 121, .ref 132, .int a4, w5, w6] [.int s0, .int s1, .ref 0] M r := by
  intro w5 w6 a4 s0 s1 M r h
  exact sy_run_by (d := 55) ((jrL_law__2764 _ _ _ _ _ _ M).trans h) hkL (by decide +kernel) (sy_cs_cons (jeL_trial.deep (by decide)) sy_cs_nil) (sy_us_cons (jwL_law__2791 (jtL_law__2791 hk23)) sy_us_nil)
def jfL_law__2743 (k23 : Int32 → sy_M → sy_O) (a4 : Int32) (M : sy_M) : sy_O :=
  sy_bx (xe_in (a4 + 1) (M 134 0).toNatClampNeg) <|
  sy_bx (xe_in (a4 + 2) (M 134 0).toNatClampNeg) <|
  if (M 1000000 (Int32.toNatClampNeg (a4 + 2))) = 0 then
    jfL_law__2764 k23 a4 0 (M 1000000 (Int32.toNatClampNeg (a4 + 1))) M
  else
    jfL_law__2764 k23 a4 1 (M 1000000 (Int32.toNatClampNeg (a4 + 1))) M
set_option maxRecDepth 100000 in
theorem jrL_law__2743 (k23 : Int32 → sy_M → sy_O) (w5 : Value) (w6 : Value) (a4 : Int32) (M : sy_M) : sy_run skL qL_law_ [(2743, .aload_n 1, 1, [true, true, true, true, true, false, false]), (2744, .aload_n 0, 1, []), (2745, .iload 4, 2, []), (2747, .iconst 1, 1, []), (2748, .iadd, 1, []), (2749, .iaload, 1, []), (2750, .aload_n 0, 1, []), (2751, .iload 4, 2, []), (2753, .iconst 2, 1, []), (2754, .iadd, 1, []), (2755, .iaload, 1, []), (2756, .ifCond .eq 7, 3, []), (2759, .iconst 1, 1, []), (2760, .goto 4, 3, []), (2763, .iconst 0, 1, [true, true, true, true, true, false, false])] [] [(2764, juL_law__2764 (jfL_law__2764 k23))] 16 [] 2743 [.ref 1000000, .ref 0, .ref 121, .ref 132, .int a4, w5, w6] [] M = jfL_law__2743 k23 a4 M := rfl
theorem jtL_law__2743 {k23 : Int32 → sy_M → sy_O} (hk23 : ∀ (w5 : Value) (w6 : Value) (a4 : Int32) (M : sy_M) (r : xe_R × sy_M), k23 a4 M = some r → sy_E (56) qL_law_ 23 [.ref 1000000, .ref 0, .ref 121, .ref 132, .int a4, w5, w6] [] M r) : ∀ (w5 : Value) (w6 : Value) (a4 : Int32) (M : sy_M) (r : xe_R × sy_M), jfL_law__2743 k23 a4 M = some r → sy_E (56) qL_law_ 2743 [.ref 1000000, .ref 0, .ref 121, .ref 132, .int a4, w5, w6] [] M r := by
  intro w5 w6 a4 M r h
  exact sy_run_by (d := 55) ((jrL_law__2743 _ _ _ _ M).trans h) hkL (by decide +kernel) sy_cs_nil (sy_us_cons (jwL_law__2764 (jtL_law__2764 hk23)) sy_us_nil)
def jfL_law__2908 (k23 : Int32 → sy_M → sy_O) (a4 : Int32) (M : sy_M) : sy_O :=
  jfL_law__3150 k23 a4 M
set_option maxRecDepth 100000 in
theorem jrL_law__2908 (k23 : Int32 → sy_M → sy_O) (w5 : Value) (w6 : Value) (a4 : Int32) (M : sy_M) : sy_run skL qL_law_ [(2908, .goto 242, 3, [true, true, true, true, true, false, false])] [] [(3150, juL_law__3150 (jfL_law__3150 k23))] 2 [] 2908 [.ref 1000000, .ref 0, .ref 121, .ref 132, .int a4, w5, w6] [] M = jfL_law__2908 k23 a4 M := rfl
theorem jtL_law__2908 {k23 : Int32 → sy_M → sy_O} (hk23 : ∀ (w5 : Value) (w6 : Value) (a4 : Int32) (M : sy_M) (r : xe_R × sy_M), k23 a4 M = some r → sy_E (56) qL_law_ 23 [.ref 1000000, .ref 0, .ref 121, .ref 132, .int a4, w5, w6] [] M r) : ∀ (w5 : Value) (w6 : Value) (a4 : Int32) (M : sy_M) (r : xe_R × sy_M), jfL_law__2908 k23 a4 M = some r → sy_E (56) qL_law_ 2908 [.ref 1000000, .ref 0, .ref 121, .ref 132, .int a4, w5, w6] [] M r := by
  intro w5 w6 a4 M r h
  exact sy_run_by (d := 55) ((jrL_law__2908 _ _ _ _ M).trans h) hkL (by decide +kernel) sy_cs_nil (sy_us_cons (jwL_law__3150 (jtL_law__3150 hk23)) sy_us_nil)
def jfL_law__2875 (k23 : Int32 → sy_M → sy_O) (a4 : Int32) (a5 : Int32) (s0 : Int32) (s1 : Int32) (M : sy_M) : sy_O :=
  sy_bi (jfX12_span s1 s0 M) fun v2 M1 =>
  sy_bi (jfX12_thrown M1) fun v4 M3 =>
  if v4 = a5 then
    if a5 = 0 then
      if (lg_cmp (sy_rl M3 132 0) (Int32.toInt64 v2)) = 0 then
        jfL_law__2908 k23 a4 M3
      else
        sy_ri 0 M3
    else
      jfL_law__2908 k23 a4 M3
  else
    sy_ri 0 M3
set_option maxRecDepth 100000 in
theorem jrL_law__2875 (k23 : Int32 → sy_M → sy_O) (w6 : Value) (a4 : Int32) (a5 : Int32) (s0 : Int32) (s1 : Int32) (M : sy_M) : sy_run skL qL_law_ [(2875, .invokevirtual 340, 3, [true, true, true, true, true, true, false]), (2878, .istore 6, 2, []), (2880, .aload_n 2, 1, []), (2881, .invokevirtual 154, 3, []), (2884, .iload 5, 2, []), (2886, .if_icmp .eq 5, 3, []), (2889, .iconst 0, 1, []), (2890, .ireturn, 1, []), (2891, .iload 5, 2, []), (2893, .ifCond .ne 15, 3, []), (2896, .aload_n 3, 1, []), (2897, .iconst 0, 1, []), (2898, .laload, 1, []), (2899, .iload 6, 2, []), (2901, .i2l, 1, []), (2902, .lcmp, 1, []), (2903, .ifCond .eq 5, 3, []), (2906, .iconst 0, 1, []), (2907, .ireturn, 1, [])] [(312, 0, jcX12_span), (181, 0, jcX12_thrown)] [(2908, juL_law__2908 (jfL_law__2908 k23))] 20 [] 2875 [.ref 1000000, .ref 0, .ref 121, .ref 132, .int a4, .int a5, w6] [.int s0, .int s1, .ref 121] M = jfL_law__2875 k23 a4 a5 s0 s1 M := rfl
theorem jtL_law__2875 {k23 : Int32 → sy_M → sy_O} (hk23 : ∀ (w5 : Value) (w6 : Value) (a4 : Int32) (M : sy_M) (r : xe_R × sy_M), k23 a4 M = some r → sy_E (56) qL_law_ 23 [.ref 1000000, .ref 0, .ref 121, .ref 132, .int a4, w5, w6] [] M r) : ∀ (w6 : Value) (a4 : Int32) (a5 : Int32) (s0 : Int32) (s1 : Int32) (M : sy_M) (r : xe_R × sy_M), jfL_law__2875 k23 a4 a5 s0 s1 M = some r → sy_E (56) qL_law_ 2875 [.ref 1000000, .ref 0, .ref 121, .ref 132, .int a4, .int a5, w6] [.int s0, .int s1, .ref 121] M r := by
  intro w6 a4 a5 s0 s1 M r h
  exact sy_run_by (d := 55) ((jrL_law__2875 _ _ _ _ _ _ M).trans h) hkL (by decide +kernel) (sy_cs_cons (jeX12_span.deep (by decide)) (sy_cs_cons (jeX12_thrown.deep (by decide)) sy_cs_nil)) (sy_us_cons (jwL_law__2908 (jtL_law__2908 hk23)) sy_us_nil)
def jfL_law__2848 (k23 : Int32 → sy_M → sy_O) (a4 : Int32) (s0 : Int32) (s1 : Int32) (M : sy_M) : sy_O :=
  sy_bi (jfL_span s1 s0 M) fun v2 M1 =>
  sy_bx (xe_in (a4 + 1) (M1 134 0).toNatClampNeg) <|
  sy_bx (xe_in (a4 + 2) (M1 134 0).toNatClampNeg) <|
  if (M1 1000000 (Int32.toNatClampNeg (a4 + 2))) = 0 then
    jfL_law__2875 k23 a4 v2 0 (M1 1000000 (Int32.toNatClampNeg (a4 + 1))) M1
  else
    jfL_law__2875 k23 a4 v2 1 (M1 1000000 (Int32.toNatClampNeg (a4 + 1))) M1
set_option maxRecDepth 100000 in
theorem jrL_law__2848 (k23 : Int32 → sy_M → sy_O) (w5 : Value) (w6 : Value) (a4 : Int32) (s0 : Int32) (s1 : Int32) (M : sy_M) : sy_run skL qL_law_ [(2848, .aload_n 3, 1, [true, true, true, true, true, false, false]), (2849, .invokestatic 338, 3, []), (2852, .istore 5, 2, []), (2854, .aload_n 2, 1, []), (2855, .aload_n 0, 1, []), (2856, .iload 4, 2, []), (2858, .iconst 1, 1, []), (2859, .iadd, 1, []), (2860, .iaload, 1, []), (2861, .aload_n 0, 1, []), (2862, .iload 4, 2, []), (2864, .iconst 2, 1, []), (2865, .iadd, 1, []), (2866, .iaload, 1, []), (2867, .ifCond .eq 7, 3, []), (2870, .iconst 1, 1, []), (2871, .goto 4, 3, []), (2874, .iconst 0, 1, [true, true, true, true, true, true, false])] [(354, 0, jcL_span)] [(2875, juL_law__2875 (jfL_law__2875 k23))] 19 [] 2848 [.ref 1000000, .ref 0, .ref 121, .ref 132, .int a4, w5, w6] [.int s0, .int s1, .ref 0] M = jfL_law__2848 k23 a4 s0 s1 M := rfl
theorem jtL_law__2848 {k23 : Int32 → sy_M → sy_O} (hk23 : ∀ (w5 : Value) (w6 : Value) (a4 : Int32) (M : sy_M) (r : xe_R × sy_M), k23 a4 M = some r → sy_E (56) qL_law_ 23 [.ref 1000000, .ref 0, .ref 121, .ref 132, .int a4, w5, w6] [] M r) : ∀ (w5 : Value) (w6 : Value) (a4 : Int32) (s0 : Int32) (s1 : Int32) (M : sy_M) (r : xe_R × sy_M), jfL_law__2848 k23 a4 s0 s1 M = some r → sy_E (56) qL_law_ 2848 [.ref 1000000, .ref 0, .ref 121, .ref 132, .int a4, w5, w6] [.int s0, .int s1, .ref 0] M r := by
  intro w5 w6 a4 s0 s1 M r h
  exact sy_run_by (d := 55) ((jrL_law__2848 _ _ _ _ _ _ M).trans h) hkL (by decide +kernel) (sy_cs_cons (jeL_span.deep (by decide)) sy_cs_nil) (sy_us_cons (jwL_law__2875 (jtL_law__2875 hk23)) sy_us_nil)
def jfL_law__2827 (k23 : Int32 → sy_M → sy_O) (a4 : Int32) (M : sy_M) : sy_O :=
  sy_bx (xe_in (a4 + 1) (M 134 0).toNatClampNeg) <|
  sy_bx (xe_in (a4 + 2) (M 134 0).toNatClampNeg) <|
  if (M 1000000 (Int32.toNatClampNeg (a4 + 2))) = 0 then
    jfL_law__2848 k23 a4 0 (M 1000000 (Int32.toNatClampNeg (a4 + 1))) M
  else
    jfL_law__2848 k23 a4 1 (M 1000000 (Int32.toNatClampNeg (a4 + 1))) M
set_option maxRecDepth 100000 in
theorem jrL_law__2827 (k23 : Int32 → sy_M → sy_O) (w5 : Value) (w6 : Value) (a4 : Int32) (M : sy_M) : sy_run skL qL_law_ [(2827, .aload_n 1, 1, [true, true, true, true, true, false, false]), (2828, .aload_n 0, 1, []), (2829, .iload 4, 2, []), (2831, .iconst 1, 1, []), (2832, .iadd, 1, []), (2833, .iaload, 1, []), (2834, .aload_n 0, 1, []), (2835, .iload 4, 2, []), (2837, .iconst 2, 1, []), (2838, .iadd, 1, []), (2839, .iaload, 1, []), (2840, .ifCond .eq 7, 3, []), (2843, .iconst 1, 1, []), (2844, .goto 4, 3, []), (2847, .iconst 0, 1, [true, true, true, true, true, false, false])] [] [(2848, juL_law__2848 (jfL_law__2848 k23))] 16 [] 2827 [.ref 1000000, .ref 0, .ref 121, .ref 132, .int a4, w5, w6] [] M = jfL_law__2827 k23 a4 M := rfl
theorem jtL_law__2827 {k23 : Int32 → sy_M → sy_O} (hk23 : ∀ (w5 : Value) (w6 : Value) (a4 : Int32) (M : sy_M) (r : xe_R × sy_M), k23 a4 M = some r → sy_E (56) qL_law_ 23 [.ref 1000000, .ref 0, .ref 121, .ref 132, .int a4, w5, w6] [] M r) : ∀ (w5 : Value) (w6 : Value) (a4 : Int32) (M : sy_M) (r : xe_R × sy_M), jfL_law__2827 k23 a4 M = some r → sy_E (56) qL_law_ 2827 [.ref 1000000, .ref 0, .ref 121, .ref 132, .int a4, w5, w6] [] M r := by
  intro w5 w6 a4 M r h
  exact sy_run_by (d := 55) ((jrL_law__2827 _ _ _ _ M).trans h) hkL (by decide +kernel) sy_cs_nil (sy_us_cons (jwL_law__2848 (jtL_law__2848 hk23)) sy_us_nil)
def jfL_law__2992 (k23 : Int32 → sy_M → sy_O) (a4 : Int32) (M : sy_M) : sy_O :=
  jfL_law__3150 k23 a4 M
set_option maxRecDepth 100000 in
theorem jrL_law__2992 (k23 : Int32 → sy_M → sy_O) (w5 : Value) (w6 : Value) (a4 : Int32) (M : sy_M) : sy_run skL qL_law_ [(2992, .goto 158, 3, [true, true, true, true, true, false, false])] [] [(3150, juL_law__3150 (jfL_law__3150 k23))] 2 [] 2992 [.ref 1000000, .ref 0, .ref 121, .ref 132, .int a4, w5, w6] [] M = jfL_law__2992 k23 a4 M := rfl
theorem jtL_law__2992 {k23 : Int32 → sy_M → sy_O} (hk23 : ∀ (w5 : Value) (w6 : Value) (a4 : Int32) (M : sy_M) (r : xe_R × sy_M), k23 a4 M = some r → sy_E (56) qL_law_ 23 [.ref 1000000, .ref 0, .ref 121, .ref 132, .int a4, w5, w6] [] M r) : ∀ (w5 : Value) (w6 : Value) (a4 : Int32) (M : sy_M) (r : xe_R × sy_M), jfL_law__2992 k23 a4 M = some r → sy_E (56) qL_law_ 2992 [.ref 1000000, .ref 0, .ref 121, .ref 132, .int a4, w5, w6] [] M r := by
  intro w5 w6 a4 M r h
  exact sy_run_by (d := 55) ((jrL_law__2992 _ _ _ _ M).trans h) hkL (by decide +kernel) sy_cs_nil (sy_us_cons (jwL_law__3150 (jtL_law__3150 hk23)) sy_us_nil)
def jfL_law__2959 (k23 : Int32 → sy_M → sy_O) (a4 : Int32) (a5 : Int32) (s0 : Int32) (s1 : Int32) (M : sy_M) : sy_O :=
  sy_bi (jfX12_led s1 s0 M) fun v2 M1 =>
  sy_bi (jfX12_thrown M1) fun v4 M3 =>
  if v4 = a5 then
    if a5 = 0 then
      if (lg_cmp (sy_rl M3 132 0) (Int32.toInt64 v2)) = 0 then
        jfL_law__2992 k23 a4 M3
      else
        sy_ri 0 M3
    else
      jfL_law__2992 k23 a4 M3
  else
    sy_ri 0 M3
set_option maxRecDepth 100000 in
theorem jrL_law__2959 (k23 : Int32 → sy_M → sy_O) (w6 : Value) (a4 : Int32) (a5 : Int32) (s0 : Int32) (s1 : Int32) (M : sy_M) : sy_run skL qL_law_ [(2959, .invokevirtual 343, 3, [true, true, true, true, true, true, false]), (2962, .istore 6, 2, []), (2964, .aload_n 2, 1, []), (2965, .invokevirtual 154, 3, []), (2968, .iload 5, 2, []), (2970, .if_icmp .eq 5, 3, []), (2973, .iconst 0, 1, []), (2974, .ireturn, 1, []), (2975, .iload 5, 2, []), (2977, .ifCond .ne 15, 3, []), (2980, .aload_n 3, 1, []), (2981, .iconst 0, 1, []), (2982, .laload, 1, []), (2983, .iload 6, 2, []), (2985, .i2l, 1, []), (2986, .lcmp, 1, []), (2987, .ifCond .eq 5, 3, []), (2990, .iconst 0, 1, []), (2991, .ireturn, 1, [])] [(314, 0, jcX12_led), (181, 0, jcX12_thrown)] [(2992, juL_law__2992 (jfL_law__2992 k23))] 20 [] 2959 [.ref 1000000, .ref 0, .ref 121, .ref 132, .int a4, .int a5, w6] [.int s0, .int s1, .ref 121] M = jfL_law__2959 k23 a4 a5 s0 s1 M := rfl
theorem jtL_law__2959 {k23 : Int32 → sy_M → sy_O} (hk23 : ∀ (w5 : Value) (w6 : Value) (a4 : Int32) (M : sy_M) (r : xe_R × sy_M), k23 a4 M = some r → sy_E (56) qL_law_ 23 [.ref 1000000, .ref 0, .ref 121, .ref 132, .int a4, w5, w6] [] M r) : ∀ (w6 : Value) (a4 : Int32) (a5 : Int32) (s0 : Int32) (s1 : Int32) (M : sy_M) (r : xe_R × sy_M), jfL_law__2959 k23 a4 a5 s0 s1 M = some r → sy_E (56) qL_law_ 2959 [.ref 1000000, .ref 0, .ref 121, .ref 132, .int a4, .int a5, w6] [.int s0, .int s1, .ref 121] M r := by
  intro w6 a4 a5 s0 s1 M r h
  exact sy_run_by (d := 55) ((jrL_law__2959 _ _ _ _ _ _ M).trans h) hkL (by decide +kernel) (sy_cs_cons (jeX12_led.deep (by decide)) (sy_cs_cons (jeX12_thrown.deep (by decide)) sy_cs_nil)) (sy_us_cons (jwL_law__2992 (jtL_law__2992 hk23)) sy_us_nil)
def jfL_law__2932 (k23 : Int32 → sy_M → sy_O) (a4 : Int32) (s0 : Int32) (s1 : Int32) (M : sy_M) : sy_O :=
  sy_bi (jfL_led s1 s0 M) fun v2 M1 =>
  sy_bx (xe_in (a4 + 1) (M1 134 0).toNatClampNeg) <|
  sy_bx (xe_in (a4 + 2) (M1 134 0).toNatClampNeg) <|
  if (M1 1000000 (Int32.toNatClampNeg (a4 + 2))) = 0 then
    jfL_law__2959 k23 a4 v2 0 (M1 1000000 (Int32.toNatClampNeg (a4 + 1))) M1
  else
    jfL_law__2959 k23 a4 v2 1 (M1 1000000 (Int32.toNatClampNeg (a4 + 1))) M1
set_option maxRecDepth 100000 in
theorem jrL_law__2932 (k23 : Int32 → sy_M → sy_O) (w5 : Value) (w6 : Value) (a4 : Int32) (s0 : Int32) (s1 : Int32) (M : sy_M) : sy_run skL qL_law_ [(2932, .aload_n 3, 1, [true, true, true, true, true, false, false]), (2933, .invokestatic 341, 3, []), (2936, .istore 5, 2, []), (2938, .aload_n 2, 1, []), (2939, .aload_n 0, 1, []), (2940, .iload 4, 2, []), (2942, .iconst 1, 1, []), (2943, .iadd, 1, []), (2944, .iaload, 1, []), (2945, .aload_n 0, 1, []), (2946, .iload 4, 2, []), (2948, .iconst 2, 1, []), (2949, .iadd, 1, []), (2950, .iaload, 1, []), (2951, .ifCond .eq 7, 3, []), (2954, .iconst 1, 1, []), (2955, .goto 4, 3, []), (2958, .iconst 0, 1, [true, true, true, true, true, true, false])] [(355, 0, jcL_led)] [(2959, juL_law__2959 (jfL_law__2959 k23))] 19 [] 2932 [.ref 1000000, .ref 0, .ref 121, .ref 132, .int a4, w5, w6] [.int s0, .int s1, .ref 0] M = jfL_law__2932 k23 a4 s0 s1 M := rfl
theorem jtL_law__2932 {k23 : Int32 → sy_M → sy_O} (hk23 : ∀ (w5 : Value) (w6 : Value) (a4 : Int32) (M : sy_M) (r : xe_R × sy_M), k23 a4 M = some r → sy_E (56) qL_law_ 23 [.ref 1000000, .ref 0, .ref 121, .ref 132, .int a4, w5, w6] [] M r) : ∀ (w5 : Value) (w6 : Value) (a4 : Int32) (s0 : Int32) (s1 : Int32) (M : sy_M) (r : xe_R × sy_M), jfL_law__2932 k23 a4 s0 s1 M = some r → sy_E (56) qL_law_ 2932 [.ref 1000000, .ref 0, .ref 121, .ref 132, .int a4, w5, w6] [.int s0, .int s1, .ref 0] M r := by
  intro w5 w6 a4 s0 s1 M r h
  exact sy_run_by (d := 55) ((jrL_law__2932 _ _ _ _ _ _ M).trans h) hkL (by decide +kernel) (sy_cs_cons (jeL_led.deep (by decide)) sy_cs_nil) (sy_us_cons (jwL_law__2959 (jtL_law__2959 hk23)) sy_us_nil)
def jfL_law__2911 (k23 : Int32 → sy_M → sy_O) (a4 : Int32) (M : sy_M) : sy_O :=
  sy_bx (xe_in (a4 + 1) (M 134 0).toNatClampNeg) <|
  sy_bx (xe_in (a4 + 2) (M 134 0).toNatClampNeg) <|
  if (M 1000000 (Int32.toNatClampNeg (a4 + 2))) = 0 then
    jfL_law__2932 k23 a4 0 (M 1000000 (Int32.toNatClampNeg (a4 + 1))) M
  else
    jfL_law__2932 k23 a4 1 (M 1000000 (Int32.toNatClampNeg (a4 + 1))) M
set_option maxRecDepth 100000 in
theorem jrL_law__2911 (k23 : Int32 → sy_M → sy_O) (w5 : Value) (w6 : Value) (a4 : Int32) (M : sy_M) : sy_run skL qL_law_ [(2911, .aload_n 1, 1, [true, true, true, true, true, false, false]), (2912, .aload_n 0, 1, []), (2913, .iload 4, 2, []), (2915, .iconst 1, 1, []), (2916, .iadd, 1, []), (2917, .iaload, 1, []), (2918, .aload_n 0, 1, []), (2919, .iload 4, 2, []), (2921, .iconst 2, 1, []), (2922, .iadd, 1, []), (2923, .iaload, 1, []), (2924, .ifCond .eq 7, 3, []), (2927, .iconst 1, 1, []), (2928, .goto 4, 3, []), (2931, .iconst 0, 1, [true, true, true, true, true, false, false])] [] [(2932, juL_law__2932 (jfL_law__2932 k23))] 16 [] 2911 [.ref 1000000, .ref 0, .ref 121, .ref 132, .int a4, w5, w6] [] M = jfL_law__2911 k23 a4 M := rfl
theorem jtL_law__2911 {k23 : Int32 → sy_M → sy_O} (hk23 : ∀ (w5 : Value) (w6 : Value) (a4 : Int32) (M : sy_M) (r : xe_R × sy_M), k23 a4 M = some r → sy_E (56) qL_law_ 23 [.ref 1000000, .ref 0, .ref 121, .ref 132, .int a4, w5, w6] [] M r) : ∀ (w5 : Value) (w6 : Value) (a4 : Int32) (M : sy_M) (r : xe_R × sy_M), jfL_law__2911 k23 a4 M = some r → sy_E (56) qL_law_ 2911 [.ref 1000000, .ref 0, .ref 121, .ref 132, .int a4, w5, w6] [] M r := by
  intro w5 w6 a4 M r h
  exact sy_run_by (d := 55) ((jrL_law__2911 _ _ _ _ M).trans h) hkL (by decide +kernel) sy_cs_nil (sy_us_cons (jwL_law__2932 (jtL_law__2932 hk23)) sy_us_nil)
def jfL_law__3060 (k23 : Int32 → sy_M → sy_O) (a4 : Int32) (M : sy_M) : sy_O :=
  jfL_law__3150 k23 a4 M
set_option maxRecDepth 100000 in
theorem jrL_law__3060 (k23 : Int32 → sy_M → sy_O) (w5 : Value) (w6 : Value) (a4 : Int32) (M : sy_M) : sy_run skL qL_law_ [(3060, .goto 90, 3, [true, true, true, true, true, false, false])] [] [(3150, juL_law__3150 (jfL_law__3150 k23))] 2 [] 3060 [.ref 1000000, .ref 0, .ref 121, .ref 132, .int a4, w5, w6] [] M = jfL_law__3060 k23 a4 M := rfl
theorem jtL_law__3060 {k23 : Int32 → sy_M → sy_O} (hk23 : ∀ (w5 : Value) (w6 : Value) (a4 : Int32) (M : sy_M) (r : xe_R × sy_M), k23 a4 M = some r → sy_E (56) qL_law_ 23 [.ref 1000000, .ref 0, .ref 121, .ref 132, .int a4, w5, w6] [] M r) : ∀ (w5 : Value) (w6 : Value) (a4 : Int32) (M : sy_M) (r : xe_R × sy_M), jfL_law__3060 k23 a4 M = some r → sy_E (56) qL_law_ 3060 [.ref 1000000, .ref 0, .ref 121, .ref 132, .int a4, w5, w6] [] M r := by
  intro w5 w6 a4 M r h
  exact sy_run_by (d := 55) ((jrL_law__3060 _ _ _ _ M).trans h) hkL (by decide +kernel) sy_cs_nil (sy_us_cons (jwL_law__3150 (jtL_law__3150 hk23)) sy_us_nil)
def jfL_law__2995 (k23 : Int32 → sy_M → sy_O) (a4 : Int32) (M : sy_M) : sy_O :=
  sy_bx (xe_in (a4 + 1) (M 134 0).toNatClampNeg) <|
  sy_bx (xe_in (a4 + 2) (M 134 0).toNatClampNeg) <|
  sy_bi (jfL_log (M 1000000 (Int32.toNatClampNeg (a4 + 1))) (M 1000000 (Int32.toNatClampNeg (a4 + 2))) M) fun v2 M1 =>
  sy_bx (xe_in (a4 + 1) (M1 134 0).toNatClampNeg) <|
  sy_bx (xe_in (a4 + 2) (M1 134 0).toNatClampNeg) <|
  sy_bi (jfX12_log (M1 1000000 (Int32.toNatClampNeg (a4 + 1))) (M1 1000000 (Int32.toNatClampNeg (a4 + 2))) M1) fun v4 M3 =>
  sy_bi (jfX12_thrown M3) fun v6 M5 =>
  if v6 = v2 then
    if v2 = 0 then
      if (lg_cmp (sy_rl M5 132 0) (Int32.toInt64 v4)) = 0 then
        jfL_law__3060 k23 a4 M5
      else
        sy_ri 0 M5
    else
      jfL_law__3060 k23 a4 M5
  else
    sy_ri 0 M5
set_option maxRecDepth 100000 in
theorem jrL_law__2995 (k23 : Int32 → sy_M → sy_O) (w5 : Value) (w6 : Value) (a4 : Int32) (M : sy_M) : sy_run skL qL_law_ [(2995, .aload_n 1, 1, [true, true, true, true, true, false, false]), (2996, .aload_n 0, 1, []), (2997, .iload 4, 2, []), (2999, .iconst 1, 1, []), (3000, .iadd, 1, []), (3001, .iaload, 1, []), (3002, .aload_n 0, 1, []), (3003, .iload 4, 2, []), (3005, .iconst 2, 1, []), (3006, .iadd, 1, []), (3007, .iaload, 1, []), (3008, .aload_n 3, 1, []), (3009, .invokestatic 344, 3, []), (3012, .istore 5, 2, []), (3014, .aload_n 2, 1, []), (3015, .aload_n 0, 1, []), (3016, .iload 4, 2, []), (3018, .iconst 1, 1, []), (3019, .iadd, 1, []), (3020, .iaload, 1, []), (3021, .aload_n 0, 1, []), (3022, .iload 4, 2, []), (3024, .iconst 2, 1, []), (3025, .iadd, 1, []), (3026, .iaload, 1, []), (3027, .invokevirtual 346, 3, []), (3030, .istore 6, 2, []), (3032, .aload_n 2, 1, []), (3033, .invokevirtual 154, 3, []), (3036, .iload 5, 2, []), (3038, .if_icmp .eq 5, 3, []), (3041, .iconst 0, 1, []), (3042, .ireturn, 1, []), (3043, .iload 5, 2, []), (3045, .ifCond .ne 15, 3, []), (3048, .aload_n 3, 1, []), (3049, .iconst 0, 1, []), (3050, .laload, 1, []), (3051, .iload 6, 2, []), (3053, .i2l, 1, []), (3054, .lcmp, 1, []), (3055, .ifCond .eq 5, 3, []), (3058, .iconst 0, 1, []), (3059, .ireturn, 1, [])] [(356, 0, jcL_log), (315, 0, jcX12_log), (181, 0, jcX12_thrown)] [(3060, juL_law__3060 (jfL_law__3060 k23))] 45 [] 2995 [.ref 1000000, .ref 0, .ref 121, .ref 132, .int a4, w5, w6] [] M = jfL_law__2995 k23 a4 M := rfl
theorem jtL_law__2995 {k23 : Int32 → sy_M → sy_O} (hk23 : ∀ (w5 : Value) (w6 : Value) (a4 : Int32) (M : sy_M) (r : xe_R × sy_M), k23 a4 M = some r → sy_E (56) qL_law_ 23 [.ref 1000000, .ref 0, .ref 121, .ref 132, .int a4, w5, w6] [] M r) : ∀ (w5 : Value) (w6 : Value) (a4 : Int32) (M : sy_M) (r : xe_R × sy_M), jfL_law__2995 k23 a4 M = some r → sy_E (56) qL_law_ 2995 [.ref 1000000, .ref 0, .ref 121, .ref 132, .int a4, w5, w6] [] M r := by
  intro w5 w6 a4 M r h
  exact sy_run_by (d := 55) ((jrL_law__2995 _ _ _ _ M).trans h) hkL (by decide +kernel) (sy_cs_cons (jeL_log.deep (by decide)) (sy_cs_cons (jeX12_log.deep (by decide)) (sy_cs_cons (jeX12_thrown.deep (by decide)) sy_cs_nil))) (sy_us_cons (jwL_law__3060 (jtL_law__3060 hk23)) sy_us_nil)
def jfL_law__3063 (k23 : Int32 → sy_M → sy_O) (a4 : Int32) (M : sy_M) : sy_O :=
  sy_bx (xe_in (a4 + 1) (M 134 0).toNatClampNeg) <|
  sy_bi (jfX11_seed (M 1000000 (Int32.toNatClampNeg (a4 + 1))) M) fun v2 M1 =>
  sy_bx (xe_in (a4 + 1) (M1 134 0).toNatClampNeg) <|
  sy_bi (jfX12_seed (M1 1000000 (Int32.toNatClampNeg (a4 + 1))) M1) fun v4 M3 =>
  if v2 = v4 then
    jfL_law__3150 k23 a4 M3
  else
    sy_ri 0 M3
set_option maxRecDepth 100000 in
theorem jrL_law__3063 (k23 : Int32 → sy_M → sy_O) (w5 : Value) (w6 : Value) (a4 : Int32) (M : sy_M) : sy_run skL qL_law_ [(3063, .aload_n 1, 1, [true, true, true, true, true, false, false]), (3064, .aload_n 0, 1, []), (3065, .iload 4, 2, []), (3067, .iconst 1, 1, []), (3068, .iadd, 1, []), (3069, .iaload, 1, []), (3070, .invokevirtual 347, 3, []), (3073, .aload_n 2, 1, []), (3074, .aload_n 0, 1, []), (3075, .iload 4, 2, []), (3077, .iconst 1, 1, []), (3078, .iadd, 1, []), (3079, .iaload, 1, []), (3080, .invokevirtual 350, 3, []), (3083, .if_icmp .eq 67, 3, []), (3086, .iconst 0, 1, []), (3087, .ireturn, 1, [])] [(171, 0, jcX11_seed), (316, 0, jcX12_seed)] [(3150, juL_law__3150 (jfL_law__3150 k23))] 18 [] 3063 [.ref 1000000, .ref 0, .ref 121, .ref 132, .int a4, w5, w6] [] M = jfL_law__3063 k23 a4 M := rfl
theorem jtL_law__3063 {k23 : Int32 → sy_M → sy_O} (hk23 : ∀ (w5 : Value) (w6 : Value) (a4 : Int32) (M : sy_M) (r : xe_R × sy_M), k23 a4 M = some r → sy_E (56) qL_law_ 23 [.ref 1000000, .ref 0, .ref 121, .ref 132, .int a4, w5, w6] [] M r) : ∀ (w5 : Value) (w6 : Value) (a4 : Int32) (M : sy_M) (r : xe_R × sy_M), jfL_law__3063 k23 a4 M = some r → sy_E (56) qL_law_ 3063 [.ref 1000000, .ref 0, .ref 121, .ref 132, .int a4, w5, w6] [] M r := by
  intro w5 w6 a4 M r h
  exact sy_run_by (d := 55) ((jrL_law__3063 _ _ _ _ M).trans h) hkL (by decide +kernel) (sy_cs_cons (jeX11_seed.deep (by decide)) (sy_cs_cons (jeX12_seed.deep (by decide)) sy_cs_nil)) (sy_us_cons (jwL_law__3150 (jtL_law__3150 hk23)) sy_us_nil)
def jfL_law__3088 (k23 : Int32 → sy_M → sy_O) (a4 : Int32) (M : sy_M) : sy_O :=
  sy_bi (jfX11_undo M) fun v2 M1 =>
  sy_bi (jfX12_undo M1) fun v4 M3 =>
  if v2 = v4 then
    jfL_law__3150 k23 a4 M3
  else
    sy_ri 0 M3
set_option maxRecDepth 100000 in
theorem jrL_law__3088 (k23 : Int32 → sy_M → sy_O) (w5 : Value) (w6 : Value) (a4 : Int32) (M : sy_M) : sy_run skL qL_law_ [(3088, .aload_n 1, 1, [true, true, true, true, true, false, false]), (3089, .invokevirtual 351, 3, []), (3092, .aload_n 2, 1, []), (3093, .invokevirtual 355, 3, []), (3096, .if_icmp .eq 54, 3, []), (3099, .iconst 0, 1, []), (3100, .ireturn, 1, [])] [(172, 0, jcX11_undo), (317, 0, jcX12_undo)] [(3150, juL_law__3150 (jfL_law__3150 k23))] 8 [] 3088 [.ref 1000000, .ref 0, .ref 121, .ref 132, .int a4, w5, w6] [] M = jfL_law__3088 k23 a4 M := rfl
theorem jtL_law__3088 {k23 : Int32 → sy_M → sy_O} (hk23 : ∀ (w5 : Value) (w6 : Value) (a4 : Int32) (M : sy_M) (r : xe_R × sy_M), k23 a4 M = some r → sy_E (56) qL_law_ 23 [.ref 1000000, .ref 0, .ref 121, .ref 132, .int a4, w5, w6] [] M r) : ∀ (w5 : Value) (w6 : Value) (a4 : Int32) (M : sy_M) (r : xe_R × sy_M), jfL_law__3088 k23 a4 M = some r → sy_E (56) qL_law_ 3088 [.ref 1000000, .ref 0, .ref 121, .ref 132, .int a4, w5, w6] [] M r := by
  intro w5 w6 a4 M r h
  exact sy_run_by (d := 55) ((jrL_law__3088 _ _ _ _ M).trans h) hkL (by decide +kernel) (sy_cs_cons (jeX11_undo.deep (by decide)) (sy_cs_cons (jeX12_undo.deep (by decide)) sy_cs_nil)) (sy_us_cons (jwL_law__3150 (jtL_law__3150 hk23)) sy_us_nil)
def jfL_law__3101 (k23 : Int32 → sy_M → sy_O) (a4 : Int32) (M : sy_M) : sy_O :=
  sy_bv (jfX11_image M) fun M1 =>
  sy_bv (jfX12_image M1) fun M2 =>
  jfL_law__3150 k23 a4 M2
set_option maxRecDepth 100000 in
theorem jrL_law__3101 (k23 : Int32 → sy_M → sy_O) (w5 : Value) (w6 : Value) (a4 : Int32) (M : sy_M) : sy_run skL qL_law_ [(3101, .aload_n 1, 1, [true, true, true, true, true, false, false]), (3102, .invokevirtual 356, 3, []), (3105, .aload_n 2, 1, []), (3106, .invokevirtual 359, 3, []), (3109, .goto 41, 3, [])] [(173, 1, jcX11_image), (318, 1, jcX12_image)] [(3150, juL_law__3150 (jfL_law__3150 k23))] 6 [] 3101 [.ref 1000000, .ref 0, .ref 121, .ref 132, .int a4, w5, w6] [] M = jfL_law__3101 k23 a4 M := rfl
theorem jtL_law__3101 {k23 : Int32 → sy_M → sy_O} (hk23 : ∀ (w5 : Value) (w6 : Value) (a4 : Int32) (M : sy_M) (r : xe_R × sy_M), k23 a4 M = some r → sy_E (56) qL_law_ 23 [.ref 1000000, .ref 0, .ref 121, .ref 132, .int a4, w5, w6] [] M r) : ∀ (w5 : Value) (w6 : Value) (a4 : Int32) (M : sy_M) (r : xe_R × sy_M), jfL_law__3101 k23 a4 M = some r → sy_E (56) qL_law_ 3101 [.ref 1000000, .ref 0, .ref 121, .ref 132, .int a4, w5, w6] [] M r := by
  intro w5 w6 a4 M r h
  exact sy_run_by (d := 55) ((jrL_law__3101 _ _ _ _ M).trans h) hkL (by decide +kernel) (sy_cs_cons (jeX11_image.deep (by decide)) (sy_cs_cons (jeX12_image.deep (by decide)) sy_cs_nil)) (sy_us_cons (jwL_law__3150 (jtL_law__3150 hk23)) sy_us_nil)
def jfL_law__3112 (k23 : Int32 → sy_M → sy_O) (a4 : Int32) (M : sy_M) : sy_O :=
  sy_bi (jfX11_back M) fun v2 M1 =>
  sy_bi (jfX12_back M1) fun v4 M3 =>
  if v2 = v4 then
    jfL_law__3150 k23 a4 M3
  else
    sy_ri 0 M3
set_option maxRecDepth 100000 in
theorem jrL_law__3112 (k23 : Int32 → sy_M → sy_O) (w5 : Value) (w6 : Value) (a4 : Int32) (M : sy_M) : sy_run skL qL_law_ [(3112, .aload_n 1, 1, [true, true, true, true, true, false, false]), (3113, .invokevirtual 360, 3, []), (3116, .aload_n 2, 1, []), (3117, .invokevirtual 363, 3, []), (3120, .if_icmp .eq 30, 3, []), (3123, .iconst 0, 1, []), (3124, .ireturn, 1, [])] [(174, 0, jcX11_back), (319, 0, jcX12_back)] [(3150, juL_law__3150 (jfL_law__3150 k23))] 8 [] 3112 [.ref 1000000, .ref 0, .ref 121, .ref 132, .int a4, w5, w6] [] M = jfL_law__3112 k23 a4 M := rfl
theorem jtL_law__3112 {k23 : Int32 → sy_M → sy_O} (hk23 : ∀ (w5 : Value) (w6 : Value) (a4 : Int32) (M : sy_M) (r : xe_R × sy_M), k23 a4 M = some r → sy_E (56) qL_law_ 23 [.ref 1000000, .ref 0, .ref 121, .ref 132, .int a4, w5, w6] [] M r) : ∀ (w5 : Value) (w6 : Value) (a4 : Int32) (M : sy_M) (r : xe_R × sy_M), jfL_law__3112 k23 a4 M = some r → sy_E (56) qL_law_ 3112 [.ref 1000000, .ref 0, .ref 121, .ref 132, .int a4, w5, w6] [] M r := by
  intro w5 w6 a4 M r h
  exact sy_run_by (d := 55) ((jrL_law__3112 _ _ _ _ M).trans h) hkL (by decide +kernel) (sy_cs_cons (jeX11_back.deep (by decide)) (sy_cs_cons (jeX12_back.deep (by decide)) sy_cs_nil)) (sy_us_cons (jwL_law__3150 (jtL_law__3150 hk23)) sy_us_nil)
def jfL_law__3125 (k23 : Int32 → sy_M → sy_O) (a4 : Int32) (M : sy_M) : sy_O :=
  sy_bx (xe_in (a4 + 1) (M 134 0).toNatClampNeg) <|
  sy_bi (jfX11_count (M 1000000 (Int32.toNatClampNeg (a4 + 1))) M) fun v2 M1 =>
  sy_bx (xe_in (a4 + 1) (M1 134 0).toNatClampNeg) <|
  sy_bi (jfX12_count (M1 1000000 (Int32.toNatClampNeg (a4 + 1))) M1) fun v4 M3 =>
  if v2 = v4 then
    jfL_law__3150 k23 a4 M3
  else
    sy_ri 0 M3
set_option maxRecDepth 100000 in
theorem jrL_law__3125 (k23 : Int32 → sy_M → sy_O) (w5 : Value) (w6 : Value) (a4 : Int32) (M : sy_M) : sy_run skL qL_law_ [(3125, .aload_n 1, 1, [true, true, true, true, true, false, false]), (3126, .aload_n 0, 1, []), (3127, .iload 4, 2, []), (3129, .iconst 1, 1, []), (3130, .iadd, 1, []), (3131, .iaload, 1, []), (3132, .invokevirtual 364, 3, []), (3135, .aload_n 2, 1, []), (3136, .aload_n 0, 1, []), (3137, .iload 4, 2, []), (3139, .iconst 1, 1, []), (3140, .iadd, 1, []), (3141, .iaload, 1, []), (3142, .invokevirtual 367, 3, []), (3145, .if_icmp .eq 5, 3, []), (3148, .iconst 0, 1, []), (3149, .ireturn, 1, [])] [(99, 0, jcX11_count), (320, 0, jcX12_count)] [(3150, juL_law__3150 (jfL_law__3150 k23))] 18 [] 3125 [.ref 1000000, .ref 0, .ref 121, .ref 132, .int a4, w5, w6] [] M = jfL_law__3125 k23 a4 M := rfl
theorem jtL_law__3125 {k23 : Int32 → sy_M → sy_O} (hk23 : ∀ (w5 : Value) (w6 : Value) (a4 : Int32) (M : sy_M) (r : xe_R × sy_M), k23 a4 M = some r → sy_E (56) qL_law_ 23 [.ref 1000000, .ref 0, .ref 121, .ref 132, .int a4, w5, w6] [] M r) : ∀ (w5 : Value) (w6 : Value) (a4 : Int32) (M : sy_M) (r : xe_R × sy_M), jfL_law__3125 k23 a4 M = some r → sy_E (56) qL_law_ 3125 [.ref 1000000, .ref 0, .ref 121, .ref 132, .int a4, w5, w6] [] M r := by
  intro w5 w6 a4 M r h
  exact sy_run_by (d := 55) ((jrL_law__3125 _ _ _ _ M).trans h) hkL (by decide +kernel) (sy_cs_cons (jeX11_count.deep (by decide)) (sy_cs_cons (jeX12_count.deep (by decide)) sy_cs_nil)) (sy_us_cons (jwL_law__3150 (jtL_law__3150 hk23)) sy_us_nil)
def jgL_law__23 (k23 : Int32 → sy_M → sy_O) (a4 : Int32) (M : sy_M) : sy_O :=
  if ((Nat.toInt32 (M 134 0).toNatClampNeg) - 6) < a4 then
    sy_ri 1 M
  else
    sy_bx (xe_in a4 (M 134 0).toNatClampNeg) <|
    if ((M 1000000 (Int32.toNatClampNeg a4)) &&& 63) = 0 then
      jfL_law__308 k23 a4 M
    else if ((M 1000000 (Int32.toNatClampNeg a4)) &&& 63) = 1 then
      jfL_law__381 k23 a4 M
    else if ((M 1000000 (Int32.toNatClampNeg a4)) &&& 63) = 2 then
      jfL_law__406 k23 a4 M
    else if ((M 1000000 (Int32.toNatClampNeg a4)) &&& 63) = 3 then
      jfL_law__450 k23 a4 M
    else if ((M 1000000 (Int32.toNatClampNeg a4)) &&& 63) = 4 then
      jfL_law__494 k23 a4 M
    else if ((M 1000000 (Int32.toNatClampNeg a4)) &&& 63) = 5 then
      jfL_law__507 k23 a4 M
    else if ((M 1000000 (Int32.toNatClampNeg a4)) &&& 63) = 6 then
      jfL_law__575 k23 a4 M
    else if ((M 1000000 (Int32.toNatClampNeg a4)) &&& 63) = 7 then
      jfL_law__643 k23 a4 M
    else if ((M 1000000 (Int32.toNatClampNeg a4)) &&& 63) = 8 then
      jfL_law__718 k23 a4 M
    else if ((M 1000000 (Int32.toNatClampNeg a4)) &&& 63) = 9 then
      jfL_law__774 k23 a4 M
    else if ((M 1000000 (Int32.toNatClampNeg a4)) &&& 63) = 10 then
      jfL_law__830 k23 a4 M
    else if ((M 1000000 (Int32.toNatClampNeg a4)) &&& 63) = 11 then
      jfL_law__886 k23 a4 M
    else if ((M 1000000 (Int32.toNatClampNeg a4)) &&& 63) = 12 then
      jfL_law__954 k23 a4 M
    else if ((M 1000000 (Int32.toNatClampNeg a4)) &&& 63) = 13 then
      jfL_law__1022 k23 a4 M
    else if ((M 1000000 (Int32.toNatClampNeg a4)) &&& 63) = 14 then
      jfL_law__1090 k23 a4 M
    else if ((M 1000000 (Int32.toNatClampNeg a4)) &&& 63) = 15 then
      jfL_law__1146 k23 a4 M
    else if ((M 1000000 (Int32.toNatClampNeg a4)) &&& 63) = 16 then
      jfL_law__1214 k23 a4 M
    else if ((M 1000000 (Int32.toNatClampNeg a4)) &&& 63) = 17 then
      jfL_law__1294 k23 a4 M
    else if ((M 1000000 (Int32.toNatClampNeg a4)) &&& 63) = 18 then
      jfL_law__1307 k23 a4 M
    else if ((M 1000000 (Int32.toNatClampNeg a4)) &&& 63) = 19 then
      jfL_law__1320 k23 a4 M
    else if ((M 1000000 (Int32.toNatClampNeg a4)) &&& 63) = 20 then
      jfL_law__1333 k23 a4 M
    else if ((M 1000000 (Int32.toNatClampNeg a4)) &&& 63) = 21 then
      jfL_law__1346 k23 a4 M
    else if ((M 1000000 (Int32.toNatClampNeg a4)) &&& 63) = 22 then
      jfL_law__1359 k23 a4 M
    else if ((M 1000000 (Int32.toNatClampNeg a4)) &&& 63) = 23 then
      jfL_law__1372 k23 a4 M
    else if ((M 1000000 (Int32.toNatClampNeg a4)) &&& 63) = 24 then
      jfL_law__1452 k23 a4 M
    else if ((M 1000000 (Int32.toNatClampNeg a4)) &&& 63) = 25 then
      jfL_law__1508 k23 a4 M
    else if ((M 1000000 (Int32.toNatClampNeg a4)) &&& 63) = 26 then
      jfL_law__1564 k23 a4 M
    else if ((M 1000000 (Int32.toNatClampNeg a4)) &&& 63) = 27 then
      jfL_law__1632 k23 a4 M
    else if ((M 1000000 (Int32.toNatClampNeg a4)) &&& 63) = 28 then
      jfL_law__1645 k23 a4 M
    else if ((M 1000000 (Int32.toNatClampNeg a4)) &&& 63) = 29 then
      jfL_law__1729 k23 a4 M
    else if ((M 1000000 (Int32.toNatClampNeg a4)) &&& 63) = 30 then
      jfL_law__1797 k23 a4 M
    else if ((M 1000000 (Int32.toNatClampNeg a4)) &&& 63) = 31 then
      jfL_law__1822 k23 a4 M
    else if ((M 1000000 (Int32.toNatClampNeg a4)) &&& 63) = 32 then
      jfL_law__1878 k23 a4 M
    else if ((M 1000000 (Int32.toNatClampNeg a4)) &&& 63) = 33 then
      jfL_law__1919 k23 a4 M
    else if ((M 1000000 (Int32.toNatClampNeg a4)) &&& 63) = 34 then
      jfL_law__1975 k23 a4 M
    else if ((M 1000000 (Int32.toNatClampNeg a4)) &&& 63) = 35 then
      jfL_law__2047 k23 a4 M
    else if ((M 1000000 (Int32.toNatClampNeg a4)) &&& 63) = 36 then
      jfL_law__2091 k23 a4 M
    else if ((M 1000000 (Int32.toNatClampNeg a4)) &&& 63) = 37 then
      jfL_law__2147 k23 a4 M
    else if ((M 1000000 (Int32.toNatClampNeg a4)) &&& 63) = 38 then
      jfL_law__2222 k23 a4 M
    else if ((M 1000000 (Int32.toNatClampNeg a4)) &&& 63) = 39 then
      jfL_law__2278 k23 a4 M
    else if ((M 1000000 (Int32.toNatClampNeg a4)) &&& 63) = 40 then
      jfL_law__2291 k23 a4 M
    else if ((M 1000000 (Int32.toNatClampNeg a4)) &&& 63) = 41 then
      jfL_law__2316 k23 a4 M
    else if ((M 1000000 (Int32.toNatClampNeg a4)) &&& 63) = 42 then
      jfL_law__2372 k23 a4 M
    else if ((M 1000000 (Int32.toNatClampNeg a4)) &&& 63) = 43 then
      jfL_law__2385 k23 a4 M
    else if ((M 1000000 (Int32.toNatClampNeg a4)) &&& 63) = 44 then
      jfL_law__2398 k23 a4 M
    else if ((M 1000000 (Int32.toNatClampNeg a4)) &&& 63) = 45 then
      jfL_law__2466 k23 a4 M
    else if ((M 1000000 (Int32.toNatClampNeg a4)) &&& 63) = 46 then
      jfL_law__2479 k23 a4 M
    else if ((M 1000000 (Int32.toNatClampNeg a4)) &&& 63) = 47 then
      jfL_law__2542 k23 a4 M
    else if ((M 1000000 (Int32.toNatClampNeg a4)) &&& 63) = 48 then
      jfL_law__2555 k23 a4 M
    else if ((M 1000000 (Int32.toNatClampNeg a4)) &&& 63) = 49 then
      jfL_law__2623 k23 a4 M
    else if ((M 1000000 (Int32.toNatClampNeg a4)) &&& 63) = 50 then
      jfL_law__2691 k23 a4 M
    else if ((M 1000000 (Int32.toNatClampNeg a4)) &&& 63) = 51 then
      jfL_law__2704 k23 a4 M
    else if ((M 1000000 (Int32.toNatClampNeg a4)) &&& 63) = 52 then
      jfL_law__2717 k23 a4 M
    else if ((M 1000000 (Int32.toNatClampNeg a4)) &&& 63) = 53 then
      jfL_law__2730 k23 a4 M
    else if ((M 1000000 (Int32.toNatClampNeg a4)) &&& 63) = 54 then
      jfL_law__2743 k23 a4 M
    else if ((M 1000000 (Int32.toNatClampNeg a4)) &&& 63) = 55 then
      jfL_law__2827 k23 a4 M
    else if ((M 1000000 (Int32.toNatClampNeg a4)) &&& 63) = 56 then
      jfL_law__2911 k23 a4 M
    else if ((M 1000000 (Int32.toNatClampNeg a4)) &&& 63) = 57 then
      jfL_law__2995 k23 a4 M
    else if ((M 1000000 (Int32.toNatClampNeg a4)) &&& 63) = 58 then
      jfL_law__3063 k23 a4 M
    else if ((M 1000000 (Int32.toNatClampNeg a4)) &&& 63) = 59 then
      jfL_law__3088 k23 a4 M
    else if ((M 1000000 (Int32.toNatClampNeg a4)) &&& 63) = 60 then
      jfL_law__3101 k23 a4 M
    else if ((M 1000000 (Int32.toNatClampNeg a4)) &&& 63) = 61 then
      jfL_law__3112 k23 a4 M
    else if ((M 1000000 (Int32.toNatClampNeg a4)) &&& 63) = 62 then
      jfL_law__3125 k23 a4 M
    else jfL_law__3150 k23 a4 M
def jfL_law__23 : Nat → Int32 → sy_M → sy_O
  | 0, _, _ => none
  | n + 1, a4, M => jgL_law__23 (jfL_law__23 n) a4 M
set_option maxRecDepth 100000 in
theorem jrL_law__23 (k23 : Int32 → sy_M → sy_O) (w5 : Value) (w6 : Value) (a4 : Int32) (M : sy_M) : sy_run skL qL_law_ [(23, .iload 4, 2, [true, true, true, true, true, false, false]), (25, .aload_n 0, 1, []), (26, .arraylength, 1, []), (27, .bipush 6, 2, []), (29, .isub, 1, []), (30, .if_icmp .gt 3126, 3, []), (33, .aload_n 0, 1, []), (34, .iload 4, 2, []), (36, .iaload, 1, []), (37, .bipush 63, 2, []), (39, .iand, 1, []), (40, .tableswitch 3110 0 62 #[268, 341, 366, 410, 454, 467, 535, 603, 678, 734, 790, 846, 914, 982, 1050, 1106, 1174, 1254, 1267, 1280, 1293, 1306, 1319, 1332, 1412, 1468, 1524, 1592, 1605, 1689, 1757, 1782, 1838, 1879, 1935, 2007, 2051, 2107, 2182, 2238, 2251, 2276, 2332, 2345, 2358, 2426, 2439, 2502, 2515, 2583, 2651, 2664, 2677, 2690, 2703, 2787, 2871, 2955, 3023, 3048, 3061, 3072, 3085], 268, []), (3156, .iconst 1, 1, [false, false, false, false, false, false, false]), (3157, .ireturn, 1, [])] [] [(308, juL_law__308 (jfL_law__308 k23)), (381, juL_law__381 (jfL_law__381 k23)), (406, juL_law__406 (jfL_law__406 k23)), (450, juL_law__450 (jfL_law__450 k23)), (494, juL_law__494 (jfL_law__494 k23)), (507, juL_law__507 (jfL_law__507 k23)), (575, juL_law__575 (jfL_law__575 k23)), (643, juL_law__643 (jfL_law__643 k23)), (718, juL_law__718 (jfL_law__718 k23)), (774, juL_law__774 (jfL_law__774 k23)), (830, juL_law__830 (jfL_law__830 k23)), (886, juL_law__886 (jfL_law__886 k23)), (954, juL_law__954 (jfL_law__954 k23)), (1022, juL_law__1022 (jfL_law__1022 k23)), (1090, juL_law__1090 (jfL_law__1090 k23)), (1146, juL_law__1146 (jfL_law__1146 k23)), (1214, juL_law__1214 (jfL_law__1214 k23)), (1294, juL_law__1294 (jfL_law__1294 k23)), (1307, juL_law__1307 (jfL_law__1307 k23)), (1320, juL_law__1320 (jfL_law__1320 k23)), (1333, juL_law__1333 (jfL_law__1333 k23)), (1346, juL_law__1346 (jfL_law__1346 k23)), (1359, juL_law__1359 (jfL_law__1359 k23)), (1372, juL_law__1372 (jfL_law__1372 k23)), (1452, juL_law__1452 (jfL_law__1452 k23)), (1508, juL_law__1508 (jfL_law__1508 k23)), (1564, juL_law__1564 (jfL_law__1564 k23)), (1632, juL_law__1632 (jfL_law__1632 k23)), (1645, juL_law__1645 (jfL_law__1645 k23)), (1729, juL_law__1729 (jfL_law__1729 k23)), (1797, juL_law__1797 (jfL_law__1797 k23)), (1822, juL_law__1822 (jfL_law__1822 k23)), (1878, juL_law__1878 (jfL_law__1878 k23)), (1919, juL_law__1919 (jfL_law__1919 k23)), (1975, juL_law__1975 (jfL_law__1975 k23)), (2047, juL_law__2047 (jfL_law__2047 k23)), (2091, juL_law__2091 (jfL_law__2091 k23)), (2147, juL_law__2147 (jfL_law__2147 k23)), (2222, juL_law__2222 (jfL_law__2222 k23)), (2278, juL_law__2278 (jfL_law__2278 k23)), (2291, juL_law__2291 (jfL_law__2291 k23)), (2316, juL_law__2316 (jfL_law__2316 k23)), (2372, juL_law__2372 (jfL_law__2372 k23)), (2385, juL_law__2385 (jfL_law__2385 k23)), (2398, juL_law__2398 (jfL_law__2398 k23)), (2466, juL_law__2466 (jfL_law__2466 k23)), (2479, juL_law__2479 (jfL_law__2479 k23)), (2542, juL_law__2542 (jfL_law__2542 k23)), (2555, juL_law__2555 (jfL_law__2555 k23)), (2623, juL_law__2623 (jfL_law__2623 k23)), (2691, juL_law__2691 (jfL_law__2691 k23)), (2704, juL_law__2704 (jfL_law__2704 k23)), (2717, juL_law__2717 (jfL_law__2717 k23)), (2730, juL_law__2730 (jfL_law__2730 k23)), (2743, juL_law__2743 (jfL_law__2743 k23)), (2827, juL_law__2827 (jfL_law__2827 k23)), (2911, juL_law__2911 (jfL_law__2911 k23)), (2995, juL_law__2995 (jfL_law__2995 k23)), (3063, juL_law__3063 (jfL_law__3063 k23)), (3088, juL_law__3088 (jfL_law__3088 k23)), (3101, juL_law__3101 (jfL_law__3101 k23)), (3112, juL_law__3112 (jfL_law__3112 k23)), (3125, juL_law__3125 (jfL_law__3125 k23)), (3150, juL_law__3150 (jfL_law__3150 k23))] 15 [] 23 [.ref 1000000, .ref 0, .ref 121, .ref 132, .int a4, w5, w6] [] M = jgL_law__23 k23 a4 M := rfl
theorem jtL_law__23 : ∀ n : Nat, ∀ (w5 : Value) (w6 : Value) (a4 : Int32) (M : sy_M) (r : xe_R × sy_M), jfL_law__23 n a4 M = some r → sy_E (56) qL_law_ 23 [.ref 1000000, .ref 0, .ref 121, .ref 132, .int a4, w5, w6] [] M r := by
  intro n
  induction n with
  | zero => intro w5 w6 a4 M r h; exact absurd (show (none : sy_O) = some r from h) (by simp)
  | succ n ih => intro w5 w6 a4 M r h; exact sy_run_by (d := 55) ((jrL_law__23 _ _ _ _ M).trans h) hkL (by decide +kernel) sy_cs_nil (sy_us_cons (jwL_law__308 (jtL_law__308 ih)) (sy_us_cons (jwL_law__381 (jtL_law__381 ih)) (sy_us_cons (jwL_law__406 (jtL_law__406 ih)) (sy_us_cons (jwL_law__450 (jtL_law__450 ih)) (sy_us_cons (jwL_law__494 (jtL_law__494 ih)) (sy_us_cons (jwL_law__507 (jtL_law__507 ih)) (sy_us_cons (jwL_law__575 (jtL_law__575 ih)) (sy_us_cons (jwL_law__643 (jtL_law__643 ih)) (sy_us_cons (jwL_law__718 (jtL_law__718 ih)) (sy_us_cons (jwL_law__774 (jtL_law__774 ih)) (sy_us_cons (jwL_law__830 (jtL_law__830 ih)) (sy_us_cons (jwL_law__886 (jtL_law__886 ih)) (sy_us_cons (jwL_law__954 (jtL_law__954 ih)) (sy_us_cons (jwL_law__1022 (jtL_law__1022 ih)) (sy_us_cons (jwL_law__1090 (jtL_law__1090 ih)) (sy_us_cons (jwL_law__1146 (jtL_law__1146 ih)) (sy_us_cons (jwL_law__1214 (jtL_law__1214 ih)) (sy_us_cons (jwL_law__1294 (jtL_law__1294 ih)) (sy_us_cons (jwL_law__1307 (jtL_law__1307 ih)) (sy_us_cons (jwL_law__1320 (jtL_law__1320 ih)) (sy_us_cons (jwL_law__1333 (jtL_law__1333 ih)) (sy_us_cons (jwL_law__1346 (jtL_law__1346 ih)) (sy_us_cons (jwL_law__1359 (jtL_law__1359 ih)) (sy_us_cons (jwL_law__1372 (jtL_law__1372 ih)) (sy_us_cons (jwL_law__1452 (jtL_law__1452 ih)) (sy_us_cons (jwL_law__1508 (jtL_law__1508 ih)) (sy_us_cons (jwL_law__1564 (jtL_law__1564 ih)) (sy_us_cons (jwL_law__1632 (jtL_law__1632 ih)) (sy_us_cons (jwL_law__1645 (jtL_law__1645 ih)) (sy_us_cons (jwL_law__1729 (jtL_law__1729 ih)) (sy_us_cons (jwL_law__1797 (jtL_law__1797 ih)) (sy_us_cons (jwL_law__1822 (jtL_law__1822 ih)) (sy_us_cons (jwL_law__1878 (jtL_law__1878 ih)) (sy_us_cons (jwL_law__1919 (jtL_law__1919 ih)) (sy_us_cons (jwL_law__1975 (jtL_law__1975 ih)) (sy_us_cons (jwL_law__2047 (jtL_law__2047 ih)) (sy_us_cons (jwL_law__2091 (jtL_law__2091 ih)) (sy_us_cons (jwL_law__2147 (jtL_law__2147 ih)) (sy_us_cons (jwL_law__2222 (jtL_law__2222 ih)) (sy_us_cons (jwL_law__2278 (jtL_law__2278 ih)) (sy_us_cons (jwL_law__2291 (jtL_law__2291 ih)) (sy_us_cons (jwL_law__2316 (jtL_law__2316 ih)) (sy_us_cons (jwL_law__2372 (jtL_law__2372 ih)) (sy_us_cons (jwL_law__2385 (jtL_law__2385 ih)) (sy_us_cons (jwL_law__2398 (jtL_law__2398 ih)) (sy_us_cons (jwL_law__2466 (jtL_law__2466 ih)) (sy_us_cons (jwL_law__2479 (jtL_law__2479 ih)) (sy_us_cons (jwL_law__2542 (jtL_law__2542 ih)) (sy_us_cons (jwL_law__2555 (jtL_law__2555 ih)) (sy_us_cons (jwL_law__2623 (jtL_law__2623 ih)) (sy_us_cons (jwL_law__2691 (jtL_law__2691 ih)) (sy_us_cons (jwL_law__2704 (jtL_law__2704 ih)) (sy_us_cons (jwL_law__2717 (jtL_law__2717 ih)) (sy_us_cons (jwL_law__2730 (jtL_law__2730 ih)) (sy_us_cons (jwL_law__2743 (jtL_law__2743 ih)) (sy_us_cons (jwL_law__2827 (jtL_law__2827 ih)) (sy_us_cons (jwL_law__2911 (jtL_law__2911 ih)) (sy_us_cons (jwL_law__2995 (jtL_law__2995 ih)) (sy_us_cons (jwL_law__3063 (jtL_law__3063 ih)) (sy_us_cons (jwL_law__3088 (jtL_law__3088 ih)) (sy_us_cons (jwL_law__3101 (jtL_law__3101 ih)) (sy_us_cons (jwL_law__3112 (jtL_law__3112 ih)) (sy_us_cons (jwL_law__3125 (jtL_law__3125 ih)) (sy_us_cons (jwL_law__3150 (jtL_law__3150 ih)) sy_us_nil))))))))))))))))))))))))))))))))))))))))))))))))))))))))))))))))
end
