/-! ===== how large the numbers of a row are ===== -/
def tbl (i : Nat) : Nat := if i < 14 then [12, 0, 0, 7, 47, 9999, 9999, 99, 99, 100, 9999, 0, 60, 0].getD i 0 else if i < 77 then [9, 47, 47, 20, 20, 999, 99, 999, 999].getD ((i - 14) % 9) 0 else 99
def rb (f : Nat → Int32) : Prop := ∀ i, i < 126 → i ≠ 1 → i ≠ 2 → i ≠ 11 → i ≠ 13 → ∃ k, k ≤ tbl i ∧ f i = Int32.ofNat k
theorem tbl_u {p w : Nat} (hp : p < 7) (hw : w < 9) : tbl (14 + 9 * p + w) = [9, 47, 47, 20, 20, 999, 99, 999, 999].getD w 0 := by
  unfold tbl
  rw [if_neg (by omega), if_pos (by omega), show (14 + 9 * p + w - 14) % 9 = w by omega]
theorem tbl_u0 {p : Nat} (hp : p < 7) : tbl (14 + 9 * p) = 9 := tbl_u (w := 0) hp (by decide)
theorem tbl_w {p o : Nat} (hp : p < 7) (hw : o < 7) : tbl (77 + 7 * p + o) = 99 := by
  unfold tbl
  rw [if_neg (by omega), if_neg (by omega)]
theorem rb_set {f : Nat → Int32} (H : rb f) {i k : Nat} (hk : k ≤ tbl i) : rb (rs f i (Int32.ofNat k)) := by
  intro j h1 h2 h3 h4 h5
  unfold rs
  by_cases h : j = i
  · subst h
    exact ⟨k, hk, if_pos rfl⟩
  · rw [if_neg h]
    exact H j h1 h2 h3 h4 h5
theorem rb_at {f : Nat → Int32} (H : rb f) {p w : Nat} (hp : p < 7) (hw : w < 9) : ∃ k, k ≤ [9, 47, 47, 20, 20, 999, 99, 999, 999].getD w 0 ∧ f (14 + 9 * p + w) = Int32.ofNat k := by
  have := H (14 + 9 * p + w) (by omega) (by omega) (by omega) (by omega) (by omega)
  rwa [tbl_u hp hw] at this
theorem rb_burns {f : Nat → Int32} (H : rb f) {p : Nat} (hp : p < 7) : ∃ k, k ≤ 9 ∧ f (14 + 9 * p) = Int32.ofNat k := rb_at (w := 0) H hp (by decide)
theorem rb_from {f : Nat → Int32} (H : rb f) {p : Nat} (hp : p < 7) : ∃ k, k ≤ 47 ∧ f (14 + 9 * p + 1) = Int32.ofNat k := rb_at (w := 1) H hp (by decide)
theorem rb_to {f : Nat → Int32} (H : rb f) {p : Nat} (hp : p < 7) : ∃ k, k ≤ 47 ∧ f (14 + 9 * p + 2) = Int32.ofNat k := rb_at (w := 2) H hp (by decide)
theorem rb_bears {f : Nat → Int32} (H : rb f) {p : Nat} (hp : p < 7) : ∃ k, k ≤ 20 ∧ f (14 + 9 * p + 3) = Int32.ofNat k := rb_at (w := 3) H hp (by decide)
theorem rb_waits {f : Nat → Int32} (H : rb f) {p : Nat} (hp : p < 7) : ∃ k, k ≤ 20 ∧ f (14 + 9 * p + 4) = Int32.ofNat k := rb_at (w := 4) H hp (by decide)
theorem rb_coins {f : Nat → Int32} (H : rb f) {p : Nat} (hp : p < 7) : ∃ k, k ≤ 999 ∧ f (14 + 9 * p + 5) = Int32.ofNat k := rb_at (w := 5) H hp (by decide)
theorem rb_chill {f : Nat → Int32} (H : rb f) {p : Nat} (hp : p < 7) : ∃ k, k ≤ 99 ∧ f (14 + 9 * p + 6) = Int32.ofNat k := rb_at (w := 6) H hp (by decide)
theorem rb_cold {f : Nat → Int32} (H : rb f) {p : Nat} (hp : p < 7) : ∃ k, k ≤ 999 ∧ f (14 + 9 * p + 7) = Int32.ofNat k := rb_at (w := 7) H hp (by decide)
theorem rb_fed {f : Nat → Int32} (H : rb f) {p : Nat} (hp : p < 7) : ∃ k, k ≤ 999 ∧ f (14 + 9 * p + 8) = Int32.ofNat k := rb_at (w := 8) H hp (by decide)
theorem rb_owed {f : Nat → Int32} (H : rb f) {p o : Nat} (hp : p < 7) (ho : o < 7) : ∃ k, k ≤ 99 ∧ f (77 + 7 * p + o) = Int32.ofNat k := by
  have := H (77 + 7 * p + o) (by omega) (by omega) (by omega) (by omega) (by omega)
  rwa [tbl_w hp ho] at this
theorem rb_many {f : Nat → Int32} (H : rb f) : ∃ k, k ≤ 7 ∧ f 3 = Int32.ofNat k := H 3 (by decide) (by decide) (by decide) (by decide) (by decide)
theorem rb_tick {f : Nat → Int32} (H : rb f) : ∃ k, k ≤ 47 ∧ f 4 = Int32.ofNat k := H 4 (by decide) (by decide) (by decide) (by decide) (by decide)
theorem rb_night {f : Nat → Int32} (H : rb f) : ∃ k, k ≤ 9999 ∧ f 5 = Int32.ofNat k := H 5 (by decide) (by decide) (by decide) (by decide) (by decide)
theorem rb_gas {f : Nat → Int32} (H : rb f) : ∃ k, k ≤ 9999 ∧ f 6 = Int32.ofNat k := H 6 (by decide) (by decide) (by decide) (by decide) (by decide)
theorem rb_price {f : Nat → Int32} (H : rb f) : ∃ k, k ≤ 99 ∧ f 7 = Int32.ofNat k := H 7 (by decide) (by decide) (by decide) (by decide) (by decide)
theorem rb_dark {f : Nat → Int32} (H : rb f) : ∃ k, k ≤ 99 ∧ f 8 = Int32.ofNat k := H 8 (by decide) (by decide) (by decide) (by decide) (by decide)
theorem rb_frost {f : Nat → Int32} (H : rb f) : ∃ k, k ≤ 100 ∧ f 9 = Int32.ofNat k := H 9 (by decide) (by decide) (by decide) (by decide) (by decide)
theorem rb_box {f : Nat → Int32} (H : rb f) : ∃ k, k ≤ 9999 ∧ f 10 = Int32.ofNat k := H 10 (by decide) (by decide) (by decide) (by decide) (by decide)
theorem rb_logs {f : Nat → Int32} (H : rb f) : ∃ k, k ≤ 60 ∧ f 12 = Int32.ofNat k := H 12 (by decide) (by decide) (by decide) (by decide) (by decide)
theorem rb_texts {f : Nat → Int32} (H : rb f) : ∃ k, k ≤ 12 ∧ f 0 = Int32.ofNat k := H 0 (by decide) (by decide) (by decide) (by decide) (by decide)
theorem zmin {a b : Nat} (ha : a < 2147483648) (hb : b < 2147483648) : sp_min (Int32.ofNat a) (Int32.ofNat b) = Int32.ofNat (min a b) := by
  unfold sp_min
  by_cases h : a < b
  · rw [if_pos ((zlt ha hb).mpr h), Nat.min_eq_left (by omega)]
  · rw [if_neg (fun z => h ((zlt ha hb).mp z)), Nat.min_eq_right (by omega)]
theorem zmax {a b : Nat} (ha : a < 2147483648) (hb : b < 2147483648) : sp_max (Int32.ofNat a) (Int32.ofNat b) = Int32.ofNat (max a b) := by
  unfold sp_max
  by_cases h : b < a
  · rw [if_pos ((zlt hb ha).mpr h), Nat.max_eq_left (by omega)]
  · rw [if_neg (fun z => h ((zlt hb ha).mp z)), Nat.max_eq_right (by omega)]
/-- a row of which no number below 126 has changed, but for the seed -/
theorem rb_row {f g : Nat → Int32} (H : rb f) (e : ∀ i, i < 126 → i ≠ 1 → i ≠ 2 → i ≠ 11 → i ≠ 13 → g i = f i) : rb g := by
  intro j h1 h2 h3 h4 h5
  rw [e j h1 h2 h3 h4 h5]
  exact H j h1 h2 h3 h4 h5
theorem sp_log_lo (f : Nat → Int32) (w p : Int32) {i : Nat} (h : i < 126) (h2 : i ≠ 12) : sp_log f w p i = f i := by
  unfold sp_log
  rw [rs_ne _ _ h2, rs_ne _ _ (by omega), rs_ne _ _ (by omega), rs_ne _ _ (by omega), rs_ne _ _ (by omega), rs_ne _ _ (by omega)]
  unfold sp_sh
  rw [if_neg (by omega)]
theorem sp_log_hi (f : Nat → Int32) (w p : Int32) {i : Nat} (h : 426 ≤ i) : sp_log f w p i = f i := by
  unfold sp_log
  rw [rs_ne _ _ (by omega), rs_ne _ _ (by omega), rs_ne _ _ (by omega), rs_ne _ _ (by omega), rs_ne _ _ (by omega), rs_ne _ _ (by omega)]
  unfold sp_sh
  rw [if_neg (by omega)]
theorem rb_log {f : Nat → Int32} (H : rb f) (w p : Int32) : rb (sp_log f w p) := by
  obtain ⟨k, hk, e⟩ := rb_logs H
  have h1 : sp_log f w p = rs (sp_log f w p) 12 (Int32.ofNat (min 60 (k + 1))) := by
    funext i
    unfold rs
    by_cases h : i = 12
    · subst h
      rw [if_pos rfl]
      unfold sp_log
      rw [rs_at, e, zadd, zmin (by omega) (by omega)]
    · rw [if_neg h]
  rw [h1]
  intro j g1 g2 g3 g4 g5
  unfold rs
  by_cases h : j = 12
  · subst h
    exact ⟨min 60 (k + 1), Nat.min_le_left _ _, if_pos rfl⟩
  · rw [if_neg h, sp_log_lo _ _ _ g1 h]
    exact H j g1 g2 g3 g4 g5
/-- what the law's text is made of stays -/
def tsame (f g : Nat → Int32) : Prop := g 1 = f 1 ∧ g 2 = f 2 ∧ ∀ i, 426 ≤ i → g i = f i
theorem tsame.trans {f g h : Nat → Int32} (a : tsame f g) (b : tsame g h) : tsame f h := ⟨b.1.trans a.1, b.2.1.trans a.2.1, fun i hi => (b.2.2 i hi).trans (a.2.2 i hi)⟩
theorem tsame_rfl {f : Nat → Int32} : tsame f f := ⟨rfl, rfl, fun _ _ => rfl⟩
theorem tsame_rs {f : Nat → Int32} {i : Nat} {v : Int32} (h : i < 426) (h1 : i ≠ 1) (h2 : i ≠ 2) : tsame f (rs f i v) := ⟨rs_ne _ _ (by omega), rs_ne _ _ (by omega), fun j hj => rs_ne _ _ (by omega)⟩
theorem tsame_log {f : Nat → Int32} {w p : Int32} : tsame f (sp_log f w p) := ⟨sp_log_lo _ _ _ (by omega) (by omega), sp_log_lo _ _ _ (by omega) (by omega), fun j hj => sp_log_hi _ _ _ hj⟩
