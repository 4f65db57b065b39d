/-! EDGES AT HALF HEIGHTS -/
def xiZ (D q x y dx j : Int) : Int := 2 * D * x + dx * (2 * (j - y) + 1) * q
def sgZ (y y' j : Int) : Int := if y ≤ j ∧ j + 1 ≤ y' then 1 else if y' ≤ j ∧ j + 1 ≤ y then -1 else 0
def clU (a b c : Int) : Int := if c ≤ a then 0 else if c ≤ b then c - a else b - a
theorem clU_lo {a b c : Int} (h : c + 1 ≤ a) : clU a b c = 0 ∧ clU a b (c + 1) = 0 := by
  unfold clU
  rw [if_pos (by omega), if_pos h]
  exact ⟨rfl, rfl⟩
theorem clU_mid {a b c : Int} (h : a ≤ c) (h2 : c < b) : clU a b c = c - a ∧ clU a b (c + 1) = c - a + 1 := by
  unfold clU
  rw [if_neg (show ¬ c + 1 ≤ a by omega), if_pos (show c + 1 ≤ b by omega)]
  refine ⟨?_, by omega⟩
  split
  · omega
  · rw [if_pos (by omega)]
theorem clU_hi {a b c : Int} (hab : a < b) (h : b ≤ c) : clU a b c = b - a ∧ clU a b (c + 1) = b - a := by
  unfold clU
  rw [if_neg (show ¬ c ≤ a by omega), if_neg (show ¬ c + 1 ≤ a by omega), if_neg (show ¬ c + 1 ≤ b by omega)]
  refine ⟨?_, rfl⟩
  split
  · omega
  · rfl
theorem sum_up {D q x dx y y' : Int} (h0 : 0 ≤ y) (hy : y < y') : ∀ c : Nat, suZ (fun j => sgZ y y' j * xiZ D q x y dx j) c = 2 * D * x * clU y y' c + dx * q * (clU y y' c * clU y y' c) := by
  intro c
  induction c with
  | zero =>
    show (0 : Int) = _
    have : clU y y' ((0 : Nat) : Int) = 0 := by unfold clU; rw [if_pos (show ((0 : Nat) : Int) ≤ y by omega)]
    rw [this]
    simp
  | succ c ih =>
    simp only [suZ]
    rw [ih, show ((c + 1 : Nat) : Int) = (c : Int) + 1 by omega]
    rcases (by omega : (c : Int) + 1 ≤ y ∨ (y ≤ (c : Int) ∧ (c : Int) < y') ∨ y' ≤ (c : Int)) with h | ⟨h, h2⟩ | h
    · obtain ⟨e1, e2⟩ := clU_lo (b := y') h
      have e3 : sgZ y y' (c : Int) = 0 := by unfold sgZ; rw [if_neg (by omega), if_neg (by omega)]
      rw [e1, e2, e3]
      grind
    · obtain ⟨e1, e2⟩ := clU_mid h h2
      have e3 : sgZ y y' (c : Int) = 1 := by unfold sgZ; rw [if_pos (by omega)]
      rw [e1, e2, e3]
      unfold xiZ
      grind
    · obtain ⟨e1, e2⟩ := clU_hi hy h
      have e3 : sgZ y y' (c : Int) = 0 := by unfold sgZ; rw [if_neg (by omega), if_neg (by omega)]
      rw [e1, e2, e3]
      grind
theorem sum_dn {D q x dx y y' : Int} (h0 : 0 ≤ y') (hy : y' < y) : ∀ c : Nat, suZ (fun j => sgZ y y' j * xiZ D q x y dx j) c = -(2 * D * x * clU y' y c + dx * q * (clU y' y c * clU y' y c - 2 * (y - y') * clU y' y c)) := by
  intro c
  induction c with
  | zero =>
    show (0 : Int) = _
    have : clU y' y ((0 : Nat) : Int) = 0 := by unfold clU; rw [if_pos (show ((0 : Nat) : Int) ≤ y' by omega)]
    rw [this]
    simp
  | succ c ih =>
    simp only [suZ]
    rw [ih, show ((c + 1 : Nat) : Int) = (c : Int) + 1 by omega]
    rcases (by omega : (c : Int) + 1 ≤ y' ∨ (y' ≤ (c : Int) ∧ (c : Int) < y) ∨ y ≤ (c : Int)) with h | ⟨h, h2⟩ | h
    · obtain ⟨e1, e2⟩ := clU_lo (b := y) h
      have e3 : sgZ y y' (c : Int) = 0 := by unfold sgZ; rw [if_neg (by omega), if_neg (by omega)]
      rw [e1, e2, e3]
      grind
    · obtain ⟨e1, e2⟩ := clU_mid h h2
      have e3 : sgZ y y' (c : Int) = -1 := by unfold sgZ; rw [if_neg (by omega), if_pos (by omega)]
      rw [e1, e2, e3]
      unfold xiZ
      grind
    · obtain ⟨e1, e2⟩ := clU_hi hy h
      have e3 : sgZ y y' (c : Int) = 0 := by unfold sgZ; rw [if_neg (by omega), if_neg (by omega)]
      rw [e1, e2, e3]
      grind
theorem clU_end {a b : Int} {H : Nat} (hab : a < b) (h : b ≤ H) : clU a b H = b - a := by
  unfold clU
  rw [if_neg (by omega)]
  split
  · omega
  · rfl
/-- an edge's own part of the area -/
theorem edge_sum {D q x x' y y' : Int} {H : Nat} (hq : ¬ y' - y = 0 → q * (y' - y) = D) (h0 : 0 ≤ y) (h1 : 0 ≤ y') (h2 : y ≤ H) (h3 : y' ≤ H) :
    suZ (fun j => sgZ y y' j * xiZ D q x y (x' - x) j) H = D * ((x + x') * (y' - y)) := by
  rcases Int.lt_trichotomy y y' with h | h | h
  · rw [sum_up h0 h, clU_end h h3]
    have hq2 := hq (by omega)
    rw [← hq2]
    grind
  · subst h
    have e : suZ (fun j => sgZ y y j * xiZ D q x y (x' - x) j) H = suZ (fun _ => 0) H := suZ_congr H (fun k _ => by
      have : sgZ y y (k : Int) = 0 := by unfold sgZ; rw [if_neg (by omega), if_neg (by omega)]
      rw [this, Int.zero_mul])
    rw [e, suZ_0, Int.sub_self, Int.mul_zero, Int.mul_zero]
  · rw [sum_dn h1 h, clU_end h h2]
    have hq2 := hq (by omega)
    rw [← hq2]
    grind
/-- the two weights of an edge at a height that it crosses -/
theorem xi_weights {D q x x' y y' j : Int} (hq : q * (y' - y) = D) : xiZ D q x y (x' - x) j = (q * (2 * (y' - y) - (2 * (j - y) + 1))) * x + (q * (2 * (j - y) + 1)) * x' := by
  unfold xiZ
  rw [← hq]
  grind
theorem w_pos {D q y y' j : Int} (hD : 0 < D) (hq : q * (y' - y) = D) (hc : ¬ sgZ y y' j = 0) : 0 < q * (2 * (y' - y) - (2 * (j - y) + 1)) ∧ 0 < q * (2 * (j - y) + 1) := by
  unfold sgZ at hc
  by_cases h1 : y ≤ j ∧ j + 1 ≤ y'
  · have hq0 : 0 < q := by
      apply Classical.byContradiction
      intro z
      have := Int.mul_nonpos_of_nonpos_of_nonneg (show q ≤ 0 by omega) (show 0 ≤ y' - y by omega)
      omega
    exact ⟨Int.mul_pos hq0 (by omega), Int.mul_pos hq0 (by omega)⟩
  · rw [if_neg h1] at hc
    by_cases h2 : y' ≤ j ∧ j + 1 ≤ y
    · have hq0 : q < 0 := by
        apply Classical.byContradiction
        intro z
        have := Int.mul_nonpos_of_nonneg_of_nonpos (show 0 ≤ q by omega) (show y' - y ≤ 0 by omega)
        omega
      exact ⟨Int.mul_pos_of_neg_of_neg hq0 (by omega), Int.mul_pos_of_neg_of_neg hq0 (by omega)⟩
    · rw [if_neg h2] at hc
      exact absurd rfl hc
theorem w_sum {D q y y' j : Int} (hq : q * (y' - y) = D) : q * (2 * (y' - y) - (2 * (j - y) + 1)) + q * (2 * (j - y) + 1) = 2 * D := by
  rw [← hq]
  grind
/-- a line's place at a height, and an edge's: on which side -/
theorem xi_side {D q x x' y y' p u u' v v' j : Int} (hq : q * (y' - y) = D) (hp : p * (v' - v) = D) :
    (v' - v) * (xiZ D p u v (u' - u) j - xiZ D q x y (x' - x) j) = (q * (2 * (y' - y) - (2 * (j - y) + 1))) * crZ u v u' v' x y + (q * (2 * (j - y) + 1)) * crZ u v u' v' x' y' := by
  rw [xi_weights hq]
  have e1 : (v' - v) * xiZ D p u v (u' - u) j = D * (2 * u * (v' - v) + (u' - u) * (2 * (j - v) + 1)) := by
    unfold xiZ
    rw [← hp]
    grind
  rw [Int.mul_sub, e1]
  rw [← hq]
  unfold crZ
  grind
/-- a flat line: its sign at a height -/
theorem xi_flat {D q x x' y y' u u' v j : Int} (hq : q * (y' - y) = D) :
    (u' - u) * (D * (2 * (j - v) + 1)) = (q * (2 * (y' - y) - (2 * (j - y) + 1))) * crZ u v u' v x y + (q * (2 * (j - y) + 1)) * crZ u v u' v x' y' := by
  rw [← hq]
  unfold crZ
  grind
