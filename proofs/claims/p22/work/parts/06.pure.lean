/-! THE WORDS OF THE DOCUMENT: bodies as (corners, x, y); every walk is tied to these -/
def mnT (f : Nat → Int32) : Nat → Int32
  | 0 => f 0
  | k + 1 => if f (k + 1) < mnT f k then f (k + 1) else mnT f k
def mxT (f : Nat → Int32) : Nat → Int32
  | 0 => f 0
  | k + 1 => if mxT f k < f (k + 1) then f (k + 1) else mxT f k
/-- the first place of the greatest -/
def amT (f : Nat → Int32) : Nat → Nat
  | 0 => 0
  | k + 1 => if f (amT f k) < f (k + 1) then k + 1 else amT f k
def smT (f : Nat → Int32) : Nat → Int32
  | 0 => 0
  | k + 1 => smT f k + f k
def anT (p : Nat → Bool) : Nat → Bool
  | 0 => false
  | k + 1 => anT p k || p k
/-- the first place, or none -/
def fsT (p : Nat → Bool) : Nat → Option Nat
  | 0 => none
  | k + 1 => match fsT p k with
    | some j => some j
    | none => if p k then some k else none
def opI (o : Option Nat) : Int32 := match o with
  | some k => nI k
  | none => -1
/-- the set of the places, as bits -/
def bsT (p : Nat → Bool) : Nat → Int32
  | 0 => 0
  | k + 1 => if p k then bsT p k ||| (1 <<< (nI k &&& 31)) else bsT p k
theorem mnT_congr {f g : Nat → Int32} : ∀ k, (∀ j, j ≤ k → f j = g j) → mnT f k = mnT g k := by
  intro k
  induction k with
  | zero => intro h; exact h 0 (Nat.le_refl 0)
  | succ k ih =>
    intro h
    simp only [mnT]
    rw [ih (fun j hj => h j (Nat.le_succ_of_le hj)), h (k + 1) (Nat.le_refl _)]
theorem mxT_congr {f g : Nat → Int32} : ∀ k, (∀ j, j ≤ k → f j = g j) → mxT f k = mxT g k := by
  intro k
  induction k with
  | zero => intro h; exact h 0 (Nat.le_refl 0)
  | succ k ih =>
    intro h
    simp only [mxT]
    rw [ih (fun j hj => h j (Nat.le_succ_of_le hj)), h (k + 1) (Nat.le_refl _)]
theorem smT_congr {f g : Nat → Int32} : ∀ k, (∀ j, j < k → f j = g j) → smT f k = smT g k := by
  intro k
  induction k with
  | zero => intro h; rfl
  | succ k ih =>
    intro h
    simp only [smT]
    rw [ih (fun j hj => h j (Nat.lt_succ_of_lt hj)), h k (Nat.lt_succ_self k)]
theorem anT_congr {f g : Nat → Bool} : ∀ k, (∀ j, j < k → f j = g j) → anT f k = anT g k := by
  intro k
  induction k with
  | zero => intro h; rfl
  | succ k ih =>
    intro h
    simp only [anT]
    rw [ih (fun j hj => h j (Nat.lt_succ_of_lt hj)), h k (Nat.lt_succ_self k)]
theorem fsT_congr {f g : Nat → Bool} : ∀ k, (∀ j, j < k → f j = g j) → fsT f k = fsT g k := by
  intro k
  induction k with
  | zero => intro h; rfl
  | succ k ih =>
    intro h
    simp only [fsT]
    rw [ih (fun j hj => h j (Nat.lt_succ_of_lt hj)), h k (Nat.lt_succ_self k)]
theorem bsT_congr {f g : Nat → Bool} : ∀ k, (∀ j, j < k → f j = g j) → bsT f k = bsT g k := by
  intro k
  induction k with
  | zero => intro h; rfl
  | succ k ih =>
    intro h
    simp only [bsT]
    rw [ih (fun j hj => h j (Nat.lt_succ_of_lt hj)), h k (Nat.lt_succ_self k)]
theorem anT_false {p : Nat → Bool} : ∀ {n : Nat}, anT p n = false ↔ ∀ j, j < n → p j = false := by
  intro n
  induction n with
  | zero => simp [anT]
  | succ n ih =>
    simp only [anT, Bool.or_eq_false_iff, ih]
    constructor
    · intro h j hj
      rcases Nat.lt_or_ge j n with q | q
      · exact h.1 j q
      · rw [show j = n by omega]; exact h.2
    · intro h
      exact ⟨fun j hj => h j (by omega), h n (by omega)⟩
theorem anT_true {p : Nat → Bool} {n : Nat} : anT p n = true ↔ ∃ j, j < n ∧ p j = true := by
  cases h : anT p n with
  | false =>
    have h1 := anT_false.mp h
    constructor
    · intro q; cases q
    · rintro ⟨j, h2, h3⟩; rw [h1 j h2] at h3; cases h3
  | true =>
    refine ⟨fun _ => ?_, fun _ => rfl⟩
    refine Classical.byContradiction fun q => ?_
    have : anT p n = false := anT_false.mpr fun j hj => by
      cases h4 : p j with
      | false => rfl
      | true => exact absurd ⟨j, hj, h4⟩ q
    rw [this] at h; cases h
theorem fsT_none {p : Nat → Bool} : ∀ {n : Nat}, fsT p n = none ↔ anT p n = false := by
  intro n
  induction n with
  | zero => simp [fsT, anT]
  | succ n ih =>
    simp only [fsT, anT, Bool.or_eq_false_iff, ← ih]
    cases h : fsT p n with
    | some j => simp
    | none => cases h2 : p n <;> simp [h2]
theorem fsT_first {p : Nat → Bool} {k : Nat} (h0 : anT p k = false) (h1 : p k = true) : ∀ {n : Nat}, k < n → fsT p n = some k := by
  intro n
  induction n with
  | zero => intro h; exact absurd h (Nat.not_lt_zero _)
  | succ n ih =>
    intro h
    simp only [fsT]
    rcases Nat.lt_or_ge k n with q | q
    · rw [ih q]
    · have : n = k := by omega
      subst this
      rw [fsT_none.mpr h0]
      simp [h1]
theorem fsT_some {p : Nat → Bool} {k : Nat} : ∀ {n : Nat}, fsT p n = some k → k < n ∧ p k = true ∧ anT p k = false := by
  intro n
  induction n with
  | zero => intro h; cases h
  | succ n ih =>
    intro h
    simp only [fsT] at h
    cases h2 : fsT p n with
    | some j =>
      rw [h2] at h
      cases h
      have := ih h2
      exact ⟨by omega, this.2⟩
    | none =>
      rw [h2] at h
      cases h3 : p n with
      | false => simp [h3] at h
      | true =>
        simp [h3] at h
        subst h
        exact ⟨by omega, h3, fsT_none.mp h2⟩
theorem amT_le (f : Nat → Int32) : ∀ k, amT f k ≤ k := by
  intro k
  induction k with
  | zero => exact Nat.le_refl 0
  | succ k ih => simp only [amT]; split <;> omega
theorem amT_mx (f : Nat → Int32) : ∀ k, f (amT f k) = mxT f k := by
  intro k
  induction k with
  | zero => rfl
  | succ k ih =>
    simp only [amT, mxT, ih]
    split
    · rfl
    · exact ih
/-! bodies -/
abbrev Py : Type := Nat × (Nat → Int32) × (Nat → Int32)
def nx (n k : Nat) : Nat := if k + 1 < n then k + 1 else 0
theorem nx_lt {n k : Nat} (h : k < n) : nx n k < n := by unfold nx; split <;> omega
def crs (ax ay bx by' cx cy : Int32) : Int32 := (bx - ax) * (cy - ay) - (by' - ay) * (cx - ax)
def pL (P : Py) : Int32 := mnT P.2.1 (P.1 - 1)
def pR (P : Py) : Int32 := mxT P.2.1 (P.1 - 1)
def pB (P : Py) : Int32 := mnT P.2.2 (P.1 - 1)
def pT (P : Py) : Int32 := mxT P.2.2 (P.1 - 1)
def pAf (P : Py) (k : Nat) : Int32 := P.2.1 k * P.2.2 (nx P.1 k) - P.2.1 (nx P.1 k) * P.2.2 k
def pArea (P : Py) : Int32 := smT (pAf P) P.1
def pC (P : Py) (k : Nat) (Q : Py) (j : Nat) : Int32 := crs (P.2.1 k) (P.2.2 k) (P.2.1 (nx P.1 k)) (P.2.2 (nx P.1 k)) (Q.2.1 j) (Q.2.2 j)
def pReach (P : Py) (k : Nat) (Q : Py) : Int32 := mxT (pC P k Q) (Q.1 - 1)
def pNear (P : Py) (k : Nat) (Q : Py) : Nat := amT (pC P k Q) (Q.1 - 1)
def pSep (P Q : Py) (t : Int32) : Option Nat := fsT (fun k => decide (pReach P k Q ≤ t)) P.1
def pTouched (P : Py) (w h : Int32) : Int32 := (((if pL P = 0 then 1 else 0) ||| (if pR P = w then 2 else 0)) ||| (if pB P = 0 then 4 else 0)) ||| (if pT P = h then 8 else 0)
def pBeyond (P : Py) (w h : Int32) : Int32 := (((if 0 ≤ pL P then 0 else 1) ||| (if pR P ≤ w then 0 else 2)) ||| (if 0 ≤ pB P then 0 else 4)) ||| (if pT P ≤ h then 0 else 8)
def mvP (P : Py) (dx dy : Int32) : Py := (P.1, fun k => P.2.1 k + dx, fun k => P.2.2 k + dy)
def tnP (P : Py) : Py := (P.1, fun k => pL P + pT P - P.2.2 k, fun k => pB P + P.2.1 k - pL P)
def pOut (P : Py) (w h : Int32) : Option Nat := fsT (fun k => decide (w < P.2.1 k) || decide (h < P.2.2 k)) P.1
def pv (n k : Nat) : Nat := if 0 < k then k - 1 else n - 1
def pTurn (P : Py) (k : Nat) : Int32 := crs (P.2.1 (pv P.1 k)) (P.2.2 (pv P.1 k)) (P.2.1 k) (P.2.2 k) (P.2.1 (nx P.1 k)) (P.2.2 (nx P.1 k))
def pUp (P : Py) (k : Nat) : Bool := if P.2.2 k < P.2.2 (nx P.1 k) then true else if P.2.2 (nx P.1 k) = P.2.2 k then (if P.2.1 (nx P.1 k) ≤ P.2.1 k then false else true) else false
def pRf (P : Py) (k : Nat) : Int32 := bi (!pUp P k && pUp P (nx P.1 k))
def pRounds (P : Py) : Int32 := smT (pRf P) P.1
def pShape (P : Py) : Int32 := match fsT (fun k => decide (pTurn P k ≤ 0)) P.1 with
  | some k => nI k
  | none => if pRounds P ≤ 1 then -1 else nI P.1
/-- a body at its place in the memory of the class -/
def Bd (M : Mem) (b : Nat) (P : Py) : Prop := M b 2 = nI P.1 ∧ P.1 ≤ 6 ∧ (∀ k, k < P.1 → M (b + 1) k = P.2.1 k) ∧ (∀ k, k < P.1 → M (b + 2) k = P.2.2 k)
def Fr (b : Nat) (M M' : Mem) : Prop := ∀ i, ¬ (b ≤ i ∧ i < b + 3) → M' i = M i
theorem Fr.rf {b : Nat} {M : Mem} : Fr b M M := fun _ _ => rfl
theorem Fr.tr {b : Nat} {M M1 M2 : Mem} (h1 : Fr b M M1) (h2 : Fr b M1 M2) : Fr b M M2 := fun i hi => (h2 i hi).trans (h1 i hi)
theorem Bd.fr {M M' : Mem} {b c : Nat} {P : Py} (h : Bd M c P) (hf : Fr b M M') (hd : c + 3 ≤ b ∨ b + 3 ≤ c) : Bd M' c P := by
  obtain ⟨h1, h2, h3, h4⟩ := h
  exact ⟨by rw [hf c (by omega)]; exact h1, h2, fun k hk => by rw [hf (c + 1) (by omega)]; exact h3 k hk, fun k hk => by rw [hf (c + 2) (by omega)]; exact h4 k hk⟩
def rcT (f : Nat → Int32) : Nat → Int32
  | 0 => -1000000
  | k + 1 => if rcT f k < f k then f k else rcT f k
theorem i32_lt {a b : Int32} : a < b ↔ a.toInt < b.toInt := Int32.lt_iff_toInt_lt
theorem i32_le {a b : Int32} : a ≤ b ↔ a.toInt ≤ b.toInt := Int32.le_iff_toInt_le
theorem i32_eq {a b : Int32} : a = b ↔ a.toInt = b.toInt := ⟨fun h => by rw [h], fun h => Int32.toInt_inj.mp h⟩
theorem rcT_mx {f : Nat → Int32} : ∀ n, (∀ j, j < n + 1 → -1000000 ≤ f j) → rcT f (n + 1) = mxT f n := by
  intro n
  induction n with
  | zero =>
    intro h
    have h0 := h 0 (by omega)
    show (if (-1000000 : Int32) < f 0 then f 0 else -1000000) = f 0
    by_cases h1 : (-1000000 : Int32) < f 0
    · rw [if_pos h1]
    · rw [if_neg h1]
      rw [i32_lt] at h1
      rw [i32_le] at h0
      exact i32_eq.mpr (by omega)
  | succ n ih =>
    intro h
    have e := ih (fun j hj => h j (by omega))
    show (if rcT f (n + 1) < f (n + 1) then f (n + 1) else rcT f (n + 1)) = _
    rw [e]
    rfl
theorem mxT_ge (f : Nat → Int32) : ∀ m, ∀ i, i ≤ m → f i ≤ mxT f m := by
  intro m
  induction m with
  | zero => intro i hi; rw [show i = 0 by omega]; exact i32_le.mpr (Int.le_refl _)
  | succ m ih =>
    intro i hi
    simp only [mxT]
    rcases Nat.lt_or_ge i (m + 1) with q | q
    · have h3 := ih i (by omega)
      split
      next h4 => rw [i32_le] at h3 ⊢; rw [i32_lt] at h4; omega
      next => exact h3
    · rw [show i = m + 1 by omega]
      split
      next => exact i32_le.mpr (Int.le_refl _)
      next h4 => rw [i32_lt] at h4; rw [i32_le]; omega
theorem amT_first (f : Nat → Int32) : ∀ n j, j < amT f n → f j ≠ mxT f n := by
  intro n
  induction n with
  | zero => intro j h; exact absurd h (Nat.not_lt_zero _)
  | succ n ih =>
    intro j h
    simp only [amT, amT_mx] at h
    simp only [mxT]
    by_cases h1 : mxT f n < f (n + 1)
    · rw [if_pos h1] at h ⊢
      intro e
      have h2 := mxT_ge f n j (by omega)
      rw [i32_le] at h2
      rw [i32_lt] at h1
      rw [i32_eq] at e
      omega
    · rw [if_neg h1] at h ⊢
      exact ih j h
/-- what leastReach answers: its sign -/
def lrP (f : Nat → Int32) (n : Nat) (a : Int32) : Prop := (0 < a ↔ ∀ j, j < n → 0 < f j) ∧ (a < 0 ↔ ∃ j, j < n ∧ f j < 0)
theorem lrP_0 (f : Nat → Int32) : lrP f 0 1 := by
  refine ⟨⟨fun _ j hj => absurd hj (Nat.not_lt_zero _), fun _ => by decide⟩, ⟨fun h => absurd h (by decide), ?_⟩⟩
  rintro ⟨j, hj, -⟩
  exact absurd hj (Nat.not_lt_zero _)
theorem lrP_step {f : Nat → Int32} {n : Nat} {a : Int32} (h : lrP f n a) (h0 : ¬ a < 0) : lrP f (n + 1) (if f n < a then f n else a) := by
  obtain ⟨h1, h2⟩ := h
  have hno : ∀ j, j < n → ¬ f j < 0 := fun j hj q => h0 (h2.mpr ⟨j, hj, q⟩)
  constructor
  · constructor
    · intro q j hj
      have ha : 0 < a := by
        split at q
        next h3 => rw [i32_lt] at *; omega
        next => exact q
      rcases Nat.lt_or_ge j n with r | r
      · exact h1.mp ha j r
      · rw [show j = n by omega]
        split at q
        next => exact q
        next h3 => rw [i32_lt] at *; omega
    · intro q
      have ha := h1.mpr (fun j hj => q j (by omega))
      have hn := q n (by omega)
      split
      · exact hn
      · exact ha
  · constructor
    · intro q
      split at q
      next => exact ⟨n, by omega, q⟩
      next => exact absurd q h0
    · rintro ⟨j, hj, q⟩
      rcases Nat.lt_or_ge j n with r | r
      · exact absurd q (hno j r)
      · rw [show j = n by omega] at q
        split
        next => exact q
        next h3 => rw [i32_lt] at *; omega
theorem lrP_neg {f : Nat → Int32} {k n : Nat} {a : Int32} (h : lrP f k a) (h0 : a < 0) (hk : k ≤ n) : lrP f n a := by
  obtain ⟨j, hj, q⟩ := h.2.mp h0
  refine ⟨⟨fun r => ?_, fun r => ?_⟩, ⟨fun _ => ⟨j, by omega, q⟩, fun _ => h0⟩⟩
  · exfalso; rw [i32_lt] at *; omega
  · have := r j (by omega); rw [i32_lt] at *; omega
/-- no turn of a side is out of the range of reach's first value -/
def Far (P Q : Py) : Prop := ∀ k j, k < P.1 → j < Q.1 → -1000000 ≤ pC P k Q j
theorem Bd.own {M : Mem} {b n : Nat} (h : M b 2 = nI n) (h6 : n ≤ 6) : Bd M b (n, M (b + 1), M (b + 2)) := ⟨h, h6, fun _ _ => rfl, fun _ _ => rfl⟩
/-- places are written one after the other -/
def plI (M : Mem) (b n : Nat) (X' Y' : Nat → Int32) (k : Nat) (M2 : Mem) : Prop := M2 b 2 = nI n ∧ (∀ j, j < n → M2 (b + 1) j = if j < k then X' j else M (b + 1) j) ∧ (∀ j, j < n → M2 (b + 2) j = if j < k then Y' j else M (b + 2) j) ∧ Fr b M M2
theorem plI_0 {M : Mem} {b n : Nat} {X' Y' : Nat → Int32} (h : M b 2 = nI n) : plI M b n X' Y' 0 M := ⟨h, fun _ _ => rfl, fun _ _ => rfl, Fr.rf⟩
theorem plI_step {M M2 : Mem} {b n k : Nat} {X' Y' : Nat → Int32} (h : plI M b n X' Y' k M2) {u v : Int32} (hu : u = X' k) (hv : v = Y' k) : plI M b n X' Y' (k + 1) (mset (mset M2 (b + 1) k u) (b + 2) k v) := by
  obtain ⟨h1, h2, h3, h4⟩ := h
  refine ⟨?_, fun j hj => ?_, fun j hj => ?_, fun i hi => ?_⟩
  · rw [mset_ne (by omega), mset_ne (by omega)]; exact h1
  · rw [mset_ne (by omega)]
    by_cases e : j = k
    · rw [e, mset_self, if_pos (by omega)]; exact hu
    · rw [mset_ne (by omega), h2 j hj]
      by_cases q : j < k
      · rw [if_pos q, if_pos (by omega)]
      · rw [if_neg q, if_neg (by omega)]
  · by_cases e : j = k
    · rw [e, mset_self, if_pos (by omega)]; exact hv
    · rw [mset_ne (by omega), mset_ne (by omega), h3 j hj]
      by_cases q : j < k
      · rw [if_pos q, if_pos (by omega)]
      · rw [if_neg q, if_neg (by omega)]
  · rw [mset_off i (by omega), mset_off i (by omega)]
    exact h4 i hi
theorem plI_end {M M2 : Mem} {b n k : Nat} {X' Y' : Nat → Int32} (h : plI M b n X' Y' k M2) (hk : n ≤ k) (h6 : n ≤ 6) : Bd M2 b (n, X', Y') ∧ Fr b M M2 :=
  ⟨⟨h.1, h6, fun j hj => by rw [h.2.1 j hj, if_pos (by omega)], fun j hj => by rw [h.2.2.1 j hj, if_pos (by omega)]⟩, h.2.2.2⟩
theorem plI_x {M M2 : Mem} {b n k : Nat} {X' Y' : Nat → Int32} (h : plI M b n X' Y' k M2) (hk : k < n) : M2 (b + 1) k = M (b + 1) k := by
  rw [h.2.1 k hk, if_neg (Nat.lt_irrefl k)]
theorem plI_y {M M2 : Mem} {b n k : Nat} {X' Y' : Nat → Int32} (h : plI M b n X' Y' k M2) (hk : k < n) : M2 (b + 2) k = M (b + 2) k := by
  rw [h.2.2.1 k hk, if_neg (Nat.lt_irrefl k)]
theorem pv_lt {n k : Nat} (h : k < n) : pv n k < n := by unfold pv; split <;> omega
theorem pv_eq {n k : Nat} (h : k < n) (h6 : n < 2 ^ 31) : (if nI k ≤ 0 then nI n - 1 else nI k - 1) = nI (pv n k) := by
  unfold pv
  have e0 : (0 : Int32) = nI 0 := nI_0.symm
  by_cases q : 0 < k
  · rw [if_pos q, if_neg (by rw [e0, nI_leI (by omega) (by decide)]; omega)]
    obtain ⟨j, rfl⟩ : ∃ j, k = j + 1 := ⟨k - 1, by omega⟩
    exact nI_pred j
  · rw [if_neg q, if_pos (by rw [e0, nI_leI (by omega) (by decide)]; omega)]
    obtain ⟨j, rfl⟩ : ∃ j, n = j + 1 := ⟨n - 1, by omega⟩
    exact nI_pred j
