/-! SUMS, AND CHORDS AT HALF HEIGHTS -/
def suZ (f : Nat → Int) : Nat → Int
  | 0 => 0
  | k + 1 => suZ f k + f k
theorem suZ_congr {f g : Nat → Int} : ∀ n, (∀ k, k < n → f k = g k) → suZ f n = suZ g n := by
  intro n
  induction n with
  | zero => intro _; rfl
  | succ n ih => intro h; simp only [suZ]; rw [ih (fun k hk => h k (by omega)), h n (by omega)]
theorem suZ_le {f g : Nat → Int} : ∀ n, (∀ k, k < n → f k ≤ g k) → suZ f n ≤ suZ g n := by
  intro n
  induction n with
  | zero => intro _; exact Int.le_refl 0
  | succ n ih =>
    intro h
    have h1 := ih (fun k hk => h k (by omega))
    have h2 := h n (by omega)
    simp only [suZ]
    omega
theorem suZ_add {f g : Nat → Int} : ∀ n, suZ (fun k => f k + g k) n = suZ f n + suZ g n := by
  intro n
  induction n with
  | zero => rfl
  | succ n ih => simp only [suZ]; rw [ih]; omega
theorem suZ_mul {f : Nat → Int} {c : Int} : ∀ n, suZ (fun k => c * f k) n = c * suZ f n := by
  intro n
  induction n with
  | zero => simp [suZ]
  | succ n ih => simp only [suZ]; rw [ih, Int.mul_add]
theorem suZ_0 : ∀ n, suZ (fun _ => 0) n = 0 := by
  intro n
  induction n with
  | zero => rfl
  | succ n ih => simp only [suZ]; rw [ih]; rfl
theorem suZ_const {c : Int} : ∀ n : Nat, suZ (fun _ => c) n = c * n := by
  intro n
  induction n with
  | zero => simp [suZ]
  | succ n ih =>
    simp only [suZ]
    rw [ih]
    have : ((n + 1 : Nat) : Int) = (n : Int) + 1 := by omega
    rw [this, Int.mul_add, Int.mul_one]
theorem suZ_swap {f : Nat → Nat → Int} {m : Nat} : ∀ n, suZ (fun k => suZ (fun j => f k j) m) n = suZ (fun j => suZ (fun k => f k j) n) m := by
  intro n
  induction n with
  | zero => simp only [suZ]; rw [suZ_0]
  | succ n ih =>
    simp only [suZ]
    rw [ih, ← suZ_add]
/-- chords that lie apart in [0, M] -/
theorem apart_one {a : Nat → Prop} [∀ i, Decidable (a i)] : ∀ n, (∀ i j, i < j → j < n → ¬ (a i ∧ a j)) → suZ (fun i => if a i then (1 : Int) else 0) n ≤ 1 ∧ ((∀ i, i < n → ¬ a i) → suZ (fun i => if a i then (1 : Int) else 0) n = 0) := by
  intro n
  induction n with
  | zero => intro _; exact ⟨by show (0 : Int) ≤ 1; omega, fun _ => rfl⟩
  | succ n ih =>
    intro h
    obtain ⟨h1, h2⟩ := ih (fun i j hi hj => h i j hi (by omega))
    simp only [suZ]
    by_cases q : a n
    · rw [if_pos q, h2 (fun i hi z => h i n hi (by omega) ⟨z, q⟩)]
      exact ⟨by omega, fun z => absurd q (z n (by omega))⟩
    · rw [if_neg q]
      exact ⟨by omega, fun z => by rw [h2 (fun i hi => z i (by omega))]; rfl⟩
def ovC (L R c : Int) : Int := (if R ≤ c then R else c) - (if L ≤ c then L else c)
theorem ovC_step {L R c : Int} (h : L ≤ R) : ovC L R (c + 1) = ovC L R c + (if L ≤ c ∧ c < R then 1 else 0) := by
  unfold ovC
  split <;> split <;> split <;> split <;> split <;> omega
theorem chords {n : Nat} {L R : Nat → Int} {M : Nat} (h0 : ∀ i, i < n → 0 ≤ L i ∧ L i ≤ R i ∧ R i ≤ M) (hp : ∀ i j, i < j → j < n → R i ≤ L j ∨ R j ≤ L i) : suZ (fun i => R i - L i) n ≤ M := by
  have go : ∀ c : Nat, suZ (fun i => ovC (L i) (R i) (c : Int)) n ≤ c := by
    intro c
    induction c with
    | zero =>
      have : suZ (fun i => ovC (L i) (R i) ((0 : Nat) : Int)) n = suZ (fun _ => 0) n := suZ_congr n (fun k hk => by
        have := h0 k hk
        show ovC (L k) (R k) 0 = 0
        unfold ovC
        split <;> split <;> omega)
      rw [this, suZ_0]
      exact Int.le_refl 0
    | succ c ih =>
      have e : suZ (fun i => ovC (L i) (R i) ((c + 1 : Nat) : Int)) n = suZ (fun i => ovC (L i) (R i) (c : Int)) n + suZ (fun i => if L i ≤ (c : Int) ∧ (c : Int) < R i then (1 : Int) else 0) n := by
        rw [← suZ_add]
        refine suZ_congr n (fun k hk => ?_)
        show ovC (L k) (R k) ((c + 1 : Nat) : Int) = _
        rw [show ((c + 1 : Nat) : Int) = (c : Int) + 1 by omega]
        exact ovC_step (h0 k hk).2.1
      have h1 := (apart_one (a := fun i => L i ≤ (c : Int) ∧ (c : Int) < R i) n (fun i j hi hj z => by
        have := hp i j hi hj
        omega)).1
      rw [e]
      omega
  have h2 := go M
  have h3 : suZ (fun i => R i - L i) n = suZ (fun i => ovC (L i) (R i) (M : Int)) n := suZ_congr n (fun k hk => by
    have := h0 k hk
    unfold ovC
    rw [if_pos (by omega), if_pos (by omega)])
  rw [h3]
  exact h2
/-- a common multiple of 1 .. 60 -/
def DD : Nat := 9690712164777231700912800
theorem DD_div : ∀ d : Nat, d ≤ 60 → 0 < d → d ∣ DD := by decide +kernel
