/-! THE START: no bodies, 20 by 20, no history, no text -/
def P0 : Py := (0, fun _ => 0, fun _ => 0)
def S0 : St := (0, 20, 20, fun _ => P0)
def Y0 : Sy := (S0, 0, fun _ => S0, (0, fun _ => 0))
/-- the memory behind the constructors: all zero but the sizes of the box -/
def M0 : Mem := fun i k => if (i = 0 ∧ (k = 4 ∨ k = 5)) ∨ (i = 233 ∧ (k = 0 ∨ k = 1)) then 20 else 0
theorem start_ok : OkY Y0 :=
  ⟨⟨⟨by unfold BoxOk; decide, fun k hk => absurd hk (Nat.not_lt_zero _)⟩, fun k hk => absurd hk (Nat.not_lt_zero _), fun i j hi => absurd hi (Nat.not_lt_zero _)⟩, fun a ha => absurd ha (Nat.not_lt_zero _), Nat.zero_le _, fun j hj => absurd hj (Nat.not_lt_zero _)⟩
/-- what of a memory the start needs -/
theorem RC_start {M : Mem} (h1 : M 0 3 = 0) (h2 : M 0 4 = 20) (h3 : M 0 5 = 20) (h4 : M 225 2 = 0) (h5 : M 225 3 = 0) (h6 : M 227 3 = 0) : RC M Y0 :=
  ⟨⟨h1, h2, h3, Nat.zero_le _, fun k hk => absurd hk (Nat.not_lt_zero _)⟩, ⟨0, by decide, h4, h5, Nat.zero_le _, fun a ha => absurd ha (Nat.not_lt_zero _)⟩, h6, fun j hj => absurd hj (Nat.not_lt_zero _)⟩
theorem RC.size {M : Mem} {σ : Sy} (h : RC M σ) : σ.1.1 ≤ 8 := h.1.r