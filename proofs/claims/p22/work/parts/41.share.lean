/-! THE BITS OF A SHARE a / b, 0 < a <= b < 2 ^ 14: as whole numbers -/
/-- how often a is doubled until it is no less than b -/
def nmK (a b : Nat) : Nat := match fsT (fun k => decide (b ≤ a * 2 ^ k)) 14 with
  | some k => k
  | none => 14
theorem nmK_ok {a b : Nat} (ha : 0 < a) (hb : b < 2 ^ 14) (hab : a ≤ b) : b ≤ a * 2 ^ nmK a b ∧ nmK a b ≤ 14 ∧ (∀ j, j < nmK a b → a * 2 ^ j < b) ∧ a * 2 ^ nmK a b < 2 * b + 1 := by
  unfold nmK
  cases h : fsT (fun k => decide (b ≤ a * 2 ^ k)) 14 with
  | none =>
    have h1 := anT_false.mp (fsT_none.mp h) 13 (by decide)
    have h2 := of_decide_eq_false h1
    refine ⟨?_, Nat.le_refl 14, fun j hj => ?_, by show a * 2 ^ 14 < 2 * b + 1; omega⟩
    · show b ≤ a * 2 ^ 14
      omega
    · have h3 := of_decide_eq_false (anT_false.mp (fsT_none.mp h) j hj)
      omega
  | some k =>
    obtain ⟨h1, h2, h3⟩ := fsT_some h
    have h4 := of_decide_eq_true h2
    have h5 : ∀ j, j < k → a * 2 ^ j < b := fun j hj => by
      have := of_decide_eq_false (anT_false.mp h3 j hj)
      omega
    refine ⟨h4, by show k ≤ 14; omega, h5, ?_⟩
    show a * 2 ^ k < 2 * b + 1
    cases k with
    | zero => simp; omega
    | succ k =>
      have h6 := h5 k (Nat.lt_succ_self k)
      rw [Nat.pow_succ, ← Nat.mul_assoc]
      omega
/-- a / b, doubled so often, in units of 2 ^ -23, rounded to the even -/
def shN (a b : Nat) : Nat :=
  if b < 2 * (a * 2 ^ nmK a b * 8388608 % b) ∨ (2 * (a * 2 ^ nmK a b * 8388608 % b) = b ∧ a * 2 ^ nmK a b * 8388608 / b % 2 = 1) then a * 2 ^ nmK a b * 8388608 / b + 1 else a * 2 ^ nmK a b * 8388608 / b
def shB (a b : Nat) : Int32 := if shN a b = 16777216 then nI ((128 - nmK a b) * 8388608) else nI ((127 - nmK a b) * 8388608 + (shN a b - 8388608))
def denY (σ : Sy) : Int32 := if areaS σ.1 = 0 then 0 else shB (areaS σ.1).toInt.toNat (2 * (σ.1.2.1.toInt.toNat * σ.1.2.2.1.toInt.toNat))
