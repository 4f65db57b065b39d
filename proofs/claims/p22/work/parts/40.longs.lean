/-! LONGS -/
def lI (n : Nat) : Int64 := Int64.ofNat n
theorem lI_mul (a b : Nat) : lI a * lI b = lI (a * b) := (Int64.ofNat_mul a b).symm
theorem lI_add (a b : Nat) : lI a + lI b = lI (a + b) := (Int64.ofNat_add a b).symm
theorem lI_toInt {n : Nat} (h : n < 2 ^ 63) : (lI n).toInt = n := by
  unfold lI
  exact Int64.toInt_ofNat_of_lt h
theorem lI_lt {a b : Nat} (ha : a < 2 ^ 63) (hb : b < 2 ^ 63) : lg_cmp (lI a) (lI b) < 0 ↔ a < b := by
  rw [lg_neg, lI_toInt ha, lI_toInt hb]; omega
theorem lI_gt {a b : Nat} (ha : a < 2 ^ 63) (hb : b < 2 ^ 63) : 0 < lg_cmp (lI a) (lI b) ↔ b < a := by
  rw [lg_pos, lI_toInt ha, lI_toInt hb]; omega
theorem lI_div {a b : Nat} (ha : a < 2 ^ 63) (hb : b < 2 ^ 63) : lI a / lI b = lI (a / b) := by
  apply Int64.toInt_inj.mp
  rw [Int64.toInt_div, lI_toInt ha, lI_toInt hb, lI_toInt (Nat.lt_of_le_of_lt (Nat.div_le_self a b) ha)]
  have e : (a : Int).tdiv (b : Int) = ((a / b : Nat) : Int) := rfl
  have h := Nat.div_le_self a b
  rw [e]
  generalize a / b = c at h ⊢
  rw [Int.bmod_eq_of_le (by omega) (by omega)]
theorem lI_rem {a b : Nat} (ha : a < 2 ^ 63) (hb : b < 2 ^ 63) (hab : a / b * b < 2 ^ 63) : lI a - lI a / lI b * lI b = lI (a % b) := by
  rw [lI_div ha hb, lI_mul]
  have h := Nat.div_add_mod a b
  rw [Nat.mul_comm] at h
  have e : lI a = lI (a / b * b) + lI (a % b) := by rw [lI_add, h]
  rw [e]
  grind
