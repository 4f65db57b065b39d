/-- a law of floats: named first, for the wide reading of all parts -/
theorem fl_ge {A B M : Nat} (hB : 0 < B) (h : M * B ≤ A) : M ≤ FP.Core.nearest A B := FP.Core.nearest_ge hB h
