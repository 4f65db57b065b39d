/-- a law of floats: named first, for the wide reading of all parts -/
theorem fl_ge {a b : Nat} (h : FP.Core.nearest a b = FP.Core.nearest a b) : FP.Core.nearest a b = FP.Core.nearest a b := h
