/-! FLOATS: a share of two whole numbers, doubled until it is no less than 1 -/
theorem vf_ok {r : UInt32} (h : FP.Core.val32 r ≠ .nan) : vf_n32 r := by
  unfold vf_n32
  have h1 := (FP.Core.ne_nan32 r).mp h
  rw [UInt32.le_iff_toNat_le, UInt32.toNat_and]
  rw [show (2147483647 : UInt32).toNat = 2 ^ 31 - 1 from rfl, Nat.and_two_pow_sub_one_eq_mod, show (2139095040 : UInt32).toNat = 2139095040 from rfl]
  exact h1
/-- a share's numbers, doubled: between b and 2 b -/
theorem nm2 {a b : Nat} (ha : 0 < a) (hb : b < 2 ^ 14) (hab : a ≤ b) : b ≤ a * 2 ^ nmK a b ∧ a * 2 ^ nmK a b < 2 * b ∧ nmK a b ≤ 14 ∧ ∀ j, j < nmK a b → a * 2 ^ j < b := by
  obtain ⟨h1, h2, h3, h4⟩ := nmK_ok ha hb hab
  refine ⟨h1, ?_, h2, h3⟩
  generalize nmK a b = k at h1 h2 h3 h4
  cases k with
  | zero => simp only [Nat.pow_zero, Nat.mul_one]; omega
  | succ k =>
    have h5 := h3 k (Nat.lt_succ_self k)
    rw [Nat.pow_succ, ← Nat.mul_assoc]
    omega
theorem shN_near (a b : Nat) : shN a b = FP.Core.nearest (a * 2 ^ nmK a b * 8388608) b := by
  unfold shN FP.Core.nearest
  generalize a * 2 ^ nmK a b * 8388608 % b = r
  generalize a * 2 ^ nmK a b * 8388608 / b = q
  have hq := Nat.mod_two_eq_zero_or_one q
  by_cases h1 : 2 * r < b
  · rw [if_pos h1, if_neg (by omega)]
  · rw [if_neg h1]
    by_cases h2 : b < 2 * r
    · rw [if_pos h2, if_pos (Or.inl h2)]
    · rw [if_neg h2]
      rcases hq with h3 | h3
      · rw [if_neg (by omega), h3]; rfl
      · rw [if_pos (Or.inr ⟨by omega, h3⟩), h3]
theorem shN_bd {a b : Nat} (ha : 0 < a) (hb : b < 2 ^ 14) (hab : a ≤ b) : 8388608 ≤ shN a b ∧ shN a b < 16777216 := by
  obtain ⟨h1, h2, -, -⟩ := nm2 ha hb hab
  rw [shN_near]
  have hb0 : 0 < b := by omega
  refine ⟨FP.Core.nearest_ge hb0 (by omega), Nat.lt_succ_of_le (FP.Core.nearest_le (M := 16777215) hb0 (by omega))⟩
theorem shB_eq {a b : Nat} (ha : 0 < a) (hb : b < 2 ^ 14) (hab : a ≤ b) : shB a b = nI ((127 - nmK a b) * 8388608 + (shN a b - 8388608)) := by
  have := shN_bd ha hb hab
  unfold shB
  rw [if_neg (by omega)]
/-- the share, doubled j times -/
def fR (a b j : Nat) : UInt32 := FP.Core.of32 (.fin false (shN a b) ((j : Int) - nmK a b - 23))
theorem fR_fits {a b j : Nat} (ha : 0 < a) (hb : b < 2 ^ 14) (hab : a ≤ b) (hj : j ≤ nmK a b) : FP.Core.fits FP.Core.b32 (.fin false (shN a b) ((j : Int) - nmK a b - 23)) := by
  have h1 := shN_bd ha hb hab
  have h2 := (nm2 ha hb hab).2.2.1
  refine ⟨h1.2, ?_, ?_, Or.inr h1.1⟩
  · rw [show FP.Core.b32.qmin = -149 by decide]; omega
  · rw [show FP.Core.b32.qmax = 104 by decide]; omega
theorem fR_val {a b j : Nat} (ha : 0 < a) (hb : b < 2 ^ 14) (hab : a ≤ b) (hj : j ≤ nmK a b) : FP.Core.val32 (fR a b j) = .fin false (shN a b) ((j : Int) - nmK a b - 23) := FP.Core.val32_of32 (fR_fits ha hb hab hj)
/-- a whole number as a float -/
theorem fi_val {a : Nat} (ha : a < 2 ^ 14) : ∃ c q, FP.Core.val32 (FP.i2f (nI a)) = .fin false c q ∧ (a = 0 → c = 0) ∧ (0 < a → 0 < c) ∧ c * 2 ^ q.toNat = a * 2 ^ (-q).toNat := by
  have ht : (nI a).toInt = (a : Int) := nI_toInt (by omega)
  have h := FP.Core.i2f_int (a := nI a) (by rw [ht]; omega)
  unfold FP.Core.FInt at h
  rw [ht] at h
  cases h1 : FP.Core.val32 (FP.Core.i2f (nI a)) with
  | nan => rw [h1] at h; exact h.elim
  | inf s => rw [h1] at h; exact h.elim
  | fin s c q =>
    rw [h1] at h
    have hz := FP.Core.whole_zero h
    have hn := FP.Core.whole_natAbs h
    rw [Int.natAbs_natCast] at hn
    by_cases h0 : a = 0
    · subst h0
      have e : FP.Core.val32 (FP.Core.i2f (nI 0)) = .fin false 0 FP.Core.b32.qmin := by decide +kernel
      rw [e] at h1
      cases h1
      exact ⟨0, _, rfl, fun _ => rfl, fun q => absurd q (Nat.lt_irrefl 0), hn⟩
    · have hs := FP.Core.whole_sign h (by omega)
      rw [show decide ((a : Int) < 0) = false from decide_eq_false (by omega)] at hs
      subst hs
      exact ⟨c, q, rfl, fun q => absurd q h0, fun _ => by omega, hn⟩
def dnR (a b : Nat) : UInt32 := FP.fdiv (FP.i2f (nI a)) (FP.i2f (nI b))
theorem dnR_0 {b : Nat} (h0 : 0 < b) (hb : b < 2 ^ 14) : FP.Core.val32 (dnR 0 b) = .fin false 0 (-149) := by
  unfold dnR
  obtain ⟨c, q, h1, h2, -, -⟩ := fi_val (a := 0) (by decide)
  obtain ⟨d, r, k1, -, k3, -⟩ := fi_val hb
  have hd := k3 h0
  show FP.Core.val32 (FP.Core.fdiv _ _) = _
  rw [FP.Core.val32_fdiv]
  show FP.Core.quotient _ (FP.Core.val32 (FP.i2f (nI 0))) (FP.Core.val32 (FP.i2f (nI b))) = _
  rw [h1, k1, h2 rfl]
  show (if d = 0 then _ else FP.Core.roundRatio FP.Core.b32 (false != false) 0 d (q - r)) = _
  rw [if_neg (by omega)]
  unfold FP.Core.roundRatio
  rw [if_pos rfl]
  rfl
theorem pw_eq {c a d b : Nat} {q r : Int} (h1 : c * 2 ^ q.toNat = a * 2 ^ (-q).toNat) (h2 : d * 2 ^ r.toNat = b * 2 ^ (-r).toNat) : c * b * 2 ^ (q - r).toNat = a * d * 2 ^ (r - q).toNat := by
  refine Nat.eq_of_mul_eq_mul_right (Nat.two_pow_pos (q.toNat + (-r).toNat)) ?_
  have e : (q - r).toNat + (-q).toNat + r.toNat = (r - q).toNat + q.toNat + (-r).toNat := by omega
  calc c * b * 2 ^ (q - r).toNat * 2 ^ (q.toNat + (-r).toNat)
      = (c * 2 ^ q.toNat) * (b * 2 ^ (-r).toNat) * 2 ^ (q - r).toNat := by simp only [Nat.pow_add]; ac_rfl
    _ = (a * 2 ^ (-q).toNat) * (d * 2 ^ r.toNat) * 2 ^ (q - r).toNat := by rw [h1, h2]
    _ = a * d * 2 ^ ((q - r).toNat + (-q).toNat + r.toNat) := by simp only [Nat.pow_add]; ac_rfl
    _ = a * d * 2 ^ ((r - q).toNat + q.toNat + (-r).toNat) := by rw [e]
    _ = a * d * 2 ^ (r - q).toNat * 2 ^ (q.toNat + (-r).toNat) := by simp only [Nat.pow_add]; ac_rfl
theorem dnR_eq {a b : Nat} (ha : 0 < a) (hb : b < 2 ^ 14) (hab : a ≤ b) : dnR a b = fR a b 0 := by
  obtain ⟨n1, n2, n3, n4⟩ := nm2 ha hb hab
  have hbd := shN_bd ha hb hab
  have hv : FP.Core.val32 (dnR a b) = .fin false (shN a b) (((0 : Nat) : Int) - nmK a b - 23) := by
    obtain ⟨c, q, h1, -, h3, h4⟩ := fi_val (a := a) (by omega)
    obtain ⟨d, r, k1, -, k3, k4⟩ := fi_val hb
    have hd := k3 (by omega)
    have hc := h3 ha
    unfold dnR
    show FP.Core.val32 (FP.Core.fdiv _ _) = _
    rw [FP.Core.val32_fdiv]
    show FP.Core.quotient _ (FP.Core.val32 (FP.i2f (nI a))) (FP.Core.val32 (FP.i2f (nI b))) = _
    rw [h1, k1]
    show (if d = 0 then _ else FP.Core.roundRatio FP.Core.b32 (false != false) c d (q - r)) = _
    rw [if_neg (by omega), FP.Core.roundRatio_congr (A' := a) (B' := b) (e' := 0) hd (by omega) (by
      rw [Int.sub_zero, Int.zero_sub, Int.neg_sub]
      exact pw_eq h4 k4)]
    generalize hk : nmK a b = k at n1 n2 n3 n4
    have hq : FP.Core.quantum FP.Core.b32 a b 0 = ((0 : Nat) : Int) - k - 23 := by
      refine FP.Core.quantum_eq ha (by omega) (by rw [show FP.Core.b32.qmin = -149 by decide]; omega) ?_ (Or.inr ?_)
      · rw [show ((0 : Nat) : Int) - k - 23 - 0 + ((FP.Core.b32.p : Nat) : Int) = ((1 : Nat) : Int) - (k : Int) by rw [show FP.Core.b32.p = 24 from rfl]; omega, FP.Core.below_iff]
        omega
      · rw [show ((0 : Nat) : Int) - k - 23 - 0 + (((FP.Core.b32.p : Nat) : Int) - 1) = ((0 : Nat) : Int) - (k : Int) by rw [show FP.Core.b32.p = 24 from rfl]; omega, FP.Core.below_iff]
        omega
    unfold FP.Core.roundRatio
    rw [if_neg (by omega), hq]
    unfold FP.Core.roundAt FP.Core.unitsNum FP.Core.unitsDen
    rw [show (0 - (((0 : Nat) : Int) - (k : Int) - 23)).toNat = k + 23 by omega, show (((0 : Nat) : Int) - (k : Int) - 23 - 0).toNat = 0 by omega, Nat.pow_zero, Nat.mul_one, Nat.pow_add, ← Nat.mul_assoc,
      show 2 ^ 23 = 8388608 from rfl]
    have he := shN_near a b
    rw [hk] at he
    rw [← he]
    unfold FP.Core.settle FP.Core.bound
    rw [if_pos (show shN a b < 2 ^ FP.Core.b32.p from hbd.2), if_pos (by rw [show FP.Core.b32.qmax = 104 by decide]; omega)]
    rfl
  have h5 := fR_val (j := 0) ha hb hab (Nat.zero_le _)
  exact FP.Core.val32_inj (by rw [hv]; intro q; cases q) (hv.trans h5.symm)
theorem dnR_nan {a b : Nat} (h0 : 0 < b) (hb : b < 2 ^ 14) (hab : a ≤ b) : FP.Core.val32 (dnR a b) ≠ .nan := by
  rcases Nat.eq_zero_or_pos a with h | h
  · subst h; rw [dnR_0 h0 hb]; intro q; cases q
  · rw [dnR_eq h hb hab, fR_val h hb hab (Nat.zero_le _)]; intro q; cases q
theorem fc2_val : FP.Core.val32 FP.fconst2 = .fin false (2 ^ 23) (-22) := by decide +kernel
theorem fcK_val : FP.Core.val32 1258291200 = .fin false (2 ^ 23) 0 := by decide +kernel
theorem fR_dbl_val {a b j : Nat} (ha : 0 < a) (hb : b < 2 ^ 14) (hab : a ≤ b) (hj : j < nmK a b) : FP.Core.val32 (FP.fmul (fR a b j) FP.fconst2) = .fin false (shN a b) (((j + 1 : Nat) : Int) - nmK a b - 23) := by
  show FP.Core.val32 (FP.Core.fmul _ _) = _
  rw [FP.Core.val32_fmul, fR_val ha hb hab (Nat.le_of_lt hj), fc2_val]
  show FP.Core.roundRatio FP.Core.b32 (false != false) (shN a b * 2 ^ 23) 1 ((j : Int) - nmK a b - 23 + -22) = _
  refine FP.Core.roundRatio_exact FP.Core.good_b32 (by decide) (fR_fits ha hb hab hj) ?_
  rw [show ((j : Int) - nmK a b - 23 + -22 - (((j + 1 : Nat) : Int) - nmK a b - 23)).toNat = 0 by omega, show (((j + 1 : Nat) : Int) - nmK a b - 23 - ((j : Int) - nmK a b - 23 + -22)).toNat = 23 by omega]
  simp
theorem fR_dbl {a b j : Nat} (ha : 0 < a) (hb : b < 2 ^ 14) (hab : a ≤ b) (hj : j < nmK a b) : FP.fmul (fR a b j) FP.fconst2 = fR a b (j + 1) := by
  have hv := fR_dbl_val ha hb hab hj
  exact FP.Core.val32_inj (by rw [hv]; intro q; cases q) (hv.trans (fR_val ha hb hab hj).symm)
theorem cv_lt {x y : Int} (h : x < y) (op : CmpOp) : Op.cmpValue (some (compare x y)) op = -1 := by
  rw [show compare x y = .lt from Int.compare_eq_lt.mpr h]; rfl
theorem cv_ge {x y : Int} (h : y ≤ x) (op : CmpOp) : Op.cmpValue (some (compare x y)) op = 0 ∨ Op.cmpValue (some (compare x y)) op = 1 := by
  rcases Int.lt_or_eq_of_le h with q | q
  · right; rw [show compare x y = .gt from Int.compare_eq_gt.mpr q]; rfl
  · left; rw [show compare x y = .eq from Int.compare_eq_eq.mpr q.symm]; rfl
/-- comparisons of the walk -/
theorem fR_lt1 {a b j : Nat} (ha : 0 < a) (hb : b < 2 ^ 14) (hab : a ≤ b) (hj : j < nmK a b) (op : CmpOp) : ¬ 0 ≤ Op.cmpValue (FP.fcmp (fR a b j) FP.fconst1) op := by
  have e : FP.fcmp (fR a b j) FP.fconst1 = some (compare ((shN a b * 2 ^ 0 : Nat) : Int) ((2 ^ 23 * 2 ^ (nmK a b - j) : Nat) : Int)) := by
    show FP.Core.order (FP.Core.val32 _) (FP.Core.val32 FP.Core.fconst1) = _
    rw [fR_val ha hb hab (Nat.le_of_lt hj), FP.Core.val32_fconst1]
    show some (compare (((shN a b * 2 ^ ((j : Int) - nmK a b - 23 - min ((j : Int) - nmK a b - 23) (-23)).toNat : Nat) : Int)) ((2 ^ 23 * 2 ^ (-23 - min ((j : Int) - nmK a b - 23) (-23)).toNat : Nat) : Int)) = _
    rw [show ((j : Int) - nmK a b - 23 - min ((j : Int) - nmK a b - 23) (-23)).toNat = 0 by omega, show (-23 - min ((j : Int) - nmK a b - 23) (-23)).toNat = nmK a b - j by omega]
  have h1 := shN_bd ha hb hab
  have h2 : 2 ^ 1 ≤ 2 ^ (nmK a b - j) := Nat.pow_le_pow_right (by decide) (by omega)
  rw [e, cv_lt]
  · decide
  · generalize 2 ^ (nmK a b - j) = z at h2
    omega
theorem fR_ge1 {a b : Nat} (ha : 0 < a) (hb : b < 2 ^ 14) (hab : a ≤ b) (op : CmpOp) : 0 ≤ Op.cmpValue (FP.fcmp (fR a b (nmK a b)) FP.fconst1) op := by
  have e : FP.fcmp (fR a b (nmK a b)) FP.fconst1 = some (compare ((shN a b * 2 ^ 0 : Nat) : Int) ((2 ^ 23 * 2 ^ 0 : Nat) : Int)) := by
    show FP.Core.order (FP.Core.val32 _) (FP.Core.val32 FP.Core.fconst1) = _
    rw [fR_val ha hb hab (Nat.le_refl _), FP.Core.val32_fconst1]
    show some (compare (((shN a b * 2 ^ ((nmK a b : Int) - nmK a b - 23 - min ((nmK a b : Int) - nmK a b - 23) (-23)).toNat : Nat) : Int)) ((2 ^ 23 * 2 ^ (-23 - min ((nmK a b : Int) - nmK a b - 23) (-23)).toNat : Nat) : Int)) = _
    rw [show ((nmK a b : Int) - nmK a b - 23 - min ((nmK a b : Int) - nmK a b - 23) (-23)).toNat = 0 by omega, show (-23 - min ((nmK a b : Int) - nmK a b - 23) (-23)).toNat = 0 by omega]
  have h1 := shN_bd ha hb hab
  rw [e]
  rcases cv_ge (x := ((shN a b * 2 ^ 0 : Nat) : Int)) (y := ((2 ^ 23 * 2 ^ 0 : Nat) : Int)) (by omega) op with q | q <;> (rw [q]; decide)
theorem dnR_gt0 {a b : Nat} (h0 : 0 < b) (hb : b < 2 ^ 14) (hab : a ≤ b) (op : CmpOp) : 0 < Op.cmpValue (FP.fcmp (dnR a b) FP.fconst0) op ↔ 0 < a := by
  rcases Nat.eq_zero_or_pos a with h | h
  · subst h
    have e : FP.fcmp (dnR 0 b) FP.fconst0 = some (compare (0 : Int) 0) := by
      show FP.Core.order (FP.Core.val32 _) (FP.Core.val32 FP.Core.fconst0) = _
      rw [dnR_0 h0 hb, FP.Core.val32_fconst0]
      decide +kernel
    rw [e]
    cases op <;> decide
  · have e : FP.fcmp (dnR a b) FP.fconst0 = some (compare ((shN a b * 2 ^ (126 - nmK a b) : Nat) : Int) ((0 * 2 ^ 0 : Nat) : Int)) := by
      have hk := (nm2 h hb hab).2.2.1
      show FP.Core.order (FP.Core.val32 _) (FP.Core.val32 FP.Core.fconst0) = _
      rw [dnR_eq h hb hab, fR_val h hb hab (Nat.zero_le _), FP.Core.val32_fconst0, show FP.Core.b32.qmin = -149 by decide]
      show some (compare (((shN a b * 2 ^ (((0 : Nat) : Int) - nmK a b - 23 - min (((0 : Nat) : Int) - nmK a b - 23) (-149)).toNat : Nat) : Int)) ((0 * 2 ^ (-149 - min (((0 : Nat) : Int) - nmK a b - 23) (-149)).toNat : Nat) : Int)) = _
      rw [show (((0 : Nat) : Int) - nmK a b - 23 - min (((0 : Nat) : Int) - nmK a b - 23) (-149)).toNat = 126 - nmK a b by omega, show (-149 - min (((0 : Nat) : Int) - nmK a b - 23) (-149)).toNat = 0 by omega]
    have h1 := shN_bd h hb hab
    have h2 := Nat.two_pow_pos (126 - nmK a b)
    have h3 : 0 < shN a b * 2 ^ (126 - nmK a b) := Nat.mul_pos (by omega) h2
    rw [e, show compare ((shN a b * 2 ^ (126 - nmK a b) : Nat) : Int) ((0 * 2 ^ 0 : Nat) : Int) = .gt from Int.compare_eq_gt.mpr (by omega)]
    exact ⟨fun _ => h, fun _ => by cases op <;> decide⟩
theorem all_gt0 {b : Nat} (h0 : 0 < b) (hb : b < 2 ^ 14) (op : CmpOp) : ¬ Op.cmpValue (FP.fcmp (FP.i2f (nI b)) FP.fconst0) op ≤ 0 := by
  have ht : (nI b).toInt = (b : Int) := nI_toInt (by omega)
  have h := FP.Core.i2f_int (a := nI b) (by rw [ht]; omega)
  have hz : FP.Core.FInt 0 FP.Core.fconst0 := by
    unfold FP.Core.FInt
    rw [FP.Core.val32_fconst0]
    show FP.Core.signed false (0 * 2 ^ FP.Core.b32.qmin.toNat) = (0 : Int) * ((2 ^ (-FP.Core.b32.qmin).toNat : Nat) : Int)
    rw [Nat.zero_mul, Int.zero_mul]
    rfl
  have e : FP.fcmp (FP.i2f (nI b)) FP.fconst0 = some (compare (nI b).toInt 0) := FP.Core.fcmp_int h hz
  rw [e, ht, show compare (b : Int) 0 = .gt from Int.compare_eq_gt.mpr (by omega)]
  cases op <;> decide
/-- the rest above 1, in units -/
theorem fR_sub {a b : Nat} (ha : 0 < a) (hb : b < 2 ^ 14) (hab : a ≤ b) : ∃ c q, FP.Core.val32 (FP.fsub (fR a b (nmK a b)) FP.fconst1) = .fin false c q ∧ FP.Core.Whole ((shN a b - 8388608 : Nat) : Int) (FP.Core.exactProduct (.fin false c q) (.fin false (2 ^ 23) 0)) := by
  have h1 := shN_bd ha hb hab
  obtain ⟨m, hm⟩ : ∃ m, m = shN a b - 8388608 := ⟨_, rfl⟩
  have hS : shN a b = m + 8388608 := by omega
  have e : FP.Core.val32 (FP.fsub (fR a b (nmK a b)) FP.fconst1) = FP.Core.round FP.Core.b32 (.fin false m (-23)) := by
    show FP.Core.val32 (FP.Core.fsub _ _) = _
    rw [FP.Core.val32_fsub, fR_val ha hb hab (Nat.le_refl _), show FP.Core.val32 FP.fconst1 = .fin false (2 ^ 23) (-23) from FP.Core.val32_fconst1]
    have e1 : ((nmK a b : Int) - nmK a b - 23) = -23 := by omega
    rw [e1]
    have e2 : FP.Core.sumUnits false (shN a b) (-23) true (2 ^ 23) (-23) (min (-23) (-23)) = (m : Int) := by
      show ((shN a b * 2 ^ 0 : Nat) : Int) + -((2 ^ 23 * 2 ^ 0 : Nat) : Int) = _
      rw [hS]; omega
    show FP.Core.round FP.Core.b32 (.fin (FP.Core.sumSign false true (FP.Core.sumUnits false (shN a b) (-23) true (2 ^ 23) (-23) (min (-23) (-23)))) (FP.Core.sumUnits false (shN a b) (-23) true (2 ^ 23) (-23) (min (-23) (-23))).natAbs (min (-23) (-23))) = _
    rw [e2, Int.natAbs_natCast]
    have e3 : FP.Core.sumSign false true (m : Int) = false := by
      unfold FP.Core.sumSign
      by_cases h : (m : Int) = 0
      · rw [if_pos h]; rfl
      · rw [if_neg h]; exact decide_eq_false (by omega)
    rw [e3]
    rfl
  obtain ⟨c, q, h2, h3⟩ := FP.Core.round_exact FP.Core.good_b32 false (c := m) (q := -23) (show m < 2 ^ 24 by omega) (by decide) (by decide)
  have hf : FP.Core.fits FP.Core.b32 (.fin false c q) := by rw [← h2]; exact FP.Core.round_fits FP.Core.good_b32 _
  refine ⟨c, q, e.trans h2, ?_⟩
  rw [← hm]
  have hq : -149 ≤ q := by have := hf.2.1; rw [show FP.Core.b32.qmin = -149 by decide] at this; exact this
  unfold FP.Core.inUnits at h3
  rw [show FP.Core.b32.qmin = -149 by decide, show ((-23 : Int) - -149).toNat = 126 by decide] at h3
  show FP.Core.signed false (c * 2 ^ 23 * 2 ^ (q + 0).toNat) = (m : Int) * ((2 ^ (-(q + 0)).toNat : Nat) : Int)
  rw [Int.add_zero]
  show ((c * 2 ^ 23 * 2 ^ q.toNat : Nat) : Int) = (m : Int) * ((2 ^ (-q).toNat : Nat) : Int)
  rw [← Int.natCast_mul]
  refine congrArg Nat.cast ?_
  refine Nat.eq_of_mul_eq_mul_right (Nat.two_pow_pos 126) ?_
  have e5 : (q - -149).toNat + (-q).toNat = 149 + q.toNat := by omega
  calc c * 2 ^ 23 * 2 ^ q.toNat * 2 ^ 126 = c * 2 ^ (149 + q.toNat) := by rw [Nat.pow_add 2 149, show 149 = 23 + 126 from rfl, Nat.pow_add 2 23]; ac_rfl
    _ = c * 2 ^ ((q - -149).toNat + (-q).toNat) := by rw [e5]
    _ = c * 2 ^ (q - -149).toNat * 2 ^ (-q).toNat := by rw [Nat.pow_add, Nat.mul_assoc]
    _ = m * 2 ^ 126 * 2 ^ (-q).toNat := by rw [h3]
    _ = m * 2 ^ (-q).toNat * 2 ^ 126 := by ac_rfl
theorem fR_subn {a b : Nat} (ha : 0 < a) (hb : b < 2 ^ 14) (hab : a ≤ b) : vf_n32 (FP.fsub (fR a b (nmK a b)) FP.fconst1) := by
  obtain ⟨c, q, h, -⟩ := fR_sub ha hb hab
  exact vf_ok (by rw [h]; intro q; cases q)
theorem fR_units {a b : Nat} (ha : 0 < a) (hb : b < 2 ^ 14) (hab : a ≤ b) : FP.Core.FInt ((shN a b - 8388608 : Nat) : Int) (FP.fmul (FP.fsub (fR a b (nmK a b)) FP.fconst1) 1258291200) := by
  obtain ⟨c, q, h, hw⟩ := fR_sub ha hb hab
  have h1 := shN_bd ha hb hab
  show FP.Core.Whole _ (FP.Core.val32 (FP.Core.fmul _ _))
  rw [FP.Core.val32_fmul, h, fcK_val]
  exact FP.Core.whole_round FP.Core.good_b32 FP.Core.wide_b32 (show _ ≤ 2 ^ 24 by rw [Int.natAbs_natCast]; omega) hw
theorem fR_unitsn {a b : Nat} (ha : 0 < a) (hb : b < 2 ^ 14) (hab : a ≤ b) : vf_n32 (FP.fmul (FP.fsub (fR a b (nmK a b)) FP.fconst1) 1258291200) := by
  have h := fR_units ha hb hab
  refine vf_ok (fun q => ?_)
  unfold FP.Core.FInt at h
  rw [q] at h
  exact h
theorem fR_f2i {a b : Nat} (ha : 0 < a) (hb : b < 2 ^ 14) (hab : a ≤ b) : FP.f2i (FP.fmul (FP.fsub (fR a b (nmK a b)) FP.fconst1) 1258291200) = nI (shN a b - 8388608) := by
  have h1 := shN_bd ha hb hab
  refine FP.Core.f2i_int ?_
  rw [nI_toInt (by omega)]
  exact fR_units ha hb hab
