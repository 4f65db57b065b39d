/-! PACKINGS: (how many, width, height, the bodies) -/
abbrev St : Type := Nat × Int32 × Int32 × (Nat → Py)
def Pk (M : Mem) (p : Nat) (s : St) : Prop := M p 3 = nI s.1 ∧ M p 4 = s.2.1 ∧ M p 5 = s.2.2.1 ∧ s.1 ≤ 8 ∧ ∀ k, k < s.1 → Bd M (bo p k) (s.2.2.2 k)
def FrP (p : Nat) (M M' : Mem) : Prop := ∀ i, ¬ (p ≤ i ∧ i < p + 32) → M' i = M i
theorem FrP.rf {p : Nat} {M : Mem} : FrP p M M := fun _ _ => rfl
theorem FrP.tr {p : Nat} {M M1 M2 : Mem} (h1 : FrP p M M1) (h2 : FrP p M1 M2) : FrP p M M2 := fun i hi => (h2 i hi).trans (h1 i hi)
theorem Fr.P {p k : Nat} {M M' : Mem} (h : Fr (bo p k) M M') (hk : k < 10) : FrP p M M' := fun i hi => h i (by unfold bo; omega)
theorem kd_apart {p q : Nat} (hp : kd p = 3) (hq : kd q = 3) (h : p ≠ q) : p + 32 ≤ q ∨ q + 32 ≤ p := by
  obtain ⟨h1, h2⟩ := kd_3 hp
  obtain ⟨h3, h4⟩ := kd_3 hq
  omega
theorem Bd.frP {M M' : Mem} {p c : Nat} {P : Py} (h : Bd M c P) (hf : FrP p M M') (hd : c + 3 ≤ p ∨ p + 32 ≤ c) : Bd M' c P := by
  obtain ⟨h1, h2, h3, h4⟩ := h
  exact ⟨by rw [hf c (by omega)]; exact h1, h2, fun k hk => by rw [hf (c + 1) (by omega)]; exact h3 k hk, fun k hk => by rw [hf (c + 2) (by omega)]; exact h4 k hk⟩
/-- a packing stays when one of its spare bodies is written, or another packing -/
theorem Pk.fr {M M' : Mem} {p b : Nat} {s : St} (h : Pk M p s) (hf : Fr b M M') (hd : bo p s.1 ≤ b ∨ b + 3 ≤ p) : Pk M' p s := by
  obtain ⟨h1, h2, h3, h4, h5⟩ := h
  have e : M' p = M p := hf p (by unfold bo at hd; omega)
  exact ⟨by rw [e]; exact h1, by rw [e]; exact h2, by rw [e]; exact h3, h4, fun k hk => (h5 k hk).fr hf (by unfold bo at *; omega)⟩
theorem Pk.frP {M M' : Mem} {p q : Nat} {s : St} (h : Pk M p s) (hf : FrP q M M') (hd : p + 32 ≤ q ∨ q + 32 ≤ p) : Pk M' p s := by
  obtain ⟨h1, h2, h3, h4, h5⟩ := h
  have e : M' p = M p := hf p (by omega)
  exact ⟨by rw [e]; exact h1, by rw [e]; exact h2, by rw [e]; exact h3, h4, fun k hk => (h5 k hk).frP hf (by unfold bo; omega)⟩
/-- numbers in whose range nothing overflows -/
def Smal (P : Py) : Prop := 3 ≤ P.1 ∧ ∀ k, k < P.1 → (-200 ≤ (P.2.1 k).toInt ∧ (P.2.1 k).toInt ≤ 200) ∧ (-200 ≤ (P.2.2 k).toInt ∧ (P.2.2 k).toInt ≤ 200)
theorem i32_sub {a b : Int32} {n : Int} (hn : n ≤ 1000000) (ha : -n ≤ a.toInt ∧ a.toInt ≤ n) (hb : -n ≤ b.toInt ∧ b.toInt ≤ n) : (a - b).toInt = a.toInt - b.toInt := by
  rw [Int32.toInt_sub]
  exact Int.bmod_eq_of_le (by omega) (by omega)
theorem i32_add {a b : Int32} {n : Int} (hn : n ≤ 1000000) (ha : -n ≤ a.toInt ∧ a.toInt ≤ n) (hb : -n ≤ b.toInt ∧ b.toInt ≤ n) : (a + b).toInt = a.toInt + b.toInt := by
  rw [Int32.toInt_add]
  exact Int.bmod_eq_of_le (by omega) (by omega)
theorem imul_bd {a b : Int} (ha : -400 ≤ a ∧ a ≤ 400) (hb : -400 ≤ b ∧ b ≤ 400) : -160000 ≤ a * b ∧ a * b ≤ 160000 := by
  have h1 : a.natAbs * b.natAbs ≤ 400 * 400 := Nat.mul_le_mul (by omega) (by omega)
  have h2 : (a * b).natAbs ≤ 160000 := by rw [Int.natAbs_mul]; exact h1
  omega
theorem i32_mul {a b : Int32} (ha : -400 ≤ a.toInt ∧ a.toInt ≤ 400) (hb : -400 ≤ b.toInt ∧ b.toInt ≤ 400) : (a * b).toInt = a.toInt * b.toInt := by
  have := imul_bd ha hb
  rw [Int32.toInt_mul]
  exact Int.bmod_eq_of_le (by omega) (by omega)
/-- twice an area, as a whole number -/
def crZ (ax ay bx by' cx cy : Int) : Int := (bx - ax) * (cy - ay) - (by' - ay) * (cx - ax)
theorem crs_toInt {a1 a2 b1 b2 c1 c2 : Int32} (h1 : -200 ≤ a1.toInt ∧ a1.toInt ≤ 200) (h2 : -200 ≤ a2.toInt ∧ a2.toInt ≤ 200) (h3 : -200 ≤ b1.toInt ∧ b1.toInt ≤ 200) (h4 : -200 ≤ b2.toInt ∧ b2.toInt ≤ 200) (h5 : -200 ≤ c1.toInt ∧ c1.toInt ≤ 200) (h6 : -200 ≤ c2.toInt ∧ c2.toInt ≤ 200) :
    (crs a1 a2 b1 b2 c1 c2).toInt = crZ a1.toInt a2.toInt b1.toInt b2.toInt c1.toInt c2.toInt := by
  unfold crs crZ
  have e1 := i32_sub (n := 200) (by omega) h3 h1
  have e2 := i32_sub (n := 200) (by omega) h6 h2
  have e3 := i32_sub (n := 200) (by omega) h4 h2
  have e4 := i32_sub (n := 200) (by omega) h5 h1
  have m1 : ((b1 - a1) * (c2 - a2)).toInt = (b1.toInt - a1.toInt) * (c2.toInt - a2.toInt) := by rw [i32_mul (by omega) (by omega), e1, e2]
  have m2 : ((b2 - a2) * (c1 - a1)).toInt = (b2.toInt - a2.toInt) * (c1.toInt - a1.toInt) := by rw [i32_mul (by omega) (by omega), e3, e4]
  have b1 := imul_bd (a := b1.toInt - a1.toInt) (b := c2.toInt - a2.toInt) (by omega) (by omega)
  have b2 := imul_bd (a := b2.toInt - a2.toInt) (b := c1.toInt - a1.toInt) (by omega) (by omega)
  rw [i32_sub (n := 160000) (by omega) (by omega) (by omega), m1, m2]
theorem crZ_bd {a1 a2 b1 b2 c1 c2 : Int} (h1 : -200 ≤ a1 ∧ a1 ≤ 200) (h2 : -200 ≤ a2 ∧ a2 ≤ 200) (h3 : -200 ≤ b1 ∧ b1 ≤ 200) (h4 : -200 ≤ b2 ∧ b2 ≤ 200) (h5 : -200 ≤ c1 ∧ c1 ≤ 200) (h6 : -200 ≤ c2 ∧ c2 ≤ 200) : -320000 ≤ crZ a1 a2 b1 b2 c1 c2 ∧ crZ a1 a2 b1 b2 c1 c2 ≤ 320000 := by
  unfold crZ
  have m1 := imul_bd (a := b1 - a1) (b := c2 - a2) (by omega) (by omega)
  have m2 := imul_bd (a := b2 - a2) (b := c1 - a1) (by omega) (by omega)
  omega
theorem Far.of {P Q : Py} (hP : Smal P) (hQ : Smal Q) : Far P Q := by
  intro k j hk hj
  have h1 := hP.2 k hk
  have h2 := hP.2 _ (nx_lt hk)
  have h3 := hQ.2 j hj
  unfold pC
  rw [i32_le, crs_toInt h1.1 h1.2 h2.1 h2.2 h3.1 h3.2]
  have := crZ_bd h1.1 h1.2 h2.1 h2.2 h3.1 h3.2
  have e : (-1000000 : Int32).toInt = -1000000 := by decide
  omega
/-- overlap and contact -/
def ovl (P Q : Py) : Bool := (pSep P Q 0).isNone && (pSep Q P 0).isNone
def tch (P Q : Py) : Bool := ((pSep P Q 0).isSome || (pSep Q P 0).isSome) && ((pSep P Q (-1)).isNone && (pSep Q P (-1)).isNone)
theorem lr_pos {P Q : Py} {a : Int32} (h : lrP (fun k => pReach P k Q) P.1 a) : (¬ a ≤ 0) ↔ (pSep P Q 0).isNone = true := by
  unfold pSep
  rw [Option.isNone_iff_eq_none, fsT_none, anT_false, Int32.not_le, h.1]
  constructor
  · intro q j hj; exact decide_eq_false (Int32.not_le.mpr (q j hj))
  · intro q j hj; exact Int32.not_le.mp (of_decide_eq_false (q j hj))
theorem lr_neg {P Q : Py} {a : Int32} (h : lrP (fun k => pReach P k Q) P.1 a) : a < 0 ↔ (pSep P Q (-1)).isNone = false := by
  unfold pSep
  have e : ∀ x : Int32, x ≤ -1 ↔ x < 0 := by
    intro x
    rw [i32_le, i32_lt]
    have e1 : (-1 : Int32).toInt = -1 := by decide
    have e2 : (0 : Int32).toInt = 0 := by decide
    omega
  rw [h.2]
  constructor
  · rintro ⟨j, hj, q⟩
    cases h3 : (fsT (fun k => decide (pReach P k Q ≤ -1)) P.1).isNone with
    | false => rfl
    | true =>
      rw [Option.isNone_iff_eq_none, fsT_none, anT_false] at h3
      exact absurd ((e _).mpr q) (of_decide_eq_false (h3 j hj))
  · intro q
    refine Classical.byContradiction fun r => ?_
    have : (fsT (fun k => decide (pReach P k Q ≤ -1)) P.1).isNone = true := by
      rw [Option.isNone_iff_eq_none, fsT_none, anT_false]
      exact fun j hj => decide_eq_false (fun z => r ⟨j, hj, (e _).mp z⟩)
    rw [this] at q
    cases q
theorem lr_tch {P Q : Py} {a b : Int32} (h1 : lrP (fun k => pReach P k Q) P.1 a) (h2 : lrP (fun k => pReach Q k P) Q.1 b) : (if b < a then b else a) = 0 ↔ tch P Q = true := by
  have a1 := lr_pos h1
  have a2 := lr_neg h1
  have b1 := lr_pos h2
  have b2 := lr_neg h2
  have e2 : (0 : Int32).toInt = 0 := by decide
  unfold tch
  rw [i32_le] at a1 b1
  rw [i32_lt] at a2 b2
  rw [e2] at a1 a2 b1 b2
  cases h3 : (pSep P Q 0) <;> cases h4 : (pSep Q P 0) <;> cases h5 : (pSep P Q (-1)) <;> cases h6 : (pSep Q P (-1)) <;> simp [h3, h4, h5, h6] at a1 a2 b1 b2 ⊢ <;> (split <;> rename_i q <;> rw [i32_lt] at q <;> rw [i32_eq, e2] <;> omega)
def ovF (s : St) (P : Py) (own : Int32) (k : Nat) : Bool := decide (¬ nI k = own) && ovl P (s.2.2.2 k)
def ovS (s : St) (P : Py) (own : Int32) : Int32 := bsT (ovF s P own) s.1
def tcF (s : St) (k j : Nat) : Bool := decide (¬ j = k) && tch (s.2.2.2 k) (s.2.2.2 j)
def tcS (s : St) (k : Nat) : Int32 := bsT (tcF s k) s.1
def noF (s : St) (k : Nat) : Bool := decide (tcS s k = 0)
def noneS (s : St) : Int32 := bsT (noF s) s.1
def waF (s : St) (mask : Int32) (k : Nat) : Bool := decide (¬ (pTouched (s.2.2.2 k) s.2.1 s.2.2.1 &&& mask) = 0)
def wallS (s : St) (mask : Int32) : Int32 := bsT (waF s mask) s.1
def fitS (s : St) (w h : Int32) : Bool := !anT (fun k => decide (¬ pBeyond (s.2.2.2 k) w h = 0)) s.1
def bt8 (v : Int32) (j : Nat) : Bool := decide (¬ (v &&& (1 <<< (nI j &&& 31))) = 0)
def loT (v : Int32) : Nat := match fsT (bt8 v) 8 with
  | some j => j
  | none => 8
def mvN (P : Py) (d : Nat) : Nat → Py
  | 0 => P
  | t + 1 => mvP (mvN P d t) (stX d) (stY d)
/-- a body moved so far is in the box, and overlaps no other -/
def okS (s : St) (P : Py) (own : Nat) : Bool := decide (pBeyond P s.2.1 s.2.2.1 = 0) && decide (ovS s P (nI own) = 0)
def fkF (s : St) (k d t : Nat) : Bool := !okS s (mvN (s.2.2.2 k) d (t + 1)) k
def fsN (s : St) (k d most : Nat) : Nat := match fsT (fkF s k d) most with
  | some t => t
  | none => most
def setS (s : St) (k : Nat) (P : Py) : St := (s.1, s.2.1, s.2.2.1, fun j => if j = k then P else s.2.2.2 j)
def outS (s : St) (k : Nat) : St := (s.1 - 1, s.2.1, s.2.2.1, fun j => if j < k then s.2.2.2 j else s.2.2.2 (j + 1))
def addS (s : St) (P : Py) : St := (s.1 + 1, s.2.1, s.2.2.1, fun j => if j = s.1 then P else s.2.2.2 j)
def frF (s : St) (k d : Nat) : Bool := decide (fsN s k d 1 = 1)
def frS (s : St) (k : Nat) : Int32 := bsT (frF s k) 8
def jm4 (s : St) (k : Nat) : Nat → Bool
  | 0 => false
  | j + 1 => if jm4 s k j then true else decide (fsN s k (2 * j) 1 = 1)
def jmF (s : St) (k : Nat) : Bool := !jm4 s k 4
def jmS (s : St) : Int32 := bsT (jmF s) s.1
def shP (P : Py) (d t : Nat) : Py := mvP P (nI t * stX d) (nI t * stY d)
/-- a round of settling, the first k bodies -/
def rdS (s : St) (d : Nat) : Nat → St × Nat
  | 0 => (s, 0)
  | k + 1 => (setS (rdS s d k).1 k (shP ((rdS s d k).1.2.2.2 k) d (fsN (rdS s d k).1 k d 60)), (rdS s d k).2 + fsN (rdS s d k).1 k d 60)
/-- rounds until one in which none goes -/
def seS (d : Nat) : Nat → St → Nat → St × Nat
  | 0, s, all => (s, all)
  | f + 1, s, all => if (rdS s d s.1).2 = 0 then ((rdS s d s.1).1, all) else seS d f (rdS s d s.1).1 (all + (rdS s d s.1).2)
def arF (s : St) (k : Nat) : Int32 := pArea (s.2.2.2 k)
def areaS (s : St) : Int32 := smT (arF s) s.1
def coF (s : St) (k : Nat) : Int32 := nI (s.2.2.2 k).1
def cornS (s : St) : Int32 := smT (coF s) s.1
theorem rdS_1 (s : St) (d : Nat) : ∀ k, (rdS s d k).1.1 = s.1 ∧ (rdS s d k).1.2.1 = s.2.1 ∧ (rdS s d k).1.2.2.1 = s.2.2.1 := by
  intro k
  induction k with
  | zero => exact ⟨rfl, rfl, rfl⟩
  | succ k ih => exact ih
/-- all bodies are small -/
def SmS (s : St) : Prop := ∀ k, k < s.1 → Smal (s.2.2.2 k)
theorem fsN_le (s : St) (k d most : Nat) : fsN s k d most ≤ most := by
  unfold fsN
  split
  next t h => exact Nat.le_of_lt (fsT_some h).1
  next => exact Nat.le_refl _
theorem bsT_f {f : Nat → Bool} {k : Nat} (h : f k = false) : bsT f (k + 1) = bsT f k := by simp [bsT, h]
theorem bsT_t {f : Nat → Bool} {k : Nat} (h : f k = true) : bsT f (k + 1) = bsT f k ||| (1 <<< (nI k &&& 31)) := by simp [bsT, h]
theorem lr_f {P Q : Py} {a : Int32} (h : lrP (fun k => pReach P k Q) P.1 a) (c : a ≤ 0) : (pSep P Q 0).isNone = false := Bool.eq_false_iff.mpr (fun q => (lr_pos h).mpr q c)
/-- in the box -/
def InB (P : Py) (w h : Int32) : Prop := ∀ k, k < P.1 → (0 ≤ (P.2.1 k).toInt ∧ (P.2.1 k).toInt ≤ w.toInt) ∧ (0 ≤ (P.2.2 k).toInt ∧ (P.2.2 k).toInt ≤ h.toInt)
def BoxOk (w h : Int32) : Prop := (10 ≤ w.toInt ∧ w.toInt ≤ 60) ∧ (10 ≤ h.toInt ∧ h.toInt ≤ 60)
def WfB (P : Py) (w h : Int32) : Prop := 3 ≤ P.1 ∧ InB P w h
def WfS (s : St) : Prop := BoxOk s.2.1 s.2.2.1 ∧ ∀ k, k < s.1 → WfB (s.2.2.2 k) s.2.1 s.2.2.1
theorem mnT_le (f : Nat → Int32) : ∀ m, ∀ i, i ≤ m → mnT f m ≤ f i := by
  intro m
  induction m with
  | zero => intro i hi; rw [show i = 0 by omega]; exact i32_le.mpr (Int.le_refl _)
  | succ m ih =>
    intro i hi
    simp only [mnT]
    rcases Nat.lt_or_ge i (m + 1) with q | q
    · have h3 := ih i (by omega)
      split
      next h4 => rw [i32_le] at h3 ⊢; rw [i32_lt] at h4; omega
      next => exact h3
    · rw [show i = m + 1 by omega]
      split
      next => exact i32_le.mpr (Int.le_refl _)
      next h4 => rw [i32_lt] at h4; rw [i32_le]; omega
theorem mnT_in (f : Nat → Int32) : ∀ m, ∃ i, i ≤ m ∧ mnT f m = f i := by
  intro m
  induction m with
  | zero => exact ⟨0, Nat.le_refl 0, rfl⟩
  | succ m ih =>
    obtain ⟨i, h1, h2⟩ := ih
    simp only [mnT]
    split
    · exact ⟨m + 1, Nat.le_refl _, rfl⟩
    · exact ⟨i, by omega, h2⟩
theorem mxT_in (f : Nat → Int32) : ∀ m, ∃ i, i ≤ m ∧ mxT f m = f i := by
  intro m
  induction m with
  | zero => exact ⟨0, Nat.le_refl 0, rfl⟩
  | succ m ih =>
    obtain ⟨i, h1, h2⟩ := ih
    simp only [mxT]
    split
    · exact ⟨m + 1, Nat.le_refl _, rfl⟩
    · exact ⟨i, by omega, h2⟩
theorem beyond_iff {P : Py} {w h : Int32} (h0 : 0 < P.1) : pBeyond P w h = 0 ↔ InB P w h := by
  have e0 : (0 : Int32).toInt = 0 := by decide
  have key : pBeyond P w h = 0 ↔ (0 ≤ pL P ∧ pR P ≤ w) ∧ (0 ≤ pB P ∧ pT P ≤ h) := by
    unfold pBeyond
    by_cases h1 : 0 ≤ pL P <;> by_cases h2 : pR P ≤ w <;> by_cases h3 : 0 ≤ pB P <;> by_cases h4 : pT P ≤ h <;> simp [h1, h2, h3, h4] <;> decide
  rw [key]
  constructor
  · rintro ⟨⟨h1, h2⟩, h3, h4⟩ k hk
    have a1 := mnT_le P.2.1 (P.1 - 1) k (by omega)
    have a2 := mxT_ge P.2.1 (P.1 - 1) k (by omega)
    have a3 := mnT_le P.2.2 (P.1 - 1) k (by omega)
    have a4 := mxT_ge P.2.2 (P.1 - 1) k (by omega)
    unfold pL at h1; unfold pR at h2; unfold pB at h3; unfold pT at h4
    rw [i32_le] at *
    rw [e0] at *
    omega
  · intro hI
    obtain ⟨i1, q1, e1⟩ := mnT_in P.2.1 (P.1 - 1)
    obtain ⟨i2, q2, e2⟩ := mxT_in P.2.1 (P.1 - 1)
    obtain ⟨i3, q3, e3⟩ := mnT_in P.2.2 (P.1 - 1)
    obtain ⟨i4, q4, e4⟩ := mxT_in P.2.2 (P.1 - 1)
    unfold pL pR pB pT
    rw [e1, e2, e3, e4, i32_le, i32_le, i32_le, i32_le, e0]
    have b1 := hI i1 (by omega)
    have b2 := hI i2 (by omega)
    have b3 := hI i3 (by omega)
    have b4 := hI i4 (by omega)
    omega
theorem WfB.smal {P : Py} {w h : Int32} (hP : WfB P w h) (hb : BoxOk w h) : Smal P := by
  refine ⟨hP.1, fun k hk => ?_⟩
  have := hP.2 k hk
  unfold BoxOk at hb
  omega
theorem WfS.sm {s : St} (h : WfS s) : SmS s := fun k hk => (h.2 k hk).smal h.1
theorem st_bd : ∀ d, d < 8 → (-1 ≤ (stX d).toInt ∧ (stX d).toInt ≤ 1) ∧ (-1 ≤ (stY d).toInt ∧ (stY d).toInt ≤ 1) := by decide
theorem WfB.smal_mv {P : Py} {w h : Int32} (hP : WfB P w h) (hb : BoxOk w h) {d : Nat} (hd : d < 8) : Smal (mvP P (stX d) (stY d)) := by
  refine ⟨hP.1, fun k hk => ?_⟩
  have h1 := hP.2 k hk
  have h2 := st_bd d hd
  unfold BoxOk at hb
  have e1 := i32_add (n := 200) (a := P.2.1 k) (b := stX d) (by omega) (by omega) (by omega)
  have e2 := i32_add (n := 200) (a := P.2.2 k) (b := stY d) (by omega) (by omega) (by omega)
  show (-200 ≤ (P.2.1 k + stX d).toInt ∧ (P.2.1 k + stX d).toInt ≤ 200) ∧ (-200 ≤ (P.2.2 k + stY d).toInt ∧ (P.2.2 k + stY d).toInt ≤ 200)
  omega
theorem mvN_n (P : Py) (d : Nat) : ∀ t, (mvN P d t).1 = P.1 := by
  intro t
  induction t with
  | zero => rfl
  | succ t ih => exact ih
theorem mvN_wf {s : St} {k d t : Nat} (hW : WfS s) (hk : k < s.1) (hI : anT (fkF s k d) t = false) : WfB (mvN (s.2.2.2 k) d t) s.2.1 s.2.2.1 := by
  cases t with
  | zero => exact hW.2 k hk
  | succ t =>
    have h1 := anT_false.mp hI t (by omega)
    have h2 := (hW.2 k hk).1
    simp only [fkF, Bool.not_eq_false', okS, Bool.and_eq_true, decide_eq_true_eq] at h1
    refine ⟨by rw [mvN_n]; exact h2, (beyond_iff (by rw [mvN_n]; omega)).mp h1.1⟩
theorem smal_mvN {s : St} {k d t : Nat} (hW : WfS s) (hk : k < s.1) (hd : d < 8) (hI : anT (fkF s k d) t = false) : Smal (mvN (s.2.2.2 k) d (t + 1)) :=
  (mvN_wf hW hk hI).smal_mv hW.1 hd
theorem mvN_sh (P : Py) (d : Nat) : ∀ t, mvN P d t = shP P d t := by
  intro t
  induction t with
  | zero =>
    show P = (P.1, fun k => P.2.1 k + nI 0 * stX d, fun k => P.2.2 k + nI 0 * stY d)
    rw [nI_0]
    simp
  | succ t ih =>
    show mvP (mvN P d t) (stX d) (stY d) = _
    rw [ih]
    unfold shP mvP
    rw [nI_succ]
    refine Prod.ext rfl (Prod.ext ?_ ?_)
    · funext k
      show P.2.1 k + nI t * stX d + stX d = P.2.1 k + (nI t + 1) * stX d
      grind
    · funext k
      show P.2.2 k + nI t * stY d + stY d = P.2.2 k + (nI t + 1) * stY d
      grind
/-- after as many steps as are free the body is where it may be -/
theorem fsN_ok {s : St} {k d most : Nat} : anT (fkF s k d) (fsN s k d most) = false := by
  unfold fsN
  split
  next t h => exact (fsT_some h).2.2
  next h => exact fsT_none.mp h
theorem setS_wf {s : St} {k : Nat} {P : Py} (hW : WfS s) (hP : WfB P s.2.1 s.2.2.1) : WfS (setS s k P) := by
  refine ⟨hW.1, fun j hj => ?_⟩
  show WfB (if j = k then P else s.2.2.2 j) _ _
  split
  · exact hP
  · exact hW.2 j hj
theorem rdS_wf {s : St} {d : Nat} (hW : WfS s) : ∀ k, k ≤ s.1 → WfS (rdS s d k).1 := by
  intro k
  induction k with
  | zero => intro _; exact hW
  | succ k ih =>
    intro hk
    have h1 := ih (by omega)
    have h2 := rdS_1 s d k
    refine setS_wf h1 ?_
    rw [← mvN_sh]
    exact mvN_wf h1 (by rw [h2.1]; omega) fsN_ok
theorem rdS_le (s : St) (d : Nat) : ∀ k, (rdS s d k).2 ≤ 60 * k := by
  intro k
  induction k with
  | zero => exact Nat.le_refl 0
  | succ k ih =>
    have := fsN_le (rdS s d k).1 k d 60
    show (rdS s d k).2 + fsN (rdS s d k).1 k d 60 ≤ _
    omega
theorem Pk.set {M M' : Mem} {p k : Nat} {s : St} {P : Py} (h : Pk M p s) (hk : k < s.1) (hf : Fr (bo p k) M M') (hP : Bd M' (bo p k) P) : Pk M' p (setS s k P) := by
  obtain ⟨h1, h2, h3, h4, h5⟩ := h
  have e : M' p = M p := hf p (by unfold bo; omega)
  refine ⟨by rw [e]; exact h1, by rw [e]; exact h2, by rw [e]; exact h3, h4, fun j hj => ?_⟩
  show Bd M' (bo p j) (if j = k then P else s.2.2.2 j)
  by_cases q : j = k
  · rw [if_pos q, q]; exact hP
  · rw [if_neg q]
    exact (h5 j hj).fr hf (by unfold bo; omega)
def hasB (n : Nat) (v : Int32) : Bool := if v < 0 then false else if nI n ≤ v then false else true
theorem hasB_ex {n : Nat} {v : Int32} (hn : n < 2 ^ 31) (h : hasB n v = true) : ∃ j, j < n ∧ v = nI j := by
  unfold hasB at h
  by_cases h1 : v < 0
  · rw [if_pos h1] at h; cases h
  · rw [if_neg h1] at h
    by_cases h2 : nI n ≤ v
    · rw [if_pos h2] at h; cases h
    · obtain ⟨j, hj, e⟩ := nI_of h1
      refine ⟨j, ?_, e⟩
      rw [e, nI_leI hn hj] at h2
      omega
def toF (s : St) (k i j : Nat) : Py := if j < k then s.2.2.2 j else if j < i then s.2.2.2 (j + 1) else s.2.2.2 j
theorem toF_0 {s : St} {k j : Nat} : toF s k k j = s.2.2.2 j := by
  unfold toF
  by_cases h : j < k
  · rw [if_pos h]
  · rw [if_neg h, if_neg h]
theorem toF_hi {s : St} {k i j : Nat} (h : i ≤ j ∧ k ≤ i) : toF s k i j = s.2.2.2 j := by
  unfold toF
  rw [if_neg (by omega), if_neg (by omega)]
theorem toF_at {s : St} {k i : Nat} (h : k ≤ i) : toF s k (i + 1) i = s.2.2.2 (i + 1) := by
  unfold toF
  rw [if_neg (by omega), if_pos (by omega)]
theorem toF_ne {s : St} {k i j : Nat} (h : j ≠ i) : toF s k (i + 1) j = toF s k i j := by
  unfold toF
  by_cases h1 : j < k
  · rw [if_pos h1, if_pos h1]
  · rw [if_neg h1, if_neg h1]
    by_cases h2 : j < i
    · rw [if_pos h2, if_pos (by omega)]
    · rw [if_neg h2, if_neg (by omega)]
theorem toF_end {s : St} {k i j : Nat} (h : j < i) : toF s k i j = (outS s k).2.2.2 j := by
  show _ = if j < k then s.2.2.2 j else s.2.2.2 (j + 1)
  unfold toF
  by_cases h1 : j < k
  · rw [if_pos h1, if_pos h1]
  · rw [if_neg h1, if_neg h1, if_pos h]
theorem nI_sub1 {n : Nat} (h : 0 < n) : nI n - 1 = nI (n - 1) := by
  obtain ⟨m, rfl⟩ : ∃ m, n = m + 1 := ⟨n - 1, by omega⟩
  exact nI_pred m
