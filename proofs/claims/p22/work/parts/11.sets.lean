/-! SETS OF PLACES as bits, and what hangs together -/
def tb (v : Int32) (i : Nat) : Bool := v.toBitVec.getLsbD i
theorem tb_ext {a b : Int32} (h : ∀ i, i < 32 → tb a i = tb b i) : a = b := Int32.toBitVec_inj.mp (BitVec.eq_of_getLsbD_eq h)
theorem tb_or (a b : Int32) (i : Nat) : tb (a ||| b) i = (tb a i || tb b i) := by simp [tb]
theorem tb_and (a b : Int32) (i : Nat) : tb (a &&& b) i = (tb a i && tb b i) := by simp [tb]
theorem tb_xor (a b : Int32) (i : Nat) : tb (a ^^^ b) i = (tb a i ^^ tb b i) := by simp [tb]
theorem tb_0 (i : Nat) : tb 0 i = false := by simp [tb]
theorem tb_m1 : ∀ i, i < 32 → tb (-1) i = true := by decide
theorem tb_one : ∀ k, k < 8 → ∀ i, i < 32 → tb (1 <<< (nI k &&& 31)) i = decide (i = k) := by decide +kernel
theorem tb_bsT {q : Nat → Bool} {n : Nat} (hn : n ≤ 8) {i : Nat} (hi : i < 32) : tb (bsT q n) i = (decide (i < n) && q i) := by
  induction n with
  | zero => simp [bsT, tb_0]
  | succ n ih =>
    have ih := ih (by omega)
    simp only [bsT]
    by_cases h : q n = true
    · rw [if_pos h, tb_or, ih, tb_one n (by omega) i hi]
      by_cases h2 : i = n
      · subst h2; simp [h]
      · have : decide (i < n + 1) = decide (i < n) := by
          apply decide_eq_decide.mpr; omega
        simp [h2, this]
    · rw [if_neg h, ih]
      by_cases h2 : i = n
      · subst h2
        simp only [Bool.not_eq_true] at h
        simp [h]
      · have : decide (i < n + 1) = decide (i < n) := by
          apply decide_eq_decide.mpr; omega
        rw [this]
theorem bsT_inj {q r : Nat → Bool} {n : Nat} (hn : n ≤ 8) : bsT q n = bsT r n ↔ ∀ j, j < n → q j = r j := by
  constructor
  · intro h j hj
    have h1 := tb_bsT (q := q) hn (i := j) (by omega)
    have h2 := tb_bsT (q := r) hn (i := j) (by omega)
    rw [h, h2] at h1
    simpa [hj] using h1.symm
  · exact fun h => bsT_congr n h
theorem bsT_or {q r : Nat → Bool} {n : Nat} (hn : n ≤ 8) : bsT q n ||| bsT r n = bsT (fun j => q j || r j) n := by
  apply tb_ext
  intro i hi
  rw [tb_or, tb_bsT hn hi, tb_bsT hn hi, tb_bsT hn hi]
  cases decide (i < n) <;> simp
theorem bsT_andn {q r : Nat → Bool} {n : Nat} (hn : n ≤ 8) : bsT q n &&& (bsT r n ^^^ -1) = bsT (fun j => q j && !r j) n := by
  apply tb_ext
  intro i hi
  rw [tb_and, tb_xor, tb_m1 i hi, tb_bsT hn hi, tb_bsT hn hi, tb_bsT hn hi]
  cases decide (i < n) <;> simp
theorem bsT_one {k n : Nat} (hn : n ≤ 8) (hk : k < n) : (1 : Int32) <<< (nI k &&& 31) = bsT (fun j => decide (j = k)) n := by
  apply tb_ext
  intro i hi
  rw [tb_one k (by omega) i hi, tb_bsT hn hi]
  by_cases h : i = k
  · subst h; simp [hk]
  · simp [h]
theorem bsT_00 {n : Nat} : bsT (fun _ => false) n = 0 := by
  induction n with
  | zero => rfl
  | succ n ih => simpa [bsT] using ih
theorem bt8_tb {v : Int32} {j : Nat} (hj : j < 8) : bt8 v j = tb v j := by
  unfold bt8
  cases h : tb v j with
  | true =>
    apply decide_eq_true
    intro e
    have h1 : tb (v &&& (1 <<< (nI j &&& 31))) j = false := by rw [e, tb_0]
    rw [tb_and, h, tb_one j hj j (by omega)] at h1
    simp at h1
  | false =>
    apply decide_eq_false
    intro e
    apply e
    apply tb_ext
    intro i hi
    rw [tb_and, tb_one j hj i hi, tb_0]
    by_cases h2 : i = j
    · subst h2; simp [h]
    · simp [h2]
theorem loT_bsT {q : Nat → Bool} {n : Nat} (hn : n ≤ 8) (h : ∃ j, j < n ∧ q j = true) : loT (bsT q n) < n ∧ q (loT (bsT q n)) = true ∧ ∀ i, i < loT (bsT q n) → q i = false := by
  obtain ⟨j0, hj0, hq0⟩ := h
  have key : ∀ j, j < 8 → bt8 (bsT q n) j = (decide (j < n) && q j) := fun j hj => by rw [bt8_tb hj, tb_bsT hn (by omega)]
  unfold loT
  cases h : fsT (bt8 (bsT q n)) 8 with
  | none =>
    have := anT_false.mp (fsT_none.mp h) j0 (by omega)
    rw [key j0 (by omega)] at this
    simp [hj0, hq0] at this
  | some k =>
    obtain ⟨h1, h2, h3⟩ := fsT_some h
    rw [key k h1] at h2
    simp only [Bool.and_eq_true, decide_eq_true_eq] at h2
    refine ⟨h2.1, h2.2, fun i hi => ?_⟩
    have hi2 : i < k := hi
    have := anT_false.mp h3 i hi
    rw [key i (by omega)] at this
    have hin : i < n := by omega
    simpa [hin] using this
theorem loT_0 {n : Nat} {q : Nat → Bool} (hn : n ≤ 8) (h : ∀ j, j < n → q j = false) : loT (bsT q n) = 8 := by
  unfold loT
  have : fsT (bt8 (bsT q n)) 8 = none := by
    rw [fsT_none, anT_false]
    intro j hj
    rw [bt8_tb hj, tb_bsT hn (by omega)]
    by_cases h1 : j < n
    · simp [h j h1]
    · simp [h1]
  rw [this]
theorem bsT_eq0 {q : Nat → Bool} {n : Nat} (hn : n ≤ 8) : bsT q n = 0 ↔ ∀ j, j < n → q j = false := by
  rw [← bsT_00 (n := n), bsT_inj hn]
/-! how many -/
def ctT (q : Nat → Bool) : Nat → Nat
  | 0 => 0
  | k + 1 => if q k then ctT q k + 1 else ctT q k
theorem ctT_le (q : Nat → Bool) : ∀ n, ctT q n ≤ n := by
  intro n
  induction n with
  | zero => exact Nat.le_refl 0
  | succ n ih => simp only [ctT]; split <;> omega
theorem ctT_full {q : Nat → Bool} : ∀ {n : Nat}, n ≤ ctT q n → ∀ j, j < n → q j = true := by
  intro n
  induction n with
  | zero => intro _ j hj; exact absurd hj (Nat.not_lt_zero _)
  | succ n ih =>
    intro h j hj
    have h1 := ctT_le q n
    simp only [ctT] at h
    split at h
    next h2 =>
      rcases Nat.lt_or_ge j n with r | r
      · exact ih (by omega) j r
      · rw [show j = n by omega]; exact h2
    next => omega
theorem ctT_congr {q r : Nat → Bool} : ∀ n, (∀ j, j < n → q j = r j) → ctT q n = ctT r n := by
  intro n
  induction n with
  | zero => intro _; rfl
  | succ n ih =>
    intro h
    simp only [ctT]
    rw [ih (fun j hj => h j (by omega)), h n (by omega)]
theorem ctT_one {q : Nat → Bool} {k : Nat} : ∀ {n : Nat}, k < n → q k = false → ctT (fun j => q j || decide (j = k)) n = ctT q n + 1 := by
  intro n
  induction n with
  | zero => intro h; exact absurd h (Nat.not_lt_zero _)
  | succ n ih =>
    intro hk hq
    simp only [ctT]
    rcases Nat.lt_or_ge k n with r | r
    · rw [ih r hq]
      have e : decide (n = k) = false := decide_eq_false (by omega)
      simp only [e, Bool.or_false]
      split <;> omega
    · have e : n = k := by omega
      subst e
      have : ctT (fun j => q j || decide (j = n)) n = ctT q n := ctT_congr n (fun j hj => by
        rw [decide_eq_false (by omega : ¬ j = n), Bool.or_false])
      simp only [this]
      simp [hq]
theorem ctT_mono {q r : Nat → Bool} : ∀ n, (∀ j, j < n → q j = true → r j = true) → ctT q n ≤ ctT r n := by
  intro n
  induction n with
  | zero => intro _; exact Nat.le_refl 0
  | succ n ih =>
    intro h
    have h1 := ih (fun j hj => h j (by omega))
    simp only [ctT]
    split
    next h2 => rw [if_pos (h n (by omega) h2)]; omega
    next => split <;> omega
theorem ctT_lt {q r : Nat → Bool} {n k : Nat} (h : ∀ j, j < n → q j = true → r j = true) (hk : k < n) (h1 : q k = false) (h2 : r k = true) : ctT q n < ctT r n := by
  have e := ctT_one (q := q) hk h1
  have := ctT_mono (q := fun j => q j || decide (j = k)) (r := r) n (fun j hj q2 => by
    rcases (Bool.or_eq_true _ _).mp q2 with z | z
    · exact h j hj z
    · rw [of_decide_eq_true z]; exact h2)
  omega
/-! what hangs together with a set: in every closed set around it -/
def Cls (s : St) (R : Nat → Bool) : Prop := ∀ i j, i < s.1 → j < s.1 → R i = true → tcF s i j = true → R j = true
noncomputable def clo (s : St) (q : Nat → Bool) (j : Nat) : Bool := @decide (∀ R : Nat → Bool, (∀ i, i < s.1 → q i = true → R i = true) → Cls s R → R j = true) (Classical.propDecidable _)
theorem clo_iff {s : St} {q : Nat → Bool} {j : Nat} : clo s q j = true ↔ ∀ R : Nat → Bool, (∀ i, i < s.1 → q i = true → R i = true) → Cls s R → R j = true := by
  unfold clo
  exact @decide_eq_true_iff _ (Classical.propDecidable _)
theorem clo_q {s : St} {q : Nat → Bool} {j : Nat} (hj : j < s.1) (h : q j = true) : clo s q j = true := clo_iff.mpr fun _ h1 _ => h1 j hj h
theorem clo_cls (s : St) (q : Nat → Bool) : Cls s (clo s q) := by
  intro i j hi hj h1 h2
  rw [clo_iff] at *
  exact fun R r1 r2 => r2 i j hi hj (h1 R r1 r2) h2
/-- a closed set around q, inside clo, is clo -/
theorem clo_eq {s : St} {q A : Nat → Bool} (h1 : ∀ i, i < s.1 → q i = true → A i = true) (h2 : Cls s A) (h3 : ∀ i, i < s.1 → A i = true → clo s q i = true) : ∀ j, j < s.1 → A j = clo s q j := by
  intro j hj
  cases h : clo s q j with
  | true => exact clo_iff.mp h A h1 h2
  | false =>
    cases h4 : A j with
    | false => rfl
    | true => rw [h3 j hj h4] at h; cases h
noncomputable def clS (s : St) (q : Nat → Bool) : Int32 := bsT (clo s q) s.1
theorem ctT_00 (n : Nat) : ctT (fun _ => false) n = 0 := by
  induction n with
  | zero => rfl
  | succ n ih => simpa [ctT] using ih
/-- the walk of spread: asked B, all A, turns -/
def spI (s : St) (q : Nat → Bool) (t : Nat) (B A : Nat → Bool) : Prop :=
  (∀ i, i < s.1 → B i = true → A i = true) ∧ (∀ i, i < s.1 → q i = true → A i = true) ∧ (∀ i, i < s.1 → A i = true → clo s q i = true) ∧ (∀ i j, i < s.1 → j < s.1 → B i = true → tcF s i j = true → A j = true) ∧ ctT B s.1 = t
theorem spI_0 {s : St} {q : Nat → Bool} : spI s q 0 (fun _ => false) q :=
  ⟨fun _ _ h => absurd h Bool.false_ne_true, fun _ _ h => h, fun i hi h => clo_q hi h, fun _ _ _ _ h => absurd h Bool.false_ne_true, ctT_00 _⟩
theorem spI_next {s : St} {q A B : Nat → Bool} {t : Nat} (h8 : s.1 ≤ 8) (h : spI s q t B A) (hne : ¬ bsT B s.1 = bsT A s.1) : ∃ j, j < s.1 ∧ (A j && !B j) = true := by
  refine Classical.byContradiction fun q2 => hne ((bsT_inj h8).mpr fun j hj => ?_)
  have h1 : ¬ ((A j && !B j) = true) := fun z => q2 ⟨j, hj, z⟩
  cases hB : B j with
  | true => rw [h.1 j hj hB]
  | false =>
    cases hA : A j with
    | false => rfl
    | true => exact absurd (by rw [hA, hB]; rfl) h1
theorem spI_step {s : St} {q A B : Nat → Bool} {t j : Nat} (h : spI s q t B A) (hj : j < s.1) (hA : A j = true) (hB : B j = false) : spI s q (t + 1) (fun i => B i || decide (i = j)) (fun i => A i || tcF s j i) := by
  obtain ⟨h1, h2, h3, h4, h5⟩ := h
  refine ⟨fun i hi z => ?_, fun i hi z => ?_, fun i hi z => ?_, fun i k hi hk z z2 => ?_, ?_⟩
  · show (A i || tcF s j i) = true
    rcases (Bool.or_eq_true _ _).mp z with z | z
    · rw [h1 i hi z]; rfl
    · rw [of_decide_eq_true z, hA]; rfl
  · show (A i || tcF s j i) = true
    rw [h2 i hi z]; rfl
  · rcases (Bool.or_eq_true _ _).mp z with z | z
    · exact h3 i hi z
    · exact clo_cls s q j i hj hi (h3 j hj hA) z
  · rcases (Bool.or_eq_true _ _).mp z with z | z
    · show (A k || tcF s j k) = true
      rw [h4 i k hi hk z z2]; rfl
    · have e := of_decide_eq_true z
      subst e
      show (A k || tcF s i k) = true
      rw [z2, Bool.or_true]
  · rw [ctT_one hj hB, h5]
theorem spI_end {s : St} {q A B : Nat → Bool} {t : Nat} (h8 : s.1 ≤ 8) (h : spI s q t B A) (he : bsT B s.1 = bsT A s.1) : bsT A s.1 = clS s q := by
  obtain ⟨h1, h2, h3, h4, h5⟩ := h
  have e := (bsT_inj h8).mp he
  unfold clS
  rw [bsT_inj h8]
  exact clo_eq h2 (fun i j hi hj z z2 => h4 i j hi hj (by rw [e i hi]; exact z) z2) h3
theorem spI_full {s : St} {q A B : Nat → Bool} {t : Nat} (h8 : s.1 ≤ 8) (h : spI s q t B A) (ht : 8 ≤ t) : bsT B s.1 = bsT A s.1 := by
  have h1 := ctT_le B s.1
  have h2 := h.2.2.2.2
  have h3 := ctT_full (q := B) (n := s.1) (by omega)
  rw [bsT_inj h8]
  intro j hj
  rw [h3 j hj, h.1 j hj (h3 j hj)]
/-! more of packings -/
theorem jm4_up {s : St} {k : Nat} : ∀ {j i : Nat}, jm4 s k j = true → j ≤ i → jm4 s k i = true := by
  intro j i h hi
  induction i with
  | zero => rw [show j = 0 by omega] at h; exact h
  | succ i ih =>
    rcases Nat.lt_or_ge i j with q | q
    · rw [show i + 1 = j by omega]; exact h
    · simp only [jm4]
      rw [if_pos (ih q)]
theorem WfB.smal_tn {P : Py} {w h : Int32} (hP : WfB P w h) (hb : BoxOk w h) : Smal (tnP P) := by
  refine ⟨hP.1, fun k hk => ?_⟩
  have hk2 : k < P.1 := hk
  have h3 := hP.1
  obtain ⟨i1, q1, e1⟩ := mnT_in P.2.1 (P.1 - 1)
  obtain ⟨i3, q3, e3⟩ := mnT_in P.2.2 (P.1 - 1)
  obtain ⟨i4, q4, e4⟩ := mxT_in P.2.2 (P.1 - 1)
  have b1 := hP.2 i1 (by omega)
  have b3 := hP.2 i3 (by omega)
  have b4 := hP.2 i4 (by omega)
  have b5 := hP.2 k hk2
  unfold BoxOk at hb
  have eL : pL P = P.2.1 i1 := e1
  have eB : pB P = P.2.2 i3 := e3
  have eT : pT P = P.2.2 i4 := e4
  show (-200 ≤ (pL P + pT P - P.2.2 k).toInt ∧ (pL P + pT P - P.2.2 k).toInt ≤ 200) ∧ (-200 ≤ (pB P + P.2.1 k - pL P).toInt ∧ (pB P + P.2.1 k - pL P).toInt ≤ 200)
  rw [eL, eB, eT]
  have a1 := i32_add (n := 200) (a := P.2.1 i1) (b := P.2.2 i4) (by omega) (by omega) (by omega)
  have a2 := i32_sub (n := 200) (a := P.2.1 i1 + P.2.2 i4) (b := P.2.2 k) (by omega) (by omega) (by omega)
  have a3 := i32_add (n := 200) (a := P.2.2 i3) (b := P.2.1 k) (by omega) (by omega) (by omega)
  have a4 := i32_sub (n := 200) (a := P.2.2 i3 + P.2.1 k) (b := P.2.1 i1) (by omega) (by omega) (by omega)
  omega
/-- Integer.bitCount's own words -/
def ush (a b : Int32) : Int32 := (a.toUInt32 >>> (b.toUInt32 &&& Int32.toUInt32 31)).toInt32
def bc1 (v : Int32) : Int32 := v - (ush v 1 &&& 1431655765)
def bc2 (v : Int32) : Int32 := (bc1 v &&& 858993459) + (ush (bc1 v) 2 &&& 858993459)
def bc3 (v : Int32) : Int32 := (bc2 v + ush (bc2 v) 4) &&& 252645135
def bc4 (v : Int32) : Int32 := bc3 v + ush (bc3 v) 8
def bc5 (v : Int32) : Int32 := bc4 v + ush (bc4 v) 16
def bcE (v : Int32) : Int32 := bc5 v &&& 63
def paF (s : St) (k : Nat) : Int32 := bcE (tcS s k)
def pairS (s : St) : Int32 := smT (paF s) s.1 >>> (1 &&& 31)
theorem loT_none {v : Int32} (h : anT (bt8 v) 8 = false) : loT v = 8 := by
  unfold loT
  rw [fsT_none.mpr h]
theorem loT_some {v : Int32} {j : Nat} (hj : j < 8) (h : anT (bt8 v) j = false) (h1 : bt8 v j = true) : loT v = j := by
  unfold loT
  rw [fsT_first h h1 hj]
