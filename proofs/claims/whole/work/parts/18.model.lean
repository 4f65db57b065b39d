/-! THE REFERENCE: ids 232 (itself), 233 all, 234 history, 235 kept, 236 text -/
def BdM (A : Nat → Int32) (b : Nat) (P : Py) : Prop := A (3 + b) = nI P.1 ∧ P.1 ≤ 6 ∧ (∀ k, k < P.1 → A (12 + 6 * b + k) = P.2.1 k) ∧ (∀ k, k < P.1 → A (66 + 6 * b + k) = P.2.2 k)
def PkX (A : Nat → Int32) (s : St) (b : Nat) : Prop := A 0 = s.2.1 ∧ A 1 = s.2.2.1 ∧ A 2 = nI s.1 ∧ s.1 ≤ 8 ∧ ∀ k, k < s.1 → k ≠ b → BdM A k (s.2.2.2 k)
def PkM (A : Nat → Int32) (s : St) : Prop := A 0 = s.2.1 ∧ A 1 = s.2.2.1 ∧ A 2 = nI s.1 ∧ s.1 ≤ 8 ∧ ∀ k, k < s.1 → BdM A k (s.2.2.2 k)
theorem PkM.X {A : Nat → Int32} {s : St} (h : PkM A s) (b : Nat) : PkX A s b := ⟨h.1, h.2.1, h.2.2.1, h.2.2.2.1, fun k hk _ => h.2.2.2.2 k hk⟩
theorem PkM.r {A : Nat → Int32} {s : St} (h : PkM A s) : s.1 ≤ 8 := h.2.2.2.1
theorem PkX.r {A : Nat → Int32} {s : St} {b : Nat} (h : PkX A s b) : s.1 ≤ 8 := h.2.2.2.1
theorem PkX.M {A : Nat → Int32} {s : St} {b : Nat} {P : Py} (h : PkX A s b) (hb : BdM A b P) : PkM A (setS s b P) := by
  refine ⟨h.1, h.2.1, h.2.2.1, h.2.2.2.1, fun k hk => ?_⟩
  show BdM A k (if k = b then P else s.2.2.2 k)
  by_cases q : k = b
  · rw [if_pos q, q]; exact hb
  · rw [if_neg q]; exact h.2.2.2.2 k hk q
theorem BdM.same {A A' : Nat → Int32} {b : Nat} {P : Py} (h : BdM A b P) (hb : b ≤ 8) (he : ∀ j, j < 120 → A' j = A j) : BdM A' b P := by
  obtain ⟨h1, h2, h3, h4⟩ := h
  exact ⟨by rw [he _ (by omega)]; exact h1, h2, fun k hk => by rw [he _ (by omega)]; exact h3 k hk, fun k hk => by rw [he _ (by omega)]; exact h4 k hk⟩
theorem PkM.same {A A' : Nat → Int32} {s : St} (h : PkM A s) (he : ∀ j, j < 120 → A' j = A j) : PkM A' s := by
  have h8 := h.r
  exact ⟨by rw [he 0 (by omega)]; exact h.1, by rw [he 1 (by omega)]; exact h.2.1, by rw [he 2 (by omega)]; exact h.2.2.1, h8, fun k hk => (h.2.2.2.2 k hk).same (by omega) he⟩
/-- a body's own places -/
def ArB (b j : Nat) : Prop := j = 3 + b ∨ (12 + 6 * b ≤ j ∧ j < 18 + 6 * b) ∨ (66 + 6 * b ≤ j ∧ j < 72 + 6 * b)
def FrB (b : Nat) (A A' : Nat → Int32) : Prop := ∀ j, ¬ ArB b j → A' j = A j
theorem FrB.rf {b : Nat} {A : Nat → Int32} : FrB b A A := fun _ _ => rfl
theorem FrB.tr {b : Nat} {A B C : Nat → Int32} (h1 : FrB b A B) (h2 : FrB b B C) : FrB b A C := fun j hj => (h2 j hj).trans (h1 j hj)
theorem BdM.fr {A A' : Nat → Int32} {b c : Nat} {P : Py} (h : BdM A c P) (hf : FrB b A A') (hb : b ≤ 8) (hc : c ≤ 8) (hne : c ≠ b) : BdM A' c P := by
  obtain ⟨h1, h2, h3, h4⟩ := h
  exact ⟨by rw [hf _ (by unfold ArB; omega)]; exact h1, h2, fun k hk => by rw [hf _ (by unfold ArB; omega)]; exact h3 k hk, fun k hk => by rw [hf _ (by unfold ArB; omega)]; exact h4 k hk⟩
theorem PkX.fr {A A' : Nat → Int32} {s : St} {b : Nat} (h : PkX A s b) (hf : FrB b A A') (hb : b ≤ 8) : PkX A' s b := by
  have h8 := h.r
  exact ⟨by rw [hf 0 (by unfold ArB; omega)]; exact h.1, by rw [hf 1 (by unfold ArB; omega)]; exact h.2.1, by rw [hf 2 (by unfold ArB; omega)]; exact h.2.2.1, h8, fun k hk hne => (h.2.2.2.2 k hk hne).fr hf hb (by omega) hne⟩
/-- all, put anew -/
def rwA (M : Mem) (A : Nat → Int32) : Mem := fun i => if i = 233 then A else M i
theorem rwA_at (M : Mem) (A : Nat → Int32) : rwA M A 233 = A := by simp [rwA]
theorem rwA_ne {M : Mem} {A : Nat → Int32} {i : Nat} (h : i ≠ 233) : rwA M A i = M i := by simp [rwA, h]
theorem rwA_id (M : Mem) : rwA M (M 233) = M := by
  funext i
  by_cases h : i = 233
  · rw [h, rwA_at]
  · rw [rwA_ne h]
theorem rwA_rwA (M : Mem) (A B : Nat → Int32) : rwA (rwA M A) B = rwA M B := by
  funext i
  by_cases h : i = 233
  · rw [h, rwA_at, rwA_at]
  · rw [rwA_ne h, rwA_ne h, rwA_ne h]
def mvR (A : Nat → Int32) (b n : Nat) (dx dy : Int32) : Nat → Int32 := fun j => if 12 + 6 * b ≤ j ∧ j < 12 + 6 * b + n then A j + dx else if 66 + 6 * b ≤ j ∧ j < 66 + 6 * b + n then A j + dy else A j
theorem mvR_0 (A : Nat → Int32) (b : Nat) (dx dy : Int32) : mvR A b 0 dx dy = A := by
  funext j
  unfold mvR
  rw [if_neg (by omega), if_neg (by omega)]
theorem mvR_step {M : Mem} {A : Nat → Int32} {b n : Nat} {dx dy : Int32} (hb : b ≤ 8) (hn : n < 6) : mset (mset (rwA M (mvR A b n dx dy)) 233 (12 + 6 * b + n) (A (12 + 6 * b + n) + dx)) 233 (66 + 6 * b + n) (A (66 + 6 * b + n) + dy) = rwA M (mvR A b (n + 1) dx dy) := by
  funext i j
  by_cases hi : i = 233
  · subst hi
    rw [rwA_at]
    by_cases h1 : j = 66 + 6 * b + n
    · subst h1
      rw [mset_self]
      unfold mvR
      rw [if_neg (by omega), if_pos (by omega)]
    · rw [mset_ne (by omega)]
      by_cases h2 : j = 12 + 6 * b + n
      · subst h2
        rw [mset_self]
        unfold mvR
        rw [if_pos (by omega)]
      · rw [mset_ne (by omega), rwA_at]
        unfold mvR
        by_cases h3 : 12 + 6 * b ≤ j ∧ j < 12 + 6 * b + n
        · rw [if_pos h3, if_pos (by omega)]
        · have e1 : ¬ (12 + 6 * b ≤ j ∧ j < 12 + 6 * b + (n + 1)) := by omega
          rw [if_neg h3, if_neg e1]
          by_cases h4 : 66 + 6 * b ≤ j ∧ j < 66 + 6 * b + n
          · have e2 : 66 + 6 * b ≤ j ∧ j < 66 + 6 * b + (n + 1) := by omega
            rw [if_pos h4, if_pos e2]
          · have e2 : ¬ (66 + 6 * b ≤ j ∧ j < 66 + 6 * b + (n + 1)) := by omega
            rw [if_neg h4, if_neg e2]
  · rw [mset_ne (by omega), mset_ne (by omega), rwA_ne hi, rwA_ne hi]
theorem mvR_x {A : Nat → Int32} {b n : Nat} {dx dy : Int32} (hn : n < 6) (hb : b ≤ 8) : mvR A b n dx dy (12 + 6 * b + n) = A (12 + 6 * b + n) ∧ mvR A b n dx dy (66 + 6 * b + n) = A (66 + 6 * b + n) := by
  unfold mvR
  constructor
  · rw [if_neg (by omega), if_neg (by omega)]
  · rw [if_neg (by omega), if_neg (by omega)]
theorem mvR_c {A : Nat → Int32} {b n : Nat} {dx dy : Int32} (hb : b ≤ 8) : mvR A b n dx dy (3 + b) = A (3 + b) := by
  unfold mvR
  rw [if_neg (by omega), if_neg (by omega)]
theorem mvR_fr {A : Nat → Int32} {b n : Nat} {dx dy : Int32} (hn : n ≤ 6) : FrB b A (mvR A b n dx dy) := by
  intro j hj
  unfold ArB at hj
  unfold mvR
  rw [if_neg (by omega), if_neg (by omega)]
theorem mvR_bd {A : Nat → Int32} {b : Nat} {P : Py} {dx dy : Int32} (h : BdM A b P) (hb : b ≤ 8) : BdM (mvR A b P.1 dx dy) b (mvP P dx dy) := by
  obtain ⟨h1, h2, h3, h4⟩ := h
  refine ⟨by rw [mvR_c hb]; exact h1, h2, fun k hk => ?_, fun k hk => ?_⟩
  · have hk2 : k < P.1 := hk
    show mvR A b P.1 dx dy _ = P.2.1 k + dx
    unfold mvR
    rw [if_pos (by omega), h3 k hk2]
  · have hk2 : k < P.1 := hk
    show mvR A b P.1 dx dy _ = P.2.2 k + dy
    unfold mvR
    rw [if_neg (by omega), if_pos (by omega), h4 k hk2]
theorem mvR_inv {A : Nat → Int32} {b n : Nat} {dx dy : Int32} (hn : n ≤ 6) (hb : b ≤ 8) : mvR (mvR A b n dx dy) b n (-dx) (-dy) = A := by
  funext j
  unfold mvR
  by_cases h3 : 12 + 6 * b ≤ j ∧ j < 12 + 6 * b + n
  · rw [if_pos h3, if_pos h3]; grind
  · rw [if_neg h3, if_neg h3]
    by_cases h4 : 66 + 6 * b ≤ j ∧ j < 66 + 6 * b + n
    · rw [if_pos h4, if_pos h4]; grind
    · rw [if_neg h4, if_neg h4]
theorem ixA (a b c : Nat) : nI a + nI 6 * nI b + nI c = nI (a + 6 * b + c) := by rw [pk_mul, nI_add, nI_add]
theorem ixB (a b : Nat) : nI a + nI 6 * nI b = nI (a + 6 * b) := by rw [pk_mul, nI_add]
theorem nx_mod {n k : Nat} (h : k < n) : (k + 1) % n = nx n k := by
  unfold nx
  by_cases q : k + 1 < n
  · rw [if_pos q, Nat.mod_eq_of_lt q]
  · rw [if_neg q, show k + 1 = n by omega, Nat.mod_self]
theorem pv_mod {n k : Nat} (h : k < n) : (k + n - 1) % n = pv n k := by
  unfold pv
  by_cases q : 0 < k
  · rw [if_pos q, show k + n - 1 = (k - 1) + n by omega, Nat.add_mod_right, Nat.mod_eq_of_lt (by omega)]
  · rw [if_neg q, show k + n - 1 = n - 1 by omega, Nat.mod_eq_of_lt (by omega)]
def sdV (P : Py) (s : Nat) (Q : Py) (c : Nat) : Int32 := crs (P.2.1 (s % P.1)) (P.2.2 (s % P.1)) (P.2.1 ((s + 1) % P.1)) (P.2.2 ((s + 1) % P.1)) (Q.2.1 (c % Q.1)) (Q.2.2 (c % Q.1))
theorem sdV_pC {P Q : Py} {s c : Nat} (hs : s < P.1) (hc : c < Q.1) : sdV P s Q c = pC P s Q c := by
  unfold sdV pC
  rw [nx_mod hs, Nat.mod_eq_of_lt hs, Nat.mod_eq_of_lt hc]
theorem mx_neg {f : Nat → Int32} : ∀ m, (∀ k, k ≤ m → -200 ≤ (f k).toInt ∧ (f k).toInt ≤ 200) → (mxT (fun k => -1 * f k) m).toInt = -(mnT f m).toInt ∧ (-200 ≤ (mnT f m).toInt ∧ (mnT f m).toInt ≤ 200) := by
  have e1 : (-1 : Int32).toInt = -1 := by decide
  have neg : ∀ x : Int32, -200 ≤ x.toInt ∧ x.toInt ≤ 200 → (-1 * x).toInt = -x.toInt := by
    intro x hx
    rw [i32_mul (by omega) (by omega), e1]
    omega
  intro m
  induction m with
  | zero => intro h; exact ⟨neg _ (h 0 (Nat.le_refl 0)), h 0 (Nat.le_refl 0)⟩
  | succ m ih =>
    intro h
    obtain ⟨h1, h2⟩ := ih (fun k hk => h k (by omega))
    have h3 := h (m + 1) (Nat.le_refl _)
    have h4 := neg _ h3
    simp only [mxT, mnT, i32_lt]
    by_cases q : (f (m + 1)).toInt < (mnT f m).toInt
    · rw [if_pos q, if_pos (by omega)]; exact ⟨h4, h3⟩
    · rw [if_neg q, if_neg (by omega)]; exact ⟨h1, h2⟩
theorem mx_neg2 {f : Nat → Int32} {m : Nat} (h : ∀ k, k ≤ m → -200 ≤ (f k).toInt ∧ (f k).toInt ≤ 200) : -1 * mxT (fun k => -1 * f k) m = mnT f m := by
  obtain ⟨h1, h2⟩ := mx_neg m h
  have e1 : (-1 : Int32).toInt = -1 := by decide
  rw [i32_eq, i32_mul (by omega) (by omega), e1, h1]
  omega
theorem mx_one {f : Nat → Int32} {m : Nat} : 1 * mxT (fun k => 1 * f k) m = mxT f m := by
  simp
def mWb (P : Py) (w h by' : Int32) : Int32 := (((if -by' < pL P then 0 else 1) ||| (if pR P < w + by' then 0 else 2)) ||| (if -by' < pB P then 0 else 4)) ||| (if pT P < h + by' then 0 else 8)
theorem ext_bd {P : Py} (h : Smal P) : ((-200 ≤ (pL P).toInt ∧ (pL P).toInt ≤ 200) ∧ (-200 ≤ (pR P).toInt ∧ (pR P).toInt ≤ 200)) ∧ ((-200 ≤ (pB P).toInt ∧ (pB P).toInt ≤ 200) ∧ (-200 ≤ (pT P).toInt ∧ (pT P).toInt ≤ 200)) := by
  have h3 := h.1
  obtain ⟨i1, q1, e1⟩ := mnT_in P.2.1 (P.1 - 1)
  obtain ⟨i2, q2, e2⟩ := mxT_in P.2.1 (P.1 - 1)
  obtain ⟨i3, q3, e3⟩ := mnT_in P.2.2 (P.1 - 1)
  obtain ⟨i4, q4, e4⟩ := mxT_in P.2.2 (P.1 - 1)
  unfold pL pR pB pT
  rw [e1, e2, e3, e4]
  exact ⟨⟨(h.2 i1 (by omega)).1, (h.2 i2 (by omega)).1⟩, (h.2 i3 (by omega)).2, (h.2 i4 (by omega)).2⟩
theorem mWb_1 {P : Py} {w h : Int32} (hP : Smal P) (hb : BoxOk w h) : mWb P w h 1 = pBeyond P w h := by
  obtain ⟨⟨h1, h2⟩, h3, h4⟩ := ext_bd hP
  unfold BoxOk at hb
  have e1 : (-1 : Int32).toInt = -1 := by decide
  have e0 : (0 : Int32).toInt = 0 := by decide
  have e2 : (1 : Int32).toInt = 1 := by decide
  have a1 := i32_add (n := 200) (a := w) (b := 1) (by omega) (by omega) (by omega)
  have a2 := i32_add (n := 200) (a := h) (b := 1) (by omega) (by omega) (by omega)
  have c1 : (-1 : Int32) < pL P ↔ 0 ≤ pL P := by rw [i32_lt, i32_le, e1, e0]; omega
  have c2 : pR P < w + 1 ↔ pR P ≤ w := by rw [i32_lt, i32_le, a1, e2]; omega
  have c3 : (-1 : Int32) < pB P ↔ 0 ≤ pB P := by rw [i32_lt, i32_le, e1, e0]; omega
  have c4 : pT P < h + 1 ↔ pT P ≤ h := by rw [i32_lt, i32_le, a2, e2]; omega
  unfold mWb pBeyond
  simp only [c1, c2, c3, c4]
theorem mWb_0 {P : Py} {w h : Int32} (hP : WfB P w h) : mWb P w h 0 = pTouched P w h := by
  have h3 := hP.1
  obtain ⟨i1, q1, e1⟩ := mnT_in P.2.1 (P.1 - 1)
  obtain ⟨i2, q2, e2⟩ := mxT_in P.2.1 (P.1 - 1)
  obtain ⟨i3, q3, e3⟩ := mnT_in P.2.2 (P.1 - 1)
  obtain ⟨i4, q4, e4⟩ := mxT_in P.2.2 (P.1 - 1)
  have b1 := hP.2 i1 (by omega)
  have b2 := hP.2 i2 (by omega)
  have b3 := hP.2 i3 (by omega)
  have b4 := hP.2 i4 (by omega)
  have e0 : (0 : Int32).toInt = 0 := by decide
  have eL : pL P = P.2.1 i1 := e1
  have eR : pR P = P.2.1 i2 := e2
  have eB : pB P = P.2.2 i3 := e3
  have eT : pT P = P.2.2 i4 := e4
  have n0 : (-0 : Int32) = 0 := by decide
  have c1 : (0 : Int32) < pL P ↔ ¬ pL P = 0 := by rw [i32_lt, i32_eq, e0, eL]; omega
  have c2 : pR P < w + 0 ↔ ¬ pR P = w := by rw [Int32.add_zero, i32_lt, i32_eq, eR]; omega
  have c3 : (0 : Int32) < pB P ↔ ¬ pB P = 0 := by rw [i32_lt, i32_eq, e0, eB]; omega
  have c4 : pT P < h + 0 ↔ ¬ pT P = h := by rw [Int32.add_zero, i32_lt, i32_eq, eT]; omega
  unfold mWb pTouched
  rw [n0]
  simp only [c1, c2, c3, c4, ite_not]
def inL (v lo hi : Int64) : Bool := if lg_cmp v lo < 0 then false else if 0 < lg_cmp v hi then false else true
theorem lg_neg {a b : Int64} : lg_cmp a b < 0 ↔ a.toInt < b.toInt := by
  unfold lg_cmp
  by_cases h1 : b < a
  · rw [if_pos h1]
    rw [Int64.lt_iff_toInt_lt] at h1
    constructor
    · intro q; exact absurd q (by decide)
    · intro q; omega
  · rw [if_neg h1]
    by_cases h2 : a = b
    · rw [if_pos h2, h2]
      constructor
      · intro q; exact absurd q (by decide)
      · intro q; omega
    · rw [if_neg h2]
      rw [Int64.lt_iff_toInt_lt] at h1
      have h3 : a.toInt ≠ b.toInt := fun e => h2 (Int64.toInt_inj.mp e)
      constructor
      · intro _; omega
      · intro _; decide
theorem lg_pos {a b : Int64} : 0 < lg_cmp a b ↔ b.toInt < a.toInt := by
  unfold lg_cmp
  by_cases h1 : b < a
  · rw [if_pos h1]
    rw [Int64.lt_iff_toInt_lt] at h1
    exact ⟨fun _ => h1, fun _ => by decide⟩
  · rw [if_neg h1]
    rw [Int64.lt_iff_toInt_lt] at h1
    by_cases h2 : a = b
    · rw [if_pos h2]
      exact ⟨fun q => absurd q (by decide), fun q => absurd q h1⟩
    · rw [if_neg h2]
      exact ⟨fun q => absurd q (by decide), fun q => absurd q h1⟩
theorem inL_iff {v lo hi : Int64} : inL v lo hi = true ↔ lo.toInt ≤ v.toInt ∧ v.toInt ≤ hi.toInt := by
  unfold inL
  by_cases h1 : lg_cmp v lo < 0
  · rw [if_pos h1]
    rw [lg_neg] at h1
    constructor
    · intro q; cases q
    · intro q; omega
  · rw [if_neg h1]
    rw [lg_neg] at h1
    by_cases h2 : 0 < lg_cmp v hi
    · rw [if_pos h2]
      rw [lg_pos] at h2
      constructor
      · intro q; cases q
      · intro q; omega
    · rw [if_neg h2]
      rw [lg_pos] at h2
      exact ⟨fun _ => by omega, fun _ => rfl⟩
theorem inL_num {v a b : Int32} {lo hi : Int64} (h1 : lo.toInt = a.toInt) (h2 : hi.toInt = b.toInt) : inL v.toInt64 lo hi = (decide (a ≤ v) && decide (v ≤ b)) := by
  have h := inL_iff (v := v.toInt64) (lo := lo) (hi := hi)
  rw [Int32.toInt_toInt64, h1, h2, ← i32_le, ← i32_le] at h
  cases h3 : inL v.toInt64 lo hi with
  | true => have := h.mp h3; simp [this]
  | false =>
    cases h4 : (decide (a ≤ v) && decide (v ≤ b)) with
    | false => rfl
    | true => rw [h.mpr (by simpa using h4)] at h3; cases h3
theorem inL_has {n : Nat} (hn : n ≤ 8) (v : Int32) : inL v.toInt64 0 ((nI n).toInt64 - 1) = hasB n v := by
  have e1 : ∀ n, n ≤ 8 → ((nI n).toInt64 - 1).toInt = (n : Int) - 1 := by decide
  have h := inL_iff (v := v.toInt64) (lo := 0) (hi := (nI n).toInt64 - 1)
  rw [Int32.toInt_toInt64, e1 n hn, show (0 : Int64).toInt = 0 by decide] at h
  have h2 : hasB n v = true ↔ 0 ≤ v.toInt ∧ v.toInt < n := by
    unfold hasB
    have e0 : (0 : Int32).toInt = 0 := by decide
    have e3 := nI_toInt (n := n) (by omega)
    by_cases q : v < 0
    · rw [if_pos q]; rw [i32_lt, e0] at q
      exact ⟨fun z => absurd z Bool.false_ne_true, fun z => by omega⟩
    · rw [if_neg q]; rw [i32_lt, e0] at q
      by_cases r : nI n ≤ v
      · rw [if_pos r]; rw [i32_le, e3] at r
        exact ⟨fun z => absurd z Bool.false_ne_true, fun z => by omega⟩
      · rw [if_neg r]; rw [i32_le, e3] at r
        exact ⟨fun _ => by omega, fun _ => rfl⟩
  cases h3 : inL v.toInt64 0 ((nI n).toInt64 - 1) with
  | true => exact (h2.mpr (by have := h.mp h3; omega)).symm
  | false =>
    cases h4 : hasB n v with
    | false => rfl
    | true => rw [h.mpr (by have := h2.mp h4; omega)] at h3; cases h3
theorem inL_dir (v : Int32) : inL v.toInt64 0 7 = isDir v := by
  have h := inL_has (n := 8) (by omega) v
  rw [show (nI 8).toInt64 - 1 = 7 by decide] at h
  exact h
theorem inL_sz (v : Int32) : inL v.toInt64 10 60 = isSz v := by
  rw [inL_num (a := 10) (b := 60) (by decide) (by decide)]
  unfold isSz
  by_cases h : v < 10
  · rw [if_pos h, decide_eq_false (Int32.not_le.mpr h)]; rfl
  · rw [if_neg h, decide_eq_true (Int32.not_lt.mp h)]
    by_cases h2 : 60 < v
    · rw [if_pos h2, decide_eq_false (Int32.not_le.mpr h2)]; rfl
    · rw [if_neg h2, decide_eq_true (Int32.not_lt.mp h2)]; rfl
theorem stX_0 : ∀ d, d < 8 → d = 2 ∨ d = 6 → stX d = 0 := by decide
theorem stX_m : ∀ d, d < 8 → 2 < d → d < 6 → stX d = -1 := by decide
theorem stX_1 : ∀ d, d < 8 → ¬ d = 2 → ¬ d = 6 → ¬ (2 < d ∧ d < 6) → stX d = 1 := by decide
theorem stY_0 : ∀ d, d < 8 → d % 4 = 0 → stY d = 0 := by decide
theorem stY_1 : ∀ d, d < 8 → ¬ d % 4 = 0 → d < 4 → stY d = 1 := by decide
theorem stY_m : ∀ d, d < 8 → ¬ d % 4 = 0 → ¬ d < 4 → stY d = -1 := by decide
theorem opI_ne1 {o : Option Nat} (h : ∀ k, o = some k → k < 2 ^ 31) : opI o = -1 ↔ o = none := by
  cases o with
  | none => exact ⟨fun _ => rfl, fun _ => rfl⟩
  | some k =>
    refine ⟨fun e => ?_, fun e => by cases e⟩
    have := nI_pos (h k rfl)
    rw [show opI (some k) = nI k from rfl] at e
    rw [e] at this
    exact absurd (by decide) this
theorem ovF_8 {s : St} {P : Py} {k : Nat} (hk : k < 8) : ovF s P (nI 8) k = ovF s P (-1) k := by
  unfold ovF
  have e1 : ¬ nI k = nI 8 := by rw [nI_eq (by omega) (by decide)]; omega
  have e2 : ¬ nI k = -1 := by
    intro e
    have := nI_pos (n := k) (by omega)
    rw [e] at this
    exact absurd (by decide) this
  rw [decide_eq_true e1, decide_eq_true e2]
theorem ovS_8 {s : St} {P : Py} (h8 : s.1 ≤ 8) : ovS s P (nI 8) = ovS s P (-1) := bsT_congr _ (fun j hj => ovF_8 (by omega))
theorem fsN_1 {s : St} {k d : Nat} : frF s k d = okS s (mvP (s.2.2.2 k) (stX d) (stY d)) k := by
  unfold frF fsN
  simp only [fsT]
  have e : fkF s k d 0 = !okS s (mvP (s.2.2.2 k) (stX d) (stY d)) k := rfl
  rw [e]
  cases okS s (mvP (s.2.2.2 k) (stX d) (stY d)) k <;> simp
theorem am_step {f : Nat → Int32} {k : Nat} : (if f (k + 1) ≤ f (amT f k) then nI (amT f k) else nI (k + 1)) = nI (amT f (k + 1)) := by
  simp only [amT]
  by_cases h : f (k + 1) ≤ f (amT f k)
  · rw [if_pos h, if_neg (Int32.not_lt.mpr h)]
  · rw [if_neg h, if_pos (Int32.not_le.mp h)]
theorem sep_lt {P Q : Py} {t : Int32} (h : P.1 ≤ 6) : ∀ k, pSep P Q t = some k → k < 2 ^ 31 := fun k hk => by
  have := (fsT_some hk).1
  omega
theorem ip_f {o : Option Nat} (h : ∀ k, o = some k → k < 2 ^ 31) (c : opI o = -1) : o.isSome = false := by
  rw [(opI_ne1 h).mp c]; rfl
theorem ip_t {o : Option Nat} (h : ∀ k, o = some k → k < 2 ^ 31) (c : ¬ opI o = -1) : o.isSome = true := by
  cases o with
  | some k => rfl
  | none => exact absurd rfl c
theorem no_or {a b : Option Nat} (h : (a.isSome || b.isSome) = true) : (a.isNone && b.isNone) = false := by
  cases a <;> cases b <;> simp at h ⊢
theorem no_or2 {a b : Option Nat} (h : (a.isSome || b.isSome) = false) : (a.isNone && b.isNone) = true := by
  cases a <;> cases b <;> simp at h ⊢
