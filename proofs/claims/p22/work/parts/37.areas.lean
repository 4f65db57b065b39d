/-! THE AREAS OF A STATE -/
def uZ (P : Py) (i : Nat) : Int := (P.2.1 (i % P.1)).toInt
def vZ (P : Py) (i : Nat) : Int := (P.2.2 (i % P.1)).toInt
theorem sm_toInt {f : Nat → Int32} {B : Int} (hB : 0 ≤ B) : ∀ n : Nat, n * B ≤ 500000 → (∀ k, k < n → -B ≤ (f k).toInt ∧ (f k).toInt ≤ B) → (smT f n).toInt = suZ (fun k => (f k).toInt) n ∧ -(n * B) ≤ (smT f n).toInt ∧ (smT f n).toInt ≤ n * B := by
  intro n
  induction n with
  | zero => intro _ _; refine ⟨rfl, ?_, ?_⟩ <;> simp [smT]
  | succ n ih =>
    intro hn h
    have e : ((n + 1 : Nat) : Int) * B = n * B + B := by rw [show ((n + 1 : Nat) : Int) = (n : Int) + 1 by omega, Int.add_mul, Int.one_mul]
    rw [e] at hn ⊢
    have hnb := Int.mul_nonneg (Int.natCast_nonneg n) hB
    obtain ⟨h1, h2, h3⟩ := ih (by omega) (fun k hk => h k (by omega))
    have h4 := h n (by omega)
    have h5 := i32_add (n := 500000) (a := smT f n) (b := f n) (by omega) (by omega) (by omega)
    show (smT f n + f n).toInt = suZ (fun k => (f k).toInt) n + (f n).toInt ∧ _
    refine ⟨by rw [h5, h1], ?_, ?_⟩
    · show _ ≤ (smT f n + f n).toInt; omega
    · show (smT f n + f n).toInt ≤ _; omega
theorem uZ_nx {P : Py} (h0 : 0 < P.1) {k : Nat} (hk : k < P.1) : uZ P (k + 1) = (P.2.1 (nx P.1 k)).toInt ∧ vZ P (k + 1) = (P.2.2 (nx P.1 k)).toInt ∧ uZ P k = (P.2.1 k).toInt ∧ vZ P k = (P.2.2 k).toInt := by
  unfold uZ vZ
  rw [nx_mod hk, Nat.mod_eq_of_lt hk]
  exact ⟨rfl, rfl, rfl, rfl⟩
theorem tele {g : Nat → Int} : ∀ n, suZ (fun k => g (k + 1) - g k) n = g n - g 0 := by
  intro n
  induction n with
  | zero => simp [suZ]
  | succ n ih => simp only [suZ]; rw [ih]; omega
theorem suZ_sub {f g : Nat → Int} : ∀ n, suZ (fun k => f k - g k) n = suZ f n - suZ g n := by
  intro n
  induction n with
  | zero => rfl
  | succ n ih => simp only [suZ]; rw [ih]; omega
theorem area_int {P : Py} {w h : Int32} (hP : WfB P w h) (hb : BoxOk w h) (h6 : P.1 ≤ 6) : (pArea P).toInt = arZ P.1 (uZ P) (vZ P) ∧ -43200 ≤ (pArea P).toInt ∧ (pArea P).toInt ≤ 43200 := by
  have h3 := hP.1
  have h0 : 0 < P.1 := by omega
  unfold BoxOk at hb
  have bd : ∀ k, k < P.1 → (0 ≤ (P.2.1 k).toInt ∧ (P.2.1 k).toInt ≤ 60) ∧ (0 ≤ (P.2.2 k).toInt ∧ (P.2.2 k).toInt ≤ 60) := fun k hk => by have := hP.2 k hk; omega
  have pr : ∀ a b : Int32, 0 ≤ a.toInt ∧ a.toInt ≤ 60 → 0 ≤ b.toInt ∧ b.toInt ≤ 60 → (a * b).toInt = a.toInt * b.toInt ∧ 0 ≤ a.toInt * b.toInt ∧ a.toInt * b.toInt ≤ 3600 := by
    intro a b ha hb
    refine ⟨i32_mul (by omega) (by omega), Int.mul_nonneg ha.1 hb.1, ?_⟩
    have := Int.mul_le_mul ha.2 hb.2 hb.1 (by decide)
    omega
  have one : ∀ k, k < P.1 → (pAf P k).toInt = uZ P k * vZ P (k + 1) - uZ P (k + 1) * vZ P k ∧ -7200 ≤ (pAf P k).toInt ∧ (pAf P k).toInt ≤ 7200 := by
    intro k hk
    have hx := nx_lt hk
    obtain ⟨e1, e2, e3, e4⟩ := uZ_nx h0 hk
    obtain ⟨a1, a2, a3⟩ := pr (P.2.1 k) (P.2.2 (nx P.1 k)) (bd _ hk).1 (bd _ hx).2
    obtain ⟨b1, b2, b3⟩ := pr (P.2.1 (nx P.1 k)) (P.2.2 k) (bd _ hx).1 (bd _ hk).2
    have e := i32_sub (n := 3600) (a := P.2.1 k * P.2.2 (nx P.1 k)) (b := P.2.1 (nx P.1 k) * P.2.2 k) (by omega) (by omega) (by omega)
    rw [e1, e2, e3, e4]
    unfold pAf
    rw [e, a1, b1]
    omega
  have hs := sm_toInt (f := pAf P) (B := 7200) (by decide) P.1 (by omega) (fun k hk => (one k hk).2)
  refine ⟨?_, by have := hs.2; unfold pArea; omega, by have := hs.2; unfold pArea; omega⟩
  unfold pArea
  rw [hs.1, suZ_congr P.1 (fun k hk => (one k hk).1)]
  unfold arZ
  have t := tele (g := fun k => uZ P k * vZ P k) P.1
  have z : uZ P P.1 * vZ P P.1 = uZ P 0 * vZ P 0 := by
    unfold uZ vZ
    rw [Nat.mod_self, Nat.zero_mod]
  have d := suZ_sub (f := fun k => (uZ P k + uZ P (k + 1)) * (vZ P (k + 1) - vZ P k)) (g := fun k => uZ P k * vZ P (k + 1) - uZ P (k + 1) * vZ P k) P.1
  have same : suZ (fun k => (uZ P k + uZ P (k + 1)) * (vZ P (k + 1) - vZ P k) - (uZ P k * vZ P (k + 1) - uZ P (k + 1) * vZ P k)) P.1 = suZ (fun k => uZ P (k + 1) * vZ P (k + 1) - uZ P k * vZ P k) P.1 := suZ_congr P.1 (fun k _ => by grind)
  rw [same] at d
  have t2 : suZ (fun k => uZ P (k + 1) * vZ P (k + 1) - uZ P k * vZ P k) P.1 = uZ P P.1 * vZ P P.1 - uZ P 0 * vZ P 0 := t
  omega
theorem cvZ_of {P : Py} (hS : Smal P) (hc : Cvx P) : CvZ P.1 (uZ P) (vZ P) := by
  have h3 := hS.1
  have h0 : 0 < P.1 := by omega
  have red : ∀ k j, crZ (uZ P k) (vZ P k) (uZ P (k + 1)) (vZ P (k + 1)) (uZ P j) (vZ P j) = (pC P (k % P.1) P (j % P.1)).toInt := by
    intro k j
    have hk := Nat.mod_lt k h0
    have hj := Nat.mod_lt j h0
    have hx := nx_lt hk
    unfold pC
    rw [crs_toInt (hS.2 _ hk).1 (hS.2 _ hk).2 (hS.2 _ hx).1 (hS.2 _ hx).2 (hS.2 _ hj).1 (hS.2 _ hj).2]
    have e1 : (k + 1) % P.1 = nx P.1 (k % P.1) := by rw [← nx_mod hk, Nat.mod_add_mod]
    unfold uZ vZ
    rw [e1]
  have pos : ∀ k j, ¬ j % P.1 = k % P.1 → ¬ j % P.1 = (k + 1) % P.1 → 0 < crZ (uZ P k) (vZ P k) (uZ P (k + 1)) (vZ P (k + 1)) (uZ P j) (vZ P j) := by
    intro k j h1 h2
    have hk := Nat.mod_lt k h0
    have e1 : (k + 1) % P.1 = nx P.1 (k % P.1) := by rw [← nx_mod hk, Nat.mod_add_mod]
    have := hc (k % P.1) (j % P.1) hk (Nat.mod_lt j h0) h1 (by rw [← e1]; exact h2)
    rw [i32_lt, show (0 : Int32).toInt = 0 by decide] at this
    rw [red]
    exact this
  refine ⟨h3, fun i => by unfold uZ; rw [Nat.add_mod_right], fun i => by unfold vZ; rw [Nat.add_mod_right], fun k j => ?_, pos⟩
  by_cases h1 : j % P.1 = k % P.1
  · have e : uZ P j = uZ P k ∧ vZ P j = vZ P k := by unfold uZ vZ; rw [h1]; exact ⟨rfl, rfl⟩
    rw [e.1, e.2]
    unfold crZ
    rw [Int.sub_self, Int.sub_self]
    simp
  · by_cases h2 : j % P.1 = (k + 1) % P.1
    · have e : uZ P j = uZ P (k + 1) ∧ vZ P j = vZ P (k + 1) := by unfold uZ vZ; rw [h2]; exact ⟨rfl, rfl⟩
      rw [e.1, e.2]
      unfold crZ
      rw [Int.mul_comm, Int.sub_self]
      exact Int.le_refl 0
    · exact Int.le_of_lt (pos k j h1 h2)
theorem parZ_of {P Q : Py} (hP : Smal P) (hQ : Smal Q) (h : ovl P Q = false) : ParZ (uZ P) (vZ P) (uZ Q) (vZ Q) ∨ ParZ (uZ Q) (vZ Q) (uZ P) (vZ P) := by
  have go : ∀ P Q : Py, Smal P → Smal Q → (pSep P Q 0).isNone = false → ParZ (uZ P) (vZ P) (uZ Q) (vZ Q) := by
    intro P Q hP hQ hn
    cases hs : pSep P Q 0 with
    | none => rw [hs] at hn; cases hn
    | some k =>
      obtain ⟨h1, h2, _⟩ := fsT_some hs
      have h3 := hP.1
      have h4 := hQ.1
      obtain ⟨e1, e2, e3, e4⟩ := uZ_nx (P := P) (by omega) h1
      refine ⟨k, fun i => ?_⟩
      have hi := Nat.mod_lt i (show 0 < Q.1 by omega)
      have hx := nx_lt h1
      have h5 := mxT_ge (pC P k Q) (Q.1 - 1) (i % Q.1) (by omega)
      have h6 := of_decide_eq_true h2
      unfold pReach at h6
      rw [i32_le] at h5 h6
      rw [show (0 : Int32).toInt = 0 by decide] at h6
      have h7 : (pC P k Q (i % Q.1)).toInt ≤ 0 := by omega
      unfold pC at h7
      rw [crs_toInt (hP.2 _ h1).1 (hP.2 _ h1).2 (hP.2 _ hx).1 (hP.2 _ hx).2 (hQ.2 _ hi).1 (hQ.2 _ hi).2] at h7
      rw [e1, e2, e3, e4]
      exact h7
  unfold ovl at h
  cases ha : (pSep P Q 0).isNone with
  | false => exact Or.inl (go P Q hP hQ ha)
  | true =>
    rw [ha, Bool.true_and] at h
    exact Or.inr (go Q P hQ hP h)
theorem ar_pos {n : Nat} {U V : Nat → Int} (hc : CvZ n U V) : 0 < arZ n U V := by
  obtain ⟨h3, hU, hV, h0, h1⟩ := hc
  have e : arZ n U V = suZ (fun k => crZ (U k) (V k) (U (k + 1)) (V (k + 1)) (U 0) (V 0)) n := by
    have t := tele (g := fun k => U k * V k - U k * V 0 + U 0 * V k) n
    have d := suZ_sub (f := fun k => (U k + U (k + 1)) * (V (k + 1) - V k)) (g := fun k => crZ (U k) (V k) (U (k + 1)) (V (k + 1)) (U 0) (V 0)) n
    have same : suZ (fun k => (U k + U (k + 1)) * (V (k + 1) - V k) - crZ (U k) (V k) (U (k + 1)) (V (k + 1)) (U 0) (V 0)) n = suZ (fun k => (U (k + 1) * V (k + 1) - U (k + 1) * V 0 + U 0 * V (k + 1)) - (U k * V k - U k * V 0 + U 0 * V k)) n := suZ_congr n (fun k _ => by unfold crZ; grind)
    rw [same, t] at d
    have z1 : U n = U 0 := by have := hU 0; rw [Nat.zero_add] at this; exact this
    have z2 : V n = V 0 := by have := hV 0; rw [Nat.zero_add] at this; exact this
    simp only [z1, z2] at d
    unfold arZ
    omega
  rw [e]
  have h2 := h1 1 0 (by rw [Nat.zero_mod, Nat.mod_eq_of_lt (show 1 < n by omega)]; decide) (by rw [Nat.zero_mod, Nat.mod_eq_of_lt (show 1 + 1 < n by omega)]; decide)
  have h5 : suZ (fun k => if k = 1 then crZ (U 1) (V 1) (U (1 + 1)) (V (1 + 1)) (U 0) (V 0) else 0) n ≤ suZ (fun k => crZ (U k) (V k) (U (k + 1)) (V (k + 1)) (U 0) (V 0)) n := suZ_le n (fun k _ => by
    by_cases q : k = 1
    · rw [if_pos q, q]; exact Int.le_refl _
    · rw [if_neg q]; exact h0 k 0)
  rw [suZ_at (a := 1) n (fun k _ hk => if_neg hk), if_pos (by omega), if_pos rfl] at h5
  omega
