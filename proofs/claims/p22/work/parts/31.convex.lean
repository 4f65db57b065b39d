/-! LEFT TURNS ONCE ROUND ARE CONVEX: periodic sequences of vectors -/
def cr2 (px py qx qy : Int) : Int := px * qy - py * qx
def UpZ (x y : Int) : Prop := 0 < y ∨ (y = 0 ∧ 0 < x)
/-- in a half plane the turns are transitive -/
theorem cr_trans {px py qx qy rx ry : Int} (hp : UpZ px py) (hq : UpZ qx qy) (hr : UpZ rx ry) (h1 : 0 ≤ cr2 px py qx qy) (h2 : 0 < cr2 qx qy rx ry) : 0 < cr2 px py rx ry := by
  have key : qy * cr2 px py rx ry = py * cr2 qx qy rx ry + ry * cr2 px py qx qy := by unfold cr2; grind
  have hry : 0 ≤ ry := by rcases hr with h | h <;> omega
  have hpy : 0 ≤ py := by rcases hp with h | h <;> omega
  have flat : py = 0 → 0 < ry → 0 < cr2 px py rx ry := by
    intro e hr2
    have hpx : 0 < px := by rcases hp with h | h <;> omega
    unfold cr2
    rw [e, Int.zero_mul, Int.sub_zero]
    exact Int.mul_pos hpx hr2
  rcases hq with hqy | ⟨hqy, hqx⟩
  · by_cases e : py = 0
    · refine flat e ?_
      apply Classical.byContradiction
      intro hn
      have hr0 : ry = 0 := by omega
      have hrx : 0 < rx := by rcases hr with h | h <;> omega
      unfold cr2 at h2
      rw [hr0, Int.mul_zero] at h2
      have := Int.mul_pos hqy hrx
      omega
    · have h3 := Int.mul_pos (show 0 < py by omega) h2
      have h4 := Int.mul_nonneg hry h1
      apply Classical.byContradiction
      intro hn
      have h5 : qy * cr2 px py rx ry ≤ 0 := Int.mul_nonpos_of_nonneg_of_nonpos (Int.le_of_lt hqy) (by omega)
      omega
  · have e : py = 0 := by
      unfold cr2 at h1
      rw [hqy, Int.mul_zero] at h1
      apply Classical.byContradiction
      intro hn
      have := Int.mul_pos (show 0 < py by omega) hqx
      omega
    refine flat e ?_
    unfold cr2 at h2
    rw [hqy, Int.zero_mul, Int.sub_zero] at h2
    apply Classical.byContradiction
    intro hn
    have hr0 : ry = 0 := by omega
    rw [hr0, Int.mul_zero] at h2
    omega
theorem cr_neg {px py qx qy : Int} : cr2 (-px) (-py) (-qx) (-qy) = cr2 px py qx qy := by unfold cr2; grind
theorem cr_negr {px py qx qy : Int} : cr2 px py (-qx) (-qy) = -cr2 px py qx qy := by unfold cr2; grind
theorem cr_swap {px py qx qy : Int} : cr2 qx qy px py = -cr2 px py qx qy := by unfold cr2; grind
theorem up_neg {x y : Int} (h : ¬ (x = 0 ∧ y = 0)) : UpZ (-x) (-y) ↔ ¬ UpZ x y := by unfold UpZ; omega
def rise (X Y : Nat → Int) (i : Nat) : Prop := ¬ UpZ (X i) (Y i) ∧ UpZ (X (i + 1)) (Y (i + 1))
theorem rise_ex {X Y : Nat → Int} {a : Nat} : ∀ m, ¬ UpZ (X a) (Y a) → UpZ (X (a + m)) (Y (a + m)) → ∃ r, r < m ∧ rise X Y (a + r) := by
  intro m
  induction m with
  | zero => intro h1 h2; exact absurd h2 h1
  | succ m ih =>
    intro h1 h2
    by_cases q : UpZ (X (a + m)) (Y (a + m))
    · obtain ⟨r, h3, h4⟩ := ih h1 q
      exact ⟨r, by omega, h4⟩
    · exact ⟨m, by omega, q, h2⟩
theorem up_chain {X Y : Nat → Int} {a : Nat} (hT : ∀ i, 0 < cr2 (X i) (Y i) (X (i + 1)) (Y (i + 1))) : ∀ m, (∀ t, t ≤ m → UpZ (X (a + t)) (Y (a + t))) → 0 ≤ cr2 (X a) (Y a) (X (a + m)) (Y (a + m)) ∧ (0 < m → 0 < cr2 (X a) (Y a) (X (a + m)) (Y (a + m))) := by
  intro m
  induction m with
  | zero => intro _; exact ⟨by show 0 ≤ X a * Y a - Y a * X a; rw [Int.mul_comm (Y a), Int.sub_self]; exact Int.le_refl 0, fun h => absurd h (Nat.lt_irrefl 0)⟩
  | succ m ih =>
    intro h
    have h1 := ih (fun t ht => h t (by omega))
    have h2 := cr_trans (h 0 (by omega)) (h m (by omega)) (h (m + 1) (Nat.le_refl _)) h1.1 (hT (a + m))
    exact ⟨Int.le_of_lt h2, fun _ => h2⟩
theorem mod_apart {n a b : Nat} (h : a < b) (h2 : b < a + n) : ¬ a % n = b % n := by
  intro e
  have h3 : (b - a) % n = 0 := Nat.sub_mod_eq_zero_of_mod_eq e.symm
  rw [Nat.mod_eq_of_lt (by omega)] at h3
  omega
/-- once past the half turn, always past it: from an up-edge -/
theorem past_up {n k : Nat} {X Y : Nat → Int} (hp : ∀ i, X (i + n) = X i ∧ Y (i + n) = Y i) (hT : ∀ i, 0 < cr2 (X i) (Y i) (X (i + 1)) (Y (i + 1)))
    (h1 : ∀ i j, rise X Y i → rise X Y j → i % n = j % n) (hu : UpZ (X k) (Y k)) {i : Nat} (hi : 1 ≤ i) (hn : i + 1 < n) (hc : cr2 (X k) (Y k) (X (k + i)) (Y (k + i)) ≤ 0) :
    cr2 (X k) (Y k) (X (k + (i + 1))) (Y (k + (i + 1))) < 0 := by
  have hun : UpZ (X (k + n)) (Y (k + n)) := by rw [(hp k).1, (hp k).2]; exact hu
  have nz : ∀ j, ¬ (X j = 0 ∧ Y j = 0) := by
    intro j hz
    have := hT j
    unfold cr2 at this
    rw [hz.1, hz.2, Int.zero_mul, Int.zero_mul] at this
    omega
  have hm : ∃ m, m ≤ i ∧ ¬ UpZ (X (k + m)) (Y (k + m)) := by
    apply Classical.byContradiction
    intro hno
    have := (up_chain (X := X) (Y := Y) (a := k) hT i (fun t ht => Classical.byContradiction (fun z => hno ⟨t, ht, z⟩))).2 (by omega)
    omega
  obtain ⟨m, hm1, hm2⟩ := hm
  have later : ∀ t, i + 1 ≤ t → t < n → ¬ UpZ (X (k + t)) (Y (k + t)) → ∃ r, t ≤ r ∧ r < n ∧ rise X Y (k + r) := by
    intro t ht1 ht2 hd
    obtain ⟨r, g1, g2⟩ := rise_ex (X := X) (Y := Y) (a := k + t) (n - t) hd (by rw [show k + t + (n - t) = k + n by omega]; exact hun)
    exact ⟨t + r, by omega, by omega, by rw [show k + (t + r) = k + t + r by omega]; exact g2⟩
  have earlier : ∀ t, m ≤ t → UpZ (X (k + t)) (Y (k + t)) → ∃ r, m ≤ r ∧ r < t ∧ rise X Y (k + r) := by
    intro t ht hd
    obtain ⟨r, g1, g2⟩ := rise_ex (X := X) (Y := Y) (a := k + m) (t - m) hm2 (by rw [show k + m + (t - m) = k + t by omega]; exact hd)
    exact ⟨m + r, by omega, by omega, by rw [show k + (m + r) = k + m + r by omega]; exact g2⟩
  by_cases hU : UpZ (X (k + (i + 1))) (Y (k + (i + 1)))
  · obtain ⟨r, r1, r2, r3⟩ := earlier (i + 1) (by omega) hU
    have hall : ∀ t, t ≤ n - (i + 1) → UpZ (X (k + (i + 1) + t)) (Y (k + (i + 1) + t)) := by
      intro t ht
      apply Classical.byContradiction
      intro hd
      by_cases q : i + 1 + t < n
      · obtain ⟨r', q1, q2, q3⟩ := later (i + 1 + t) (by omega) q (by rw [show k + (i + 1 + t) = k + (i + 1) + t by omega]; exact hd)
        exact mod_apart (a := k + r) (b := k + r') (n := n) (by omega) (by omega) (h1 _ _ r3 q3)
      · rw [show k + (i + 1) + t = k + n by omega] at hd
        exact hd hun
    have h2 := (up_chain (X := X) (Y := Y) (a := k + (i + 1)) hT (n - (i + 1)) hall).2 (by omega)
    rw [show k + (i + 1) + (n - (i + 1)) = k + n by omega, (hp k).1, (hp k).2, cr_swap] at h2
    omega
  · by_cases hV : UpZ (X (k + i)) (Y (k + i))
    · exfalso
      obtain ⟨r, r1, r2, r3⟩ := earlier i hm1 hV
      obtain ⟨r', q1, q2, q3⟩ := later (i + 1) (Nat.le_refl _) hn hU
      exact mod_apart (a := k + r) (b := k + r') (n := n) (by omega) (by omega) (h1 _ _ r3 q3)
    · have h2 := cr_trans hu ((up_neg (nz _)).mpr hV) ((up_neg (nz _)).mpr hU) (by rw [cr_negr]; omega) (by rw [cr_neg]; exact hT (k + i))
      rw [cr_negr] at h2
      omega
/-- only one fall, if only one rise -/
theorem fall_one {n : Nat} {X Y : Nat → Int} (h0 : 0 < n) (hp : ∀ i, X (i + n) = X i ∧ Y (i + n) = Y i) (h1 : ∀ i j, rise X Y i → rise X Y j → i % n = j % n)
    {i j : Nat} (hi : UpZ (X i) (Y i) ∧ ¬ UpZ (X (i + 1)) (Y (i + 1))) (hj : UpZ (X j) (Y j) ∧ ¬ UpZ (X (j + 1)) (Y (j + 1))) (hij : i < j) (hn : j < i + n) : False := by
  obtain ⟨r, g1, g2⟩ := rise_ex (X := X) (Y := Y) (a := i + 1) (j - (i + 1)) hi.2 (by
    rw [show i + 1 + (j - (i + 1)) = j by omega]; exact hj.1)
  obtain ⟨t, q1, q2⟩ := rise_ex (X := X) (Y := Y) (a := j + 1) (i + n - (j + 1)) hj.2 (by
    rw [show j + 1 + (i + n - (j + 1)) = i + n by omega, (hp i).1, (hp i).2]; exact hi.1)
  exact mod_apart (a := i + 1 + r) (b := j + 1 + t) (n := n) (by omega) (by omega) (h1 _ _ g2 q2)
theorem per_mul {n : Nat} {X : Nat → Int} (hp : ∀ i, X (i + n) = X i) : ∀ c i, X (i + n * c) = X i := by
  intro c
  induction c with
  | zero => intro i; rfl
  | succ c ih => intro i; rw [Nat.mul_succ, ← Nat.add_assoc, hp, ih]
theorem per_mod {n : Nat} {X : Nat → Int} (hp : ∀ i, X (i + n) = X i) (i : Nat) : X i = X (i % n) := by
  have h := per_mul hp (i / n) (i % n)
  rw [Nat.mod_add_div] at h
  exact h
theorem past_half {n k : Nat} {X Y : Nat → Int} (hp : ∀ i, X (i + n) = X i ∧ Y (i + n) = Y i) (hT : ∀ i, 0 < cr2 (X i) (Y i) (X (i + 1)) (Y (i + 1)))
    (h1 : ∀ i j, rise X Y i → rise X Y j → i % n = j % n) {i : Nat} (hi : 1 ≤ i) (hn : i + 1 < n) (hc : cr2 (X k) (Y k) (X (k + i)) (Y (k + i)) ≤ 0) :
    cr2 (X k) (Y k) (X (k + (i + 1))) (Y (k + (i + 1))) < 0 := by
  by_cases hu : UpZ (X k) (Y k)
  · exact past_up hp hT h1 hu hi hn hc
  · have nz : ∀ j, ¬ (X j = 0 ∧ Y j = 0) := by
      intro j hz
      have := hT j
      unfold cr2 at this
      rw [hz.1, hz.2, Int.zero_mul, Int.zero_mul] at this
      omega
    have hrev : ∀ i, rise (fun j => -X j) (fun j => -Y j) i → UpZ (X i) (Y i) ∧ ¬ UpZ (X (i + 1)) (Y (i + 1)) := by
      intro i hr
      exact ⟨Classical.byContradiction (fun z => hr.1 ((up_neg (nz i)).mpr z)), (up_neg (nz (i + 1))).mp hr.2⟩
    have hpX : ∀ i, X (i + n) = X i := fun i => (hp i).1
    have hpY : ∀ i, Y (i + n) = Y i := fun i => (hp i).2
    have hm : ∀ i, UpZ (X i) (Y i) ∧ ¬ UpZ (X (i + 1)) (Y (i + 1)) → UpZ (X (i % n)) (Y (i % n)) ∧ ¬ UpZ (X (i % n + 1)) (Y (i % n + 1)) := by
      intro i hf
      have e1 : X (i + 1) = X (i % n + 1) := by rw [per_mod hpX (i + 1), per_mod hpX (i % n + 1), Nat.mod_add_mod]
      have e2 : Y (i + 1) = Y (i % n + 1) := by rw [per_mod hpY (i + 1), per_mod hpY (i % n + 1), Nat.mod_add_mod]
      rw [← e1, ← e2, ← per_mod hpX i, ← per_mod hpY i]
      exact hf
    have h2 : ∀ i j, rise (fun j => -X j) (fun j => -Y j) i → rise (fun j => -X j) (fun j => -Y j) j → i % n = j % n := by
      intro i j hi2 hj2
      have a := hm i (hrev i hi2)
      have b := hm j (hrev j hj2)
      have li := Nat.mod_lt i (show 0 < n by omega)
      have lj := Nat.mod_lt j (show 0 < n by omega)
      rcases Nat.lt_trichotomy (i % n) (j % n) with q | q | q
      · exact (fall_one (by omega) hp h1 a b q (by omega)).elim
      · exact q
      · exact (fall_one (by omega) hp h1 b a q (by omega)).elim
    have h3 := past_up (k := k) (X := fun j => -X j) (Y := fun j => -Y j) (fun i => ⟨by rw [(hp i).1], by rw [(hp i).2]⟩) (fun i => by rw [cr_neg]; exact hT i) h2 ((up_neg (nz k)).mpr hu) hi hn (by rw [cr_neg]; exact hc)
    rw [cr_neg] at h3
    exact h3
