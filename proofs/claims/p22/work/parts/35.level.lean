/-! ONE BODY AT ONE HALF HEIGHT -/
def CvZ (n : Nat) (U V : Nat → Int) : Prop := 3 ≤ n ∧ (∀ i, U (i + n) = U i) ∧ (∀ i, V (i + n) = V i) ∧ (∀ k j, 0 ≤ crZ (U k) (V k) (U (k + 1)) (V (k + 1)) (U j) (V j)) ∧ (∀ k j, ¬ j % n = k % n → ¬ j % n = (k + 1) % n → 0 < crZ (U k) (V k) (U (k + 1)) (V (k + 1)) (U j) (V j))
def qv (d : Int) : Int := if 0 < d then ((DD / d.toNat : Nat) : Int) else -((DD / (-d).toNat : Nat) : Int)
theorem qv_mul {d : Int} (h : ¬ d = 0) (h1 : -60 ≤ d) (h2 : d ≤ 60) : qv d * d = (DD : Int) := by
  unfold qv
  by_cases q : 0 < d
  · rw [if_pos q]
    obtain ⟨m, rfl⟩ : ∃ m : Nat, d = m := ⟨d.toNat, by omega⟩
    rw [Int.toNat_natCast, ← Int.natCast_mul, Nat.div_mul_cancel (DD_div m (by omega) (by omega))]
  · rw [if_neg q]
    obtain ⟨m, hm⟩ : ∃ m : Nat, -d = m := ⟨(-d).toNat, by omega⟩
    rw [hm, Int.toNat_natCast, show d = -(m : Int) by omega, Int.neg_mul_neg, ← Int.natCast_mul, Nat.div_mul_cancel (DD_div m (by omega) (by omega))]
theorem DD_pos : 0 < (DD : Int) := by decide
def xe (U V : Nat → Int) (k : Nat) (j : Int) : Int := xiZ DD (qv (V (k + 1) - V k)) (U k) (V k) (U (k + 1) - U k) j
def se (V : Nat → Int) (k : Nat) (j : Int) : Int := sgZ (V k) (V (k + 1)) j
theorem se_up {V : Nat → Int} {k : Nat} {j : Int} : se V k j = 1 ↔ V k ≤ j ∧ j + 1 ≤ V (k + 1) := by
  unfold se sgZ
  constructor
  · intro h
    split at h
    next q => exact q
    · split at h <;> omega
  · intro h; rw [if_pos h]
theorem se_dn {V : Nat → Int} {k : Nat} {j : Int} : se V k j = -1 ↔ V (k + 1) ≤ j ∧ j + 1 ≤ V k := by
  unfold se sgZ
  constructor
  · intro h
    split at h
    · omega
    · split at h
      next q => exact q
      · omega
  · intro h; rw [if_neg (by omega), if_pos h]
theorem se_3 {V : Nat → Int} {k : Nat} {j : Int} : se V k j = 0 ∨ se V k j = 1 ∨ se V k j = -1 := by
  unfold se sgZ
  split
  · exact Or.inr (Or.inl rfl)
  · split
    · exact Or.inr (Or.inr rfl)
    · exact Or.inl rfl
theorem se_ne {V : Nat → Int} {k : Nat} {j : Int} (h : ¬ se V k j = 0) : ¬ V (k + 1) - V k = 0 := by
  rcases se_3 (V := V) (k := k) (j := j) with e | e | e
  · exact absurd e h
  · have := se_up.mp e; omega
  · have := se_dn.mp e; omega
/-- other edges at the height lie left of an up-edge, right of a down-edge -/
theorem one_level {n : Nat} {U V : Nat → Int} (hc : CvZ n U V) (hv : ∀ k, -60 ≤ V (k + 1) - V k ∧ V (k + 1) - V k ≤ 60) {k k' : Nat} {j : Int} (hk : ¬ se V k j = 0) (hk' : ¬ se V k' j = 0) (hne : ¬ k % n = k' % n) :
    0 < (V (k' + 1) - V k') * (xe U V k' j - xe U V k j) := by
  obtain ⟨h3, hU, hV, hc0, hc1⟩ := hc
  have hq := qv_mul (se_ne hk) (hv k).1 (hv k).2
  have hp := qv_mul (se_ne hk') (hv k').1 (hv k').2
  obtain ⟨w1, w2⟩ := w_pos (j := j) DD_pos hq hk
  have e := xi_side (x := U k) (x' := U (k + 1)) (u := U k') (u' := U (k' + 1)) (j := j) hq hp
  unfold xe
  rw [e]
  have a1 := Int.mul_nonneg (Int.le_of_lt w1) (hc0 k' k)
  have a2 := Int.mul_nonneg (Int.le_of_lt w2) (hc0 k' (k + 1))
  by_cases q : k % n = (k' + 1) % n
  · have e1 : (k + 1) % n = (k' + 2) % n := by rw [← Nat.mod_add_mod, q, Nat.mod_add_mod]
    have b := Int.mul_pos w2 (hc1 k' (k + 1) (by rw [e1]; exact fun z => mod_apart (n := n) (a := k') (b := k' + 2) (by omega) (by omega) z.symm) (by rw [e1]; exact fun z => mod_apart (n := n) (a := k' + 1) (b := k' + 2) (by omega) (by omega) z.symm))
    omega
  · have b := Int.mul_pos w1 (hc1 k' k hne q)
    omega
theorem pos_of {a b : Int} (ha : 0 < a) (h : 0 < a * b) : 0 < b := by
  apply Classical.byContradiction
  intro z
  have := Int.mul_nonpos_of_nonneg_of_nonpos (Int.le_of_lt ha) (show b ≤ 0 by omega)
  omega
theorem neg_of {a b : Int} (ha : a < 0) (h : 0 < a * b) : b < 0 := by
  apply Classical.byContradiction
  intro z
  have := Int.mul_nonpos_of_nonpos_of_nonneg (Int.le_of_lt ha) (show 0 ≤ b by omega)
  omega
theorem sw_ex {p : Nat → Prop} {a : Nat} : ∀ m, p a → ¬ p (a + m) → ∃ r, r < m ∧ p (a + r) ∧ ¬ p (a + r + 1) := by
  intro m
  induction m with
  | zero => intro h1 h2; exact absurd h1 h2
  | succ m ih =>
    intro h1 h2
    by_cases q : p (a + m)
    · exact ⟨m, by omega, q, h2⟩
    · obtain ⟨r, h3, h4⟩ := ih h1 q
      exact ⟨r, by omega, h4⟩
theorem suZ_at {f : Nat → Int} {a : Nat} : ∀ n, (∀ k, k < n → ¬ k = a → f k = 0) → suZ f n = if a < n then f a else 0 := by
  intro n
  induction n with
  | zero => intro _; rw [if_neg (Nat.not_lt_zero a)]; rfl
  | succ n ih =>
    intro h
    simp only [suZ]
    rw [ih (fun k hk => h k (by omega))]
    by_cases q : n = a
    · subst q
      rw [if_neg (Nat.lt_irrefl n), if_pos (Nat.lt_succ_self n)]
      omega
    · rw [h n (by omega) q]
      by_cases q2 : a < n
      · rw [if_pos q2, if_pos (by omega)]; omega
      · rw [if_neg q2, if_neg (by omega)]; omega
theorem suZ_two {f : Nat → Int} {a b n : Nat} (ha : a < n) (hb : b < n) (hne : ¬ a = b) (h : ∀ k, k < n → ¬ k = a → ¬ k = b → f k = 0) : suZ f n = f a + f b := by
  have e : suZ f n = suZ (fun k => (if k = a then f k else 0) + (if k = a then 0 else f k)) n := suZ_congr n (fun k _ => by split <;> omega)
  rw [e, suZ_add, suZ_at (a := a) n (fun k _ hk => if_neg hk), suZ_at (a := b) n (fun k hk hkb => by
    by_cases q : k = a
    · rw [if_pos q]
    · rw [if_neg q]; exact h k hk q hkb), if_pos ha, if_pos hb, if_pos rfl, if_neg (fun z => hne z.symm)]
theorem se_mod {n : Nat} {V : Nat → Int} (hV : ∀ i, V (i + n) = V i) (k : Nat) (j : Int) : se V k j = se V (k % n) j := by
  unfold se
  rw [per_mod hV k, per_mod hV (k + 1), per_mod hV (k % n + 1), Nat.mod_add_mod]
theorem xe_mod {n : Nat} {U V : Nat → Int} (hU : ∀ i, U (i + n) = U i) (hV : ∀ i, V (i + n) = V i) (k : Nat) (j : Int) : xe U V k j = xe U V (k % n) j := by
  unfold xe
  rw [per_mod hV k, per_mod hV (k + 1), per_mod hV (k % n + 1), per_mod hU k, per_mod hU (k + 1), per_mod hU (k % n + 1), Nat.mod_add_mod]
theorem xe_bd {U V : Nat → Int} {W : Int} (hb : ∀ k, 0 ≤ U k ∧ U k ≤ W) (hv : ∀ k, -60 ≤ V (k + 1) - V k ∧ V (k + 1) - V k ≤ 60) {k : Nat} {j : Int} (hk : ¬ se V k j = 0) : 0 ≤ xe U V k j ∧ xe U V k j ≤ 2 * DD * W := by
  have hq := qv_mul (se_ne hk) (hv k).1 (hv k).2
  obtain ⟨w1, w2⟩ := w_pos (j := j) DD_pos hq hk
  have w3 := w_sum (j := j) hq
  unfold xe
  rw [xi_weights hq]
  have a1 := Int.mul_nonneg (Int.le_of_lt w1) (hb k).1
  have a2 := Int.mul_nonneg (Int.le_of_lt w2) (hb (k + 1)).1
  have b1 := Int.mul_le_mul_of_nonneg_left (hb k).2 (Int.le_of_lt w1)
  have b2 := Int.mul_le_mul_of_nonneg_left (hb (k + 1)).2 (Int.le_of_lt w2)
  refine ⟨by omega, ?_⟩
  rw [← w3, Int.add_mul]
  omega
/-- none or one up-edge and one down-edge -/
theorem level {n : Nat} {U V : Nat → Int} {W : Int} (hc : CvZ n U V) (hb : ∀ k, 0 ≤ U k ∧ U k ≤ W) (hv : ∀ k, -60 ≤ V (k + 1) - V k ∧ V (k + 1) - V k ≤ 60) (j : Int) :
    ((∀ k, se V k j = 0) ∧ suZ (fun k => se V k j * xe U V k j) n = 0) ∨ ∃ a b, se V a j = 1 ∧ se V b j = -1 ∧ suZ (fun k => se V k j * xe U V k j) n = xe U V a j - xe U V b j ∧ 0 ≤ xe U V b j ∧ xe U V b j ≤ xe U V a j ∧ xe U V a j ≤ 2 * DD * W := by
  have hn := hc.1
  have hU := hc.2.1
  have hV := hc.2.2.1
  by_cases hz : ∀ k, se V k j = 0
  · refine Or.inl ⟨hz, ?_⟩
    rw [suZ_congr n (g := fun _ => 0) (fun k _ => by rw [hz k, Int.zero_mul]), suZ_0]
  · refine Or.inr ?_
    obtain ⟨c, hcn⟩ : ∃ c, ¬ se V c j = 0 := Classical.byContradiction (fun z => hz (fun k => Classical.byContradiction (fun y => z ⟨k, y⟩)))
    have both : (∃ a, se V a j = 1) ∧ ∃ b, se V b j = -1 := by
      rcases se_3 (V := V) (k := c) (j := j) with e | e | e
      · exact absurd e hcn
      · refine ⟨⟨c, e⟩, ?_⟩
        have h := se_up.mp e
        obtain ⟨r, _, h1, h2⟩ := sw_ex (p := fun i => ¬ V i ≤ j) (a := c + 1) (n - 1) (show ¬ V (c + 1) ≤ j by omega) (by
          rw [show c + 1 + (n - 1) = c + n by omega, hV]; omega)
        exact ⟨c + 1 + r, se_dn.mpr ⟨Decidable.not_not.mp h2, by omega⟩⟩
      · refine ⟨?_, ⟨c, e⟩⟩
        have h := se_dn.mp e
        obtain ⟨r, _, h1, h2⟩ := sw_ex (p := fun i => V i ≤ j) (a := c + 1) (n - 1) (show V (c + 1) ≤ j by omega) (by
          rw [show c + 1 + (n - 1) = c + n by omega, hV]; omega)
        exact ⟨c + 1 + r, se_up.mpr ⟨h1, by omega⟩⟩
    obtain ⟨⟨a0, ha0⟩, ⟨b0, hb0⟩⟩ := both
    have la := Nat.mod_lt a0 (show 0 < n by omega)
    have lb := Nat.mod_lt b0 (show 0 < n by omega)
    rw [se_mod hV] at ha0 hb0
    generalize a0 % n = a at la ha0
    generalize b0 % n = b at lb hb0
    have ua := se_up.mp ha0
    have db := se_dn.mp hb0
    have na : ¬ se V a j = 0 := by omega
    have nb : ¬ se V b j = 0 := by omega
    have hab : ¬ a = b := by intro z; rw [z] at ha0; omega
    have ma := Nat.mod_eq_of_lt la
    have mb := Nat.mod_eq_of_lt lb
    have r1 := pos_of (by omega) (one_level hc hv (k := b) (k' := a) nb na (by rw [ma, mb]; exact fun z => hab z.symm))
    have rest : ∀ k, k < n → ¬ k = a → ¬ k = b → se V k j * xe U V k j = 0 := by
      intro k hk h1 h2
      have mk := Nat.mod_eq_of_lt hk
      rcases se_3 (V := V) (k := k) (j := j) with e | e | e
      · rw [e, Int.zero_mul]
      · exfalso
        have u := se_up.mp e
        have x1 := pos_of (by omega) (one_level hc hv (k := k) (k' := a) (by omega) na (by rw [mk, ma]; exact h1))
        have x2 := pos_of (by omega) (one_level hc hv (k := a) (k' := k) na (by omega) (by rw [mk, ma]; exact fun z => h1 z.symm))
        omega
      · exfalso
        have u := se_dn.mp e
        have x1 := neg_of (by omega) (one_level hc hv (k := k) (k' := b) (by omega) nb (by rw [mk, mb]; exact h2))
        have x2 := neg_of (by omega) (one_level hc hv (k := b) (k' := k) nb (by omega) (by rw [mk, mb]; exact fun z => h2 z.symm))
        omega
    refine ⟨a, b, ha0, hb0, ?_, (xe_bd hb hv nb).1, by omega, (xe_bd hb hv na).2⟩
    rw [suZ_two la lb hab rest, ha0, hb0]
    omega
