/-! left turns once round are convex: of bodies -/
theorem convex_int {n k : Nat} {X Y U V : Nat → Int} (hU : ∀ i, U (i + n) = U i) (hV : ∀ i, V (i + n) = V i) (eX : ∀ i, X i = U (i + 1) - U i) (eY : ∀ i, Y i = V (i + 1) - V i)
    (hT : ∀ i, 0 < cr2 (X i) (Y i) (X (i + 1)) (Y (i + 1))) (h1 : ∀ i j, rise X Y i → rise X Y j → i % n = j % n) {j : Nat} (h2 : 2 ≤ j) (hj : j < n) :
    0 < cr2 (X k) (Y k) (U (k + j) - U k) (V (k + j) - V k) := by
  have hp : ∀ i, X (i + n) = X i ∧ Y (i + n) = Y i := by
    intro i
    rw [eX, eX, eY, eY, hU, hV, show i + n + 1 = i + 1 + n by omega, hU, hV]
    exact ⟨rfl, rfl⟩
  have step : ∀ m, cr2 (X k) (Y k) (U (k + (m + 1)) - U k) (V (k + (m + 1)) - V k) = cr2 (X k) (Y k) (U (k + m) - U k) (V (k + m) - V k) + cr2 (X k) (Y k) (X (k + m)) (Y (k + m)) := by
    intro m
    rw [eX (k + m), eY (k + m)]
    show cr2 (X k) (Y k) (U (k + m + 1) - U k) (V (k + m + 1) - V k) = _
    unfold cr2
    grind
  have s1 : cr2 (X k) (Y k) (U (k + 1) - U k) (V (k + 1) - V k) = 0 := by
    rw [← eX, ← eY]
    unfold cr2
    grind
  have sn : cr2 (X k) (Y k) (U (k + n) - U k) (V (k + n) - V k) = 0 := by
    rw [hU, hV]
    unfold cr2
    grind
  by_cases hall : ∀ i, 1 ≤ i → i < j → 0 < cr2 (X k) (Y k) (X (k + i)) (Y (k + i))
  · have go : ∀ m, 1 ≤ m → m < j → 0 < cr2 (X k) (Y k) (U (k + (m + 1)) - U k) (V (k + (m + 1)) - V k) := by
      intro m
      induction m with
      | zero => intro h; exact absurd h (by omega)
      | succ m ih =>
        intro _ hm
        rw [step]
        have h5 := hall (m + 1) (by omega) hm
        by_cases q : m = 0
        · subst q
          show 0 < cr2 (X k) (Y k) (U (k + 1) - U k) (V (k + 1) - V k) + _
          rw [s1]
          omega
        · have := ih (by omega) (by omega)
          omega
    have := go (j - 1) (by omega) (by omega)
    rw [show j - 1 + 1 = j by omega] at this
    exact this
  · have hex : ∃ i, 1 ≤ i ∧ i < j ∧ cr2 (X k) (Y k) (X (k + i)) (Y (k + i)) ≤ 0 := by
      apply Classical.byContradiction
      intro hno
      apply hall
      intro i a b
      apply Classical.byContradiction
      intro z
      exact hno ⟨i, a, b, by omega⟩
    obtain ⟨i, hi1, hi2, hi3⟩ := hex
    have neg : ∀ t, i + (t + 1) < n → cr2 (X k) (Y k) (X (k + (i + (t + 1)))) (Y (k + (i + (t + 1)))) < 0 := by
      intro t
      induction t with
      | zero => intro h; exact past_half hp hT h1 hi1 h hi3
      | succ t ih =>
        intro h
        have h5 := ih (by omega)
        exact past_half hp hT h1 (i := i + (t + 1)) (by omega) (by omega) (Int.le_of_lt h5)
    have down : ∀ t, j + t ≤ n → cr2 (X k) (Y k) (U (k + (j + t)) - U k) (V (k + (j + t)) - V k) + t ≤ cr2 (X k) (Y k) (U (k + j) - U k) (V (k + j) - V k) := by
      intro t
      induction t with
      | zero => intro _; simp
      | succ t ih =>
        intro h
        have h5 := ih (by omega)
        have h6 := neg (j + t - i - 1) (by omega)
        rw [show i + (j + t - i - 1 + 1) = j + t by omega] at h6
        show cr2 (X k) (Y k) (U (k + (j + t + 1)) - U k) (V (k + (j + t + 1)) - V k) + ((t + 1 : Nat) : Int) ≤ _
        rw [step]
        omega
    have h7 := down (n - j) (by omega)
    rw [show j + (n - j) = n by omega, sn] at h7
    omega
theorem ct_two {f : Nat → Bool} {n i j : Nat} (hi : i < n) (hj : j < n) (hne : i ≠ j) (h1 : f i = true) (h2 : f j = true) : 2 ≤ ctT f n := by
  have a := ctT_lt (q := fun _ => false) (r := fun x => decide (x = i)) (n := n) (k := i) (fun x _ h => by cases h) hi rfl (decide_eq_true rfl)
  have b := ctT_lt (q := fun x => decide (x = i)) (r := f) (n := n) (k := j) (fun x _ h => by rw [of_decide_eq_true h]; exact h1) hj (decide_eq_false (fun e => hne e.symm)) h2
  omega
theorem sm_ct {f : Nat → Bool} : ∀ n, smT (fun k => bi (f k)) n = nI (ctT f n) := by
  intro n
  induction n with
  | zero => rfl
  | succ n ih =>
    show smT (fun k => bi (f k)) n + bi (f n) = nI (ctT f (n + 1))
    rw [ih]
    simp only [ctT]
    cases f n
    · exact Int32.add_zero _
    · exact nI_1 _
theorem pUp_iff {P : Py} {k : Nat} : pUp P k = true ↔ UpZ ((P.2.1 (nx P.1 k)).toInt - (P.2.1 k).toInt) ((P.2.2 (nx P.1 k)).toInt - (P.2.2 k).toInt) := by
  unfold pUp UpZ
  by_cases h1 : P.2.2 k < P.2.2 (nx P.1 k)
  · rw [if_pos h1]
    rw [i32_lt] at h1
    exact ⟨fun _ => Or.inl (by omega), fun _ => rfl⟩
  · rw [if_neg h1]
    rw [i32_lt] at h1
    by_cases h2 : P.2.2 (nx P.1 k) = P.2.2 k
    · rw [if_pos h2, h2]
      by_cases h3 : P.2.1 (nx P.1 k) ≤ P.2.1 k
      · rw [if_pos h3]
        rw [i32_le] at h3
        exact ⟨fun q => absurd q Bool.false_ne_true, fun q => by omega⟩
      · rw [if_neg h3]
        rw [i32_le] at h3
        exact ⟨fun _ => Or.inr (by omega), fun _ => rfl⟩
    · rw [if_neg h2]
      rw [i32_eq] at h2
      exact ⟨fun q => absurd q Bool.false_ne_true, fun q => by omega⟩
/-- a body whose shape has no fault is convex -/
theorem cvx_of {P : Py} (hS : Smal P) (h6 : P.1 ≤ 6) (hs : pShape P < 0) : Cvx P := by
  have h3 := hS.1
  have h0 : 0 < P.1 := by omega
  obtain ⟨hturn, hround⟩ : (∀ k, k < P.1 → 0 < pTurn P k) ∧ pRounds P ≤ 1 := by
    unfold pShape at hs
    split at hs
    next k hk => exact absurd hs (nI_pos (by have := (fsT_some hk).1; omega))
    next hk =>
      refine ⟨fun k hk2 => ?_, ?_⟩
      · have := anT_false.mp (fsT_none.mp hk) k hk2
        exact Int32.not_le.mp (of_decide_eq_false this)
      · apply Classical.byContradiction
        intro q
        rw [if_neg q] at hs
        exact nI_pos (by omega) hs
  have hone : ∀ i j, i < P.1 → j < P.1 → (!pUp P i && pUp P (nx P.1 i)) = true → (!pUp P j && pUp P (nx P.1 j)) = true → i = j := by
    intro i j hi hj a b
    apply Classical.byContradiction
    intro hne
    have h2 := ct_two (f := fun k => !pUp P k && pUp P (nx P.1 k)) hi hj hne a b
    have h4 : pRounds P = nI (ctT (fun k => !pUp P k && pUp P (nx P.1 k)) P.1) := sm_ct P.1
    have h5 := ctT_le (fun k => !pUp P k && pUp P (nx P.1 k)) P.1
    rw [h4, i32_le, nI_toInt (by omega), show (1 : Int32).toInt = 1 by decide] at hround
    omega
  obtain ⟨U, eU⟩ : ∃ U : Nat → Int, ∀ i, U i = (P.2.1 (i % P.1)).toInt := ⟨_, fun _ => rfl⟩
  obtain ⟨V, eV⟩ : ∃ V : Nat → Int, ∀ i, V i = (P.2.2 (i % P.1)).toInt := ⟨_, fun _ => rfl⟩
  have hU : ∀ i, U (i + P.1) = U i := fun i => by rw [eU, eU, Nat.add_mod_right]
  have hV : ∀ i, V (i + P.1) = V i := fun i => by rw [eV, eV, Nat.add_mod_right]
  have sU : ∀ i, U (i + 1) = (P.2.1 (nx P.1 (i % P.1))).toInt := fun i => by rw [eU, ← nx_mod (Nat.mod_lt i h0), Nat.mod_add_mod]
  have sV : ∀ i, V (i + 1) = (P.2.2 (nx P.1 (i % P.1))).toInt := fun i => by rw [eV, ← nx_mod (Nat.mod_lt i h0), Nat.mod_add_mod]
  have up : ∀ i, pUp P (i % P.1) = true ↔ UpZ (U (i + 1) - U i) (V (i + 1) - V i) := fun i => by rw [pUp_iff, sU, sV, eU, eV]
  have bd : ∀ i, i < P.1 → (-200 ≤ (P.2.1 i).toInt ∧ (P.2.1 i).toInt ≤ 200) ∧ (-200 ≤ (P.2.2 i).toInt ∧ (P.2.2 i).toInt ≤ 200) := hS.2
  intro k j hk hj hne1 hne2
  have hT : ∀ i, 0 < cr2 (U (i + 1) - U i) (V (i + 1) - V i) (U (i + 1 + 1) - U (i + 1)) (V (i + 1 + 1) - V (i + 1)) := by
    intro i
    have hm := Nat.mod_lt i h0
    have hx := nx_lt hm
    have hx2 := nx_lt hx
    have h4 := hturn _ hx
    unfold pTurn at h4
    rw [pv_nx hm, i32_lt, crs_toInt (bd _ hm).1 (bd _ hm).2 (bd _ hx).1 (bd _ hx).2 (bd _ hx2).1 (bd _ hx2).2, show (0 : Int32).toInt = 0 by decide] at h4
    have e1 : (i + 1) % P.1 = nx P.1 (i % P.1) := by rw [← nx_mod hm, Nat.mod_add_mod]
    rw [sU (i + 1), sV (i + 1), sU i, sV i, eU i, eV i, e1]
    unfold crZ at h4
    unfold cr2
    grind
  have h1 : ∀ a b, rise (fun i => U (i + 1) - U i) (fun i => V (i + 1) - V i) a → rise (fun i => U (i + 1) - U i) (fun i => V (i + 1) - V i) b → a % P.1 = b % P.1 := by
    have conv : ∀ a, rise (fun i => U (i + 1) - U i) (fun i => V (i + 1) - V i) a → (!pUp P (a % P.1) && pUp P (nx P.1 (a % P.1))) = true := by
      intro a ha
      have e1 : (a + 1) % P.1 = nx P.1 (a % P.1) := by rw [← nx_mod (Nat.mod_lt a h0), Nat.mod_add_mod]
      have u1 := (up (a + 1)).mpr ha.2
      have u2 : pUp P (a % P.1) = false := by
        cases hq : pUp P (a % P.1) with
        | false => rfl
        | true => exact absurd ((up a).mp hq) ha.1
      rw [e1] at u1
      rw [u1, u2]; rfl
    intro a b ha hb
    exact hone _ _ (Nat.mod_lt a h0) (Nat.mod_lt b h0) (conv a ha) (conv b hb)
  obtain ⟨m, hm1, hm2, hm3⟩ : ∃ m, 2 ≤ m ∧ m < P.1 ∧ (k + m) % P.1 = j := by
    unfold nx at hne2
    rcases Nat.lt_or_ge k j with q | q
    · refine ⟨j - k, ?_, by omega, by rw [show k + (j - k) = j by omega]; exact Nat.mod_eq_of_lt hj⟩
      split at hne2 <;> omega
    · refine ⟨j + P.1 - k, ?_, by omega, by rw [show k + (j + P.1 - k) = j + P.1 by omega, Nat.add_mod_right]; exact Nat.mod_eq_of_lt hj⟩
      split at hne2 <;> omega
  have hfin := convex_int (k := k) (X := fun i => U (i + 1) - U i) (Y := fun i => V (i + 1) - V i) hU hV (fun _ => rfl) (fun _ => rfl) hT h1 hm1 hm2
  have hx := nx_lt hk
  unfold pC
  rw [i32_lt, crs_toInt (bd _ hk).1 (bd _ hk).2 (bd _ hx).1 (bd _ hx).2 (bd _ hj).1 (bd _ hj).2, show (0 : Int32).toInt = 0 by decide]
  have e2 : U (k + m) = (P.2.1 j).toInt := by rw [eU, hm3]
  have e3 : V (k + m) = (P.2.2 j).toInt := by rw [eV, hm3]
  have e4 : k % P.1 = k := Nat.mod_eq_of_lt hk
  simp only [e2, e3, sU, sV, eU, eV, e4] at hfin
  exact hfin
