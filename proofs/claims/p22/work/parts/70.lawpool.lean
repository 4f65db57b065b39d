/-! THE LAW: two new objects, two pools; the boxes' sizes -/
theorem wk_pool2 {x : Cn} {G : Gw} {A : Nat → Prop} {nL cs sl : Nat} {Q : State → Prop} {a a2 : Nat → Nat} {pc : Nat} {L : List (Nat × Value)} {st : List Value} (k : WK x (gP G a) A nL cs sl Q (wd (gP G a) MS ++ (wd (gA (gP G a) (adP a2)) MS ++ [])) pc L st) : WK x G A nL cs sl Q (ijw G a ++ ijw G a2) pc L st := by
  intro ls H locs hl hP hD hS
  have p1 : va_P G.1 vwCl (wd (gP G a) MS) H := pool_P (wP_l hP)
  have p2 : va_P G.1 vwCl (wd (gA (gP G a) (adP a2)) MS) H := pool_P (G := G) (a := a2) (wP_r hP)
  refine k ls H locs hl (va_P.app p1 (va_P.app p2 (fun k q hk => by simp at hk))) ?_ hS
  rw [List.append_nil]
  obtain ⟨g, eg⟩ : ∃ g : Nat → Nat, g = fun i => if i < 232 then a i else a2 (i - 232) := ⟨_, rfl⟩
  have g1 : ∀ i, i < 232 → g i = a i := fun i hi => by rw [eg]; exact if_pos hi
  have g2 : ∀ i, g (232 + i) = a2 i := fun i => by rw [eg]; show (if 232 + i < 232 then a (232 + i) else a2 (232 + i - 232)) = a2 i; rw [if_neg (by omega), show 232 + i - 232 = i by omega]
  have hL : AdL (ijw G a ++ ijw G a2) g (232 + 232) := ((AdL_jw G a).congr g1).app ((AdL_jw G a2).congr (fun i _ => g2 i))
  obtain ⟨inj, inA⟩ := hL.D hD
  have key : ∀ (k : Nat) (q : Nat × va_E), (wd (gP G a) MS ++ wd (gA (gP G a) (adP a2)) MS)[k]? = some q → k < 464 ∧ q.1 = g (if k < 232 then pmF k else 232 + pmF (k - 232)) := by
    intro k q hk
    by_cases h1 : k < 232
    · rw [List.getElem?_append_left (by rw [wd_len]; exact h1), wd_at h1] at hk
      cases hk
      refine ⟨by omega, ?_⟩
      rw [if_pos h1, g1 _ (pmF_lt h1)]; rfl
    · rw [List.getElem?_append_right (by rw [wd_len]; omega), wd_len] at hk
      have h2 : k - 232 < 232 := by
        have := (List.getElem?_eq_some_iff.mp hk).1
        rw [wd_len] at this
        exact this
      rw [wd_at h2] at hk
      cases hk
      refine ⟨by omega, ?_⟩
      rw [if_neg h1, g2]; rfl
  have lt : ∀ k, k < 464 → (if k < 232 then pmF k else 232 + pmF (k - 232)) < 232 + 232 := by
    intro k hk
    by_cases h1 : k < 232
    · rw [if_pos h1]; have := pmF_lt h1; omega
    · rw [if_neg h1]; have := pmF_lt (i := k - 232) (by omega); omega
  refine ⟨fun i j p q hi hj e => ?_, fun k q hk => ?_⟩
  · obtain ⟨i1, i2⟩ := key i p hi
    obtain ⟨j1, j2⟩ := key j q hj
    have h := inj _ _ (lt i i1) (lt j j1) (by rw [← i2, ← j2]; exact e)
    by_cases c1 : i < 232
    · rw [if_pos c1] at h
      have b1 := pmF_lt c1
      by_cases c2 : j < 232
      · rw [if_pos c2] at h; exact pmF_inj c1 c2 h
      · rw [if_neg c2] at h; omega
    · rw [if_neg c1] at h
      by_cases c2 : j < 232
      · rw [if_pos c2] at h; have b1 := pmF_lt c2; omega
      · rw [if_neg c2] at h
        have := pmF_inj (i := i - 232) (j := j - 232) (by omega) (by omega) (by omega)
        omega
  · obtain ⟨k1, k2⟩ := key k q hk
    rw [k2]; exact inA _ (lt k k1)
theorem sz_18 : ∀ u, u < 7 → isSz (nI (18 + u)) = true ∧ (18 ≤ (nI (18 + u)).toInt ∧ (nI (18 + u)).toInt ≤ 24) := by decide
theorem boxY_0 {u t : Nat} (hu : u < 7) (ht : t < 7) : boxY Y0 (nI (18 + u)) (nI (18 + t)) = (2020, pushY Y0 (0, nI (18 + u), nI (18 + t), fun _ => P0)) := by
  unfold boxY
  rw [if_pos ⟨(sz_18 u hu).1, (sz_18 t ht).1⟩, if_pos (show fitS Y0.1 (nI (18 + u)) (nI (18 + t)) = true from rfl)]
  rfl
theorem law_box {u t : Nat} (hu : u < 7) (ht : t < 7) : (boxY Y0 (nI (18 + u)) (nI (18 + t))).1 = 2020 ∧ (boxY Y0 (nI (18 + t)) (nI (18 + u))).1 = 2020 ∧ RY (boxY Y0 (nI (18 + u)) (nI (18 + t))).2 (boxY Y0 (nI (18 + t)) (nI (18 + u))).2 := by
  have o1 := box_ok (w := nI (18 + u)) (h := nI (18 + t)) start_ok
  have o2 := box_ok (w := nI (18 + t)) (h := nI (18 + u)) start_ok
  have b1 := (sz_18 u hu).2
  have b2 := (sz_18 t ht).2
  refine ⟨by rw [boxY_0 hu ht], by rw [boxY_0 ht hu], ?_, o1, o2⟩
  rw [boxY_0 hu ht, boxY_0 ht hu]
  refine ⟨⟨rfl, rfl, rfl, fun k hk => absurd hk (Nat.not_lt_zero _)⟩, rfl, fun a ha => ?_, ⟨b1, b2⟩, fun a ha => ?_⟩
  · have ha2 : a < 1 := ha
    rw [show a = 0 by omega]
    exact ⟨rfl, rfl, rfl, fun k hk => absurd hk (Nat.not_lt_zero _)⟩
  · have ha2 : a < 1 := ha
    rw [show a = 0 by omega]
    show (18 ≤ (20 : Int32).toInt ∧ (20 : Int32).toInt ≤ 24) ∧ (18 ≤ (20 : Int32).toInt ∧ (20 : Int32).toInt ≤ 24)
    decide
