/-! THE LAW'S TEXTS: corners of two digits each -/
def apT (T : Tx) (v : Int32) : Tx := (T.1 + 1, fun j => if j = T.1 then v else T.2 j)
def withT (σ : Sy) (T : Tx) : Sy := (σ.1, σ.2.1, σ.2.2.1, T)
theorem typY_in {σ : Sy} {v : Int32} (hv : 32 ≤ v ∧ v ≤ 126) (hl : σ.2.2.2.1 < 60) : typY σ v = (nI (σ.2.2.2.1 + 1), withT σ (apT σ.2.2.2 v)) := by
  unfold typY
  rw [if_pos hv, if_pos hl]; rfl
theorem dgq : ∀ q, q < 10 → (32 ≤ nI (48 + q) ∧ nI (48 + q) ≤ 126) ∧ noDg (nI (48 + q)) = false ∧ nI (48 + q) - 48 = nI q ∧ ¬ nI q < 0 := by decide +kernel
theorem dgqq : ∀ a, a < 10 → ∀ b, b < 10 → 10 * nI a + nI b = nI (10 * a + b) ∧ ¬ nI (10 * a + b) < 0 := by decide +kernel
/-- five characters of a corner -/
def co5 (T : Tx) (x y : Nat) : Tx := (T.1 + 5, fun j => if j = T.1 + 4 then nI (48 + y % 10) else if j = T.1 + 3 then nI (48 + y / 10) else if j = T.1 + 2 then 44 else if j = T.1 + 1 then nI (48 + x % 10) else if j = T.1 then nI (48 + x / 10) else T.2 j)
theorem co5_ap (T : Tx) (x y : Nat) : apT (apT (apT (apT (apT T (nI (48 + x / 10))) (nI (48 + x % 10))) 44) (nI (48 + y / 10))) (nI (48 + y % 10)) = co5 T x y := rfl
def coE (T : Tx) (x y : Nat) (e : Bool) : Tx := if e then apT (co5 T x y) 59 else co5 T x y
/-- the first k corners are typed, of c in all -/
def TxP (T : Tx) (k : Nat) (X Y : Nat → Nat) : Prop := ∀ j, j < k → T.2 (6 * j) = nI (48 + X j / 10) ∧ T.2 (6 * j + 1) = nI (48 + X j % 10) ∧ T.2 (6 * j + 2) = 44 ∧ T.2 (6 * j + 3) = nI (48 + Y j / 10) ∧ T.2 (6 * j + 4) = nI (48 + Y j % 10)
def TxI (T : Tx) (c k : Nat) (X Y : Nat → Nat) : Prop := T.1 = (if k = c then 6 * c - 1 else 6 * k) ∧ TxP T k X Y ∧ ∀ j, j < k → j + 1 < c → T.2 (6 * j + 5) = 59
theorem TxI_0 {T : Tx} {c : Nat} {X Y : Nat → Nat} (hc : 0 < c) (h : T.1 = 0) : TxI T c 0 X Y := ⟨by rw [h, if_neg (by omega)], fun j hj => absurd hj (Nat.not_lt_zero _), fun j hj => absurd hj (Nat.not_lt_zero _)⟩
theorem TxI_step {T : Tx} {c k : Nat} {X Y : Nat → Nat} (h : TxI T c k X Y) (hk : k < c) : TxI (coE T (X k) (Y k) (decide (k + 1 < c))) c (k + 1) X Y := by
  obtain ⟨h1, h2, h3⟩ := h
  rw [if_neg (by omega)] at h1
  have lo : ∀ j, j < 6 * k → (coE T (X k) (Y k) (decide (k + 1 < c))).2 j = T.2 j := by
    intro j hj
    unfold coE
    split
    · show (if j = T.1 + 5 then (59 : Int32) else if j = T.1 + 4 then nI (48 + Y k % 10) else if j = T.1 + 3 then nI (48 + Y k / 10) else if j = T.1 + 2 then 44 else if j = T.1 + 1 then nI (48 + X k % 10) else if j = T.1 then nI (48 + X k / 10) else T.2 j) = T.2 j
      rw [if_neg (by omega), if_neg (by omega), if_neg (by omega), if_neg (by omega), if_neg (by omega), if_neg (by omega)]
    · show (if j = T.1 + 4 then nI (48 + Y k % 10) else if j = T.1 + 3 then nI (48 + Y k / 10) else if j = T.1 + 2 then 44 else if j = T.1 + 1 then nI (48 + X k % 10) else if j = T.1 then nI (48 + X k / 10) else T.2 j) = T.2 j
      rw [if_neg (by omega), if_neg (by omega), if_neg (by omega), if_neg (by omega), if_neg (by omega)]
  have hi : ∀ j, j < 5 → (coE T (X k) (Y k) (decide (k + 1 < c))).2 (6 * k + j) = (if j = 4 then nI (48 + Y k % 10) else if j = 3 then nI (48 + Y k / 10) else if j = 2 then 44 else if j = 1 then nI (48 + X k % 10) else nI (48 + X k / 10)) := by
    intro j hj
    have key : (co5 T (X k) (Y k)).2 (6 * k + j) = (if j = 4 then nI (48 + Y k % 10) else if j = 3 then nI (48 + Y k / 10) else if j = 2 then 44 else if j = 1 then nI (48 + X k % 10) else nI (48 + X k / 10)) := by
      show (if 6 * k + j = T.1 + 4 then nI (48 + Y k % 10) else if 6 * k + j = T.1 + 3 then nI (48 + Y k / 10) else if 6 * k + j = T.1 + 2 then 44 else if 6 * k + j = T.1 + 1 then nI (48 + X k % 10) else if 6 * k + j = T.1 then nI (48 + X k / 10) else T.2 (6 * k + j)) = _
      rcases (show j = 0 ∨ j = 1 ∨ j = 2 ∨ j = 3 ∨ j = 4 by omega) with rfl | rfl | rfl | rfl | rfl
      · rw [if_neg (by omega), if_neg (by omega), if_neg (by omega), if_neg (by omega), if_pos (by omega)]; rfl
      · rw [if_neg (by omega), if_neg (by omega), if_neg (by omega), if_pos (by omega)]; rfl
      · rw [if_neg (by omega), if_neg (by omega), if_pos (by omega)]; rfl
      · rw [if_neg (by omega), if_pos (by omega)]; rfl
      · rw [if_pos (by omega)]; rfl
    unfold coE
    split
    · show (if 6 * k + j = T.1 + 5 then (59 : Int32) else (co5 T (X k) (Y k)).2 (6 * k + j)) = _
      rw [if_neg (by omega)]; exact key
    · exact key
  refine ⟨?_, fun j hj => ?_, fun j hj hc => ?_⟩
  · unfold coE
    by_cases q : k + 1 < c
    · rw [decide_eq_true q, if_pos rfl, if_neg (by omega)]
      show T.1 + 5 + 1 = _; omega
    · rw [decide_eq_false q, if_neg (by decide), if_pos (by omega)]
      show T.1 + 5 = _; omega
  · rcases Nat.lt_or_ge j k with q | q
    · obtain ⟨a0, a1, a2, a3, a4⟩ := h2 j q
      exact ⟨by rw [lo _ (by omega)]; exact a0, by rw [lo _ (by omega)]; exact a1, by rw [lo _ (by omega)]; exact a2, by rw [lo _ (by omega)]; exact a3, by rw [lo _ (by omega)]; exact a4⟩
    · have e : j = k := by omega
      subst e
      exact ⟨hi 0 (by decide), hi 1 (by decide), hi 2 (by decide), hi 3 (by decide), hi 4 (by decide)⟩
  · rcases Nat.lt_or_ge j k with q | q
    · rw [lo _ (by omega)]; exact h3 j q hc
    · have e : j = k := by omega
      subst e
      unfold coE
      rw [decide_eq_true hc, if_pos rfl]
      show (if 6 * j + 5 = T.1 + 5 then (59 : Int32) else (co5 T (X j) (Y j)).2 (6 * j + 5)) = 59
      rw [if_pos (by omega)]
/-! reading -/
theorem nu_2 {T : Tx} {p a b : Nat} (ha : a < 10) (hb : b < 10) (h1 : p + 1 < T.1) (e1 : T.2 p = nI (48 + a)) (e2 : T.2 (p + 1) = nI (48 + b)) : nuT T p = (nI (10 * a + b), p + 2) := by
  obtain ⟨-, b1, b2, b3⟩ := dgq a ha
  obtain ⟨-, c1, c2, c3⟩ := dgq b hb
  have d1 : dgT T p = (nI a, p + 1) := by
    unfold dgT chT
    rw [if_pos (show p < T.1 by omega), e1, b1]
    show (nI (48 + a) - 48, p + 1) = _
    rw [b2]
  have d2 : dgT T (p + 1) = (nI b, p + 1 + 1) := by
    unfold dgT chT
    rw [if_pos h1, e2, c1]
    show (nI (48 + b) - 48, p + 1 + 1) = _
    rw [c2]
  unfold nuT
  rw [d1]
  show (if nI a < 0 then _ else if (dgT T (p + 1)).1 < 0 then _ else (10 * nI a + (dgT T (p + 1)).1, (dgT T (p + 1)).2)) = _
  rw [d2, if_neg b3]
  show (if nI b < 0 then _ else (10 * nI a + nI b, p + 1 + 1)) = _
  rw [if_neg c3, (dgqq a ha b hb).1]
theorem cr_in {T : Tx} {c k : Nat} {X Y : Nat → Nat} (h : TxI T c c X Y) (hk : k < c) (hX : X k < 100) (hY : Y k < 100) : crT T (6 * k) = (true, nI (X k), nI (Y k), 6 * k + 5) := by
  obtain ⟨h1, h2, h3⟩ := h
  rw [if_pos rfl] at h1
  obtain ⟨a0, a1, a2, a3, a4⟩ := h2 k hk
  have n1 := nu_2 (T := T) (p := 6 * k) (a := X k / 10) (b := X k % 10) (by omega) (by omega) (by omega) a0 a1
  have n2 := nu_2 (T := T) (p := 6 * k + 3) (a := Y k / 10) (b := Y k % 10) (by omega) (by omega) (by omega) a3 a4
  have p1 := (dgqq (X k / 10) (by omega) (X k % 10) (by omega)).2
  have p2 := (dgqq (Y k / 10) (by omega) (Y k % 10) (by omega)).2
  rw [show 10 * (X k / 10) + X k % 10 = X k by omega] at n1 p1
  rw [show 10 * (Y k / 10) + Y k % 10 = Y k by omega] at n2 p2
  unfold crT
  rw [n1]
  show (if nI (X k) < 0 then _ else if chT T (6 * k + 2) = 44 then (if (nuT T (6 * k + 2 + 1)).1 < 0 then _ else (true, nI (X k), (nuT T (6 * k + 2 + 1)).1, (nuT T (6 * k + 2 + 1)).2)) else _) = _
  rw [if_neg p1, if_pos (by unfold chT; rw [if_pos (by omega)]; exact a2), n2]
  show (if nI (Y k) < 0 then _ else (true, nI (X k), nI (Y k), 6 * k + 3 + 2)) = _
  rw [if_neg p2]
theorem ps_in {T : Tx} {c : Nat} {X Y : Nat → Nat} (h : TxI T c c X Y) (hb : ∀ k, k < c → X k < 100 ∧ Y k < 100) : ∀ k, k ≤ c → psT T k = 6 * k := by
  intro k
  induction k with
  | zero => intro _; rfl
  | succ k ih =>
    intro hk
    show (crT T (psT T k)).2.2.2 + 1 = _
    rw [ih (by omega), cr_in h (by omega) (hb k (by omega)).1 (hb k (by omega)).2]
    show 6 * k + 5 + 1 = _; omega
theorem form_in {T : Tx} {c : Nat} {X Y : Nat → Nat} (hc : c = 3 ∨ c = 4) (h : TxI T c c X Y) (hb : ∀ k, k < c → X k < 100 ∧ Y k < 100) : formT T = (true, 6 * c - 1, c) := by
  have hl := h.1
  rw [if_pos rfl] at hl
  have st : ∀ f k, k < c → f ≠ 0 → rfT T (f + 1) k = if k + 1 < c then rfT T f (k + 1) else (decide (3 ≤ k + 1), 6 * k + 5, k + 1) := by
    intro f k hk hf
    rw [rfT_succ, ps_in h hb k (by omega), cr_in h hk (hb k hk).1 (hb k hk).2]
    show (if true = true then (if f = 0 then _ else if chT T (6 * k + 5) = 59 then rfT T f (k + 1) else (decide (6 * k + 5 = T.1) && decide (3 ≤ k + 1), 6 * k + 5, k + 1)) else _) = _
    rw [if_pos rfl, if_neg hf]
    by_cases q : k + 1 < c
    · rw [if_pos q, if_pos]
      unfold chT
      rw [if_pos (by omega)]
      exact h.2.2 k hk q
    · rw [if_neg q, if_neg, decide_eq_true (show 6 * k + 5 = T.1 by omega), Bool.true_and]
      unfold chT
      rw [if_neg (by omega)]
      decide
  show rfT T 6 0 = _
  rcases hc with rfl | rfl
  · rw [st 5 0 (by decide) (by decide), if_pos (by decide), st 4 1 (by decide) (by decide), if_pos (by decide), st 3 2 (by decide) (by decide), if_neg (by decide)]; rfl
  · rw [st 5 0 (by decide) (by decide), if_pos (by decide), st 4 1 (by decide) (by decide), if_pos (by decide), st 3 2 (by decide) (by decide), if_pos (by decide), st 2 3 (by decide) (by decide), if_neg (by decide)]; rfl
theorem poly_in {T : Tx} {c : Nat} {X Y : Nat → Nat} (hc : c = 3 ∨ c = 4) (h : TxI T c c X Y) (hb : ∀ k, k < c → X k < 100 ∧ Y k < 100) : (formT T).1 = true ∧ (polyT T).1 = c ∧ ∀ k, k < c → (polyT T).2.1 k = nI (X k) ∧ (polyT T).2.2 k = nI (Y k) := by
  have f := form_in hc h hb
  refine ⟨by rw [f], by show (formT T).2.2 = c; rw [f], fun k hk => ?_⟩
  show (crT T (psT T k)).2.1 = _ ∧ (crT T (psT T k)).2.2.1 = _
  rw [ps_in h hb k (by omega), cr_in h hk (hb k hk).1 (hb k hk).2]
  exact ⟨rfl, rfl⟩
/-! what the two bodies have in common -/
theorem pOut_no {P : Py} {w h : Int32} (hP : ∀ k, k < P.1 → P.2.1 k ≤ w ∧ P.2.2 k ≤ h) : pOut P w h = none := by
  unfold pOut
  rw [fsT_none, anT_false]
  intro j hj
  rw [decide_eq_false (Int32.not_lt.mpr (hP j hj).1), decide_eq_false (Int32.not_lt.mpr (hP j hj).2)]; rfl
theorem pUp_t {P : Py} {k : Nat} (h : P.2.2 k < P.2.2 (nx P.1 k)) : pUp P k = true := by unfold pUp; rw [if_pos h]
theorem pUp_f {P : Py} {k : Nat} (h : P.2.2 (nx P.1 k) < P.2.2 k) : pUp P k = false := by
  unfold pUp
  rw [if_neg, if_neg]
  · intro e; rw [e, i32_lt] at h; omega
  · intro e; rw [i32_lt] at h e; omega
/-- at most one turn round: one side that points up, one that doesn't, apart by two -/
theorem rounds_1 {P : Py} (hn : P.1 = 3 ∨ P.1 = 4) (h : (P.2.2 1 < P.2.2 2 ∧ (P.1 = 3 → P.2.2 0 < P.2.2 2) ∧ (P.1 = 4 → P.2.2 0 < P.2.2 3)) ∨ (P.2.2 0 < P.2.2 1 ∧ (P.1 = 3 → P.2.2 0 < P.2.2 2) ∧ (P.1 = 4 → P.2.2 3 < P.2.2 2))) : pRounds P ≤ 1 := by
  obtain ⟨n, X, Y⟩ := P
  change n = 3 ∨ n = 4 at hn
  change (Y 1 < Y 2 ∧ (n = 3 → Y 0 < Y 2) ∧ (n = 4 → Y 0 < Y 3)) ∨ (Y 0 < Y 1 ∧ (n = 3 → Y 0 < Y 2) ∧ (n = 4 → Y 3 < Y 2)) at h
  have key3 : ∀ a b c : Bool, ((b = true ∧ c = false) ∨ (a = true ∧ c = false)) → ((0 + bi (!a && b)) + bi (!b && c)) + bi (!c && a) ≤ 1 := by decide
  have key4 : ∀ a b c d : Bool, ((b = true ∧ d = false) ∨ (a = true ∧ c = false)) → (((0 + bi (!a && b)) + bi (!b && c)) + bi (!c && d)) + bi (!d && a) ≤ 1 := by decide
  rcases hn with rfl | rfl
  · show ((0 + bi (!pUp (3, X, Y) 0 && pUp (3, X, Y) 1)) + bi (!pUp (3, X, Y) 1 && pUp (3, X, Y) 2)) + bi (!pUp (3, X, Y) 2 && pUp (3, X, Y) 0) ≤ 1
    refine key3 _ _ _ ?_
    rcases h with h | h
    · exact Or.inl ⟨pUp_t (P := (3, X, Y)) (k := 1) h.1, pUp_f (P := (3, X, Y)) (k := 2) (h.2.1 rfl)⟩
    · exact Or.inr ⟨pUp_t (P := (3, X, Y)) (k := 0) h.1, pUp_f (P := (3, X, Y)) (k := 2) (h.2.1 rfl)⟩
  · show (((0 + bi (!pUp (4, X, Y) 0 && pUp (4, X, Y) 1)) + bi (!pUp (4, X, Y) 1 && pUp (4, X, Y) 2)) + bi (!pUp (4, X, Y) 2 && pUp (4, X, Y) 3)) + bi (!pUp (4, X, Y) 3 && pUp (4, X, Y) 0) ≤ 1
    refine key4 _ _ _ _ ?_
    rcases h with h | h
    · exact Or.inl ⟨pUp_t (P := (4, X, Y)) (k := 1) h.1, pUp_f (P := (4, X, Y)) (k := 3) (h.2.2 rfl)⟩
    · exact Or.inr ⟨pUp_t (P := (4, X, Y)) (k := 0) h.1, pUp_f (P := (4, X, Y)) (k := 2) (h.2.2 rfl)⟩
theorem rt_turn {H : Int32} {P P' : Py} (h : rtB H P P') {k : Nat} (hk : k < P.1) : pTurn P' k = pTurn P k := by
  have h1 := h.2 _ (pv_lt hk)
  have h2 := h.2 k hk
  have h3 := h.2 _ (nx_lt hk)
  unfold pTurn
  rw [h.1, h1.1, h1.2, h2.1, h2.2, h3.1, h3.2]
  exact crs_rt
theorem rt_shape {H : Int32} {P P' : Py} (h : rtB H P P') (r1 : pRounds P ≤ 1) (r2 : pRounds P' ≤ 1) : pShape P' = pShape P := by
  unfold pShape
  rw [h.1, fsT_congr P.1 (fun k hk => by rw [rt_turn h hk]), if_pos r1, if_pos r2]
theorem rt_flt {s s' : St} (h : rtS s s') (hW : WfS s) {T T' : Tx} (f1 : (formT T).1 = true) (f2 : (formT T').1 = true) (hP : rtB s.2.2.1 (polyT T) (polyT T')) (p0 : 0 < (polyT T).1) (o1 : pOut (polyT T) s.2.1 s.2.2.1 = none) (o2 : pOut (polyT T') s'.2.1 s'.2.2.1 = none) (hs : pShape (polyT T') = pShape (polyT T)) : fltT T' s' = fltT T s := by
  unfold fltT
  have nf : ¬ (true = false) := by decide
  rw [f1, f2, o1, o2, hs, rt_ovS h hW hP p0, if_neg nf, if_neg nf]
theorem rt_put {σ σ' : Sy} (h : RY σ σ') (h8 : σ.1.1 ≤ 8) (hf : fltT σ'.2.2.2 σ'.1 = fltT σ.2.2.2 σ.1) (hP : rtB σ.1.2.2.1 (polyT σ.2.2.2) (polyT σ'.2.2.2)) : (∀ w, fauY σ' w = fauY σ w) ∧ (putY σ').1 = (putY σ).1 ∧ RY (putY σ).2 (putY σ').2 := by
  have o1 := put_okY h.2.1 h8
  have o2 := put_okY h.2.2 (by rw [h.n]; exact h8)
  have key : (putY σ').1 = (putY σ).1 ∧ RYs (putY σ).2 (putY σ').2 := by
    unfold putY
    rw [hf, h.n]
    by_cases q : (fltT σ.2.2.2 σ.1).2.1 = 0
    · rw [if_pos q, if_pos q]
      by_cases r : σ.1.1 < 8
      · rw [if_pos r, if_pos r]
        exact ⟨rfl, h.1.push (rt_add h.1.1 hP) h.1.2.2.2.1⟩
      · rw [if_neg r, if_neg r]; exact ⟨rfl, h.1⟩
    · rw [if_neg q, if_neg q]; exact ⟨rfl, h.1⟩
  exact ⟨fun w => by unfold fauY; rw [hf], key.1, key.2, o1, o2⟩
/-- the corners that the law makes -/
def CoL (c : Nat) (X Y : Nat → Nat) : Prop := (∀ k, k < c → X k ≤ 17 ∧ Y k ≤ 17) ∧ (X 0 < X 1 ∧ X 0 < X 2 ∧ X 3 < X 2) ∧ (Y 1 < Y 2 ∧ Y 0 < Y 2 ∧ Y 0 < Y 3)
theorem RY.withT {σ σ' : Sy} (h : RY σ σ') {T T' : Tx} (h1 : TxOk T) (h2 : TxOk T') : RY (withT σ T) (withT σ' T') := ⟨h.1, ⟨h.2.1.1, h.2.1.2.1, h1⟩, ⟨h.2.2.1, h.2.2.2.1, h2⟩⟩
theorem law_put {σ σ' : Sy} (h : RY σ σ') (h8 : σ.1.1 ≤ 8) {c hh : Nat} {X Y X2 : Nat → Nat} (hc : c = 3 ∨ c = 4) (hL : CoL c X Y) (eh : σ.1.2.2.1 = nI hh) (hhb : 18 ≤ hh ∧ hh ≤ 24) (hX2 : ∀ k, k < c → X2 k = hh - Y k) (t1 : TxI σ.2.2.2 c c X Y) (t2 : TxI σ'.2.2.2 c c X2 X) : (∀ w, fauY σ' w = fauY σ w) ∧ (putY σ').1 = (putY σ).1 ∧ RY (putY σ).2 (putY σ').2 := by
  obtain ⟨l1, ⟨l2, l3, l4⟩, l5, l6, l7⟩ := hL
  have hb := h.1.2.2.2.1
  unfold BoxIn at hb
  obtain ⟨p1, p2, p3⟩ := poly_in hc t1 (fun k hk => by have := l1 k hk; omega)
  obtain ⟨q1, q2, q3⟩ := poly_in hc t2 (fun k hk => by have := l1 k hk; have := hX2 k hk; omega)
  have lt : ∀ a b : Nat, a < b → b ≤ 100 → nI a < nI b := fun a b h1 h2 => (nI_ltI (by omega) (by omega)).mpr h1
  have rt : rtB σ.1.2.2.1 (polyT σ.2.2.2) (polyT σ'.2.2.2) := by
    refine ⟨by rw [q2, p2], fun j hj => ?_⟩
    have hj2 : j < c := by rw [p2] at hj; exact hj
    have := l1 j hj2
    rw [(q3 j hj2).1, (q3 j hj2).2, (p3 j hj2).1, (p3 j hj2).2, eh, hX2 j hj2, pk_sub (by omega)]
    exact ⟨rfl, rfl⟩
  have o1 : pOut (polyT σ.2.2.2) σ.1.2.1 σ.1.2.2.1 = none := pOut_no (fun k hk => by
    have hk2 : k < c := by rw [p2] at hk; exact hk
    have := l1 k hk2
    rw [(p3 k hk2).1, (p3 k hk2).2, i32_le, i32_le, nI_toInt (by omega), nI_toInt (by omega)]
    omega)
  have o2 : pOut (polyT σ'.2.2.2) σ'.1.2.1 σ'.1.2.2.1 = none := pOut_no (fun k hk => by
    have hk2 : k < c := by rw [q2] at hk; exact hk
    have := l1 k hk2
    have e := hX2 k hk2
    rw [(q3 k hk2).1, (q3 k hk2).2, h.1.1.2.1, h.1.1.2.2.1, i32_le, i32_le, nI_toInt (by omega), nI_toInt (by omega), eh, nI_toInt (by omega)]
    omega)
  have c0 : 0 < c ∧ 1 < c ∧ 2 < c := by omega
  have r1 : pRounds (polyT σ.2.2.2) ≤ 1 := rounds_1 (by rw [p2]; exact hc) (Or.inl (by
    rw [(p3 0 c0.1).2, (p3 1 c0.2.1).2, (p3 2 c0.2.2).2, p2]
    refine ⟨lt _ _ l5 (by have := l1 2 c0.2.2; omega), fun _ => lt _ _ l6 (by have := l1 2 c0.2.2; omega), fun e => ?_⟩
    rw [(p3 3 (by omega)).2]
    exact lt _ _ l7 (by have := l1 3 (by omega); omega)))
  have r2 : pRounds (polyT σ'.2.2.2) ≤ 1 := rounds_1 (by rw [q2]; exact hc) (Or.inr (by
    rw [(q3 0 c0.1).2, (q3 1 c0.2.1).2, (q3 2 c0.2.2).2, q2]
    refine ⟨lt _ _ l2 (by have := l1 1 c0.2.1; omega), fun _ => lt _ _ l3 (by have := l1 2 c0.2.2; omega), fun e => ?_⟩
    rw [(q3 3 (by omega)).2]
    exact lt _ _ l4 (by have := l1 2 c0.2.2; omega)))
  exact rt_put h h8 (rt_flt h.1.1 h.W p1 q1 rt (by omega) o1 o2 (rt_shape rt r1 r2)) rt
