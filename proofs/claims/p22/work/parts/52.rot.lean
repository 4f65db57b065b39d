/-! THE QUARTER TURN OF THE BOX: bodies -/
/-- the second body is the first one turned to the left in a box of that height -/
def rtB (H : Int32) (P P' : Py) : Prop := P'.1 = P.1 ∧ ∀ j, j < P.1 → P'.2.1 j = H - P.2.2 j ∧ P'.2.2 j = P.2.1 j
theorem crs_rt {H ax ay bx by' cx cy : Int32} : crs (H - ay) ax (H - by') bx (H - cy) cx = crs ax ay bx by' cx cy := by unfold crs; grind
theorem rt_pC {H : Int32} {P P' Q Q' : Py} (hP : rtB H P P') (hQ : rtB H Q Q') {k j : Nat} (hk : k < P.1) (hj : j < Q.1) : pC P' k Q' j = pC P k Q j := by
  have h1 := hP.2 k hk
  have h2 := hP.2 _ (nx_lt hk)
  have h3 := hQ.2 j hj
  unfold pC
  rw [hP.1, h1.1, h1.2, h2.1, h2.2, h3.1, h3.2]
  exact crs_rt
theorem rt_reach {H : Int32} {P P' Q Q' : Py} (hP : rtB H P P') (hQ : rtB H Q Q') (h0 : 0 < Q.1) {k : Nat} (hk : k < P.1) : pReach P' k Q' = pReach P k Q := by
  unfold pReach
  rw [hQ.1]
  exact mxT_congr _ (fun j hj => rt_pC hP hQ hk (by omega))
theorem amT_congr {f g : Nat → Int32} : ∀ k, (∀ j, j ≤ k → f j = g j) → amT f k = amT g k := by
  intro k
  induction k with
  | zero => intro _; rfl
  | succ k ih =>
    intro h
    have e := ih (fun j hj => h j (by omega))
    simp only [amT]
    rw [e, h (k + 1) (Nat.le_refl _), h (amT g k) (by have := amT_le g k; omega)]
theorem rt_near {H : Int32} {P P' Q Q' : Py} (hP : rtB H P P') (hQ : rtB H Q Q') (h0 : 0 < Q.1) {k : Nat} (hk : k < P.1) : pNear P' k Q' = pNear P k Q := by
  unfold pNear
  rw [hQ.1]
  exact amT_congr _ (fun j hj => rt_pC hP hQ hk (by omega))
theorem rt_sep {H : Int32} {P P' Q Q' : Py} (hP : rtB H P P') (hQ : rtB H Q Q') (h0 : 0 < Q.1) (t : Int32) : pSep P' Q' t = pSep P Q t := by
  unfold pSep
  rw [hP.1]
  exact fsT_congr _ (fun k hk => by rw [rt_reach hP hQ h0 hk])
theorem rt_ovl {H : Int32} {P P' Q Q' : Py} (hP : rtB H P P') (hQ : rtB H Q Q') (p0 : 0 < P.1) (h0 : 0 < Q.1) : ovl P' Q' = ovl P Q := by
  unfold ovl
  rw [rt_sep hP hQ h0, rt_sep hQ hP p0]
theorem rt_tch {H : Int32} {P P' Q Q' : Py} (hP : rtB H P P') (hQ : rtB H Q Q') (p0 : 0 < P.1) (h0 : 0 < Q.1) : tch P' Q' = tch P Q := by
  unfold tch
  rw [rt_sep hP hQ h0, rt_sep hQ hP p0, rt_sep hP hQ h0, rt_sep hQ hP p0]
theorem tch_comm (P Q : Py) : tch P Q = tch Q P := by
  unfold tch
  rw [Bool.or_comm, Bool.and_comm (pSep P Q (-1)).isNone]
theorem rt_parV {H : Int32} {P P' Q Q' : Py} (hP : rtB H P P') (hQ : rtB H Q Q') (p0 : 0 < P.1) (h0 : 0 < Q.1) (w : Int32) : parV P' Q' w = parV P Q w := by
  unfold parV
  rw [rt_sep hP hQ h0, rt_sep hQ hP p0]
  cases h1 : pSep P Q 0 with
  | some k =>
    have hk := (fsT_some h1).1
    simp only
    rw [rt_near hP hQ h0 hk, rt_reach hP hQ h0 hk]
  | none =>
    simp only
    cases h2 : pSep Q P 0 with
    | some k =>
      have hk := (fsT_some h2).1
      simp only
      rw [rt_near hQ hP p0 hk, rt_reach hQ hP p0 hk]
    | none => rfl
/-! least and greatest -/
theorem i32_sb {a b : Int32} (ha : -1000 ≤ a.toInt ∧ a.toInt ≤ 1000) (hb : -1000 ≤ b.toInt ∧ b.toInt ≤ 1000) : (a - b).toInt = a.toInt - b.toInt := by
  rw [Int32.toInt_sub]
  exact Int.bmod_eq_of_le (by omega) (by omega)
theorem mn_flip {H : Int32} {f g : Nat → Int32} (hH : -1000 ≤ H.toInt ∧ H.toInt ≤ 1000) : ∀ n, (∀ j, j ≤ n → g j = H - f j ∧ -1000 ≤ (f j).toInt ∧ (f j).toInt ≤ 1000) → mnT g n = H - mxT f n := by
  intro n
  induction n with
  | zero => intro h; exact (h 0 (Nat.le_refl 0)).1
  | succ n ih =>
    intro h
    have e := ih (fun j hj => h j (by omega))
    have h1 := h (n + 1) (Nat.le_refl _)
    obtain ⟨i, hi, hm⟩ := mxT_in f n
    have h2 := h i (by omega)
    simp only [mnT, mxT]
    rw [e, h1.1]
    have e1 := i32_sb hH h1.2
    have e2 := i32_sb hH h2.2
    by_cases q : mxT f n < f (n + 1)
    · rw [if_pos q, if_pos]
      rw [i32_lt] at q ⊢
      rw [hm] at q ⊢
      omega
    · rw [if_neg q, if_neg]
      rw [i32_lt] at q ⊢
      rw [hm] at q ⊢
      omega
theorem mx_flip {H : Int32} {f g : Nat → Int32} (hH : -1000 ≤ H.toInt ∧ H.toInt ≤ 1000) : ∀ n, (∀ j, j ≤ n → g j = H - f j ∧ -1000 ≤ (f j).toInt ∧ (f j).toInt ≤ 1000) → mxT g n = H - mnT f n := by
  intro n
  induction n with
  | zero => intro h; exact (h 0 (Nat.le_refl 0)).1
  | succ n ih =>
    intro h
    have e := ih (fun j hj => h j (by omega))
    have h1 := h (n + 1) (Nat.le_refl _)
    obtain ⟨i, hi, hm⟩ := mnT_in f n
    have h2 := h i (by omega)
    simp only [mnT, mxT]
    rw [e, h1.1]
    have e1 := i32_sb hH h1.2
    have e2 := i32_sb hH h2.2
    by_cases q : f (n + 1) < mnT f n
    · rw [if_pos q, if_pos]
      rw [i32_lt] at q ⊢
      rw [hm] at q ⊢
      omega
    · rw [if_neg q, if_neg]
      rw [i32_lt] at q ⊢
      rw [hm] at q ⊢
      omega
theorem rt_ext {H : Int32} {P P' : Py} (h : rtB H P P') (hs : Smal P) (hH : -1000 ≤ H.toInt ∧ H.toInt ≤ 1000) : pL P' = H - pT P ∧ pR P' = H - pB P ∧ pB P' = pL P ∧ pT P' = pR P := by
  have h3 := hs.1
  unfold pL pR pB pT
  rw [h.1]
  refine ⟨mn_flip hH _ (fun j hj => ?_), mx_flip hH _ (fun j hj => ?_), mnT_congr _ (fun j hj => (h.2 j (by omega)).2), mxT_congr _ (fun j hj => (h.2 j (by omega)).2)⟩
  · have := hs.2 j (by omega); exact ⟨(h.2 j (by omega)).1, by omega, by omega⟩
  · have := hs.2 j (by omega); exact ⟨(h.2 j (by omega)).1, by omega, by omega⟩
theorem pT_bd {P : Py} (hs : Smal P) : (-200 ≤ (pT P).toInt ∧ (pT P).toInt ≤ 200) ∧ (-200 ≤ (pB P).toInt ∧ (pB P).toInt ≤ 200) := by
  have h3 := hs.1
  obtain ⟨i, h1, e1⟩ := mxT_in P.2.2 (P.1 - 1)
  obtain ⟨j, h2, e2⟩ := mnT_in P.2.2 (P.1 - 1)
  unfold pT pB
  rw [e1, e2]
  exact ⟨(hs.2 i (by omega)).2, (hs.2 j (by omega)).2⟩
/-- walls of the first box, told of the turned one: the law's own way -/
def waV (v : Int32) : Int32 := (((v &&& 1) * 4 + ((v >>> ((1 : Int32) &&& 31)) &&& 1) * 8) + ((v >>> ((2 : Int32) &&& 31)) &&& 1) * 2) + ((v >>> ((3 : Int32) &&& 31)) &&& 1)
def wlB (a b c d : Bool) : Int32 := (((if a then 1 else 0) ||| (if b then 2 else 0)) ||| (if c then 4 else 0)) ||| (if d then 8 else 0)
theorem waV_B : ∀ a b c d : Bool, waV (wlB a b c d) = wlB d c a b := by decide +kernel
theorem wlB_0 : ∀ a b c d : Bool, wlB a b c d = 0 ↔ wlB d c a b = 0 := by decide +kernel
theorem wlB_nn : ∀ a b c d : Bool, 0 ≤ wlB a b c d ∧ wlB a b c d ≤ 15 := by decide +kernel
theorem tou_B (P : Py) (w h : Int32) : pTouched P w h = wlB (decide (pL P = 0)) (decide (pR P = w)) (decide (pB P = 0)) (decide (pT P = h)) := by
  unfold pTouched wlB
  simp only [decide_eq_true_eq]
theorem bey_B (P : Py) (w h : Int32) : pBeyond P w h = wlB (!decide (0 ≤ pL P)) (!decide (pR P ≤ w)) (!decide (0 ≤ pB P)) (!decide (pT P ≤ h)) := by
  unfold pBeyond wlB
  by_cases h1 : 0 ≤ pL P <;> by_cases h2 : pR P ≤ w <;> by_cases h3 : 0 ≤ pB P <;> by_cases h4 : pT P ≤ h <;> simp [h1, h2, h3, h4]
theorem sb_eq0 {H a : Int32} : H - a = 0 ↔ a = H := by
  constructor
  · intro h; have : H - a + a = 0 + a := by rw [h]
    grind
  · intro h; rw [h]; grind
theorem sb_eqH {H a : Int32} : H - a = H ↔ a = 0 := by
  constructor
  · intro h; grind
  · intro h; rw [h]; grind
theorem rt_touched {w h : Int32} {P P' : Py} (hr : rtB h P P') (hs : Smal P) (hh : -1000 ≤ h.toInt ∧ h.toInt ≤ 1000) : pTouched P' h w = waV (pTouched P w h) := by
  obtain ⟨e1, e2, e3, e4⟩ := rt_ext hr hs hh
  rw [tou_B, tou_B, waV_B, e1, e2, e3, e4]
  rw [decide_eq_decide.mpr (sb_eq0 (H := h) (a := pT P)), decide_eq_decide.mpr (sb_eqH (H := h) (a := pB P))]
theorem rt_beyond {w h : Int32} {P P' : Py} (hr : rtB h P P') (hs : Smal P) (hh : -1000 ≤ h.toInt ∧ h.toInt ≤ 1000) : pBeyond P' h w = waV (pBeyond P w h) := by
  obtain ⟨e1, e2, e3, e4⟩ := rt_ext hr hs hh
  have b := pT_bd hs
  have s1 := i32_sb (a := h) (b := pT P) hh (by omega)
  have s2 := i32_sb (a := h) (b := pB P) hh (by omega)
  have e0 : (0 : Int32).toInt = 0 := by decide
  have q1 : decide (0 ≤ h - pT P) = decide (pT P ≤ h) := decide_eq_decide.mpr (by rw [i32_le, i32_le, s1, e0]; omega)
  have q2 : decide (h - pB P ≤ h) = decide (0 ≤ pB P) := decide_eq_decide.mpr (by rw [i32_le, i32_le, s2, e0]; omega)
  rw [bey_B, bey_B, waV_B, e1, e2, e3, e4, q1, q2]
theorem rt_beyond0 {w h : Int32} {P P' : Py} (hr : rtB h P P') (hs : Smal P) (hh : -1000 ≤ h.toInt ∧ h.toInt ≤ 1000) : pBeyond P' h w = 0 ↔ pBeyond P w h = 0 := by
  rw [rt_beyond hr hs hh, bey_B, waV_B]
  exact (wlB_0 _ _ _ _).symm
/-! steps -/
def d2 (d : Nat) : Nat := (d + 2) % 8
theorem d2_lt (d : Nat) : d2 d < 8 := Nat.mod_lt _ (by decide)
theorem st_rt : ∀ d, d < 8 → stX (d2 d) = -stY d ∧ stY (d2 d) = stX d := by decide
theorem rt_mv {H : Int32} {P P' : Py} (h : rtB H P P') {d : Nat} (hd : d < 8) : rtB H (mvP P (stX d) (stY d)) (mvP P' (stX (d2 d)) (stY (d2 d))) := by
  obtain ⟨e1, e2⟩ := st_rt d hd
  refine ⟨h.1, fun j hj => ?_⟩
  have hj2 : j < P.1 := hj
  obtain ⟨g1, g2⟩ := h.2 j hj2
  show P'.2.1 j + stX (d2 d) = H - (P.2.2 j + stY d) ∧ P'.2.2 j + stY (d2 d) = P.2.1 j + stX d
  rw [g1, g2, e1, e2]
  exact ⟨by grind, rfl⟩
theorem rt_mvN {H : Int32} {P P' : Py} (h : rtB H P P') {d : Nat} (hd : d < 8) : ∀ t, rtB H (mvN P d t) (mvN P' (d2 d) t) := by
  intro t
  induction t with
  | zero => exact h
  | succ t ih => exact rt_mv ih hd
theorem mvN_bd {P : Py} {w h : Int32} (hP : WfB P w h) (hb : BoxOk w h) {d : Nat} (hd : d < 8) : ∀ t : Nat, t ≤ 100 → ∀ k, k < P.1 → ((-(t : Int) ≤ ((mvN P d t).2.1 k).toInt ∧ ((mvN P d t).2.1 k).toInt ≤ 60 + t) ∧ (-(t : Int) ≤ ((mvN P d t).2.2 k).toInt ∧ ((mvN P d t).2.2 k).toInt ≤ 60 + t)) := by
  intro t
  induction t with
  | zero =>
    intro _ k hk
    have h1 := hP.2 k hk
    unfold BoxOk at hb
    show (_ ≤ (P.2.1 k).toInt ∧ (P.2.1 k).toInt ≤ _) ∧ (_ ≤ (P.2.2 k).toInt ∧ (P.2.2 k).toInt ≤ _)
    omega
  | succ t ih =>
    intro ht k hk
    have h1 := ih (by omega) k hk
    have h2 := st_bd d hd
    have e1 := i32_add (n := 200) (a := (mvN P d t).2.1 k) (b := stX d) (by omega) (by omega) (by omega)
    have e2 := i32_add (n := 200) (a := (mvN P d t).2.2 k) (b := stY d) (by omega) (by omega) (by omega)
    show (_ ≤ ((mvN P d t).2.1 k + stX d).toInt ∧ ((mvN P d t).2.1 k + stX d).toInt ≤ _) ∧ (_ ≤ ((mvN P d t).2.2 k + stY d).toInt ∧ ((mvN P d t).2.2 k + stY d).toInt ≤ _)
    omega
theorem mvN_sm {P : Py} {w h : Int32} (hP : WfB P w h) (hb : BoxOk w h) {d : Nat} (hd : d < 8) {t : Nat} (ht : t ≤ 100) : Smal (mvN P d t) := by
  refine ⟨by rw [mvN_n]; exact hP.1, fun k hk => ?_⟩
  have := mvN_bd hP hb hd t ht k (by rw [mvN_n] at hk; exact hk)
  omega
/-! area -/
theorem smT_add (f g : Nat → Int32) : ∀ n, smT (fun k => f k + g k) n = smT f n + smT g n := by
  intro n
  induction n with
  | zero => rfl
  | succ n ih => simp only [smT]; rw [ih]; grind
theorem smT_mul (c : Int32) (f : Nat → Int32) : ∀ n, smT (fun k => c * f k) n = c * smT f n := by
  intro n
  induction n with
  | zero => simp [smT]
  | succ n ih => simp only [smT]; rw [ih]; grind
theorem smT_sh (f : Nat → Int32) : ∀ n, smT (fun k => f (k + 1)) n + f 0 = smT f (n + 1) := by
  intro n
  induction n with
  | zero => simp [smT]
  | succ n ih =>
    have h1 : smT (fun k => f (k + 1)) (n + 1) = smT (fun k => f (k + 1)) n + f (n + 1) := rfl
    have h2 : smT f (n + 1 + 1) = smT f (n + 1) + f (n + 1) := rfl
    rw [h1, h2, ← ih]; grind
theorem smT_nx (f : Nat → Int32) {n : Nat} (h : 0 < n) : smT (fun k => f (nx n k)) n = smT f n := by
  obtain ⟨m, rfl⟩ : ∃ m, n = m + 1 := ⟨n - 1, by omega⟩
  show smT (fun k => f (nx (m + 1) k)) m + f (nx (m + 1) m) = _
  rw [← smT_sh f m, show nx (m + 1) m = 0 from if_neg (Nat.lt_irrefl _), smT_congr (g := fun k => f (k + 1)) m (fun j hj => by rw [show nx (m + 1) j = j + 1 from if_pos (by omega)])]
theorem rt_area {H : Int32} {P P' : Py} (h : rtB H P P') (h0 : 0 < P.1) : pArea P' = pArea P := by
  unfold pArea
  rw [h.1]
  have e : ∀ j, j < P.1 → pAf P' j = (pAf P j + H * P.2.1 (nx P.1 j)) + (-H) * P.2.1 j := by
    intro j hj
    have h1 := h.2 j hj
    have h2 := h.2 _ (nx_lt hj)
    unfold pAf
    rw [h.1, h1.1, h1.2, h2.1, h2.2]
    grind
  rw [smT_congr _ e, smT_add (fun j => pAf P j + H * P.2.1 (nx P.1 j)) (fun j => (-H) * P.2.1 j), smT_add (pAf P) (fun j => H * P.2.1 (nx P.1 j)), smT_mul (-H) P.2.1, smT_mul H (fun j => P.2.1 (nx P.1 j)), smT_nx P.2.1 h0]
  grind
