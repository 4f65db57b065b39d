/-! more of the reference's words -/
def On3 (M M' : Mem) : Prop := ∀ i, i ≠ 233 → M' i = M i
theorem On3.rf {M : Mem} : On3 M M := fun _ _ => rfl
theorem On3.tr {M M1 M2 : Mem} (h1 : On3 M M1) (h2 : On3 M1 M2) : On3 M M2 := fun i hi => (h2 i hi).trans (h1 i hi)
theorem On3.rw {M : Mem} {A : Nat → Int32} : On3 M (rwA M A) := fun _ hi => rwA_ne hi
theorem ov_or {s : St} {P : Py} {b k : Nat} (hb : b ≤ 8) (hk : k < 8) : bsT (ovF s P (nI b)) k ||| (if k = b then (0 : Int32) else if ((pSep P (s.2.2.2 k) 0).isSome || (pSep (s.2.2.2 k) P 0).isSome) = true then (0 : Int32) else 1 <<< (nI k &&& 31)) = bsT (ovF s P (nI b)) (k + 1) := by
  have e : (nI k = nI b) ↔ k = b := nI_eq (by omega) (by omega)
  by_cases h1 : k = b
  · rw [if_pos h1, Int32.or_zero, bsT_f]
    unfold ovF
    rw [decide_eq_false (fun z => z (e.mpr h1)), Bool.false_and]
  · rw [if_neg h1]
    have hd : decide (¬ nI k = nI b) = true := decide_eq_true (fun z => h1 (e.mp z))
    by_cases h2 : ((pSep P (s.2.2.2 k) 0).isSome || (pSep (s.2.2.2 k) P 0).isSome) = true
    · rw [if_pos h2, Int32.or_zero, bsT_f]
      unfold ovF ovl
      rw [no_or h2, Bool.and_false]
    · rw [if_neg h2, bsT_t]
      unfold ovF ovl
      rw [hd, no_or2 (Bool.eq_false_iff.mpr h2)]
      rfl
theorem tc_or {s : St} {b k : Nat} : bsT (tcF s b) k ||| (if k = b then (0 : Int32) else if tch (s.2.2.2 b) (s.2.2.2 k) = true then 1 <<< (nI k &&& 31) else (0 : Int32)) = bsT (tcF s b) (k + 1) := by
  by_cases h1 : k = b
  · rw [if_pos h1, Int32.or_zero, bsT_f]
    unfold tcF
    rw [decide_eq_false (fun z => z h1), Bool.false_and]
  · rw [if_neg h1]
    by_cases h2 : tch (s.2.2.2 b) (s.2.2.2 k) = true
    · rw [if_pos h2, bsT_t]
      unfold tcF
      rw [decide_eq_true h1, h2]; rfl
    · rw [if_neg h2, Int32.or_zero, bsT_f]
      unfold tcF
      rw [Bool.eq_false_iff.mpr h2, Bool.and_false]
theorem fr_or {f : Nat → Bool} {q : Bool} {k : Nat} (h : f k = q) : bsT f k ||| (if q = true then 1 <<< (nI k &&& 31) else (0 : Int32)) = bsT f (k + 1) := by
  by_cases h2 : q = true
  · rw [if_pos h2, bsT_t (by rw [h, h2])]
  · rw [if_neg h2, Int32.or_zero, bsT_f (by rw [h]; exact Bool.eq_false_iff.mpr h2)]
theorem mx_step {g : Nat → Int32} {k : Nat} : (if g (k + 1) ≤ mxT g k then mxT g k else g (k + 1)) = mxT g (k + 1) := by
  simp only [mxT]
  by_cases h : g (k + 1) ≤ mxT g k
  · rw [if_pos h, if_neg (Int32.not_lt.mpr h)]
  · rw [if_neg h, if_pos (Int32.not_le.mp h)]
theorem tb_85 : ∀ i, i < 32 → tb 85 i = (decide (i = 0) || decide (i = 2) || decide (i = 4) || decide (i = 6)) := by decide
theorem fr_85 {s : St} {k : Nat} : frS s k &&& 85 = 0 ↔ jm4 s k 4 = false := by
  have h1 : ∀ i, i < 32 → tb (frS s k &&& 85) i = ((decide (i < 8) && frF s k i) && (decide (i = 0) || decide (i = 2) || decide (i = 4) || decide (i = 6))) := by
    intro i hi
    rw [tb_and, tb_85 i hi]
    unfold frS
    rw [tb_bsT (Nat.le_refl 8) hi]
  have hj : jm4 s k 4 = (frF s k 0 || frF s k 2 || frF s k 4 || frF s k 6) := by
    simp only [jm4, Nat.mul_zero, Nat.mul_one]
    unfold frF
    by_cases a0 : fsN s k 0 1 = 1 <;> by_cases a2 : fsN s k 2 1 = 1 <;> by_cases a4 : fsN s k 4 1 = 1 <;> by_cases a6 : fsN s k 6 1 = 1 <;> simp [a0, a2, a4, a6]
  rw [hj]
  constructor
  · intro e
    have b0 := h1 0 (by omega)
    have b2 := h1 2 (by omega)
    have b4 := h1 4 (by omega)
    have b6 := h1 6 (by omega)
    rw [e, tb_0] at b0 b2 b4 b6
    simp at b0 b2 b4 b6
    rw [b0, b2, b4, b6]; rfl
  · intro e
    simp only [Bool.or_eq_false_iff] at e
    apply tb_ext
    intro i hi
    rw [h1 i hi, tb_0]
    by_cases q0 : i = 0
    · subst q0; simp [e]
    · by_cases q2 : i = 2
      · subst q2; simp [e]
      · by_cases q4 : i = 4
        · subst q4; simp [e]
        · by_cases q6 : i = 6
          · subst q6; simp [e]
          · simp [q0, q2, q4, q6]
/-! how far a body can go at all -/
def remP (d : Nat) (P : Py) : Int := if d = 2 then 60 - (P.2.2 0).toInt else if d = 6 then (P.2.2 0).toInt else if 2 < d ∧ d < 6 then (P.2.1 0).toInt else 60 - (P.2.1 0).toInt
theorem rem_bd {P : Py} {w h : Int32} {d : Nat} (hP : WfB P w h) (hb : BoxOk w h) : 0 ≤ remP d P ∧ remP d P ≤ 60 := by
  have h1 := hP.2 0 (by have := hP.1; omega)
  unfold BoxOk at hb
  unfold remP
  split
  · omega
  · split
    · omega
    · split <;> omega
theorem rem_mv {P : Py} {w h : Int32} {d : Nat} (hP : WfB P w h) (hb : BoxOk w h) (hd : d < 8) : remP d (mvP P (stX d) (stY d)) = remP d P - 1 := by
  have h1 := hP.2 0 (by have := hP.1; omega)
  have h2 := st_bd d hd
  unfold BoxOk at hb
  have e1 := i32_add (n := 200) (a := P.2.1 0) (b := stX d) (by omega) (by omega) (by omega)
  have e2 := i32_add (n := 200) (a := P.2.2 0) (b := stY d) (by omega) (by omega) (by omega)
  have key : ∀ d, d < 8 → (d = 2 → (stY d).toInt = 1) ∧ (d = 6 → (stY d).toInt = -1) ∧ (2 < d ∧ d < 6 → (stX d).toInt = -1) ∧ (¬ d = 2 → ¬ d = 6 → ¬ (2 < d ∧ d < 6) → (stX d).toInt = 1) := by decide
  obtain ⟨k1, k2, k3, k4⟩ := key d hd
  show (if d = 2 then 60 - (P.2.2 0 + stY d).toInt else if d = 6 then (P.2.2 0 + stY d).toInt else if 2 < d ∧ d < 6 then (P.2.1 0 + stX d).toInt else 60 - (P.2.1 0 + stX d).toInt) = remP d P - 1
  unfold remP
  by_cases q1 : d = 2
  · rw [if_pos q1, if_pos q1, e2, k1 q1]; omega
  · rw [if_neg q1, if_neg q1]
    by_cases q2 : d = 6
    · rw [if_pos q2, if_pos q2, e2, k2 q2]; omega
    · rw [if_neg q2, if_neg q2]
      by_cases q3 : 2 < d ∧ d < 6
      · rw [if_pos q3, if_pos q3, e1, k3 q3]; omega
      · rw [if_neg q3, if_neg q3, e1, k4 q1 q2 q3]; omega
theorem rem_mvN {s : St} {k d : Nat} (hW : WfS s) (hk : k < s.1) (hd : d < 8) : ∀ t, anT (fkF s k d) t = false → remP d (mvN (s.2.2.2 k) d t) = remP d (s.2.2.2 k) - t := by
  intro t
  induction t with
  | zero => intro _; show remP d (s.2.2.2 k) = _; omega
  | succ t ih =>
    intro h
    have h0 : anT (fkF s k d) t = false := anT_false.mpr (fun j hj => anT_false.mp h j (by omega))
    have h1 := ih h0
    have h2 := rem_mv (mvN_wf hW hk h0) hW.1 hd
    show remP d (mvP (mvN (s.2.2.2 k) d t) (stX d) (stY d)) = _
    rw [h2, h1]
    omega
theorem fsN_60 {s : St} {k d most : Nat} (hW : WfS s) (hk : k < s.1) (hd : d < 8) : fsN s k d most ≤ 60 := by
  have h0 := fsN_ok (s := s) (k := k) (d := d) (most := most)
  have h1 := rem_mvN hW hk hd _ h0
  have h2 := rem_bd (d := d) (mvN_wf hW hk h0) hW.1
  have h3 := rem_bd (d := d) (hW.2 k hk) hW.1
  omega
theorem fs61 {s : St} {k d : Nat} (hW : WfS s) (hk : k < s.1) (hd : d < 8) : fsN s k d 61 = fsN s k d 60 := by
  have h1 := fsN_60 (most := 61) hW hk hd
  have h0 := fsN_ok (s := s) (k := k) (d := d) (most := 61)
  unfold fsN at *
  cases h : fsT (fkF s k d) 61 with
  | none => rw [h] at h1; simp at h1
  | some t =>
    rw [h] at h1
    obtain ⟨g1, g2, g3⟩ := fsT_some h
    rcases Nat.lt_or_ge t 60 with q | q
    · rw [fsT_first g3 g2 q]
    · have : t = 60 := by
        have : t ≤ 60 := h1
        omega
      subst this
      rw [fsT_none.mpr g3]
def remS (d : Nat) (B : Nat → Py) : Nat → Int
  | 0 => 0
  | k + 1 => remS d B k + remP d (B k)
theorem remS_congr {d : Nat} {B C : Nat → Py} : ∀ n, (∀ j, j < n → B j = C j) → remS d B n = remS d C n := by
  intro n
  induction n with
  | zero => intro _; rfl
  | succ n ih =>
    intro h
    simp only [remS]
    rw [ih (fun j hj => h j (by omega)), h n (by omega)]
theorem remS_bd {s : St} {d : Nat} (hW : WfS s) : ∀ n, n ≤ s.1 → 0 ≤ remS d s.2.2.2 n ∧ remS d s.2.2.2 n ≤ 60 * n := by
  intro n
  induction n with
  | zero => intro _; simp [remS]
  | succ n ih =>
    intro hn
    have h1 := ih (by omega)
    have h2 := rem_bd (d := d) (hW.2 n (by omega)) hW.1
    simp only [remS]
    omega
theorem remS_set {d k : Nat} {P : Py} {B : Nat → Py} : ∀ n, k < n → remS d (fun j => if j = k then P else B j) n = remS d B n - remP d (B k) + remP d P := by
  intro n
  induction n with
  | zero => intro h; exact absurd h (Nat.not_lt_zero _)
  | succ n ih =>
    intro h
    simp only [remS]
    rcases Nat.lt_or_ge k n with q | q
    · rw [ih q, if_neg (by omega)]; omega
    · have e : k = n := by omega
      subst e
      rw [if_pos rfl, remS_congr (C := B) k (fun j hj => if_neg (by omega))]
      omega
theorem rd_rem {s : St} {d : Nat} (hW : WfS s) (hd : d < 8) : ∀ k, k ≤ s.1 → remS d (rdS s d k).1.2.2.2 s.1 + (rdS s d k).2 = remS d s.2.2.2 s.1 := by
  intro k
  induction k with
  | zero => intro _; simp [rdS]
  | succ k ih =>
    intro hk
    have h1 := ih (by omega)
    have w := rdS_wf (d := d) hW k (by omega)
    have n1 := rdS_1 s d k
    have h2 := rem_mvN w (by rw [n1.1]; omega) hd _ (fsN_ok (s := (rdS s d k).1) (k := k) (d := d) (most := 60))
    show remS d (fun j => if j = k then shP ((rdS s d k).1.2.2.2 k) d (fsN (rdS s d k).1 k d 60) else (rdS s d k).1.2.2.2 j) s.1 + (((rdS s d k).2 + fsN (rdS s d k).1 k d 60 : Nat) : Int) = _
    rw [remS_set s.1 (by omega), ← mvN_sh, h2]
    omega
/-- what is known at the head of settles' loop -/
def stI (s : St) (d r : Nat) (s2 : St) (all : Nat) (had : Int32) : Prop :=
  WfS s2 ∧ s2.1 = s.1 ∧ (all : Int) + remS d s2.2.2.2 s.1 = remS d s.2.2.2 s.1 ∧ (nI all = had → seS d 1000 s 0 = (s2, all)) ∧ (¬ nI all = had → r ≤ all ∧ seS d (1000 - r) s2 all = seS d 1000 s 0)
theorem stI_0 {s : St} {d : Nat} (hW : WfS s) : stI s d 0 s 0 (-1) := ⟨hW, rfl, by omega, fun h => absurd h (by decide), fun _ => ⟨Nat.le_refl 0, rfl⟩⟩
theorem stI_all {s s2 : St} {d r all : Nat} {had : Int32} (hW : WfS s) (h8 : s.1 ≤ 8) (h : stI s d r s2 all had) : all ≤ 480 := by
  have h1 := remS_bd (d := d) h.1 s2.1 (Nat.le_refl _)
  have h2 := remS_bd (d := d) hW s.1 (Nat.le_refl _)
  rw [h.2.1] at h1
  have := h.2.2.1
  omega
theorem stI_step {s s2 : St} {d r all : Nat} {had : Int32} (hW : WfS s) (h8 : s.1 ≤ 8) (hd : d < 8) (h : stI s d r s2 all had) (hne : ¬ nI all = had) : stI s d (r + 1) (rdS s2 d s2.1).1 (all + (rdS s2 d s2.1).2) (nI all) ∧ r + 1 ≤ 1000 := by
  have ha := stI_all hW h8 h
  obtain ⟨h1, h2, h3, h4, h5⟩ := h
  obtain ⟨h6, h7⟩ := h5 hne
  have w := rdS_wf (d := d) h1 s2.1 (Nat.le_refl _)
  have n1 := rdS_1 s2 d s2.1
  have hr := rd_rem h1 hd s2.1 (Nat.le_refl _)
  have hl := rdS_le s2 d s2.1
  refine ⟨⟨w, by rw [n1.1, h2], by rw [← h2] at h3 ⊢; omega, fun e => ?_, fun e => ⟨?_, ?_⟩⟩, by omega⟩
  · have e2 : (rdS s2 d s2.1).2 = 0 := by
      rw [nI_eq (by omega) (by omega)] at e; omega
    rw [← h7, show 1000 - r = (1000 - (r + 1)) + 1 by omega]
    simp only [seS]
    rw [if_pos e2, e2]
    rfl
  · have e2 : (rdS s2 d s2.1).2 ≠ 0 := fun z => e (by rw [z]; rfl)
    omega
  · have e2 : ¬ (rdS s2 d s2.1).2 = 0 := fun z => e (by rw [z]; rfl)
    rw [← h7, show 1000 - r = (1000 - (r + 1)) + 1 by omega]
    simp only [seS]
    rw [if_neg e2]
theorem PkM.hd {A A' : Nat → Int32} {s : St} (h : PkM A s) (h2 : A' 2 = nI s.1) (he : ∀ j, j ≠ 2 → A' j = A j) : PkM A' s := by
  have h8 := h.r
  refine ⟨by rw [he 0 (by omega)]; exact h.1, by rw [he 1 (by omega)]; exact h.2.1, h2, h8, fun k hk => ?_⟩
  obtain ⟨g1, g2, g3, g4⟩ := h.2.2.2.2 k hk
  exact ⟨by rw [he _ (by omega)]; exact g1, g2, fun j hj => by rw [he _ (by omega)]; exact g3 j hj, fun j hj => by rw [he _ (by omega)]; exact g4 j hj⟩
theorem BdM.any {A A' : Nat → Int32} {b : Nat} {P : Py} (h : BdM A b P) (he : ∀ j, 3 ≤ j → A' j = A j) : BdM A' b P := by
  obtain ⟨h1, h2, h3, h4⟩ := h
  exact ⟨by rw [he _ (by omega)]; exact h1, h2, fun k hk => by rw [he _ (by omega)]; exact h3 k hk, fun k hk => by rw [he _ (by omega)]; exact h4 k hk⟩
/-- copyBody's loop -/
def cpM (A : Nat → Int32) (a b c : Nat) (A2 : Nat → Int32) : Prop := A2 (3 + b) = A (3 + a) ∧ (∀ j, j < c → A2 (12 + 6 * b + j) = A (12 + 6 * a + j) ∧ A2 (66 + 6 * b + j) = A (66 + 6 * a + j)) ∧ FrB b A A2
theorem cpM_end {A A2 : Nat → Int32} {a b : Nat} {P : Py} (h : cpM A a b 6 A2) (hP : BdM A a P) : BdM A2 b P := by
  obtain ⟨h1, h2, h3⟩ := h
  obtain ⟨g1, g2, g3, g4⟩ := hP
  exact ⟨by rw [h1]; exact g1, g2, fun k hk => by rw [(h2 k (by omega)).1]; exact g3 k hk, fun k hk => by rw [(h2 k (by omega)).2]; exact g4 k hk⟩
theorem tne {b : Bool} (h : ¬ b = false) : b = true := by cases b; exact absurd rfl h; rfl
theorem cpM_step {M2 : Mem} {A : Nat → Int32} {a b c : Nat} (h : cpM A a b c (M2 233)) (hb : b ≤ 8) (hc : c < 6) : cpM A a b (c + 1) (mset (mset M2 233 (12 + 6 * b + c) (A (12 + 6 * a + c))) 233 (66 + 6 * b + c) (A (66 + 6 * a + c)) 233) := by
  obtain ⟨h1, h2, h3⟩ := h
  refine ⟨by rw [mset_ne (by omega), mset_ne (by omega)]; exact h1, fun j hj => ?_, fun j hj => ?_⟩
  · by_cases q : j = c
    · subst q
      refine ⟨?_, mset_self _ _ _ _⟩
      rw [mset_ne (by omega)]; exact mset_self _ _ _ _
    · have := h2 j (by omega)
      refine ⟨?_, ?_⟩
      · rw [mset_ne (by omega), mset_ne (by omega)]; exact this.1
      · rw [mset_ne (by omega), mset_ne (by omega)]; exact this.2
  · unfold ArB at hj
    rw [mset_ne (by omega), mset_ne (by omega)]
    exact h3 j (by unfold ArB; omega)
theorem On3.set {M : Mem} {k : Nat} {v : Int32} : On3 M (mset M 233 k v) := fun i hi => mset_off i hi
