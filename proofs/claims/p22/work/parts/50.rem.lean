/-! steps that are left, and small rows -/
def remP (d : Nat) (P : Py) : Int := if d = 2 then 60 - (P.2.2 0).toInt else if d = 6 then (P.2.2 0).toInt else if 2 < d ∧ d < 6 then (P.2.1 0).toInt else 60 - (P.2.1 0).toInt
theorem rem_bd {P : Py} {w h : Int32} {d : Nat} (hP : WfB P w h) (hb : BoxOk w h) : 0 ≤ remP d P ∧ remP d P ≤ 60 := by
  have h1 := hP.2 0 (by have := hP.1; omega)
  unfold BoxOk at hb
  unfold remP
  split
  · omega
  · split
    · omega
    · split <;> omega
theorem rem_mv {P : Py} {w h : Int32} {d : Nat} (hP : WfB P w h) (hb : BoxOk w h) (hd : d < 8) : remP d (mvP P (stX d) (stY d)) = remP d P - 1 := by
  have h1 := hP.2 0 (by have := hP.1; omega)
  have h2 := st_bd d hd
  unfold BoxOk at hb
  have e1 := i32_add (n := 200) (a := P.2.1 0) (b := stX d) (by omega) (by omega) (by omega)
  have e2 := i32_add (n := 200) (a := P.2.2 0) (b := stY d) (by omega) (by omega) (by omega)
  have key : ∀ d, d < 8 → (d = 2 → (stY d).toInt = 1) ∧ (d = 6 → (stY d).toInt = -1) ∧ (2 < d ∧ d < 6 → (stX d).toInt = -1) ∧ (¬ d = 2 → ¬ d = 6 → ¬ (2 < d ∧ d < 6) → (stX d).toInt = 1) := by decide
  obtain ⟨k1, k2, k3, k4⟩ := key d hd
  show (if d = 2 then 60 - (P.2.2 0 + stY d).toInt else if d = 6 then (P.2.2 0 + stY d).toInt else if 2 < d ∧ d < 6 then (P.2.1 0 + stX d).toInt else 60 - (P.2.1 0 + stX d).toInt) = remP d P - 1
  unfold remP
  by_cases q1 : d = 2
  · rw [if_pos q1, if_pos q1, e2, k1 q1]; omega
  · rw [if_neg q1, if_neg q1]
    by_cases q2 : d = 6
    · rw [if_pos q2, if_pos q2, e2, k2 q2]; omega
    · rw [if_neg q2, if_neg q2]
      by_cases q3 : 2 < d ∧ d < 6
      · rw [if_pos q3, if_pos q3, e1, k3 q3]; omega
      · rw [if_neg q3, if_neg q3, e1, k4 q1 q2 q3]; omega
theorem rem_mvN {s : St} {k d : Nat} (hW : WfS s) (hk : k < s.1) (hd : d < 8) : ∀ t, anT (fkF s k d) t = false → remP d (mvN (s.2.2.2 k) d t) = remP d (s.2.2.2 k) - t := by
  intro t
  induction t with
  | zero => intro _; show remP d (s.2.2.2 k) = _; omega
  | succ t ih =>
    intro h
    have h0 : anT (fkF s k d) t = false := anT_false.mpr (fun j hj => anT_false.mp h j (by omega))
    have h1 := ih h0
    have h2 := rem_mv (mvN_wf hW hk h0) hW.1 hd
    show remP d (mvP (mvN (s.2.2.2 k) d t) (stX d) (stY d)) = _
    rw [h2, h1]
    omega
theorem fsN_60 {s : St} {k d most : Nat} (hW : WfS s) (hk : k < s.1) (hd : d < 8) : fsN s k d most ≤ 60 := by
  have h0 := fsN_ok (s := s) (k := k) (d := d) (most := most)
  have h1 := rem_mvN hW hk hd _ h0
  have h2 := rem_bd (d := d) (mvN_wf hW hk h0) hW.1
  have h3 := rem_bd (d := d) (hW.2 k hk) hW.1
  omega
theorem fs61 {s : St} {k d : Nat} (hW : WfS s) (hk : k < s.1) (hd : d < 8) : fsN s k d 61 = fsN s k d 60 := by
  have h1 := fsN_60 (most := 61) hW hk hd
  have h0 := fsN_ok (s := s) (k := k) (d := d) (most := 61)
  unfold fsN at *
  cases h : fsT (fkF s k d) 61 with
  | none => rw [h] at h1; simp at h1
  | some t =>
    rw [h] at h1
    obtain ⟨g1, g2, g3⟩ := fsT_some h
    rcases Nat.lt_or_ge t 60 with q | q
    · rw [fsT_first g3 g2 q]
    · have : t = 60 := by
        have : t ≤ 60 := h1
        omega
      subst this
      rw [fsT_none.mpr g3]
def remS (d : Nat) (B : Nat → Py) : Nat → Int
  | 0 => 0
  | k + 1 => remS d B k + remP d (B k)
theorem remS_congr {d : Nat} {B C : Nat → Py} : ∀ n, (∀ j, j < n → B j = C j) → remS d B n = remS d C n := by
  intro n
  induction n with
  | zero => intro _; rfl
  | succ n ih =>
    intro h
    simp only [remS]
    rw [ih (fun j hj => h j (by omega)), h n (by omega)]
theorem remS_bd {s : St} {d : Nat} (hW : WfS s) : ∀ n, n ≤ s.1 → 0 ≤ remS d s.2.2.2 n ∧ remS d s.2.2.2 n ≤ 60 * n := by
  intro n
  induction n with
  | zero => intro _; simp [remS]
  | succ n ih =>
    intro hn
    have h1 := ih (by omega)
    have h2 := rem_bd (d := d) (hW.2 n (by omega)) hW.1
    simp only [remS]
    omega
theorem remS_set {d k : Nat} {P : Py} {B : Nat → Py} : ∀ n, k < n → remS d (fun j => if j = k then P else B j) n = remS d B n - remP d (B k) + remP d P := by
  intro n
  induction n with
  | zero => intro h; exact absurd h (Nat.not_lt_zero _)
  | succ n ih =>
    intro h
    simp only [remS]
    rcases Nat.lt_or_ge k n with q | q
    · rw [ih q, if_neg (by omega)]; omega
    · have e : k = n := by omega
      subst e
      rw [if_pos rfl, remS_congr (C := B) k (fun j hj => if_neg (by omega))]
      omega
theorem rd_rem {s : St} {d : Nat} (hW : WfS s) (hd : d < 8) : ∀ k, k ≤ s.1 → remS d (rdS s d k).1.2.2.2 s.1 + (rdS s d k).2 = remS d s.2.2.2 s.1 := by
  intro k
  induction k with
  | zero => intro _; simp [rdS]
  | succ k ih =>
    intro hk
    have h1 := ih (by omega)
    have w := rdS_wf (d := d) hW k (by omega)
    have n1 := rdS_1 s d k
    have h2 := rem_mvN w (by rw [n1.1]; omega) hd _ (fsN_ok (s := (rdS s d k).1) (k := k) (d := d) (most := 60))
    show remS d (fun j => if j = k then shP ((rdS s d k).1.2.2.2 k) d (fsN (rdS s d k).1 k d 60) else (rdS s d k).1.2.2.2 j) s.1 + (((rdS s d k).2 + fsN (rdS s d k).1 k d 60 : Nat) : Int) = _
    rw [remS_set s.1 (by omega), ← mvN_sh, h2]
    omega
theorem seS_le (d : Nat) : ∀ r (s : St) (a : Nat), s.1 ≤ 8 → (seS d r s a).2 ≤ a + 480 * r := by
  intro r
  induction r with
  | zero => intro s a _; exact Nat.le_refl _
  | succ r ih =>
    intro s a h8
    simp only [seS]
    have hl := rdS_le s d s.1
    split
    · show a ≤ _; omega
    · have := ih (rdS s d s.1).1 (a + (rdS s d s.1).2) (by rw [(rdS_1 s d s.1).1]; exact h8)
      omega
theorem ke_big {s : St} {d k : Nat} (h8 : s.1 ≤ 8) : (seS d 1000 (outS s k) 0).2 < 2 ^ 31 := by
  have := seS_le d 1000 (outS s k) 0 (by show s.1 - 1 ≤ 8; omega)
  omega
