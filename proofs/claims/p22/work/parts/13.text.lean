/-! TEXTS: (how many characters, the characters); how a body is read -/
abbrev Tx : Type := Nat × (Nat → Int32)
def chT (T : Tx) (c : Nat) : Int32 := if c < T.1 then T.2 c else 0
def noDg (v : Int32) : Bool := if v < 48 then true else if v ≤ 57 then false else true
/-- a digit: its value or -1, the place behind it -/
def dgT (T : Tx) (c : Nat) : Int32 × Nat := if noDg (chT T c) then (-1, c) else (chT T c - 48, c + 1)
def nuT (T : Tx) (c : Nat) : Int32 × Nat := if (dgT T c).1 < 0 then (-1, (dgT T c).2) else if (dgT T (dgT T c).2).1 < 0 then ((dgT T c).1, (dgT T (dgT T c).2).2) else (10 * (dgT T c).1 + (dgT T (dgT T c).2).1, (dgT T (dgT T c).2).2)
/-- a corner: is it one, its x, its y, the place behind it or of the fault -/
def crT (T : Tx) (c : Nat) : Bool × Int32 × Int32 × Nat :=
  if (nuT T c).1 < 0 then (false, 0, 0, (nuT T c).2)
  else if chT T (nuT T c).2 = 44 then
    (if (nuT T ((nuT T c).2 + 1)).1 < 0 then (false, 0, 0, (nuT T ((nuT T c).2 + 1)).2) else (true, (nuT T c).1, (nuT T ((nuT T c).2 + 1)).1, (nuT T ((nuT T c).2 + 1)).2))
  else (false, 0, 0, (nuT T c).2)
/-- where the k-th corner begins -/
def psT (T : Tx) : Nat → Nat
  | 0 => 0
  | k + 1 => (crT T (psT T k)).2.2.2 + 1
/-- from the k-th corner on: is it of the form, the place, how many corners -/
def rfT (T : Tx) : Nat → Nat → Bool × Nat × Nat
  | 0, k => (false, psT T k, k)
  | f + 1, k => if (crT T (psT T k)).1 then
      (if f = 0 then (decide ((crT T (psT T k)).2.2.2 = T.1) && decide (3 ≤ k + 1), (crT T (psT T k)).2.2.2, k + 1)
       else if chT T (crT T (psT T k)).2.2.2 = 59 then rfT T f (k + 1)
       else (decide ((crT T (psT T k)).2.2.2 = T.1) && decide (3 ≤ k + 1), (crT T (psT T k)).2.2.2, k + 1))
    else (false, (crT T (psT T k)).2.2.2, k)
theorem rfT_succ (T : Tx) (f k : Nat) : rfT T (f + 1) k = if (crT T (psT T k)).1 then
      (if f = 0 then (decide ((crT T (psT T k)).2.2.2 = T.1) && decide (3 ≤ k + 1), (crT T (psT T k)).2.2.2, k + 1)
       else if chT T (crT T (psT T k)).2.2.2 = 59 then rfT T f (k + 1)
       else (decide ((crT T (psT T k)).2.2.2 = T.1) && decide (3 ≤ k + 1), (crT T (psT T k)).2.2.2, k + 1))
    else (false, (crT T (psT T k)).2.2.2, k) := rfl
def formT (T : Tx) : Bool × Nat × Nat := rfT T 6 0
def polyT (T : Tx) : Py := ((formT T).2.2, fun k => (crT T (psT T k)).2.1, fun k => (crT T (psT T k)).2.2.1)
/-- place, reason and cause of the fault; reason 0: none -/
def fltT (T : Tx) (s : St) : Int32 × Int32 × Int32 :=
  if (formT T).1 = false then (nI (formT T).2.1, 1, 0)
  else match pOut (polyT T) s.2.1 s.2.2.1 with
    | some k => (0, 2, nI k)
    | none => if pShape (polyT T) < 0 then (if ovS s (polyT T) (-1) = 0 then (0, 0, 0) else (0, 4, nI (loT (ovS s (polyT T) (-1))))) else (0, 3, pShape (polyT T))
/-- the text's characters are such -/
def TxOk (T : Tx) : Prop := T.1 ≤ 60 ∧ ∀ j, j < T.1 → ∃ q : Nat, 32 ≤ q ∧ q ≤ 126 ∧ T.2 j = nI q
def TxM (M : Mem) (T : Tx) : Prop := M 227 3 = nI T.1 ∧ ∀ j, j < T.1 → M 228 j = T.2 j
theorem chT_ok {T : Tx} (h : TxOk T) (c : Nat) : ∃ q : Nat, q ≤ 126 ∧ chT T c = nI q := by
  unfold chT
  by_cases h1 : c < T.1
  · obtain ⟨q, h2, h3, h4⟩ := h.2 c h1
    exact ⟨q, h3, by rw [if_pos h1]; exact h4⟩
  · exact ⟨0, by omega, by rw [if_neg h1]; rfl⟩
theorem chT_nar {T : Tx} (h : TxOk T) (c : Nat) : narrow .char (.int (chT T c)) = .int (chT T c) := by
  obtain ⟨q, h1, h2⟩ := chT_ok h c
  rw [h2]
  exact (pk_charN (by omega)).1
theorem mset_same {M : Mem} {i k : Nat} {v : Int32} (h : M i k = v) : mset M i k v = M := by
  funext a j
  unfold mset
  by_cases q : a = i ∧ j = k
  · rw [if_pos q, q.1, q.2]; exact h.symm
  · rw [if_neg q]
theorem mset_mset (M : Mem) (i k : Nat) (u v : Int32) : mset (mset M i k u) i k v = mset M i k v := by
  funext a j
  unfold mset
  by_cases q : a = i ∧ j = k
  · rw [if_pos q, if_pos q]
  · rw [if_neg q, if_neg q, if_neg q]
theorem TxM.cur {M : Mem} {T : Tx} {v : Int32} (h : TxM M T) : TxM (mset M 227 1 v) T := ⟨by rw [mset_ne (by omega)]; exact h.1, fun j hj => by rw [mset_ne (by omega)]; exact h.2 j hj⟩
theorem dgT_le {T : Tx} {c : Nat} (h : c ≤ T.1) : c ≤ (dgT T c).2 ∧ (dgT T c).2 ≤ T.1 := by
  unfold dgT
  by_cases h1 : noDg (chT T c) = true
  · rw [if_pos h1]; exact ⟨Nat.le_refl _, h⟩
  · rw [if_neg h1]
    refine ⟨Nat.le_succ _, ?_⟩
    show c + 1 ≤ T.1
    rcases Nat.lt_or_ge c T.1 with q | q
    · exact q
    · exfalso
      apply h1
      unfold chT
      rw [if_neg (by omega)]
      decide
theorem nuT_le {T : Tx} {c : Nat} (h : c ≤ T.1) : c ≤ (nuT T c).2 ∧ (nuT T c).2 ≤ T.1 := by
  have h1 := dgT_le h
  have h2 := dgT_le h1.2
  unfold nuT
  split
  · exact h1
  · split
    · exact ⟨by show c ≤ (dgT T (dgT T c).2).2; omega, h2.2⟩
    · exact ⟨by show c ≤ (dgT T (dgT T c).2).2; omega, h2.2⟩
theorem chT_lt {T : Tx} {c : Nat} {w : Int32} (h : chT T c = w) (hw : ¬ w = 0) : c < T.1 := by
  rcases Nat.lt_or_ge c T.1 with q | q
  · exact q
  · exact absurd (by rw [← h]; unfold chT; rw [if_neg (by omega)]) hw
theorem crT_le {T : Tx} {c : Nat} (h : c ≤ T.1) : c ≤ (crT T c).2.2.2 ∧ (crT T c).2.2.2 ≤ T.1 := by
  have h1 := nuT_le h
  unfold crT
  split
  · exact h1
  · split
    next h3 =>
      have h4 := chT_lt h3 (by decide)
      have h2 := nuT_le (T := T) (c := (nuT T c).2 + 1) (by omega)
      split
      · exact ⟨by show c ≤ (nuT T ((nuT T c).2 + 1)).2; omega, h2.2⟩
      · exact ⟨by show c ≤ (nuT T ((nuT T c).2 + 1)).2; omega, h2.2⟩
    · exact h1
theorem crT_pos {T : Tx} {c : Nat} (h : (crT T c).1 = true) : ¬ (crT T c).2.1 < 0 ∧ ¬ (crT T c).2.2.1 < 0 := by
  unfold crT at *
  split at h
  · cases h
  next h1 =>
    rw [if_neg h1]
    split at h
    next h2 =>
      rw [if_pos h2]
      split at h
      · cases h
      next h3 => rw [if_neg h3]; exact ⟨h1, h3⟩
    · cases h
/-- all corners ahead of the k-th are such, and the signs between them -/
def sepT (T : Tx) (k : Nat) : Prop := ∀ j, j < k → (crT T (psT T j)).1 = true ∧ chT T (crT T (psT T j)).2.2.2 = 59
theorem psT_le {T : Tx} : ∀ k, sepT T k → psT T k ≤ T.1 := by
  intro k
  induction k with
  | zero => intro _; exact Nat.zero_le _
  | succ k ih =>
    intro h
    have h1 := ih (fun j hj => h j (by omega))
    have h2 := (h k (by omega)).2
    have h3 := chT_lt h2 (by decide)
    exact h3
theorem rfT_n {T : Tx} : ∀ f k, k ≤ (rfT T f k).2.2 ∧ (rfT T f k).2.2 ≤ k + f := by
  intro f
  induction f with
  | zero => intro k; exact ⟨Nat.le_refl _, Nat.le_refl _⟩
  | succ f ih =>
    intro k
    have := ih (k + 1)
    rw [rfT_succ]
    split
    · split
      · exact ⟨Nat.le_succ _, by show k + 1 ≤ k + (f + 1); omega⟩
      · split
        · omega
        · exact ⟨Nat.le_succ _, by show k + 1 ≤ k + (f + 1); omega⟩
    · exact ⟨Nat.le_refl _, by show k ≤ k + (f + 1); omega⟩
theorem rfT_3 {T : Tx} : ∀ f k, (rfT T f k).1 = true → 3 ≤ (rfT T f k).2.2 ∧ ∀ j, k ≤ j → j < (rfT T f k).2.2 → (crT T (psT T j)).1 = true := by
  intro f
  induction f with
  | zero => intro k h; cases h
  | succ f ih =>
    intro k h
    rw [rfT_succ] at h ⊢
    split at h
    next h1 =>
      rw [if_pos h1]
      split at h
      next h2 =>
        rw [if_pos h2]
        have h3 := (Bool.and_eq_true _ _).mp h
        exact ⟨of_decide_eq_true h3.2, fun j h4 h5 => by have : j < k + 1 := h5; rw [show j = k by omega]; exact h1⟩
      next h2 =>
        rw [if_neg h2]
        split at h
        next h4 =>
          rw [if_pos h4]
          have h5 := ih (k + 1) h
          refine ⟨h5.1, fun j h6 h7 => ?_⟩
          by_cases h8 : j = k
          · rw [h8]; exact h1
          · exact h5.2 j (by omega) h7
        next h4 =>
          rw [if_neg h4]
          have h3 := (Bool.and_eq_true _ _).mp h
          exact ⟨of_decide_eq_true h3.2, fun j h6 h5 => by have : j < k + 1 := h5; rw [show j = k by omega]; exact h1⟩
    · cases h
theorem formT_ok {T : Tx} (h : (formT T).1 = true) : 3 ≤ (polyT T).1 ∧ (polyT T).1 ≤ 6 ∧ ∀ k, k < (polyT T).1 → ¬ (polyT T).2.1 k < 0 ∧ ¬ (polyT T).2.2 k < 0 := by
  have h1 := rfT_3 6 0 h
  have h2 := rfT_n (T := T) 6 0
  exact ⟨h1.1, by show (rfT T 6 0).2.2 ≤ 6; omega, fun k hk => crT_pos (h1.2 k (Nat.zero_le _) hk)⟩
/-- of the form and in the box: small -/
theorem polyT_wf {T : Tx} {w h : Int32} (hf : (formT T).1 = true) (ho : pOut (polyT T) w h = none) : WfB (polyT T) w h := by
  obtain ⟨h1, h2, h3⟩ := formT_ok hf
  refine ⟨h1, fun k hk => ?_⟩
  have h4 := anT_false.mp (fsT_none.mp ho) k hk
  simp only [Bool.or_eq_false_iff, decide_eq_false_iff_not, Int32.not_lt] at h4
  have h5 := h3 k hk
  rw [Int32.not_lt, Int32.not_lt] at h5
  rw [i32_le, i32_le] at h4 h5
  have e0 : (0 : Int32).toInt = 0 := by decide
  omega
theorem opI_neg {o : Option Nat} {n : Nat} (hn : n < 2 ^ 31) (h : ∀ k, o = some k → k < n) : opI o < 0 ↔ o = none := by
  cases o with
  | none => exact ⟨fun _ => rfl, fun _ => by decide⟩
  | some k =>
    have := h k rfl
    constructor
    · intro q; exact absurd q (nI_pos (by omega))
    · intro q; cases q
/-- what else but the text's own cells stays -/
def FrT (M M' : Mem) : Prop := ∀ i, i ≠ 227 → ¬ (229 ≤ i ∧ i < 232) → M' i = M i
theorem FrT.rf {M : Mem} : FrT M M := fun _ _ _ => rfl
theorem FrT.tr {M M1 M2 : Mem} (h1 : FrT M M1) (h2 : FrT M1 M2) : FrT M M2 := fun i a b => (h2 i a b).trans (h1 i a b)
theorem TxM.fr {M M' : Mem} {T : Tx} (h : TxM M T) (hf : FrT M M') (h3 : M' 227 3 = M 227 3) : TxM M' T := ⟨by rw [h3]; exact h.1, fun j hj => by rw [hf 228 (by omega) (by omega)]; exact h.2 j hj⟩
theorem Pk.frT {M M' : Mem} {p : Nat} {s : St} (h : Pk M p s) (hf : FrT M M') (hp : kd p = 3) : Pk M' p s := by
  have hp1 := kd_3 hp
  obtain ⟨h1, h2, h3, h4, h5⟩ := h
  have e : M' p = M p := hf p (by omega) (by omega)
  refine ⟨by rw [e]; exact h1, by rw [e]; exact h2, by rw [e]; exact h3, h4, fun k hk => ?_⟩
  obtain ⟨g1, g2, g3, g4⟩ := h5 k hk
  have q1 : bo p k < 218 := by unfold bo; omega
  exact ⟨by rw [hf _ (by omega) (by omega)]; exact g1, g2, fun j hj => by rw [hf _ (by omega) (by omega)]; exact g3 j hj, fun j hj => by rw [hf _ (by omega) (by omega)]; exact g4 j hj⟩
theorem nar_q {q : Nat} (h : q ≤ 126) : vp_nar .char (nI q) = nI q := by
  unfold vp_nar
  rw [(pk_charN (by omega)).1]
/-- the cursor at the head of readForm's loop -/
def cuT (T : Tx) (k : Nat) : Nat := if k = 0 then 0 else (crT T (psT T (k - 1))).2.2.2
def reT (T : Tx) (k : Nat) : Bool × Nat × Nat := if k = 0 then rfT T 6 0 else if k < 6 then (if chT T (cuT T k) = 59 then rfT T (6 - k) k else (false, cuT T k, k)) else (false, cuT T k, k)
def rdI (M : Mem) (T : Tx) (k c : Nat) (M2 : Mem) : Prop := M2 227 1 = nI c ∧ (∀ j, j ≠ 1 → M2 227 j = M 227 j) ∧ M2 229 2 = nI k ∧ (∀ j, j < k → M2 230 j = (crT T (psT T j)).2.1 ∧ M2 231 j = (crT T (psT T j)).2.2.1) ∧ FrT M M2
theorem rdI.cur {M M2 : Mem} {T : Tx} {k c c' : Nat} (h : rdI M T k c M2) : rdI M T k c' (mset M2 227 1 (nI c')) := by
  obtain ⟨h1, h2, h3, h4, h5⟩ := h
  exact ⟨mset_self _ _ _ _, fun j hj => by rw [mset_ne (by omega)]; exact h2 j hj, by rw [mset_ne (by omega)]; exact h3, fun j hj => by rw [mset_ne (by omega), mset_ne (by omega)]; exact h4 j hj, fun i a b => by rw [mset_off i a]; exact h5 i a b⟩
theorem rdI.add {M M2 : Mem} {T : Tx} {k c : Nat} {u v : Int32} (h : rdI M T k c M2) (hu : u = (crT T (psT T k)).2.1) (hv : v = (crT T (psT T k)).2.2.1) : rdI M T (k + 1) c (mset (mset (mset M2 (229 + 1) k u) (229 + 2) k v) 229 2 (nI (k + 1))) := by
  obtain ⟨h1, h2, h3, h4, h5⟩ := h
  refine ⟨by rw [mset_ne (by omega), mset_ne (by omega), mset_ne (by omega)]; exact h1, fun j hj => by rw [mset_ne (by omega), mset_ne (by omega), mset_ne (by omega)]; exact h2 j hj, mset_self _ _ _ _, fun j hj => ?_, fun i a b => by rw [mset_off i (by omega), mset_off i (by omega), mset_off i (by omega)]; exact h5 i a b⟩
  by_cases q : j = k
  · subst q
    refine ⟨?_, ?_⟩
    · rw [mset_ne (by omega), mset_ne (by omega), ← hu]; exact mset_self _ _ _ _
    · rw [mset_ne (by omega), ← hv]; exact mset_self _ _ _ _
  · have := h4 j (by omega)
    refine ⟨?_, ?_⟩
    · rw [mset_ne (by omega), mset_ne (by omega), mset_ne (by omega)]; exact this.1
    · rw [mset_ne (by omega), mset_ne (by omega), mset_ne (by omega)]; exact this.2
theorem rdI.tx {M M2 : Mem} {T : Tx} {k c : Nat} (h : rdI M T k c M2) (hT : TxM M T) : TxM M2 T := hT.fr h.2.2.2.2 (h.2.1 3 (by omega))
theorem rdI.bd {M M2 : Mem} {T : Tx} {k c : Nat} (h : rdI M T k c M2) (hk : k = (polyT T).1) (h6 : k ≤ 6) : Bd M2 229 (polyT T) :=
  ⟨by rw [← hk]; exact h.2.2.1, by rw [← hk]; exact h6, fun j hj => (h.2.2.2.1 j (by omega)).1, fun j hj => (h.2.2.2.1 j (by omega)).2⟩
theorem reT_go {T : Tx} {k : Nat} (hk : k < 6) (h : formT T = reT T k) (h1 : k = 0 ∨ chT T (cuT T k) = 59) : formT T = rfT T (6 - k) k := by
  rw [h]
  unfold reT
  by_cases q : k = 0
  · rw [if_pos q, q]
  · rw [if_neg q, if_pos hk]
    rcases h1 with z | z
    · exact absurd z q
    · rw [if_pos z]
theorem reT_no {T : Tx} {k : Nat} (h : formT T = reT T k) (hk : 0 < k) (h1 : ¬ chT T (cuT T k) = 59) : formT T = (false, cuT T k, k) := by
  rw [h]
  unfold reT
  rw [if_neg (by omega)]
  by_cases h6 : k < 6
  · rw [if_pos h6, if_neg h1]
  · rw [if_neg h6]
theorem reT_6 {T : Tx} (h : formT T = reT T 6) : formT T = (false, cuT T 6, 6) := by
  rw [h]; unfold reT; rw [if_neg (by omega), if_neg (by omega)]
theorem psT_cu {T : Tx} {k : Nat} (hk : 0 < k) : cuT T k + 1 = psT T k := by
  obtain ⟨j, rfl⟩ : ∃ j, k = j + 1 := ⟨k - 1, by omega⟩
  unfold cuT
  rw [if_neg (by omega)]
  rfl
theorem rfT_bad {T : Tx} {k : Nat} (hk : k < 6) (h : (crT T (psT T k)).1 = false) : rfT T (6 - k) k = (false, (crT T (psT T k)).2.2.2, k) := by
  obtain ⟨f, hf⟩ : ∃ f, 6 - k = f + 1 := ⟨5 - k, by omega⟩
  rw [hf, rfT_succ, if_neg (by rw [h]; exact Bool.false_ne_true)]
theorem cuT_s {T : Tx} (k : Nat) : cuT T (k + 1) = (crT T (psT T k)).2.2.2 := by
  unfold cuT; rw [if_neg (by omega)]; rfl
theorem rfT_end {T : Tx} {k : Nat} (hk : k < 6) (h : (crT T (psT T k)).1 = true) (h3 : 3 ≤ k + 1) (he : (crT T (psT T k)).2.2.2 = T.1) : rfT T (6 - k) k = (true, cuT T (k + 1), k + 1) := by
  obtain ⟨f, hf⟩ : ∃ f, 6 - k = f + 1 := ⟨5 - k, by omega⟩
  rw [hf, cuT_s]
  have hc : ¬ chT T (crT T (psT T k)).2.2.2 = 59 := by
    unfold chT
    rw [if_neg (by omega)]
    decide
  rw [rfT_succ, if_pos h, if_neg hc, decide_eq_true he, decide_eq_true h3]
  split <;> rfl
theorem rfT_next {T : Tx} {k : Nat} (hk : k < 6) (h : (crT T (psT T k)).1 = true) (hn : ¬ (3 ≤ k + 1 ∧ (crT T (psT T k)).2.2.2 = T.1)) : rfT T (6 - k) k = reT T (k + 1) := by
  obtain ⟨f, hf⟩ : ∃ f, 6 - k = f + 1 := ⟨5 - k, by omega⟩
  have hd : (decide ((crT T (psT T k)).2.2.2 = T.1) && decide (3 ≤ k + 1)) = false := by
    cases h1 : decide ((crT T (psT T k)).2.2.2 = T.1) with
    | false => rfl
    | true =>
      rw [Bool.true_and]
      exact decide_eq_false (fun z => hn ⟨z, of_decide_eq_true h1⟩)
  unfold reT
  rw [hf, if_neg (by omega), cuT_s, rfT_succ, if_pos h, hd]
  by_cases q : f = 0
  · rw [if_pos q, if_neg (by omega)]
  · rw [if_neg q, if_pos (show k + 1 < 6 by omega), show 6 - (k + 1) = f by omega]
theorem exa_end {M M2 M3 : Mem} {a b c : Int32} {P : Py} (f2 : FrT M M2) (l2 : M2 227 3 = M 227 3) (e3 : M3 = mset (mset (mset M2 227 4 a) 227 5 b) 227 6 c) (hb : ¬ b = 0) :
    M3 227 4 = a ∧ M3 227 5 = b ∧ M3 227 6 = c ∧ M3 227 3 = M 227 3 ∧ FrT M M3 ∧ (b = 0 → Bd M3 229 P) := by
  subst e3
  refine ⟨by rw [mset_ne (by omega), mset_ne (by omega)]; exact mset_self _ _ _ _, by rw [mset_ne (by omega)]; exact mset_self _ _ _ _, mset_self _ _ _ _, by rw [mset_ne (by omega), mset_ne (by omega), mset_ne (by omega)]; exact l2, fun i x y => ?_, fun z => absurd z hb⟩
  rw [mset_off i x, mset_off i x, mset_off i x]
  exact f2 i x y
