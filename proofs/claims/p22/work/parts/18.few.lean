/-! small rows of numbers and sets -/
theorem nx_mod {n k : Nat} (h : k < n) : (k + 1) % n = nx n k := by
  unfold nx
  by_cases q : k + 1 < n
  · rw [if_pos q, Nat.mod_eq_of_lt q]
  · rw [if_neg q, show k + 1 = n by omega, Nat.mod_self]
theorem lg_neg {a b : Int64} : lg_cmp a b < 0 ↔ a.toInt < b.toInt := by
  unfold lg_cmp
  by_cases h1 : b < a
  · rw [if_pos h1]
    rw [Int64.lt_iff_toInt_lt] at h1
    constructor
    · intro q; exact absurd q (by decide)
    · intro q; omega
  · rw [if_neg h1]
    by_cases h2 : a = b
    · rw [if_pos h2, h2]
      constructor
      · intro q; exact absurd q (by decide)
      · intro q; omega
    · rw [if_neg h2]
      rw [Int64.lt_iff_toInt_lt] at h1
      have h3 : a.toInt ≠ b.toInt := fun e => h2 (Int64.toInt_inj.mp e)
      constructor
      · intro _; omega
      · intro _; decide
theorem lg_pos {a b : Int64} : 0 < lg_cmp a b ↔ b.toInt < a.toInt := by
  unfold lg_cmp
  by_cases h1 : b < a
  · rw [if_pos h1]
    rw [Int64.lt_iff_toInt_lt] at h1
    exact ⟨fun _ => h1, fun _ => by decide⟩
  · rw [if_neg h1]
    rw [Int64.lt_iff_toInt_lt] at h1
    by_cases h2 : a = b
    · rw [if_pos h2]
      exact ⟨fun q => absurd q (by decide), fun q => absurd q h1⟩
    · rw [if_neg h2]
      exact ⟨fun q => absurd q (by decide), fun q => absurd q h1⟩
theorem fit_no {s : St} {w h : Int32} {k : Nat} (hk : k < s.1) (hb : ¬ pBeyond (s.2.2.2 k) w h = 0) (h1 : fitS s w h = true) : False := by
  unfold fitS at h1
  have h2 : anT (fun k => decide (¬ pBeyond (s.2.2.2 k) w h = 0)) s.1 = true := anT_true.mpr ⟨k, hk, decide_eq_true hb⟩
  rw [h2] at h1
  exact absurd h1 (by decide)
theorem setS_id {s : St} {k : Nat} : setS s k (s.2.2.2 k) = s := by
  unfold setS
  have : (fun j => if j = k then s.2.2.2 k else s.2.2.2 j) = s.2.2.2 := by
    funext j
    by_cases q : j = k
    · rw [if_pos q, q]
    · rw [if_neg q]
  rw [this]
theorem nI_ne1 {n : Nat} (h : n < 2 ^ 31) : ¬ nI n = -1 := by
  intro e
  have := nI_pos h
  rw [e] at this
  exact absurd this (by decide)
theorem pv_nx {n k : Nat} (hk : k < n) : pv n (nx n k) = k := by
  unfold pv nx
  by_cases q : k + 1 < n
  · rw [if_pos q, if_pos (by omega)]; omega
  · rw [if_neg q, if_neg (by omega)]; omega
