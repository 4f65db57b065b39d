/-! together, keystone, pairs: pure -/
def unT (s : St) (A : Nat → Bool) : Nat → Nat → Bool
  | 0 => A
  | k + 1 => fun j => unT s A k j || (A k && tcF s k j)
theorem unT_iff {s : St} {A : Nat → Bool} : ∀ k j, unT s A k j = true ↔ A j = true ∨ ∃ i, i < k ∧ A i = true ∧ tcF s i j = true := by
  intro k
  induction k with
  | zero => intro j; exact ⟨Or.inl, fun h => h.elim id (fun ⟨i, hi, _⟩ => absurd hi (Nat.not_lt_zero _))⟩
  | succ k ih =>
    intro j
    simp only [unT, Bool.or_eq_true, Bool.and_eq_true, ih]
    constructor
    · rintro ((h | ⟨i, h1, h2⟩) | h)
      · exact Or.inl h
      · exact Or.inr ⟨i, by omega, h2⟩
      · exact Or.inr ⟨k, by omega, h⟩
    · rintro (h | ⟨i, h1, h2⟩)
      · exact Or.inl (Or.inl h)
      · rcases Nat.lt_or_ge i k with q | q
        · exact Or.inl (Or.inr ⟨i, q, h2⟩)
        · rw [show i = k by omega] at h2
          exact Or.inr h2
theorem un_step {s : St} {A : Nat → Bool} {k : Nat} (h8 : s.1 ≤ 8) : bsT (unT s A k) s.1 ||| (if bi (A k) = 1 then tcS s k else (0 : Int32)) = bsT (unT s A (k + 1)) s.1 := by
  by_cases h : A k = true
  · rw [h, if_pos (by rfl)]
    unfold tcS
    rw [bsT_or h8]
    exact bsT_congr _ (fun j _ => by simp only [unT, h, Bool.true_and])
  · have h2 : A k = false := Bool.eq_false_iff.mpr h
    rw [h2, if_neg (by decide), Int32.or_zero]
    exact bsT_congr _ (fun j _ => by simp only [unT, h2, Bool.false_and, Bool.or_false])
/-- what is known at the head of together's loop -/
def tgI (s : St) (q : Nat → Bool) (r : Nat) (A B : Nat → Bool) : Prop :=
  (∀ i, i < s.1 → q i = true → A i = true) ∧ (∀ i, i < s.1 → A i = true → clo s q i = true) ∧ (bsT A s.1 = bsT B s.1 → Cls s A) ∧ (¬ bsT A s.1 = bsT B s.1 → r ≤ ctT A s.1)
theorem tgI_0 {s : St} {q : Nat → Bool} (h8 : s.1 ≤ 8) : tgI s q 0 q (fun _ => false) :=
  ⟨fun _ _ h => h, fun i hi h => clo_q hi h, fun e i j hi hj hq ht => by
    have := (bsT_inj h8).mp e i hi
    rw [hq] at this
    exact absurd this (by decide), fun _ => Nat.zero_le _⟩
theorem tgI_step {s : St} {q A B : Nat → Bool} {r : Nat} (h8 : s.1 ≤ 8) (h : tgI s q r A B) (hne : ¬ bsT A s.1 = bsT B s.1) : tgI s q (r + 1) (unT s A s.1) A := by
  obtain ⟨h1, h2, h3, h4⟩ := h
  refine ⟨fun i hi hq => (unT_iff _ _).mpr (Or.inl (h1 i hi hq)), fun j hj hA => ?_, fun e => ?_, fun e => ?_⟩
  · rcases (unT_iff _ _).mp hA with g | ⟨i, g1, g2, g3⟩
    · exact h2 j hj g
    · exact clo_cls s q i j g1 hj (h2 i g1 g2) g3
  · intro i j hi hj hA ht
    have hA2 : A i = true := (bsT_inj h8).mp e i hi ▸ hA
    exact (unT_iff _ _).mpr (Or.inr ⟨i, hi, hA2, ht⟩)
  · have h5 := h4 hne
    have h6 : ∃ j, j < s.1 ∧ ¬ (unT s A s.1 j = A j) := Classical.byContradiction (fun z => e ((bsT_inj h8).mpr (fun j hj => Classical.byContradiction (fun z2 => z ⟨j, hj, z2⟩))))
    obtain ⟨j, g1, g2⟩ := h6
    have g3 : A j = false := by
      cases hA : A j with
      | false => rfl
      | true => exact absurd (((unT_iff _ _).mpr (Or.inl hA)).trans hA.symm) g2
    have g4 : unT s A s.1 j = true := by
      cases hA : unT s A s.1 j with
      | true => rfl
      | false => exact absurd (hA.trans g3.symm) g2
    have := ctT_lt (q := A) (r := unT s A s.1) (n := s.1) (fun j _ hq => (unT_iff s.1 j).mpr (Or.inl hq)) g1 g3 g4
    omega
theorem tgI_lt {s : St} {q A B : Nat → Bool} {r : Nat} (h8 : s.1 ≤ 8) (h : tgI s q r A B) (hne : ¬ bsT A s.1 = bsT B s.1) : r < 9 := by
  have := h.2.2.2 hne
  have := ctT_le A s.1
  omega
theorem tgI_end {s : St} {q A B : Nat → Bool} {r : Nat} (h : tgI s q r A B) (he : bsT A s.1 = bsT B s.1) : bsT A s.1 = clS s q := bsT_congr _ (clo_eq h.1 (h.2.2.1 he) h.2.1)
/-- what bodies counts -/
def cnF (s : St) (j k : Nat) : Bool := match j with
  | 0 => jmF s k
  | 1 => noF s k
  | 2 => waF s 15 k
  | _ => waF s 4 k
theorem wa_15 {s : St} {k : Nat} : decide (¬ pTouched (s.2.2.2 k) s.2.1 s.2.2.1 = 0) = waF s 15 k := by
  unfold waF
  have : pTouched (s.2.2.2 k) s.2.1 s.2.2.1 &&& 15 = pTouched (s.2.2.2 k) s.2.1 s.2.2.1 := by
    unfold pTouched
    split <;> split <;> split <;> split <;> decide
  rw [this]
/-- keystone as the reference walks it -/
def kmR (s : St) (d k : Nat) : Int32 := if k = 0 then -1 else (keI s d k).1
def kbR (s : St) (d k : Nat) : Int32 := if k = 0 then -1 else (keI s d k).2
theorem seS_le (d : Nat) : ∀ r (s : St) (a : Nat), s.1 ≤ 8 → (seS d r s a).2 ≤ a + 480 * r := by
  intro r
  induction r with
  | zero => intro s a _; exact Nat.le_refl _
  | succ r ih =>
    intro s a h8
    simp only [seS]
    have hl := rdS_le s d s.1
    split
    · show a ≤ _; omega
    · have := ih (rdS s d s.1).1 (a + (rdS s d s.1).2) (by rw [(rdS_1 s d s.1).1]; exact h8)
      omega
theorem ke_big {s : St} {d k : Nat} (h8 : s.1 ≤ 8) : (seS d 1000 (outS s k) 0).2 < 2 ^ 31 := by
  have := seS_le d 1000 (outS s k) 0 (by show s.1 - 1 ≤ 8; omega)
  omega
theorem neg_lt {n : Nat} (h : n < 2 ^ 31) {c : Int32} (hc : c.toInt < 0) : c < nI n := by
  rw [i32_lt, nI_toInt h]; omega
theorem km_step {s : St} {d k : Nat} (h8 : s.1 ≤ 8) : (if nI (seS d 1000 (outS s k) 0).2 ≤ kmR s d k then kmR s d k else nI (seS d 1000 (outS s k) 0).2) = kmR s d (k + 1) := by
  have hb := ke_big (d := d) (k := k) h8
  unfold kmR
  rw [if_neg (Nat.succ_ne_zero k)]
  simp only [keI]
  by_cases q : k = 0
  · subst q
    rw [if_pos rfl, if_neg (Int32.not_le.mpr (neg_lt hb (by decide))), if_pos (show (keI s d 0).1 < _ from neg_lt (c := -1000004) hb (by decide))]
  · rw [if_neg q]
    by_cases c : (keI s d k).1 < nI (seS d 1000 (outS s k) 0).2
    · rw [if_pos c, if_neg (Int32.not_le.mpr c)]
    · rw [if_neg c, if_pos (Int32.not_lt.mp c)]
theorem kb_step {s : St} {d k : Nat} (h8 : s.1 ≤ 8) : (if nI (seS d 1000 (outS s k) 0).2 ≤ kmR s d k then kbR s d k else nI k) = kbR s d (k + 1) := by
  have hb := ke_big (d := d) (k := k) h8
  unfold kmR kbR
  rw [if_neg (Nat.succ_ne_zero k)]
  simp only [keI]
  by_cases q : k = 0
  · subst q
    rw [if_pos rfl, if_neg (Int32.not_le.mpr (neg_lt hb (by decide))), if_pos (show (keI s d 0).1 < _ from neg_lt (c := -1000004) hb (by decide))]
  · rw [if_neg q, if_neg q]
    by_cases c : (keI s d k).1 < nI (seS d 1000 (outS s k) 0).2
    · rw [if_pos c, if_neg (Int32.not_le.mpr c)]
    · rw [if_neg c, if_pos (Int32.not_lt.mp c)]
theorem kb_num {s : St} {d : Nat} (h8 : s.1 ≤ 8) : ∀ k, 0 < k → ∃ m, m < k ∧ (keI s d k).2 = nI m := by
  intro k
  induction k with
  | zero => intro h; exact absurd h (Nat.lt_irrefl 0)
  | succ k ih =>
    intro _
    have hb := ke_big (d := d) (k := k) h8
    simp only [keI]
    by_cases c : (keI s d k).1 < nI (seS d 1000 (outS s k) 0).2
    · rw [if_pos c]; exact ⟨k, by omega, rfl⟩
    · rw [if_neg c]
      by_cases q : k = 0
      · subst q; exact absurd (show (keI s d 0).1 < _ from neg_lt (c := -1000004) hb (by decide)) c
      · obtain ⟨m, h1, h2⟩ := ih (by omega)
        exact ⟨m, by omega, h2⟩
theorem kb_m1 {s : St} {d k : Nat} (h8 : s.1 ≤ 8) (hk : k ≤ 8) : kbR s d k = -1 ↔ k = 0 := by
  constructor
  · intro e
    apply Classical.byContradiction
    intro q
    unfold kbR at e
    rw [if_neg q] at e
    obtain ⟨m, h1, h2⟩ := kb_num (d := d) h8 k (by omega)
    rw [h2] at e
    have := nI_pos (n := m) (by omega)
    rw [e] at this
    exact absurd this (by decide)
  · intro e; subst e; rfl
/-- the ones among the low t bits -/
def onz (v : Nat) : Nat → Nat
  | 0 => 0
  | t + 1 => onz v t + v / 2 ^ t % 2
theorem onz_bc : ∀ v, v < 256 → bcE (nI v) = nI (onz v 8) := by decide +kernel
theorem onz_end : ∀ v, v < 256 → ∀ t, t < 9 → v / 2 ^ t = 0 → onz v t = onz v 8 := by decide +kernel
theorem onz_le : ∀ v, v < 256 → onz v 8 ≤ 8 := by decide +kernel
theorem onz_and {v t : Nat} (hv : v < 256) : nI (v / 2 ^ t) &&& 1 = nI (v / 2 ^ t % 2) := and1 (Nat.lt_of_le_of_lt (Nat.div_le_self _ _) (by omega))
theorem onz_shr {v t : Nat} (hv : v < 256) : nI (v / 2 ^ t) >>> ((1 : Int32) &&& 31) = nI (v / 2 ^ (t + 1)) := by
  rw [shr1 (Nat.lt_of_le_of_lt (Nat.div_le_self _ _) (by omega)), Nat.div_div_eq_div_mul, Nat.pow_succ]
theorem pa_small {s : St} (h8 : s.1 ≤ 8) : ∀ n, ∃ m, m ≤ 8 * n ∧ smT (paF s) n = nI m := by
  intro n
  induction n with
  | zero => exact ⟨0, Nat.le_refl 0, rfl⟩
  | succ n ih =>
    obtain ⟨m, h1, h2⟩ := ih
    obtain ⟨v, h3, h4⟩ := bsT_small (q := tcF s n) h8
    have h5 := onz_le v h3
    refine ⟨m + onz v 8, by omega, ?_⟩
    show smT (paF s) n + paF s n = _
    unfold paF tcS
    rw [h4, onz_bc v h3]
    unfold paF tcS at h2
    rw [h2, nI_add]
theorem pa_half {s : St} (h8 : s.1 ≤ 8) : smT (paF s) s.1 / 2 = pairS s := by
  obtain ⟨m, h1, h2⟩ := pa_small h8 s.1
  unfold pairS
  rw [h2, shr1 (by omega)]
  exact pk_div (d := 2) (by omega) (by decide) (by decide)
theorem sep_ex {o : Option Nat} (h : ¬ opI o = -1) : ∃ k, o = some k := by
  cases o with
  | some k => exact ⟨k, rfl⟩
  | none => exact absurd rfl h
theorem nI_ne1 {n : Nat} (h : n < 2 ^ 31) : ¬ nI n = -1 := by
  intro e
  have := nI_pos h
  rw [e] at this
  exact absurd this (by decide)
theorem b2_eq {v : Int32} : (if v = 0 then (1 : Int32) else (0 : Int32)) = bi (decide (v = 0)) := by
  by_cases h : v = 0
  · rw [if_pos h, decide_eq_true h]; rfl
  · rw [if_neg h, decide_eq_false h]; rfl
theorem b2_ne {v : Int32} : (if v = 0 then (0 : Int32) else (1 : Int32)) = bi (decide (¬ v = 0)) := by
  by_cases h : v = 0
  · rw [if_pos h, decide_eq_false (fun q => q h)]; rfl
  · rw [if_neg h, decide_eq_true h]; rfl
theorem cn_3 {j : Nat} (h : j ≤ 3) (h0 : ¬ nI j = 0) (h1 : ¬ j = 1) (h2 : ¬ j = 2) : j = 3 := by
  have : ¬ j = 0 := fun z => h0 (by rw [z]; rfl)
  omega
theorem bod_no {σ : Sy} {w : Int32} (h : (decide (nI 0 ≤ w) && decide (w ≤ nI 3)) = false) : bodY σ w = -1000001 := by
  have k : ∀ c : Int32, (decide (nI 0 ≤ c) && decide (c ≤ nI 3)) = true → ¬ w = c := fun c hc e => by rw [e, hc] at h; exact absurd h (by decide)
  unfold bodY
  rw [if_neg (k 0 (by decide)), if_neg (k 1 (by decide)), if_neg (k 2 (by decide)), if_neg (k 3 (by decide))]
theorem bod_at {σ : Sy} {j : Nat} (hj : j ≤ 3) (h3 : ¬ j = 3) : bsT (cnF σ.1 j) σ.1.1 = bodY σ (nI j) := by
  rcases (by omega : j = 0 ∨ j = 1 ∨ j = 2) with rfl | rfl | rfl
  · rfl
  · rfl
  · rfl
theorem kb_of {s : St} {d k : Nat} (h : ¬ k = 0) : kbR s d k = (keI s d k).2 := by unfold kbR; rw [if_neg h]
theorem km_of {s : St} {d k : Nat} (h : ¬ k = 0) : kmR s d k = (keI s d k).1 := by unfold kmR; rw [if_neg h]
theorem nI_npos {n : Nat} (h0 : 0 < n) (h : n < 2 ^ 31) : ¬ nI n ≤ 0 := by
  intro e
  rw [i32_le, nI_toInt h, show (0 : Int32).toInt = 0 by decide] at e
  omega
theorem onz_b {z t : Nat} (h : z < 256) : z / 2 ^ t < 2 ^ 31 := Nat.lt_of_le_of_lt (Nat.div_le_self _ _) (by omega)
theorem onz_t {z t : Nat} (h : z < 256) (ht : t ≤ 8) (hc : ¬ nI (z / 2 ^ t) ≤ 0) : t < 8 := by
  apply Classical.byContradiction
  intro q
  have e : t = 8 := by omega
  subst e
  have : z / 2 ^ 8 = 0 := Nat.div_eq_of_lt h
  rw [this] at hc
  exact hc (by decide)
theorem typ_endM {M M1 : Mem} {σ : Sy} {v : Int32} (hR : RM M σ) (e : M1 = mset (mset M 236 σ.2.2.2.1 v) 232 5 (nI (σ.2.2.2.1 + 1))) : RM M1 (σ.1, σ.2.1, σ.2.2.1, (σ.2.2.2.1 + 1, fun j => if j = σ.2.2.2.1 then v else σ.2.2.2.2 j)) ∧ FrM M M1 := by
  subst e
  have f : ∀ i, i ≠ 232 → i ≠ 236 → mset (mset M 236 σ.2.2.2.1 v) 232 5 (nI (σ.2.2.2.1 + 1)) i = M i := fun i h1 h2 => (mset_off i h1).trans (mset_off i h2)
  refine ⟨⟨by rw [f 233 (by decide) (by decide)]; exact hR.1, hR.2.1.same (by rw [mset_ne (by omega), mset_ne (by omega)]) (f 234 (by decide) (by decide)), mset_self _ _ _ _, fun j hj => ?_⟩, fun i hi => f i (by omega) (by omega)⟩
  have hj2 : j < σ.2.2.2.1 + 1 := hj
  rw [mset_ne (by omega)]
  show _ = if j = σ.2.2.2.1 then v else σ.2.2.2.2 j
  by_cases q : j = σ.2.2.2.1
  · rw [if_pos q, q]; exact mset_self _ _ _ _
  · rw [if_neg q, mset_ne (by omega)]; exact hR.2.2.2 j (by omega)
theorem cle_endM {M : Mem} {σ : Sy} (hR : RM M σ) : RM (mset M 232 5 0) (cleY σ).2 ∧ FrM M (mset M 232 5 0) := by
  have f : ∀ i, i ≠ 232 → mset M 232 5 0 i = M i := fun i h1 => mset_off i h1
  exact ⟨⟨by rw [f 233 (by decide)]; exact hR.1, hR.2.1.same (mset_ne (by omega)) (f 234 (by decide)), mset_self _ _ _ _, fun j hj => absurd hj (Nat.not_lt_zero _)⟩, fun i hi => f i (by omega)⟩
