/-! the reference reads the text -/
def OnT (M M' : Mem) : Prop := (∀ i, i ≠ 232 → i ≠ 233 → M' i = M i) ∧ (∀ j, j < 6 → M' 232 j = M 232 j) ∧ FrB 8 (M 233) (M' 233)
theorem OnT.rf {M : Mem} : OnT M M := ⟨fun _ _ _ => rfl, fun _ _ => rfl, FrB.rf⟩
theorem OnT.tr {M M1 M2 : Mem} (h1 : OnT M M1) (h2 : OnT M1 M2) : OnT M M2 := ⟨fun i a b => (h2.1 i a b).trans (h1.1 i a b), fun j a => (h2.2.1 j a).trans (h1.2.1 j a), h1.2.2.tr h2.2.2⟩
theorem OnT.M {M M' : Mem} (h : OnT M M') : FrM M M' := fun i hi => h.1 i (by omega) (by omega)
theorem OnT.s {M : Mem} {k : Nat} {v : Int32} (hk : 6 ≤ k) : OnT M (mset M 232 k v) := ⟨fun i a _ => mset_off i a, fun j hj => mset_ne (by omega), fun j _ => mset_ne (by omega)⟩
theorem PkM.onT {M M' : Mem} {s : St} (h : PkM (M 233) s) (hf : OnT M M') : PkM (M' 233) s := by
  have h8 := h.r
  exact ⟨by rw [hf.2.2 0 (by unfold ArB; omega)]; exact h.1, by rw [hf.2.2 1 (by unfold ArB; omega)]; exact h.2.1, by rw [hf.2.2 2 (by unfold ArB; omega)]; exact h.2.2.1, h8, fun k hk => (h.2.2.2.2 k hk).fr hf.2.2 (by omega) (by omega) (by omega)⟩
theorem TxR.onT {M M' : Mem} {T : Tx} (h : TxR M T) (hf : OnT M M') : TxR M' T := ⟨by rw [hf.2.1 5 (by omega)]; exact h.1, fun j hj => by rw [hf.1 236 (by decide) (by decide)]; exact h.2 j hj⟩
theorem RM.onT {M M' : Mem} {σ : Sy} (h : RM M σ) (hf : OnT M M') : RM M' σ := ⟨h.1.onT hf, h.2.1.same (hf.2.1 3 (by omega)) (hf.1 234 (by decide) (by decide)), h.2.2.onT hf⟩
theorem tk_add {c : Nat} {b : Bool} : nI c + (if b = true then (1 : Int32) else (0 : Int32)) = nI (if b = true then c + 1 else c) := by
  cases b
  · rw [if_neg Bool.false_ne_true, if_neg Bool.false_ne_true, Int32.add_zero]
  · rw [if_pos rfl, if_pos rfl]; exact nI_1 c
theorem tk_val {T : Tx} {c : Nat} {w : Int32} (hw : ¬ w = 0) : (if T.1 ≤ c then (0 : Int32) else if T.2 c = w then (1 : Int32) else (0 : Int32)) = bi (decide (chT T c = w)) := by
  unfold chT
  by_cases h : T.1 ≤ c
  · rw [if_pos h, if_neg (show ¬ c < T.1 by omega), decide_eq_false (fun z => hw z.symm)]; rfl
  · rw [if_neg h, if_pos (show c < T.1 by omega)]
    by_cases h2 : T.2 c = w
    · rw [if_pos h2, decide_eq_true h2]; rfl
    · rw [if_neg h2, decide_eq_false h2]; rfl
theorem dg_in (v : Int32) : inL v.toInt64 48 57 = !noDg v := by
  rw [inL_num (a := 48) (b := 57) (by decide) (by decide)]
  unfold noDg
  by_cases h1 : v < 48
  · rw [if_pos h1, decide_eq_false (Int32.not_le.mpr h1)]; rfl
  · rw [if_neg h1, decide_eq_true (Int32.not_lt.mp h1)]
    by_cases h2 : v ≤ 57
    · rw [if_pos h2, decide_eq_true h2]; rfl
    · rw [if_neg h2, decide_eq_false h2]; rfl
theorem dg_pos {v : Int32} (h : noDg v = false) : 0 ≤ (v - 48).toInt ∧ (v - 48).toInt ≤ 9 := by
  unfold noDg at h
  by_cases h1 : v < 48
  · rw [if_pos h1] at h; cases h
  · rw [if_neg h1] at h
    by_cases h2 : v ≤ 57
    · rw [Int32.not_lt, i32_le, show (48 : Int32).toInt = 48 by decide] at h1
      rw [i32_le, show (57 : Int32).toInt = 57 by decide] at h2
      rw [i32_sub (n := 100) (a := v) (b := 48) (by omega) (by omega) (by decide), show (48 : Int32).toInt = 48 by decide]
      omega
    · rw [if_neg h2] at h; cases h
theorem dgT_no {T : Tx} {c : Nat} (h : noDg (chT T c) = true) : dgT T c = (-1, c) := by unfold dgT; rw [if_pos h]
theorem dgT_yes {T : Tx} {c : Nat} (h : noDg (chT T c) = false) : dgT T c = (chT T c - 48, c + 1) := by unfold dgT; rw [if_neg (by rw [h]; exact Bool.false_ne_true)]
def nmI (T : Tx) (c t : Nat) (v : Int32) : Prop :=
  (t = 0 ∧ v = 0) ∨ (t = 1 ∧ noDg (chT T c) = false ∧ v = chT T c - 48) ∨ (t = 2 ∧ noDg (chT T c) = false ∧ noDg (chT T (c + 1)) = false ∧ v = 10 * (chT T c - 48) + (chT T (c + 1) - 48))
theorem nmI_step {T : Tx} {c t : Nat} {v : Int32} (h : nmI T c t v) (ht : t < 2) (hd : noDg (chT T (c + t)) = false) : nmI T c (t + 1) (10 * v + chT T (c + t) - 48) := by
  rcases h with ⟨h1, h2⟩ | ⟨h1, h2, h3⟩ | ⟨h1, _⟩
  · subst h1; subst h2
    exact Or.inr (Or.inl ⟨rfl, hd, by rw [Nat.add_zero]; grind⟩)
  · subst h1
    exact Or.inr (Or.inr ⟨rfl, h2, hd, by rw [h3]; grind⟩)
  · omega
theorem nlt0 {x : Int32} (h : 0 ≤ x.toInt) : ¬ x < 0 := by
  rw [i32_lt, show (0 : Int32).toInt = 0 by decide]; omega
theorem nm_end {T : Tx} {c t : Nat} {v : Int32} (h : nmI T c t v) (he : t = 2 ∨ noDg (chT T (c + t)) = true) : (nuT T c).2 = c + t ∧ ((nuT T c).1 < 0 ↔ t = 0) ∧ (¬ t = 0 → (nuT T c).1 = v) := by
  have m1 : (-1 : Int32) < 0 := by decide
  rcases h with ⟨h1, h2⟩ | ⟨h1, h2, h3⟩ | ⟨h1, h2, h3, h4⟩
  · subst h1
    have hd : noDg (chT T c) = true := he.elim (fun q => absurd q (by decide)) id
    unfold nuT
    rw [dgT_no hd, if_pos m1]
    exact ⟨rfl, ⟨fun _ => rfl, fun _ => m1⟩, fun q => absurd rfl q⟩
  · subst h1
    have hd : noDg (chT T (c + 1)) = true := he.elim (fun q => absurd q (by decide)) id
    have hp := nlt0 (dg_pos h2).1
    unfold nuT
    rw [dgT_yes h2]
    simp only []
    rw [if_neg hp, dgT_no hd, if_pos m1]
    exact ⟨rfl, ⟨fun q => absurd q hp, fun q => absurd q (by decide)⟩, fun _ => h3.symm⟩
  · subst h1
    have hp := dg_pos h2
    have hp2 := dg_pos h3
    have hn : 0 ≤ (10 * (chT T c - 48) + (chT T (c + 1) - 48)).toInt := by
      have e1 := i32_mul (a := 10) (b := chT T c - 48) (by decide) (by omega)
      rw [show (10 : Int32).toInt = 10 by decide] at e1
      rw [i32_add (n := 1000) (by omega) (by omega) (by omega), e1]
      omega
    unfold nuT
    rw [dgT_yes h2]
    simp only []
    rw [if_neg (nlt0 hp.1), dgT_yes h3]
    simp only []
    rw [if_neg (nlt0 hp2.1)]
    exact ⟨rfl, ⟨fun q => absurd q (nlt0 hn), fun q => absurd q (by decide)⟩, fun _ => h4.symm⟩
/-- while a number is read -/
def nsI (M : Mem) (c t q : Nat) (v : Int32) (M2 : Mem) : Prop := M2 232 6 = nI (c + t) ∧ M2 233 q = v ∧ (∀ j, j ≠ 6 → M2 232 j = M 232 j) ∧ (∀ j, j ≠ q → M2 233 j = M 233 j) ∧ ∀ i, i ≠ 232 → i ≠ 233 → M2 i = M i
theorem nsI.tx {M M2 : Mem} {T : Tx} {c t q : Nat} {v : Int32} (h : nsI M c t q v M2) (hT : TxR M T) : TxR M2 T := ⟨by rw [h.2.2.1 5 (by decide)]; exact hT.1, fun j hj => by rw [h.2.2.2.2 236 (by decide) (by decide)]; exact hT.2 j hj⟩
theorem nsI_0 {M : Mem} {c q : Nat} (h : M 232 6 = nI c) : nsI M c 0 q 0 (mset M 233 q 0) := ⟨by rw [mset_ne (by omega)]; exact h, mset_self _ _ _ _, fun j _ => mset_ne (by omega), fun j hj => mset_ne (by omega), fun i _ h2 => mset_off i h2⟩
theorem nsI_step {M M2 : Mem} {c t q : Nat} {v u : Int32} (h : nsI M c t q v M2) : nsI M c (t + 1) q u (mset (mset M2 233 q u) 232 6 (nI (c + t + 1))) :=
  ⟨mset_self _ _ _ _, by rw [mset_ne (by omega)]; exact mset_self _ _ _ _, fun j hj => by rw [mset_ne (by omega), mset_ne (by omega)]; exact h.2.2.1 j hj, fun j hj => by rw [mset_ne (by omega), mset_ne (by omega)]; exact h.2.2.2.1 j hj, fun i h1 h2 => (mset_off i h1).trans ((mset_off i h2).trans (h.2.2.2.2 i h1 h2))⟩
theorem nsI.onT {M M2 : Mem} {c t q : Nat} {v : Int32} (h : nsI M c t q v M2) (hq : (60 ≤ q ∧ q < 66) ∨ (114 ≤ q ∧ q < 120)) : OnT M M2 :=
  ⟨h.2.2.2.2, fun j hj => h.2.2.1 j (by omega), fun j hj => h.2.2.2.1 j (fun e => hj (by unfold ArB; omega))⟩
theorem noDg_out {T : Tx} {c : Nat} (h : T.1 ≤ c) : noDg (chT T c) = true := by
  unfold chT
  rw [if_neg (by omega)]
  decide
/-- while the corners are read -/
def rxI (M : Mem) (T : Tx) (k : Nat) (M2 : Mem) : Prop := OnT M M2 ∧ ∀ j, j < k → M2 233 (60 + j) = (crT T (psT T j)).2.1 ∧ M2 233 (114 + j) = (crT T (psT T j)).2.2.1
/-- at the head: more to read or not -/
def rxB (T : Tx) (k : Nat) (b : Bool) (M2 : Mem) : Prop := match b with
  | true => k < 6 ∧ M2 232 6 = nI (psT T k) ∧ psT T k ≤ T.1 ∧ formT T = rfT T (6 - k) k
  | false => 0 < k ∧ M2 232 6 = nI (crT T (psT T (k - 1))).2.2.2 ∧ (crT T (psT T (k - 1))).2.2.2 ≤ T.1 ∧ formT T = (decide ((crT T (psT T (k - 1))).2.2.2 = T.1) && decide (3 ≤ k), (crT T (psT T (k - 1))).2.2.2, k)
theorem rf_go {T : Tx} {k : Nat} (hk : k + 1 < 6) (h : (crT T (psT T k)).1 = true) (h2 : chT T (crT T (psT T k)).2.2.2 = 59) : rfT T (6 - k) k = rfT T (6 - (k + 1)) (k + 1) := by
  rw [show 6 - k = (6 - (k + 1)) + 1 by omega, rfT_succ, if_pos h, if_neg (by omega), if_pos h2]
theorem rf_end {T : Tx} {k : Nat} (hk : k < 6) (h : (crT T (psT T k)).1 = true) (h2 : k + 1 = 6 ∨ ¬ chT T (crT T (psT T k)).2.2.2 = 59) : rfT T (6 - k) k = (decide ((crT T (psT T k)).2.2.2 = T.1) && decide (3 ≤ k + 1), (crT T (psT T k)).2.2.2, k + 1) := by
  rw [show 6 - k = (6 - (k + 1)) + 1 by omega, rfT_succ, if_pos h]
  rcases h2 with h2 | h2
  · rw [if_pos (by omega)]
  · by_cases q : 6 - (k + 1) = 0
    · rw [if_pos q]
    · rw [if_neg q, if_neg h2]
def guV (P : Py) (i : Nat) : Bool := if 0 < P.2.2 ((i + 1) % P.1) - P.2.2 (i % P.1) then true else if P.2.2 ((i + 1) % P.1) - P.2.2 (i % P.1) = 0 then (if P.2.1 ((i + 1) % P.1) ≤ P.2.1 (i % P.1) then false else true) else false
theorem gu_up {P : Py} {k : Nat} (hS : Smal P) (hk : k < P.1) : guV P k = pUp P k := by
  have h1 := hS.2 k hk
  have h2 := hS.2 (nx P.1 k) (nx_lt hk)
  unfold guV pUp
  rw [nx_mod hk, Nat.mod_eq_of_lt hk]
  have e := i32_sub (n := 200) (a := P.2.2 (nx P.1 k)) (b := P.2.2 k) (by omega) h2.2 h1.2
  have e0 : (0 : Int32).toInt = 0 := by decide
  have c1 : 0 < P.2.2 (nx P.1 k) - P.2.2 k ↔ P.2.2 k < P.2.2 (nx P.1 k) := by rw [i32_lt, i32_lt, e, e0]; omega
  have c2 : P.2.2 (nx P.1 k) - P.2.2 k = 0 ↔ P.2.2 (nx P.1 k) = P.2.2 k := by rw [i32_eq, i32_eq, e, e0]; omega
  simp only [c1, c2]
theorem gu_mod {P : Py} {k : Nat} (hk : k < P.1) : guV P (k + P.1 - 1) = guV P (pv P.1 k) := by
  have h1 := pv_mod hk
  have h2 := pv_lt hk
  unfold guV
  rw [show k + P.1 - 1 + 1 = k + P.1 by omega, Nat.add_mod_right, h1, Nat.mod_eq_of_lt hk, Nat.mod_eq_of_lt h2]
  have h3 : (pv P.1 k + 1) % P.1 = k := by
    unfold pv
    by_cases q : 0 < k
    · rw [if_pos q, show k - 1 + 1 = k by omega, Nat.mod_eq_of_lt hk]
    · rw [if_neg q, show P.1 - 1 + 1 = P.1 by omega, Nat.mod_self]; omega
  rw [h3]
theorem pv_nx {n k : Nat} (hk : k < n) : pv n (nx n k) = k := by
  unfold pv nx
  by_cases q : k + 1 < n
  · rw [if_pos q, if_pos (by omega)]; omega
  · rw [if_neg q, if_neg (by omega)]; omega
def rdF (P : Py) (k : Nat) : Int32 := bi (pUp P k && !pUp P (pv P.1 k))
theorem sm_split (f : Nat → Int32) : ∀ n, smT f (n + 1) = f 0 + smT (fun k => f (k + 1)) n := by
  intro n
  induction n with
  | zero => show smT f 0 + f 0 = f 0 + 0; show 0 + f 0 = f 0 + 0; rw [Int32.zero_add, Int32.add_zero]
  | succ n ih =>
    show smT f (n + 1) + f (n + 1) = f 0 + (smT (fun k => f (k + 1)) n + f (n + 1))
    rw [ih, Int32.add_assoc]
theorem rd_rounds {P : Py} (h0 : 0 < P.1) : smT (rdF P) P.1 = pRounds P := by
  obtain ⟨m, hm⟩ : ∃ m, P.1 = m + 1 := ⟨P.1 - 1, by omega⟩
  have h1 : ∀ k, k < P.1 → pRf P k = rdF P (nx P.1 k) := by
    intro k hk
    unfold pRf rdF
    rw [pv_nx hk, Bool.and_comm]
  unfold pRounds
  rw [smT_congr P.1 h1, hm, sm_split]
  show _ = smT (fun k => rdF P (nx (m + 1) k)) m + rdF P (nx (m + 1) m)
  rw [show nx (m + 1) m = 0 by unfold nx; rw [if_neg (by omega)], Int32.add_comm]
  congr 1
  refine smT_congr m (fun j hj => ?_)
  show rdF P (j + 1) = rdF P (nx (m + 1) j)
  rw [show nx (m + 1) j = j + 1 by unfold nx; rw [if_pos (by omega)]]
theorem sd_turn {P : Py} {k : Nat} (hk : k < P.1) : sdV P (k + P.1 - 1) P (k + 1) = pTurn P k := by
  unfold sdV pTurn
  rw [show k + P.1 - 1 + 1 = k + P.1 by omega, Nat.add_mod_right, pv_mod hk, nx_mod hk, Nat.mod_eq_of_lt hk]
theorem rd_small {P : Py} : ∀ n, ∃ m, m ≤ n ∧ smT (rdF P) n = nI m := by
  intro n
  induction n with
  | zero => exact ⟨0, Nat.le_refl 0, rfl⟩
  | succ n ih =>
    obtain ⟨m, h1, h2⟩ := ih
    show ∃ q, q ≤ n + 1 ∧ smT (rdF P) n + rdF P n = nI q
    rw [h2]
    unfold rdF
    cases (pUp P n && !pUp P (pv P.1 n))
    · exact ⟨m, by omega, Int32.add_zero _⟩
    · exact ⟨m + 1, by omega, nI_1 m⟩
theorem lo_at {q : Nat → Bool} {n i : Nat} (hn : n ≤ 8) (hi : i < n) (h : anT q i = false) (h1 : q i = true) : loT (bsT q n) = i := by
  obtain ⟨g1, g2, g3⟩ := loT_bsT hn ⟨i, hi, h1⟩
  rcases Nat.lt_trichotomy (loT (bsT q n)) i with g | g | g
  · rw [anT_false.mp h _ g] at g2; cases g2
  · exact g
  · rw [g3 i g] at h1; cases h1
theorem bn_f {b : Bool} (h : (!b) = true) : b = false := by cases b; rfl; exact absurd h (by decide)
theorem bn_t {b : Bool} (h : (!b) = false) : b = true := by cases b; exact absurd h (by decide); rfl
theorem nu_ret {T : Tx} {c t : Nat} {v : Int32} (he : (nuT T c).2 = c + t ∧ ((nuT T c).1 < 0 ↔ t = 0) ∧ (¬ t = 0 → (nuT T c).1 = v)) : (if (c + t) ≤ c then (0 : Int32) else (1 : Int32)) = bi (decide (¬ (nuT T c).1 < 0)) := by
  by_cases h : t = 0
  · rw [if_pos (by omega), decide_eq_false (fun z => z (he.2.1.mpr h))]; rfl
  · rw [if_neg (by omega), decide_eq_true (show ¬ (nuT T c).1 < 0 from fun z => h (he.2.1.mp z))]; rfl
theorem rx_step {M2 M' : Mem} {k : Nat} {X Y : Nat → Int32} (h : ∀ j, j < k → M2 233 (60 + j) = X j ∧ M2 233 (114 + j) = Y j) (hx : M' 233 (60 + k) = X k) (hy : M' 233 (114 + k) = Y k) (fx : ∀ j, j < k → M' 233 (60 + j) = M2 233 (60 + j)) (fy : ∀ j, j < k → M' 233 (114 + j) = M2 233 (114 + j)) : ∀ j, j < k + 1 → M' 233 (60 + j) = X j ∧ M' 233 (114 + j) = Y j := by
  intro j hj
  by_cases q : j = k
  · rw [q]; exact ⟨hx, hy⟩
  · rw [fx j (by omega), fy j (by omega)]; exact h j (by omega)
theorem rd_ret {a b k : Nat} : (if a = b then (if k ≤ 2 then (0 : Int32) else (1 : Int32)) else (0 : Int32)) = bi (decide (a = b) && decide (3 ≤ k)) := by
  by_cases h : a = b
  · rw [if_pos h, decide_eq_true h]
    by_cases h2 : k ≤ 2
    · rw [if_pos h2, decide_eq_false (show ¬ 3 ≤ k by omega)]; rfl
    · rw [if_neg h2, decide_eq_true (show 3 ≤ k by omega)]; rfl
  · rw [if_neg h, decide_eq_false h]; rfl
theorem rd_bd {M2 Mz : Mem} {T : Tx} {k : Nat} (h : ∀ j, j < k → M2 233 (60 + j) = (crT T (psT T j)).2.1 ∧ M2 233 (114 + j) = (crT T (psT T j)).2.2.1) (hn : (polyT T).1 = k) (hk : k ≤ 6) (ez : Mz = mset M2 233 11 (nI k)) : BdM (Mz 233) 8 (polyT T) := by
  subst ez
  refine ⟨by rw [hn]; exact mset_self _ _ _ _, by omega, fun j hj => ?_, fun j hj => ?_⟩
  · rw [mset_ne (by omega)]; exact (h j (by omega)).1
  · rw [mset_ne (by omega)]; exact (h j (by omega)).2
theorem ite3_bi {p q r : Prop} [Decidable p] [Decidable q] [Decidable r] : (if p then (1 : Int32) else if q then (if r then (0 : Int32) else (1 : Int32)) else (0 : Int32)) = bi (if p then true else if q then (if r then false else true) else false) := by
  by_cases h1 : p <;> by_cases h2 : q <;> by_cases h3 : r <;> simp [h1, h2, h3, bi]
theorem rdF_val {P : Py} {k : Nat} : (if pUp P k = true then (if pUp P (pv P.1 k) = true then (0 : Int32) else (1 : Int32)) else (0 : Int32)) = rdF P k := by
  unfold rdF
  cases pUp P k <;> cases pUp P (pv P.1 k) <;> rfl
theorem shp_neg {P : Py} (h : P.1 ≤ 6) : pShape P < 0 ↔ pShape P = -1 := by
  unfold pShape
  have m1 : (-1 : Int32) < 0 := by decide
  split
  next k hk =>
    have hk2 := (fsT_some hk).1
    exact ⟨fun q => absurd q (nI_pos (by omega)), fun e => absurd e (nI_ne1 (by omega))⟩
  next hk =>
    by_cases c : pRounds P ≤ 1
    · rw [if_pos c]; exact ⟨fun _ => rfl, fun _ => m1⟩
    · rw [if_neg c]; exact ⟨fun q => absurd q (nI_pos (by omega)), fun e => absurd e (nI_ne1 (by omega))⟩
theorem ov_lt {s : St} {P : Py} {i : Nat} (hi : i ≤ s.1) (hn : ¬ ovS s P (-1) = 0) (h : anT (ovF s P (-1)) i = false) (h8 : s.1 ≤ 8) : i < s.1 := by
  apply Classical.byContradiction
  intro q
  rw [show i = s.1 by omega] at h
  exact hn ((bsT_eq0 h8).mpr (anT_false.mp h))
theorem ad_end {M1 M2 : Mem} {s : St} {P : Py} (hs : PkM (M1 233) s) (h8 : s.1 < 8) (hP : BdM (M1 233) 8 P) (hc : cpM (M1 233) 8 s.1 6 (M2 233)) : PkM (mset M2 233 2 (nI (s.1 + 1)) 233) (addS s P) := by
  have f := hc.2.2
  have e : ∀ j, ¬ j = 2 → mset M2 233 2 (nI (s.1 + 1)) 233 j = M2 233 j := fun j hj => mset_ne (by omega)
  refine ⟨by rw [e 0 (by decide), f 0 (by unfold ArB; omega)]; exact hs.1, by rw [e 1 (by decide), f 1 (by unfold ArB; omega)]; exact hs.2.1, mset_self _ _ _ _, by show s.1 + 1 ≤ 8; omega, fun k hk => ?_⟩
  have hk2 : k < s.1 + 1 := hk
  show BdM _ k (if k = s.1 then P else s.2.2.2 k)
  by_cases q : k = s.1
  · rw [if_pos q, q]
    exact (cpM_end hc hP).any (fun j hj => e j (by omega))
  · rw [if_neg q]
    exact ((hs.2.2.2.2 k (by omega)).fr f (by omega) (by omega) q).any (fun j hj => e j (by omega))
theorem hf_end {M M1 M2 : Mem} {P : Py} {a b c : Int32} (o1 : OnT M M1) (pn : M2 = mset (mset (mset M1 232 7 a) 232 8 b) 232 9 c) (hb : ¬ b = 0) : (1 : Int32) = bi (decide (¬ b = 0)) ∧ OnT M M2 ∧ (¬ b = 0 → M2 232 7 = a ∧ M2 232 8 = b ∧ M2 232 9 = c) ∧ (b = 0 → BdM (M2 233) 8 P) := by
  subst pn
  refine ⟨by rw [decide_eq_true hb]; rfl, o1.tr ((OnT.s (by omega)).tr ((OnT.s (by omega)).tr (OnT.s (by omega)))), fun _ => ⟨?_, ?_, mset_self _ _ _ _⟩, fun z => absurd z hb⟩
  · rw [mset_ne (by omega), mset_ne (by omega)]; exact mset_self _ _ _ _
  · rw [mset_ne (by omega)]; exact mset_self _ _ _ _
