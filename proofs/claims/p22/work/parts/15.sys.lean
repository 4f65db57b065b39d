/-! THE WHOLE STATE: the packing, how many states are kept, the states, the text -/
abbrev Sy : Type := St × Nat × (Nat → St) × Tx
def Hs (M : Mem) (hn : Nat) (H : Nat → St) : Prop := ∃ o, o < 4 ∧ M 225 2 = nI o ∧ M 225 3 = nI hn ∧ hn ≤ 4 ∧ ∀ a, a < hn → Pk M (64 + 32 * ((o + a) % 4)) (H a)
def RC (M : Mem) (σ : Sy) : Prop := Pk M 0 σ.1 ∧ Hs M σ.2.1 σ.2.2.1 ∧ TxM M σ.2.2.2
def FrC (M M' : Mem) : Prop := ∀ i, 232 ≤ i → M' i = M i
def FrH (M M' : Mem) : Prop := ∀ i, i ≠ 225 → ¬ (64 ≤ i ∧ i < 192) → M' i = M i
def LoF (M M' : Mem) : Prop := ∀ i, 64 ≤ i → M' i = M i
theorem LoF.tr {M M1 M2 : Mem} (h1 : LoF M M1) (h2 : LoF M1 M2) : LoF M M2 := fun i a => (h2 i a).trans (h1 i a)
theorem LoF.rf {M : Mem} : LoF M M := fun _ _ => rfl
theorem LoF.C {M M' : Mem} (h : LoF M M') : FrC M M' := fun i hi => h i (by omega)
theorem FrH.C {M M' : Mem} (h : FrH M M') : FrC M M' := fun i hi => h i (by omega) (by omega)
theorem FrT.C {M M' : Mem} (h : FrT M M') : FrC M M' := fun i hi => h i (by omega) (by omega)
theorem FrC.tr {M M1 M2 : Mem} (h1 : FrC M M1) (h2 : FrC M1 M2) : FrC M M2 := fun i a => (h2 i a).trans (h1 i a)
theorem FrC.rf {M : Mem} : FrC M M := fun _ _ => rfl
theorem Fr.Lo {k : Nat} {M M' : Mem} (h : Fr (bo 0 k) M M') (hk : k < 10) : LoF M M' := fun i hi => h i (by unfold bo; omega)
theorem FrP.Lo {p : Nat} {M M' : Mem} (h : FrP p M M') (hp : p = 0 ∨ p = 32) : LoF M M' := fun i hi => h i (by omega)
theorem kd_ring : ∀ j, j < 4 → kd (64 + 32 * j) = 3 := by decide
theorem Hs.lo {M M' : Mem} {hn : Nat} {H : Nat → St} (h : Hs M hn H) (hf : LoF M M') : Hs M' hn H := by
  obtain ⟨o, h1, h2, h3, h4, h5⟩ := h
  refine ⟨o, h1, by rw [hf 225 (by omega)]; exact h2, by rw [hf 225 (by omega)]; exact h3, h4, fun a ha => ?_⟩
  obtain ⟨g1, g2, g3, g4, g5⟩ := h5 a ha
  have hl : (o + a) % 4 < 4 := Nat.mod_lt _ (by omega)
  have e : M' (64 + 32 * ((o + a) % 4)) = M (64 + 32 * ((o + a) % 4)) := hf _ (by omega)
  refine ⟨by rw [e]; exact g1, by rw [e]; exact g2, by rw [e]; exact g3, g4, fun k hk => ?_⟩
  obtain ⟨q1, q2, q3, q4⟩ := g5 k hk
  exact ⟨by rw [hf _ (by unfold bo; omega)]; exact q1, q2, fun j hj => by rw [hf _ (by unfold bo; omega)]; exact q3 j hj, fun j hj => by rw [hf _ (by unfold bo; omega)]; exact q4 j hj⟩
theorem TxM.lo {M M' : Mem} {T : Tx} (h : TxM M T) (hf : LoF M M') : TxM M' T := ⟨by rw [hf 227 (by omega)]; exact h.1, fun j hj => by rw [hf 228 (by omega)]; exact h.2 j hj⟩
theorem RC.lo {M M' : Mem} {σ : Sy} {s' : St} (h : RC M σ) (hf : LoF M M') (hs : Pk M' 0 s') : RC M' (s', σ.2) := ⟨hs, h.2.1.lo hf, h.2.2.lo hf⟩
theorem RC.gh {M M' : Mem} {σ : Sy} (h : RC M σ) (hf : Fr (bo 0 9) M M') : RC M' σ := ⟨h.1.fr hf (Or.inl (by have := h.1.2.2.2.1; unfold bo; omega)), h.2.1.lo (hf.Lo (by omega)), h.2.2.lo (hf.Lo (by omega))⟩
theorem Pk.frH {M M' : Mem} {p : Nat} {s : St} (h : Pk M p s) (hf : FrH M M') (hp : p + 32 ≤ 64) : Pk M' p s := by
  obtain ⟨h1, h2, h3, h4, h5⟩ := h
  have e : M' p = M p := hf p (by omega) (by omega)
  refine ⟨by rw [e]; exact h1, by rw [e]; exact h2, by rw [e]; exact h3, h4, fun k hk => ?_⟩
  obtain ⟨q1, q2, q3, q4⟩ := h5 k hk
  exact ⟨by rw [hf _ (by unfold bo; omega) (by unfold bo; omega)]; exact q1, q2, fun j hj => by rw [hf _ (by unfold bo; omega) (by unfold bo; omega)]; exact q3 j hj, fun j hj => by rw [hf _ (by unfold bo; omega) (by unfold bo; omega)]; exact q4 j hj⟩
theorem TxM.frH {M M' : Mem} {T : Tx} (h : TxM M T) (hf : FrH M M') : TxM M' T := ⟨by rw [hf 227 (by omega) (by omega)]; exact h.1, fun j hj => by rw [hf 228 (by omega) (by omega)]; exact h.2 j hj⟩
theorem Hs.frT {M M' : Mem} {hn : Nat} {H : Nat → St} (h : Hs M hn H) (hf : FrT M M') : Hs M' hn H := by
  obtain ⟨o, h1, h2, h3, h4, h5⟩ := h
  exact ⟨o, h1, by rw [hf 225 (by omega) (by omega)]; exact h2, by rw [hf 225 (by omega) (by omega)]; exact h3, h4, fun a ha => (h5 a ha).frT hf (kd_ring _ (Nat.mod_lt _ (by omega)))⟩
def puN (hn : Nat) : Nat := if hn = 4 then 4 else hn + 1
def puH (hn : Nat) (H : Nat → St) (s : St) : Nat → St := fun a => if hn = 4 then (if a < 3 then H (a + 1) else s) else (if a < hn then H a else s)
theorem nI_m4 {n : Nat} (h : 4 ≤ n) : nI n + Int32.ofInt (-4) = nI (n - 4) := by
  obtain ⟨m, rfl⟩ : ∃ m, n = m + 4 := ⟨n - 4, by omega⟩
  rw [← nI_add, Int32.add_assoc, show nI 4 + Int32.ofInt (-4) = 0 by decide, Int32.add_zero]
  rfl
/-! the answers and changes of every call -/
def isSz (v : Int32) : Bool := if v < 10 then false else if 60 < v then false else true
def isDir (v : Int32) : Bool := if v < 0 then false else if 8 ≤ v then false else true
def pushY (σ : Sy) (s' : St) : Sy := (s', puN σ.2.1, puH σ.2.1 σ.2.2.1 σ.1, σ.2.2.2)
def boxY (σ : Sy) (w h : Int32) : Int32 × Sy :=
  if isSz w = true ∧ isSz h = true then (if fitS σ.1 w h = true then (100 * σ.1.2.1 + σ.1.2.2.1, pushY σ (σ.1.1, w, h, σ.1.2.2.2)) else (-1000002, σ)) else (-1000001, σ)
def putY (σ : Sy) : Int32 × Sy :=
  if (fltT σ.2.2.2 σ.1).2.1 = 0 then (if σ.1.1 < 8 then (nI σ.1.1, pushY σ (addS σ.1 (polyT σ.2.2.2))) else (-1000003, σ)) else (-1000002, σ)
def remY (σ : Sy) (v : Int32) : Int32 × Sy := if hasB σ.1.1 v = true then (nI (σ.1.1 - 1), pushY σ (outS σ.1 v.toNatClampNeg)) else (-1000001, σ)
def empY (σ : Sy) : Int32 × Sy := (nI σ.1.1, pushY σ (0, σ.1.2))
def sliY (σ : Sy) (v d m : Int32) : Int32 × Sy :=
  if hasB σ.1.1 v = true ∧ isDir d = true ∧ 1 ≤ m ∧ m ≤ 60 then
    (if fsN σ.1 v.toNatClampNeg d.toNatClampNeg m.toNatClampNeg = 0 then (-1000002, σ)
     else (nI (fsN σ.1 v.toNatClampNeg d.toNatClampNeg m.toNatClampNeg), pushY σ (setS σ.1 v.toNatClampNeg (shP (σ.1.2.2.2 v.toNatClampNeg) d.toNatClampNeg (fsN σ.1 v.toNatClampNeg d.toNatClampNeg m.toNatClampNeg)))))
  else (-1000001, σ)
def turY (σ : Sy) (v : Int32) : Int32 × Sy :=
  if hasB σ.1.1 v = true then (if okS σ.1 (tnP (σ.1.2.2.2 v.toNatClampNeg)) v.toNatClampNeg = true then (pR (tnP (σ.1.2.2.2 v.toNatClampNeg)) - pL (tnP (σ.1.2.2.2 v.toNatClampNeg)), pushY σ (setS σ.1 v.toNatClampNeg (tnP (σ.1.2.2.2 v.toNatClampNeg)))) else (-1000002, σ)) else (-1000001, σ)
def setY (σ : Sy) (d : Int32) : Int32 × Sy :=
  if isDir d = true then (nI (seS d.toNatClampNeg 1000 σ.1 0).2, pushY σ (seS d.toNatClampNeg 1000 σ.1 0).1) else (-1000001, σ)
def cornY (P : Py) (j : Nat) : Int32 := if j / 2 < P.1 then (if j % 2 = 0 then P.2.1 (j / 2) else P.2.2 (j / 2)) else -1000004
def bofV (s : St) (k j : Nat) : Int32 := match j with
  | 0 => nI (s.2.2.2 k).1
  | 1 => pArea (s.2.2.2 k)
  | 2 => pL (s.2.2.2 k)
  | 3 => pR (s.2.2.2 k)
  | 4 => pB (s.2.2.2 k)
  | 5 => pT (s.2.2.2 k)
  | 6 => pTouched (s.2.2.2 k) s.2.1 s.2.2.1
  | 7 => tcS s k
  | 8 => frS s k
  | 9 => bi (!jm4 s k 4)
  | j + 10 => cornY (s.2.2.2 k) j
def bofY (σ : Sy) (v w : Int32) : Int32 := if hasB σ.1.1 v = true ∧ 0 ≤ w ∧ w < 22 then bofV σ.1 v.toNatClampNeg w.toNatClampNeg else -1000001
def parV (P Q : Py) (w : Int32) : Int32 := match pSep P Q 0 with
  | some k => if w = 0 then nI k else if w = 1 then nI (pNear P k Q) else -(pReach P k Q)
  | none => match pSep Q P 0 with
    | some k => if w = 0 then nI k + 10 else if w = 1 then nI (pNear Q k P) else -(pReach Q k P)
    | none => 0
def parY (σ : Sy) (u v w : Int32) : Int32 := if hasB σ.1.1 u = true ∧ hasB σ.1.1 v = true ∧ ¬ u = v ∧ 0 ≤ w ∧ w ≤ 2 then parV (σ.1.2.2.2 u.toNatClampNeg) (σ.1.2.2.2 v.toNatClampNeg) w else -1000001
def wayV (s : St) (k d : Nat) (w : Int32) : Int32 :=
  if w = 0 then nI (fsN s k d 60) else if w = 1 then ovS s (shP (s.2.2.2 k) d (fsN s k d 60 + 1)) (nI k) else pBeyond (shP (s.2.2.2 k) d (fsN s k d 60 + 1)) s.2.1 s.2.2.1
def wayY (σ : Sy) (v d w : Int32) : Int32 := if hasB σ.1.1 v = true ∧ isDir d = true ∧ 0 ≤ w ∧ w ≤ 2 then wayV σ.1 v.toNatClampNeg d.toNatClampNeg w else -1000001
noncomputable def bodY (σ : Sy) (w : Int32) : Int32 := if w = 0 then jmS σ.1 else if w = 1 then noneS σ.1 else if w = 2 then wallS σ.1 15 else if w = 3 then clS σ.1 (waF σ.1 4) else -1000001
/-- the walk of groups: seen, how many, the k-th body; none: not found yet -/
noncomputable def grI (s : St) : Nat → (Nat → Bool) × Nat
  | 0 => (fun _ => false, 0)
  | k + 1 => if (grI s k).1 k then grI s k else (fun j => (grI s k).1 j || clo s (fun i => decide (i = k)) j, (grI s k).2 + 1)
noncomputable def grF (s : St) (v : Int32) (k : Nat) : Bool := !(grI s k).1 k && decide (nI (grI s k).2 = v)
noncomputable def groY (σ : Sy) (v : Int32) : Int32 :=
  if v < -1 then -1000001 else match fsT (grF σ.1 v) σ.1.1 with
    | some k => clS σ.1 (fun i => decide (i = k))
    | none => if v = -1 then nI (grI σ.1 σ.1.1).2 else -1000004
/-- keystone: the best so far -/
def keI (s : St) (d : Nat) : Nat → Int32 × Int32
  | 0 => (-1000004, -1000004)
  | k + 1 => if (keI s d k).1 < nI (seS d 1000 (outS s k) 0).2 then (nI (seS d 1000 (outS s k) 0).2, nI k) else keI s d k
def keyY (σ : Sy) (d w : Int32) : Int32 := if isDir d = true ∧ 0 ≤ w ∧ w ≤ 1 then (if w = 0 then (keI σ.1 d.toNatClampNeg σ.1.1).2 else (keI σ.1 d.toNatClampNeg σ.1.1).1) else -1000001
def couY (σ : Sy) (w : Int32) : Int32 := if w = 0 then nI σ.1.1 else if w = 1 then σ.1.2.1 else if w = 2 then σ.1.2.2.1 else if w = 3 then areaS σ.1 else if w = 4 then cornS σ.1 else if w = 5 then pairS σ.1 else if w = 6 then nI σ.2.1 else if w = 7 then nI σ.2.2.2.1 else -1000001
def undY (σ : Sy) : Int32 × Sy := if σ.2.1 = 0 then (-1000002, σ) else (nI (σ.2.1 - 1), (σ.2.2.1 (σ.2.1 - 1), σ.2.1 - 1, σ.2.2.1, σ.2.2.2))
def typY (σ : Sy) (v : Int32) : Int32 × Sy := if 32 ≤ v ∧ v ≤ 126 then (if σ.2.2.2.1 < 60 then (nI (σ.2.2.2.1 + 1), (σ.1, σ.2.1, σ.2.2.1, (σ.2.2.2.1 + 1, fun j => if j = σ.2.2.2.1 then v else σ.2.2.2.2 j))) else (-1000003, σ)) else (-1000001, σ)
def cleY (σ : Sy) : Int32 × Sy := (nI σ.2.2.2.1, (σ.1, σ.2.1, σ.2.2.1, (0, σ.2.2.2.2)))
def fauY (σ : Sy) (w : Int32) : Int32 := if 0 ≤ w ∧ w ≤ 2 then (if (fltT σ.2.2.2 σ.1).2.1 = 0 then -1000004 else if w = 0 then (fltT σ.2.2.2 σ.1).1 else if w = 1 then (fltT σ.2.2.2 σ.1).2.1 else (fltT σ.2.2.2 σ.1).2.2) else -1000001
/-- every corner that isn't on an edge lies left of it -/
def Cvx (P : Py) : Prop := ∀ k j, k < P.1 → j < P.1 → ¬ j = k → ¬ j = nx P.1 k → 0 < pC P k P j
/-- what holds of every state -/
def OkP (s : St) : Prop := WfS s ∧ (∀ k, k < s.1 → Cvx (s.2.2.2 k)) ∧ ∀ i j, i < s.1 → j < s.1 → i ≠ j → ovl (s.2.2.2 i) (s.2.2.2 j) = false
def OkY (σ : Sy) : Prop := OkP σ.1 ∧ (∀ a, a < σ.2.1 → OkP (σ.2.2.1 a)) ∧ TxOk σ.2.2.2
theorem isDir_ex {v : Int32} (h : isDir v = true) : ∃ d, d < 8 ∧ v = nI d := by
  have : hasB 8 v = true := h
  exact hasB_ex (by decide) this
theorem hasB_cl {n : Nat} {v : Int32} (hn : n < 2 ^ 31) (h : hasB n v = true) : v.toNatClampNeg < n ∧ v = nI v.toNatClampNeg := by
  obtain ⟨j, h1, h2⟩ := hasB_ex hn h
  have e : v.toNatClampNeg = j := by rw [h2]; exact nI_clamp (by omega)
  exact ⟨by omega, by rw [e]; exact h2⟩
theorem hasB_k {n : Nat} {v : Int32} (h : hasB n v = true) (hn : n < 2 ^ 31) : ∃ k, k < n ∧ v = nI k ∧ v.toNatClampNeg = k := ⟨_, (hasB_cl hn h).1, (hasB_cl hn h).2, rfl⟩
theorem isDir_k {v : Int32} (h : isDir v = true) : ∃ d, d < 8 ∧ v = nI d ∧ v.toNatClampNeg = d := hasB_k (n := 8) h (by decide)
theorem sw4 (x : Int32) : x = 0 ∨ x = 1 ∨ x = 2 ∨ x = 3 ∨ (x.toInt < 0 ∨ 3 < x.toInt) := by
  simp only [i32_eq, show (0 : Int32).toInt = 0 by decide, show (1 : Int32).toInt = 1 by decide, show (2 : Int32).toInt = 2 by decide, show (3 : Int32).toInt = 3 by decide]
  omega
theorem sw8 (x : Int32) : x = 0 ∨ x = 1 ∨ x = 2 ∨ x = 3 ∨ x = 4 ∨ x = 5 ∨ x = 6 ∨ x = 7 ∨ (x.toInt < 0 ∨ 7 < x.toInt) := by
  simp only [i32_eq, show (0 : Int32).toInt = 0 by decide, show (1 : Int32).toInt = 1 by decide, show (2 : Int32).toInt = 2 by decide, show (3 : Int32).toInt = 3 by decide, show (4 : Int32).toInt = 4 by decide, show (5 : Int32).toInt = 5 by decide, show (6 : Int32).toInt = 6 by decide, show (7 : Int32).toInt = 7 by decide]
  omega
theorem sw10 (x : Int32) : x = 0 ∨ x = 1 ∨ x = 2 ∨ x = 3 ∨ x = 4 ∨ x = 5 ∨ x = 6 ∨ x = 7 ∨ x = 8 ∨ x = 9 ∨ (x.toInt < 0 ∨ 9 < x.toInt) := by
  simp only [i32_eq, show (0 : Int32).toInt = 0 by decide, show (1 : Int32).toInt = 1 by decide, show (2 : Int32).toInt = 2 by decide, show (3 : Int32).toInt = 3 by decide, show (4 : Int32).toInt = 4 by decide, show (5 : Int32).toInt = 5 by decide, show (6 : Int32).toInt = 6 by decide, show (7 : Int32).toInt = 7 by decide, show (8 : Int32).toInt = 8 by decide, show (9 : Int32).toInt = 9 by decide]
  omega
/-- a value far from the small numbers -/
theorem sw_ne {x : Int32} {n : Int} {k : Int32} (h : x.toInt < 0 ∨ n < x.toInt) (hk : 0 ≤ k.toInt ∧ k.toInt ≤ n) : ¬ x = k := by
  intro e; rw [e] at h; omega
theorem shr1 {j : Nat} (hj : j < 2 ^ 31) : nI j >>> ((1 : Int32) &&& 31) = nI (j / 2) := pk_shrN hj _ 1 (by decide)
theorem and1 {j : Nat} (hj : j < 2 ^ 31) : nI j &&& 1 = nI (j % 2) := pk_andN (by omega) 1 (by decide)
theorem ch_i2c : ∀ q, q < 127 → ((nI q).toUInt32 % 65536).toInt32 = nI q := by decide +kernel
theorem chr_k {v : Int32} (h1 : ¬ v < 32) (h2 : v ≤ 126) : ∃ q, 32 ≤ q ∧ q ≤ 126 ∧ v = nI q := by
  have h0 : ¬ v < 0 := by
    rw [i32_lt] at *
    have : (32 : Int32).toInt = 32 := by decide
    have : (0 : Int32).toInt = 0 := by decide
    omega
  obtain ⟨j, hj, rfl⟩ := nI_of h0
  have e1 : (32 : Int32) = nI 32 := by decide
  have e2 : (126 : Int32) = nI 126 := by decide
  rw [e1, nI_ltI hj (by decide)] at h1
  rw [e2, nI_leI hj (by decide)] at h2
  exact ⟨j, by omega, h2, rfl⟩
theorem bsT_bit {q : Nat → Bool} {n k : Nat} (hn : n ≤ 8) (hk : k < n) : bsT q n &&& ((1 : Int32) <<< (nI k &&& 31)) = 0 ↔ q k = false := by
  have h1 := bt8_tb (v := bsT q n) (j := k) (by omega)
  rw [tb_bsT hn (by omega)] at h1
  unfold bt8 at h1
  simp only [hk, decide_true, Bool.true_and] at h1
  constructor
  · intro e
    rw [← h1]
    exact decide_eq_false (fun z => z e)
  · intro e
    rw [e] at h1
    exact Decidable.not_not.mp (of_decide_eq_false h1)
theorem Pk.box {M : Mem} {p : Nat} {s : St} (h : Pk M p s) (w v : Int32) : Pk (mset (mset M p 4 w) p 5 v) p (s.1, w, v, s.2.2.2) := by
  obtain ⟨h1, h2, h3, h4, h5⟩ := h
  refine ⟨by rw [mset_ne (by omega), mset_ne (by omega)]; exact h1, by rw [mset_ne (by omega)]; exact mset_self _ _ _ _, mset_self _ _ _ _, h4, fun k hk => ?_⟩
  obtain ⟨q1, q2, q3, q4⟩ := h5 k hk
  exact ⟨by rw [mset_ne (by unfold bo; omega), mset_ne (by unfold bo; omega)]; exact q1, q2, fun j hj => by rw [mset_ne (by unfold bo; omega), mset_ne (by unfold bo; omega)]; exact q3 j hj, fun j hj => by rw [mset_ne (by unfold bo; omega), mset_ne (by unfold bo; omega)]; exact q4 j hj⟩
theorem Pk.emp {M : Mem} {p : Nat} {s : St} (h : Pk M p s) : Pk (mset M p 3 0) p (0, s.2) :=
  ⟨mset_self _ _ _ _, by rw [mset_ne (by omega)]; exact h.2.1, by rw [mset_ne (by omega)]; exact h.2.2.1, Nat.zero_le _, fun k hk => absurd hk (Nat.not_lt_zero _)⟩
theorem LoF.set {M : Mem} {i k : Nat} {v : Int32} (h : i < 64) : LoF M (mset M i k v) := fun j hj => mset_off j (by omega)
theorem outS_wf {s : St} {k : Nat} (h : WfS s) (hk : k < s.1) : WfS (outS s k) := by
  refine ⟨h.1, fun j hj => ?_⟩
  have hj2 : j < s.1 - 1 := hj
  show WfB (if j < k then s.2.2.2 j else s.2.2.2 (j + 1)) s.2.1 s.2.2.1
  split
  · exact h.2 j (by omega)
  · exact h.2 (j + 1) (by omega)
theorem parted {s : St} (h : OkP s) {i j : Nat} (hi : i < s.1) (hj : j < s.1) (hne : i ≠ j) (hn : pSep (s.2.2.2 i) (s.2.2.2 j) 0 = none) : ∃ k, pSep (s.2.2.2 j) (s.2.2.2 i) 0 = some k := by
  have h1 := h.2.2 i j hi hj hne
  unfold ovl at h1
  rw [hn] at h1
  cases h2 : pSep (s.2.2.2 j) (s.2.2.2 i) 0 with
  | some k => exact ⟨k, rfl⟩
  | none => rw [h2] at h1; cases h1
theorem ring_1 {o : Nat} (h : o < 4) : (if 4 ≤ o + 1 then 0 else nI (o + 1)) = nI ((o + 1) % 4) := by
  by_cases q : 4 ≤ o + 1
  · rw [if_pos q, show (o + 1) % 4 = 0 by omega]; rfl
  · rw [if_neg q, Nat.mod_eq_of_lt (by omega)]
theorem Pk.off {M M' : Mem} {j : Nat} {s : St} {k : Nat} {v : Int32} {i : Nat} (h : Pk M (64 + 32 * (j % 4)) s) (e : M' = mset M i k v) (hi : i = 225 := by rfl) : Pk M' (64 + 32 * (j % 4)) s := by
  subst e
  have hm : j % 4 < 4 := Nat.mod_lt _ (by omega)
  obtain ⟨h1, h2, h3, h4, h5⟩ := h
  refine ⟨by rw [mset_ne (by omega)]; exact h1, by rw [mset_ne (by omega)]; exact h2, by rw [mset_ne (by omega)]; exact h3, h4, fun a ha => ?_⟩
  obtain ⟨q1, q2, q3, q4⟩ := h5 a ha
  exact ⟨by rw [mset_ne (by unfold bo; omega)]; exact q1, q2, fun b hb => by rw [mset_ne (by unfold bo; omega)]; exact q3 b hb, fun b hb => by rw [mset_ne (by unfold bo; omega)]; exact q4 b hb⟩
theorem keep_end {M M3 M4 M5 : Mem} {o3 n3 hn : Nat} {H H3 : Nat → St} {s : St} (go : o3 < 4) (gn : n3 < 4) (g2 : M3 225 2 = nI o3) (g4 : FrH M M3) (h3 : ∀ a, a < n3 → Pk M3 (64 + 32 * ((o3 + a) % 4)) (H3 a)) (g6 : puN hn = n3 + 1) (g7 : ∀ a, a ≤ n3 → puH hn H s a = if a < n3 then H3 a else s)
    (e4 : Pk M4 (64 + 32 * ((o3 + n3) % 4)) s ∧ FrP (64 + 32 * ((o3 + n3) % 4)) M3 M4) (f225 : M4 225 = M3 225) (e5 : M5 = mset M4 225 3 (nI (n3 + 1))) : Hs M5 (puN hn) (puH hn H s) ∧ FrH M M5 := by
  have hm : (o3 + n3) % 4 < 4 := Nat.mod_lt _ (by omega)
  refine ⟨⟨o3, go, by rw [e5, mset_ne (by omega), f225]; exact g2, by rw [g6, e5]; exact mset_self _ _ _ _, by omega, fun a ha => ?_⟩, fun i hi hj => by rw [e5, mset_off i hi, e4.2 i (by omega)]; exact g4 i hi hj⟩
  rw [g7 a (by omega)]
  have hma : (o3 + a) % 4 < 4 := Nat.mod_lt _ (by omega)
  by_cases q : a < n3
  · rw [if_pos q]
    exact ((h3 a q).frP e4.2 (by omega)).off e5
  · rw [if_neg q, show a = n3 by omega]
    exact e4.1.off e5
theorem bcf {b : Bool} (h : b = true) (h2 : b = false) : False := by rw [h] at h2; cases h2
theorem RC.push {M M1 M2 : Mem} {σ : Sy} {s' : St} (hR : RC M σ) (e1 : Hs M1 (puN σ.2.1) (puH σ.2.1 σ.2.2.1 σ.1) ∧ FrH M M1) (hf : LoF M1 M2) (hp : Pk M2 0 s') : RC M2 (pushY σ s') ∧ FrC M M2 :=
  ⟨⟨hp, e1.1.lo hf, (hR.2.2.frH e1.2).lo hf⟩, e1.2.C.tr hf.C⟩
theorem num_k {m : Int32} {a b : Nat} (hb : b < 2 ^ 31) (h1 : nI a ≤ m) (h2 : m ≤ nI b) (ha : a < 2 ^ 31) : ∃ j, a ≤ j ∧ j ≤ b ∧ m = nI j ∧ m.toNatClampNeg = j := by
  have h0 : ¬ m < 0 := by
    rw [i32_le] at h1
    rw [i32_lt, nI_toInt ha] at *
    have : (0 : Int32).toInt = 0 := by decide
    omega
  obtain ⟨j, hj, rfl⟩ := nI_of h0
  rw [nI_leI ha hj] at h1
  rw [nI_leI hj hb] at h2
  exact ⟨j, h1, h2, rfl, nI_clamp hj⟩
theorem bsT_small {q : Nat → Bool} {n : Nat} (hn : n ≤ 8) : ∃ v, v < 256 ∧ bsT q n = nI v := by
  refine ⟨(bsT q n).toBitVec.toNat, ?_, ?_⟩
  · have : (bsT q n).toBitVec.toNat < 2 ^ 8 := by
      apply Nat.lt_pow_two_of_testBit
      intro i hi
      by_cases h : i < 32
      · have := tb_bsT (q := q) hn h
        unfold tb at this
        rw [BitVec.testBit_toNat, this]
        have : ¬ i < n := by omega
        simp [this]
      · rw [BitVec.testBit_toNat]
        exact BitVec.getLsbD_of_ge _ _ (by omega)
    simpa using this
  · apply Int32.toBitVec_inj.mp
    apply BitVec.eq_of_toNat_eq
    rw [pk_tn (BitVec.isLt _)]
theorem shr_all : ∀ v, v < 256 → ∀ k, k < 8 → (nI v >>> (nI k &&& 31)) &&& 1 = bi (tb (nI v) k) := by decide +kernel
theorem bsT_shr {q : Nat → Bool} {n k : Nat} (hn : n ≤ 8) (hk : k < n) : (bsT q n >>> (nI k &&& 31)) &&& 1 = bi (q k) := by
  obtain ⟨v, hv, e⟩ := bsT_small (q := q) hn
  have h1 := tb_bsT (q := q) hn (i := k) (by omega)
  rw [e] at h1 ⊢
  rw [shr_all v hv k (by omega), h1]
  simp [hk]
theorem Pk.r {M : Mem} {p : Nat} {s : St} (h : Pk M p s) : s.1 ≤ 8 := h.2.2.2.1
theorem Bd.frH {M M' : Mem} {P : Py} (h : Bd M 229 P) (hf : FrH M M') : Bd M' 229 P :=
  ⟨by rw [hf 229 (by omega) (by omega)]; exact h.1, h.2.1, fun k hk => by rw [hf 230 (by omega) (by omega)]; exact h.2.2.1 k hk, fun k hk => by rw [hf 231 (by omega) (by omega)]; exact h.2.2.2 k hk⟩
theorem lt_22 {w : Int32} (h : w < 22) : w ≤ nI 21 := by
  rw [i32_lt] at h
  rw [i32_le]
  have e1 : (22 : Int32).toInt = 22 := by decide
  have e2 : (nI 21).toInt = 21 := by decide
  omega
theorem opI_none {o : Option Nat} (h : ¬ 0 ≤ opI o) (hk : ∀ k, o = some k → k < 2 ^ 31 := by intro k hk; have := (fsT_some hk).1; omega) : o = none := by
  cases o with
  | none => rfl
  | some k => exact absurd (nI_pos' (hk k rfl)) h
theorem opI_some {o : Option Nat} (h : 0 ≤ opI o) : ∃ k, o = some k := by
  cases o with
  | some k => exact ⟨k, rfl⟩
  | none => exact absurd h (by decide)
theorem gr_seen {q : Nat → Bool} {n k : Nat} (hn : n ≤ 8) (hk : k < n) (h : ¬ bsT q n &&& ((1 : Int32) <<< (nI k &&& 31)) = 0) : q k = true := by
  cases e : q k with
  | true => rfl
  | false => exact absurd ((bsT_bit hn hk).mpr e) h
theorem grI_old {s : St} {k : Nat} (h : (grI s k).1 k = true) : grI s (k + 1) = grI s k := by
  show (if (grI s k).1 k then grI s k else _) = _
  rw [if_pos h]
theorem grI_new {s : St} {k : Nat} (h : (grI s k).1 k = false) : grI s (k + 1) = (fun j => (grI s k).1 j || clo s (fun i => decide (i = k)) j, (grI s k).2 + 1) := by
  show (if (grI s k).1 k then grI s k else _) = _
  rw [if_neg (by rw [h]; exact Bool.false_ne_true)]
theorem gr_found {s : St} {v : Int32} {k : Nat} (hn : s.1 ≤ 8) (hk : k < s.1) (h : bsT (grI s k).1 s.1 &&& ((1 : Int32) <<< (nI k &&& 31)) = 0) (h2 : nI (grI s k).2 = v) : grF s v k = true := by
  unfold grF
  rw [(bsT_bit hn hk).mp h, decide_eq_true h2]
  rfl
theorem hs_n {M : Mem} {hn : Nat} {H : Nat → St} (h : Hs M hn H) : M 225 3 = nI hn := by
  obtain ⟨o, h1, h2, h3, h4⟩ := h
  exact h3
theorem typ_end {M M1 : Mem} {σ : Sy} {v : Int32} (hR : RC M σ) (e : M1 = mset (mset M 228 σ.2.2.2.1 v) 227 3 (nI (σ.2.2.2.1 + 1))) : RC M1 (σ.1, σ.2.1, σ.2.2.1, (σ.2.2.2.1 + 1, fun j => if j = σ.2.2.2.1 then v else σ.2.2.2.2 j)) ∧ FrC M M1 := by
  have hlo : ∀ i, i < 227 → M1 i = M i := fun i hi => by rw [e, mset_off i (by omega), mset_off i (by omega)]
  refine ⟨⟨?_, ?_, ?_⟩, fun i hi => by rw [e, mset_off i (by omega), mset_off i (by omega)]⟩
  · exact hR.1.fr (b := 227) (fun i hi => by
      by_cases h : i < 227
      · exact hlo i h
      · rw [e, mset_off i (by omega), mset_off i (by omega)]) (Or.inl (by have := hR.1.r; unfold bo; omega))
  · obtain ⟨o, h1, h2, h3, h4, h5⟩ := hR.2.1
    refine ⟨o, h1, by rw [hlo 225 (by omega)]; exact h2, by rw [hlo 225 (by omega)]; exact h3, h4, fun a ha => ?_⟩
    have hm : (o + a) % 4 < 4 := Nat.mod_lt _ (by omega)
    exact (h5 a ha).fr (b := 227) (fun i hi => by
      by_cases h : i < 227
      · exact hlo i h
      · rw [e, mset_off i (by omega), mset_off i (by omega)]) (Or.inl (by have := (h5 a ha).r; unfold bo; omega))
  · refine ⟨by rw [e]; exact mset_self _ _ _ _, fun j hj => ?_⟩
    show M1 228 j = if j = σ.2.2.2.1 then v else σ.2.2.2.2 j
    have hj2 : j < σ.2.2.2.1 + 1 := hj
    by_cases q : j = σ.2.2.2.1
    · rw [if_pos q, q, e, mset_ne (by omega)]; exact mset_self _ _ _ _
    · rw [if_neg q, e, mset_ne (by omega), mset_ne (by omega)]; exact hR.2.2.2 j (by omega)
theorem cle_end {M : Mem} {σ : Sy} (hR : RC M σ) : RC (mset M 227 3 0) (cleY σ).2 ∧ FrC M (mset M 227 3 0) := by
  have hlo : ∀ i, i ≠ 227 → mset M 227 3 0 i = M i := fun i hi => mset_off i hi
  refine ⟨⟨?_, ?_, mset_self _ _ _ _, fun j hj => absurd hj (Nat.not_lt_zero _)⟩, fun i hi => hlo i (by omega)⟩
  · exact hR.1.fr (b := 227) (fun i hi => hlo i (by omega)) (Or.inl (by have := hR.1.r; unfold bo; omega))
  · obtain ⟨o, h1, h2, h3, h4, h5⟩ := hR.2.1
    refine ⟨o, h1, by rw [hlo 225 (by omega)]; exact h2, by rw [hlo 225 (by omega)]; exact h3, h4, fun a ha => ?_⟩
    have hm : (o + a) % 4 < 4 := Nat.mod_lt _ (by omega)
    exact (h5 a ha).fr (b := 227) (fun i hi => hlo i (by omega)) (Or.inl (by have := (h5 a ha).r; unfold bo; omega))
