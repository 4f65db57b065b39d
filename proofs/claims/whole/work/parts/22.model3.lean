/-! THE REFERENCE'S STATE -/
def HsM (M : Mem) (hn : Nat) (H : Nat → St) : Prop := M 232 3 = nI hn ∧ hn ≤ 4 ∧ ∀ a, a < hn → PkM (fun j => M 234 (120 * a + j)) (H a)
def TxR (M : Mem) (T : Tx) : Prop := M 232 5 = nI T.1 ∧ ∀ j, j < T.1 → M 236 j = T.2 j
def RM (M : Mem) (σ : Sy) : Prop := PkM (M 233) σ.1 ∧ HsM M σ.2.1 σ.2.2.1 ∧ TxR M σ.2.2.2
def FrM (M M' : Mem) : Prop := ∀ i, i < 232 → M' i = M i
def On5 (M M' : Mem) : Prop := ∀ i, i ≠ 235 → M' i = M i
def OnH (M M' : Mem) : Prop := (∀ i, i ≠ 232 → i ≠ 234 → M' i = M i) ∧ ∀ j, j ≠ 3 → M' 232 j = M 232 j
def KpM (M M1 : Mem) : Prop := (∀ j, j < 120 → M1 235 j = M 233 j) ∧ On5 M M1
theorem FrM.rf {M : Mem} : FrM M M := fun _ _ => rfl
theorem FrM.tr {M M1 M2 : Mem} (h1 : FrM M M1) (h2 : FrM M1 M2) : FrM M M2 := fun i a => (h2 i a).trans (h1 i a)
theorem On3.M {M M' : Mem} (h : On3 M M') : FrM M M' := fun i hi => h i (by omega)
theorem On5.M {M M' : Mem} (h : On5 M M') : FrM M M' := fun i hi => h i (by omega)
theorem OnH.M {M M' : Mem} (h : OnH M M') : FrM M M' := fun i hi => h.1 i (by omega) (by omega)
theorem OnH.rf {M : Mem} : OnH M M := ⟨fun _ _ _ => rfl, fun _ _ => rfl⟩
theorem OnH.tr {M M1 M2 : Mem} (h1 : OnH M M1) (h2 : OnH M1 M2) : OnH M M2 := ⟨fun i a b => (h2.1 i a b).trans (h1.1 i a b), fun j a => (h2.2 j a).trans (h1.2 j a)⟩
theorem OnH.s4 {M : Mem} {k : Nat} {v : Int32} : OnH M (mset M 234 k v) := ⟨fun i _ b => mset_off i b, fun j _ => mset_ne (by omega)⟩
theorem OnH.s3 {M : Mem} {v : Int32} : OnH M (mset M 232 3 v) := ⟨fun i a _ => mset_off i a, fun j a => mset_ne (by omega)⟩
theorem HsM.same {M M' : Mem} {hn : Nat} {H : Nat → St} (h : HsM M hn H) (h1 : M' 232 3 = M 232 3) (h2 : M' 234 = M 234) : HsM M' hn H := ⟨by rw [h1]; exact h.1, h.2.1, fun a ha => by rw [h2]; exact h.2.2 a ha⟩
theorem HsM.on3 {M M' : Mem} {hn : Nat} {H : Nat → St} (h : HsM M hn H) (hf : On3 M M') : HsM M' hn H := h.same (by rw [hf 232 (by decide)]) (hf 234 (by decide))
theorem HsM.on5 {M M' : Mem} {hn : Nat} {H : Nat → St} (h : HsM M hn H) (hf : On5 M M') : HsM M' hn H := h.same (by rw [hf 232 (by decide)]) (hf 234 (by decide))
theorem TxR.on3 {M M' : Mem} {T : Tx} (h : TxR M T) (hf : On3 M M') : TxR M' T := ⟨by rw [hf 232 (by decide)]; exact h.1, fun j hj => by rw [hf 236 (by decide)]; exact h.2 j hj⟩
theorem TxR.on5 {M M' : Mem} {T : Tx} (h : TxR M T) (hf : On5 M M') : TxR M' T := ⟨by rw [hf 232 (by decide)]; exact h.1, fun j hj => by rw [hf 236 (by decide)]; exact h.2 j hj⟩
theorem TxR.onH {M M' : Mem} {T : Tx} (h : TxR M T) (hf : OnH M M') : TxR M' T := ⟨by rw [hf.2 5 (by decide)]; exact h.1, fun j hj => by rw [hf.1 236 (by decide) (by decide)]; exact h.2 j hj⟩
theorem RM.on3 {M M' : Mem} {σ : Sy} {s' : St} (h : RM M σ) (hf : On3 M M') (hs : PkM (M' 233) s') : RM M' (s', σ.2) := ⟨hs, h.2.1.on3 hf, h.2.2.on3 hf⟩
theorem RM.on5 {M M' : Mem} {σ : Sy} (h : RM M σ) (hf : On5 M M') : RM M' σ := ⟨by rw [hf 233 (by decide)]; exact h.1, h.2.1.on5 hf, h.2.2.on5 hf⟩
theorem KpM.old {M M1 M2 : Mem} {s : St} (ek : KpM M M1) (h3 : On3 M1 M2) (hs : PkM (M 233) s) : PkM (M2 235) s := by
  rw [h3 235 (by decide)]; exact hs.same ek.1
theorem RM.push {M M1 M2 M3 : Mem} {σ : Sy} {s' : St} (hR : RM M σ) (ek : KpM M M1) (h3 : On3 M1 M2) (hp : PkM (M2 233) s') (ec : HsM M3 (puN σ.2.1) (puH σ.2.1 σ.2.2.1 σ.1) ∧ OnH M2 M3) : RM M3 (pushY σ s') ∧ FrM M M3 :=
  ⟨⟨by rw [ec.2.1 233 (by decide) (by decide)]; exact hp, ec.1, ((hR.2.2.on5 ek.2).on3 h3).onH ec.2⟩, (ek.2.M.tr h3.M).tr ec.2.M⟩
/-- after a trial: all given back -/
theorem RM.back {M M1 M2 M3 : Mem} {σ : Sy} (hR : RM M σ) (ek : KpM M M1) (h3 : On3 M1 M2) (eg : (∀ j, j < 120 → M3 233 j = M2 235 j) ∧ On3 M2 M3) : RM M3 σ ∧ FrM M M3 := by
  have h4 : On3 M1 M3 := h3.tr eg.2
  refine ⟨⟨hR.1.same (fun j hj => ?_), (hR.2.1.on5 ek.2).on3 h4, (hR.2.2.on5 ek.2).on3 h4⟩, ek.2.M.tr h4.M⟩
  rw [eg.1 j hj, h3 235 (by decide)]
  exact ek.1 j hj
theorem set_to {M2 : Mem} {a i : Nat} {f : Nat → Int32} (h : ∀ j, j < i → M2 a j = f j) : ∀ j, j < i + 1 → mset M2 a i (f i) a j = f j := by
  intro j hj
  by_cases q : j = i
  · subst q; exact mset_self _ _ _ _
  · rw [mset_ne (by omega)]; exact h j (by omega)
theorem On5.set {M M2 : Mem} {k : Nat} {v : Int32} (h : On5 M M2) : On5 M (mset M2 235 k v) := fun i hi => (mset_off i hi).trans (h i hi)
theorem On3.st {M M2 : Mem} {k : Nat} {v : Int32} (h : On3 M M2) : On3 M (mset M2 233 k v) := fun i hi => (mset_off i hi).trans (h i hi)
/-- the loop of changed -/
def cgI (M : Mem) (n3 i : Nat) (M2 : Mem) : Prop := (∀ j, j < i → M2 234 (120 * n3 + j) = M 235 j) ∧ (∀ j, j < 120 * n3 → M2 234 j = M 234 j) ∧ ∀ b, b ≠ 234 → M2 b = M b
theorem cgI_step {M M2 : Mem} {n3 i : Nat} (h : cgI M n3 i M2) : cgI M n3 (i + 1) (mset M2 234 (120 * n3 + i) (M 235 i)) := by
  refine ⟨fun j hj => ?_, fun j hj => ?_, fun b hb => (mset_off b hb).trans (h.2.2 b hb)⟩
  · by_cases q : j = i
    · subst q; exact mset_self _ _ _ _
    · rw [mset_ne (by omega)]; exact h.1 j (by omega)
  · rw [mset_ne (by omega)]; exact h.2.1 j hj
theorem cg_end {M M2 M4 : Mem} {hn n3 : Nat} {H H3 : Nat → St} {s : St} (gn : n3 < 4) (g4 : OnH M M2) (g5 : ∀ a, a < n3 → PkM (fun j => M2 234 (120 * a + j)) (H3 a)) (g6 : puN hn = n3 + 1) (g7 : ∀ a, a ≤ n3 → puH hn H s a = if a < n3 then H3 a else s) (hs : PkM (M 235) s) (e4 : cgI M2 n3 120 M4) (e3 : M2 232 3 = nI n3) : HsM (mset M4 232 3 (nI (n3 + 1))) (puN hn) (puH hn H s) ∧ OnH M (mset M4 232 3 (nI (n3 + 1))) := by
  refine ⟨⟨by rw [g6]; exact mset_self _ _ _ _, by omega, fun a ha => ?_⟩, g4.tr ⟨fun i hi h2 => (mset_off i hi).trans (e4.2.2 i h2), fun j hj => (mset_ne (by omega)).trans (by rw [e4.2.2 232 (by decide)])⟩⟩
  rw [g6] at ha
  rw [g7 a (by omega), show mset M4 232 3 (nI (n3 + 1)) 234 = M4 234 from mset_off 234 (by decide)]
  by_cases q : a < n3
  · rw [if_pos q]
    exact (g5 a q).same (fun j hj => e4.2.1 _ (by omega))
  · rw [if_neg q, show a = n3 by omega]
    refine hs.same (fun j hj => ?_)
    show M4 234 (120 * n3 + j) = _
    rw [e4.1 j hj, g4.1 235 (by decide) (by decide)]
/-- the shift of the kept states -/
def shI (M : Mem) (i : Nat) (M2 : Mem) : Prop := (∀ j, j < i → M2 234 j = M 234 (j + 120)) ∧ (∀ j, i ≤ j → M2 234 j = M 234 j) ∧ ∀ b, b ≠ 234 → M2 b = M b
theorem shI_step {M M2 : Mem} {i : Nat} (h : shI M i M2) : shI M (i + 1) (mset M2 234 i (M 234 (i + 120))) := by
  refine ⟨fun j hj => ?_, fun j hj => ?_, fun b hb => (mset_off b hb).trans (h.2.2 b hb)⟩
  · by_cases q : j = i
    · subst q; exact mset_self _ _ _ _
    · rw [mset_ne (by omega)]; exact h.1 j (by omega)
  · rw [mset_ne (by omega)]; exact h.2.1 j (by omega)
theorem shI.H {M M2 : Mem} {i : Nat} (h : shI M i M2) : OnH M M2 := ⟨fun b _ h2 => h.2.2 b h2, fun j _ => by rw [h.2.2 232 (by decide)]⟩
/-- turning a body in place -/
def tnI (A : Nat → Int32) (b : Nat) (P : Py) (i : Nat) (A2 : Nat → Int32) : Prop := A2 (3 + b) = nI P.1 ∧ (∀ j, j < P.1 → A2 (12 + 6 * b + j) = if j < i then (tnP P).2.1 j else P.2.1 j) ∧ (∀ j, j < P.1 → A2 (66 + 6 * b + j) = if j < i then (tnP P).2.2 j else P.2.2 j) ∧ FrB b A A2
theorem tnI_0 {A : Nat → Int32} {b : Nat} {P : Py} (h : BdM A b P) : tnI A b P 0 A := ⟨h.1, fun j hj => by rw [if_neg (by omega)]; exact h.2.2.1 j hj, fun j hj => by rw [if_neg (by omega)]; exact h.2.2.2 j hj, FrB.rf⟩
theorem tnI_step {M2 : Mem} {A : Nat → Int32} {b i : Nat} {P : Py} (h : tnI A b P i (M2 233)) (hb : b ≤ 8) (h6 : P.1 ≤ 6) (hi : i < P.1) {u v : Int32} (hu : u = (tnP P).2.1 i) (hv : v = (tnP P).2.2 i) : tnI A b P (i + 1) (mset (mset M2 233 (12 + 6 * b + i) u) 233 (66 + 6 * b + i) v 233) := by
  obtain ⟨h1, h2, h3, h4⟩ := h
  refine ⟨by rw [mset_ne (by omega), mset_ne (by omega)]; exact h1, fun j hj => ?_, fun j hj => ?_, fun j hj => ?_⟩
  · rw [mset_ne (by omega)]
    by_cases q : j = i
    · subst q; rw [mset_self, if_pos (by omega), hu]
    · rw [mset_ne (by omega), h2 j hj]
      by_cases q2 : j < i
      · rw [if_pos q2, if_pos (by omega)]
      · rw [if_neg q2, if_neg (by omega)]
  · by_cases q : j = i
    · subst q; rw [mset_self, if_pos (by omega), hv]
    · rw [mset_ne (by omega), mset_ne (by omega), h3 j hj]
      by_cases q2 : j < i
      · rw [if_pos q2, if_pos (by omega)]
      · rw [if_neg q2, if_neg (by omega)]
  · unfold ArB at hj
    rw [mset_ne (by omega), mset_ne (by omega)]
    exact h4 j (by unfold ArB; omega)
theorem tnI_end {A A2 : Nat → Int32} {b i : Nat} {P : Py} (h : tnI A b P i A2) (h6 : P.1 ≤ 6) (hi : P.1 ≤ i) : BdM A2 b (tnP P) :=
  ⟨h.1, h6, fun k hk => by have hk2 : k < P.1 := hk; rw [h.2.1 k hk2, if_pos (by omega)], fun k hk => by have hk2 : k < P.1 := hk; rw [h.2.2.1 k hk2, if_pos (by omega)]⟩
theorem tn_x {a b c d : Int32} : a + (b - c) - (d - c) = a + b - d := by grind
theorem tn_y {a b c : Int32} : a + (b - c) = a + b - c := by grind
/-- the answer of turn: the width after is the height before -/
theorem turn_hi {P : Py} (hS : Smal P) : pR (tnP P) - pL (tnP P) = pT P - pB P := by
  obtain ⟨⟨h1, h2⟩, h3, h4⟩ := ext_bd hS
  have e := i32_add (n := 200) (a := pL P) (b := pT P) (by omega) h1 h4
  have h7 := hS.1
  have key : ∀ m (f : Nat → Int32) (c : Int32), (∀ k, k ≤ m → (-200 ≤ (f k).toInt ∧ (f k).toInt ≤ 200)) → (-400 ≤ c.toInt ∧ c.toInt ≤ 400) → mxT (fun k => c - f k) m = c - mnT f m ∧ mnT (fun k => c - f k) m = c - mxT f m ∧ (-200 ≤ (mnT f m).toInt ∧ (mnT f m).toInt ≤ 200) ∧ (-200 ≤ (mxT f m).toInt ∧ (mxT f m).toInt ≤ 200) := by
    intro m f c
    induction m with
    | zero => intro h hc; exact ⟨rfl, rfl, h 0 (Nat.le_refl 0), h 0 (Nat.le_refl 0)⟩
    | succ m ih =>
      intro h hc
      obtain ⟨h1, h2, h3, h4⟩ := ih (fun k hk => h k (by omega)) hc
      have h5 := h (m + 1) (Nat.le_refl _)
      have a1 := i32_sub (n := 400) (a := c) (b := f (m + 1)) (by omega) hc (by omega)
      have a2 := i32_sub (n := 400) (a := c) (b := mnT f m) (by omega) hc (by omega)
      have a3 := i32_sub (n := 400) (a := c) (b := mxT f m) (by omega) hc (by omega)
      simp only [mxT, mnT]
      rw [h1, h2]
      have c1 : c - mnT f m < c - f (m + 1) ↔ f (m + 1) < mnT f m := by rw [i32_lt, i32_lt, a1, a2]; omega
      have c2 : c - f (m + 1) < c - mxT f m ↔ mxT f m < f (m + 1) := by rw [i32_lt, i32_lt, a1, a3]; omega
      simp only [c1, c2]
      by_cases q1 : f (m + 1) < mnT f m
      · rw [if_pos q1, if_pos q1]
        by_cases q2 : mxT f m < f (m + 1)
        · rw [if_pos q2, if_pos q2]; exact ⟨rfl, rfl, h5, h5⟩
        · rw [if_neg q2, if_neg q2]; exact ⟨rfl, rfl, h5, h4⟩
      · rw [if_neg q1, if_neg q1]
        by_cases q2 : mxT f m < f (m + 1)
        · rw [if_pos q2, if_pos q2]; exact ⟨rfl, rfl, h3, h5⟩
        · rw [if_neg q2, if_neg q2]; exact ⟨rfl, rfl, h3, h4⟩
  obtain ⟨k1, k2, _, _⟩ := key (P.1 - 1) P.2.2 (pL P + pT P) (fun k hk => (hS.2 k (by omega)).2) (by omega)
  show mxT (fun k => pL P + pT P - P.2.2 k) (P.1 - 1) - mnT (fun k => pL P + pT P - P.2.2 k) (P.1 - 1) = pT P - pB P
  rw [k1, k2]
  unfold pT pB
  grind
theorem by_in {P : Py} {w0 h0 w h : Int32} (hP : WfB P w0 h0) (hx : pR P ≤ w) (hy : pT P ≤ h) : pBeyond P w h = 0 := by
  have h3 := hP.1
  refine (beyond_iff (by omega)).mpr (fun k hk => ?_)
  have h1 := mxT_ge P.2.1 (P.1 - 1) k (by omega)
  have h2 := mxT_ge P.2.2 (P.1 - 1) k (by omega)
  have h5 := hP.2 k hk
  unfold pR at hx
  unfold pT at hy
  rw [i32_le] at h1 h2 hx hy
  omega
theorem by_outx {P : Py} {w0 h0 w h : Int32} (hP : WfB P w0 h0) (hx : w < pR P) : ¬ pBeyond P w h = 0 := by
  intro e
  have h3 := hP.1
  have h4 := (beyond_iff (by omega)).mp e
  obtain ⟨i, q1, q2⟩ := mxT_in P.2.1 (P.1 - 1)
  have h5 := h4 i (by omega)
  unfold pR at hx
  rw [q2, i32_lt] at hx
  omega
theorem by_outy {P : Py} {w0 h0 w h : Int32} (hP : WfB P w0 h0) (hy : ¬ pT P ≤ h) : ¬ pBeyond P w h = 0 := by
  intro e
  have h3 := hP.1
  have h4 := (beyond_iff (by omega)).mp e
  obtain ⟨i, q1, q2⟩ := mxT_in P.2.2 (P.1 - 1)
  have h5 := h4 i (by omega)
  unfold pT at hy
  rw [q2, i32_le] at hy
  omega
theorem fit_no {s : St} {w h : Int32} {k : Nat} (hk : k < s.1) (hb : ¬ pBeyond (s.2.2.2 k) w h = 0) (h1 : fitS s w h = true) : False := by
  unfold fitS at h1
  have h2 : anT (fun k => decide (¬ pBeyond (s.2.2.2 k) w h = 0)) s.1 = true := anT_true.mpr ⟨k, hk, decide_eq_true hb⟩
  rw [h2] at h1
  exact absurd h1 (by decide)
theorem setS_id {s : St} {k : Nat} : setS s k (s.2.2.2 k) = s := by
  unfold setS
  have : (fun j => if j = k then s.2.2.2 k else s.2.2.2 j) = s.2.2.2 := by
    funext j
    by_cases q : j = k
    · rw [if_pos q, q]
    · rw [if_neg q]
  rw [this]
theorem le_21 {w : Int32} (h : w ≤ nI 21) : w < 22 := by
  have e1 : (nI 21).toInt = 21 := by decide
  have e2 : (22 : Int32).toInt = 22 := by decide
  rw [i32_le, e1] at h
  rw [i32_lt, e2]
  omega
