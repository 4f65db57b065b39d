/-! THE MACHINE LAYER: one pool of 232 cells (ids 0..231), a memory of ints by id and slot, and a walk judgement WL over it. -/
abbrev Mem : Type := Nat → Nat → Int32
/-- the classes' numbers, the array classes, the addresses of the ids, the two static tables -/
abbrev Gw : Type := va_G × (Nat → ClassId) × (Nat → Nat) × Nat × Nat
def kd (i : Nat) : Nat :=
  if i < 224 then (if i % 32 = 0 then 3 else if i % 32 = 1 then 7 else if (i % 32 - 2) % 3 = 0 then 0 else 6)
  else if i = 224 then 4 else if i = 225 then 2 else if i = 226 then 8 else if i = 227 then 1 else if i = 228 then 9 else if i = 229 then 0
  else if i = 230 then 6 else if i = 231 then 6 else 13
def cellK (dA : Nat → ClassId) (ad : Nat → Nat) (f : Nat → Int32) (i : Nat) : Nat → va_E
  | 0 => .inr (0, [.ref (ad (i + 1)), .ref (ad (i + 2)), .int (f 2)])
  | 1 => .inr (1, [.ref (ad 228), .int (f 1), .ref (ad 229), .int (f 3), .int (f 4), .int (f 5), .int (f 6)])
  | 2 => .inr (2, [.ref (ad 226), .ref (ad 192), .int (f 2), .int (f 3)])
  | 3 => .inr (3, [.ref (ad (i + 1)), .ref (ad (i + 26)), .ref (ad (i + 29)), .int (f 3), .int (f 4), .int (f 5)])
  | 4 => .inr (4, [.ref (ad 0), .ref (ad 32), .ref (ad 225), .ref (ad 227)])
  | 6 => .inl (dA 0, 6, .inl f)
  | 7 => .inl (dA 2, 8, .inr (.inr (.inr (.inr (fun k => some (ad (i + 1 + 3 * k)))))))
  | 8 => .inl (dA 3, 4, .inr (.inr (.inr (.inr (fun k => some (ad (64 + 32 * k)))))))
  | 9 => .inl (dA 1, 60, .inl f)
  | _ => .inl (dA 0, 0, .inl f)
def cell (G : Gw) (M : Mem) (i : Nat) : va_E := cellK G.2.1 G.2.2.1 (M i) i (kd i)
def wd (G : Gw) (M : Mem) : va_W := (List.range 232).map (fun i => (G.2.2.1 i, cell G M i))
def mset (M : Mem) (i k : Nat) (v : Int32) : Mem := fun a j => if a = i ∧ j = k then v else M a j
theorem wd_at {G : Gw} {M : Mem} {i : Nat} (h : i < 232) : (wd G M)[i]? = some (G.2.2.1 i, cell G M i) := by
  simp [wd, h]
theorem cell_k {G : Gw} {M : Mem} {i k : Nat} (h : kd i = k) : cell G M i = cellK G.2.1 G.2.2.1 (M i) i k := by
  unfold cell; rw [h]
theorem wd_set {G : Gw} {M M' : Mem} {i : Nat} {e : va_E} (h : i < 232) (he : cell G M' i = e) (hM : ∀ j, j ≠ i → M' j = M j) : (wd G M).set i (G.2.2.1 i, e) = wd G M' := by
  apply List.ext_getElem?
  intro j
  by_cases hj : j = i
  · subst hj
    rw [List.getElem?_set_self (by simp [wd, h]), wd_at h, he]
  · rw [List.getElem?_set_ne (fun q => hj q.symm)]
    by_cases h2 : j < 232
    · rw [wd_at h2, wd_at h2]
      unfold cell
      rw [hM j hj]
    · rw [List.getElem?_eq_none (by simp [wd]; omega), List.getElem?_eq_none (by simp [wd]; omega)]
theorem mset_off {M : Mem} {i k : Nat} {v : Int32} : ∀ j, j ≠ i → mset M i k v j = M j := by
  intro j hj
  funext a
  simp [mset, hj]
theorem mset_self (M : Mem) (i k : Nat) (v : Int32) : mset M i k v i k = v := by simp [mset]
theorem mset_ne {M : Mem} {i k a j : Nat} {v : Int32} (h : ¬ (a = i ∧ j = k)) : mset M i k v a j = M a j := by simp [mset, h]
theorem mset_upd (M : Mem) (i k : Nat) (v : Int32) : mset M i k v i = upd (M i) k v := by
  funext j
  by_cases h : j = k <;> simp [mset, upd, h]
/-- the addresses are apart, and of a kind -/
def Ap (A : Nat → Prop) (ad : Nat → Nat) : Prop := (∀ i j, i < 232 → j < 232 → ad i = ad j → i = j) ∧ ∀ i, i < 232 → A (ad i)
theorem Ap.D {A : Nat → Prop} {G : Gw} (h : Ap A G.2.2.1) (M : Mem) : va_D A (wd G M) := by
  have key : ∀ (k : Nat) (q : Nat × va_E), (wd G M)[k]? = some q → k < 232 ∧ q.1 = G.2.2.1 k := by
    intro k q hk
    have hl : k < 232 := by
      have := (List.getElem?_eq_some_iff.mp hk).1
      simpa [wd] using this
    rw [wd_at hl] at hk
    cases hk
    exact ⟨hl, rfl⟩
  refine ⟨fun i j p q hi hj hpq => ?_, fun k q hk => ?_⟩
  · obtain ⟨h1, e1⟩ := key i p hi
    obtain ⟨h2, e2⟩ := key j q hj
    exact h.1 i j h1 h2 (by rw [← e1, ← e2]; exact hpq)
  · obtain ⟨h1, e1⟩ := key k q hk
    rw [e1]
    exact h.2 k h1
theorem Ap.of {A : Nat → Prop} {G : Gw} {M : Mem} (h : va_D A (wd G M)) : Ap A G.2.2.1 :=
  ⟨fun i j hi hj e => h.1 i j _ _ (wd_at hi) (wd_at hj) e, fun i hi => h.2 i _ (wd_at hi)⟩
/-- what a method may change: the pool, and what is new -/
def AA (G : Gw) (sz : Nat) : Nat → Prop := fun q => (∃ i, i < 232 ∧ q = G.2.2.1 i) ∨ sz ≤ q
theorem Ap.self {A : Nat → Prop} {G : Gw} (h : Ap A G.2.2.1) (sz : Nat) : Ap (AA G sz) G.2.2.1 := ⟨h.1, fun i hi => Or.inl ⟨i, hi, rfl⟩⟩
/-- the two static tables of steps -/
def stX (j : Nat) : Int32 := match j with | 0 => 1 | 1 => 1 | 2 => 0 | 3 => -1 | 4 => -1 | 5 => -1 | 6 => 0 | _ => 1
def stY (j : Nat) : Int32 := match j with | 0 => 0 | 1 => 1 | 2 => 1 | 3 => 1 | 4 => 0 | 5 => -1 | 6 => -1 | _ => -1
def ST (G : Gw) (A : Nat → Prop) (U : State) (H : Heap) : Prop :=
  va_Z "JammedBodies" "STEP_X" "[I" (.ref G.2.2.2.1) A U H ∧ va_T .int G.2.2.2.1 8 (fun j => .int (stX j)) A U H ∧
  va_Z "JammedBodies" "STEP_Y" "[I" (.ref G.2.2.2.2) A U H ∧ va_T .int G.2.2.2.2 8 (fun j => .int (stY j)) A U H
theorem ST.go {G : Gw} {A B : Nat → Prop} {u U : State} {H H1 : Heap} (h : ST G A u H) (hvm : u.vm.Alike U.vm) (hq : ∀ a : Nat, a < H.size → ¬ A a → H1[a]? = H[a]?) (hAB : ∀ q, B q → A q) : ST G B U H1 :=
  ⟨((h.1.moved hvm).kept hq).narrow hAB, ((h.2.1.moved hvm).kept hq).narrow hAB, ((h.2.2.1.moved hvm).kept hq).narrow hAB, ((h.2.2.2.moved hvm).kept hq).narrow hAB⟩
abbrev tysL (G : Gw) : List (ClassId × FieldType) := [(G.2.1 0, .int), (G.2.1 1, .char), (G.2.1 2, .object "JammedBodies$Body"), (G.2.1 3, .object "JammedBodies$Packing")]
/-- the links of private members of nest mates -/
def NW (U : State) : Prop :=
  va_Nw (.methodLinkNest RX0 59 yX4_cross "JammedBodies") U ∧ va_Nw (.methodLinkNest RX1 66 yX4_lowest "JammedBodies") U ∧ va_Nw (.methodLinkNest RX3 68 yX4_lowest "JammedBodies") U ∧ va_Nw (.methodLinkNest RX3 71 yX4_stepX "JammedBodies") U ∧ va_Nw (.methodLinkNest RX3 74 yX4_stepY "JammedBodies") U
theorem NW.warm {s U : State} (hW : s.WarmedH U.vm) (h : NW s) : NW U :=
  ⟨h.1.warmM hW, h.2.1.warmM hW, h.2.2.1.warmM hW, h.2.2.2.1.warmM hW, h.2.2.2.2.warmM hW⟩
theorem NW.same {s U : State} (hv : s.vm = U.vm) (h : NW s) : NW U :=
  ⟨h.1.same rfl hv, h.2.1.same rfl hv, h.2.2.1.same rfl hv, h.2.2.2.1.same rfl hv, h.2.2.2.2.same rfl hv⟩
/-- a method's start -/
def WB (G : Gw) (M : Mem) (sz : Nat) (U : State) : Prop :=
  U.heap.size = sz ∧ va_P G.1 vwCl (wd G M) U.heap ∧ va_K G.1 vwCl (tysL G) U ∧ va_D (fun _ => True) (wd G M) ∧ ST G (AA G sz) U U.heap ∧ NW U
def WE (G : Gw) (M : Mem) (t : State) : Prop := va_P G.1 vwCl (wd G M) t.heap
abbrev Rm (fr lo : Nat) : Room := { frames := fr, cells := 0, slots := 0, locals := lo }
/-- contracts: an int (or boolean, char) is answered; nothing; a cell of the pool -/
def Ci (l : Launch) (G : Gw) (y : MethodName) (ws : List Cond) (fr lo : Nat) (av : List Value) (M : Mem) (post : Int32 → Mem → Prop) : Prop :=
  ∀ sz, Met l y ws (Rm fr lo) (va_Pc av (WB G M sz)) (va_Qi post (WE G) (AA G sz)) 0 0 (AA G sz)
def Cv (l : Launch) (G : Gw) (y : MethodName) (ws : List Cond) (fr lo : Nat) (av : List Value) (M : Mem) (post : Mem → Prop) : Prop :=
  ∀ sz, Met l y ws (Rm fr lo) (va_Pc av (WB G M sz)) (va_Qv post (WE G) (AA G sz)) 0 0 (AA G sz)
def Cr (l : Launch) (G : Gw) (y : MethodName) (ws : List Cond) (fr lo : Nat) (av : List Value) (M : Mem) (post : Nat → Mem → Prop) : Prop :=
  ∀ sz, Met l y ws (Rm fr lo) (va_Pc av (WB G M sz)) (va_Qr (fun u : Nat × Mem => post u.1 u.2) (fun u a t => a = G.2.2.1 u.1 ∧ WE G u.2 t) (AA G sz)) 0 0 (AA G sz)
/-! the walk -/
abbrev Cn : Type := Program × Launch × Env × Room × State × MethodId × Array Value × List Frame × Method × Code
def CX (x : Cn) (G : Gw) (A : Nat → Prop) (own : String) (cc : ByteArray) (nL : Nat) (Ts : List Cond) (f0 l0 cs sl : Nat) : Prop := match x with
  | (p, _, _, R, s, m, args, _, meth, c) => p.tables.exec = Jvm.exec ∧ c.code = cc ∧ c.maxLocals = nL ∧ s.vm.findClass own = some m.cls ∧ (∀ w ∈ Ts, w.before args s = true) ∧ va_K G.1 vwCl (tysL G) s ∧ Ap A G.2.2.1 ∧ (∀ q, s.heap.size ≤ q → A q) ∧ ST G A s s.heap ∧ meth.locks = false ∧ NW s ∧ f0 ≤ R.frames ∧ l0 ≤ R.locals ∧ cs ≤ R.cells ∧ sl ≤ R.slots
def WW (x : Cn) (cs sl : Nat) (Q : State → Prop) (H : Heap) (locs : List Loc) (pc : Nat) (ls : Array Slot) (st : List Value) : Prop := match x with
  | (p, l, e, R, s, m, args, below, meth, c) => W p l e R s m args below meth c H locs cs sl Q (F0 m pc ls st)
def xS (x : Cn) : State := x.2.2.2.2.1
def WL (x : Cn) (G : Gw) (A : Nat → Prop) (nL cs sl : Nat) (Q : State → Prop) (M : Mem) (pc : Nat) (L : List (Nat × Value)) (st : List Value) : Prop :=
  ∀ (ls : Array Slot) (H : Heap) (locs : List Loc), lv_has ls nL L → va_P G.1 vwCl (wd G M) H → va_S A (xS x).heap H locs → WW x cs sl Q H locs pc ls st
