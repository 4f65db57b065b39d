/-! CONSTRUCTORS: the walk over a list of cells that grows -/
def CK (x : Cn) (G : Gw) (A : Nat → Prop) (own : String) (cc : ByteArray) (nL : Nat) (Ts : List Cond) (f0 l0 c0 s0 : Nat) : Prop := match x with
  | (p, _, _, R, s, m, args, _, meth, c) => p.tables.exec = Jvm.exec ∧ c.code = cc ∧ c.maxLocals = nL ∧ s.vm.findClass own = some m.cls ∧ (∀ w ∈ Ts, w.before args s = true) ∧ va_K G.1 vwCl (tysL G) s ∧ (∀ q, s.heap.size ≤ q → A q) ∧ va_AO RX0 s ∧ va_AO RX3 s ∧ meth.locks = false ∧ f0 ≤ R.frames ∧ l0 ≤ R.locals ∧ c0 ≤ R.cells ∧ s0 ≤ R.slots
def xI (x : Cn) : Prop := match x with
  | (_, _, _, _, _, _, _, _, meth, _) => meth.name = "<init>"
def WK (x : Cn) (G : Gw) (A : Nat → Prop) (nL cs sl : Nat) (Q : State → Prop) (ws : va_W) (pc : Nat) (L : List (Nat × Value)) (st : List Value) : Prop :=
  ∀ (ls : Array Slot) (H : Heap) (locs : List Loc), lv_has ls nL L → va_P G.1 vwCl ws H → va_D A ws → va_S A (xS x).heap H locs → WW x cs sl Q H locs pc ls st
theorem wP_l {D : va_G} {cl : List vw_C} {w1 w2 : va_W} {H : Heap} (h : va_P D cl (w1 ++ w2) H) : va_P D cl w1 H := fun k q hk => h k q (by rw [List.getElem?_append_left (List.getElem?_eq_some_iff.mp hk).1]; exact hk)
theorem wP_r {D : va_G} {cl : List vw_C} {w1 w2 : va_W} {H : Heap} (h : va_P D cl (w1 ++ w2) H) : va_P D cl w2 H := fun k q hk => h (w1.length + k) q (by rw [List.getElem?_append_right (Nat.le_add_right _ _), Nat.add_sub_cancel_left]; exact hk)
theorem wD_l {A : Nat → Prop} {w1 w2 : va_W} (h : va_D A (w1 ++ w2)) : va_D A w1 :=
  ⟨fun i j p q hi hj e => h.1 i j p q (by rw [List.getElem?_append_left (List.getElem?_eq_some_iff.mp hi).1]; exact hi) (by rw [List.getElem?_append_left (List.getElem?_eq_some_iff.mp hj).1]; exact hj) e,
   fun k q hk => h.2 k q (by rw [List.getElem?_append_left (List.getElem?_eq_some_iff.mp hk).1]; exact hk)⟩
theorem wD_x {A : Nat → Prop} {w1 w2 : va_W} (h : va_D A (w1 ++ w2)) {i j : Nat} {p q : Nat × va_E} (hi : w1[i]? = some p) (hj : w2[j]? = some q) : p.1 ≠ q.1 := by
  intro e
  have hl := (List.getElem?_eq_some_iff.mp hi).1
  have := h.1 i (w1.length + j) p q (by rw [List.getElem?_append_left hl]; exact hi) (by rw [List.getElem?_append_right (Nat.le_add_right _ _), Nat.add_sub_cancel_left]; exact hj) e
  omega
/-- what a constructor may change: its own object, and what is new -/
def AH (h0 sz : Nat) : Nat → Prop := fun q => q = h0 ∨ sz ≤ q
abbrev Rk (fr lo mc ms : Nat) : Room := { frames := fr, cells := mc, slots := ms, locals := lo }
def WKs (G : Gw) (h0 ci : Nat) (fs : List Value) (sz : Nat) (U : State) : Prop := U.heap.size = sz ∧ h0 < sz ∧ va_P G.1 vwCl [(h0, .inr (ci, fs))] U.heap ∧ va_K G.1 vwCl (tysL G) U ∧ va_AO RX0 U ∧ va_AO RX3 U
/-- a constructor: at h0 lies the new object with its fields' first values; behind it the cells are W1 a, with a 0 the object's own address -/
def Ck (l : Launch) (G : Gw) (y : MethodName) (wy : List Cond) (fr lo mc ms ci : Nat) (fs : List Value) (W1 : (Nat → Nat) → va_W) : Prop :=
  ∀ h0 sz, Met l y wy (Rk fr lo mc ms) (va_Pc [.ref h0] (WKs G h0 ci fs sz)) (va_Qv (fun a : Nat → Nat => a 0 = h0) (fun a t => va_P G.1 vwCl (W1 a) t.heap ∧ va_D (AH h0 sz) (W1 a)) (AH h0 sz)) mc ms (AH h0 sz)
def kQ (x : Cn) (Qc : Array Value → State → Outcome → State → Prop) (mc ms : Nat) (free : Nat → Prop) : State → Prop := match x with
  | (_, _, _, _, s, _, args, below, _, _) => MQ below Qc args s mc ms free
def kE (x : Cn) (G : Gw) (h0 sz mc ms : Nat) (W1 : (Nat → Nat) → va_W) : State → Prop := kQ x (va_Qv (fun a : Nat → Nat => a 0 = h0) (fun a t => va_P G.1 vwCl (W1 a) t.heap ∧ va_D (AH h0 sz) (W1 a)) (AH h0 sz)) mc ms (AH h0 sz)
theorem Ck.of {l : Launch} {G : Gw} {y : MethodName} {ws ws' : List Cond} {fr lo mc ms ci maxL : Nat} {fs : List Value} {W1 : (Nat → Nat) → va_W} {cc : ByteArray} (hy : plainName y.cls = true) (hn : y.name = "<init>") (hw : ws = Cond.code y cc maxL none :: ws') (hL : 1 ≤ maxL)
    (h : ∀ (x : Cn) (h0 sz : Nat), x.2.1 = l → xRet x none → xI x → CK x G (AH h0 sz) y.cls cc maxL ws fr lo mc ms → WK x G (AH h0 sz) maxL 0 0 (kE x G h0 sz mc ms W1) [(h0, .inr (ci, fs))] 0 [(0, .ref h0)] []) : Ck l G y ws fr lo mc ms ci fs W1 := by
  intro h0 sz
  refine Met.ofW (cc := cc) (maxL := maxL) (ret := none) hy hw ?_
  intro p e s m args below meth c s₁ B hml hv
  obtain ⟨rfl, hsz, hlt, hP, hK, hO0, hO3⟩ := hv
  have hts := atoms_spec (ws := ws) B.pre
  have hown : s.vm.findClass y.cls = some m.cls := findClass_of_methodNamed B.named
  have hin : meth.name = "<init>" := ((name_of_methodNamed B.named B.method).1).trans hn
  have hAu : ∀ q, s.heap.size ≤ q → AH h0 sz q := fun q hq => Or.inr (by rw [← hsz]; exact hq)
  have hw1 := h (p, l, e, Rk fr lo mc ms, s, m, ([.ref h0] : List Value).toArray, below, meth, c) h0 sz rfl B.returns hin ⟨B.exec, B.bytes, hml, hown, hts, hK, hAu, hO0, hO3, B.notSynchronized, Nat.le_refl _, Nat.le_refl _, Nat.le_refl _, Nat.le_refl _⟩
  rw [lg_entry_eq]
  have hD : va_D (AH h0 sz) [(h0, .inr (ci, fs))] := by
    refine ⟨fun i j p q hi hj _ => ?_, fun k q hk => ?_⟩
    · have h1 := (List.getElem?_eq_some_iff.mp hi).1
      have h2 := (List.getElem?_eq_some_iff.mp hj).1
      simp at h1 h2
      omega
    · have h1 := (List.getElem?_eq_some_iff.mp hk).1
      have h2 : k = 0 := by simp at h1; omega
      subst h2
      cases hk
      exact Or.inl rfl
  exact hw1 _ s.heap [] (lv_entry [.ref h0] hL) hP hD va_S.rf
/-- an int array's class, and the like, is one -/
theorem tys_one {G : Gw} {U : State} {cA : ClassId} {ty : FieldType} (h : va_K G.1 vwCl (tysL G ++ [(cA, ty)]) U) (k : Nat) {c : ClassId} (hk : (tysL G)[k]? = some (c, ty)) : cA = c := by
  have h1 := (h.2 (tysL G).length (cA, ty) (by rw [List.getElem?_append_right (Nat.le_refl _), Nat.sub_self]; rfl)).2
  have h2 := (h.2 k (c, ty) (by rw [List.getElem?_append_left (List.getElem?_eq_some_iff.mp hk).1]; exact hk)).2
  cases ty with
  | object C =>
    obtain ⟨_, _, _, _, _, e1⟩ := h1
    obtain ⟨_, _, _, _, _, e2⟩ := h2
    exact Option.some.inj (e1.symm.trans e2)
  | _ => exact Option.some.inj (h1.symm.trans h2)
section WKROWS
variable {x : Cn} {G : Gw} {A : Nat → Prop} {nL cs sl f0 l0 c0 s0 : Nat} {Q : State → Prop} {ws : va_W} {pc : Nat} {L : List (Nat × Value)} {st : List Value} {own : String} {cc : ByteArray} {Ts : List Cond}
theorem wk_iconst (C : CK x G A own cc nL Ts f0 l0 c0 s0) {n : Int} {v : Int32} (hd : decode cc pc = .ok (.iconst n, 1)) (hv : Int32.ofInt n = v) (k : WK x G A nL cs sl Q ws (pc + 1) L (.int v :: st)) : WK x G A nL cs sl Q ws pc L st := by
  obtain ⟨p, l, e, R, s, m, args, below, meth, c⟩ := x
  obtain ⟨hx, hb, hml, hown, hts, hK, hAu, hO0, hO3, hlk, hRf, hRl, hRc, hRs⟩ := C
  intro ls H locs hl hP hD hS
  exact lv_iconst hx hb hd hv (k ls H locs hl hP hD hS)
theorem wk_bipush (C : CK x G A own cc nL Ts f0 l0 c0 s0) {n : Int} {v : Int32} (hd : decode cc pc = .ok (.bipush n, 2)) (hv : (Int8.ofInt n).toInt32 = v) (k : WK x G A nL cs sl Q ws (pc + 2) L (.int v :: st)) : WK x G A nL cs sl Q ws pc L st := by
  obtain ⟨p, l, e, R, s, m, args, below, meth, c⟩ := x
  obtain ⟨hx, hb, hml, hown, hts, hK, hAu, hO0, hO3, hlk, hRf, hRl, hRc, hRs⟩ := C
  intro ls H locs hl hP hD hS
  exact lv_bipush hx hb hd hv (k ls H locs hl hP hD hS)
theorem wk_sipush (C : CK x G A own cc nL Ts f0 l0 c0 s0) {n : Int} {v : Int32} (hd : decode cc pc = .ok (.sipush n, 3)) (hv : (Int16.ofInt n).toInt32 = v) (k : WK x G A nL cs sl Q ws (pc + 3) L (.int v :: st)) : WK x G A nL cs sl Q ws pc L st := by
  obtain ⟨p, l, e, R, s, m, args, below, meth, c⟩ := x
  obtain ⟨hx, hb, hml, hown, hts, hK, hAu, hO0, hO3, hlk, hRf, hRl, hRc, hRs⟩ := C
  intro ls H locs hl hP hD hS
  exact lv_sipush hx hb hd hv (k ls H locs hl hP hD hS)
theorem wk_iload_n (C : CK x G A own cc nL Ts f0 l0 c0 s0) {k : Fin 4} {i : Nat} {v : Int32} (q : Nat) (hd : decode cc pc = .ok (.iload_n k, 1)) (hi : (k : Nat) = i) (hq : L[q]? = some (i, .int v)) (k : WK x G A nL cs sl Q ws (pc + 1) L (.int v :: st)) : WK x G A nL cs sl Q ws pc L st := by
  obtain ⟨p, l, e, R, s, m, args, below, meth, c⟩ := x
  obtain ⟨hx, hb, hml, hown, hts, hK, hAu, hO0, hO3, hlk, hRf, hRl, hRc, hRs⟩ := C
  intro ls H locs hl hP hD hS
  exact lv_iload_n hx hb hd hi (lv_at hl q hq) (k ls H locs hl hP hD hS)
theorem wk_aload_n (C : CK x G A own cc nL Ts f0 l0 c0 s0) {k : Fin 4} {i : Nat} {v : Nat} (q : Nat) (hd : decode cc pc = .ok (.aload_n k, 1)) (hi : (k : Nat) = i) (hq : L[q]? = some (i, .ref v)) (k : WK x G A nL cs sl Q ws (pc + 1) L (.ref v :: st)) : WK x G A nL cs sl Q ws pc L st := by
  obtain ⟨p, l, e, R, s, m, args, below, meth, c⟩ := x
  obtain ⟨hx, hb, hml, hown, hts, hK, hAu, hO0, hO3, hlk, hRf, hRl, hRc, hRs⟩ := C
  intro ls H locs hl hP hD hS
  exact lv_aload_n hx hb hd hi (lv_at hl q hq) (k ls H locs hl hP hD hS)
theorem wk_istore_n (C : CK x G A own cc nL Ts f0 l0 c0 s0) {kf : Fin 4} {i : Nat} {v : Int32} {L' : List (Nat × Value)} (hd : decode cc pc = .ok (.istore_n kf, 1)) (hi : (kf : Nat) = i) (hn : i < nL) (hL : (i, Value.int v) :: L.filter (fun q => !(q.1 == i) && !(q.1 + 1 == i && q.2.category == 2)) = L') (k : WK x G A nL cs sl Q ws (pc + 1) L' st) : WK x G A nL cs sl Q ws pc L (.int v :: st) := by
  obtain ⟨p, l, e, R, s, m, args, below, meth, c⟩ := x
  obtain ⟨hx, hb, hml, hown, hts, hK, hAu, hO0, hO3, hlk, hRf, hRl, hRc, hRs⟩ := C
  intro ls H locs hl hP hD hS
  exact lv_istore_n hx hb hd hi hl hn hL (fun ls1 hl1 => k ls1 H locs hl1 hP hD hS)
theorem wk_astore_n (C : CK x G A own cc nL Ts f0 l0 c0 s0) {kf : Fin 4} {i : Nat} {v : Nat} {L' : List (Nat × Value)} (hd : decode cc pc = .ok (.astore_n kf, 1)) (hi : (kf : Nat) = i) (hn : i < nL) (hL : (i, Value.ref v) :: L.filter (fun q => !(q.1 == i) && !(q.1 + 1 == i && q.2.category == 2)) = L') (k : WK x G A nL cs sl Q ws (pc + 1) L' st) : WK x G A nL cs sl Q ws pc L (.ref v :: st) := by
  obtain ⟨p, l, e, R, s, m, args, below, meth, c⟩ := x
  obtain ⟨hx, hb, hml, hown, hts, hK, hAu, hO0, hO3, hlk, hRf, hRl, hRc, hRs⟩ := C
  intro ls H locs hl hP hD hS
  exact lv_astore_n hx hb hd hi hl hn hL (fun ls1 hl1 => k ls1 H locs hl1 hP hD hS)
theorem wk_iinc (C : CK x G A own cc nL Ts f0 l0 c0 s0) {i : Nat} {n : Int} {v w : Int32} {L' : List (Nat × Value)} (q : Nat) (hd : decode cc pc = .ok (.iinc i n, 3)) (hq : L[q]? = some (i, .int v)) (hv : v + Int32.ofInt n = w) (hn : i < nL) (hL : (i, Value.int w) :: L.filter (fun q => !(q.1 == i) && !(q.1 + 1 == i && q.2.category == 2)) = L') (k : WK x G A nL cs sl Q ws (pc + 3) L' st) : WK x G A nL cs sl Q ws pc L st := by
  obtain ⟨p, l, e, R, s, m, args, below, meth, c⟩ := x
  obtain ⟨hx, hb, hml, hown, hts, hK, hAu, hO0, hO3, hlk, hRf, hRl, hRc, hRs⟩ := C
  intro ls H locs hl hP hD hS
  exact lv_iinc hx hb hd hl hq hv hn hL (fun ls1 hl1 => k ls1 H locs hl1 hP hD hS)
theorem wk_dup (C : CK x G A own cc nL Ts f0 l0 c0 s0) {v : Value} (hd : decode cc pc = .ok (.dup, 1)) (hv : v.category = 1) (k : WK x G A nL cs sl Q ws (pc + 1) L (v :: v :: st)) : WK x G A nL cs sl Q ws pc L (v :: st) := by
  obtain ⟨p, l, e, R, s, m, args, below, meth, c⟩ := x
  obtain ⟨hx, hb, hml, hown, hts, hK, hAu, hO0, hO3, hlk, hRf, hRl, hRc, hRs⟩ := C
  intro ls H locs hl hP hD hS
  exact lv_dup hx hb hd hv (k ls H locs hl hP hD hS)
theorem wk_icmp_ge (C : CK x G A own cc nL Ts f0 l0 c0 s0) {a b : Int32} {off : Int} (tgt : Nat) (hd : decode cc pc = .ok (.if_icmp .ge off, 3)) (ht : (pc : Int) + off = (tgt : Int)) (kt : b ≤ a → WK x G A nL cs sl Q ws tgt L st) (kf : ¬ b ≤ a → WK x G A nL cs sl Q ws (pc + 3) L st) : WK x G A nL cs sl Q ws pc L (.int b :: .int a :: st) := by
  obtain ⟨p, l, e, R, s, m, args, below, meth, c⟩ := x
  obtain ⟨hx, hb, hml, hown, hts, hK, hAu, hO0, hO3, hlk, hRf, hRl, hRc, hRs⟩ := C
  intro ls H locs hl hP hD hS
  exact lv_icmp_ge hx hb hd ht (fun q => kt q ls H locs hl hP hD hS) (fun q => kf q ls H locs hl hP hD hS)
theorem wk_goto (C : CK x G A own cc nL Ts f0 l0 c0 s0) {off : Int} (tgt : Nat) (hd : decode cc pc = .ok (.goto off, 3)) (ht : (pc : Int) + off = (tgt : Int)) (k : WK x G A nL cs sl Q ws tgt L st) : WK x G A nL cs sl Q ws pc L st := by
  obtain ⟨p, l, e, R, s, m, args, below, meth, c⟩ := x
  obtain ⟨hx, hb, hml, hown, hts, hK, hAu, hO0, hO3, hlk, hRf, hRl, hRc, hRs⟩ := C
  intro ls H locs hl hP hD hS
  exact lv_goto hx hb hd ht (k ls H locs hl hP hD hS)
theorem wk_sub {L' : List (Nat × Value)} (ks : List Nat) (h : lv_pick L ks = L') (k : WK x G A nL cs sl Q ws pc L' st) : WK x G A nL cs sl Q ws pc L st := fun ls H locs hl hP hD hS => k ls H locs (lv_sub hl ks h) hP hD hS
theorem wk_ws {ws' : va_W} (h : ws = ws') (k : WK x G A nL cs sl Q ws' pc L st) : WK x G A nL cs sl Q ws pc L st := by rw [h]; exact k
theorem wk_widen {cs' sl' : Nat} (h1 : cs ≤ cs') (h2 : sl ≤ sl') (k : WK x G A nL cs' sl' Q ws pc L st) : WK x G A nL cs sl Q ws pc L st := by
  obtain ⟨p, l, e, R, s, m, args, below, meth, c⟩ := x
  intro ls H locs hl hP hD hS
  exact W.widen h1 h2 (k ls H locs hl hP hD hS)
theorem wk_obj (C : CK x G A own cc nL Ts f0 l0 c0 s0) {index a : Nat} (h1 : Jvm.Cond.methodLink own index objectInit ∈ Ts) (h2 : Jvm.Cond.instanceMethod objectInit ∈ Ts) (h3 : Jvm.Cond.code objectInit ⟨#[0xb1]⟩ 1 none ∈ Ts) (hf : 1 ≤ f0) (hlo : 12 ≤ l0) (hd : decode cc pc = .ok (.invokespecial index, 3)) (k : WK x G A nL cs sl Q ws (pc + 3) L []) : WK x G A nL cs sl Q ws pc L [.ref a] := by
  obtain ⟨p, l, e, R, s, m, args, below, meth, c⟩ := x
  obtain ⟨hx, hb, hml, hown, hts, hK, hAu, hO0, hO3, hlk, hRf, hRl, hRc, hRs⟩ := C
  intro ls H locs hl hP hD hS
  refine W.objInit hx hb hown (hts _ h1) (hts _ h2) (hts _ h3) rfl (by rw [hml]; exact hl.1) rfl hd (Nat.le_trans hf hRf) (Nat.le_trans hlo hRl) ?_
  exact W.eq (g2 := F0 m (pc + 3) ls []) rfl (k ls H locs hl hP hD hS)
theorem wk_newI (C : CK x G A own cc nL Ts f0 l0 c0 s0) {a : Int32} {n : Nat} (h1 : Jvm.Cond.arrayClass .int ∈ Ts) (ha : a = nI n) (hn : n ≤ 1000) (hc : cs + 1 ≤ c0) (hs : sl + n ≤ s0) (hd : decode cc pc = .ok (.newarray .int, 2)) (k : ∀ q : Nat, WK x G A nL (cs + 1) (sl + n) Q (ws ++ [(q, .inl (G.2.1 0, n, .inl (fun _ => 0)))]) (pc + 2) L (.ref q :: st)) : WK x G A nL cs sl Q ws pc L (.int a :: st) := by
  obtain ⟨p, l, e, R, s, m, args, below, meth, c⟩ := x
  obtain ⟨hx, hb, hml, hown, hts, hK, hAu, hO0, hO3, hlk, hRf, hRl, hRc, hRs⟩ := C
  intro ls H locs hl hP hD hS
  subst ha
  refine va_newa (atype := .int) (ty := .int) (N' := n) (a0 := (n, .inl (fun _ => 0))) hx hb (hts _ h1) rfl hK hP hD hS hAu (fun _ => rfl) (nI_pos (by omega)) (nI_clamp (by omega)) (Nat.le_trans (Nat.mul_le_mul_right _ hn) (Nat.le_of_ble_eq_true rfl)) (Nat.le_trans hc hRc) (Nat.le_trans hs hRs) hd ?_
  intro q cA H1 hK1 hP1 hD1 hS1
  have e1 := tys_one hK1 0 rfl
  subst e1
  exact k q ls H1 locs hl hP1 hD1 hS1
theorem wk_newC (C : CK x G A own cc nL Ts f0 l0 c0 s0) {a : Int32} {n : Nat} (h1 : Jvm.Cond.arrayClass .char ∈ Ts) (ha : a = nI n) (hn : n ≤ 1000) (hc : cs + 1 ≤ c0) (hs : sl + n ≤ s0) (hd : decode cc pc = .ok (.newarray .char, 2)) (k : ∀ q : Nat, WK x G A nL (cs + 1) (sl + n) Q (ws ++ [(q, .inl (G.2.1 1, n, .inl (fun _ => 0)))]) (pc + 2) L (.ref q :: st)) : WK x G A nL cs sl Q ws pc L (.int a :: st) := by
  obtain ⟨p, l, e, R, s, m, args, below, meth, c⟩ := x
  obtain ⟨hx, hb, hml, hown, hts, hK, hAu, hO0, hO3, hlk, hRf, hRl, hRc, hRs⟩ := C
  intro ls H locs hl hP hD hS
  subst ha
  refine va_newa (atype := .char) (ty := .char) (N' := n) (a0 := (n, .inl (fun _ => 0))) hx hb (hts _ h1) rfl hK hP hD hS hAu (fun _ => rfl) (nI_pos (by omega)) (nI_clamp (by omega)) (Nat.le_trans (Nat.mul_le_mul_right _ hn) (Nat.le_of_ble_eq_true rfl)) (Nat.le_trans hc hRc) (Nat.le_trans hs hRs) hd ?_
  intro q cA H1 hK1 hP1 hD1 hS1
  have e1 := tys_one hK1 1 rfl
  subst e1
  exact k q ls H1 locs hl hP1 hD1 hS1
theorem wk_newB (C : CK x G A own cc nL Ts f0 l0 c0 s0) {a : Int32} {n index : Nat} (h1 : Jvm.Cond.classLink own index RX0 ∈ Ts) (ha : a = nI n) (hn : n ≤ 1000) (hc : cs + 1 ≤ c0) (hs : sl + n ≤ s0) (hd : decode cc pc = .ok (.anewarray index, 3)) (k : ∀ q : Nat, WK x G A nL (cs + 1) (sl + n) Q (ws ++ [(q, .inl (G.2.1 2, n, .inr (.inr (.inr (.inr (fun _ => none))))))]) (pc + 3) L (.ref q :: st)) : WK x G A nL cs sl Q ws pc L (.int a :: st) := by
  obtain ⟨p, l, e, R, s, m, args, below, meth, c⟩ := x
  obtain ⟨hx, hb, hml, hown, hts, hK, hAu, hO0, hO3, hlk, hRf, hRl, hRc, hRs⟩ := C
  intro ls H locs hl hP hD hS
  subst ha
  refine va_newq (C := RX0) (N' := n) hx hb hown (hts _ h1) hO0 hK hP hD hS hAu (nI_pos (by omega)) (nI_clamp (by omega)) (Nat.le_trans (Nat.mul_le_mul_right _ hn) (Nat.le_of_ble_eq_true rfl)) (Nat.le_trans hc hRc) (Nat.le_trans hs hRs) hd ?_
  intro q cA H1 hK1 hP1 hD1 hS1
  have e1 := tys_one hK1 2 rfl
  subst e1
  exact k q ls H1 locs hl hP1 hD1 hS1
theorem wk_newP (C : CK x G A own cc nL Ts f0 l0 c0 s0) {a : Int32} {n index : Nat} (h1 : Jvm.Cond.classLink own index RX3 ∈ Ts) (ha : a = nI n) (hn : n ≤ 1000) (hc : cs + 1 ≤ c0) (hs : sl + n ≤ s0) (hd : decode cc pc = .ok (.anewarray index, 3)) (k : ∀ q : Nat, WK x G A nL (cs + 1) (sl + n) Q (ws ++ [(q, .inl (G.2.1 3, n, .inr (.inr (.inr (.inr (fun _ => none))))))]) (pc + 3) L (.ref q :: st)) : WK x G A nL cs sl Q ws pc L (.int a :: st) := by
  obtain ⟨p, l, e, R, s, m, args, below, meth, c⟩ := x
  obtain ⟨hx, hb, hml, hown, hts, hK, hAu, hO0, hO3, hlk, hRf, hRl, hRc, hRs⟩ := C
  intro ls H locs hl hP hD hS
  subst ha
  refine va_newq (C := RX3) (N' := n) hx hb hown (hts _ h1) hO3 hK hP hD hS hAu (nI_pos (by omega)) (nI_clamp (by omega)) (Nat.le_trans (Nat.mul_le_mul_right _ hn) (Nat.le_of_ble_eq_true rfl)) (Nat.le_trans hc hRc) (Nat.le_trans hs hRs) hd ?_
  intro q cA H1 hK1 hP1 hD1 hS1
  have e1 := tys_one hK1 3 rfl
  subst e1
  exact k q ls H1 locs hl hP1 hD1 hS1
theorem wk_new (C : CK x G A own cc nL Ts f0 l0 c0 s0) {index N : Nat} {C0 : String} {T : u_T} (ci : Nat) (ty : Nat → FieldType) (fs : List Value) (hin : ∀ w ∈ u_ws C0 T N, w ∈ Ts) (hty : ∀ k, k < N → parseFieldDescriptor (T k).2.2.1 = some (ty k)) (hcl : Jvm.Cond.classLink own index C0 ∈ Ts) (hinst : Jvm.Cond.instantiable C0 N ∈ Ts) (hini : Jvm.Cond.initialized C0 ∈ Ts) (hc : vwCl[ci]? = some (C0, T, N)) (hfs : ∀ j, j < N → defaultValue (ty j) = vp_V fs j) (h1 : cs + 1 ≤ c0) (h2 : sl + N ≤ s0) (hd : decode cc pc = .ok (.new index, 3)) (k : ∀ q : Nat, WK x G A nL (cs + 1) (sl + N) Q (ws ++ [(q, .inr (ci, fs))]) (pc + 3) L (.ref q :: st)) : WK x G A nL cs sl Q ws pc L st := by
  obtain ⟨p, l, e, R, s, m, args, below, meth, c⟩ := x
  obtain ⟨hx, hb, hml, hown, hts, hK, hAu, hO0, hO3, hlk, hRf, hRl, hRc, hRs⟩ := C
  intro ls H locs hl hP hD hS
  refine va_new (ci := ci) (fs := fs) (C := C0) (T := T) (N := N) hx hb hts hin ty hty hown (hts _ hcl) (hts _ hinst) (hts _ hini) hK hP hD hS hAu hc hfs (Nat.le_trans h1 hRc) (Nat.le_trans h2 hRs) hd ?_
  intro q H1 hP1 hD1 hS1
  exact k q ls H1 locs hl hP1 hD1 hS1
theorem wk_putF (C : CK x G A own cc nL Ts f0 l0 c0 s0) (hi : xI x) {index N a : Nat} {C0 : String} {T : u_T} {fs : List Value} {v : Value} {ty : FieldType} {ws' : va_W} (q0 ci k : Nat) (ty0 : Nat → FieldType) (hin : ∀ w ∈ u_ws C0 T N, w ∈ Ts) (hty : ∀ k, k < N → parseFieldDescriptor (T k).2.2.1 = some (ty0 k)) (hnm : ∀ a, a < N → ∀ b, b < N → a ≠ b → (T a).2.1 ≠ (T b).2.1) (he : ws[q0]? = some (a, .inr (ci, fs))) (hc : vwCl[ci]? = some (C0, T, N)) (hk : k < N) (hlink : Jvm.Cond.fieldLink own index (T k).1 (T k).2.1 (T k).2.2.1 ∈ Ts) (hfin : (T k).2.2.2 = true) (hdecl : (T k).1 = own) (hpd : parseFieldDescriptor (T k).2.2.1 = some ty) (hn : narrow ty v = v) (hfit : fits ty v = true) (hl0 : k < fs.length) (hws : ws.set q0 (a, .inr (ci, fs.set k v)) = ws') (hd : decode cc pc = .ok (.putfield index, 3)) (kk : WK x G A nL cs sl Q ws' (pc + 3) L st) : WK x G A nL cs sl Q ws pc L (v :: .ref a :: st) := by
  obtain ⟨p, l, e, R, s, m, args, below, meth, c⟩ := x
  obtain ⟨hx, hb, hml, hown, hts, hK, hAu, hO0, hO3, hlk, hRf, hRl, hRc, hRs⟩ := C
  intro ls H locs hl hP hD hS
  subst hws
  exact va_putF hx hb hts hin ty0 hty hnm hown hK hP hD hS q0 he hc k hk (hts _ hlink) (fun _ h9 => h9) hfin hi hdecl hpd hn hfit hl0 hd (fun H1 locs1 hP1 hD1 hS1 => kk ls H1 locs1 hl hP1 hD1 hS1)
theorem wk_put (C : CK x G A own cc nL Ts f0 l0 c0 s0) {index N a : Nat} {C0 : String} {T : u_T} {fs : List Value} {v : Value} {ty : FieldType} {ws' : va_W} (q0 ci k : Nat) (ty0 : Nat → FieldType) (hin : ∀ w ∈ u_ws C0 T N, w ∈ Ts) (hty : ∀ k, k < N → parseFieldDescriptor (T k).2.2.1 = some (ty0 k)) (hnm : ∀ a, a < N → ∀ b, b < N → a ≠ b → (T a).2.1 ≠ (T b).2.1) (he : ws[q0]? = some (a, .inr (ci, fs))) (hc : vwCl[ci]? = some (C0, T, N)) (hk : k < N) (hlink : Jvm.Cond.fieldLink own index (T k).1 (T k).2.1 (T k).2.2.1 ∈ Ts) (hfin : (T k).2.2.2 = false) (hpd : parseFieldDescriptor (T k).2.2.1 = some ty) (hn : narrow ty v = v) (hfit : fits ty v = true) (hl0 : k < fs.length) (hws : ws.set q0 (a, .inr (ci, fs.set k v)) = ws') (hd : decode cc pc = .ok (.putfield index, 3)) (kk : WK x G A nL cs sl Q ws' (pc + 3) L st) : WK x G A nL cs sl Q ws pc L (v :: .ref a :: st) := by
  obtain ⟨p, l, e, R, s, m, args, below, meth, c⟩ := x
  obtain ⟨hx, hb, hml, hown, hts, hK, hAu, hO0, hO3, hlk, hRf, hRl, hRc, hRs⟩ := C
  intro ls H locs hl hP hD hS
  subst hws
  exact va_put hx hb hts hin ty0 hty hnm hown hK hP hD hS q0 he hc k hk (hts _ hlink) (fun _ h9 => h9) hfin hpd hn hfit hl0 hd (fun H1 locs1 hP1 hD1 hS1 => kk ls H1 locs1 hl hP1 hD1 hS1)
theorem wk_get (C : CK x G A own cc nL Ts f0 l0 c0 s0) {index N a : Nat} {C0 : String} {T : u_T} {fs : List Value} {v : Value} (q0 ci k : Nat) (hin : ∀ w ∈ u_ws C0 T N, w ∈ Ts) (he : ws[q0]? = some (a, .inr (ci, fs))) (hc : vwCl[ci]? = some (C0, T, N)) (hk : k < N) (hlink : Jvm.Cond.fieldLink own index (T k).1 (T k).2.1 (T k).2.2.1 ∈ Ts) (hv : fs[k]? = some v) (hd : decode cc pc = .ok (.getfield index, 3)) (kk : WK x G A nL cs sl Q ws (pc + 3) L (v :: st)) : WK x G A nL cs sl Q ws pc L (.ref a :: st) := by
  obtain ⟨p, l, e, R, s, m, args, below, meth, c⟩ := x
  obtain ⟨hx, hb, hml, hown, hts, hK, hAu, hO0, hO3, hlk, hRf, hRl, hRc, hRs⟩ := C
  intro ls H locs hl hP hD hS
  exact va_get hx hb hts hin hown hK hP q0 he hc k hk (hts _ hlink) (fun _ h9 => h9) hv hd (kk ls H locs hl hP hD hS)
theorem wk_alen (C : CK x G A own cc nL Ts f0 l0 c0 s0) {a n : Nat} {cA : ClassId} {y : (Nat → Int32) ⊕ (Nat → Int64) ⊕ (Nat → UInt32) ⊕ (Nat → UInt64) ⊕ (Nat → Option Nat)} {ty : FieldType} (q0 t0 : Nat) (he : ws[q0]? = some (a, .inl (cA, n, y))) (ht : (tysL G)[t0]? = some (cA, ty)) (hd : decode cc pc = .ok (.arraylength, 1)) (kk : WK x G A nL cs sl Q ws (pc + 1) L (.int (nI n) :: st)) : WK x G A nL cs sl Q ws pc L (.ref a :: st) := by
  obtain ⟨p, l, e, R, s, m, args, below, meth, c⟩ := x
  obtain ⟨hx, hb, hml, hown, hts, hK, hAu, hO0, hO3, hlk, hRf, hRl, hRc, hRs⟩ := C
  intro ls H locs hl hP hD hS
  exact va_alen hx hb hK hP q0 t0 he ht rfl hd (kk ls H locs hl hP hD hS)
theorem wk_aast (C : CK x G A own cc nL Ts f0 l0 c0 s0) {a n v j : Nat} {cA : ClassId} {r : vw_C} {vs : List Value} {f : Nat → Option Nat} {ws' : va_W} (q0 t0 qk ci : Nat) (he : ws[q0]? = some (a, .inl (cA, n, .inr (.inr (.inr (.inr f)))))) (ht : (tysL G)[t0]? = some (cA, .object r.1)) (hv : ws[qk]? = some (v, .inr (ci, vs))) (hc : vwCl[ci]? = some r) (hj : j < n) (hn : n < 2 ^ 31) (hws : ws.set q0 (a, .inl (cA, n, .inr (.inr (.inr (.inr (va_up f j (some v))))))) = ws') (hd : decode cc pc = .ok (.aastore, 1)) (kk : WK x G A nL cs sl Q ws' (pc + 1) L st) : WK x G A nL cs sl Q ws pc L (.ref v :: .int (nI j) :: .ref a :: st) := by
  obtain ⟨p, l, e, R, s, m, args, below, meth, c⟩ := x
  obtain ⟨hx, hb, hml, hown, hts, hK, hAu, hO0, hO3, hlk, hRf, hRl, hRc, hRs⟩ := C
  intro ls H locs hl hP hD hS
  subst hws
  refine va_astq hx hb hK hP hD hS q0 t0 qk ci he ht hv hc (vp_in_nI hj hn) hd (fun H1 locs1 hP1 hD1 hS1 => ?_)
  rw [nI_clamp (by omega)] at hP1 hD1
  exact kk ls H1 locs1 hl hP1 hD1 hS1
theorem wk_iast (C : CK x G A own cc nL Ts f0 l0 c0 s0) {a n j : Nat} {f : Nat → Int32} {z : Int32} {ws' : va_W} (q0 : Nat) (he : ws[q0]? = some (a, .inl (G.2.1 0, n, .inl f))) (hj : j < n) (hn : n < 2 ^ 31) (hws : ws.set q0 (a, .inl (G.2.1 0, n, .inl (upd f j z))) = ws') (hd : decode cc pc = .ok (.iastore, 1)) (kk : WK x G A nL cs sl Q ws' (pc + 1) L st) : WK x G A nL cs sl Q ws pc L (.int z :: .int (nI j) :: .ref a :: st) := by
  obtain ⟨p, l, e, R, s, m, args, below, meth, c⟩ := x
  obtain ⟨hx, hb, hml, hown, hts, hK, hAu, hO0, hO3, hlk, hRf, hRl, hRc, hRs⟩ := C
  intro ls H locs hl hP hD hS
  subst hws
  refine va_iast hx hb hK hP hD hS q0 0 he rfl (vp_in_nI hj hn) hd (fun H1 locs1 hP1 hD1 hS1 => ?_)
  rw [nI_clamp (by omega)] at hP1 hD1
  exact kk ls H1 locs1 hl hP1 hD1 hS1
theorem wk_call (C : CK x G A own cc nL Ts f0 l0 c0 s0) {y : MethodName} {bytes : ByteArray} {maxL index fr lo mc ms ci q : Nat} {fs : List Value} {W0 : va_W} {W1 : (Nat → Nat) → va_W} {wy ws' : List Cond} (rest : List Value) (hM : Ck x.2.1 G y wy fr lo mc ms ci fs W1) (hT : GoodIn Ts wy) (hw : wy = Cond.code y bytes maxL none :: ws') (hini : Jvm.Cond.initialized y.cls ∈ Ts) (hlk0 : Jvm.Cond.methodLink own index y ∈ Ts) (hin : Jvm.Cond.instanceMethod y ∈ Ts) (hy : y.name = "<init>") (hd0 : y.cls ≠ "java/lang/invoke/MethodHandle" ∧ y.cls ≠ "java/lang/invoke/VarHandle" ∧ (parseMethodDescriptor y.desc).map (fun d => d.parameters.length) = some 0)
    (hR1 : fr + 1 ≤ f0) (hR2 : 8 + (maxL + 11) + lo ≤ l0) (hc : cs + mc ≤ c0) (hs : sl + ms ≤ s0) (hW : (rest.map fun v => v.category).sum ≤ 8) (hd : decode cc pc = .ok (.invokespecial index, 3))
    (kk : ∀ a : Nat → Nat, a 0 = q → WK x G A nL (cs + mc) (sl + ms) Q (W0 ++ W1 a) (pc + 3) L rest) : WK x G A nL cs sl Q (W0 ++ [(q, .inr (ci, fs))]) pc L (.ref q :: rest) := by
  obtain ⟨p, l, e, R, s, m, args, below, meth, c⟩ := x
  obtain ⟨hx, hb, hml, hown, hts, hK, hAu, hO0, hO3, hlk, hRf, hRl, hRc, hRs⟩ := C
  intro ls H locs hl hP hD hS
  have hPq := wP_r hP
  have hq0 : (W0 ++ [(q, .inr (ci, fs))])[W0.length]? = some (q, .inr (ci, fs)) := by rw [List.getElem?_append_right (Nat.le_refl _), Nat.sub_self]; rfl
  have hqA : A q := hD.2 _ _ hq0
  have hqlt : q < H.size := (hP _ _ hq0).lt
  have hF : ∀ z, AH q H.size z → A z := fun z hz => by
    rcases hz with h | h
    · rw [h]; exact hqA
    · exact hAu z (Nat.le_trans hS.1 h)
  refine va_callv (va_runI (As := []) (rest := rest) ⟨hx, hb, hml, hown, hts⟩ (hM q H.size) (cwI 0 hts hT hw rfl rfl (hts _ hini) (hts _ hlk0) (hts _ hin) hy hd0 ⟨Nat.le_trans hR1 hRf, Nat.le_trans hR2 hRl⟩) ⟨fun a U g mk z => by obtain ⟨q0, q1, q2, qP, qK, qO0, qO3⟩ := z; exact ⟨q0, q1, q2, qP, va_K.moved (u := U) (U := U.calling g mk a) (Vm.Alike.refl U.vm) qK, qO0.moved (u := U) (U := U.calling g mk a) (Vm.Alike.refl U.vm), qO3.moved (u := U) (U := U.calling g mk a) (Vm.Alike.refl U.vm)⟩, fun U hU hW1 => ⟨rfl, by rw [hU], hqlt, by rw [hU]; exact hPq, va_K.moved hW1.alike hK, hO0.moved hW1.alike, hO3.moved hW1.alike⟩⟩ rfl rfl hl.1 rfl (lv_room hW) hd ⟨Nat.le_trans hc hRc, Nat.le_trans hs hRs⟩) hS (fun z _ h => hF z h) hF (fun a t H1 locs1 ht hvm hw1 hB hz1 hk1 hS1 => ?_)
  obtain ⟨hP1, hD1⟩ := hB
  rw [ht] at hP1
  have hPl := wP_l hP
  have apart : ∀ (k : Nat) (z : Nat × va_E), W0[k]? = some z → z.1 < H.size ∧ ¬ AH q H.size z.1 := by
    intro k z hz
    have hlt := (hPl k z hz).lt
    refine ⟨hlt, fun h => ?_⟩
    rcases h with h | h
    · exact wD_x hD hz (j := 0) rfl h
    · omega
  refine kk a hw1 ls H1 locs1 hl (va_P.app (fun k z hz => (hPl k z hz).kept (hk1 _ (apart k z hz).1 (apart k z hz).2)) hP1) (va_D.app (wD_l hD) (hD1.weaken (fun _ z _ h => hF z.1 h)) (fun i j p1 q1 hi hj e => ?_)) hS1
  exact (apart i p1 hi).2 (by rw [e]; exact hD1.2 j q1 hj)
end WKROWS
theorem wk_ret {x : Cn} {G : Gw} {h0 sz nL cs sl f0 l0 mc ms : Nat} {pc : Nat} {L : List (Nat × Value)} {own : String} {cc : ByteArray} {Ts : List Cond} {W1 : (Nat → Nat) → va_W} (C : CK x G (AH h0 sz) own cc nL Ts f0 l0 mc ms) (hr : xRet x none) (a : Nat → Nat) (ha : a 0 = h0) (hc : cs ≤ mc) (hs : sl ≤ ms) (hd : decode cc pc = .ok (.return_, 1)) : WK x G (AH h0 sz) nL cs sl (kE x G h0 sz mc ms W1) (W1 a) pc L [] := by
  obtain ⟨p, l, e, R, s, m, args, below, meth, c⟩ := x
  obtain ⟨hx, hb, hml, hown, hts, hK, hAu, hO0, hO3, hlk, hRf, hRl, hRc, hRs⟩ := C
  intro ls H locs hl hP hD hS
  refine W.widen hc hs ?_
  exact W.vret hx hb hr (fun t ht hW => ⟨⟨a, rfl, ha, by rw [ht]; exact hP, hD⟩, hS.F ht⟩) hS.2.2 hd hlk
