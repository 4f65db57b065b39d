section WLMORE
variable {x : Cn} {G : Gw} {A : Nat → Prop} {nL cs sl f0 l0 : Nat} {Q : State → Prop} {M : Mem} {pc : Nat} {L : List (Nat × Value)} {st : List Value} {own : String} {cc : ByteArray} {Ts : List Cond}
/-- contracts that change nothing -/
def Cp (l : Launch) (G : Gw) (y : MethodName) (ws : List Cond) (fr lo : Nat) (av : List Value) (M : Mem) (v : Int32) : Prop := Ci l G y ws fr lo av M (fun r M' => r = v ∧ M' = M)
def Cq (l : Launch) (G : Gw) (y : MethodName) (ws : List Cond) (fr lo : Nat) (av : List Value) (M : Mem) (p : Int32 → Prop) : Prop := Ci l G y ws fr lo av M (fun r M' => p r ∧ M' = M)
def Ca (l : Launch) (G : Gw) (y : MethodName) (ws : List Cond) (fr lo : Nat) (av : List Value) (M : Mem) (i : Nat) : Prop := Cr l G y ws fr lo av M (fun r M' => r = i ∧ M' = M)
theorem wl_callVp (C : CX x G A own cc nL Ts f0 l0 cs sl) {y : MethodName} {bytes : ByteArray} {maxL index n fr lo i ci N : Nat} {ret : Option FieldType} {ws ws' : List Cond} {C0 : String} {T : u_T} {fs : List Value} {v : Int32} (As rest : List Value)
    (hM : Cp x.2.1 G y ws fr lo (.ref (G.2.2.1 i) :: As) M v) (hT : GoodIn Ts (wsV own index C0 y ws)) (hw : ws = Cond.code y bytes maxL ret :: ws') (hd0 : y.cls = C0 ∧ y.cls ≠ "java/lang/invoke/MethodHandle" ∧ y.cls ≠ "java/lang/invoke/VarHandle" ∧ (parseMethodDescriptor y.desc).map (fun d => d.parameters.length) = some n)
    (hR1 : fr + 1 ≤ f0) (hR2 : 8 + (maxL + 11) + lo ≤ l0) (hi : i < 232) (hc : cell G M i = .inr (ci, fs)) (hcl : vwCl[ci]? = some (C0, T, N)) (hn : As.length = n) (hst : st = As.reverse ++ .ref (G.2.2.1 i) :: rest) (hW : (rest.map fun v => v.category).sum ≤ 8) (hd : decode cc pc = .ok (.invokevirtual index, 3))
    (kk : WL x G A nL cs sl Q M (pc + 3) L (.int v :: rest)) : WL x G A nL cs sl Q M pc L st :=
  wl_callVi C As rest hM hT hw hd0 hR1 hR2 hi hc hcl hn hst hW hd (fun r M' h => by obtain ⟨h1, h2⟩ := h; rw [h1, h2]; exact kk)
theorem wl_callSp (C : CX x G A own cc nL Ts f0 l0 cs sl) {y : MethodName} {bytes : ByteArray} {maxL index n fr lo : Nat} {ret : Option FieldType} {ws ws' : List Cond} {v : Int32} (As rest : List Value)
    (hM : Cp x.2.1 G y ws fr lo As M v) (hT : GoodIn Ts (va_wsS own index y ws)) (hw : ws = Cond.code y bytes maxL ret :: ws') (hd0 : y.cls ≠ "java/lang/invoke/MethodHandle" ∧ y.cls ≠ "java/lang/invoke/VarHandle" ∧ (parseMethodDescriptor y.desc).map (fun d => d.parameters.length) = some n)
    (hR1 : fr + 1 ≤ f0) (hR2 : 8 + (maxL + 11) + lo ≤ l0) (hn : As.length = n) (hst : st = As.reverse ++ rest) (hW : (rest.map fun v => v.category).sum ≤ 8) (hd : decode cc pc = .ok (.invokestatic index, 3))
    (kk : WL x G A nL cs sl Q M (pc + 3) L (.int v :: rest)) : WL x G A nL cs sl Q M pc L st :=
  wl_callSi C As rest hM hT hw hd0 hR1 hR2 hn hst hW hd (fun r M' h => by obtain ⟨h1, h2⟩ := h; rw [h1, h2]; exact kk)
theorem wl_callNp (C : CX x G A own cc nL Ts f0 l0 cs sl) {y : MethodName} {bytes : ByteArray} {maxL index n fr lo : Nat} {ret : Option FieldType} {ws ws' : List Cond} {host : String} {v : Int32} (As rest : List Value)
    (hM : Cp x.2.1 G y ws fr lo As M v) (hT : GoodIn Ts ws) (hw : ws = Cond.code y bytes maxL ret :: ws') (hini : Cond.initialized y.cls ∈ Ts) (hsta : Cond.static y ∈ Ts) (hnw : NW (xS x) → va_Nw (.methodLinkNest own index y host) (xS x)) (hd0 : y.cls ≠ "java/lang/invoke/MethodHandle" ∧ y.cls ≠ "java/lang/invoke/VarHandle" ∧ (parseMethodDescriptor y.desc).map (fun d => d.parameters.length) = some n)
    (hR1 : fr + 1 ≤ f0) (hR2 : 8 + (maxL + 11) + lo ≤ l0) (hn : As.length = n) (hst : st = As.reverse ++ rest) (hW : (rest.map fun v => v.category).sum ≤ 8) (hd : decode cc pc = .ok (.invokestatic index, 3))
    (kk : WL x G A nL cs sl Q M (pc + 3) L (.int v :: rest)) : WL x G A nL cs sl Q M pc L st :=
  wl_callNi C As rest hM hT hw hini hsta hnw hd0 hR1 hR2 hn hst hW hd (fun r M' h => by obtain ⟨h1, h2⟩ := h; rw [h1, h2]; exact kk)
theorem wl_callVq (C : CX x G A own cc nL Ts f0 l0 cs sl) {y : MethodName} {bytes : ByteArray} {maxL index n fr lo i ci N : Nat} {ret : Option FieldType} {ws ws' : List Cond} {C0 : String} {T : u_T} {fs : List Value} {p : Int32 → Prop} (As rest : List Value)
    (hM : Cq x.2.1 G y ws fr lo (.ref (G.2.2.1 i) :: As) M p) (hT : GoodIn Ts (wsV own index C0 y ws)) (hw : ws = Cond.code y bytes maxL ret :: ws') (hd0 : y.cls = C0 ∧ y.cls ≠ "java/lang/invoke/MethodHandle" ∧ y.cls ≠ "java/lang/invoke/VarHandle" ∧ (parseMethodDescriptor y.desc).map (fun d => d.parameters.length) = some n)
    (hR1 : fr + 1 ≤ f0) (hR2 : 8 + (maxL + 11) + lo ≤ l0) (hi : i < 232) (hc : cell G M i = .inr (ci, fs)) (hcl : vwCl[ci]? = some (C0, T, N)) (hn : As.length = n) (hst : st = As.reverse ++ .ref (G.2.2.1 i) :: rest) (hW : (rest.map fun v => v.category).sum ≤ 8) (hd : decode cc pc = .ok (.invokevirtual index, 3))
    (kk : ∀ r : Int32, p r → WL x G A nL cs sl Q M (pc + 3) L (.int r :: rest)) : WL x G A nL cs sl Q M pc L st :=
  wl_callVi C As rest hM hT hw hd0 hR1 hR2 hi hc hcl hn hst hW hd (fun r M' h => by obtain ⟨h1, h2⟩ := h; rw [h2]; exact kk r h1)
theorem wl_callSq (C : CX x G A own cc nL Ts f0 l0 cs sl) {y : MethodName} {bytes : ByteArray} {maxL index n fr lo : Nat} {ret : Option FieldType} {ws ws' : List Cond} {p : Int32 → Prop} (As rest : List Value)
    (hM : Cq x.2.1 G y ws fr lo As M p) (hT : GoodIn Ts (va_wsS own index y ws)) (hw : ws = Cond.code y bytes maxL ret :: ws') (hd0 : y.cls ≠ "java/lang/invoke/MethodHandle" ∧ y.cls ≠ "java/lang/invoke/VarHandle" ∧ (parseMethodDescriptor y.desc).map (fun d => d.parameters.length) = some n)
    (hR1 : fr + 1 ≤ f0) (hR2 : 8 + (maxL + 11) + lo ≤ l0) (hn : As.length = n) (hst : st = As.reverse ++ rest) (hW : (rest.map fun v => v.category).sum ≤ 8) (hd : decode cc pc = .ok (.invokestatic index, 3))
    (kk : ∀ r : Int32, p r → WL x G A nL cs sl Q M (pc + 3) L (.int r :: rest)) : WL x G A nL cs sl Q M pc L st :=
  wl_callSi C As rest hM hT hw hd0 hR1 hR2 hn hst hW hd (fun r M' h => by obtain ⟨h1, h2⟩ := h; rw [h2]; exact kk r h1)
theorem wl_callNq (C : CX x G A own cc nL Ts f0 l0 cs sl) {y : MethodName} {bytes : ByteArray} {maxL index n fr lo : Nat} {ret : Option FieldType} {ws ws' : List Cond} {host : String} {p : Int32 → Prop} (As rest : List Value)
    (hM : Cq x.2.1 G y ws fr lo As M p) (hT : GoodIn Ts ws) (hw : ws = Cond.code y bytes maxL ret :: ws') (hini : Cond.initialized y.cls ∈ Ts) (hsta : Cond.static y ∈ Ts) (hnw : NW (xS x) → va_Nw (.methodLinkNest own index y host) (xS x)) (hd0 : y.cls ≠ "java/lang/invoke/MethodHandle" ∧ y.cls ≠ "java/lang/invoke/VarHandle" ∧ (parseMethodDescriptor y.desc).map (fun d => d.parameters.length) = some n)
    (hR1 : fr + 1 ≤ f0) (hR2 : 8 + (maxL + 11) + lo ≤ l0) (hn : As.length = n) (hst : st = As.reverse ++ rest) (hW : (rest.map fun v => v.category).sum ≤ 8) (hd : decode cc pc = .ok (.invokestatic index, 3))
    (kk : ∀ r : Int32, p r → WL x G A nL cs sl Q M (pc + 3) L (.int r :: rest)) : WL x G A nL cs sl Q M pc L st :=
  wl_callNi C As rest hM hT hw hini hsta hnw hd0 hR1 hR2 hn hst hW hd (fun r M' h => by obtain ⟨h1, h2⟩ := h; rw [h2]; exact kk r h1)
theorem wl_callVa (C : CX x G A own cc nL Ts f0 l0 cs sl) {y : MethodName} {bytes : ByteArray} {maxL index n fr lo i ci N : Nat} {ret : Option FieldType} {ws ws' : List Cond} {C0 : String} {T : u_T} {fs : List Value} {j : Nat} (As rest : List Value)
    (hM : Ca x.2.1 G y ws fr lo (.ref (G.2.2.1 i) :: As) M j) (hT : GoodIn Ts (wsV own index C0 y ws)) (hw : ws = Cond.code y bytes maxL ret :: ws') (hd0 : y.cls = C0 ∧ y.cls ≠ "java/lang/invoke/MethodHandle" ∧ y.cls ≠ "java/lang/invoke/VarHandle" ∧ (parseMethodDescriptor y.desc).map (fun d => d.parameters.length) = some n)
    (hR1 : fr + 1 ≤ f0) (hR2 : 8 + (maxL + 11) + lo ≤ l0) (hi : i < 232) (hc : cell G M i = .inr (ci, fs)) (hcl : vwCl[ci]? = some (C0, T, N)) (hn : As.length = n) (hst : st = As.reverse ++ .ref (G.2.2.1 i) :: rest) (hW : (rest.map fun v => v.category).sum ≤ 8) (hd : decode cc pc = .ok (.invokevirtual index, 3))
    (kk : WL x G A nL cs sl Q M (pc + 3) L (.ref (G.2.2.1 j) :: rest)) : WL x G A nL cs sl Q M pc L st :=
  wl_callVr C As rest hM hT hw hd0 hR1 hR2 hi hc hcl hn hst hW hd (fun r M' h => by obtain ⟨h1, h2⟩ := h; rw [h1, h2]; exact kk)
theorem wl_callSa (C : CX x G A own cc nL Ts f0 l0 cs sl) {y : MethodName} {bytes : ByteArray} {maxL index n fr lo : Nat} {ret : Option FieldType} {ws ws' : List Cond} {j : Nat} (As rest : List Value)
    (hM : Ca x.2.1 G y ws fr lo As M j) (hT : GoodIn Ts (va_wsS own index y ws)) (hw : ws = Cond.code y bytes maxL ret :: ws') (hd0 : y.cls ≠ "java/lang/invoke/MethodHandle" ∧ y.cls ≠ "java/lang/invoke/VarHandle" ∧ (parseMethodDescriptor y.desc).map (fun d => d.parameters.length) = some n)
    (hR1 : fr + 1 ≤ f0) (hR2 : 8 + (maxL + 11) + lo ≤ l0) (hn : As.length = n) (hst : st = As.reverse ++ rest) (hW : (rest.map fun v => v.category).sum ≤ 8) (hd : decode cc pc = .ok (.invokestatic index, 3))
    (kk : WL x G A nL cs sl Q M (pc + 3) L (.ref (G.2.2.1 j) :: rest)) : WL x G A nL cs sl Q M pc L st :=
  wl_callSr C As rest hM hT hw hd0 hR1 hR2 hn hst hW hd (fun r M' h => by obtain ⟨h1, h2⟩ := h; rw [h1, h2]; exact kk)
theorem wl_callNa (C : CX x G A own cc nL Ts f0 l0 cs sl) {y : MethodName} {bytes : ByteArray} {maxL index n fr lo : Nat} {ret : Option FieldType} {ws ws' : List Cond} {host : String} {j : Nat} (As rest : List Value)
    (hM : Ca x.2.1 G y ws fr lo As M j) (hT : GoodIn Ts ws) (hw : ws = Cond.code y bytes maxL ret :: ws') (hini : Cond.initialized y.cls ∈ Ts) (hsta : Cond.static y ∈ Ts) (hnw : NW (xS x) → va_Nw (.methodLinkNest own index y host) (xS x)) (hd0 : y.cls ≠ "java/lang/invoke/MethodHandle" ∧ y.cls ≠ "java/lang/invoke/VarHandle" ∧ (parseMethodDescriptor y.desc).map (fun d => d.parameters.length) = some n)
    (hR1 : fr + 1 ≤ f0) (hR2 : 8 + (maxL + 11) + lo ≤ l0) (hn : As.length = n) (hst : st = As.reverse ++ rest) (hW : (rest.map fun v => v.category).sum ≤ 8) (hd : decode cc pc = .ok (.invokestatic index, 3))
    (kk : WL x G A nL cs sl Q M (pc + 3) L (.ref (G.2.2.1 j) :: rest)) : WL x G A nL cs sl Q M pc L st :=
  wl_callNr C As rest hM hT hw hini hsta hnw hd0 hR1 hR2 hn hst hW hd (fun r M' h => by obtain ⟨h1, h2⟩ := h; rw [h1, h2]; exact kk)
theorem wl_icmp_eqN (C : CX x G A own cc nL Ts f0 l0 cs sl) {a b : Nat} (ha : a < 2 ^ 31) (hb : b < 2 ^ 31) {off : Int} (tgt : Nat) (hd : decode cc pc = .ok (.if_icmp .eq off, 3)) (ht : (pc : Int) + off = (tgt : Int)) (kt : a = b → WL x G A nL cs sl Q M tgt L st) (kf : ¬ a = b → WL x G A nL cs sl Q M (pc + 3) L st) : WL x G A nL cs sl Q M pc L (.int (nI b) :: .int (nI a) :: st) :=
  wl_icmp_eq C tgt hd ht (fun q => kt ((nI_eq ha hb).mp q)) (fun q => kf (fun z => q ((nI_eq ha hb).mpr z)))
theorem wl_icmp_neN (C : CX x G A own cc nL Ts f0 l0 cs sl) {a b : Nat} (ha : a < 2 ^ 31) (hb : b < 2 ^ 31) {off : Int} (tgt : Nat) (hd : decode cc pc = .ok (.if_icmp .ne off, 3)) (ht : (pc : Int) + off = (tgt : Int)) (kt : ¬ a = b → WL x G A nL cs sl Q M tgt L st) (kf : a = b → WL x G A nL cs sl Q M (pc + 3) L st) : WL x G A nL cs sl Q M pc L (.int (nI b) :: .int (nI a) :: st) :=
  wl_icmp_ne C tgt hd ht (fun q => kt (fun z => q ((nI_eq ha hb).mpr z))) (fun q => kf ((nI_eq ha hb).mp q))
theorem wl_icmp_ltN (C : CX x G A own cc nL Ts f0 l0 cs sl) {a b : Nat} (ha : a < 2 ^ 31) (hb : b < 2 ^ 31) {off : Int} (tgt : Nat) (hd : decode cc pc = .ok (.if_icmp .lt off, 3)) (ht : (pc : Int) + off = (tgt : Int)) (kt : a < b → WL x G A nL cs sl Q M tgt L st) (kf : ¬ a < b → WL x G A nL cs sl Q M (pc + 3) L st) : WL x G A nL cs sl Q M pc L (.int (nI b) :: .int (nI a) :: st) :=
  wl_icmp_lt C tgt hd ht (fun q => kt ((nI_ltI ha hb).mp q)) (fun q => kf (fun z => q ((nI_ltI ha hb).mpr z)))
theorem wl_icmp_geN (C : CX x G A own cc nL Ts f0 l0 cs sl) {a b : Nat} (ha : a < 2 ^ 31) (hb : b < 2 ^ 31) {off : Int} (tgt : Nat) (hd : decode cc pc = .ok (.if_icmp .ge off, 3)) (ht : (pc : Int) + off = (tgt : Int)) (kt : b ≤ a → WL x G A nL cs sl Q M tgt L st) (kf : ¬ b ≤ a → WL x G A nL cs sl Q M (pc + 3) L st) : WL x G A nL cs sl Q M pc L (.int (nI b) :: .int (nI a) :: st) :=
  wl_icmp_ge C tgt hd ht (fun q => kt ((nI_leI hb ha).mp q)) (fun q => kf (fun z => q ((nI_leI hb ha).mpr z)))
theorem wl_icmp_gtN (C : CX x G A own cc nL Ts f0 l0 cs sl) {a b : Nat} (ha : a < 2 ^ 31) (hb : b < 2 ^ 31) {off : Int} (tgt : Nat) (hd : decode cc pc = .ok (.if_icmp .gt off, 3)) (ht : (pc : Int) + off = (tgt : Int)) (kt : b < a → WL x G A nL cs sl Q M tgt L st) (kf : ¬ b < a → WL x G A nL cs sl Q M (pc + 3) L st) : WL x G A nL cs sl Q M pc L (.int (nI b) :: .int (nI a) :: st) :=
  wl_icmp_gt C tgt hd ht (fun q => kt ((nI_ltI hb ha).mp q)) (fun q => kf (fun z => q ((nI_ltI hb ha).mpr z)))
theorem wl_icmp_leN (C : CX x G A own cc nL Ts f0 l0 cs sl) {a b : Nat} (ha : a < 2 ^ 31) (hb : b < 2 ^ 31) {off : Int} (tgt : Nat) (hd : decode cc pc = .ok (.if_icmp .le off, 3)) (ht : (pc : Int) + off = (tgt : Int)) (kt : a ≤ b → WL x G A nL cs sl Q M tgt L st) (kf : ¬ a ≤ b → WL x G A nL cs sl Q M (pc + 3) L st) : WL x G A nL cs sl Q M pc L (.int (nI b) :: .int (nI a) :: st) :=
  wl_icmp_le C tgt hd ht (fun q => kt ((nI_leI ha hb).mp q)) (fun q => kf (fun z => q ((nI_leI ha hb).mpr z)))
theorem wl_eqi {a b : Int32} (h : a = b) (k : WL x G A nL cs sl Q M pc L (.int b :: st)) : WL x G A nL cs sl Q M pc L (.int a :: st) := by rw [h]; exact k
theorem wl_locs {L' : List (Nat × Value)} (h : L = L') (k : WL x G A nL cs sl Q M pc L' st) : WL x G A nL cs sl Q M pc L st := by rw [h]; exact k
theorem wl_iinc1 (C : CX x G A own cc nL Ts f0 l0 cs sl) {i k : Nat} {L' : List (Nat × Value)} (q : Nat) (hd : decode cc pc = .ok (.iinc i 1, 3)) (hq : L[q]? = some (i, .int (nI k))) (hn : i < nL) (hL : (i, Value.int (nI (k + 1))) :: L.filter (fun q => !(q.1 == i) && !(q.1 + 1 == i && q.2.category == 2)) = L') (kk : WL x G A nL cs sl Q M (pc + 3) L' st) : WL x G A nL cs sl Q M pc L st :=
  wl_iinc C q hd hq (nI_1 k) hn hL kk
end WLMORE
/-- a loop up to e: from the exit, and from the next turn -/
theorem up_loop (e : Nat) (P : Nat → Prop) (hs : ∀ k, k ≤ e → (k < e → P (k + 1)) → P k) : ∀ k, k ≤ e → P k := by
  intro k hk
  obtain ⟨d, hd⟩ : ∃ d, e = k + d := ⟨e - k, by omega⟩
  induction d generalizing k with
  | zero => exact hs k hk (fun h => absurd h (by omega))
  | succ d ih => exact hs k hk (fun h => ih (k + 1) (by omega) (by omega))
theorem nn (n : Nat) (h : n < 2 ^ 31) : n < 2 ^ 31 := h
section WLX
variable {x : Cn} {G : Gw} {A : Nat → Prop} {nL cs sl f0 l0 : Nat} {Q : State → Prop} {M : Mem} {pc : Nat} {L : List (Nat × Value)} {st : List Value} {own : String} {cc : ByteArray} {Ts : List Cond}
theorem wl_iushr (C : CX x G A own cc nL Ts f0 l0 cs sl) {a b v : Int32} (hd : decode cc pc = .ok (.iushr, 1)) (hv : (a.toUInt32 >>> (b.toUInt32 &&& Int32.toUInt32 31)).toInt32 = v) (k : WL x G A nL cs sl Q M (pc + 1) L (.int v :: st)) : WL x G A nL cs sl Q M pc L (.int b :: .int a :: st) := by
  obtain ⟨p, l, e, R, s, m, args, below, meth, c⟩ := x
  obtain ⟨hx, hb, hml, hown, hts, hK, hAp, hAu, hST, hlk, hNW, hRf, hRl, hcs, hsl⟩ := C
  intro ls H locs hl hP hS
  exact lv_iushr hx hb hd hv (k ls H locs hl hP hS)
theorem wl_ldcw (C : CX x G A own cc nL Ts f0 l0 cs sl) {index : Nat} {v : Int32} (hc : Jvm.Cond.constant own index v ∈ Ts) (hd : decode cc pc = .ok (.ldc_w index, 3)) (k : WL x G A nL cs sl Q M (pc + 3) L (.int v :: st)) : WL x G A nL cs sl Q M pc L st := by
  obtain ⟨p, l, e, R, s, m, args, below, meth, c⟩ := x
  obtain ⟨hx, hb, hml, hown, hts, hK, hAp, hAu, hST, hlk, hNW, hRf, hRl, hcs, hsl⟩ := C
  intro ls H locs hl hP hS
  exact lv_ldcw hx hb hown (hts _ hc) hd (k ls H locs hl hP hS)
end WLX
def bi (b : Bool) : Int32 := if b then 1 else 0
theorem bi_t {b : Bool} (h : b = true) : bi b = 1 := by rw [h]; rfl
theorem bi_f {b : Bool} (h : b = false) : bi b = 0 := by rw [h]; rfl
theorem bi_0 {b : Bool} : bi b = 0 ↔ b = false := by cases b <;> simp [bi]
theorem narrow_bi (b : Bool) : narrow .boolean (.int (bi b)) = .int (bi b) := by cases b <;> rfl
section WLBOOL
variable {x : Cn} {G : Gw} {A : Nat → Prop} {nL cs sl f0 l0 : Nat} {Q : State → Prop} {M : Mem} {pc : Nat} {L : List (Nat × Value)} {st : List Value} {own : String} {cc : ByteArray} {Ts : List Cond}
theorem wl_if_eqB (C : CX x G A own cc nL Ts f0 l0 cs sl) {b : Bool} {off : Int} (tgt : Nat) (hd : decode cc pc = .ok (.ifCond .eq off, 3)) (ht : (pc : Int) + off = (tgt : Int)) (kt : b = false → WL x G A nL cs sl Q M tgt L st) (kf : b = true → WL x G A nL cs sl Q M (pc + 3) L st) : WL x G A nL cs sl Q M pc L (.int (bi b) :: st) :=
  wl_if_eq C tgt hd ht (fun h => kt (bi_0.mp h)) (fun h => kf (by cases b; exact absurd rfl h; rfl))
theorem wl_if_neB (C : CX x G A own cc nL Ts f0 l0 cs sl) {b : Bool} {off : Int} (tgt : Nat) (hd : decode cc pc = .ok (.ifCond .ne off, 3)) (ht : (pc : Int) + off = (tgt : Int)) (kt : b = true → WL x G A nL cs sl Q M tgt L st) (kf : b = false → WL x G A nL cs sl Q M (pc + 3) L st) : WL x G A nL cs sl Q M pc L (.int (bi b) :: st) :=
  wl_if_ne C tgt hd ht (fun h => kt (by cases b; exact absurd rfl h; rfl)) (fun h => kf (bi_0.mp h))
end WLBOOL
/-- the k-th body of the packing p; its nobody is the 8th, its ghost the 9th -/
def bo (p k : Nat) : Nat := p + 2 + 3 * k
theorem kd_3 {p : Nat} (h : kd p = 3) : p < 224 ∧ p % 32 = 0 := by
  by_cases h1 : p < 224
  · refine ⟨h1, ?_⟩
    unfold kd at h; rw [if_pos h1] at h
    by_cases h2 : p % 32 = 0
    · exact h2
    · rw [if_neg h2] at h
      by_cases h3 : p % 32 = 1
      · rw [if_pos h3] at h; omega
      · rw [if_neg h3] at h
        by_cases h4 : (p % 32 - 2) % 3 = 0
        · rw [if_pos h4] at h; omega
        · rw [if_neg h4] at h; omega
  · exfalso
    have key : ∀ j, j < 13 → kd (224 + j) ≠ 3 := by decide
    have hl : p < 232 := kd_lt h (by decide)
    exact key (p - 224) (by omega) (by rw [show 224 + (p - 224) = p by omega]; exact h)
theorem kd_row {p : Nat} (h : kd p = 3) : kd (p + 1) = 7 := by
  obtain ⟨h1, h2⟩ := kd_3 h
  have : (p + 1) % 32 = 1 := by omega
  have : p + 1 < 224 := by omega
  simp [kd, *]
theorem kd_bo {p k : Nat} (h : kd p = 3) (hk : k < 10) : kd (bo p k) = 0 := by
  obtain ⟨h1, h2⟩ := kd_3 h
  have e : bo p k % 32 = 2 + 3 * k := by unfold bo; omega
  have : bo p k < 224 := by unfold bo; omega
  have h3 : ¬ (2 + 3 * k = 0) := by omega
  have h4 : ¬ (2 + 3 * k = 1) := by omega
  have h5 : (2 + 3 * k - 2) % 3 = 0 := by omega
  simp only [kd, e, this, if_true, h3, h4, h5, if_false]
theorem kd_0 {b : Nat} (h : kd b = 0) : (b < 224 ∧ 2 ≤ b % 32 ∧ (b % 32 - 2) % 3 = 0 ∧ b % 32 ≤ 29) ∨ b = 229 := by
  by_cases h1 : b < 224
  · left
    unfold kd at h; rw [if_pos h1] at h
    by_cases h2 : b % 32 = 0
    · rw [if_pos h2] at h; omega
    · rw [if_neg h2] at h
      by_cases h3 : b % 32 = 1
      · rw [if_pos h3] at h; omega
      · rw [if_neg h3] at h
        by_cases h4 : (b % 32 - 2) % 3 = 0
        · exact ⟨h1, by omega, h4, by omega⟩
        · rw [if_neg h4] at h; omega
  · right
    have key : ∀ j, j < 13 → kd (224 + j) = 0 → j = 5 := by decide
    have hl : b < 232 := kd_lt h (by decide)
    have := key (b - 224) (by omega) (by rw [show 224 + (b - 224) = b by omega]; exact h)
    omega
theorem kd_xs {b : Nat} (h : kd b = 0) : kd (b + 1) = 6 := by
  rcases kd_0 h with ⟨h1, h2, h3, h9⟩ | rfl
  · have e1 : b + 1 < 224 := by omega
    have e2 : ¬ (b + 1) % 32 = 0 := by omega
    have e3 : ¬ (b + 1) % 32 = 1 := by omega
    have e4 : ¬ ((b + 1) % 32 - 2) % 3 = 0 := by omega
    simp only [kd, e1, e2, e3, e4, if_true, if_false]
  · decide
theorem kd_ys {b : Nat} (h : kd b = 0) : kd (b + 2) = 6 := by
  rcases kd_0 h with ⟨h1, h2, h3, h9⟩ | rfl
  · have e1 : b + 2 < 224 := by omega
    have e2 : ¬ (b + 2) % 32 = 0 := by omega
    have e3 : ¬ (b + 2) % 32 = 1 := by omega
    have e4 : ¬ ((b + 2) % 32 - 2) % 3 = 0 := by omega
    simp only [kd, e1, e2, e3, e4, if_true, if_false]
  · decide
