/-- what a call asks of the start of its callee, from the caller's own world -/
theorem WB_of {G : Gw} {A : Nat → Prop} {s : State} {M : Mem} {H : Heap} {locs : List Loc} (hK : va_K G.1 vwCl (tysL G) s) (hAp : Ap A G.2.2.1) (hAu : ∀ q, s.heap.size ≤ q → A q) (hST : ST G A s s.heap) (hNW : NW s) (hP : va_P G.1 vwCl (wd G M) H) (hS : va_S A s.heap H locs) :
    ∀ U : State, U.heap = H → s.WarmedH U.vm → WB G M H.size U := by
  intro U hU hW
  refine ⟨by rw [hU], by rw [hU]; exact hP, va_K.moved hW.alike hK, (hAp.D M).weaken (fun _ _ _ _ => trivial), ?_, hNW.warm hW⟩
  rw [hU]
  refine hST.go hW.alike (fun a h1 h2 => hS.2.1 a h1 h2) (fun q hq => ?_)
  rcases hq with ⟨i, hi, rfl⟩ | h
  · exact hAp.2 i hi
  · exact hAu q (Nat.le_trans hS.1 h)
theorem WB_blind {G : Gw} {M : Mem} {sz : Nat} {av : List Value} : FrameBlind (va_Pc av (WB G M sz)) := by
  intro a U g mk q
  obtain ⟨q0, q1, qP, qK, qD, qS, qN⟩ := q
  exact ⟨q0, q1, qP, va_K.moved (u := U) (U := U.calling g mk a) (Vm.Alike.refl U.vm) qK, qD, qS.go (u := U) (U := U.calling g mk a) (Vm.Alike.refl U.vm) (fun _ _ _ => rfl) (fun _ h => h), qN.same (s := U) (U := U.calling g mk a) rfl⟩
theorem AA_in {G : Gw} {A : Nat → Prop} {s : State} {H : Heap} {locs : List Loc} (hAp : Ap A G.2.2.1) (hAu : ∀ q, s.heap.size ≤ q → A q) (hS : va_S A s.heap H locs) : ∀ q, AA G H.size q → A q := by
  intro q hq
  rcases hq with ⟨i, hi, rfl⟩ | h
  · exact hAp.2 i hi
  · exact hAu q (Nat.le_trans hS.1 h)
section WLCALLS
variable {x : Cn} {G : Gw} {A : Nat → Prop} {nL cs sl f0 l0 : Nat} {Q : State → Prop} {M : Mem} {pc : Nat} {L : List (Nat × Value)} {st : List Value} {own : String} {cc : ByteArray} {Ts : List Cond}
theorem wl_callVi (C : CX x G A own cc nL Ts f0 l0 cs sl) {y : MethodName} {bytes : ByteArray} {maxL index n fr lo i ci N : Nat} {ret : Option FieldType} {ws ws' : List Cond} {C0 : String} {T : u_T} {fs : List Value} {post : Int32 → Mem → Prop} (As rest : List Value)
    (hM : Ci x.2.1 G y ws fr lo (.ref (G.2.2.1 i) :: As) M post) (hT : GoodIn Ts (wsV own index C0 y ws)) (hw : ws = Cond.code y bytes maxL ret :: ws') (hd0 : y.cls = C0 ∧ y.cls ≠ "java/lang/invoke/MethodHandle" ∧ y.cls ≠ "java/lang/invoke/VarHandle" ∧ (parseMethodDescriptor y.desc).map (fun d => d.parameters.length) = some n)
    (hR1 : fr + 1 ≤ f0) (hR2 : 8 + (maxL + 11) + lo ≤ l0) (hi : i < 232) (hc : cell G M i = .inr (ci, fs)) (hcl : vwCl[ci]? = some (C0, T, N)) (hn : As.length = n) (hst : st = As.reverse ++ .ref (G.2.2.1 i) :: rest) (hW : (rest.map fun v => v.category).sum ≤ 8) (hd : decode cc pc = .ok (.invokevirtual index, 3))
    (kk : ∀ (r : Int32) (M' : Mem), post r M' → WL x G A nL cs sl Q M' (pc + 3) L (.int r :: rest)) : WL x G A nL cs sl Q M pc L st := by
  obtain ⟨p, l, e, R, s, m, args, below, meth, c⟩ := x
  obtain ⟨hx, hb, hml, hown, hts, hK, hAp, hAu, hST, hlk, hNW, hRf, hRl, hcs, hsl⟩ := C
  intro ls H locs hl hP hS
  subst hst
  refine va_calli (va_runV (As := As) (rest := rest) ⟨hx, hb, hml, hown, hts⟩ (hM H.size) (cwV n hts hT hw rfl rfl hd0 ⟨Nat.le_trans hR1 hRf, Nat.le_trans hR2 hRl⟩) ⟨WB_blind, va_recv hK hP hcl ((wd_at hi).trans (by rw [hc])), fun U hU hW1 => ⟨rfl, WB_of hK hAp hAu hST hNW hP hS U hU hW1⟩⟩ rfl hn hl.1 rfl (lv_room hW) hd ⟨hcs, hsl⟩) hS (fun q _ h => AA_in hAp hAu hS q h) (AA_in hAp hAu hS) (fun r u t H1 locs1 ht hvm hw hB hz1 hk1 hS1 => kk r u hw ls H1 locs1 hl (ht ▸ hB) hS1)
theorem wl_callSi (C : CX x G A own cc nL Ts f0 l0 cs sl) {y : MethodName} {bytes : ByteArray} {maxL index n fr lo : Nat} {ret : Option FieldType} {ws ws' : List Cond} {post : Int32 → Mem → Prop} (As rest : List Value)
    (hM : Ci x.2.1 G y ws fr lo As M post) (hT : GoodIn Ts (va_wsS own index y ws)) (hw : ws = Cond.code y bytes maxL ret :: ws') (hd0 : y.cls ≠ "java/lang/invoke/MethodHandle" ∧ y.cls ≠ "java/lang/invoke/VarHandle" ∧ (parseMethodDescriptor y.desc).map (fun d => d.parameters.length) = some n)
    (hR1 : fr + 1 ≤ f0) (hR2 : 8 + (maxL + 11) + lo ≤ l0) (hn : As.length = n) (hst : st = As.reverse ++ rest) (hW : (rest.map fun v => v.category).sum ≤ 8) (hd : decode cc pc = .ok (.invokestatic index, 3))
    (kk : ∀ (r : Int32) (M' : Mem), post r M' → WL x G A nL cs sl Q M' (pc + 3) L (.int r :: rest)) : WL x G A nL cs sl Q M pc L st := by
  obtain ⟨p, l, e, R, s, m, args, below, meth, c⟩ := x
  obtain ⟨hx, hb, hml, hown, hts, hK, hAp, hAu, hST, hlk, hNW, hRf, hRl, hcs, hsl⟩ := C
  intro ls H locs hl hP hS
  subst hst
  refine va_calli (va_runS (As := As) (rest := rest) ⟨hx, hb, hml, hown, hts⟩ (hM H.size) (va_cwS n hts hT hw rfl rfl hd0 ⟨Nat.le_trans hR1 hRf, Nat.le_trans hR2 hRl⟩) ⟨WB_blind, fun U hU hW1 => ⟨rfl, WB_of hK hAp hAu hST hNW hP hS U hU hW1⟩⟩ rfl hn hl.1 rfl (lv_room hW) hd ⟨hcs, hsl⟩) hS (fun q _ h => AA_in hAp hAu hS q h) (AA_in hAp hAu hS) (fun r u t H1 locs1 ht hvm hw hB hz1 hk1 hS1 => kk r u hw ls H1 locs1 hl (ht ▸ hB) hS1)
theorem wl_callNi (C : CX x G A own cc nL Ts f0 l0 cs sl) {y : MethodName} {bytes : ByteArray} {maxL index n fr lo : Nat} {ret : Option FieldType} {ws ws' : List Cond} {host : String} {post : Int32 → Mem → Prop} (As rest : List Value)
    (hM : Ci x.2.1 G y ws fr lo As M post) (hT : GoodIn Ts ws) (hw : ws = Cond.code y bytes maxL ret :: ws') (hini : Cond.initialized y.cls ∈ Ts) (hsta : Cond.static y ∈ Ts) (hnw : NW (xS x) → va_Nw (.methodLinkNest own index y host) (xS x)) (hd0 : y.cls ≠ "java/lang/invoke/MethodHandle" ∧ y.cls ≠ "java/lang/invoke/VarHandle" ∧ (parseMethodDescriptor y.desc).map (fun d => d.parameters.length) = some n)
    (hR1 : fr + 1 ≤ f0) (hR2 : 8 + (maxL + 11) + lo ≤ l0) (hn : As.length = n) (hst : st = As.reverse ++ rest) (hW : (rest.map fun v => v.category).sum ≤ 8) (hd : decode cc pc = .ok (.invokestatic index, 3))
    (kk : ∀ (r : Int32) (M' : Mem), post r M' → WL x G A nL cs sl Q M' (pc + 3) L (.int r :: rest)) : WL x G A nL cs sl Q M pc L st := by
  obtain ⟨p, l, e, R, s, m, args, below, meth, c⟩ := x
  obtain ⟨hx, hb, hml, hown, hts, hK, hAp, hAu, hST, hlk, hNW, hRf, hRl, hcs, hsl⟩ := C
  intro ls H locs hl hP hS
  subst hst
  refine va_calli (va_runSN (As := As) (rest := rest) ⟨hx, hb, hml, hown, hts⟩ (hM H.size) ⟨va_cnB n hts hT hw rfl rfl (hnw hNW) (hts _ hini) hd0 ⟨Nat.le_trans hR1 hRf, Nat.le_trans hR2 hRl⟩, hts _ hsta, trivial⟩ ⟨WB_blind, fun U hU hW1 => ⟨rfl, WB_of hK hAp hAu hST hNW hP hS U hU hW1⟩⟩ rfl hn hl.1 rfl (lv_room hW) hd ⟨hcs, hsl⟩) hS (fun q _ h => AA_in hAp hAu hS q h) (AA_in hAp hAu hS) (fun r u t H1 locs1 ht hvm hw hB hz1 hk1 hS1 => kk r u hw ls H1 locs1 hl (ht ▸ hB) hS1)
theorem wl_callVv (C : CX x G A own cc nL Ts f0 l0 cs sl) {y : MethodName} {bytes : ByteArray} {maxL index n fr lo i ci N : Nat} {ret : Option FieldType} {ws ws' : List Cond} {C0 : String} {T : u_T} {fs : List Value} {post : Mem → Prop} (As rest : List Value)
    (hM : Cv x.2.1 G y ws fr lo (.ref (G.2.2.1 i) :: As) M post) (hT : GoodIn Ts (wsV own index C0 y ws)) (hw : ws = Cond.code y bytes maxL ret :: ws') (hd0 : y.cls = C0 ∧ y.cls ≠ "java/lang/invoke/MethodHandle" ∧ y.cls ≠ "java/lang/invoke/VarHandle" ∧ (parseMethodDescriptor y.desc).map (fun d => d.parameters.length) = some n)
    (hR1 : fr + 1 ≤ f0) (hR2 : 8 + (maxL + 11) + lo ≤ l0) (hi : i < 232) (hc : cell G M i = .inr (ci, fs)) (hcl : vwCl[ci]? = some (C0, T, N)) (hn : As.length = n) (hst : st = As.reverse ++ .ref (G.2.2.1 i) :: rest) (hW : (rest.map fun v => v.category).sum ≤ 8) (hd : decode cc pc = .ok (.invokevirtual index, 3))
    (kk : ∀ (M' : Mem), post M' → WL x G A nL cs sl Q M' (pc + 3) L rest) : WL x G A nL cs sl Q M pc L st := by
  obtain ⟨p, l, e, R, s, m, args, below, meth, c⟩ := x
  obtain ⟨hx, hb, hml, hown, hts, hK, hAp, hAu, hST, hlk, hNW, hRf, hRl, hcs, hsl⟩ := C
  intro ls H locs hl hP hS
  subst hst
  refine va_callv (va_runV (As := As) (rest := rest) ⟨hx, hb, hml, hown, hts⟩ (hM H.size) (cwV n hts hT hw rfl rfl hd0 ⟨Nat.le_trans hR1 hRf, Nat.le_trans hR2 hRl⟩) ⟨WB_blind, va_recv hK hP hcl ((wd_at hi).trans (by rw [hc])), fun U hU hW1 => ⟨rfl, WB_of hK hAp hAu hST hNW hP hS U hU hW1⟩⟩ rfl hn hl.1 rfl (lv_room hW) hd ⟨hcs, hsl⟩) hS (fun q _ h => AA_in hAp hAu hS q h) (AA_in hAp hAu hS) (fun u t H1 locs1 ht hvm hw hB hz1 hk1 hS1 => kk u hw ls H1 locs1 hl (ht ▸ hB) hS1)
theorem wl_callSv (C : CX x G A own cc nL Ts f0 l0 cs sl) {y : MethodName} {bytes : ByteArray} {maxL index n fr lo : Nat} {ret : Option FieldType} {ws ws' : List Cond} {post : Mem → Prop} (As rest : List Value)
    (hM : Cv x.2.1 G y ws fr lo As M post) (hT : GoodIn Ts (va_wsS own index y ws)) (hw : ws = Cond.code y bytes maxL ret :: ws') (hd0 : y.cls ≠ "java/lang/invoke/MethodHandle" ∧ y.cls ≠ "java/lang/invoke/VarHandle" ∧ (parseMethodDescriptor y.desc).map (fun d => d.parameters.length) = some n)
    (hR1 : fr + 1 ≤ f0) (hR2 : 8 + (maxL + 11) + lo ≤ l0) (hn : As.length = n) (hst : st = As.reverse ++ rest) (hW : (rest.map fun v => v.category).sum ≤ 8) (hd : decode cc pc = .ok (.invokestatic index, 3))
    (kk : ∀ (M' : Mem), post M' → WL x G A nL cs sl Q M' (pc + 3) L rest) : WL x G A nL cs sl Q M pc L st := by
  obtain ⟨p, l, e, R, s, m, args, below, meth, c⟩ := x
  obtain ⟨hx, hb, hml, hown, hts, hK, hAp, hAu, hST, hlk, hNW, hRf, hRl, hcs, hsl⟩ := C
  intro ls H locs hl hP hS
  subst hst
  refine va_callv (va_runS (As := As) (rest := rest) ⟨hx, hb, hml, hown, hts⟩ (hM H.size) (va_cwS n hts hT hw rfl rfl hd0 ⟨Nat.le_trans hR1 hRf, Nat.le_trans hR2 hRl⟩) ⟨WB_blind, fun U hU hW1 => ⟨rfl, WB_of hK hAp hAu hST hNW hP hS U hU hW1⟩⟩ rfl hn hl.1 rfl (lv_room hW) hd ⟨hcs, hsl⟩) hS (fun q _ h => AA_in hAp hAu hS q h) (AA_in hAp hAu hS) (fun u t H1 locs1 ht hvm hw hB hz1 hk1 hS1 => kk u hw ls H1 locs1 hl (ht ▸ hB) hS1)
theorem wl_callNv (C : CX x G A own cc nL Ts f0 l0 cs sl) {y : MethodName} {bytes : ByteArray} {maxL index n fr lo : Nat} {ret : Option FieldType} {ws ws' : List Cond} {host : String} {post : Mem → Prop} (As rest : List Value)
    (hM : Cv x.2.1 G y ws fr lo As M post) (hT : GoodIn Ts ws) (hw : ws = Cond.code y bytes maxL ret :: ws') (hini : Cond.initialized y.cls ∈ Ts) (hsta : Cond.static y ∈ Ts) (hnw : NW (xS x) → va_Nw (.methodLinkNest own index y host) (xS x)) (hd0 : y.cls ≠ "java/lang/invoke/MethodHandle" ∧ y.cls ≠ "java/lang/invoke/VarHandle" ∧ (parseMethodDescriptor y.desc).map (fun d => d.parameters.length) = some n)
    (hR1 : fr + 1 ≤ f0) (hR2 : 8 + (maxL + 11) + lo ≤ l0) (hn : As.length = n) (hst : st = As.reverse ++ rest) (hW : (rest.map fun v => v.category).sum ≤ 8) (hd : decode cc pc = .ok (.invokestatic index, 3))
    (kk : ∀ (M' : Mem), post M' → WL x G A nL cs sl Q M' (pc + 3) L rest) : WL x G A nL cs sl Q M pc L st := by
  obtain ⟨p, l, e, R, s, m, args, below, meth, c⟩ := x
  obtain ⟨hx, hb, hml, hown, hts, hK, hAp, hAu, hST, hlk, hNW, hRf, hRl, hcs, hsl⟩ := C
  intro ls H locs hl hP hS
  subst hst
  refine va_callv (va_runSN (As := As) (rest := rest) ⟨hx, hb, hml, hown, hts⟩ (hM H.size) ⟨va_cnB n hts hT hw rfl rfl (hnw hNW) (hts _ hini) hd0 ⟨Nat.le_trans hR1 hRf, Nat.le_trans hR2 hRl⟩, hts _ hsta, trivial⟩ ⟨WB_blind, fun U hU hW1 => ⟨rfl, WB_of hK hAp hAu hST hNW hP hS U hU hW1⟩⟩ rfl hn hl.1 rfl (lv_room hW) hd ⟨hcs, hsl⟩) hS (fun q _ h => AA_in hAp hAu hS q h) (AA_in hAp hAu hS) (fun u t H1 locs1 ht hvm hw hB hz1 hk1 hS1 => kk u hw ls H1 locs1 hl (ht ▸ hB) hS1)
theorem wl_callVr (C : CX x G A own cc nL Ts f0 l0 cs sl) {y : MethodName} {bytes : ByteArray} {maxL index n fr lo i ci N : Nat} {ret : Option FieldType} {ws ws' : List Cond} {C0 : String} {T : u_T} {fs : List Value} {post : Nat → Mem → Prop} (As rest : List Value)
    (hM : Cr x.2.1 G y ws fr lo (.ref (G.2.2.1 i) :: As) M post) (hT : GoodIn Ts (wsV own index C0 y ws)) (hw : ws = Cond.code y bytes maxL ret :: ws') (hd0 : y.cls = C0 ∧ y.cls ≠ "java/lang/invoke/MethodHandle" ∧ y.cls ≠ "java/lang/invoke/VarHandle" ∧ (parseMethodDescriptor y.desc).map (fun d => d.parameters.length) = some n)
    (hR1 : fr + 1 ≤ f0) (hR2 : 8 + (maxL + 11) + lo ≤ l0) (hi : i < 232) (hc : cell G M i = .inr (ci, fs)) (hcl : vwCl[ci]? = some (C0, T, N)) (hn : As.length = n) (hst : st = As.reverse ++ .ref (G.2.2.1 i) :: rest) (hW : (rest.map fun v => v.category).sum ≤ 8) (hd : decode cc pc = .ok (.invokevirtual index, 3))
    (kk : ∀ (r : Nat) (M' : Mem), post r M' → WL x G A nL cs sl Q M' (pc + 3) L (.ref (G.2.2.1 r) :: rest)) : WL x G A nL cs sl Q M pc L st := by
  obtain ⟨p, l, e, R, s, m, args, below, meth, c⟩ := x
  obtain ⟨hx, hb, hml, hown, hts, hK, hAp, hAu, hST, hlk, hNW, hRf, hRl, hcs, hsl⟩ := C
  intro ls H locs hl hP hS
  subst hst
  refine va_callr (va_runV (As := As) (rest := rest) ⟨hx, hb, hml, hown, hts⟩ (hM H.size) (cwV n hts hT hw rfl rfl hd0 ⟨Nat.le_trans hR1 hRf, Nat.le_trans hR2 hRl⟩) ⟨WB_blind, va_recv hK hP hcl ((wd_at hi).trans (by rw [hc])), fun U hU hW1 => ⟨rfl, WB_of hK hAp hAu hST hNW hP hS U hU hW1⟩⟩ rfl hn hl.1 rfl (lv_room hW) hd ⟨hcs, hsl⟩) hS (fun q _ h => AA_in hAp hAu hS q h) (AA_in hAp hAu hS) (fun u ra t H1 locs1 ht hvm hw hB hz1 hk1 hS1 => by obtain ⟨e1, e2⟩ := hB; subst e1; exact kk u.1 u.2 hw ls H1 locs1 hl (ht ▸ e2) hS1)
theorem wl_callSr (C : CX x G A own cc nL Ts f0 l0 cs sl) {y : MethodName} {bytes : ByteArray} {maxL index n fr lo : Nat} {ret : Option FieldType} {ws ws' : List Cond} {post : Nat → Mem → Prop} (As rest : List Value)
    (hM : Cr x.2.1 G y ws fr lo As M post) (hT : GoodIn Ts (va_wsS own index y ws)) (hw : ws = Cond.code y bytes maxL ret :: ws') (hd0 : y.cls ≠ "java/lang/invoke/MethodHandle" ∧ y.cls ≠ "java/lang/invoke/VarHandle" ∧ (parseMethodDescriptor y.desc).map (fun d => d.parameters.length) = some n)
    (hR1 : fr + 1 ≤ f0) (hR2 : 8 + (maxL + 11) + lo ≤ l0) (hn : As.length = n) (hst : st = As.reverse ++ rest) (hW : (rest.map fun v => v.category).sum ≤ 8) (hd : decode cc pc = .ok (.invokestatic index, 3))
    (kk : ∀ (r : Nat) (M' : Mem), post r M' → WL x G A nL cs sl Q M' (pc + 3) L (.ref (G.2.2.1 r) :: rest)) : WL x G A nL cs sl Q M pc L st := by
  obtain ⟨p, l, e, R, s, m, args, below, meth, c⟩ := x
  obtain ⟨hx, hb, hml, hown, hts, hK, hAp, hAu, hST, hlk, hNW, hRf, hRl, hcs, hsl⟩ := C
  intro ls H locs hl hP hS
  subst hst
  refine va_callr (va_runS (As := As) (rest := rest) ⟨hx, hb, hml, hown, hts⟩ (hM H.size) (va_cwS n hts hT hw rfl rfl hd0 ⟨Nat.le_trans hR1 hRf, Nat.le_trans hR2 hRl⟩) ⟨WB_blind, fun U hU hW1 => ⟨rfl, WB_of hK hAp hAu hST hNW hP hS U hU hW1⟩⟩ rfl hn hl.1 rfl (lv_room hW) hd ⟨hcs, hsl⟩) hS (fun q _ h => AA_in hAp hAu hS q h) (AA_in hAp hAu hS) (fun u ra t H1 locs1 ht hvm hw hB hz1 hk1 hS1 => by obtain ⟨e1, e2⟩ := hB; subst e1; exact kk u.1 u.2 hw ls H1 locs1 hl (ht ▸ e2) hS1)
theorem wl_callNr (C : CX x G A own cc nL Ts f0 l0 cs sl) {y : MethodName} {bytes : ByteArray} {maxL index n fr lo : Nat} {ret : Option FieldType} {ws ws' : List Cond} {host : String} {post : Nat → Mem → Prop} (As rest : List Value)
    (hM : Cr x.2.1 G y ws fr lo As M post) (hT : GoodIn Ts ws) (hw : ws = Cond.code y bytes maxL ret :: ws') (hini : Cond.initialized y.cls ∈ Ts) (hsta : Cond.static y ∈ Ts) (hnw : NW (xS x) → va_Nw (.methodLinkNest own index y host) (xS x)) (hd0 : y.cls ≠ "java/lang/invoke/MethodHandle" ∧ y.cls ≠ "java/lang/invoke/VarHandle" ∧ (parseMethodDescriptor y.desc).map (fun d => d.parameters.length) = some n)
    (hR1 : fr + 1 ≤ f0) (hR2 : 8 + (maxL + 11) + lo ≤ l0) (hn : As.length = n) (hst : st = As.reverse ++ rest) (hW : (rest.map fun v => v.category).sum ≤ 8) (hd : decode cc pc = .ok (.invokestatic index, 3))
    (kk : ∀ (r : Nat) (M' : Mem), post r M' → WL x G A nL cs sl Q M' (pc + 3) L (.ref (G.2.2.1 r) :: rest)) : WL x G A nL cs sl Q M pc L st := by
  obtain ⟨p, l, e, R, s, m, args, below, meth, c⟩ := x
  obtain ⟨hx, hb, hml, hown, hts, hK, hAp, hAu, hST, hlk, hNW, hRf, hRl, hcs, hsl⟩ := C
  intro ls H locs hl hP hS
  subst hst
  refine va_callr (va_runSN (As := As) (rest := rest) ⟨hx, hb, hml, hown, hts⟩ (hM H.size) ⟨va_cnB n hts hT hw rfl rfl (hnw hNW) (hts _ hini) hd0 ⟨Nat.le_trans hR1 hRf, Nat.le_trans hR2 hRl⟩, hts _ hsta, trivial⟩ ⟨WB_blind, fun U hU hW1 => ⟨rfl, WB_of hK hAp hAu hST hNW hP hS U hU hW1⟩⟩ rfl hn hl.1 rfl (lv_room hW) hd ⟨hcs, hsl⟩) hS (fun q _ h => AA_in hAp hAu hS q h) (AA_in hAp hAu hS) (fun u ra t H1 locs1 ht hvm hw hB hz1 hk1 hS1 => by obtain ⟨e1, e2⟩ := hB; subst e1; exact kk u.1 u.2 hw ls H1 locs1 hl (ht ▸ e2) hS1)
end WLCALLS
/-! a method's entry and its ends -/
def xRet (x : Cn) (ret : Option FieldType) : Prop := match x with
  | (_, _, _, _, _, _, _, _, meth, _) => meth.sig.returnType = ret
def xQ (x : Cn) (Qc : Array Value → State → Outcome → State → Prop) (free : Nat → Prop) : State → Prop := match x with
  | (_, _, _, _, s, _, args, below, _, _) => MQ below Qc args s 0 0 free
theorem Ci.of {l : Launch} {G : Gw} {y : MethodName} {ws ws' : List Cond} {fr lo maxL : Nat} {av : List Value} {M : Mem} {post : Int32 → Mem → Prop} {cc : ByteArray} {ret : Option FieldType} (hy : plainName y.cls = true) (hw : ws = Cond.code y cc maxL ret :: ws') (hL : (lg_sl av).length ≤ maxL)
    (h : ∀ (x : Cn) (sz : Nat), x.2.1 = l → xRet x ret → CX x G (AA G sz) y.cls cc maxL ws fr lo 0 0 → WL x G (AA G sz) maxL 0 0 (xQ x (va_Qi post (WE G) (AA G sz)) (AA G sz)) M 0 (lv_args 0 av) []) : Ci l G y ws fr lo av M post := by
  intro sz
  refine Met.ofW (cc := cc) (maxL := maxL) (ret := ret) hy hw ?_
  intro p e s m args below meth c s₁ B hml hv
  obtain ⟨rfl, hsz, hP, hK, hD0, hST, hNW⟩ := hv
  have hts := atoms_spec (ws := ws) B.pre
  have hown : s.vm.findClass y.cls = some m.cls := findClass_of_methodNamed B.named
  have hAp := (Ap.of hD0).self (G := G) sz
  have hAu : ∀ q, s.heap.size ≤ q → AA G sz q := fun q hq => Or.inr (by rw [← hsz]; exact hq)
  have hw1 := h (p, l, e, Rm fr lo, s, m, av.toArray, below, meth, c) sz rfl B.returns ⟨B.exec, B.bytes, hml, hown, hts, hK, hAp, hAu, hST, B.notSynchronized, hNW, Nat.le_refl _, Nat.le_refl _, Nat.le_refl _, Nat.le_refl _⟩
  rw [lg_entry_eq]
  exact hw1 _ s.heap [] (lv_entry av hL) hP va_S.rf
theorem Cv.of {l : Launch} {G : Gw} {y : MethodName} {ws ws' : List Cond} {fr lo maxL : Nat} {av : List Value} {M : Mem} {post : Mem → Prop} {cc : ByteArray} {ret : Option FieldType} (hy : plainName y.cls = true) (hw : ws = Cond.code y cc maxL ret :: ws') (hL : (lg_sl av).length ≤ maxL)
    (h : ∀ (x : Cn) (sz : Nat), x.2.1 = l → xRet x ret → CX x G (AA G sz) y.cls cc maxL ws fr lo 0 0 → WL x G (AA G sz) maxL 0 0 (xQ x (va_Qv post (WE G) (AA G sz)) (AA G sz)) M 0 (lv_args 0 av) []) : Cv l G y ws fr lo av M post := by
  intro sz
  refine Met.ofW (cc := cc) (maxL := maxL) (ret := ret) hy hw ?_
  intro p e s m args below meth c s₁ B hml hv
  obtain ⟨rfl, hsz, hP, hK, hD0, hST, hNW⟩ := hv
  have hts := atoms_spec (ws := ws) B.pre
  have hown : s.vm.findClass y.cls = some m.cls := findClass_of_methodNamed B.named
  have hAp := (Ap.of hD0).self (G := G) sz
  have hAu : ∀ q, s.heap.size ≤ q → AA G sz q := fun q hq => Or.inr (by rw [← hsz]; exact hq)
  have hw1 := h (p, l, e, Rm fr lo, s, m, av.toArray, below, meth, c) sz rfl B.returns ⟨B.exec, B.bytes, hml, hown, hts, hK, hAp, hAu, hST, B.notSynchronized, hNW, Nat.le_refl _, Nat.le_refl _, Nat.le_refl _, Nat.le_refl _⟩
  rw [lg_entry_eq]
  exact hw1 _ s.heap [] (lv_entry av hL) hP va_S.rf
theorem Cr.of {l : Launch} {G : Gw} {y : MethodName} {ws ws' : List Cond} {fr lo maxL : Nat} {av : List Value} {M : Mem} {post : Nat → Mem → Prop} {cc : ByteArray} {ret : Option FieldType} (hy : plainName y.cls = true) (hw : ws = Cond.code y cc maxL ret :: ws') (hL : (lg_sl av).length ≤ maxL)
    (h : ∀ (x : Cn) (sz : Nat), x.2.1 = l → xRet x ret → CX x G (AA G sz) y.cls cc maxL ws fr lo 0 0 → WL x G (AA G sz) maxL 0 0 (xQ x (va_Qr (fun u : Nat × Mem => post u.1 u.2) (fun u a t => a = G.2.2.1 u.1 ∧ WE G u.2 t) (AA G sz)) (AA G sz)) M 0 (lv_args 0 av) []) : Cr l G y ws fr lo av M post := by
  intro sz
  refine Met.ofW (cc := cc) (maxL := maxL) (ret := ret) hy hw ?_
  intro p e s m args below meth c s₁ B hml hv
  obtain ⟨rfl, hsz, hP, hK, hD0, hST, hNW⟩ := hv
  have hts := atoms_spec (ws := ws) B.pre
  have hown : s.vm.findClass y.cls = some m.cls := findClass_of_methodNamed B.named
  have hAp := (Ap.of hD0).self (G := G) sz
  have hAu : ∀ q, s.heap.size ≤ q → AA G sz q := fun q hq => Or.inr (by rw [← hsz]; exact hq)
  have hw1 := h (p, l, e, Rm fr lo, s, m, av.toArray, below, meth, c) sz rfl B.returns ⟨B.exec, B.bytes, hml, hown, hts, hK, hAp, hAu, hST, B.notSynchronized, hNW, Nat.le_refl _, Nat.le_refl _, Nat.le_refl _, Nat.le_refl _⟩
  rw [lg_entry_eq]
  exact hw1 _ s.heap [] (lv_entry av hL) hP va_S.rf
section WLRET
variable {x : Cn} {G : Gw} {sz : Nat} {nL f0 l0 : Nat} {M : Mem} {pc : Nat} {L : List (Nat × Value)} {own : String} {cc : ByteArray} {Ts : List Cond}
theorem wl_iret (C : CX x G (AA G sz) own cc nL Ts f0 l0 0 0) {post : Int32 → Mem → Prop} {v : Int32} (hr : xRet x (some .int)) (hd : decode cc pc = .ok (.ireturn, 1)) (hp : post v M) : WL x G (AA G sz) nL 0 0 (xQ x (va_Qi post (WE G) (AA G sz)) (AA G sz)) M pc L [.int v] := by
  obtain ⟨p, l, e, R, s, m, args, below, meth, c⟩ := x
  obtain ⟨hx, hb, hml, hown, hts, hK, hAp, hAu, hST, hlk, hNW, hRf, hRl, hcs, hsl⟩ := C
  intro ls H locs hl hP hS
  exact W.iret hx hb hr (fun t ht hW => ⟨⟨v, M, rfl, hp, by show va_P _ _ _ _; rw [ht]; exact hP⟩, hS.F ht⟩) hS.2.2 hd hlk
theorem wl_zret (C : CX x G (AA G sz) own cc nL Ts f0 l0 0 0) {post : Int32 → Mem → Prop} {v : Int32} {ty : FieldType} (hr : xRet x (some ty)) (hn : narrow ty (.int v) = .int v) (hd : decode cc pc = .ok (.ireturn, 1)) (hp : post v M) : WL x G (AA G sz) nL 0 0 (xQ x (va_Qi post (WE G) (AA G sz)) (AA G sz)) M pc L [.int v] := by
  obtain ⟨p, l, e, R, s, m, args, below, meth, c⟩ := x
  obtain ⟨hx, hb, hml, hown, hts, hK, hAp, hAu, hST, hlk, hNW, hRf, hRl, hcs, hsl⟩ := C
  intro ls H locs hl hP hS
  exact W.zret hx hb hr hn (fun t ht hW => ⟨⟨v, M, rfl, hp, by show va_P _ _ _ _; rw [ht]; exact hP⟩, hS.F ht⟩) hS.2.2 hd hlk
theorem wl_vret (C : CX x G (AA G sz) own cc nL Ts f0 l0 0 0) {post : Mem → Prop} (hr : xRet x none) (hd : decode cc pc = .ok (.return_, 1)) (hp : post M) : WL x G (AA G sz) nL 0 0 (xQ x (va_Qv post (WE G) (AA G sz)) (AA G sz)) M pc L [] := by
  obtain ⟨p, l, e, R, s, m, args, below, meth, c⟩ := x
  obtain ⟨hx, hb, hml, hown, hts, hK, hAp, hAu, hST, hlk, hNW, hRf, hRl, hcs, hsl⟩ := C
  intro ls H locs hl hP hS
  exact W.vret hx hb hr (fun t ht hW => ⟨⟨M, rfl, hp, by show va_P _ _ _ _; rw [ht]; exact hP⟩, hS.F ht⟩) hS.2.2 hd hlk
theorem wl_aret (C : CX x G (AA G sz) own cc nL Ts f0 l0 0 0) {post : Nat → Mem → Prop} {i : Nat} {rt : String} (hr : xRet x (some (.object rt))) (hd : decode cc pc = .ok (.areturn, 1)) (hp : post i M) : WL x G (AA G sz) nL 0 0 (xQ x (va_Qr (fun u : Nat × Mem => post u.1 u.2) (fun u a t => a = G.2.2.1 u.1 ∧ WE G u.2 t) (AA G sz)) (AA G sz)) M pc L [.ref (G.2.2.1 i)] := by
  obtain ⟨p, l, e, R, s, m, args, below, meth, c⟩ := x
  obtain ⟨hx, hb, hml, hown, hts, hK, hAp, hAu, hST, hlk, hNW, hRf, hRl, hcs, hsl⟩ := C
  intro ls H locs hl hP hS
  exact W.aret hx hb hr (Or.inl ⟨_, rfl⟩) (Or.inr ⟨_, rfl⟩) (fun t ht hW => ⟨⟨(i, M), G.2.2.1 i, rfl, hp, rfl, by show va_P _ _ _ _; rw [ht]; exact hP⟩, hS.F ht⟩) hS.2.2 hd hlk
end WLRET
