/-! THE LAW: calls on the first object; the row of corners -/
theorem gA_self (G : Gw) : gA G G.2.2.1 = G := rfl
section WDONE
variable {x : Cn} {G : Gw} {A : Nat → Prop} {nL cs sl f0 l0 c0 s0 : Nat} {Q : State → Prop} {pc : Nat} {L : List (Nat × Value)} {st : List Value} {own : String} {cc : ByteArray} {Ts : List Cond} {Rr : va_W} {M : Mem}
theorem wd_V1 (C : CD x G A own cc nL Ts f0 l0 c0 s0) {y : MethodName} {bytes : ByteArray} {maxL index n fr lo i ci N : Nat} {ret : Option FieldType} {ws0 ws' : List Cond} {C0 : String} {T : u_T} {fs : List Value} {post : Int32 → Mem → Prop} (As rest : List Value)
    (hM : Ci x.2.1 G y ws0 fr lo (.ref (G.2.2.1 i) :: As) M post) (hT : GoodIn Ts (wsV own index C0 y ws0)) (hw : ws0 = Cond.code y bytes maxL ret :: ws') (hd0 : y.cls = C0 ∧ y.cls ≠ "java/lang/invoke/MethodHandle" ∧ y.cls ≠ "java/lang/invoke/VarHandle" ∧ (parseMethodDescriptor y.desc).map (fun d => d.parameters.length) = some n)
    (hR1 : fr + 1 ≤ f0) (hR2 : 8 + (maxL + 11) + lo ≤ l0) (hi : i < 232) (hc : cell G M i = .inr (ci, fs)) (hcl : vwCl[ci]? = some (C0, T, N)) (hn : As.length = n) (hst : st = As.reverse ++ .ref (G.2.2.1 i) :: rest) (hW : (rest.map fun v => v.category).sum ≤ 8) (hcs : cs ≤ c0) (hsl : sl ≤ s0) (hd : decode cc pc = .ok (.invokevirtual index, 3))
    (kk : ∀ (r : Int32) (M' : Mem), post r M' → WK x G A nL cs sl Q (wd G M' ++ Rr) (pc + 3) L (.int r :: rest)) : WK x G A nL cs sl Q (wd G M ++ Rr) pc L st := by
  have key := wd_callVi (F := []) (ad := G.2.2.1) (Rr := Rr) C As rest hM hT hw hd0 hR1 hR2 hi hc hcl hn hst hW hcs hsl hd (fun r M' h => by rw [List.nil_append, gA_self]; exact kk r M' h)
  rw [List.nil_append, gA_self] at key
  exact key
theorem wd_S1 (C : CD x G A own cc nL Ts f0 l0 c0 s0) {y : MethodName} {bytes : ByteArray} {maxL index n fr lo : Nat} {ret : Option FieldType} {ws0 ws' : List Cond} {post : Int32 → Mem → Prop} (As rest : List Value)
    (hM : Ci x.2.1 G y ws0 fr lo As M post) (hT : GoodIn Ts (va_wsS own index y ws0)) (hw : ws0 = Cond.code y bytes maxL ret :: ws') (hd0 : y.cls ≠ "java/lang/invoke/MethodHandle" ∧ y.cls ≠ "java/lang/invoke/VarHandle" ∧ (parseMethodDescriptor y.desc).map (fun d => d.parameters.length) = some n)
    (hR1 : fr + 1 ≤ f0) (hR2 : 8 + (maxL + 11) + lo ≤ l0) (hn : As.length = n) (hst : st = As.reverse ++ rest) (hW : (rest.map fun v => v.category).sum ≤ 8) (hcs : cs ≤ c0) (hsl : sl ≤ s0) (hd : decode cc pc = .ok (.invokestatic index, 3))
    (kk : ∀ (r : Int32) (M' : Mem), post r M' → WK x G A nL cs sl Q (wd G M' ++ Rr) (pc + 3) L (.int r :: rest)) : WK x G A nL cs sl Q (wd G M ++ Rr) pc L st := by
  have key := wd_callSi (F := []) (ad := G.2.2.1) (Rr := Rr) C As rest hM hT hw hd0 hR1 hR2 hn hst hW hcs hsl hd (fun r M' h => by rw [List.nil_append, gA_self]; exact kk r M' h)
  rw [List.nil_append, gA_self] at key
  exact key
theorem wd_C1 (C : CD x G A own cc nL Ts f0 l0 c0 s0) {b k : Nat} {xs : Nat → Int32} (hX : va_X b k xs (xS x) (xS x).heap) (hbl : b < (xS x).heap.size) (hbA : ¬ A b) {y : MethodName} {bytes : ByteArray} {maxL index n fr lo : Nat} {ret : Option FieldType} {ws0 ws' : List Cond} {post : Int32 → Mem → Prop} (As rest : List Value)
    (hM : ∀ sz, Met x.2.1 y ws0 (Rm fr lo) (va_Pc As (WBS G M b k xs sz)) (va_Qi post (WE G) (AA G sz)) 0 0 (AA G sz)) (hT : GoodIn Ts (va_wsS own index y ws0)) (hw : ws0 = Cond.code y bytes maxL ret :: ws') (hd0 : y.cls ≠ "java/lang/invoke/MethodHandle" ∧ y.cls ≠ "java/lang/invoke/VarHandle" ∧ (parseMethodDescriptor y.desc).map (fun d => d.parameters.length) = some n)
    (hR1 : fr + 1 ≤ f0) (hR2 : 8 + (maxL + 11) + lo ≤ l0) (hn : As.length = n) (hst : st = As.reverse ++ rest) (hW : (rest.map fun v => v.category).sum ≤ 8) (hcs : cs ≤ c0) (hsl : sl ≤ s0) (hd : decode cc pc = .ok (.invokestatic index, 3))
    (kk : ∀ (r : Int32) (M' : Mem), post r M' → WK x G A nL cs sl Q (wd G M' ++ Rr) (pc + 3) L (.int r :: rest)) : WK x G A nL cs sl Q (wd G M ++ Rr) pc L st := by
  have key := wd_callS (F := []) (ad := G.2.2.1) (Rr := Rr) C hX hbl hbA As rest hM hT hw hd0 hR1 hR2 hn hst hW hcs hsl hd (fun r M' h => by rw [List.nil_append, gA_self]; exact kk r M' h)
  rw [List.nil_append, gA_self] at key
  exact key
variable {ad : Nat → Nat} {N : Mem}
theorem W3_at {c : Nat × va_E} : (wd G M ++ (wd (gA G ad) N ++ [c]))[464]? = some c := by
  rw [List.getElem?_append_right (by rw [wd_len]; omega), wd_len, List.getElem?_append_right (by rw [wd_len]; omega), wd_len]
  rfl
theorem W3_set {c d : Nat × va_E} : (wd G M ++ (wd (gA G ad) N ++ [c])).set 464 d = wd G M ++ (wd (gA G ad) N ++ [d]) := by
  rw [List.set_append_right _ _ (by rw [wd_len]; omega), wd_len, List.set_append_right _ _ (by rw [wd_len]; omega), wd_len]
  rfl
theorem wd_new (C : CD x G A own cc nL Ts f0 l0 c0 s0) (h1 : Jvm.Cond.arrayClass .int ∈ Ts) (hc : cs + 1 ≤ c0) (hs : sl + 8 ≤ s0) (hd : decode cc pc = .ok (.newarray .int, 2)) (k : ∀ q : Nat, WK x G A nL (cs + 1) (sl + 8) Q (wd G M ++ (wd (gA G ad) N ++ [(q, .inl (G.2.1 0, 8, .inl (fun _ => 0)))])) (pc + 2) L (.ref q :: st)) : WK x G A nL cs sl Q (wd G M ++ (wd (gA G ad) N ++ [])) pc L (.int 8 :: st) := by
  refine wk_newI C.1 (n := 8) h1 (by decide) (by decide) hc hs hd (fun q => ?_)
  refine wk_ws (ws' := wd G M ++ (wd (gA G ad) N ++ [(q, .inl (G.2.1 0, 8, .inl (fun _ => 0)))])) (by rw [List.append_nil, List.append_assoc]) ?_
  exact k q
theorem wd_iast (C : CD x G A own cc nL Ts f0 l0 c0 s0) {q j : Nat} {f : Nat → Int32} {z : Int32} (hj : j < 8) (hd : decode cc pc = .ok (.iastore, 1)) (k : WK x G A nL cs sl Q (wd G M ++ (wd (gA G ad) N ++ [(q, .inl (G.2.1 0, 8, .inl (upd f j z)))])) (pc + 1) L st) : WK x G A nL cs sl Q (wd G M ++ (wd (gA G ad) N ++ [(q, .inl (G.2.1 0, 8, .inl f))])) pc L (.int z :: .int (nI j) :: .ref q :: st) :=
  wk_iast C.1 464 W3_at hj (by decide) W3_set hd k
theorem wd_iald (C : CD x G A own cc nL Ts f0 l0 c0 s0) {q j : Nat} {f : Nat → Int32} {v : Int32} (hj : j < 8) (hv : f j = v) (hd : decode cc pc = .ok (.iaload, 1)) (k : WK x G A nL cs sl Q (wd G M ++ (wd (gA G ad) N ++ [(q, .inl (G.2.1 0, 8, .inl f))])) (pc + 1) L (.int v :: st)) : WK x G A nL cs sl Q (wd G M ++ (wd (gA G ad) N ++ [(q, .inl (G.2.1 0, 8, .inl f))])) pc L (.int (nI j) :: .ref q :: st) := by
  obtain ⟨C, hST, hNW⟩ := C
  obtain ⟨p, l, e, R, s, m, args, below, meth, c⟩ := x
  obtain ⟨hx, hb, hml, hown, hts, hK, hAu, hO0, hO3, hlk, hRf, hRl, hRc, hRs⟩ := C
  intro ls H locs hl hP hD hS
  have k2 := k ls H locs hl hP hD hS
  subst hv
  refine va_iald (D := G.1) hx hb hK hP 464 0 W3_at rfl (vp_in_nI hj (by decide)) hd ?_
  rw [nI_clamp (by omega)]
  exact k2
end WDONE
