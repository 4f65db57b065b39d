/-! THE LAW: two objects, each with its pool; calls of the class on one, of the law on both -/
def gA (G : Gw) (ad : Nat → Nat) : Gw := (G.1, G.2.1, ad, G.2.2.2.1, G.2.2.2.2)
def CD (x : Cn) (G : Gw) (A : Nat → Prop) (own : String) (cc : ByteArray) (nL : Nat) (Ts : List Cond) (f0 l0 c0 s0 : Nat) : Prop := CK x G A own cc nL Ts f0 l0 c0 s0 ∧ ST G A (xS x) (xS x).heap ∧ NW (xS x)
theorem wD_r {A : Nat → Prop} {w1 w2 : va_W} (h : va_D A (w1 ++ w2)) : va_D A w2 := by
  have sh : ∀ (k : Nat) (q : Nat × va_E), w2[k]? = some q → (w1 ++ w2)[w1.length + k]? = some q := fun k q hk => by rw [List.getElem?_append_right (Nat.le_add_right _ _), Nat.add_sub_cancel_left]; exact hk
  refine ⟨fun i j p q hi hj e => ?_, fun k q hk => h.2 _ q (sh k q hk)⟩
  have := h.1 _ _ p q (sh i p hi) (sh j q hj) e
  omega
theorem wd_len (G : Gw) (M : Mem) : (wd G M).length = 232 := by simp [wd]
theorem va_D_fst {A : Nat → Prop} {w w1 : va_W} (h : va_D A w) (e : ∀ (i : Nat) (q : Nat × va_E), w1[i]? = some q → ∃ p : Nat × va_E, w[i]? = some p ∧ p.1 = q.1) : va_D A w1 :=
  ⟨fun i j p q hi hj eq => by obtain ⟨p', a1, a2⟩ := e i p hi; obtain ⟨q', b1, b2⟩ := e j q hj; exact h.1 i j p' q' a1 b1 (by rw [a2, b2]; exact eq), fun k q hk => by obtain ⟨p', a1, a2⟩ := e k q hk; rw [← a2]; exact h.2 k p' a1⟩
theorem wD_same {A : Nat → Prop} {G : Gw} {M M1 : Mem} {F Rr : va_W} (h : va_D A (F ++ (wd G M ++ Rr))) : va_D A (F ++ (wd G M1 ++ Rr)) := by
  refine va_D_fst h (fun i q hq => ?_)
  by_cases h1 : i < F.length
  · rw [List.getElem?_append_left h1] at hq ⊢
    exact ⟨q, hq, rfl⟩
  · rw [List.getElem?_append_right (by omega)] at hq ⊢
    by_cases h2 : i - F.length < 232
    · rw [List.getElem?_append_left (by rw [wd_len]; exact h2), wd_at h2] at hq ⊢
      cases hq
      exact ⟨_, rfl, rfl⟩
    · rw [List.getElem?_append_right (by rw [wd_len]; omega), wd_len] at hq ⊢
      exact ⟨q, hq, rfl⟩
theorem wd_apart {A : Nat → Prop} {D : va_G} {cl : List vw_C} {G : Gw} {M : Mem} {F Rr : va_W} {H : Heap} (hD : va_D A (F ++ (wd G M ++ Rr))) (hP : va_P D cl (F ++ (wd G M ++ Rr)) H) : (∀ (k : Nat) (z : Nat × va_E), F[k]? = some z → z.1 < H.size ∧ ¬ AA G H.size z.1) ∧ ∀ (k : Nat) (z : Nat × va_E), Rr[k]? = some z → z.1 < H.size ∧ ¬ AA G H.size z.1 := by
  refine ⟨fun k z hz => ?_, fun k z hz => ?_⟩
  · have hlt := (wP_l hP k z hz).lt
    refine ⟨hlt, fun h => ?_⟩
    rcases h with ⟨i, hi, e⟩ | h
    · exact wD_x hD hz (j := i) (by rw [List.getElem?_append_left (by rw [wd_len]; exact hi)]; exact wd_at hi) e
    · omega
  · have hlt := (wP_r (wP_r hP) k z hz).lt
    refine ⟨hlt, fun h => ?_⟩
    rcases h with ⟨i, hi, e⟩ | h
    · exact wD_x (wD_r hD) (wd_at hi) hz e.symm
    · omega
section WDCALLS
variable {x : Cn} {G : Gw} {A : Nat → Prop} {nL cs sl f0 l0 c0 s0 : Nat} {Q : State → Prop} {pc : Nat} {L : List (Nat × Value)} {st : List Value} {own : String} {cc : ByteArray} {Ts : List Cond} {F Rr : va_W} {ad : Nat → Nat} {M : Mem}
theorem wd_callVi (C : CD x G A own cc nL Ts f0 l0 c0 s0) {y : MethodName} {bytes : ByteArray} {maxL index n fr lo i ci N : Nat} {ret : Option FieldType} {ws0 ws' : List Cond} {C0 : String} {T : u_T} {fs : List Value} {post : Int32 → Mem → Prop} (As rest : List Value)
    (hM : Ci x.2.1 (gA G ad) y ws0 fr lo (.ref (ad i) :: As) M post) (hT : GoodIn Ts (wsV own index C0 y ws0)) (hw : ws0 = Cond.code y bytes maxL ret :: ws') (hd0 : y.cls = C0 ∧ y.cls ≠ "java/lang/invoke/MethodHandle" ∧ y.cls ≠ "java/lang/invoke/VarHandle" ∧ (parseMethodDescriptor y.desc).map (fun d => d.parameters.length) = some n)
    (hR1 : fr + 1 ≤ f0) (hR2 : 8 + (maxL + 11) + lo ≤ l0) (hi : i < 232) (hc : cell (gA G ad) M i = .inr (ci, fs)) (hcl : vwCl[ci]? = some (C0, T, N)) (hn : As.length = n) (hst : st = As.reverse ++ .ref (ad i) :: rest) (hW : (rest.map fun v => v.category).sum ≤ 8) (hcs : cs ≤ c0) (hsl : sl ≤ s0) (hd : decode cc pc = .ok (.invokevirtual index, 3))
    (kk : ∀ (r : Int32) (M' : Mem), post r M' → WK x G A nL cs sl Q (F ++ (wd (gA G ad) M' ++ Rr)) (pc + 3) L (.int r :: rest)) : WK x G A nL cs sl Q (F ++ (wd (gA G ad) M ++ Rr)) pc L st := by
  obtain ⟨C, hST, hNW⟩ := C
  obtain ⟨p, l, e, R, s, m, args, below, meth, c⟩ := x
  obtain ⟨hx, hb, hml, hown, hts, hK, hAu, hO0, hO3, hlk, hRf, hRl, hRc, hRs⟩ := C
  intro ls H locs hl hP hD hS
  subst hst
  have hPm : va_P (gA G ad).1 vwCl (wd (gA G ad) M) H := wP_l (wP_r hP)
  have hAp : Ap A (gA G ad).2.2.1 := Ap.of (wD_l (wD_r hD))
  have hST' : ST (gA G ad) A s s.heap := hST
  have hK' : va_K (gA G ad).1 vwCl (tysL (gA G ad)) s := hK
  have hNW' : NW s := hNW
  obtain ⟨aF, aR⟩ := wd_apart hD hP
  refine va_calli (va_runV (As := As) (rest := rest) ⟨hx, hb, hml, hown, hts⟩ (hM H.size) (cwV n hts hT hw rfl rfl hd0 ⟨Nat.le_trans hR1 hRf, Nat.le_trans hR2 hRl⟩) ⟨WB_blind, va_recv hK' hPm hcl ((wd_at hi).trans (by rw [hc]; rfl)), fun U hU hW1 => ⟨rfl, WB_of hK' hAp hAu hST' hNW' hPm hS U hU hW1⟩⟩ rfl hn hl.1 rfl (lv_room hW) hd ⟨Nat.le_trans hcs hRc, Nat.le_trans hsl hRs⟩) hS (fun q _ h => AA_in hAp hAu hS q h) (AA_in hAp hAu hS) (fun r u t H1 locs1 ht hvm hw1 hB hz1 hk1 hS1 => ?_)
  have hP1 : va_P G.1 vwCl (wd (gA G ad) u) H1 := ht ▸ hB
  exact kk r u hw1 ls H1 locs1 hl (va_P.app (fun k z hz => (wP_l hP k z hz).kept (hk1 _ (aF k z hz).1 (aF k z hz).2)) (va_P.app hP1 (fun k z hz => (wP_r (wP_r hP) k z hz).kept (hk1 _ (aR k z hz).1 (aR k z hz).2)))) (wD_same hD) hS1
theorem wd_callSi (C : CD x G A own cc nL Ts f0 l0 c0 s0) {y : MethodName} {bytes : ByteArray} {maxL index n fr lo : Nat} {ret : Option FieldType} {ws0 ws' : List Cond} {post : Int32 → Mem → Prop} (As rest : List Value)
    (hM : Ci x.2.1 (gA G ad) y ws0 fr lo As M post) (hT : GoodIn Ts (va_wsS own index y ws0)) (hw : ws0 = Cond.code y bytes maxL ret :: ws') (hd0 : y.cls ≠ "java/lang/invoke/MethodHandle" ∧ y.cls ≠ "java/lang/invoke/VarHandle" ∧ (parseMethodDescriptor y.desc).map (fun d => d.parameters.length) = some n)
    (hR1 : fr + 1 ≤ f0) (hR2 : 8 + (maxL + 11) + lo ≤ l0) (hn : As.length = n) (hst : st = As.reverse ++ rest) (hW : (rest.map fun v => v.category).sum ≤ 8) (hcs : cs ≤ c0) (hsl : sl ≤ s0) (hd : decode cc pc = .ok (.invokestatic index, 3))
    (kk : ∀ (r : Int32) (M' : Mem), post r M' → WK x G A nL cs sl Q (F ++ (wd (gA G ad) M' ++ Rr)) (pc + 3) L (.int r :: rest)) : WK x G A nL cs sl Q (F ++ (wd (gA G ad) M ++ Rr)) pc L st := by
  obtain ⟨C, hST, hNW⟩ := C
  obtain ⟨p, l, e, R, s, m, args, below, meth, c⟩ := x
  obtain ⟨hx, hb, hml, hown, hts, hK, hAu, hO0, hO3, hlk, hRf, hRl, hRc, hRs⟩ := C
  intro ls H locs hl hP hD hS
  subst hst
  have hPm : va_P (gA G ad).1 vwCl (wd (gA G ad) M) H := wP_l (wP_r hP)
  have hAp : Ap A (gA G ad).2.2.1 := Ap.of (wD_l (wD_r hD))
  have hST' : ST (gA G ad) A s s.heap := hST
  have hK' : va_K (gA G ad).1 vwCl (tysL (gA G ad)) s := hK
  have hNW' : NW s := hNW
  obtain ⟨aF, aR⟩ := wd_apart hD hP
  refine va_calli (va_runS (As := As) (rest := rest) ⟨hx, hb, hml, hown, hts⟩ (hM H.size) (va_cwS n hts hT hw rfl rfl hd0 ⟨Nat.le_trans hR1 hRf, Nat.le_trans hR2 hRl⟩) ⟨WB_blind, fun U hU hW1 => ⟨rfl, WB_of hK' hAp hAu hST' hNW' hPm hS U hU hW1⟩⟩ rfl hn hl.1 rfl (lv_room hW) hd ⟨Nat.le_trans hcs hRc, Nat.le_trans hsl hRs⟩) hS (fun q _ h => AA_in hAp hAu hS q h) (AA_in hAp hAu hS) (fun r u t H1 locs1 ht hvm hw1 hB hz1 hk1 hS1 => ?_)
  have hP1 : va_P G.1 vwCl (wd (gA G ad) u) H1 := ht ▸ hB
  exact kk r u hw1 ls H1 locs1 hl (va_P.app (fun k z hz => (wP_l hP k z hz).kept (hk1 _ (aF k z hz).1 (aF k z hz).2)) (va_P.app hP1 (fun k z hz => (wP_r (wP_r hP) k z hz).kept (hk1 _ (aR k z hz).1 (aR k z hz).2)))) (wD_same hD) hS1
end WDCALLS
/-! contracts of the law's methods on both objects -/
def A2 (G : Gw) (ad : Nat → Nat) (sz : Nat) : Nat → Prop := fun q => (∃ i, i < 232 ∧ (q = G.2.2.1 i ∨ q = ad i)) ∨ sz ≤ q
def W2 (G : Gw) (ad : Nat → Nat) (M M' : Mem) : va_W := wd G M ++ wd (gA G ad) M'
def WBD (G : Gw) (ad : Nat → Nat) (M M' : Mem) (sz : Nat) (U : State) : Prop := U.heap.size = sz ∧ va_P G.1 vwCl (W2 G ad M M') U.heap ∧ va_K G.1 vwCl (tysL G) U ∧ va_D (fun _ => True) (W2 G ad M M') ∧ va_AO RX0 U ∧ va_AO RX3 U ∧ ST G (A2 G ad sz) U U.heap ∧ NW U
def WED (G : Gw) (ad : Nat → Nat) (u : Mem × Mem) (t : State) : Prop := va_P G.1 vwCl (W2 G ad u.1 u.2) t.heap
def QD (G : Gw) (ad : Nat → Nat) (sz : Nat) (post : Int32 → Mem → Mem → Prop) : Array Value → State → Outcome → State → Prop := va_Qi (fun r (u : Mem × Mem) => post r u.1 u.2) (WED G ad) (A2 G ad sz)
def Cd (l : Launch) (G : Gw) (ad : Nat → Nat) (y : MethodName) (ws : List Cond) (fr lo mc ms : Nat) (av : List Value) (M M' : Mem) (post : Int32 → Mem → Mem → Prop) : Prop :=
  ∀ sz, Met l y ws (Rk fr lo mc ms) (va_Pc av (WBD G ad M M' sz)) (QD G ad sz post) mc ms (A2 G ad sz)
theorem W2_at {G : Gw} {ad : Nat → Nat} {M M' : Mem} {k : Nat} {q : Nat × va_E} (h : (W2 G ad M M')[k]? = some q) : ∃ i, i < 232 ∧ (q.1 = G.2.2.1 i ∨ q.1 = ad i) := by
  unfold W2 at h
  by_cases h1 : k < 232
  · rw [List.getElem?_append_left (by rw [wd_len]; exact h1), wd_at h1] at h
    cases h
    exact ⟨k, h1, Or.inl rfl⟩
  · rw [List.getElem?_append_right (by rw [wd_len]; omega), wd_len] at h
    have h2 : k - 232 < 232 := by
      have := (List.getElem?_eq_some_iff.mp h).1
      rw [wd_len] at this
      exact this
    rw [wd_at h2] at h
    cases h
    exact ⟨k - 232, h2, Or.inr rfl⟩
theorem W2_addr {G : Gw} {ad : Nat → Nat} {M M' : Mem} {i : Nat} (hi : i < 232) : (∃ (k : Nat) (e : va_E), (W2 G ad M M')[k]? = some (G.2.2.1 i, e)) ∧ ∃ (k : Nat) (e : va_E), (W2 G ad M M')[k]? = some (ad i, e) := by
  unfold W2
  refine ⟨⟨i, _, by rw [List.getElem?_append_left (by rw [wd_len]; exact hi)]; exact wd_at hi⟩, ⟨(wd G M).length + i, _, by rw [List.getElem?_append_right (Nat.le_add_right _ _), Nat.add_sub_cancel_left]; exact wd_at hi⟩⟩
theorem Cd.of {l : Launch} {G : Gw} {ad : Nat → Nat} {y : MethodName} {ws ws' : List Cond} {fr lo mc ms maxL : Nat} {av : List Value} {M M' : Mem} {post : Int32 → Mem → Mem → Prop} {cc : ByteArray} {ret : Option FieldType} (hy : plainName y.cls = true) (hw : ws = Cond.code y cc maxL ret :: ws') (hL : (lg_sl av).length ≤ maxL)
    (h : ∀ (x : Cn) (sz : Nat), x.2.1 = l → xRet x ret → CD x G (A2 G ad sz) y.cls cc maxL ws fr lo mc ms → WK x G (A2 G ad sz) maxL 0 0 (kQ x (QD G ad sz post) mc ms (A2 G ad sz)) (wd G M ++ (wd (gA G ad) M' ++ [])) 0 (lv_args 0 av) []) : Cd l G ad y ws fr lo mc ms av M M' post := by
  intro sz
  refine Met.ofW (cc := cc) (maxL := maxL) (ret := ret) hy hw ?_
  intro p e s m args below meth c s₁ B hml hv
  obtain ⟨rfl, hsz, hP, hK, hD0, hO0, hO3, hST, hNW⟩ := hv
  have hts := atoms_spec (ws := ws) B.pre
  have hown : s.vm.findClass y.cls = some m.cls := findClass_of_methodNamed B.named
  have hAu : ∀ q, s.heap.size ≤ q → A2 G ad sz q := fun q hq => Or.inr (by rw [← hsz]; exact hq)
  have hw1 := h (p, l, e, Rk fr lo mc ms, s, m, av.toArray, below, meth, c) sz rfl B.returns ⟨⟨B.exec, B.bytes, hml, hown, hts, hK, hAu, hO0, hO3, B.notSynchronized, Nat.le_refl _, Nat.le_refl _, Nat.le_refl _, Nat.le_refl _⟩, hST, hNW⟩
  rw [lg_entry_eq]
  have hD : va_D (A2 G ad sz) (W2 G ad M M') := hD0.weaken (fun k q hk _ => Or.inl (W2_at hk))
  rw [List.append_nil] at hw1
  exact hw1 _ s.heap [] (lv_entry av hL) hP hD va_S.rf
theorem wd_zret {x : Cn} {G : Gw} {ad : Nat → Nat} {sz nL cs sl f0 l0 mc ms : Nat} {pc : Nat} {L : List (Nat × Value)} {own : String} {cc : ByteArray} {Ts : List Cond} {post : Int32 → Mem → Mem → Prop} {v : Int32} {ty : FieldType} {N N' : Mem} {Rr : va_W} (C : CD x G (A2 G ad sz) own cc nL Ts f0 l0 mc ms) (hr : xRet x (some ty)) (hn : narrow ty (.int v) = .int v) (hc : cs ≤ mc) (hs : sl ≤ ms) (hd : decode cc pc = .ok (.ireturn, 1)) (hp : post v N N') : WK x G (A2 G ad sz) nL cs sl (kQ x (QD G ad sz post) mc ms (A2 G ad sz)) (wd G N ++ (wd (gA G ad) N' ++ Rr)) pc L [.int v] := by
  obtain ⟨C, hST, hNW⟩ := C
  obtain ⟨p, l, e, R, s, m, args, below, meth, c⟩ := x
  obtain ⟨hx, hb, hml, hown, hts, hK, hAu, hO0, hO3, hlk, hRf, hRl, hRc, hRs⟩ := C
  intro ls H locs hl hP hD hS
  refine W.widen hc hs ?_
  have hP2 : va_P G.1 vwCl (W2 G ad N N') H := va_P.app (wP_l hP) (wP_l (wP_r hP))
  exact W.zret hx hb hr hn (fun t ht hW => ⟨⟨v, (N, N'), rfl, hp, by show va_P _ _ _ _; rw [ht]; exact hP2⟩, hS.F ht⟩) hS.2.2 hd hlk
theorem WBD_blind {G : Gw} {ad : Nat → Nat} {M M' : Mem} {sz : Nat} {av : List Value} : FrameBlind (va_Pc av (WBD G ad M M' sz)) := by
  intro a U g mk q
  obtain ⟨q0, q1, qP, qK, qD, qO0, qO3, qS, qN⟩ := q
  exact ⟨q0, q1, qP, va_K.moved (u := U) (U := U.calling g mk a) (Vm.Alike.refl U.vm) qK, qD, qO0.moved (u := U) (U := U.calling g mk a) (Vm.Alike.refl U.vm), qO3.moved (u := U) (U := U.calling g mk a) (Vm.Alike.refl U.vm), qS.go (u := U) (U := U.calling g mk a) (Vm.Alike.refl U.vm) (fun _ _ _ => rfl) (fun _ h => h), qN.same (s := U) (U := U.calling g mk a) rfl⟩
section WDBOTH
variable {x : Cn} {G : Gw} {A : Nat → Prop} {nL cs sl f0 l0 c0 s0 : Nat} {Q : State → Prop} {pc : Nat} {L : List (Nat × Value)} {st : List Value} {own : String} {cc : ByteArray} {Ts : List Cond} {ad : Nat → Nat} {M M' : Mem}
theorem wd_callD (C : CD x G A own cc nL Ts f0 l0 c0 s0) {y : MethodName} {bytes : ByteArray} {maxL index n fr lo mc ms : Nat} {ret : Option FieldType} {ws0 ws' : List Cond} {post : Int32 → Mem → Mem → Prop} (As rest : List Value)
    (hM : Cd x.2.1 G ad y ws0 fr lo mc ms As M M' post) (hT : GoodIn Ts (va_wsS own index y ws0)) (hw : ws0 = Cond.code y bytes maxL ret :: ws') (hd0 : y.cls ≠ "java/lang/invoke/MethodHandle" ∧ y.cls ≠ "java/lang/invoke/VarHandle" ∧ (parseMethodDescriptor y.desc).map (fun d => d.parameters.length) = some n)
    (hR1 : fr + 1 ≤ f0) (hR2 : 8 + (maxL + 11) + lo ≤ l0) (hn : As.length = n) (hst : st = As.reverse ++ rest) (hW : (rest.map fun v => v.category).sum ≤ 8) (hcs : cs + mc ≤ c0) (hsl : sl + ms ≤ s0) (hd : decode cc pc = .ok (.invokestatic index, 3))
    (kk : ∀ (r : Int32) (N N' : Mem), post r N N' → WK x G A nL (cs + mc) (sl + ms) Q (wd G N ++ (wd (gA G ad) N' ++ [])) (pc + 3) L (.int r :: rest)) : WK x G A nL cs sl Q (wd G M ++ (wd (gA G ad) M' ++ [])) pc L st := by
  obtain ⟨C, hST, hNW⟩ := C
  obtain ⟨p, l, e, R, s, m, args, below, meth, c⟩ := x
  obtain ⟨hx, hb, hml, hown, hts, hK, hAu, hO0, hO3, hlk, hRf, hRl, hRc, hRs⟩ := C
  intro ls H locs hl hP hD hS
  subst hst
  rw [List.append_nil] at hP hD
  have hP2 : va_P G.1 vwCl (W2 G ad M M') H := hP
  have hD2 : va_D A (W2 G ad M M') := hD
  have hST' : ST G A s s.heap := hST
  have hNW' : NW s := hNW
  have hin : ∀ q, A2 G ad H.size q → A q := by
    intro q hq
    rcases hq with ⟨i, hi, e | e⟩ | h
    · obtain ⟨⟨k, z, hk⟩, -⟩ := W2_addr (G := G) (ad := ad) (M := M) (M' := M') hi
      rw [e]; exact hD2.2 k _ hk
    · obtain ⟨-, k, z, hk⟩ := W2_addr (G := G) (ad := ad) (M := M) (M' := M') hi
      rw [e]; exact hD2.2 k _ hk
    · exact hAu q (Nat.le_trans hS.1 h)
  refine va_calli (va_runS (As := As) (rest := rest) ⟨hx, hb, hml, hown, hts⟩ (hM H.size) (va_cwS n hts hT hw rfl rfl hd0 ⟨Nat.le_trans hR1 hRf, Nat.le_trans hR2 hRl⟩) ⟨WBD_blind, fun U hU hW1 => ⟨rfl, by rw [hU], by rw [hU]; exact hP2, va_K.moved hW1.alike hK, hD2.weaken (fun _ _ _ _ => trivial), hO0.moved hW1.alike, hO3.moved hW1.alike, by rw [hU]; exact hST'.go hW1.alike (fun a h1 h2 => hS.2.1 a h1 h2) hin, hNW'.warm hW1⟩⟩ rfl hn hl.1 rfl (lv_room hW) hd ⟨Nat.le_trans hcs hRc, Nat.le_trans hsl hRs⟩) hS (fun q _ h => hin q h) hin (fun r u t H1 locs1 ht hvm hw1 hB hz1 hk1 hS1 => ?_)
  have hP1 : va_P G.1 vwCl (W2 G ad u.1 u.2) H1 := ht ▸ hB
  refine kk r u.1 u.2 hw1 ls H1 locs1 hl (by rw [List.append_nil]; exact hP1) ?_ hS1
  rw [List.append_nil]
  refine va_D_fst hD2 (fun i q hq => ?_)
  unfold W2
  by_cases h1 : i < 232
  · rw [List.getElem?_append_left (by rw [wd_len]; exact h1), wd_at h1] at hq ⊢
    cases hq
    exact ⟨_, rfl, rfl⟩
  · rw [List.getElem?_append_right (by rw [wd_len]; omega), wd_len] at hq ⊢
    have h2 : i - 232 < 232 := by
      have := (List.getElem?_eq_some_iff.mp hq).1
      rw [wd_len] at this
      exact this
    rw [wd_at h2] at hq ⊢
    cases hq
    exact ⟨_, rfl, rfl⟩
end WDBOTH
/-! the script -/
def WBS (G : Gw) (M : Mem) (b n : Nat) (xs : Nat → Int32) (sz : Nat) (U : State) : Prop := WB G M sz U ∧ va_X b n xs U U.heap ∧ b < sz ∧ ¬ AA G sz b
theorem WBS_blind {G : Gw} {M : Mem} {b n sz : Nat} {xs : Nat → Int32} {av : List Value} : FrameBlind (va_Pc av (WBS G M b n xs sz)) := by
  intro a U g mk q
  obtain ⟨q0, ⟨q1, qP, qK, qD, qS, qN⟩, qX, q2, q3⟩ := q
  exact ⟨q0, ⟨q1, qP, va_K.moved (u := U) (U := U.calling g mk a) (Vm.Alike.refl U.vm) qK, qD, qS.go (u := U) (U := U.calling g mk a) (Vm.Alike.refl U.vm) (fun _ _ _ => rfl) (fun _ h => h), qN.same (s := U) (U := U.calling g mk a) rfl⟩, va_X.moved (u := U) (U := U.calling g mk a) (Vm.Alike.refl U.vm) qX, q2, q3⟩
section WDSCRIPT
variable {x : Cn} {G : Gw} {A : Nat → Prop} {nL cs sl f0 l0 c0 s0 : Nat} {Q : State → Prop} {pc : Nat} {L : List (Nat × Value)} {st : List Value} {own : String} {cc : ByteArray} {Ts : List Cond} {F Rr : va_W} {ad : Nat → Nat} {M : Mem}
theorem wd_callS (C : CD x G A own cc nL Ts f0 l0 c0 s0) {b k : Nat} {xs : Nat → Int32} (hX : va_X b k xs (xS x) (xS x).heap) (hbl : b < (xS x).heap.size) (hbA : ¬ A b) {y : MethodName} {bytes : ByteArray} {maxL index n fr lo : Nat} {ret : Option FieldType} {ws0 ws' : List Cond} {post : Int32 → Mem → Prop} (As rest : List Value)
    (hM : ∀ sz, Met x.2.1 y ws0 (Rm fr lo) (va_Pc As (WBS (gA G ad) M b k xs sz)) (va_Qi post (WE (gA G ad)) (AA (gA G ad) sz)) 0 0 (AA (gA G ad) sz)) (hT : GoodIn Ts (va_wsS own index y ws0)) (hw : ws0 = Cond.code y bytes maxL ret :: ws') (hd0 : y.cls ≠ "java/lang/invoke/MethodHandle" ∧ y.cls ≠ "java/lang/invoke/VarHandle" ∧ (parseMethodDescriptor y.desc).map (fun d => d.parameters.length) = some n)
    (hR1 : fr + 1 ≤ f0) (hR2 : 8 + (maxL + 11) + lo ≤ l0) (hn : As.length = n) (hst : st = As.reverse ++ rest) (hW : (rest.map fun v => v.category).sum ≤ 8) (hcs : cs ≤ c0) (hsl : sl ≤ s0) (hd : decode cc pc = .ok (.invokestatic index, 3))
    (kk : ∀ (r : Int32) (M' : Mem), post r M' → WK x G A nL cs sl Q (F ++ (wd (gA G ad) M' ++ Rr)) (pc + 3) L (.int r :: rest)) : WK x G A nL cs sl Q (F ++ (wd (gA G ad) M ++ Rr)) pc L st := by
  obtain ⟨C, hST, hNW⟩ := C
  obtain ⟨p, l, e, R, s, m, args, below, meth, c⟩ := x
  obtain ⟨hx, hb, hml, hown, hts, hK, hAu, hO0, hO3, hlk, hRf, hRl, hRc, hRs⟩ := C
  intro ls H locs hl hP hD hS
  subst hst
  have hPm : va_P (gA G ad).1 vwCl (wd (gA G ad) M) H := wP_l (wP_r hP)
  have hAp : Ap A (gA G ad).2.2.1 := Ap.of (wD_l (wD_r hD))
  have hST' : ST (gA G ad) A s s.heap := hST
  have hK' : va_K (gA G ad).1 vwCl (tysL (gA G ad)) s := hK
  have hNW' : NW s := hNW
  have hX' : va_X b k xs s s.heap := hX
  have hbl' : b < s.heap.size := hbl
  obtain ⟨aF, aR⟩ := wd_apart hD hP
  refine va_calli (va_runS (As := As) (rest := rest) ⟨hx, hb, hml, hown, hts⟩ (hM H.size) (va_cwS n hts hT hw rfl rfl hd0 ⟨Nat.le_trans hR1 hRf, Nat.le_trans hR2 hRl⟩) ⟨WBS_blind, fun U hU hW1 => ⟨rfl, WB_of hK' hAp hAu hST' hNW' hPm hS U hU hW1, by rw [hU]; exact (hX'.moved hW1.alike).kept (hS.2.1 b hbl' hbA), Nat.lt_of_lt_of_le hbl' hS.1, fun z => hbA (AA_in hAp hAu hS b z)⟩⟩ rfl hn hl.1 rfl (lv_room hW) hd ⟨Nat.le_trans hcs hRc, Nat.le_trans hsl hRs⟩) hS (fun q _ h => AA_in hAp hAu hS q h) (AA_in hAp hAu hS) (fun r u t H1 locs1 ht hvm hw1 hB hz1 hk1 hS1 => ?_)
  have hP1 : va_P G.1 vwCl (wd (gA G ad) u) H1 := ht ▸ hB
  exact kk r u hw1 ls H1 locs1 hl (va_P.app (fun k z hz => (wP_l hP k z hz).kept (hk1 _ (aF k z hz).1 (aF k z hz).2)) (va_P.app hP1 (fun k z hz => (wP_r (wP_r hP) k z hz).kept (hk1 _ (aR k z hz).1 (aR k z hz).2)))) (wD_same hD) hS1
end WDSCRIPT
