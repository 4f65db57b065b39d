/-! THE CLAIM OUT OF ONE WALK OF THE LAW'S BODY. Your part is whole_start (and what it stands on); all else here is the same for every law, but numbers. -/
def R_law : String := "JammedBodiesLaw"
def lw_P (b : Addr) (xs : List Int32) (args : Array Value) (s : State) : Prop := args = #[.ref b] ∧ s.IntsAt b xs ∧ xs.length ≤ 260 ∧ (Jvm.Cond.and given_1 narrow_1).before args s = true
/-- what a walk over the start with the record d0 says of its end, said of the start itself -/
theorem lw_closed {s t : State} {o : Outcome} {d0 : Drawn} {L : List Loc} {k n : Nat} (hd0 : s.drawn.sameBut d0 lw_cs) (hv : ∃ v, o = .returned v) (hW : (s.setDrawn d0).WarmedH t.vm) (hs : (s.setDrawn d0).sameButNew ({ t with vm := s.vm } : State) L k n) : State.butDraws s t lw_cs (fun t1 => Framed s o t1 L k n) := by
  have h2 : t.drawn = d0 := congrArg State.drawn hs.1
  refine ⟨⟨hv, hW, State.sameButNew.setDrawn hs s.drawn⟩, ?_, by decide⟩
  rw [h2]
  exact hd0
def lw_Q (_ : Array Value) (s : State) (o : Outcome) (t : State) : Prop := o = .returned (some (.int 1)) ∧ State.butDraws s t lw_cs (fun t1 => Framed s o t1 [] 835171 6596735)
def lw_Z (below : List Frame) (a : Array Value) (s : State) : State → Prop := fun t => ∃ o, t.status = .running ∧ Ended t below o ∧ lw_Q a s o t
/-- the law's own end, with 1 on the stack, nothing written that was there before, its room as the claim has it; d0: the record of draws at this point (at the entry s.drawn: begin with 'refine W.base ?_' and 'have hd0 := Drawn.sameBut.refl s.drawn lw_cs') -/
theorem lw_ret {p : Program} {l : Launch} {e : Env} {s : State} {m : MethodId} {below : List Frame} {meth : Method} {c : Code} {b : Nat} {d0 : Drawn} (hd0 : s.drawn.sameBut d0 lw_cs) (hx : p.tables.exec = Jvm.exec) (hb : c.code = code) (hr : meth.sig.returnType = ret) (hlocks : meth.locks = false) {pc : Nat} {H : Heap} {ls : Array Slot} (hdg : decode code pc = .ok (.ireturn, 1)) : W p l e room_1 (s.setDrawn d0) m #[Value.ref b] below meth c H [] 835171 6596735 (lw_Z below #[Value.ref b] s) (F0 m pc ls [.int 1]) := by
  intro T hT X
  obtain ⟨fs, hret, hrun, hended, hW, hframe⟩ := X.leave (v := some (.int 1)) (hlocks := hlocks) (fun h => by rw [hr] at h; cases h)
  have hmeth' : T.vm.method? m = some meth := X.method'
  refine ⟨T.setFrames fs, ?_, .returned (some (.int 1)), hrun, hended, rfl, lw_closed hd0 ⟨_, rfl⟩ hW hframe⟩
  jvm_step X.here [X.here.top, hx, hb, hdg, hmeth', hr, ret, narrow_b1]
  (try refine ⟨rfl, ?_⟩); (try refine ⟨rfl, ?_⟩)
  first | (intro acts; rw [hret _ acts rfl rfl rfl]) | rw [hret _ _ rfl rfl rfl]
  exact Steps.refl _
/-- what holds at the law's entry: the machine, the code, the tables' words (any of lw_tbl by 'hts w (by decide +kernel)'), the script of L ints xs at the cell b, what the Statement gives of the start (any of its parts by flat_of_before) -/
def lw_At (p : Program) (s : State) (m : MethodId) (meth : Method) (c : Code) (b L : Nat) (xs : Nat → Int32) : Prop :=
  p.tables.exec = Jvm.exec ∧ c.code = code ∧ meth.sig.returnType = ret ∧ c.maxLocals = 7 ∧ s.vm.findClass R_law = some m.cls ∧ (∀ w ∈ lw_tbl, w.before #[Value.ref b] s = true) ∧ va_X b L xs s s.heap ∧ b < s.heap.size ∧ meth.locks = false ∧ (Jvm.Cond.and given_1 narrow_1).before #[Value.ref b] s = true
/-! THE LAW'S ENTRY: classes, static rows, links -/
theorem law_K {args : Array Value} {s : State} (hts : ∀ w ∈ lw_tbl, w.before args s = true) : ∃ (D : va_G) (dA : Nat → ClassId), va_K D vwCl [(dA 0, .int), (dA 1, .char), (dA 2, .object "JammedBodies$Body"), (dA 3, .object "JammedBodies$Packing")] s := by
  obtain ⟨c0, j0, K0⟩ := u_known (C := RX0) (T := TX0) (N := 3) (n := 3) hts i_wsX00 (hts _ i_in0)
  obtain ⟨c1, j1, K1⟩ := u_known (C := RX1) (T := TX1) (N := 7) (n := 7) hts i_wsX10 (hts _ i_in1)
  obtain ⟨c2, j2, K2⟩ := u_known (C := RX2) (T := TX2) (N := 4) (n := 4) hts i_wsX20 (hts _ i_in2)
  obtain ⟨c3, j3, K3⟩ := u_known (C := RX3) (T := TX3) (N := 6) (n := 6) hts i_wsX30 (hts _ i_in3)
  obtain ⟨c4, j4, K4⟩ := u_known (C := RX4) (T := TX4) (N := 4) (n := 4) hts i_wsX40 (hts _ i_in4)
  obtain ⟨aI, kI, pI, hI1, hI2, hI3⟩ := Cond.arrayClass_spec (hts _ i_aI)
  obtain ⟨aC, kC, pC, hC1, hC2, hC3⟩ := Cond.arrayClass_spec (hts _ i_aC)
  obtain ⟨pB, aB, kB, hB1, hB2, hB3, hB4, hB5⟩ := Cond.arrayOver_spec (hts _ i_aB)
  obtain ⟨pP, aP, kP, hP1, hP2, hP3, hP4, hP5⟩ := Cond.arrayOver_spec (hts _ i_aP)
  refine ⟨(fun k => match k with | 0 => c0 | 1 => c1 | 2 => c2 | 3 => c3 | _ => c4, fun k => match k with | 0 => j0 | 1 => j1 | 2 => j2 | 3 => j3 | _ => j4), fun k => match k with | 0 => aI | 1 => aC | 2 => aB | _ => aP, ?_, ?_⟩
  · intro k q hq
    have hk : k < 5 := (List.getElem?_eq_some_iff.mp hq).1
    rcases (show k = 0 ∨ k = 1 ∨ k = 2 ∨ k = 3 ∨ k = 4 by omega) with rfl | rfl | rfl | rfl | rfl <;> cases hq
    · exact K0
    · exact K1
    · exact K2
    · exact K3
    · exact K4
  · intro k q hq
    have hk : k < 4 := (List.getElem?_eq_some_iff.mp hq).1
    rcases (show k = 0 ∨ k = 1 ∨ k = 2 ∨ k = 3 by omega) with rfl | rfl | rfl | rfl <;> cases hq
    · exact ⟨fun n z => ⟨fun k h => (by cases h), kI, hI2, pI, hI3⟩, hI1⟩
    · exact ⟨fun n z => ⟨fun k h => (by cases h), kC, hC2, pC, hC3⟩, hC1⟩
    · exact ⟨fun n z => ⟨fun k h => (by cases h), kB, hB3, pB, hB4⟩, kB, pB, hB3, hB4, hB1, hB5⟩
    · exact ⟨fun n z => ⟨fun k h => (by cases h), kP, hP3, pP, hP4⟩, kP, pP, hP3, hP4, hP1, hP5⟩
theorem law_NW {args : Array Value} {s : State} (hts : ∀ w ∈ lw_tbl, w.before args s = true) : NW s :=
  ⟨va_Nw.of rfl (hts _ i_n59), va_Nw.of rfl (hts _ i_n66), va_Nw.of rfl (hts _ i_n68), va_Nw.of rfl (hts _ i_n71), va_Nw.of rfl (hts _ i_n74)⟩
theorem law_TX {b : Nat} {s : State} (hts : ∀ w ∈ lw_tbl, w.before #[Value.ref b] s = true) (hg : (Jvm.Cond.and given_1 narrow_1).before #[Value.ref b] s = true) : ∃ t : Nat, va_Z "JammedBodies" "STEP_X" "[I" (.ref t) (fun q => s.heap.size ≤ q) s s.heap ∧ va_T .int t 8 (fun j => .int (stX j)) (fun q => s.heap.size ≤ q) s s.heap := by
  have hs := flat_of_before _ hg
  have hA : ∀ a : Nat, a < s.heap.size → ¬ (fun q => s.heap.size ≤ q) a := fun a h => Nat.not_le.mpr h
  obtain ⟨t, h1, h2⟩ := va_Tof (args := #[Value.ref b]) (s := s) (tm := .static "JammedBodies" "STEP_X" "[I") (ty := .int) (N := 8) (f := fun j => .int (stX j)) (A := fun q => s.heap.size ≤ q) (by decide) (hs _ (by decide +kernel)) (va_eqt (hs (Jvm.Cond.eq (.length (.static "JammedBodies" "STEP_X" "[I")) (.int 8)) (by decide +kernel))) (fun j hj => by
    rcases (show j = 0 ∨ j = 1 ∨ j = 2 ∨ j = 3 ∨ j = 4 ∨ j = 5 ∨ j = 6 ∨ j = 7 by omega) with rfl | rfl | rfl | rfl | rfl | rfl | rfl | rfl
    · exact va_eqt (hs (Jvm.Cond.eq (.elem (.static "JammedBodies" "STEP_X" "[I") (.int 0)) (.int 1)) (by decide +kernel))
    · exact va_eqt (hs (Jvm.Cond.eq (.elem (.static "JammedBodies" "STEP_X" "[I") (.int 1)) (.int 1)) (by decide +kernel))
    · exact va_eqt (hs (Jvm.Cond.eq (.elem (.static "JammedBodies" "STEP_X" "[I") (.int 2)) (.int 0)) (by decide +kernel))
    · exact va_eqt (hs (Jvm.Cond.eq (.elem (.static "JammedBodies" "STEP_X" "[I") (.int 3)) (.int (-1))) (by decide +kernel))
    · exact va_eqt (hs (Jvm.Cond.eq (.elem (.static "JammedBodies" "STEP_X" "[I") (.int 4)) (.int (-1))) (by decide +kernel))
    · exact va_eqt (hs (Jvm.Cond.eq (.elem (.static "JammedBodies" "STEP_X" "[I") (.int 5)) (.int (-1))) (by decide +kernel))
    · exact va_eqt (hs (Jvm.Cond.eq (.elem (.static "JammedBodies" "STEP_X" "[I") (.int 6)) (.int 0)) (by decide +kernel))
    · exact va_eqt (hs (Jvm.Cond.eq (.elem (.static "JammedBodies" "STEP_X" "[I") (.int 7)) (.int 1)) (by decide +kernel))) hA
  exact ⟨t, va_Zof (hts _ i_sX) (hts _ i_i4) h1 hA, h2⟩
theorem law_TY {b : Nat} {s : State} (hts : ∀ w ∈ lw_tbl, w.before #[Value.ref b] s = true) (hg : (Jvm.Cond.and given_1 narrow_1).before #[Value.ref b] s = true) : ∃ t : Nat, va_Z "JammedBodies" "STEP_Y" "[I" (.ref t) (fun q => s.heap.size ≤ q) s s.heap ∧ va_T .int t 8 (fun j => .int (stY j)) (fun q => s.heap.size ≤ q) s s.heap := by
  have hs := flat_of_before _ hg
  have hA : ∀ a : Nat, a < s.heap.size → ¬ (fun q => s.heap.size ≤ q) a := fun a h => Nat.not_le.mpr h
  obtain ⟨t, h1, h2⟩ := va_Tof (args := #[Value.ref b]) (s := s) (tm := .static "JammedBodies" "STEP_Y" "[I") (ty := .int) (N := 8) (f := fun j => .int (stY j)) (A := fun q => s.heap.size ≤ q) (by decide) (hs _ (by decide +kernel)) (va_eqt (hs (Jvm.Cond.eq (.length (.static "JammedBodies" "STEP_Y" "[I")) (.int 8)) (by decide +kernel))) (fun j hj => by
    rcases (show j = 0 ∨ j = 1 ∨ j = 2 ∨ j = 3 ∨ j = 4 ∨ j = 5 ∨ j = 6 ∨ j = 7 by omega) with rfl | rfl | rfl | rfl | rfl | rfl | rfl | rfl
    · exact va_eqt (hs (Jvm.Cond.eq (.elem (.static "JammedBodies" "STEP_Y" "[I") (.int 0)) (.int 0)) (by decide +kernel))
    · exact va_eqt (hs (Jvm.Cond.eq (.elem (.static "JammedBodies" "STEP_Y" "[I") (.int 1)) (.int 1)) (by decide +kernel))
    · exact va_eqt (hs (Jvm.Cond.eq (.elem (.static "JammedBodies" "STEP_Y" "[I") (.int 2)) (.int 1)) (by decide +kernel))
    · exact va_eqt (hs (Jvm.Cond.eq (.elem (.static "JammedBodies" "STEP_Y" "[I") (.int 3)) (.int 1)) (by decide +kernel))
    · exact va_eqt (hs (Jvm.Cond.eq (.elem (.static "JammedBodies" "STEP_Y" "[I") (.int 4)) (.int 0)) (by decide +kernel))
    · exact va_eqt (hs (Jvm.Cond.eq (.elem (.static "JammedBodies" "STEP_Y" "[I") (.int 5)) (.int (-1))) (by decide +kernel))
    · exact va_eqt (hs (Jvm.Cond.eq (.elem (.static "JammedBodies" "STEP_Y" "[I") (.int 6)) (.int (-1))) (by decide +kernel))
    · exact va_eqt (hs (Jvm.Cond.eq (.elem (.static "JammedBodies" "STEP_Y" "[I") (.int 7)) (.int (-1))) (by decide +kernel))) hA
  exact ⟨t, va_Zof (hts _ i_sY) (hts _ i_i4) h1 hA, h2⟩
section WLSCRIPT
variable {x : Cn} {G : Gw} {A : Nat → Prop} {nL cs sl f0 l0 : Nat} {Q : State → Prop} {M : Mem} {pc : Nat} {L : List (Nat × Value)} {st : List Value} {own : String} {cc : ByteArray} {Ts : List Cond}
theorem wl_slen (C : CX x G A own cc nL Ts f0 l0 cs sl) {b n : Nat} {xs : Nat → Int32} (hX : va_X b n xs (xS x) (xS x).heap) (hbl : b < (xS x).heap.size) (hbA : ¬ A b) (hd : decode cc pc = .ok (.arraylength, 1)) (k : WL x G A nL cs sl Q M (pc + 1) L (.int (nI n) :: st)) : WL x G A nL cs sl Q M pc L (.ref b :: st) := by
  obtain ⟨p, l, e, R, s, m, args, below, meth, c⟩ := x
  obtain ⟨hx, hb, hml, hown, hts, hK, hAp, hAu, hST, hlk, hNW, hRf, hRl, hcs, hsl⟩ := C
  intro ls H locs hl hP hS
  exact va_slen hx hb hX hbl hbA hS hd (k ls H locs hl hP hS)
theorem wl_sld (C : CX x G A own cc nL Ts f0 l0 cs sl) {b n j : Nat} {xs : Nat → Int32} (hX : va_X b n xs (xS x) (xS x).heap) (hbl : b < (xS x).heap.size) (hbA : ¬ A b) (hj : j < n) (hn : n < 2 ^ 31) (hd : decode cc pc = .ok (.iaload, 1)) (k : WL x G A nL cs sl Q M (pc + 1) L (.int (xs j) :: st)) : WL x G A nL cs sl Q M pc L (.int (nI j) :: .ref b :: st) := by
  obtain ⟨p, l, e, R, s, m, args, below, meth, c⟩ := x
  obtain ⟨hx, hb, hml, hown, hts, hK, hAp, hAu, hST, hlk, hNW, hRf, hRl, hcs, hsl⟩ := C
  intro ls H locs hl hP hS
  refine va_sld hx hb hX hbl hbA hS (vp_in_nI hj hn) hd ?_
  rw [nI_clamp (by omega)]
  exact k ls H locs hl hP hS
end WLSCRIPT
/-- the law's end, with 1 on the stack -/
theorem wk_end {p : Program} {l : Launch} {e : Env} {s : State} {m : MethodId} {below : List Frame} {meth : Method} {c : Code} {b n : Nat} {xs : Nat → Int32} {G : Gw} {nL cs sl : Nat} {ws : va_W} {pc : Nat} {L : List (Nat × Value)} (C0 : lw_At p s m meth c b n xs) (h1 : cs ≤ 835171) (h2 : sl ≤ 6596735) (hd : decode code pc = .ok (.ireturn, 1)) : WK (p, l, e, room_1, s, m, #[Value.ref b], below, meth, c) G (fun q => s.heap.size ≤ q) nL cs sl (lw_Z below #[Value.ref b] s) ws pc L [.int 1] := by
  obtain ⟨hx, hb, hr, hml, hown, hts, hX, hbl, hlocks, hgv⟩ := C0
  intro ls H locs hl hP hD hS
  refine va_forget (fun q hq => hS.2.2 q hq) ?_
  refine W.widen h1 h2 ?_
  refine W.base ?_
  exact lw_ret (Drawn.sameBut.refl s.drawn lw_cs) hx hb hr hlocks hd
