section WLROWS
variable {x : Cn} {G : Gw} {A : Nat → Prop} {nL cs sl f0 l0 : Nat} {Q : State → Prop} {M : Mem} {pc : Nat} {L : List (Nat × Value)} {st : List Value} {own : String} {cc : ByteArray} {Ts : List Cond}
theorem wl_iconst (C : CX x G A own cc nL Ts f0 l0 cs sl) {n : Int} {v : Int32} (hd : decode cc pc = .ok (.iconst n, 1)) (hv : Int32.ofInt n = v) (k : WL x G A nL cs sl Q M (pc + 1) L (.int v :: st)) : WL x G A nL cs sl Q M pc L st := by
  obtain ⟨p, l, e, R, s, m, args, below, meth, c⟩ := x
  obtain ⟨hx, hb, hml, hown, hts, hK, hAp, hAu, hST, hlk, hNW, hRf, hRl, hcs, hsl⟩ := C
  intro ls H locs hl hP hS
  exact lv_iconst hx hb hd hv (k ls H locs hl hP hS)
theorem wl_bipush (C : CX x G A own cc nL Ts f0 l0 cs sl) {n : Int} {v : Int32} (hd : decode cc pc = .ok (.bipush n, 2)) (hv : (Int8.ofInt n).toInt32 = v) (k : WL x G A nL cs sl Q M (pc + 2) L (.int v :: st)) : WL x G A nL cs sl Q M pc L st := by
  obtain ⟨p, l, e, R, s, m, args, below, meth, c⟩ := x
  obtain ⟨hx, hb, hml, hown, hts, hK, hAp, hAu, hST, hlk, hNW, hRf, hRl, hcs, hsl⟩ := C
  intro ls H locs hl hP hS
  exact lv_bipush hx hb hd hv (k ls H locs hl hP hS)
theorem wl_sipush (C : CX x G A own cc nL Ts f0 l0 cs sl) {n : Int} {v : Int32} (hd : decode cc pc = .ok (.sipush n, 3)) (hv : (Int16.ofInt n).toInt32 = v) (k : WL x G A nL cs sl Q M (pc + 3) L (.int v :: st)) : WL x G A nL cs sl Q M pc L st := by
  obtain ⟨p, l, e, R, s, m, args, below, meth, c⟩ := x
  obtain ⟨hx, hb, hml, hown, hts, hK, hAp, hAu, hST, hlk, hNW, hRf, hRl, hcs, hsl⟩ := C
  intro ls H locs hl hP hS
  exact lv_sipush hx hb hd hv (k ls H locs hl hP hS)
theorem wl_lconst (C : CX x G A own cc nL Ts f0 l0 cs sl) {n : Fin 2} {v : Int64} (hd : decode cc pc = .ok (.lconst n, 1)) (hv : Int64.ofNat (n : Nat) = v) (k : WL x G A nL cs sl Q M (pc + 1) L (.long v :: st)) : WL x G A nL cs sl Q M pc L st := by
  obtain ⟨p, l, e, R, s, m, args, below, meth, c⟩ := x
  obtain ⟨hx, hb, hml, hown, hts, hK, hAp, hAu, hST, hlk, hNW, hRf, hRl, hcs, hsl⟩ := C
  intro ls H locs hl hP hS
  exact lv_lconst hx hb hd hv (k ls H locs hl hP hS)
theorem wl_ldc (C : CX x G A own cc nL Ts f0 l0 cs sl) {index : Nat} {v : Int32} (hc : Jvm.Cond.constant own index v ∈ Ts) (hd : decode cc pc = .ok (.ldc index, 2)) (k : WL x G A nL cs sl Q M (pc + 2) L (.int v :: st)) : WL x G A nL cs sl Q M pc L st := by
  obtain ⟨p, l, e, R, s, m, args, below, meth, c⟩ := x
  obtain ⟨hx, hb, hml, hown, hts, hK, hAp, hAu, hST, hlk, hNW, hRf, hRl, hcs, hsl⟩ := C
  intro ls H locs hl hP hS
  exact lv_ldc hx hb hown (hts _ hc) hd (k ls H locs hl hP hS)
theorem wl_ldc2 (C : CX x G A own cc nL Ts f0 l0 cs sl) {index : Nat} {v : Int64} (hc : Jvm.Cond.constantLong own index v ∈ Ts) (hd : decode cc pc = .ok (.ldc2_w index, 3)) (k : WL x G A nL cs sl Q M (pc + 3) L (.long v :: st)) : WL x G A nL cs sl Q M pc L st := by
  obtain ⟨p, l, e, R, s, m, args, below, meth, c⟩ := x
  obtain ⟨hx, hb, hml, hown, hts, hK, hAp, hAu, hST, hlk, hNW, hRf, hRl, hcs, hsl⟩ := C
  intro ls H locs hl hP hS
  exact lv_ldc2 hx hb hown (hts _ hc) hd (k ls H locs hl hP hS)
theorem wl_iload_n (C : CX x G A own cc nL Ts f0 l0 cs sl) {k : Fin 4} {i : Nat} {v : Int32} (q : Nat) (hd : decode cc pc = .ok (.iload_n k, 1)) (hi : (k : Nat) = i) (hq : L[q]? = some (i, .int v)) (k : WL x G A nL cs sl Q M (pc + 1) L (.int v :: st)) : WL x G A nL cs sl Q M pc L st := by
  obtain ⟨p, l, e, R, s, m, args, below, meth, c⟩ := x
  obtain ⟨hx, hb, hml, hown, hts, hK, hAp, hAu, hST, hlk, hNW, hRf, hRl, hcs, hsl⟩ := C
  intro ls H locs hl hP hS
  exact lv_iload_n hx hb hd hi (lv_at hl q hq) (k ls H locs hl hP hS)
theorem wl_iload (C : CX x G A own cc nL Ts f0 l0 cs sl) {i : Nat} {v : Int32} (q : Nat) (hd : decode cc pc = .ok (.iload i, 2)) (hq : L[q]? = some (i, .int v)) (k : WL x G A nL cs sl Q M (pc + 2) L (.int v :: st)) : WL x G A nL cs sl Q M pc L st := by
  obtain ⟨p, l, e, R, s, m, args, below, meth, c⟩ := x
  obtain ⟨hx, hb, hml, hown, hts, hK, hAp, hAu, hST, hlk, hNW, hRf, hRl, hcs, hsl⟩ := C
  intro ls H locs hl hP hS
  exact lv_iload hx hb hd (lv_at hl q hq) (k ls H locs hl hP hS)
theorem wl_lload_n (C : CX x G A own cc nL Ts f0 l0 cs sl) {k : Fin 4} {i : Nat} {v : Int64} (q : Nat) (hd : decode cc pc = .ok (.lload_n k, 1)) (hi : (k : Nat) = i) (hq : L[q]? = some (i, .long v)) (k : WL x G A nL cs sl Q M (pc + 1) L (.long v :: st)) : WL x G A nL cs sl Q M pc L st := by
  obtain ⟨p, l, e, R, s, m, args, below, meth, c⟩ := x
  obtain ⟨hx, hb, hml, hown, hts, hK, hAp, hAu, hST, hlk, hNW, hRf, hRl, hcs, hsl⟩ := C
  intro ls H locs hl hP hS
  exact lv_lload_n hx hb hd hi (lv_at hl q hq) (k ls H locs hl hP hS)
theorem wl_lload (C : CX x G A own cc nL Ts f0 l0 cs sl) {i : Nat} {v : Int64} (q : Nat) (hd : decode cc pc = .ok (.lload i, 2)) (hq : L[q]? = some (i, .long v)) (k : WL x G A nL cs sl Q M (pc + 2) L (.long v :: st)) : WL x G A nL cs sl Q M pc L st := by
  obtain ⟨p, l, e, R, s, m, args, below, meth, c⟩ := x
  obtain ⟨hx, hb, hml, hown, hts, hK, hAp, hAu, hST, hlk, hNW, hRf, hRl, hcs, hsl⟩ := C
  intro ls H locs hl hP hS
  exact lv_lload hx hb hd (lv_at hl q hq) (k ls H locs hl hP hS)
theorem wl_fload_n (C : CX x G A own cc nL Ts f0 l0 cs sl) {k : Fin 4} {i : Nat} {v : UInt32} (q : Nat) (hd : decode cc pc = .ok (.fload_n k, 1)) (hi : (k : Nat) = i) (hq : L[q]? = some (i, .float v)) (k : WL x G A nL cs sl Q M (pc + 1) L (.float v :: st)) : WL x G A nL cs sl Q M pc L st := by
  obtain ⟨p, l, e, R, s, m, args, below, meth, c⟩ := x
  obtain ⟨hx, hb, hml, hown, hts, hK, hAp, hAu, hST, hlk, hNW, hRf, hRl, hcs, hsl⟩ := C
  intro ls H locs hl hP hS
  exact lv_fload_n hx hb hd hi (lv_at hl q hq) (k ls H locs hl hP hS)
theorem wl_aload_n (C : CX x G A own cc nL Ts f0 l0 cs sl) {k : Fin 4} {i : Nat} {v : Nat} (q : Nat) (hd : decode cc pc = .ok (.aload_n k, 1)) (hi : (k : Nat) = i) (hq : L[q]? = some (i, .ref v)) (k : WL x G A nL cs sl Q M (pc + 1) L (.ref v :: st)) : WL x G A nL cs sl Q M pc L st := by
  obtain ⟨p, l, e, R, s, m, args, below, meth, c⟩ := x
  obtain ⟨hx, hb, hml, hown, hts, hK, hAp, hAu, hST, hlk, hNW, hRf, hRl, hcs, hsl⟩ := C
  intro ls H locs hl hP hS
  exact lv_aload_n hx hb hd hi (lv_at hl q hq) (k ls H locs hl hP hS)
theorem wl_aload (C : CX x G A own cc nL Ts f0 l0 cs sl) {i : Nat} {v : Nat} (q : Nat) (hd : decode cc pc = .ok (.aload i, 2)) (hq : L[q]? = some (i, .ref v)) (k : WL x G A nL cs sl Q M (pc + 2) L (.ref v :: st)) : WL x G A nL cs sl Q M pc L st := by
  obtain ⟨p, l, e, R, s, m, args, below, meth, c⟩ := x
  obtain ⟨hx, hb, hml, hown, hts, hK, hAp, hAu, hST, hlk, hNW, hRf, hRl, hcs, hsl⟩ := C
  intro ls H locs hl hP hS
  exact lv_aload hx hb hd (lv_at hl q hq) (k ls H locs hl hP hS)
theorem wl_istore_n (C : CX x G A own cc nL Ts f0 l0 cs sl) {kf : Fin 4} {i : Nat} {v : Int32} {L' : List (Nat × Value)} (hd : decode cc pc = .ok (.istore_n kf, 1)) (hi : (kf : Nat) = i) (hn : i < nL) (hL : (i, Value.int v) :: L.filter (fun q => !(q.1 == i) && !(q.1 + 1 == i && q.2.category == 2)) = L') (k : WL x G A nL cs sl Q M (pc + 1) L' st) : WL x G A nL cs sl Q M pc L (.int v :: st) := by
  obtain ⟨p, l, e, R, s, m, args, below, meth, c⟩ := x
  obtain ⟨hx, hb, hml, hown, hts, hK, hAp, hAu, hST, hlk, hNW, hRf, hRl, hcs, hsl⟩ := C
  intro ls H locs hl hP hS
  exact lv_istore_n hx hb hd hi hl hn hL (fun ls1 hl1 => k ls1 H locs hl1 hP hS)
theorem wl_istore (C : CX x G A own cc nL Ts f0 l0 cs sl) {i : Nat} {v : Int32} {L' : List (Nat × Value)} (hd : decode cc pc = .ok (.istore i, 2)) (hn : i < nL) (hL : (i, Value.int v) :: L.filter (fun q => !(q.1 == i) && !(q.1 + 1 == i && q.2.category == 2)) = L') (k : WL x G A nL cs sl Q M (pc + 2) L' st) : WL x G A nL cs sl Q M pc L (.int v :: st) := by
  obtain ⟨p, l, e, R, s, m, args, below, meth, c⟩ := x
  obtain ⟨hx, hb, hml, hown, hts, hK, hAp, hAu, hST, hlk, hNW, hRf, hRl, hcs, hsl⟩ := C
  intro ls H locs hl hP hS
  exact lv_istore hx hb hd hl hn hL (fun ls1 hl1 => k ls1 H locs hl1 hP hS)
theorem wl_lstore_n (C : CX x G A own cc nL Ts f0 l0 cs sl) {kf : Fin 4} {i : Nat} {v : Int64} {L' : List (Nat × Value)} (hd : decode cc pc = .ok (.lstore_n kf, 1)) (hi : (kf : Nat) = i) (hn : i + 1 < nL) (hL : (i, Value.long v) :: L.filter (fun q => !(q.1 == i) && (!(q.1 == i + 1) && !(q.1 + 1 == i && q.2.category == 2))) = L') (k : WL x G A nL cs sl Q M (pc + 1) L' st) : WL x G A nL cs sl Q M pc L (.long v :: st) := by
  obtain ⟨p, l, e, R, s, m, args, below, meth, c⟩ := x
  obtain ⟨hx, hb, hml, hown, hts, hK, hAp, hAu, hST, hlk, hNW, hRf, hRl, hcs, hsl⟩ := C
  intro ls H locs hl hP hS
  exact lv_lstore_n hx hb hd hi hl hn hL (fun ls1 hl1 => k ls1 H locs hl1 hP hS)
theorem wl_lstore (C : CX x G A own cc nL Ts f0 l0 cs sl) {i : Nat} {v : Int64} {L' : List (Nat × Value)} (hd : decode cc pc = .ok (.lstore i, 2)) (hn : i + 1 < nL) (hL : (i, Value.long v) :: L.filter (fun q => !(q.1 == i) && (!(q.1 == i + 1) && !(q.1 + 1 == i && q.2.category == 2))) = L') (k : WL x G A nL cs sl Q M (pc + 2) L' st) : WL x G A nL cs sl Q M pc L (.long v :: st) := by
  obtain ⟨p, l, e, R, s, m, args, below, meth, c⟩ := x
  obtain ⟨hx, hb, hml, hown, hts, hK, hAp, hAu, hST, hlk, hNW, hRf, hRl, hcs, hsl⟩ := C
  intro ls H locs hl hP hS
  exact lv_lstore hx hb hd hl hn hL (fun ls1 hl1 => k ls1 H locs hl1 hP hS)
theorem wl_fstore_n (C : CX x G A own cc nL Ts f0 l0 cs sl) {kf : Fin 4} {i : Nat} {v : UInt32} {L' : List (Nat × Value)} (hd : decode cc pc = .ok (.fstore_n kf, 1)) (hi : (kf : Nat) = i) (hn : i < nL) (hL : (i, Value.float v) :: L.filter (fun q => !(q.1 == i) && !(q.1 + 1 == i && q.2.category == 2)) = L') (k : WL x G A nL cs sl Q M (pc + 1) L' st) : WL x G A nL cs sl Q M pc L (.float v :: st) := by
  obtain ⟨p, l, e, R, s, m, args, below, meth, c⟩ := x
  obtain ⟨hx, hb, hml, hown, hts, hK, hAp, hAu, hST, hlk, hNW, hRf, hRl, hcs, hsl⟩ := C
  intro ls H locs hl hP hS
  exact lv_fstore_n hx hb hd hi hl hn hL (fun ls1 hl1 => k ls1 H locs hl1 hP hS)
theorem wl_astore_n (C : CX x G A own cc nL Ts f0 l0 cs sl) {kf : Fin 4} {i : Nat} {v : Nat} {L' : List (Nat × Value)} (hd : decode cc pc = .ok (.astore_n kf, 1)) (hi : (kf : Nat) = i) (hn : i < nL) (hL : (i, Value.ref v) :: L.filter (fun q => !(q.1 == i) && !(q.1 + 1 == i && q.2.category == 2)) = L') (k : WL x G A nL cs sl Q M (pc + 1) L' st) : WL x G A nL cs sl Q M pc L (.ref v :: st) := by
  obtain ⟨p, l, e, R, s, m, args, below, meth, c⟩ := x
  obtain ⟨hx, hb, hml, hown, hts, hK, hAp, hAu, hST, hlk, hNW, hRf, hRl, hcs, hsl⟩ := C
  intro ls H locs hl hP hS
  exact lv_astore_n hx hb hd hi hl hn hL (fun ls1 hl1 => k ls1 H locs hl1 hP hS)
theorem wl_astore (C : CX x G A own cc nL Ts f0 l0 cs sl) {i : Nat} {v : Nat} {L' : List (Nat × Value)} (hd : decode cc pc = .ok (.astore i, 2)) (hn : i < nL) (hL : (i, Value.ref v) :: L.filter (fun q => !(q.1 == i) && !(q.1 + 1 == i && q.2.category == 2)) = L') (k : WL x G A nL cs sl Q M (pc + 2) L' st) : WL x G A nL cs sl Q M pc L (.ref v :: st) := by
  obtain ⟨p, l, e, R, s, m, args, below, meth, c⟩ := x
  obtain ⟨hx, hb, hml, hown, hts, hK, hAp, hAu, hST, hlk, hNW, hRf, hRl, hcs, hsl⟩ := C
  intro ls H locs hl hP hS
  exact lv_astore hx hb hd hl hn hL (fun ls1 hl1 => k ls1 H locs hl1 hP hS)
theorem wl_iinc (C : CX x G A own cc nL Ts f0 l0 cs sl) {i : Nat} {n : Int} {v w : Int32} {L' : List (Nat × Value)} (q : Nat) (hd : decode cc pc = .ok (.iinc i n, 3)) (hq : L[q]? = some (i, .int v)) (hv : v + Int32.ofInt n = w) (hn : i < nL) (hL : (i, Value.int w) :: L.filter (fun q => !(q.1 == i) && !(q.1 + 1 == i && q.2.category == 2)) = L') (k : WL x G A nL cs sl Q M (pc + 3) L' st) : WL x G A nL cs sl Q M pc L st := by
  obtain ⟨p, l, e, R, s, m, args, below, meth, c⟩ := x
  obtain ⟨hx, hb, hml, hown, hts, hK, hAp, hAu, hST, hlk, hNW, hRf, hRl, hcs, hsl⟩ := C
  intro ls H locs hl hP hS
  exact lv_iinc hx hb hd hl hq hv hn hL (fun ls1 hl1 => k ls1 H locs hl1 hP hS)
theorem wl_iadd (C : CX x G A own cc nL Ts f0 l0 cs sl) {a b : Int32} (hd : decode cc pc = .ok (.iadd, 1)) (k : WL x G A nL cs sl Q M (pc + 1) L (.int (a + b) :: st)) : WL x G A nL cs sl Q M pc L (.int b :: .int a :: st) := by
  obtain ⟨p, l, e, R, s, m, args, below, meth, c⟩ := x
  obtain ⟨hx, hb, hml, hown, hts, hK, hAp, hAu, hST, hlk, hNW, hRf, hRl, hcs, hsl⟩ := C
  intro ls H locs hl hP hS
  exact lv_iadd hx hb hd (k ls H locs hl hP hS)
theorem wl_isub (C : CX x G A own cc nL Ts f0 l0 cs sl) {a b : Int32} (hd : decode cc pc = .ok (.isub, 1)) (k : WL x G A nL cs sl Q M (pc + 1) L (.int (a - b) :: st)) : WL x G A nL cs sl Q M pc L (.int b :: .int a :: st) := by
  obtain ⟨p, l, e, R, s, m, args, below, meth, c⟩ := x
  obtain ⟨hx, hb, hml, hown, hts, hK, hAp, hAu, hST, hlk, hNW, hRf, hRl, hcs, hsl⟩ := C
  intro ls H locs hl hP hS
  exact lv_isub hx hb hd (k ls H locs hl hP hS)
theorem wl_imul (C : CX x G A own cc nL Ts f0 l0 cs sl) {a b : Int32} (hd : decode cc pc = .ok (.imul, 1)) (k : WL x G A nL cs sl Q M (pc + 1) L (.int (a * b) :: st)) : WL x G A nL cs sl Q M pc L (.int b :: .int a :: st) := by
  obtain ⟨p, l, e, R, s, m, args, below, meth, c⟩ := x
  obtain ⟨hx, hb, hml, hown, hts, hK, hAp, hAu, hST, hlk, hNW, hRf, hRl, hcs, hsl⟩ := C
  intro ls H locs hl hP hS
  exact lv_imul hx hb hd (k ls H locs hl hP hS)
theorem wl_iand (C : CX x G A own cc nL Ts f0 l0 cs sl) {a b : Int32} (hd : decode cc pc = .ok (.iand, 1)) (k : WL x G A nL cs sl Q M (pc + 1) L (.int (a &&& b) :: st)) : WL x G A nL cs sl Q M pc L (.int b :: .int a :: st) := by
  obtain ⟨p, l, e, R, s, m, args, below, meth, c⟩ := x
  obtain ⟨hx, hb, hml, hown, hts, hK, hAp, hAu, hST, hlk, hNW, hRf, hRl, hcs, hsl⟩ := C
  intro ls H locs hl hP hS
  exact lv_iand hx hb hd (k ls H locs hl hP hS)
theorem wl_ior (C : CX x G A own cc nL Ts f0 l0 cs sl) {a b : Int32} (hd : decode cc pc = .ok (.ior, 1)) (k : WL x G A nL cs sl Q M (pc + 1) L (.int (a ||| b) :: st)) : WL x G A nL cs sl Q M pc L (.int b :: .int a :: st) := by
  obtain ⟨p, l, e, R, s, m, args, below, meth, c⟩ := x
  obtain ⟨hx, hb, hml, hown, hts, hK, hAp, hAu, hST, hlk, hNW, hRf, hRl, hcs, hsl⟩ := C
  intro ls H locs hl hP hS
  exact lv_ior hx hb hd (k ls H locs hl hP hS)
theorem wl_ixor (C : CX x G A own cc nL Ts f0 l0 cs sl) {a b : Int32} (hd : decode cc pc = .ok (.ixor, 1)) (k : WL x G A nL cs sl Q M (pc + 1) L (.int (a ^^^ b) :: st)) : WL x G A nL cs sl Q M pc L (.int b :: .int a :: st) := by
  obtain ⟨p, l, e, R, s, m, args, below, meth, c⟩ := x
  obtain ⟨hx, hb, hml, hown, hts, hK, hAp, hAu, hST, hlk, hNW, hRf, hRl, hcs, hsl⟩ := C
  intro ls H locs hl hP hS
  exact lv_ixor hx hb hd (k ls H locs hl hP hS)
theorem wl_ishl (C : CX x G A own cc nL Ts f0 l0 cs sl) {a b : Int32} (hd : decode cc pc = .ok (.ishl, 1)) (k : WL x G A nL cs sl Q M (pc + 1) L (.int (a <<< (b &&& 31)) :: st)) : WL x G A nL cs sl Q M pc L (.int b :: .int a :: st) := by
  obtain ⟨p, l, e, R, s, m, args, below, meth, c⟩ := x
  obtain ⟨hx, hb, hml, hown, hts, hK, hAp, hAu, hST, hlk, hNW, hRf, hRl, hcs, hsl⟩ := C
  intro ls H locs hl hP hS
  exact lv_ishl hx hb hd (k ls H locs hl hP hS)
theorem wl_ishr (C : CX x G A own cc nL Ts f0 l0 cs sl) {a b : Int32} (hd : decode cc pc = .ok (.ishr, 1)) (k : WL x G A nL cs sl Q M (pc + 1) L (.int (a >>> (b &&& 31)) :: st)) : WL x G A nL cs sl Q M pc L (.int b :: .int a :: st) := by
  obtain ⟨p, l, e, R, s, m, args, below, meth, c⟩ := x
  obtain ⟨hx, hb, hml, hown, hts, hK, hAp, hAu, hST, hlk, hNW, hRf, hRl, hcs, hsl⟩ := C
  intro ls H locs hl hP hS
  exact lv_ishr hx hb hd (k ls H locs hl hP hS)
theorem wl_ladd (C : CX x G A own cc nL Ts f0 l0 cs sl) {a b : Int64} (hd : decode cc pc = .ok (.ladd, 1)) (k : WL x G A nL cs sl Q M (pc + 1) L (.long (a + b) :: st)) : WL x G A nL cs sl Q M pc L (.long b :: .long a :: st) := by
  obtain ⟨p, l, e, R, s, m, args, below, meth, c⟩ := x
  obtain ⟨hx, hb, hml, hown, hts, hK, hAp, hAu, hST, hlk, hNW, hRf, hRl, hcs, hsl⟩ := C
  intro ls H locs hl hP hS
  exact lv_ladd hx hb hd (k ls H locs hl hP hS)
theorem wl_lsub (C : CX x G A own cc nL Ts f0 l0 cs sl) {a b : Int64} (hd : decode cc pc = .ok (.lsub, 1)) (k : WL x G A nL cs sl Q M (pc + 1) L (.long (a - b) :: st)) : WL x G A nL cs sl Q M pc L (.long b :: .long a :: st) := by
  obtain ⟨p, l, e, R, s, m, args, below, meth, c⟩ := x
  obtain ⟨hx, hb, hml, hown, hts, hK, hAp, hAu, hST, hlk, hNW, hRf, hRl, hcs, hsl⟩ := C
  intro ls H locs hl hP hS
  exact lv_lsub hx hb hd (k ls H locs hl hP hS)
theorem wl_lmul (C : CX x G A own cc nL Ts f0 l0 cs sl) {a b : Int64} (hd : decode cc pc = .ok (.lmul, 1)) (k : WL x G A nL cs sl Q M (pc + 1) L (.long (a * b) :: st)) : WL x G A nL cs sl Q M pc L (.long b :: .long a :: st) := by
  obtain ⟨p, l, e, R, s, m, args, below, meth, c⟩ := x
  obtain ⟨hx, hb, hml, hown, hts, hK, hAp, hAu, hST, hlk, hNW, hRf, hRl, hcs, hsl⟩ := C
  intro ls H locs hl hP hS
  exact lv_lmul hx hb hd (k ls H locs hl hP hS)
theorem wl_idiv (C : CX x G A own cc nL Ts f0 l0 cs sl) {a b : Int32} (hd : decode cc pc = .ok (.idiv, 1)) (hne : ¬ b = 0) (k : WL x G A nL cs sl Q M (pc + 1) L (.int (a / b) :: st)) : WL x G A nL cs sl Q M pc L (.int b :: .int a :: st) := by
  obtain ⟨p, l, e, R, s, m, args, below, meth, c⟩ := x
  obtain ⟨hx, hb, hml, hown, hts, hK, hAp, hAu, hST, hlk, hNW, hRf, hRl, hcs, hsl⟩ := C
  intro ls H locs hl hP hS
  exact lv_idiv hx hb hd hne (k ls H locs hl hP hS)
theorem wl_irem (C : CX x G A own cc nL Ts f0 l0 cs sl) {a b : Int32} (hd : decode cc pc = .ok (.irem, 1)) (hne : ¬ b = 0) (k : WL x G A nL cs sl Q M (pc + 1) L (.int (a - a / b * b) :: st)) : WL x G A nL cs sl Q M pc L (.int b :: .int a :: st) := by
  obtain ⟨p, l, e, R, s, m, args, below, meth, c⟩ := x
  obtain ⟨hx, hb, hml, hown, hts, hK, hAp, hAu, hST, hlk, hNW, hRf, hRl, hcs, hsl⟩ := C
  intro ls H locs hl hP hS
  exact lv_irem hx hb hd hne (k ls H locs hl hP hS)
theorem wl_ldiv (C : CX x G A own cc nL Ts f0 l0 cs sl) {a b : Int64} (hd : decode cc pc = .ok (.ldiv, 1)) (hne : ¬ b = 0) (k : WL x G A nL cs sl Q M (pc + 1) L (.long (a / b) :: st)) : WL x G A nL cs sl Q M pc L (.long b :: .long a :: st) := by
  obtain ⟨p, l, e, R, s, m, args, below, meth, c⟩ := x
  obtain ⟨hx, hb, hml, hown, hts, hK, hAp, hAu, hST, hlk, hNW, hRf, hRl, hcs, hsl⟩ := C
  intro ls H locs hl hP hS
  exact lv_ldiv hx hb hd hne (k ls H locs hl hP hS)
theorem wl_lrem (C : CX x G A own cc nL Ts f0 l0 cs sl) {a b : Int64} (hd : decode cc pc = .ok (.lrem, 1)) (hne : ¬ b = 0) (k : WL x G A nL cs sl Q M (pc + 1) L (.long (a - a / b * b) :: st)) : WL x G A nL cs sl Q M pc L (.long b :: .long a :: st) := by
  obtain ⟨p, l, e, R, s, m, args, below, meth, c⟩ := x
  obtain ⟨hx, hb, hml, hown, hts, hK, hAp, hAu, hST, hlk, hNW, hRf, hRl, hcs, hsl⟩ := C
  intro ls H locs hl hP hS
  exact lv_lrem hx hb hd hne (k ls H locs hl hP hS)
theorem wl_ineg (C : CX x G A own cc nL Ts f0 l0 cs sl) {a : Int32} (hd : decode cc pc = .ok (.ineg, 1)) (k : WL x G A nL cs sl Q M (pc + 1) L (.int (-a) :: st)) : WL x G A nL cs sl Q M pc L (.int a :: st) := by
  obtain ⟨p, l, e, R, s, m, args, below, meth, c⟩ := x
  obtain ⟨hx, hb, hml, hown, hts, hK, hAp, hAu, hST, hlk, hNW, hRf, hRl, hcs, hsl⟩ := C
  intro ls H locs hl hP hS
  exact lv_ineg hx hb hd (k ls H locs hl hP hS)
theorem wl_i2l (C : CX x G A own cc nL Ts f0 l0 cs sl) {a : Int32} {v : Int64} (hd : decode cc pc = .ok (.i2l, 1)) (hv : a.toInt64 = v) (k : WL x G A nL cs sl Q M (pc + 1) L (.long v :: st)) : WL x G A nL cs sl Q M pc L (.int a :: st) := by
  obtain ⟨p, l, e, R, s, m, args, below, meth, c⟩ := x
  obtain ⟨hx, hb, hml, hown, hts, hK, hAp, hAu, hST, hlk, hNW, hRf, hRl, hcs, hsl⟩ := C
  intro ls H locs hl hP hS
  exact lv_i2l hx hb hd hv (k ls H locs hl hP hS)
theorem wl_l2i (C : CX x G A own cc nL Ts f0 l0 cs sl) {a : Int64} {v : Int32} (hd : decode cc pc = .ok (.l2i, 1)) (hv : a.toInt32 = v) (k : WL x G A nL cs sl Q M (pc + 1) L (.int v :: st)) : WL x G A nL cs sl Q M pc L (.long a :: st) := by
  obtain ⟨p, l, e, R, s, m, args, below, meth, c⟩ := x
  obtain ⟨hx, hb, hml, hown, hts, hK, hAp, hAu, hST, hlk, hNW, hRf, hRl, hcs, hsl⟩ := C
  intro ls H locs hl hP hS
  exact lv_l2i hx hb hd hv (k ls H locs hl hP hS)
theorem wl_i2c (C : CX x G A own cc nL Ts f0 l0 cs sl) {a v : Int32} (hd : decode cc pc = .ok (.i2c, 1)) (hv : (a.toUInt32 % 65536).toInt32 = v) (k : WL x G A nL cs sl Q M (pc + 1) L (.int v :: st)) : WL x G A nL cs sl Q M pc L (.int a :: st) := by
  obtain ⟨p, l, e, R, s, m, args, below, meth, c⟩ := x
  obtain ⟨hx, hb, hml, hown, hts, hK, hAp, hAu, hST, hlk, hNW, hRf, hRl, hcs, hsl⟩ := C
  intro ls H locs hl hP hS
  exact lv_i2c hx hb hd hv (k ls H locs hl hP hS)
theorem wl_lcmp (C : CX x G A own cc nL Ts f0 l0 cs sl) {a b : Int64} (hd : decode cc pc = .ok (.lcmp, 1)) (k : WL x G A nL cs sl Q M (pc + 1) L (.int (lg_cmp a b) :: st)) : WL x G A nL cs sl Q M pc L (.long b :: .long a :: st) := by
  obtain ⟨p, l, e, R, s, m, args, below, meth, c⟩ := x
  obtain ⟨hx, hb, hml, hown, hts, hK, hAp, hAu, hST, hlk, hNW, hRf, hRl, hcs, hsl⟩ := C
  intro ls H locs hl hP hS
  exact W.lcmp hx hb hd (k ls H locs hl hP hS)
theorem wl_dup (C : CX x G A own cc nL Ts f0 l0 cs sl) {v : Value} (hd : decode cc pc = .ok (.dup, 1)) (hv : v.category = 1) (k : WL x G A nL cs sl Q M (pc + 1) L (v :: v :: st)) : WL x G A nL cs sl Q M pc L (v :: st) := by
  obtain ⟨p, l, e, R, s, m, args, below, meth, c⟩ := x
  obtain ⟨hx, hb, hml, hown, hts, hK, hAp, hAu, hST, hlk, hNW, hRf, hRl, hcs, hsl⟩ := C
  intro ls H locs hl hP hS
  exact lv_dup hx hb hd hv (k ls H locs hl hP hS)
theorem wl_dup2 (C : CX x G A own cc nL Ts f0 l0 cs sl) {v w : Value} (hd : decode cc pc = .ok (.dup2, 1)) (hv : v.category = 1) (hw : w.category = 1) (k : WL x G A nL cs sl Q M (pc + 1) L (v :: w :: v :: w :: st)) : WL x G A nL cs sl Q M pc L (v :: w :: st) := by
  obtain ⟨p, l, e, R, s, m, args, below, meth, c⟩ := x
  obtain ⟨hx, hb, hml, hown, hts, hK, hAp, hAu, hST, hlk, hNW, hRf, hRl, hcs, hsl⟩ := C
  intro ls H locs hl hP hS
  exact lv_dup2_11 hx hb hd hv hw (k ls H locs hl hP hS)
theorem wl_fconst0 (C : CX x G A own cc nL Ts f0 l0 cs sl)  (hd : decode cc pc = .ok (.fconst 0, 1)) (k : WL x G A nL cs sl Q M (pc + 1) L (.float FP.fconst0 :: st)) : WL x G A nL cs sl Q M pc L st := by
  obtain ⟨p, l, e, R, s, m, args, below, meth, c⟩ := x
  obtain ⟨hx, hb, hml, hown, hts, hK, hAp, hAu, hST, hlk, hNW, hRf, hRl, hcs, hsl⟩ := C
  intro ls H locs hl hP hS
  exact lv_fconst0 hx hb hd (k ls H locs hl hP hS)
theorem wl_fconst1 (C : CX x G A own cc nL Ts f0 l0 cs sl)  (hd : decode cc pc = .ok (.fconst 1, 1)) (k : WL x G A nL cs sl Q M (pc + 1) L (.float FP.fconst1 :: st)) : WL x G A nL cs sl Q M pc L st := by
  obtain ⟨p, l, e, R, s, m, args, below, meth, c⟩ := x
  obtain ⟨hx, hb, hml, hown, hts, hK, hAp, hAu, hST, hlk, hNW, hRf, hRl, hcs, hsl⟩ := C
  intro ls H locs hl hP hS
  exact lv_fconst1 hx hb hd (k ls H locs hl hP hS)
theorem wl_fconst2 (C : CX x G A own cc nL Ts f0 l0 cs sl)  (hd : decode cc pc = .ok (.fconst 2, 1)) (k : WL x G A nL cs sl Q M (pc + 1) L (.float FP.fconst2 :: st)) : WL x G A nL cs sl Q M pc L st := by
  obtain ⟨p, l, e, R, s, m, args, below, meth, c⟩ := x
  obtain ⟨hx, hb, hml, hown, hts, hK, hAp, hAu, hST, hlk, hNW, hRf, hRl, hcs, hsl⟩ := C
  intro ls H locs hl hP hS
  exact lv_fconst2 hx hb hd (k ls H locs hl hP hS)
theorem wl_fsub (C : CX x G A own cc nL Ts f0 l0 cs sl) {a b : UInt32} (hd : decode cc pc = .ok (.fsub, 1)) (hne : vf_n32 (FP.fsub a b)) (k : WL x G A nL cs sl Q M (pc + 1) L (.float (FP.fsub a b) :: st)) : WL x G A nL cs sl Q M pc L (.float b :: .float a :: st) := by
  obtain ⟨p, l, e, R, s, m, args, below, meth, c⟩ := x
  obtain ⟨hx, hb, hml, hown, hts, hK, hAp, hAu, hST, hlk, hNW, hRf, hRl, hcs, hsl⟩ := C
  intro ls H locs hl hP hS
  exact lv_fsub hx hb hd hne (k ls H locs hl hP hS)
theorem wl_fmul (C : CX x G A own cc nL Ts f0 l0 cs sl) {a b : UInt32} (hd : decode cc pc = .ok (.fmul, 1)) (hne : vf_n32 (FP.fmul a b)) (k : WL x G A nL cs sl Q M (pc + 1) L (.float (FP.fmul a b) :: st)) : WL x G A nL cs sl Q M pc L (.float b :: .float a :: st) := by
  obtain ⟨p, l, e, R, s, m, args, below, meth, c⟩ := x
  obtain ⟨hx, hb, hml, hown, hts, hK, hAp, hAu, hST, hlk, hNW, hRf, hRl, hcs, hsl⟩ := C
  intro ls H locs hl hP hS
  exact lv_fmul hx hb hd hne (k ls H locs hl hP hS)
theorem wl_fdiv (C : CX x G A own cc nL Ts f0 l0 cs sl) {a b : UInt32} (hd : decode cc pc = .ok (.fdiv, 1)) (hne : vf_n32 (FP.fdiv a b)) (k : WL x G A nL cs sl Q M (pc + 1) L (.float (FP.fdiv a b) :: st)) : WL x G A nL cs sl Q M pc L (.float b :: .float a :: st) := by
  obtain ⟨p, l, e, R, s, m, args, below, meth, c⟩ := x
  obtain ⟨hx, hb, hml, hown, hts, hK, hAp, hAu, hST, hlk, hNW, hRf, hRl, hcs, hsl⟩ := C
  intro ls H locs hl hP hS
  exact lv_fdiv hx hb hd hne (k ls H locs hl hP hS)
theorem wl_fcmp (C : CX x G A own cc nL Ts f0 l0 cs sl) {a b : UInt32} {op : CmpOp} (hd : decode cc pc = .ok (.fcmp op, 1)) (k : WL x G A nL cs sl Q M (pc + 1) L (.int (Op.cmpValue (FP.fcmp a b) op) :: st)) : WL x G A nL cs sl Q M pc L (.float b :: .float a :: st) := by
  obtain ⟨p, l, e, R, s, m, args, below, meth, c⟩ := x
  obtain ⟨hx, hb, hml, hown, hts, hK, hAp, hAu, hST, hlk, hNW, hRf, hRl, hcs, hsl⟩ := C
  intro ls H locs hl hP hS
  exact lv_fcmp hx hb hd (k ls H locs hl hP hS)
theorem wl_i2f (C : CX x G A own cc nL Ts f0 l0 cs sl) {a : Int32} (hd : decode cc pc = .ok (.i2f, 1)) (k : WL x G A nL cs sl Q M (pc + 1) L (.float (FP.i2f a) :: st)) : WL x G A nL cs sl Q M pc L (.int a :: st) := by
  obtain ⟨p, l, e, R, s, m, args, below, meth, c⟩ := x
  obtain ⟨hx, hb, hml, hown, hts, hK, hAp, hAu, hST, hlk, hNW, hRf, hRl, hcs, hsl⟩ := C
  intro ls H locs hl hP hS
  exact lv_i2f hx hb hd (k ls H locs hl hP hS)
theorem wl_f2i (C : CX x G A own cc nL Ts f0 l0 cs sl) {a : UInt32} (hd : decode cc pc = .ok (.f2i, 1)) (k : WL x G A nL cs sl Q M (pc + 1) L (.int (FP.f2i a) :: st)) : WL x G A nL cs sl Q M pc L (.float a :: st) := by
  obtain ⟨p, l, e, R, s, m, args, below, meth, c⟩ := x
  obtain ⟨hx, hb, hml, hown, hts, hK, hAp, hAu, hST, hlk, hNW, hRf, hRl, hcs, hsl⟩ := C
  intro ls H locs hl hP hS
  exact lv_f2i hx hb hd (k ls H locs hl hP hS)
theorem wl_icmp_eq (C : CX x G A own cc nL Ts f0 l0 cs sl) {a b : Int32} {off : Int} (tgt : Nat) (hd : decode cc pc = .ok (.if_icmp .eq off, 3)) (ht : (pc : Int) + off = (tgt : Int)) (kt : a = b → WL x G A nL cs sl Q M tgt L st) (kf : ¬ a = b → WL x G A nL cs sl Q M (pc + 3) L st) : WL x G A nL cs sl Q M pc L (.int b :: .int a :: st) := by
  obtain ⟨p, l, e, R, s, m, args, below, meth, c⟩ := x
  obtain ⟨hx, hb, hml, hown, hts, hK, hAp, hAu, hST, hlk, hNW, hRf, hRl, hcs, hsl⟩ := C
  intro ls H locs hl hP hS
  exact lv_icmp_eq hx hb hd ht (fun q => kt q ls H locs hl hP hS) (fun q => kf q ls H locs hl hP hS)
theorem wl_if_eq (C : CX x G A own cc nL Ts f0 l0 cs sl) {a : Int32} {off : Int} (tgt : Nat) (hd : decode cc pc = .ok (.ifCond .eq off, 3)) (ht : (pc : Int) + off = (tgt : Int)) (kt : a = 0 → WL x G A nL cs sl Q M tgt L st) (kf : ¬ a = 0 → WL x G A nL cs sl Q M (pc + 3) L st) : WL x G A nL cs sl Q M pc L (.int a :: st) := by
  obtain ⟨p, l, e, R, s, m, args, below, meth, c⟩ := x
  obtain ⟨hx, hb, hml, hown, hts, hK, hAp, hAu, hST, hlk, hNW, hRf, hRl, hcs, hsl⟩ := C
  intro ls H locs hl hP hS
  exact lv_if_eq hx hb hd ht (fun q => kt q ls H locs hl hP hS) (fun q => kf q ls H locs hl hP hS)
theorem wl_icmp_ne (C : CX x G A own cc nL Ts f0 l0 cs sl) {a b : Int32} {off : Int} (tgt : Nat) (hd : decode cc pc = .ok (.if_icmp .ne off, 3)) (ht : (pc : Int) + off = (tgt : Int)) (kt : ¬ a = b → WL x G A nL cs sl Q M tgt L st) (kf : a = b → WL x G A nL cs sl Q M (pc + 3) L st) : WL x G A nL cs sl Q M pc L (.int b :: .int a :: st) := by
  obtain ⟨p, l, e, R, s, m, args, below, meth, c⟩ := x
  obtain ⟨hx, hb, hml, hown, hts, hK, hAp, hAu, hST, hlk, hNW, hRf, hRl, hcs, hsl⟩ := C
  intro ls H locs hl hP hS
  exact lv_icmp_ne hx hb hd ht (fun q => kt q ls H locs hl hP hS) (fun q => kf q ls H locs hl hP hS)
theorem wl_if_ne (C : CX x G A own cc nL Ts f0 l0 cs sl) {a : Int32} {off : Int} (tgt : Nat) (hd : decode cc pc = .ok (.ifCond .ne off, 3)) (ht : (pc : Int) + off = (tgt : Int)) (kt : ¬ a = 0 → WL x G A nL cs sl Q M tgt L st) (kf : a = 0 → WL x G A nL cs sl Q M (pc + 3) L st) : WL x G A nL cs sl Q M pc L (.int a :: st) := by
  obtain ⟨p, l, e, R, s, m, args, below, meth, c⟩ := x
  obtain ⟨hx, hb, hml, hown, hts, hK, hAp, hAu, hST, hlk, hNW, hRf, hRl, hcs, hsl⟩ := C
  intro ls H locs hl hP hS
  exact lv_if_ne hx hb hd ht (fun q => kt q ls H locs hl hP hS) (fun q => kf q ls H locs hl hP hS)
theorem wl_icmp_lt (C : CX x G A own cc nL Ts f0 l0 cs sl) {a b : Int32} {off : Int} (tgt : Nat) (hd : decode cc pc = .ok (.if_icmp .lt off, 3)) (ht : (pc : Int) + off = (tgt : Int)) (kt : a < b → WL x G A nL cs sl Q M tgt L st) (kf : ¬ a < b → WL x G A nL cs sl Q M (pc + 3) L st) : WL x G A nL cs sl Q M pc L (.int b :: .int a :: st) := by
  obtain ⟨p, l, e, R, s, m, args, below, meth, c⟩ := x
  obtain ⟨hx, hb, hml, hown, hts, hK, hAp, hAu, hST, hlk, hNW, hRf, hRl, hcs, hsl⟩ := C
  intro ls H locs hl hP hS
  exact lv_icmp_lt hx hb hd ht (fun q => kt q ls H locs hl hP hS) (fun q => kf q ls H locs hl hP hS)
theorem wl_if_lt (C : CX x G A own cc nL Ts f0 l0 cs sl) {a : Int32} {off : Int} (tgt : Nat) (hd : decode cc pc = .ok (.ifCond .lt off, 3)) (ht : (pc : Int) + off = (tgt : Int)) (kt : a < 0 → WL x G A nL cs sl Q M tgt L st) (kf : ¬ a < 0 → WL x G A nL cs sl Q M (pc + 3) L st) : WL x G A nL cs sl Q M pc L (.int a :: st) := by
  obtain ⟨p, l, e, R, s, m, args, below, meth, c⟩ := x
  obtain ⟨hx, hb, hml, hown, hts, hK, hAp, hAu, hST, hlk, hNW, hRf, hRl, hcs, hsl⟩ := C
  intro ls H locs hl hP hS
  exact lv_if_lt hx hb hd ht (fun q => kt q ls H locs hl hP hS) (fun q => kf q ls H locs hl hP hS)
theorem wl_icmp_ge (C : CX x G A own cc nL Ts f0 l0 cs sl) {a b : Int32} {off : Int} (tgt : Nat) (hd : decode cc pc = .ok (.if_icmp .ge off, 3)) (ht : (pc : Int) + off = (tgt : Int)) (kt : b ≤ a → WL x G A nL cs sl Q M tgt L st) (kf : ¬ b ≤ a → WL x G A nL cs sl Q M (pc + 3) L st) : WL x G A nL cs sl Q M pc L (.int b :: .int a :: st) := by
  obtain ⟨p, l, e, R, s, m, args, below, meth, c⟩ := x
  obtain ⟨hx, hb, hml, hown, hts, hK, hAp, hAu, hST, hlk, hNW, hRf, hRl, hcs, hsl⟩ := C
  intro ls H locs hl hP hS
  exact lv_icmp_ge hx hb hd ht (fun q => kt q ls H locs hl hP hS) (fun q => kf q ls H locs hl hP hS)
theorem wl_if_ge (C : CX x G A own cc nL Ts f0 l0 cs sl) {a : Int32} {off : Int} (tgt : Nat) (hd : decode cc pc = .ok (.ifCond .ge off, 3)) (ht : (pc : Int) + off = (tgt : Int)) (kt : 0 ≤ a → WL x G A nL cs sl Q M tgt L st) (kf : ¬ 0 ≤ a → WL x G A nL cs sl Q M (pc + 3) L st) : WL x G A nL cs sl Q M pc L (.int a :: st) := by
  obtain ⟨p, l, e, R, s, m, args, below, meth, c⟩ := x
  obtain ⟨hx, hb, hml, hown, hts, hK, hAp, hAu, hST, hlk, hNW, hRf, hRl, hcs, hsl⟩ := C
  intro ls H locs hl hP hS
  exact lv_if_ge hx hb hd ht (fun q => kt q ls H locs hl hP hS) (fun q => kf q ls H locs hl hP hS)
theorem wl_icmp_gt (C : CX x G A own cc nL Ts f0 l0 cs sl) {a b : Int32} {off : Int} (tgt : Nat) (hd : decode cc pc = .ok (.if_icmp .gt off, 3)) (ht : (pc : Int) + off = (tgt : Int)) (kt : b < a → WL x G A nL cs sl Q M tgt L st) (kf : ¬ b < a → WL x G A nL cs sl Q M (pc + 3) L st) : WL x G A nL cs sl Q M pc L (.int b :: .int a :: st) := by
  obtain ⟨p, l, e, R, s, m, args, below, meth, c⟩ := x
  obtain ⟨hx, hb, hml, hown, hts, hK, hAp, hAu, hST, hlk, hNW, hRf, hRl, hcs, hsl⟩ := C
  intro ls H locs hl hP hS
  exact lv_icmp_gt hx hb hd ht (fun q => kt q ls H locs hl hP hS) (fun q => kf q ls H locs hl hP hS)
theorem wl_if_gt (C : CX x G A own cc nL Ts f0 l0 cs sl) {a : Int32} {off : Int} (tgt : Nat) (hd : decode cc pc = .ok (.ifCond .gt off, 3)) (ht : (pc : Int) + off = (tgt : Int)) (kt : 0 < a → WL x G A nL cs sl Q M tgt L st) (kf : ¬ 0 < a → WL x G A nL cs sl Q M (pc + 3) L st) : WL x G A nL cs sl Q M pc L (.int a :: st) := by
  obtain ⟨p, l, e, R, s, m, args, below, meth, c⟩ := x
  obtain ⟨hx, hb, hml, hown, hts, hK, hAp, hAu, hST, hlk, hNW, hRf, hRl, hcs, hsl⟩ := C
  intro ls H locs hl hP hS
  exact lv_if_gt hx hb hd ht (fun q => kt q ls H locs hl hP hS) (fun q => kf q ls H locs hl hP hS)
theorem wl_icmp_le (C : CX x G A own cc nL Ts f0 l0 cs sl) {a b : Int32} {off : Int} (tgt : Nat) (hd : decode cc pc = .ok (.if_icmp .le off, 3)) (ht : (pc : Int) + off = (tgt : Int)) (kt : a ≤ b → WL x G A nL cs sl Q M tgt L st) (kf : ¬ a ≤ b → WL x G A nL cs sl Q M (pc + 3) L st) : WL x G A nL cs sl Q M pc L (.int b :: .int a :: st) := by
  obtain ⟨p, l, e, R, s, m, args, below, meth, c⟩ := x
  obtain ⟨hx, hb, hml, hown, hts, hK, hAp, hAu, hST, hlk, hNW, hRf, hRl, hcs, hsl⟩ := C
  intro ls H locs hl hP hS
  exact lv_icmp_le hx hb hd ht (fun q => kt q ls H locs hl hP hS) (fun q => kf q ls H locs hl hP hS)
theorem wl_if_le (C : CX x G A own cc nL Ts f0 l0 cs sl) {a : Int32} {off : Int} (tgt : Nat) (hd : decode cc pc = .ok (.ifCond .le off, 3)) (ht : (pc : Int) + off = (tgt : Int)) (kt : a ≤ 0 → WL x G A nL cs sl Q M tgt L st) (kf : ¬ a ≤ 0 → WL x G A nL cs sl Q M (pc + 3) L st) : WL x G A nL cs sl Q M pc L (.int a :: st) := by
  obtain ⟨p, l, e, R, s, m, args, below, meth, c⟩ := x
  obtain ⟨hx, hb, hml, hown, hts, hK, hAp, hAu, hST, hlk, hNW, hRf, hRl, hcs, hsl⟩ := C
  intro ls H locs hl hP hS
  exact lv_if_le hx hb hd ht (fun q => kt q ls H locs hl hP hS) (fun q => kf q ls H locs hl hP hS)
theorem wl_goto (C : CX x G A own cc nL Ts f0 l0 cs sl) {off : Int} (tgt : Nat) (hd : decode cc pc = .ok (.goto off, 3)) (ht : (pc : Int) + off = (tgt : Int)) (k : WL x G A nL cs sl Q M tgt L st) : WL x G A nL cs sl Q M pc L st := by
  obtain ⟨p, l, e, R, s, m, args, below, meth, c⟩ := x
  obtain ⟨hx, hb, hml, hown, hts, hK, hAp, hAu, hST, hlk, hNW, hRf, hRl, hcs, hsl⟩ := C
  intro ls H locs hl hP hS
  exact lv_goto hx hb hd ht (k ls H locs hl hP hS)
theorem wl_ifnonnull (C : CX x G A own cc nL Ts f0 l0 cs sl) {off : Int} {a : Nat} (tgt : Nat) (hd : decode cc pc = .ok (.ifnonnull off, 3)) (ht : (pc : Int) + off = (tgt : Int)) (k : WL x G A nL cs sl Q M tgt L st) : WL x G A nL cs sl Q M pc L (.ref a :: st) := by
  obtain ⟨p, l, e, R, s, m, args, below, meth, c⟩ := x
  obtain ⟨hx, hb, hml, hown, hts, hK, hAp, hAu, hST, hlk, hNW, hRf, hRl, hcs, hsl⟩ := C
  intro ls H locs hl hP hS
  exact lv_ifnonnull hx hb hd ht (k ls H locs hl hP hS)
theorem wl_swOut (C : CX x G A own cc nL Ts f0 l0 cs sl) {dflt lo hi : Int} {offs : Array Int} {len : Nat} {a : Int32} (tgt : Nat) (hd : decode cc pc = .ok (.tableswitch dflt lo hi offs, len)) (h : a.toInt < lo ∨ hi < a.toInt) (ht : (pc : Int) + dflt = (tgt : Int)) (k : WL x G A nL cs sl Q M tgt L st) : WL x G A nL cs sl Q M pc L (.int a :: st) := by
  obtain ⟨p, l, e, R, s, m, args, below, meth, c⟩ := x
  obtain ⟨hx, hb, hml, hown, hts, hK, hAp, hAu, hST, hlk, hNW, hRf, hRl, hcs, hsl⟩ := C
  intro ls H locs hl hP hS
  exact lv_tableOut hx hb hd h ht (k ls H locs hl hP hS)
theorem wl_swIn (C : CX x G A own cc nL Ts f0 l0 cs sl) {dflt lo hi : Int} {offs : Array Int} {len : Nat} {a : Int32} {off : Int} (tgt : Nat) (hd : decode cc pc = .ok (.tableswitch dflt lo hi offs, len)) (h1 : ¬ a.toInt < lo) (h2 : ¬ hi < a.toInt) (ho : offs[(a.toInt - lo).toNat]? = some off) (ht : (pc : Int) + off = (tgt : Int)) (k : WL x G A nL cs sl Q M tgt L st) : WL x G A nL cs sl Q M pc L (.int a :: st) := by
  obtain ⟨p, l, e, R, s, m, args, below, meth, c⟩ := x
  obtain ⟨hx, hb, hml, hown, hts, hK, hAp, hAu, hST, hlk, hNW, hRf, hRl, hcs, hsl⟩ := C
  intro ls H locs hl hP hS
  exact lv_tableIn hx hb hd h1 h2 ho ht (k ls H locs hl hP hS)
theorem wl_sub {L' : List (Nat × Value)} (ks : List Nat) (h : lv_pick L ks = L') (k : WL x G A nL cs sl Q M pc L' st) : WL x G A nL cs sl Q M pc L st := fun ls H locs hl hP hS => k ls H locs (lv_sub hl ks h) hP hS
theorem wl_max (C : CX x G A own cc nL Ts f0 l0 cs sl) {index : Nat} {a b : Int32} (h1 : Jvm.Cond.methodLink own index Lib.Math.max.name ∈ Ts) (h2 : Jvm.Cond.static Lib.Math.max.name ∈ Ts) (h3 : Jvm.Cond.initialized "java/lang/Math" ∈ Ts) (h4 : Jvm.Cond.code Lib.Math.max.name Lib.Math.max.code 2 (some .int) ∈ Ts) (hR1 : 1 ≤ f0) (hR2 : (st.map fun v => v.category).sum + 13 ≤ l0) (hd : decode cc pc = .ok (.invokestatic index, 3)) (k : WL x G A nL cs sl Q M (pc + 3) L (.int (if a < b then b else a) :: st)) : WL x G A nL cs sl Q M pc L (.int b :: .int a :: st) := by
  obtain ⟨p, l, e, R, s, m, args, below, meth, c⟩ := x
  obtain ⟨hx, hb, hml, hown, hts, hK, hAp, hAu, hST, hlk, hNW, hRf, hRl, hcs, hsl⟩ := C
  intro ls H locs hl hP hS
  exact va_mmax hx hb (hml.trans hl.1.symm) hown (hts _ h1) (hts _ h2) (hts _ h3) (hts _ h4) (Nat.le_trans hR1 hRf) (Nat.le_trans hR2 hRl) hcs hsl hd (k ls H locs hl hP hS)
theorem wl_min (C : CX x G A own cc nL Ts f0 l0 cs sl) {index : Nat} {a b : Int32} (h1 : Jvm.Cond.methodLink own index Lib.Math.min.name ∈ Ts) (h2 : Jvm.Cond.static Lib.Math.min.name ∈ Ts) (h3 : Jvm.Cond.initialized "java/lang/Math" ∈ Ts) (h4 : Jvm.Cond.code Lib.Math.min.name Lib.Math.min.code 2 (some .int) ∈ Ts) (hR1 : 1 ≤ f0) (hR2 : (st.map fun v => v.category).sum + 13 ≤ l0) (hd : decode cc pc = .ok (.invokestatic index, 3)) (k : WL x G A nL cs sl Q M (pc + 3) L (.int (if b < a then b else a) :: st)) : WL x G A nL cs sl Q M pc L (.int b :: .int a :: st) := by
  obtain ⟨p, l, e, R, s, m, args, below, meth, c⟩ := x
  obtain ⟨hx, hb, hml, hown, hts, hK, hAp, hAu, hST, hlk, hNW, hRf, hRl, hcs, hsl⟩ := C
  intro ls H locs hl hP hS
  exact va_mmin hx hb (hml.trans hl.1.symm) hown (hts _ h1) (hts _ h2) (hts _ h3) (hts _ h4) (Nat.le_trans hR1 hRf) (Nat.le_trans hR2 hRl) hcs hsl hd (k ls H locs hl hP hS)
theorem wl_stepX (C : CX x G A own cc nL Ts f0 l0 cs sl) {index : Nat} (hk : Jvm.Cond.fieldLink own index "JammedBodies" "STEP_X" "[I" ∈ Ts) (hd : decode cc pc = .ok (.getstatic index, 3)) (k : WL x G A nL cs sl Q M (pc + 3) L (.ref G.2.2.2.1 :: st)) : WL x G A nL cs sl Q M pc L st := by
  obtain ⟨p, l, e, R, s, m, args, below, meth, c⟩ := x
  obtain ⟨hx, hb, hml, hown, hts, hK, hAp, hAu, hST, hlk, hNW, hRf, hRl, hcs, hsl⟩ := C
  intro ls H locs hl hP hS
  exact va_gets hx hb hST.1 hS hown (hts _ hk) (fun _ h => h) hd (k ls H locs hl hP hS)
theorem wl_stepY (C : CX x G A own cc nL Ts f0 l0 cs sl) {index : Nat} (hk : Jvm.Cond.fieldLink own index "JammedBodies" "STEP_Y" "[I" ∈ Ts) (hd : decode cc pc = .ok (.getstatic index, 3)) (k : WL x G A nL cs sl Q M (pc + 3) L (.ref G.2.2.2.2 :: st)) : WL x G A nL cs sl Q M pc L st := by
  obtain ⟨p, l, e, R, s, m, args, below, meth, c⟩ := x
  obtain ⟨hx, hb, hml, hown, hts, hK, hAp, hAu, hST, hlk, hNW, hRf, hRl, hcs, hsl⟩ := C
  intro ls H locs hl hP hS
  exact va_gets hx hb hST.2.2.1 hS hown (hts _ hk) (fun _ h => h) hd (k ls H locs hl hP hS)
theorem wl_tabX (C : CX x G A own cc nL Ts f0 l0 cs sl) {j : Nat} (hj : j < 8) (hd : decode cc pc = .ok (.iaload, 1)) (k : WL x G A nL cs sl Q M (pc + 1) L (.int (stX j) :: st)) : WL x G A nL cs sl Q M pc L (.int (nI j) :: .ref G.2.2.2.1 :: st) := by
  obtain ⟨p, l, e, R, s, m, args, below, meth, c⟩ := x
  obtain ⟨hx, hb, hml, hown, hts, hK, hAp, hAu, hST, hlk, hNW, hRf, hRl, hcs, hsl⟩ := C
  intro ls H locs hl hP hS
  exact va_ti hx hb hST.2.1 hS (vp_in_nI hj (by decide)) (by rw [nI_clamp (by omega)]) hd (k ls H locs hl hP hS)
theorem wl_tabLenX (C : CX x G A own cc nL Ts f0 l0 cs sl)  (hd : decode cc pc = .ok (.arraylength, 1)) (k : WL x G A nL cs sl Q M (pc + 1) L (.int 8 :: st)) : WL x G A nL cs sl Q M pc L (.ref G.2.2.2.1 :: st) := by
  obtain ⟨p, l, e, R, s, m, args, below, meth, c⟩ := x
  obtain ⟨hx, hb, hml, hown, hts, hK, hAp, hAu, hST, hlk, hNW, hRf, hRl, hcs, hsl⟩ := C
  intro ls H locs hl hP hS
  exact va_tlen hx hb hST.2.1 hS (v := 8) (by decide) hd (k ls H locs hl hP hS)
theorem wl_tabY (C : CX x G A own cc nL Ts f0 l0 cs sl) {j : Nat} (hj : j < 8) (hd : decode cc pc = .ok (.iaload, 1)) (k : WL x G A nL cs sl Q M (pc + 1) L (.int (stY j) :: st)) : WL x G A nL cs sl Q M pc L (.int (nI j) :: .ref G.2.2.2.2 :: st) := by
  obtain ⟨p, l, e, R, s, m, args, below, meth, c⟩ := x
  obtain ⟨hx, hb, hml, hown, hts, hK, hAp, hAu, hST, hlk, hNW, hRf, hRl, hcs, hsl⟩ := C
  intro ls H locs hl hP hS
  exact va_ti hx hb hST.2.2.2 hS (vp_in_nI hj (by decide)) (by rw [nI_clamp (by omega)]) hd (k ls H locs hl hP hS)
theorem wl_tabLenY (C : CX x G A own cc nL Ts f0 l0 cs sl)  (hd : decode cc pc = .ok (.arraylength, 1)) (k : WL x G A nL cs sl Q M (pc + 1) L (.int 8 :: st)) : WL x G A nL cs sl Q M pc L (.ref G.2.2.2.2 :: st) := by
  obtain ⟨p, l, e, R, s, m, args, below, meth, c⟩ := x
  obtain ⟨hx, hb, hml, hown, hts, hK, hAp, hAu, hST, hlk, hNW, hRf, hRl, hcs, hsl⟩ := C
  intro ls H locs hl hP hS
  exact va_tlen hx hb hST.2.2.2 hS (v := 8) (by decide) hd (k ls H locs hl hP hS)
theorem kd_lt {i k : Nat} (h : kd i = k) (hk : k < 13) : i < 232 := by
  rcases Nat.lt_or_ge i 232 with q | q
  · exact q
  · exfalso
    have e : kd i = 13 := by
      unfold kd
      repeat rw [if_neg (by omega)]
    omega
theorem wl_get_Body_xs (C : CX x G A own cc nL Ts f0 l0 cs sl) {i index : Nat} (hi : kd i = 0) (hin : ∀ w ∈ wsX00, w ∈ Ts) (hk : Jvm.Cond.fieldLink own index "JammedBodies$Body" "xs" "[I" ∈ Ts) (hd : decode cc pc = .ok (.getfield index, 3)) (k : WL x G A nL cs sl Q M (pc + 3) L (.ref (G.2.2.1 (i + 1)) :: st)) : WL x G A nL cs sl Q M pc L (.ref (G.2.2.1 i) :: st) := by
  obtain ⟨p, l, e, R, s, m, args, below, meth, c⟩ := x
  obtain ⟨hx, hb, hml, hown, hts, hK, hAp, hAu, hST, hlk, hNW, hRf, hRl, hcs, hsl⟩ := C
  intro ls H locs hl hP hS
  exact va_get (D := G.1) (ci := 0) (C := RX0) (T := TX0) (N := 3) hx hb hts hin hown hK hP i ((wd_at (kd_lt hi (by decide))).trans (by rw [cell_k hi]; rfl)) rfl 0 (by decide) (hts _ hk) (fun _ h => h) rfl hd (k ls H locs hl hP hS)
theorem wl_get_Body_ys (C : CX x G A own cc nL Ts f0 l0 cs sl) {i index : Nat} (hi : kd i = 0) (hin : ∀ w ∈ wsX00, w ∈ Ts) (hk : Jvm.Cond.fieldLink own index "JammedBodies$Body" "ys" "[I" ∈ Ts) (hd : decode cc pc = .ok (.getfield index, 3)) (k : WL x G A nL cs sl Q M (pc + 3) L (.ref (G.2.2.1 (i + 2)) :: st)) : WL x G A nL cs sl Q M pc L (.ref (G.2.2.1 i) :: st) := by
  obtain ⟨p, l, e, R, s, m, args, below, meth, c⟩ := x
  obtain ⟨hx, hb, hml, hown, hts, hK, hAp, hAu, hST, hlk, hNW, hRf, hRl, hcs, hsl⟩ := C
  intro ls H locs hl hP hS
  exact va_get (D := G.1) (ci := 0) (C := RX0) (T := TX0) (N := 3) hx hb hts hin hown hK hP i ((wd_at (kd_lt hi (by decide))).trans (by rw [cell_k hi]; rfl)) rfl 1 (by decide) (hts _ hk) (fun _ h => h) rfl hd (k ls H locs hl hP hS)
theorem wl_get_Body_corners (C : CX x G A own cc nL Ts f0 l0 cs sl) {i index : Nat} {v : Int32} (hi : kd i = 0) (hin : ∀ w ∈ wsX00, w ∈ Ts) (hk : Jvm.Cond.fieldLink own index "JammedBodies$Body" "corners" "I" ∈ Ts) (hv : M i 2 = v) (hd : decode cc pc = .ok (.getfield index, 3)) (k : WL x G A nL cs sl Q M (pc + 3) L (.int v :: st)) : WL x G A nL cs sl Q M pc L (.ref (G.2.2.1 i) :: st) := by
  obtain ⟨p, l, e, R, s, m, args, below, meth, c⟩ := x
  obtain ⟨hx, hb, hml, hown, hts, hK, hAp, hAu, hST, hlk, hNW, hRf, hRl, hcs, hsl⟩ := C
  intro ls H locs hl hP hS
  subst hv
  exact va_get (D := G.1) (ci := 0) (C := RX0) (T := TX0) (N := 3) hx hb hts hin hown hK hP i ((wd_at (kd_lt hi (by decide))).trans (by rw [cell_k hi]; rfl)) rfl 2 (by decide) (hts _ hk) (fun _ h => h) rfl hd (k ls H locs hl hP hS)
theorem wl_put_Body_corners (C : CX x G A own cc nL Ts f0 l0 cs sl) {i index : Nat} {v : Int32} (hi : kd i = 0) (hin : ∀ w ∈ wsX00, w ∈ Ts) (hk : Jvm.Cond.fieldLink own index "JammedBodies$Body" "corners" "I" ∈ Ts) (hd : decode cc pc = .ok (.putfield index, 3)) (k : WL x G A nL cs sl Q (mset M i 2 v) (pc + 3) L st) : WL x G A nL cs sl Q M pc L (.int v :: .ref (G.2.2.1 i) :: st) := by
  obtain ⟨p, l, e, R, s, m, args, below, meth, c⟩ := x
  obtain ⟨hx, hb, hml, hown, hts, hK, hAp, hAu, hST, hlk, hNW, hRf, hRl, hcs, hsl⟩ := C
  intro ls H locs hl hP hS
  refine va_put (D := G.1) (ci := 0) (v := .int v) (ty := .int) (C := RX0) (T := TX0) (N := 3) hx hb hts hin tyX0 tyX0_ok nmX0 hown hK hP (hAp.D M) hS i ((wd_at (kd_lt hi (by decide))).trans (by rw [cell_k hi]; rfl)) rfl 2 (by decide) (hts _ hk) (fun _ h => h) rfl (by decide +kernel) rfl rfl (Nat.le_of_ble_eq_true rfl) hd (fun H1 locs1 hP1 hD1 hS1 => ?_)
  rw [wd_set (M' := mset M i 2 v) (kd_lt hi (by decide)) (by rw [cell_k hi]; simp [cellK, mset]) mset_off] at hP1
  exact k ls H1 locs1 hl hP1 hS1
theorem wl_get_BodyText_signs (C : CX x G A own cc nL Ts f0 l0 cs sl) {i index : Nat} (hi : kd i = 1) (hin : ∀ w ∈ wsX10, w ∈ Ts) (hk : Jvm.Cond.fieldLink own index "JammedBodies$BodyText" "signs" "[C" ∈ Ts) (hd : decode cc pc = .ok (.getfield index, 3)) (k : WL x G A nL cs sl Q M (pc + 3) L (.ref (G.2.2.1 (228)) :: st)) : WL x G A nL cs sl Q M pc L (.ref (G.2.2.1 i) :: st) := by
  obtain ⟨p, l, e, R, s, m, args, below, meth, c⟩ := x
  obtain ⟨hx, hb, hml, hown, hts, hK, hAp, hAu, hST, hlk, hNW, hRf, hRl, hcs, hsl⟩ := C
  intro ls H locs hl hP hS
  exact va_get (D := G.1) (ci := 1) (C := RX1) (T := TX1) (N := 7) hx hb hts hin hown hK hP i ((wd_at (kd_lt hi (by decide))).trans (by rw [cell_k hi]; rfl)) rfl 0 (by decide) (hts _ hk) (fun _ h => h) rfl hd (k ls H locs hl hP hS)
theorem wl_get_BodyText_cursor (C : CX x G A own cc nL Ts f0 l0 cs sl) {i index : Nat} {v : Int32} (hi : kd i = 1) (hin : ∀ w ∈ wsX10, w ∈ Ts) (hk : Jvm.Cond.fieldLink own index "JammedBodies$BodyText" "cursor" "I" ∈ Ts) (hv : M i 1 = v) (hd : decode cc pc = .ok (.getfield index, 3)) (k : WL x G A nL cs sl Q M (pc + 3) L (.int v :: st)) : WL x G A nL cs sl Q M pc L (.ref (G.2.2.1 i) :: st) := by
  obtain ⟨p, l, e, R, s, m, args, below, meth, c⟩ := x
  obtain ⟨hx, hb, hml, hown, hts, hK, hAp, hAu, hST, hlk, hNW, hRf, hRl, hcs, hsl⟩ := C
  intro ls H locs hl hP hS
  subst hv
  exact va_get (D := G.1) (ci := 1) (C := RX1) (T := TX1) (N := 7) hx hb hts hin hown hK hP i ((wd_at (kd_lt hi (by decide))).trans (by rw [cell_k hi]; rfl)) rfl 1 (by decide) (hts _ hk) (fun _ h => h) rfl hd (k ls H locs hl hP hS)
theorem wl_put_BodyText_cursor (C : CX x G A own cc nL Ts f0 l0 cs sl) {i index : Nat} {v : Int32} (hi : kd i = 1) (hin : ∀ w ∈ wsX10, w ∈ Ts) (hk : Jvm.Cond.fieldLink own index "JammedBodies$BodyText" "cursor" "I" ∈ Ts) (hd : decode cc pc = .ok (.putfield index, 3)) (k : WL x G A nL cs sl Q (mset M i 1 v) (pc + 3) L st) : WL x G A nL cs sl Q M pc L (.int v :: .ref (G.2.2.1 i) :: st) := by
  obtain ⟨p, l, e, R, s, m, args, below, meth, c⟩ := x
  obtain ⟨hx, hb, hml, hown, hts, hK, hAp, hAu, hST, hlk, hNW, hRf, hRl, hcs, hsl⟩ := C
  intro ls H locs hl hP hS
  refine va_put (D := G.1) (ci := 1) (v := .int v) (ty := .int) (C := RX1) (T := TX1) (N := 7) hx hb hts hin tyX1 tyX1_ok nmX1 hown hK hP (hAp.D M) hS i ((wd_at (kd_lt hi (by decide))).trans (by rw [cell_k hi]; rfl)) rfl 1 (by decide) (hts _ hk) (fun _ h => h) rfl (by decide +kernel) rfl rfl (Nat.le_of_ble_eq_true rfl) hd (fun H1 locs1 hP1 hD1 hS1 => ?_)
  rw [wd_set (M' := mset M i 1 v) (kd_lt hi (by decide)) (by rw [cell_k hi]; simp [cellK, mset]) mset_off] at hP1
  exact k ls H1 locs1 hl hP1 hS1
theorem wl_get_BodyText_told (C : CX x G A own cc nL Ts f0 l0 cs sl) {i index : Nat} (hi : kd i = 1) (hin : ∀ w ∈ wsX10, w ∈ Ts) (hk : Jvm.Cond.fieldLink own index "JammedBodies$BodyText" "told" "LJammedBodies$Body;" ∈ Ts) (hd : decode cc pc = .ok (.getfield index, 3)) (k : WL x G A nL cs sl Q M (pc + 3) L (.ref (G.2.2.1 (229)) :: st)) : WL x G A nL cs sl Q M pc L (.ref (G.2.2.1 i) :: st) := by
  obtain ⟨p, l, e, R, s, m, args, below, meth, c⟩ := x
  obtain ⟨hx, hb, hml, hown, hts, hK, hAp, hAu, hST, hlk, hNW, hRf, hRl, hcs, hsl⟩ := C
  intro ls H locs hl hP hS
  exact va_get (D := G.1) (ci := 1) (C := RX1) (T := TX1) (N := 7) hx hb hts hin hown hK hP i ((wd_at (kd_lt hi (by decide))).trans (by rw [cell_k hi]; rfl)) rfl 2 (by decide) (hts _ hk) (fun _ h => h) rfl hd (k ls H locs hl hP hS)
theorem wl_get_BodyText_length (C : CX x G A own cc nL Ts f0 l0 cs sl) {i index : Nat} {v : Int32} (hi : kd i = 1) (hin : ∀ w ∈ wsX10, w ∈ Ts) (hk : Jvm.Cond.fieldLink own index "JammedBodies$BodyText" "length" "I" ∈ Ts) (hv : M i 3 = v) (hd : decode cc pc = .ok (.getfield index, 3)) (k : WL x G A nL cs sl Q M (pc + 3) L (.int v :: st)) : WL x G A nL cs sl Q M pc L (.ref (G.2.2.1 i) :: st) := by
  obtain ⟨p, l, e, R, s, m, args, below, meth, c⟩ := x
  obtain ⟨hx, hb, hml, hown, hts, hK, hAp, hAu, hST, hlk, hNW, hRf, hRl, hcs, hsl⟩ := C
  intro ls H locs hl hP hS
  subst hv
  exact va_get (D := G.1) (ci := 1) (C := RX1) (T := TX1) (N := 7) hx hb hts hin hown hK hP i ((wd_at (kd_lt hi (by decide))).trans (by rw [cell_k hi]; rfl)) rfl 3 (by decide) (hts _ hk) (fun _ h => h) rfl hd (k ls H locs hl hP hS)
theorem wl_put_BodyText_length (C : CX x G A own cc nL Ts f0 l0 cs sl) {i index : Nat} {v : Int32} (hi : kd i = 1) (hin : ∀ w ∈ wsX10, w ∈ Ts) (hk : Jvm.Cond.fieldLink own index "JammedBodies$BodyText" "length" "I" ∈ Ts) (hd : decode cc pc = .ok (.putfield index, 3)) (k : WL x G A nL cs sl Q (mset M i 3 v) (pc + 3) L st) : WL x G A nL cs sl Q M pc L (.int v :: .ref (G.2.2.1 i) :: st) := by
  obtain ⟨p, l, e, R, s, m, args, below, meth, c⟩ := x
  obtain ⟨hx, hb, hml, hown, hts, hK, hAp, hAu, hST, hlk, hNW, hRf, hRl, hcs, hsl⟩ := C
  intro ls H locs hl hP hS
  refine va_put (D := G.1) (ci := 1) (v := .int v) (ty := .int) (C := RX1) (T := TX1) (N := 7) hx hb hts hin tyX1 tyX1_ok nmX1 hown hK hP (hAp.D M) hS i ((wd_at (kd_lt hi (by decide))).trans (by rw [cell_k hi]; rfl)) rfl 3 (by decide) (hts _ hk) (fun _ h => h) rfl (by decide +kernel) rfl rfl (Nat.le_of_ble_eq_true rfl) hd (fun H1 locs1 hP1 hD1 hS1 => ?_)
  rw [wd_set (M' := mset M i 3 v) (kd_lt hi (by decide)) (by rw [cell_k hi]; simp [cellK, mset]) mset_off] at hP1
  exact k ls H1 locs1 hl hP1 hS1
theorem wl_get_BodyText_place (C : CX x G A own cc nL Ts f0 l0 cs sl) {i index : Nat} {v : Int32} (hi : kd i = 1) (hin : ∀ w ∈ wsX10, w ∈ Ts) (hk : Jvm.Cond.fieldLink own index "JammedBodies$BodyText" "place" "I" ∈ Ts) (hv : M i 4 = v) (hd : decode cc pc = .ok (.getfield index, 3)) (k : WL x G A nL cs sl Q M (pc + 3) L (.int v :: st)) : WL x G A nL cs sl Q M pc L (.ref (G.2.2.1 i) :: st) := by
  obtain ⟨p, l, e, R, s, m, args, below, meth, c⟩ := x
  obtain ⟨hx, hb, hml, hown, hts, hK, hAp, hAu, hST, hlk, hNW, hRf, hRl, hcs, hsl⟩ := C
  intro ls H locs hl hP hS
  subst hv
  exact va_get (D := G.1) (ci := 1) (C := RX1) (T := TX1) (N := 7) hx hb hts hin hown hK hP i ((wd_at (kd_lt hi (by decide))).trans (by rw [cell_k hi]; rfl)) rfl 4 (by decide) (hts _ hk) (fun _ h => h) rfl hd (k ls H locs hl hP hS)
theorem wl_put_BodyText_place (C : CX x G A own cc nL Ts f0 l0 cs sl) {i index : Nat} {v : Int32} (hi : kd i = 1) (hin : ∀ w ∈ wsX10, w ∈ Ts) (hk : Jvm.Cond.fieldLink own index "JammedBodies$BodyText" "place" "I" ∈ Ts) (hd : decode cc pc = .ok (.putfield index, 3)) (k : WL x G A nL cs sl Q (mset M i 4 v) (pc + 3) L st) : WL x G A nL cs sl Q M pc L (.int v :: .ref (G.2.2.1 i) :: st) := by
  obtain ⟨p, l, e, R, s, m, args, below, meth, c⟩ := x
  obtain ⟨hx, hb, hml, hown, hts, hK, hAp, hAu, hST, hlk, hNW, hRf, hRl, hcs, hsl⟩ := C
  intro ls H locs hl hP hS
  refine va_put (D := G.1) (ci := 1) (v := .int v) (ty := .int) (C := RX1) (T := TX1) (N := 7) hx hb hts hin tyX1 tyX1_ok nmX1 hown hK hP (hAp.D M) hS i ((wd_at (kd_lt hi (by decide))).trans (by rw [cell_k hi]; rfl)) rfl 4 (by decide) (hts _ hk) (fun _ h => h) rfl (by decide +kernel) rfl rfl (Nat.le_of_ble_eq_true rfl) hd (fun H1 locs1 hP1 hD1 hS1 => ?_)
  rw [wd_set (M' := mset M i 4 v) (kd_lt hi (by decide)) (by rw [cell_k hi]; simp [cellK, mset]) mset_off] at hP1
  exact k ls H1 locs1 hl hP1 hS1
theorem wl_get_BodyText_reason (C : CX x G A own cc nL Ts f0 l0 cs sl) {i index : Nat} {v : Int32} (hi : kd i = 1) (hin : ∀ w ∈ wsX10, w ∈ Ts) (hk : Jvm.Cond.fieldLink own index "JammedBodies$BodyText" "reason" "I" ∈ Ts) (hv : M i 5 = v) (hd : decode cc pc = .ok (.getfield index, 3)) (k : WL x G A nL cs sl Q M (pc + 3) L (.int v :: st)) : WL x G A nL cs sl Q M pc L (.ref (G.2.2.1 i) :: st) := by
  obtain ⟨p, l, e, R, s, m, args, below, meth, c⟩ := x
  obtain ⟨hx, hb, hml, hown, hts, hK, hAp, hAu, hST, hlk, hNW, hRf, hRl, hcs, hsl⟩ := C
  intro ls H locs hl hP hS
  subst hv
  exact va_get (D := G.1) (ci := 1) (C := RX1) (T := TX1) (N := 7) hx hb hts hin hown hK hP i ((wd_at (kd_lt hi (by decide))).trans (by rw [cell_k hi]; rfl)) rfl 5 (by decide) (hts _ hk) (fun _ h => h) rfl hd (k ls H locs hl hP hS)
theorem wl_put_BodyText_reason (C : CX x G A own cc nL Ts f0 l0 cs sl) {i index : Nat} {v : Int32} (hi : kd i = 1) (hin : ∀ w ∈ wsX10, w ∈ Ts) (hk : Jvm.Cond.fieldLink own index "JammedBodies$BodyText" "reason" "I" ∈ Ts) (hd : decode cc pc = .ok (.putfield index, 3)) (k : WL x G A nL cs sl Q (mset M i 5 v) (pc + 3) L st) : WL x G A nL cs sl Q M pc L (.int v :: .ref (G.2.2.1 i) :: st) := by
  obtain ⟨p, l, e, R, s, m, args, below, meth, c⟩ := x
  obtain ⟨hx, hb, hml, hown, hts, hK, hAp, hAu, hST, hlk, hNW, hRf, hRl, hcs, hsl⟩ := C
  intro ls H locs hl hP hS
  refine va_put (D := G.1) (ci := 1) (v := .int v) (ty := .int) (C := RX1) (T := TX1) (N := 7) hx hb hts hin tyX1 tyX1_ok nmX1 hown hK hP (hAp.D M) hS i ((wd_at (kd_lt hi (by decide))).trans (by rw [cell_k hi]; rfl)) rfl 5 (by decide) (hts _ hk) (fun _ h => h) rfl (by decide +kernel) rfl rfl (Nat.le_of_ble_eq_true rfl) hd (fun H1 locs1 hP1 hD1 hS1 => ?_)
  rw [wd_set (M' := mset M i 5 v) (kd_lt hi (by decide)) (by rw [cell_k hi]; simp [cellK, mset]) mset_off] at hP1
  exact k ls H1 locs1 hl hP1 hS1
theorem wl_get_BodyText_cause (C : CX x G A own cc nL Ts f0 l0 cs sl) {i index : Nat} {v : Int32} (hi : kd i = 1) (hin : ∀ w ∈ wsX10, w ∈ Ts) (hk : Jvm.Cond.fieldLink own index "JammedBodies$BodyText" "cause" "I" ∈ Ts) (hv : M i 6 = v) (hd : decode cc pc = .ok (.getfield index, 3)) (k : WL x G A nL cs sl Q M (pc + 3) L (.int v :: st)) : WL x G A nL cs sl Q M pc L (.ref (G.2.2.1 i) :: st) := by
  obtain ⟨p, l, e, R, s, m, args, below, meth, c⟩ := x
  obtain ⟨hx, hb, hml, hown, hts, hK, hAp, hAu, hST, hlk, hNW, hRf, hRl, hcs, hsl⟩ := C
  intro ls H locs hl hP hS
  subst hv
  exact va_get (D := G.1) (ci := 1) (C := RX1) (T := TX1) (N := 7) hx hb hts hin hown hK hP i ((wd_at (kd_lt hi (by decide))).trans (by rw [cell_k hi]; rfl)) rfl 6 (by decide) (hts _ hk) (fun _ h => h) rfl hd (k ls H locs hl hP hS)
theorem wl_put_BodyText_cause (C : CX x G A own cc nL Ts f0 l0 cs sl) {i index : Nat} {v : Int32} (hi : kd i = 1) (hin : ∀ w ∈ wsX10, w ∈ Ts) (hk : Jvm.Cond.fieldLink own index "JammedBodies$BodyText" "cause" "I" ∈ Ts) (hd : decode cc pc = .ok (.putfield index, 3)) (k : WL x G A nL cs sl Q (mset M i 6 v) (pc + 3) L st) : WL x G A nL cs sl Q M pc L (.int v :: .ref (G.2.2.1 i) :: st) := by
  obtain ⟨p, l, e, R, s, m, args, below, meth, c⟩ := x
  obtain ⟨hx, hb, hml, hown, hts, hK, hAp, hAu, hST, hlk, hNW, hRf, hRl, hcs, hsl⟩ := C
  intro ls H locs hl hP hS
  refine va_put (D := G.1) (ci := 1) (v := .int v) (ty := .int) (C := RX1) (T := TX1) (N := 7) hx hb hts hin tyX1 tyX1_ok nmX1 hown hK hP (hAp.D M) hS i ((wd_at (kd_lt hi (by decide))).trans (by rw [cell_k hi]; rfl)) rfl 6 (by decide) (hts _ hk) (fun _ h => h) rfl (by decide +kernel) rfl rfl (Nat.le_of_ble_eq_true rfl) hd (fun H1 locs1 hP1 hD1 hS1 => ?_)
  rw [wd_set (M' := mset M i 6 v) (kd_lt hi (by decide)) (by rw [cell_k hi]; simp [cellK, mset]) mset_off] at hP1
  exact k ls H1 locs1 hl hP1 hS1
theorem wl_get_History_ring (C : CX x G A own cc nL Ts f0 l0 cs sl) {i index : Nat} (hi : kd i = 2) (hin : ∀ w ∈ wsX20, w ∈ Ts) (hk : Jvm.Cond.fieldLink own index "JammedBodies$History" "ring" "[LJammedBodies$Packing;" ∈ Ts) (hd : decode cc pc = .ok (.getfield index, 3)) (k : WL x G A nL cs sl Q M (pc + 3) L (.ref (G.2.2.1 (226)) :: st)) : WL x G A nL cs sl Q M pc L (.ref (G.2.2.1 i) :: st) := by
  obtain ⟨p, l, e, R, s, m, args, below, meth, c⟩ := x
  obtain ⟨hx, hb, hml, hown, hts, hK, hAp, hAu, hST, hlk, hNW, hRf, hRl, hcs, hsl⟩ := C
  intro ls H locs hl hP hS
  exact va_get (D := G.1) (ci := 2) (C := RX2) (T := TX2) (N := 4) hx hb hts hin hown hK hP i ((wd_at (kd_lt hi (by decide))).trans (by rw [cell_k hi]; rfl)) rfl 0 (by decide) (hts _ hk) (fun _ h => h) rfl hd (k ls H locs hl hP hS)
theorem wl_get_History_none (C : CX x G A own cc nL Ts f0 l0 cs sl) {i index : Nat} (hi : kd i = 2) (hin : ∀ w ∈ wsX20, w ∈ Ts) (hk : Jvm.Cond.fieldLink own index "JammedBodies$History" "none" "LJammedBodies$Packing;" ∈ Ts) (hd : decode cc pc = .ok (.getfield index, 3)) (k : WL x G A nL cs sl Q M (pc + 3) L (.ref (G.2.2.1 (192)) :: st)) : WL x G A nL cs sl Q M pc L (.ref (G.2.2.1 i) :: st) := by
  obtain ⟨p, l, e, R, s, m, args, below, meth, c⟩ := x
  obtain ⟨hx, hb, hml, hown, hts, hK, hAp, hAu, hST, hlk, hNW, hRf, hRl, hcs, hsl⟩ := C
  intro ls H locs hl hP hS
  exact va_get (D := G.1) (ci := 2) (C := RX2) (T := TX2) (N := 4) hx hb hts hin hown hK hP i ((wd_at (kd_lt hi (by decide))).trans (by rw [cell_k hi]; rfl)) rfl 1 (by decide) (hts _ hk) (fun _ h => h) rfl hd (k ls H locs hl hP hS)
theorem wl_get_History_oldest (C : CX x G A own cc nL Ts f0 l0 cs sl) {i index : Nat} {v : Int32} (hi : kd i = 2) (hin : ∀ w ∈ wsX20, w ∈ Ts) (hk : Jvm.Cond.fieldLink own index "JammedBodies$History" "oldest" "I" ∈ Ts) (hv : M i 2 = v) (hd : decode cc pc = .ok (.getfield index, 3)) (k : WL x G A nL cs sl Q M (pc + 3) L (.int v :: st)) : WL x G A nL cs sl Q M pc L (.ref (G.2.2.1 i) :: st) := by
  obtain ⟨p, l, e, R, s, m, args, below, meth, c⟩ := x
  obtain ⟨hx, hb, hml, hown, hts, hK, hAp, hAu, hST, hlk, hNW, hRf, hRl, hcs, hsl⟩ := C
  intro ls H locs hl hP hS
  subst hv
  exact va_get (D := G.1) (ci := 2) (C := RX2) (T := TX2) (N := 4) hx hb hts hin hown hK hP i ((wd_at (kd_lt hi (by decide))).trans (by rw [cell_k hi]; rfl)) rfl 2 (by decide) (hts _ hk) (fun _ h => h) rfl hd (k ls H locs hl hP hS)
theorem wl_put_History_oldest (C : CX x G A own cc nL Ts f0 l0 cs sl) {i index : Nat} {v : Int32} (hi : kd i = 2) (hin : ∀ w ∈ wsX20, w ∈ Ts) (hk : Jvm.Cond.fieldLink own index "JammedBodies$History" "oldest" "I" ∈ Ts) (hd : decode cc pc = .ok (.putfield index, 3)) (k : WL x G A nL cs sl Q (mset M i 2 v) (pc + 3) L st) : WL x G A nL cs sl Q M pc L (.int v :: .ref (G.2.2.1 i) :: st) := by
  obtain ⟨p, l, e, R, s, m, args, below, meth, c⟩ := x
  obtain ⟨hx, hb, hml, hown, hts, hK, hAp, hAu, hST, hlk, hNW, hRf, hRl, hcs, hsl⟩ := C
  intro ls H locs hl hP hS
  refine va_put (D := G.1) (ci := 2) (v := .int v) (ty := .int) (C := RX2) (T := TX2) (N := 4) hx hb hts hin tyX2 tyX2_ok nmX2 hown hK hP (hAp.D M) hS i ((wd_at (kd_lt hi (by decide))).trans (by rw [cell_k hi]; rfl)) rfl 2 (by decide) (hts _ hk) (fun _ h => h) rfl (by decide +kernel) rfl rfl (Nat.le_of_ble_eq_true rfl) hd (fun H1 locs1 hP1 hD1 hS1 => ?_)
  rw [wd_set (M' := mset M i 2 v) (kd_lt hi (by decide)) (by rw [cell_k hi]; simp [cellK, mset]) mset_off] at hP1
  exact k ls H1 locs1 hl hP1 hS1
theorem wl_get_History_size (C : CX x G A own cc nL Ts f0 l0 cs sl) {i index : Nat} {v : Int32} (hi : kd i = 2) (hin : ∀ w ∈ wsX20, w ∈ Ts) (hk : Jvm.Cond.fieldLink own index "JammedBodies$History" "size" "I" ∈ Ts) (hv : M i 3 = v) (hd : decode cc pc = .ok (.getfield index, 3)) (k : WL x G A nL cs sl Q M (pc + 3) L (.int v :: st)) : WL x G A nL cs sl Q M pc L (.ref (G.2.2.1 i) :: st) := by
  obtain ⟨p, l, e, R, s, m, args, below, meth, c⟩ := x
  obtain ⟨hx, hb, hml, hown, hts, hK, hAp, hAu, hST, hlk, hNW, hRf, hRl, hcs, hsl⟩ := C
  intro ls H locs hl hP hS
  subst hv
  exact va_get (D := G.1) (ci := 2) (C := RX2) (T := TX2) (N := 4) hx hb hts hin hown hK hP i ((wd_at (kd_lt hi (by decide))).trans (by rw [cell_k hi]; rfl)) rfl 3 (by decide) (hts _ hk) (fun _ h => h) rfl hd (k ls H locs hl hP hS)
theorem wl_put_History_size (C : CX x G A own cc nL Ts f0 l0 cs sl) {i index : Nat} {v : Int32} (hi : kd i = 2) (hin : ∀ w ∈ wsX20, w ∈ Ts) (hk : Jvm.Cond.fieldLink own index "JammedBodies$History" "size" "I" ∈ Ts) (hd : decode cc pc = .ok (.putfield index, 3)) (k : WL x G A nL cs sl Q (mset M i 3 v) (pc + 3) L st) : WL x G A nL cs sl Q M pc L (.int v :: .ref (G.2.2.1 i) :: st) := by
  obtain ⟨p, l, e, R, s, m, args, below, meth, c⟩ := x
  obtain ⟨hx, hb, hml, hown, hts, hK, hAp, hAu, hST, hlk, hNW, hRf, hRl, hcs, hsl⟩ := C
  intro ls H locs hl hP hS
  refine va_put (D := G.1) (ci := 2) (v := .int v) (ty := .int) (C := RX2) (T := TX2) (N := 4) hx hb hts hin tyX2 tyX2_ok nmX2 hown hK hP (hAp.D M) hS i ((wd_at (kd_lt hi (by decide))).trans (by rw [cell_k hi]; rfl)) rfl 3 (by decide) (hts _ hk) (fun _ h => h) rfl (by decide +kernel) rfl rfl (Nat.le_of_ble_eq_true rfl) hd (fun H1 locs1 hP1 hD1 hS1 => ?_)
  rw [wd_set (M' := mset M i 3 v) (kd_lt hi (by decide)) (by rw [cell_k hi]; simp [cellK, mset]) mset_off] at hP1
  exact k ls H1 locs1 hl hP1 hS1
theorem wl_get_Packing_row (C : CX x G A own cc nL Ts f0 l0 cs sl) {i index : Nat} (hi : kd i = 3) (hin : ∀ w ∈ wsX30, w ∈ Ts) (hk : Jvm.Cond.fieldLink own index "JammedBodies$Packing" "row" "[LJammedBodies$Body;" ∈ Ts) (hd : decode cc pc = .ok (.getfield index, 3)) (k : WL x G A nL cs sl Q M (pc + 3) L (.ref (G.2.2.1 (i + 1)) :: st)) : WL x G A nL cs sl Q M pc L (.ref (G.2.2.1 i) :: st) := by
  obtain ⟨p, l, e, R, s, m, args, below, meth, c⟩ := x
  obtain ⟨hx, hb, hml, hown, hts, hK, hAp, hAu, hST, hlk, hNW, hRf, hRl, hcs, hsl⟩ := C
  intro ls H locs hl hP hS
  exact va_get (D := G.1) (ci := 3) (C := RX3) (T := TX3) (N := 6) hx hb hts hin hown hK hP i ((wd_at (kd_lt hi (by decide))).trans (by rw [cell_k hi]; rfl)) rfl 0 (by decide) (hts _ hk) (fun _ h => h) rfl hd (k ls H locs hl hP hS)
theorem wl_get_Packing_nobody (C : CX x G A own cc nL Ts f0 l0 cs sl) {i index : Nat} (hi : kd i = 3) (hin : ∀ w ∈ wsX30, w ∈ Ts) (hk : Jvm.Cond.fieldLink own index "JammedBodies$Packing" "nobody" "LJammedBodies$Body;" ∈ Ts) (hd : decode cc pc = .ok (.getfield index, 3)) (k : WL x G A nL cs sl Q M (pc + 3) L (.ref (G.2.2.1 (i + 26)) :: st)) : WL x G A nL cs sl Q M pc L (.ref (G.2.2.1 i) :: st) := by
  obtain ⟨p, l, e, R, s, m, args, below, meth, c⟩ := x
  obtain ⟨hx, hb, hml, hown, hts, hK, hAp, hAu, hST, hlk, hNW, hRf, hRl, hcs, hsl⟩ := C
  intro ls H locs hl hP hS
  exact va_get (D := G.1) (ci := 3) (C := RX3) (T := TX3) (N := 6) hx hb hts hin hown hK hP i ((wd_at (kd_lt hi (by decide))).trans (by rw [cell_k hi]; rfl)) rfl 1 (by decide) (hts _ hk) (fun _ h => h) rfl hd (k ls H locs hl hP hS)
theorem wl_get_Packing_ghost (C : CX x G A own cc nL Ts f0 l0 cs sl) {i index : Nat} (hi : kd i = 3) (hin : ∀ w ∈ wsX30, w ∈ Ts) (hk : Jvm.Cond.fieldLink own index "JammedBodies$Packing" "ghost" "LJammedBodies$Body;" ∈ Ts) (hd : decode cc pc = .ok (.getfield index, 3)) (k : WL x G A nL cs sl Q M (pc + 3) L (.ref (G.2.2.1 (i + 29)) :: st)) : WL x G A nL cs sl Q M pc L (.ref (G.2.2.1 i) :: st) := by
  obtain ⟨p, l, e, R, s, m, args, below, meth, c⟩ := x
  obtain ⟨hx, hb, hml, hown, hts, hK, hAp, hAu, hST, hlk, hNW, hRf, hRl, hcs, hsl⟩ := C
  intro ls H locs hl hP hS
  exact va_get (D := G.1) (ci := 3) (C := RX3) (T := TX3) (N := 6) hx hb hts hin hown hK hP i ((wd_at (kd_lt hi (by decide))).trans (by rw [cell_k hi]; rfl)) rfl 2 (by decide) (hts _ hk) (fun _ h => h) rfl hd (k ls H locs hl hP hS)
theorem wl_get_Packing_size (C : CX x G A own cc nL Ts f0 l0 cs sl) {i index : Nat} {v : Int32} (hi : kd i = 3) (hin : ∀ w ∈ wsX30, w ∈ Ts) (hk : Jvm.Cond.fieldLink own index "JammedBodies$Packing" "size" "I" ∈ Ts) (hv : M i 3 = v) (hd : decode cc pc = .ok (.getfield index, 3)) (k : WL x G A nL cs sl Q M (pc + 3) L (.int v :: st)) : WL x G A nL cs sl Q M pc L (.ref (G.2.2.1 i) :: st) := by
  obtain ⟨p, l, e, R, s, m, args, below, meth, c⟩ := x
  obtain ⟨hx, hb, hml, hown, hts, hK, hAp, hAu, hST, hlk, hNW, hRf, hRl, hcs, hsl⟩ := C
  intro ls H locs hl hP hS
  subst hv
  exact va_get (D := G.1) (ci := 3) (C := RX3) (T := TX3) (N := 6) hx hb hts hin hown hK hP i ((wd_at (kd_lt hi (by decide))).trans (by rw [cell_k hi]; rfl)) rfl 3 (by decide) (hts _ hk) (fun _ h => h) rfl hd (k ls H locs hl hP hS)
theorem wl_put_Packing_size (C : CX x G A own cc nL Ts f0 l0 cs sl) {i index : Nat} {v : Int32} (hi : kd i = 3) (hin : ∀ w ∈ wsX30, w ∈ Ts) (hk : Jvm.Cond.fieldLink own index "JammedBodies$Packing" "size" "I" ∈ Ts) (hd : decode cc pc = .ok (.putfield index, 3)) (k : WL x G A nL cs sl Q (mset M i 3 v) (pc + 3) L st) : WL x G A nL cs sl Q M pc L (.int v :: .ref (G.2.2.1 i) :: st) := by
  obtain ⟨p, l, e, R, s, m, args, below, meth, c⟩ := x
  obtain ⟨hx, hb, hml, hown, hts, hK, hAp, hAu, hST, hlk, hNW, hRf, hRl, hcs, hsl⟩ := C
  intro ls H locs hl hP hS
  refine va_put (D := G.1) (ci := 3) (v := .int v) (ty := .int) (C := RX3) (T := TX3) (N := 6) hx hb hts hin tyX3 tyX3_ok nmX3 hown hK hP (hAp.D M) hS i ((wd_at (kd_lt hi (by decide))).trans (by rw [cell_k hi]; rfl)) rfl 3 (by decide) (hts _ hk) (fun _ h => h) rfl (by decide +kernel) rfl rfl (Nat.le_of_ble_eq_true rfl) hd (fun H1 locs1 hP1 hD1 hS1 => ?_)
  rw [wd_set (M' := mset M i 3 v) (kd_lt hi (by decide)) (by rw [cell_k hi]; simp [cellK, mset]) mset_off] at hP1
  exact k ls H1 locs1 hl hP1 hS1
theorem wl_get_Packing_width (C : CX x G A own cc nL Ts f0 l0 cs sl) {i index : Nat} {v : Int32} (hi : kd i = 3) (hin : ∀ w ∈ wsX30, w ∈ Ts) (hk : Jvm.Cond.fieldLink own index "JammedBodies$Packing" "width" "I" ∈ Ts) (hv : M i 4 = v) (hd : decode cc pc = .ok (.getfield index, 3)) (k : WL x G A nL cs sl Q M (pc + 3) L (.int v :: st)) : WL x G A nL cs sl Q M pc L (.ref (G.2.2.1 i) :: st) := by
  obtain ⟨p, l, e, R, s, m, args, below, meth, c⟩ := x
  obtain ⟨hx, hb, hml, hown, hts, hK, hAp, hAu, hST, hlk, hNW, hRf, hRl, hcs, hsl⟩ := C
  intro ls H locs hl hP hS
  subst hv
  exact va_get (D := G.1) (ci := 3) (C := RX3) (T := TX3) (N := 6) hx hb hts hin hown hK hP i ((wd_at (kd_lt hi (by decide))).trans (by rw [cell_k hi]; rfl)) rfl 4 (by decide) (hts _ hk) (fun _ h => h) rfl hd (k ls H locs hl hP hS)
theorem wl_put_Packing_width (C : CX x G A own cc nL Ts f0 l0 cs sl) {i index : Nat} {v : Int32} (hi : kd i = 3) (hin : ∀ w ∈ wsX30, w ∈ Ts) (hk : Jvm.Cond.fieldLink own index "JammedBodies$Packing" "width" "I" ∈ Ts) (hd : decode cc pc = .ok (.putfield index, 3)) (k : WL x G A nL cs sl Q (mset M i 4 v) (pc + 3) L st) : WL x G A nL cs sl Q M pc L (.int v :: .ref (G.2.2.1 i) :: st) := by
  obtain ⟨p, l, e, R, s, m, args, below, meth, c⟩ := x
  obtain ⟨hx, hb, hml, hown, hts, hK, hAp, hAu, hST, hlk, hNW, hRf, hRl, hcs, hsl⟩ := C
  intro ls H locs hl hP hS
  refine va_put (D := G.1) (ci := 3) (v := .int v) (ty := .int) (C := RX3) (T := TX3) (N := 6) hx hb hts hin tyX3 tyX3_ok nmX3 hown hK hP (hAp.D M) hS i ((wd_at (kd_lt hi (by decide))).trans (by rw [cell_k hi]; rfl)) rfl 4 (by decide) (hts _ hk) (fun _ h => h) rfl (by decide +kernel) rfl rfl (Nat.le_of_ble_eq_true rfl) hd (fun H1 locs1 hP1 hD1 hS1 => ?_)
  rw [wd_set (M' := mset M i 4 v) (kd_lt hi (by decide)) (by rw [cell_k hi]; simp [cellK, mset]) mset_off] at hP1
  exact k ls H1 locs1 hl hP1 hS1
theorem wl_get_Packing_height (C : CX x G A own cc nL Ts f0 l0 cs sl) {i index : Nat} {v : Int32} (hi : kd i = 3) (hin : ∀ w ∈ wsX30, w ∈ Ts) (hk : Jvm.Cond.fieldLink own index "JammedBodies$Packing" "height" "I" ∈ Ts) (hv : M i 5 = v) (hd : decode cc pc = .ok (.getfield index, 3)) (k : WL x G A nL cs sl Q M (pc + 3) L (.int v :: st)) : WL x G A nL cs sl Q M pc L (.ref (G.2.2.1 i) :: st) := by
  obtain ⟨p, l, e, R, s, m, args, below, meth, c⟩ := x
  obtain ⟨hx, hb, hml, hown, hts, hK, hAp, hAu, hST, hlk, hNW, hRf, hRl, hcs, hsl⟩ := C
  intro ls H locs hl hP hS
  subst hv
  exact va_get (D := G.1) (ci := 3) (C := RX3) (T := TX3) (N := 6) hx hb hts hin hown hK hP i ((wd_at (kd_lt hi (by decide))).trans (by rw [cell_k hi]; rfl)) rfl 5 (by decide) (hts _ hk) (fun _ h => h) rfl hd (k ls H locs hl hP hS)
theorem wl_put_Packing_height (C : CX x G A own cc nL Ts f0 l0 cs sl) {i index : Nat} {v : Int32} (hi : kd i = 3) (hin : ∀ w ∈ wsX30, w ∈ Ts) (hk : Jvm.Cond.fieldLink own index "JammedBodies$Packing" "height" "I" ∈ Ts) (hd : decode cc pc = .ok (.putfield index, 3)) (k : WL x G A nL cs sl Q (mset M i 5 v) (pc + 3) L st) : WL x G A nL cs sl Q M pc L (.int v :: .ref (G.2.2.1 i) :: st) := by
  obtain ⟨p, l, e, R, s, m, args, below, meth, c⟩ := x
  obtain ⟨hx, hb, hml, hown, hts, hK, hAp, hAu, hST, hlk, hNW, hRf, hRl, hcs, hsl⟩ := C
  intro ls H locs hl hP hS
  refine va_put (D := G.1) (ci := 3) (v := .int v) (ty := .int) (C := RX3) (T := TX3) (N := 6) hx hb hts hin tyX3 tyX3_ok nmX3 hown hK hP (hAp.D M) hS i ((wd_at (kd_lt hi (by decide))).trans (by rw [cell_k hi]; rfl)) rfl 5 (by decide) (hts _ hk) (fun _ h => h) rfl (by decide +kernel) rfl rfl (Nat.le_of_ble_eq_true rfl) hd (fun H1 locs1 hP1 hD1 hS1 => ?_)
  rw [wd_set (M' := mset M i 5 v) (kd_lt hi (by decide)) (by rw [cell_k hi]; simp [cellK, mset]) mset_off] at hP1
  exact k ls H1 locs1 hl hP1 hS1
theorem wl_get_Main_packing (C : CX x G A own cc nL Ts f0 l0 cs sl) {i index : Nat} (hi : kd i = 4) (hin : ∀ w ∈ wsX40, w ∈ Ts) (hk : Jvm.Cond.fieldLink own index "JammedBodies" "packing" "LJammedBodies$Packing;" ∈ Ts) (hd : decode cc pc = .ok (.getfield index, 3)) (k : WL x G A nL cs sl Q M (pc + 3) L (.ref (G.2.2.1 (0)) :: st)) : WL x G A nL cs sl Q M pc L (.ref (G.2.2.1 i) :: st) := by
  obtain ⟨p, l, e, R, s, m, args, below, meth, c⟩ := x
  obtain ⟨hx, hb, hml, hown, hts, hK, hAp, hAu, hST, hlk, hNW, hRf, hRl, hcs, hsl⟩ := C
  intro ls H locs hl hP hS
  exact va_get (D := G.1) (ci := 4) (C := RX4) (T := TX4) (N := 4) hx hb hts hin hown hK hP i ((wd_at (kd_lt hi (by decide))).trans (by rw [cell_k hi]; rfl)) rfl 0 (by decide) (hts _ hk) (fun _ h => h) rfl hd (k ls H locs hl hP hS)
theorem wl_get_Main_trial (C : CX x G A own cc nL Ts f0 l0 cs sl) {i index : Nat} (hi : kd i = 4) (hin : ∀ w ∈ wsX40, w ∈ Ts) (hk : Jvm.Cond.fieldLink own index "JammedBodies" "trial" "LJammedBodies$Packing;" ∈ Ts) (hd : decode cc pc = .ok (.getfield index, 3)) (k : WL x G A nL cs sl Q M (pc + 3) L (.ref (G.2.2.1 (32)) :: st)) : WL x G A nL cs sl Q M pc L (.ref (G.2.2.1 i) :: st) := by
  obtain ⟨p, l, e, R, s, m, args, below, meth, c⟩ := x
  obtain ⟨hx, hb, hml, hown, hts, hK, hAp, hAu, hST, hlk, hNW, hRf, hRl, hcs, hsl⟩ := C
  intro ls H locs hl hP hS
  exact va_get (D := G.1) (ci := 4) (C := RX4) (T := TX4) (N := 4) hx hb hts hin hown hK hP i ((wd_at (kd_lt hi (by decide))).trans (by rw [cell_k hi]; rfl)) rfl 1 (by decide) (hts _ hk) (fun _ h => h) rfl hd (k ls H locs hl hP hS)
theorem wl_get_Main_history (C : CX x G A own cc nL Ts f0 l0 cs sl) {i index : Nat} (hi : kd i = 4) (hin : ∀ w ∈ wsX40, w ∈ Ts) (hk : Jvm.Cond.fieldLink own index "JammedBodies" "history" "LJammedBodies$History;" ∈ Ts) (hd : decode cc pc = .ok (.getfield index, 3)) (k : WL x G A nL cs sl Q M (pc + 3) L (.ref (G.2.2.1 (225)) :: st)) : WL x G A nL cs sl Q M pc L (.ref (G.2.2.1 i) :: st) := by
  obtain ⟨p, l, e, R, s, m, args, below, meth, c⟩ := x
  obtain ⟨hx, hb, hml, hown, hts, hK, hAp, hAu, hST, hlk, hNW, hRf, hRl, hcs, hsl⟩ := C
  intro ls H locs hl hP hS
  exact va_get (D := G.1) (ci := 4) (C := RX4) (T := TX4) (N := 4) hx hb hts hin hown hK hP i ((wd_at (kd_lt hi (by decide))).trans (by rw [cell_k hi]; rfl)) rfl 2 (by decide) (hts _ hk) (fun _ h => h) rfl hd (k ls H locs hl hP hS)
theorem wl_get_Main_text (C : CX x G A own cc nL Ts f0 l0 cs sl) {i index : Nat} (hi : kd i = 4) (hin : ∀ w ∈ wsX40, w ∈ Ts) (hk : Jvm.Cond.fieldLink own index "JammedBodies" "text" "LJammedBodies$BodyText;" ∈ Ts) (hd : decode cc pc = .ok (.getfield index, 3)) (k : WL x G A nL cs sl Q M (pc + 3) L (.ref (G.2.2.1 (227)) :: st)) : WL x G A nL cs sl Q M pc L (.ref (G.2.2.1 i) :: st) := by
  obtain ⟨p, l, e, R, s, m, args, below, meth, c⟩ := x
  obtain ⟨hx, hb, hml, hown, hts, hK, hAp, hAu, hST, hlk, hNW, hRf, hRl, hcs, hsl⟩ := C
  intro ls H locs hl hP hS
  exact va_get (D := G.1) (ci := 4) (C := RX4) (T := TX4) (N := 4) hx hb hts hin hown hK hP i ((wd_at (kd_lt hi (by decide))).trans (by rw [cell_k hi]; rfl)) rfl 3 (by decide) (hts _ hk) (fun _ h => h) rfl hd (k ls H locs hl hP hS)
theorem wl_iald (C : CX x G A own cc nL Ts f0 l0 cs sl) {i n j : Nat} {a v : Int32} (hi : i < 232) (hc : cell G M i = .inl (G.2.1 0, n, .inl (M i))) (ha : a = nI j) (hj : j < n) (hn : n < 2 ^ 31) (hv : M i j = v) (hd : decode cc pc = .ok (.iaload, 1)) (k : WL x G A nL cs sl Q M (pc + 1) L (.int v :: st)) : WL x G A nL cs sl Q M pc L (.int a :: .ref (G.2.2.1 i) :: st) := by
  obtain ⟨p, l, e, R, s, m, args, below, meth, c⟩ := x
  obtain ⟨hx, hb, hml, hown, hts, hK, hAp, hAu, hST, hlk, hNW, hRf, hRl, hcs, hsl⟩ := C
  intro ls H locs hl hP hS
  subst ha
  subst hv
  have k2 := (k ls H locs hl hP hS)
  refine va_iald (D := G.1) hx hb hK hP i 0 ((wd_at hi).trans (by rw [hc])) rfl (vp_in_nI hj hn) hd ?_
  rw [nI_clamp (by omega)]
  exact k2
theorem wl_iast (C : CX x G A own cc nL Ts f0 l0 cs sl) {i n j : Nat} {a v : Int32} (hi : i < 232) (hc : ∀ M : Mem, cell G M i = .inl (G.2.1 0, n, .inl (M i))) (ha : a = nI j) (hj : j < n) (hn : n < 2 ^ 31) (hd : decode cc pc = .ok (.iastore, 1)) (k : WL x G A nL cs sl Q (mset M i j v) (pc + 1) L st) : WL x G A nL cs sl Q M pc L (.int v :: .int a :: .ref (G.2.2.1 i) :: st) := by
  obtain ⟨p, l, e, R, s, m, args, below, meth, c⟩ := x
  obtain ⟨hx, hb, hml, hown, hts, hK, hAp, hAu, hST, hlk, hNW, hRf, hRl, hcs, hsl⟩ := C
  intro ls H locs hl hP hS
  subst ha
  refine va_iast (D := G.1) hx hb hK hP (hAp.D M) hS i 0 ((wd_at hi).trans (by rw [hc])) rfl (vp_in_nI hj hn) hd (fun H1 locs1 hP1 hD1 hS1 => ?_)
  rw [nI_clamp (by omega)] at hP1
  rw [wd_set (M' := mset M i j v) hi (by rw [hc, mset_upd]) mset_off] at hP1
  exact k ls H1 locs1 hl hP1 hS1
theorem wl_cald (C : CX x G A own cc nL Ts f0 l0 cs sl) {j : Nat} {a v : Int32} (ha : a = nI j) (hj : j < 60) (hv : M 228 j = v) (hd : decode cc pc = .ok (.caload, 1)) (k : WL x G A nL cs sl Q M (pc + 1) L (.int v :: st)) : WL x G A nL cs sl Q M pc L (.int a :: .ref (G.2.2.1 228) :: st) := by
  obtain ⟨p, l, e, R, s, m, args, below, meth, c⟩ := x
  obtain ⟨hx, hb, hml, hown, hts, hK, hAp, hAu, hST, hlk, hNW, hRf, hRl, hcs, hsl⟩ := C
  intro ls H locs hl hP hS
  subst ha
  subst hv
  have k2 := (k ls H locs hl hP hS)
  refine va_cald (D := G.1) hx hb hK hP 228 1 (wd_at (by decide)) rfl (vp_in_nI hj (by decide)) hd ?_
  rw [nI_clamp (by omega)]
  exact k2
theorem wl_cast (C : CX x G A own cc nL Ts f0 l0 cs sl) {j : Nat} {a v : Int32} (ha : a = nI j) (hj : j < 60) (hv : vp_nar .char v = v) (hd : decode cc pc = .ok (.castore, 1)) (k : WL x G A nL cs sl Q (mset M 228 j v) (pc + 1) L st) : WL x G A nL cs sl Q M pc L (.int v :: .int a :: .ref (G.2.2.1 228) :: st) := by
  obtain ⟨p, l, e, R, s, m, args, below, meth, c⟩ := x
  obtain ⟨hx, hb, hml, hown, hts, hK, hAp, hAu, hST, hlk, hNW, hRf, hRl, hcs, hsl⟩ := C
  intro ls H locs hl hP hS
  subst ha
  refine va_cast (D := G.1) hx hb hK hP (hAp.D M) hS 228 1 (wd_at (by decide)) rfl (vp_in_nI hj (by decide)) hd (fun H1 locs1 hP1 hD1 hS1 => ?_)
  rw [nI_clamp (by omega), hv] at hP1
  rw [wd_set (M' := mset M 228 j v) (by decide) (by show _ = Sum.inl _; rw [← mset_upd]; rfl) mset_off] at hP1
  exact k ls H1 locs1 hl hP1 hS1
theorem wl_aaldB (C : CX x G A own cc nL Ts f0 l0 cs sl) {i j : Nat} {a : Int32} (hi : kd i = 7) (ha : a = nI j) (hj : j < 8) (hd : decode cc pc = .ok (.aaload, 1)) (k : WL x G A nL cs sl Q M (pc + 1) L (.ref (G.2.2.1 (i + 1 + 3 * j)) :: st)) : WL x G A nL cs sl Q M pc L (.int a :: .ref (G.2.2.1 i) :: st) := by
  obtain ⟨p, l, e, R, s, m, args, below, meth, c⟩ := x
  obtain ⟨hx, hb, hml, hown, hts, hK, hAp, hAu, hST, hlk, hNW, hRf, hRl, hcs, hsl⟩ := C
  intro ls H locs hl hP hS
  subst ha
  have k2 := (k ls H locs hl hP hS)
  refine va_aldq (D := G.1) (C := "JammedBodies$Body") (f := fun k => some (G.2.2.1 (i + 1 + 3 * k))) hx hb hK hP i 2 ((wd_at (kd_lt hi (by decide))).trans (by rw [cell_k hi]; rfl)) rfl (vp_in_nI hj (by decide)) hd ?_
  rw [nI_clamp (by omega)]
  exact k2
theorem wl_aaldP (C : CX x G A own cc nL Ts f0 l0 cs sl) {j : Nat} {a : Int32} (ha : a = nI j) (hj : j < 4) (hd : decode cc pc = .ok (.aaload, 1)) (k : WL x G A nL cs sl Q M (pc + 1) L (.ref (G.2.2.1 (64 + 32 * j)) :: st)) : WL x G A nL cs sl Q M pc L (.int a :: .ref (G.2.2.1 226) :: st) := by
  obtain ⟨p, l, e, R, s, m, args, below, meth, c⟩ := x
  obtain ⟨hx, hb, hml, hown, hts, hK, hAp, hAu, hST, hlk, hNW, hRf, hRl, hcs, hsl⟩ := C
  intro ls H locs hl hP hS
  subst ha
  have k2 := (k ls H locs hl hP hS)
  refine va_aldq (D := G.1) (C := "JammedBodies$Packing") (f := fun k => some (G.2.2.1 (64 + 32 * k))) hx hb hK hP 226 3 (wd_at (by decide)) rfl (vp_in_nI hj (by decide)) hd ?_
  rw [nI_clamp (by omega)]
  exact k2
theorem wl_alenI (C : CX x G A own cc nL Ts f0 l0 cs sl) {i : Nat} (hi : kd i = 6) (hd : decode cc pc = .ok (.arraylength, 1)) (k : WL x G A nL cs sl Q M (pc + 1) L (.int 6 :: st)) : WL x G A nL cs sl Q M pc L (.ref (G.2.2.1 i) :: st) := by
  obtain ⟨p, l, e, R, s, m, args, below, meth, c⟩ := x
  obtain ⟨hx, hb, hml, hown, hts, hK, hAp, hAu, hST, hlk, hNW, hRf, hRl, hcs, hsl⟩ := C
  intro ls H locs hl hP hS
  exact va_alen (D := G.1) hx hb hK hP i 0 ((wd_at (kd_lt hi (by decide))).trans (by rw [cell_k hi]; rfl)) (ty := .int) rfl (v := 6) (by show Int32.ofNat 6 = 6; decide) hd (k ls H locs hl hP hS)
theorem wl_alenB (C : CX x G A own cc nL Ts f0 l0 cs sl) {i : Nat} (hi : kd i = 7) (hd : decode cc pc = .ok (.arraylength, 1)) (k : WL x G A nL cs sl Q M (pc + 1) L (.int 8 :: st)) : WL x G A nL cs sl Q M pc L (.ref (G.2.2.1 i) :: st) := by
  obtain ⟨p, l, e, R, s, m, args, below, meth, c⟩ := x
  obtain ⟨hx, hb, hml, hown, hts, hK, hAp, hAu, hST, hlk, hNW, hRf, hRl, hcs, hsl⟩ := C
  intro ls H locs hl hP hS
  exact va_alen (D := G.1) hx hb hK hP i 2 ((wd_at (kd_lt hi (by decide))).trans (by rw [cell_k hi]; rfl)) (ty := .object "JammedBodies$Body") rfl (v := 8) (by show Int32.ofNat 8 = 8; decide) hd (k ls H locs hl hP hS)
theorem wl_alenP (C : CX x G A own cc nL Ts f0 l0 cs sl) {i : Nat} (hi : kd i = 8) (hd : decode cc pc = .ok (.arraylength, 1)) (k : WL x G A nL cs sl Q M (pc + 1) L (.int 4 :: st)) : WL x G A nL cs sl Q M pc L (.ref (G.2.2.1 i) :: st) := by
  obtain ⟨p, l, e, R, s, m, args, below, meth, c⟩ := x
  obtain ⟨hx, hb, hml, hown, hts, hK, hAp, hAu, hST, hlk, hNW, hRf, hRl, hcs, hsl⟩ := C
  intro ls H locs hl hP hS
  exact va_alen (D := G.1) hx hb hK hP i 3 ((wd_at (kd_lt hi (by decide))).trans (by rw [cell_k hi]; rfl)) (ty := .object "JammedBodies$Packing") rfl (v := 4) (by show Int32.ofNat 4 = 4; decide) hd (k ls H locs hl hP hS)
theorem wl_alenC (C : CX x G A own cc nL Ts f0 l0 cs sl) {i : Nat} (hi : kd i = 9) (hd : decode cc pc = .ok (.arraylength, 1)) (k : WL x G A nL cs sl Q M (pc + 1) L (.int 60 :: st)) : WL x G A nL cs sl Q M pc L (.ref (G.2.2.1 i) :: st) := by
  obtain ⟨p, l, e, R, s, m, args, below, meth, c⟩ := x
  obtain ⟨hx, hb, hml, hown, hts, hK, hAp, hAu, hST, hlk, hNW, hRf, hRl, hcs, hsl⟩ := C
  intro ls H locs hl hP hS
  exact va_alen (D := G.1) hx hb hK hP i 1 ((wd_at (kd_lt hi (by decide))).trans (by rw [cell_k hi]; rfl)) (ty := .char) rfl (v := 60) (by show Int32.ofNat 60 = 60; decide) hd (k ls H locs hl hP hS)
end WLROWS
