/-! THE LAW: rows over a list of cells -/
section WKLAW
variable {x : Cn} {G : Gw} {A : Nat → Prop} {nL cs sl f0 l0 c0 s0 : Nat} {Q : State → Prop} {ws : va_W} {pc : Nat} {L : List (Nat × Value)} {st : List Value} {own : String} {cc : ByteArray} {Ts : List Cond}
theorem wk_ldc (C : CK x G A own cc nL Ts f0 l0 c0 s0) {index : Nat} {v : Int32} (hc : Jvm.Cond.constant own index v ∈ Ts) (hd : decode cc pc = .ok (.ldc index, 2)) (k : WK x G A nL cs sl Q ws (pc + 2) L (.int v :: st)) : WK x G A nL cs sl Q ws pc L st := by
  obtain ⟨p, l, e, R, s, m, args, below, meth, c⟩ := x
  obtain ⟨hx, hb, hml, hown, hts, hK, hAu, hO0, hO3, hlk, hRf, hRl, hRc, hRs⟩ := C
  intro ls H locs hl hP hD hS
  exact lv_ldc hx hb hown (hts _ hc) hd (k ls H locs hl hP hD hS)
theorem wk_iload (C : CK x G A own cc nL Ts f0 l0 c0 s0) {i : Nat} {v : Int32} (q : Nat) (hd : decode cc pc = .ok (.iload i, 2)) (hq : L[q]? = some (i, .int v)) (k : WK x G A nL cs sl Q ws (pc + 2) L (.int v :: st)) : WK x G A nL cs sl Q ws pc L st := by
  obtain ⟨p, l, e, R, s, m, args, below, meth, c⟩ := x
  obtain ⟨hx, hb, hml, hown, hts, hK, hAu, hO0, hO3, hlk, hRf, hRl, hRc, hRs⟩ := C
  intro ls H locs hl hP hD hS
  exact lv_iload hx hb hd (lv_at hl q hq) (k ls H locs hl hP hD hS)
theorem wk_aload (C : CK x G A own cc nL Ts f0 l0 c0 s0) {i : Nat} {v : Nat} (q : Nat) (hd : decode cc pc = .ok (.aload i, 2)) (hq : L[q]? = some (i, .ref v)) (k : WK x G A nL cs sl Q ws (pc + 2) L (.ref v :: st)) : WK x G A nL cs sl Q ws pc L st := by
  obtain ⟨p, l, e, R, s, m, args, below, meth, c⟩ := x
  obtain ⟨hx, hb, hml, hown, hts, hK, hAu, hO0, hO3, hlk, hRf, hRl, hRc, hRs⟩ := C
  intro ls H locs hl hP hD hS
  exact lv_aload hx hb hd (lv_at hl q hq) (k ls H locs hl hP hD hS)
theorem wk_istore (C : CK x G A own cc nL Ts f0 l0 c0 s0) {i : Nat} {v : Int32} {L' : List (Nat × Value)} (hd : decode cc pc = .ok (.istore i, 2)) (hn : i < nL) (hL : (i, Value.int v) :: L.filter (fun q => !(q.1 == i) && !(q.1 + 1 == i && q.2.category == 2)) = L') (k : WK x G A nL cs sl Q ws (pc + 2) L' st) : WK x G A nL cs sl Q ws pc L (.int v :: st) := by
  obtain ⟨p, l, e, R, s, m, args, below, meth, c⟩ := x
  obtain ⟨hx, hb, hml, hown, hts, hK, hAu, hO0, hO3, hlk, hRf, hRl, hRc, hRs⟩ := C
  intro ls H locs hl hP hD hS
  exact lv_istore hx hb hd hl hn hL (fun ls1 hl1 => k ls1 H locs hl1 hP hD hS)
theorem wk_astore (C : CK x G A own cc nL Ts f0 l0 c0 s0) {i : Nat} {v : Nat} {L' : List (Nat × Value)} (hd : decode cc pc = .ok (.astore i, 2)) (hn : i < nL) (hL : (i, Value.ref v) :: L.filter (fun q => !(q.1 == i) && !(q.1 + 1 == i && q.2.category == 2)) = L') (k : WK x G A nL cs sl Q ws (pc + 2) L' st) : WK x G A nL cs sl Q ws pc L (.ref v :: st) := by
  obtain ⟨p, l, e, R, s, m, args, below, meth, c⟩ := x
  obtain ⟨hx, hb, hml, hown, hts, hK, hAu, hO0, hO3, hlk, hRf, hRl, hRc, hRs⟩ := C
  intro ls H locs hl hP hD hS
  exact lv_astore hx hb hd hl hn hL (fun ls1 hl1 => k ls1 H locs hl1 hP hD hS)
theorem wk_iadd (C : CK x G A own cc nL Ts f0 l0 c0 s0) {a b : Int32} (hd : decode cc pc = .ok (.iadd, 1)) (k : WK x G A nL cs sl Q ws (pc + 1) L (.int (a + b) :: st)) : WK x G A nL cs sl Q ws pc L (.int b :: .int a :: st) := by
  obtain ⟨p, l, e, R, s, m, args, below, meth, c⟩ := x
  obtain ⟨hx, hb, hml, hown, hts, hK, hAu, hO0, hO3, hlk, hRf, hRl, hRc, hRs⟩ := C
  intro ls H locs hl hP hD hS
  exact lv_iadd hx hb hd (k ls H locs hl hP hD hS)
theorem wk_isub (C : CK x G A own cc nL Ts f0 l0 c0 s0) {a b : Int32} (hd : decode cc pc = .ok (.isub, 1)) (k : WK x G A nL cs sl Q ws (pc + 1) L (.int (a - b) :: st)) : WK x G A nL cs sl Q ws pc L (.int b :: .int a :: st) := by
  obtain ⟨p, l, e, R, s, m, args, below, meth, c⟩ := x
  obtain ⟨hx, hb, hml, hown, hts, hK, hAu, hO0, hO3, hlk, hRf, hRl, hRc, hRs⟩ := C
  intro ls H locs hl hP hD hS
  exact lv_isub hx hb hd (k ls H locs hl hP hD hS)
theorem wk_imul (C : CK x G A own cc nL Ts f0 l0 c0 s0) {a b : Int32} (hd : decode cc pc = .ok (.imul, 1)) (k : WK x G A nL cs sl Q ws (pc + 1) L (.int (a * b) :: st)) : WK x G A nL cs sl Q ws pc L (.int b :: .int a :: st) := by
  obtain ⟨p, l, e, R, s, m, args, below, meth, c⟩ := x
  obtain ⟨hx, hb, hml, hown, hts, hK, hAu, hO0, hO3, hlk, hRf, hRl, hRc, hRs⟩ := C
  intro ls H locs hl hP hD hS
  exact lv_imul hx hb hd (k ls H locs hl hP hD hS)
theorem wk_iand (C : CK x G A own cc nL Ts f0 l0 c0 s0) {a b : Int32} (hd : decode cc pc = .ok (.iand, 1)) (k : WK x G A nL cs sl Q ws (pc + 1) L (.int (a &&& b) :: st)) : WK x G A nL cs sl Q ws pc L (.int b :: .int a :: st) := by
  obtain ⟨p, l, e, R, s, m, args, below, meth, c⟩ := x
  obtain ⟨hx, hb, hml, hown, hts, hK, hAu, hO0, hO3, hlk, hRf, hRl, hRc, hRs⟩ := C
  intro ls H locs hl hP hD hS
  exact lv_iand hx hb hd (k ls H locs hl hP hD hS)
theorem wk_ishr (C : CK x G A own cc nL Ts f0 l0 c0 s0) {a b : Int32} (hd : decode cc pc = .ok (.ishr, 1)) (k : WK x G A nL cs sl Q ws (pc + 1) L (.int (a >>> (b &&& 31)) :: st)) : WK x G A nL cs sl Q ws pc L (.int b :: .int a :: st) := by
  obtain ⟨p, l, e, R, s, m, args, below, meth, c⟩ := x
  obtain ⟨hx, hb, hml, hown, hts, hK, hAu, hO0, hO3, hlk, hRf, hRl, hRc, hRs⟩ := C
  intro ls H locs hl hP hD hS
  exact lv_ishr hx hb hd (k ls H locs hl hP hD hS)
theorem wk_irem (C : CK x G A own cc nL Ts f0 l0 c0 s0) {a b : Int32} (hd : decode cc pc = .ok (.irem, 1)) (hne : ¬ b = 0) (k : WK x G A nL cs sl Q ws (pc + 1) L (.int (a - a / b * b) :: st)) : WK x G A nL cs sl Q ws pc L (.int b :: .int a :: st) := by
  obtain ⟨p, l, e, R, s, m, args, below, meth, c⟩ := x
  obtain ⟨hx, hb, hml, hown, hts, hK, hAu, hO0, hO3, hlk, hRf, hRl, hRc, hRs⟩ := C
  intro ls H locs hl hP hD hS
  exact lv_irem hx hb hd hne (k ls H locs hl hP hD hS)
theorem wk_icmp_eq (C : CK x G A own cc nL Ts f0 l0 c0 s0) {a b : Int32} {off : Int} (tgt : Nat) (hd : decode cc pc = .ok (.if_icmp .eq off, 3)) (ht : (pc : Int) + off = (tgt : Int)) (kt : a = b → WK x G A nL cs sl Q ws tgt L st) (kf : ¬ a = b → WK x G A nL cs sl Q ws (pc + 3) L st) : WK x G A nL cs sl Q ws pc L (.int b :: .int a :: st) := by
  obtain ⟨p, l, e, R, s, m, args, below, meth, c⟩ := x
  obtain ⟨hx, hb, hml, hown, hts, hK, hAu, hO0, hO3, hlk, hRf, hRl, hRc, hRs⟩ := C
  intro ls H locs hl hP hD hS
  exact lv_icmp_eq hx hb hd ht (fun q => kt q ls H locs hl hP hD hS) (fun q => kf q ls H locs hl hP hD hS)
theorem wk_icmp_ne (C : CK x G A own cc nL Ts f0 l0 c0 s0) {a b : Int32} {off : Int} (tgt : Nat) (hd : decode cc pc = .ok (.if_icmp .ne off, 3)) (ht : (pc : Int) + off = (tgt : Int)) (kt : ¬ a = b → WK x G A nL cs sl Q ws tgt L st) (kf : a = b → WK x G A nL cs sl Q ws (pc + 3) L st) : WK x G A nL cs sl Q ws pc L (.int b :: .int a :: st) := by
  obtain ⟨p, l, e, R, s, m, args, below, meth, c⟩ := x
  obtain ⟨hx, hb, hml, hown, hts, hK, hAu, hO0, hO3, hlk, hRf, hRl, hRc, hRs⟩ := C
  intro ls H locs hl hP hD hS
  exact lv_icmp_ne hx hb hd ht (fun q => kt q ls H locs hl hP hD hS) (fun q => kf q ls H locs hl hP hD hS)
theorem wk_icmp_lt (C : CK x G A own cc nL Ts f0 l0 c0 s0) {a b : Int32} {off : Int} (tgt : Nat) (hd : decode cc pc = .ok (.if_icmp .lt off, 3)) (ht : (pc : Int) + off = (tgt : Int)) (kt : a < b → WK x G A nL cs sl Q ws tgt L st) (kf : ¬ a < b → WK x G A nL cs sl Q ws (pc + 3) L st) : WK x G A nL cs sl Q ws pc L (.int b :: .int a :: st) := by
  obtain ⟨p, l, e, R, s, m, args, below, meth, c⟩ := x
  obtain ⟨hx, hb, hml, hown, hts, hK, hAu, hO0, hO3, hlk, hRf, hRl, hRc, hRs⟩ := C
  intro ls H locs hl hP hD hS
  exact lv_icmp_lt hx hb hd ht (fun q => kt q ls H locs hl hP hD hS) (fun q => kf q ls H locs hl hP hD hS)
theorem wk_icmp_le (C : CK x G A own cc nL Ts f0 l0 c0 s0) {a b : Int32} {off : Int} (tgt : Nat) (hd : decode cc pc = .ok (.if_icmp .le off, 3)) (ht : (pc : Int) + off = (tgt : Int)) (kt : a ≤ b → WK x G A nL cs sl Q ws tgt L st) (kf : ¬ a ≤ b → WK x G A nL cs sl Q ws (pc + 3) L st) : WK x G A nL cs sl Q ws pc L (.int b :: .int a :: st) := by
  obtain ⟨p, l, e, R, s, m, args, below, meth, c⟩ := x
  obtain ⟨hx, hb, hml, hown, hts, hK, hAu, hO0, hO3, hlk, hRf, hRl, hRc, hRs⟩ := C
  intro ls H locs hl hP hD hS
  exact lv_icmp_le hx hb hd ht (fun q => kt q ls H locs hl hP hD hS) (fun q => kf q ls H locs hl hP hD hS)
theorem wk_icmp_gt (C : CK x G A own cc nL Ts f0 l0 c0 s0) {a b : Int32} {off : Int} (tgt : Nat) (hd : decode cc pc = .ok (.if_icmp .gt off, 3)) (ht : (pc : Int) + off = (tgt : Int)) (kt : b < a → WK x G A nL cs sl Q ws tgt L st) (kf : ¬ b < a → WK x G A nL cs sl Q ws (pc + 3) L st) : WK x G A nL cs sl Q ws pc L (.int b :: .int a :: st) := by
  obtain ⟨p, l, e, R, s, m, args, below, meth, c⟩ := x
  obtain ⟨hx, hb, hml, hown, hts, hK, hAu, hO0, hO3, hlk, hRf, hRl, hRc, hRs⟩ := C
  intro ls H locs hl hP hD hS
  exact lv_icmp_gt hx hb hd ht (fun q => kt q ls H locs hl hP hD hS) (fun q => kf q ls H locs hl hP hD hS)
theorem wk_if_eq (C : CK x G A own cc nL Ts f0 l0 c0 s0) {a : Int32} {off : Int} (tgt : Nat) (hd : decode cc pc = .ok (.ifCond .eq off, 3)) (ht : (pc : Int) + off = (tgt : Int)) (kt : a = 0 → WK x G A nL cs sl Q ws tgt L st) (kf : ¬ a = 0 → WK x G A nL cs sl Q ws (pc + 3) L st) : WK x G A nL cs sl Q ws pc L (.int a :: st) := by
  obtain ⟨p, l, e, R, s, m, args, below, meth, c⟩ := x
  obtain ⟨hx, hb, hml, hown, hts, hK, hAu, hO0, hO3, hlk, hRf, hRl, hRc, hRs⟩ := C
  intro ls H locs hl hP hD hS
  exact lv_if_eq hx hb hd ht (fun q => kt q ls H locs hl hP hD hS) (fun q => kf q ls H locs hl hP hD hS)
theorem wk_if_ne (C : CK x G A own cc nL Ts f0 l0 c0 s0) {a : Int32} {off : Int} (tgt : Nat) (hd : decode cc pc = .ok (.ifCond .ne off, 3)) (ht : (pc : Int) + off = (tgt : Int)) (kt : ¬ a = 0 → WK x G A nL cs sl Q ws tgt L st) (kf : a = 0 → WK x G A nL cs sl Q ws (pc + 3) L st) : WK x G A nL cs sl Q ws pc L (.int a :: st) := by
  obtain ⟨p, l, e, R, s, m, args, below, meth, c⟩ := x
  obtain ⟨hx, hb, hml, hown, hts, hK, hAu, hO0, hO3, hlk, hRf, hRl, hRc, hRs⟩ := C
  intro ls H locs hl hP hD hS
  exact lv_if_ne hx hb hd ht (fun q => kt q ls H locs hl hP hD hS) (fun q => kf q ls H locs hl hP hD hS)
theorem wk_if_lt (C : CK x G A own cc nL Ts f0 l0 c0 s0) {a : Int32} {off : Int} (tgt : Nat) (hd : decode cc pc = .ok (.ifCond .lt off, 3)) (ht : (pc : Int) + off = (tgt : Int)) (kt : a < 0 → WK x G A nL cs sl Q ws tgt L st) (kf : ¬ a < 0 → WK x G A nL cs sl Q ws (pc + 3) L st) : WK x G A nL cs sl Q ws pc L (.int a :: st) := by
  obtain ⟨p, l, e, R, s, m, args, below, meth, c⟩ := x
  obtain ⟨hx, hb, hml, hown, hts, hK, hAu, hO0, hO3, hlk, hRf, hRl, hRc, hRs⟩ := C
  intro ls H locs hl hP hD hS
  exact lv_if_lt hx hb hd ht (fun q => kt q ls H locs hl hP hD hS) (fun q => kf q ls H locs hl hP hD hS)
theorem wk_if_gt (C : CK x G A own cc nL Ts f0 l0 c0 s0) {a : Int32} {off : Int} (tgt : Nat) (hd : decode cc pc = .ok (.ifCond .gt off, 3)) (ht : (pc : Int) + off = (tgt : Int)) (kt : 0 < a → WK x G A nL cs sl Q ws tgt L st) (kf : ¬ 0 < a → WK x G A nL cs sl Q ws (pc + 3) L st) : WK x G A nL cs sl Q ws pc L (.int a :: st) := by
  obtain ⟨p, l, e, R, s, m, args, below, meth, c⟩ := x
  obtain ⟨hx, hb, hml, hown, hts, hK, hAu, hO0, hO3, hlk, hRf, hRl, hRc, hRs⟩ := C
  intro ls H locs hl hP hD hS
  exact lv_if_gt hx hb hd ht (fun q => kt q ls H locs hl hP hD hS) (fun q => kf q ls H locs hl hP hD hS)
theorem wk_if_le (C : CK x G A own cc nL Ts f0 l0 c0 s0) {a : Int32} {off : Int} (tgt : Nat) (hd : decode cc pc = .ok (.ifCond .le off, 3)) (ht : (pc : Int) + off = (tgt : Int)) (kt : a ≤ 0 → WK x G A nL cs sl Q ws tgt L st) (kf : ¬ a ≤ 0 → WK x G A nL cs sl Q ws (pc + 3) L st) : WK x G A nL cs sl Q ws pc L (.int a :: st) := by
  obtain ⟨p, l, e, R, s, m, args, below, meth, c⟩ := x
  obtain ⟨hx, hb, hml, hown, hts, hK, hAu, hO0, hO3, hlk, hRf, hRl, hRc, hRs⟩ := C
  intro ls H locs hl hP hD hS
  exact lv_if_le hx hb hd ht (fun q => kt q ls H locs hl hP hD hS) (fun q => kf q ls H locs hl hP hD hS)
theorem wk_if_ge (C : CK x G A own cc nL Ts f0 l0 c0 s0) {a : Int32} {off : Int} (tgt : Nat) (hd : decode cc pc = .ok (.ifCond .ge off, 3)) (ht : (pc : Int) + off = (tgt : Int)) (kt : 0 ≤ a → WK x G A nL cs sl Q ws tgt L st) (kf : ¬ 0 ≤ a → WK x G A nL cs sl Q ws (pc + 3) L st) : WK x G A nL cs sl Q ws pc L (.int a :: st) := by
  obtain ⟨p, l, e, R, s, m, args, below, meth, c⟩ := x
  obtain ⟨hx, hb, hml, hown, hts, hK, hAu, hO0, hO3, hlk, hRf, hRl, hRc, hRs⟩ := C
  intro ls H locs hl hP hD hS
  exact lv_if_ge hx hb hd ht (fun q => kt q ls H locs hl hP hD hS) (fun q => kf q ls H locs hl hP hD hS)
theorem wk_swIn (C : CK x G A own cc nL Ts f0 l0 c0 s0) {dflt lo hi : Int} {offs : Array Int} {len : Nat} {a : Int32} {off : Int} (tgt : Nat) (hd : decode cc pc = .ok (.tableswitch dflt lo hi offs, len)) (h1 : ¬ a.toInt < lo) (h2 : ¬ hi < a.toInt) (ho : offs[(a.toInt - lo).toNat]? = some off) (ht : (pc : Int) + off = (tgt : Int)) (k : WK x G A nL cs sl Q ws tgt L st) : WK x G A nL cs sl Q ws pc L (.int a :: st) := by
  obtain ⟨p, l, e, R, s, m, args, below, meth, c⟩ := x
  obtain ⟨hx, hb, hml, hown, hts, hK, hAu, hO0, hO3, hlk, hRf, hRl, hRc, hRs⟩ := C
  intro ls H locs hl hP hD hS
  exact lv_tableIn hx hb hd h1 h2 ho ht (k ls H locs hl hP hD hS)
theorem wk_swOut (C : CK x G A own cc nL Ts f0 l0 c0 s0) {dflt lo hi : Int} {offs : Array Int} {len : Nat} {a : Int32} (tgt : Nat) (hd : decode cc pc = .ok (.tableswitch dflt lo hi offs, len)) (h : a.toInt < lo ∨ hi < a.toInt) (ht : (pc : Int) + dflt = (tgt : Int)) (k : WK x G A nL cs sl Q ws tgt L st) : WK x G A nL cs sl Q ws pc L (.int a :: st) := by
  obtain ⟨p, l, e, R, s, m, args, below, meth, c⟩ := x
  obtain ⟨hx, hb, hml, hown, hts, hK, hAu, hO0, hO3, hlk, hRf, hRl, hRc, hRs⟩ := C
  intro ls H locs hl hP hD hS
  exact lv_tableOut hx hb hd h ht (k ls H locs hl hP hD hS)
theorem wk_icmp_eqN (C : CK x G A own cc nL Ts f0 l0 c0 s0) {a b : Nat} (ha : a < 2 ^ 31) (hb : b < 2 ^ 31) {off : Int} (tgt : Nat) (hd : decode cc pc = .ok (.if_icmp .eq off, 3)) (ht : (pc : Int) + off = (tgt : Int)) (kt : a = b → WK x G A nL cs sl Q ws tgt L st) (kf : ¬ a = b → WK x G A nL cs sl Q ws (pc + 3) L st) : WK x G A nL cs sl Q ws pc L (.int (nI b) :: .int (nI a) :: st) :=
  wk_icmp_eq C tgt hd ht (fun q => kt ((nI_eq ha hb).mp q)) (fun q => kf (fun z => q ((nI_eq ha hb).mpr z)))
theorem wk_icmp_neN (C : CK x G A own cc nL Ts f0 l0 c0 s0) {a b : Nat} (ha : a < 2 ^ 31) (hb : b < 2 ^ 31) {off : Int} (tgt : Nat) (hd : decode cc pc = .ok (.if_icmp .ne off, 3)) (ht : (pc : Int) + off = (tgt : Int)) (kt : ¬ a = b → WK x G A nL cs sl Q ws tgt L st) (kf : a = b → WK x G A nL cs sl Q ws (pc + 3) L st) : WK x G A nL cs sl Q ws pc L (.int (nI b) :: .int (nI a) :: st) :=
  wk_icmp_ne C tgt hd ht (fun q => kt (fun z => q ((nI_eq ha hb).mpr z))) (fun q => kf ((nI_eq ha hb).mp q))
theorem wk_icmp_geN (C : CK x G A own cc nL Ts f0 l0 c0 s0) {a b : Nat} (ha : a < 2 ^ 31) (hb : b < 2 ^ 31) {off : Int} (tgt : Nat) (hd : decode cc pc = .ok (.if_icmp .ge off, 3)) (ht : (pc : Int) + off = (tgt : Int)) (kt : b ≤ a → WK x G A nL cs sl Q ws tgt L st) (kf : ¬ b ≤ a → WK x G A nL cs sl Q ws (pc + 3) L st) : WK x G A nL cs sl Q ws pc L (.int (nI b) :: .int (nI a) :: st) :=
  wk_icmp_ge C tgt hd ht (fun q => kt ((nI_leI hb ha).mp q)) (fun q => kf (fun z => q ((nI_leI hb ha).mpr z)))
theorem wk_icmp_ltN (C : CK x G A own cc nL Ts f0 l0 c0 s0) {a b : Nat} (ha : a < 2 ^ 31) (hb : b < 2 ^ 31) {off : Int} (tgt : Nat) (hd : decode cc pc = .ok (.if_icmp .lt off, 3)) (ht : (pc : Int) + off = (tgt : Int)) (kt : a < b → WK x G A nL cs sl Q ws tgt L st) (kf : ¬ a < b → WK x G A nL cs sl Q ws (pc + 3) L st) : WK x G A nL cs sl Q ws pc L (.int (nI b) :: .int (nI a) :: st) :=
  wk_icmp_lt C tgt hd ht (fun q => kt ((nI_ltI ha hb).mp q)) (fun q => kf (fun z => q ((nI_ltI ha hb).mpr z)))
theorem wk_icmp_leN (C : CK x G A own cc nL Ts f0 l0 c0 s0) {a b : Nat} (ha : a < 2 ^ 31) (hb : b < 2 ^ 31) {off : Int} (tgt : Nat) (hd : decode cc pc = .ok (.if_icmp .le off, 3)) (ht : (pc : Int) + off = (tgt : Int)) (kt : a ≤ b → WK x G A nL cs sl Q ws tgt L st) (kf : ¬ a ≤ b → WK x G A nL cs sl Q ws (pc + 3) L st) : WK x G A nL cs sl Q ws pc L (.int (nI b) :: .int (nI a) :: st) :=
  wk_icmp_le C tgt hd ht (fun q => kt ((nI_leI ha hb).mp q)) (fun q => kf (fun z => q ((nI_leI ha hb).mpr z)))
theorem wk_eqi {a b : Int32} (h : a = b) (k : WK x G A nL cs sl Q ws pc L (.int b :: st)) : WK x G A nL cs sl Q ws pc L (.int a :: st) := by rw [h]; exact k
theorem wk_locs {L' : List (Nat × Value)} (h : L = L') (k : WK x G A nL cs sl Q ws pc L' st) : WK x G A nL cs sl Q ws pc L st := by rw [h]; exact k
theorem wk_iinc1 (C : CK x G A own cc nL Ts f0 l0 c0 s0) {i k : Nat} {L' : List (Nat × Value)} (q : Nat) (hd : decode cc pc = .ok (.iinc i 1, 3)) (hq : L[q]? = some (i, .int (nI k))) (hn : i < nL) (hL : (i, Value.int (nI (k + 1))) :: L.filter (fun q => !(q.1 == i) && !(q.1 + 1 == i && q.2.category == 2)) = L') (kk : WK x G A nL cs sl Q ws (pc + 3) L' st) : WK x G A nL cs sl Q ws pc L st :=
  wk_iinc C q hd hq (nI_1 k) hn hL kk
theorem wk_if_eqB (C : CK x G A own cc nL Ts f0 l0 c0 s0) {b : Bool} {off : Int} (tgt : Nat) (hd : decode cc pc = .ok (.ifCond .eq off, 3)) (ht : (pc : Int) + off = (tgt : Int)) (kt : b = false → WK x G A nL cs sl Q ws tgt L st) (kf : b = true → WK x G A nL cs sl Q ws (pc + 3) L st) : WK x G A nL cs sl Q ws pc L (.int (bi b) :: st) :=
  wk_if_eq C tgt hd ht (fun h => kt (bi_0.mp h)) (fun h => kf (by cases b; exact absurd rfl h; rfl))
theorem wk_if_neB (C : CK x G A own cc nL Ts f0 l0 c0 s0) {b : Bool} {off : Int} (tgt : Nat) (hd : decode cc pc = .ok (.ifCond .ne off, 3)) (ht : (pc : Int) + off = (tgt : Int)) (kt : b = true → WK x G A nL cs sl Q ws tgt L st) (kf : b = false → WK x G A nL cs sl Q ws (pc + 3) L st) : WK x G A nL cs sl Q ws pc L (.int (bi b) :: st) :=
  wk_if_ne C tgt hd ht (fun h => kt (by cases b; exact absurd rfl h; rfl)) (fun h => kf (bi_0.mp h))
end WKLAW
