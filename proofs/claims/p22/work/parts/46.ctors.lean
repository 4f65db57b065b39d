/-! CONSTRUCTORS: what they make -/
def ibw (G : Gw) (a : Nat → Nat) : va_W := [(a 0, .inr (0, [.ref (a 1), .ref (a 2), .int 0])), (a 1, .inl (G.2.1 0, 6, .inl (fun _ => 0))), (a 2, .inl (G.2.1 0, 6, .inl (fun _ => 0)))]
def ibs (G : Gw) (b : Nat → Nat → Nat) : Nat → va_W
  | 0 => []
  | k + 1 => ibs G b k ++ ibw G (b k)
/-- the first k places of a row of references -/
def rwF (b : Nat → Nat → Nat) (k : Nat) : Nat → Option Nat := fun j => if j < k then some (b j 0) else none
def ipw (G : Gw) (a : Nat → Nat) : va_W := (((a 0, .inr (3, [.ref (a 1), .ref (a 26), .ref (a 29), .int 0, .int 20, .int 20])) :: (a 1, .inl (G.2.1 2, 8, .inr (.inr (.inr (.inr (rwF (fun j i => a (2 + (3 * j + i))) 8)))))) :: ibs G (fun j i => a (2 + (3 * j + i))) 8) ++ ibw G (fun i => a (26 + i))) ++ ibw G (fun i => a (29 + i))
def ips (G : Gw) (b : Nat → Nat → Nat) : Nat → va_W
  | 0 => []
  | k + 1 => ips G b k ++ ipw G (b k)
def ihw (G : Gw) (a : Nat → Nat) : va_W := ((a 0, .inr (2, [.ref (a 1), .ref (a 130), .int 0, .int 0])) :: (a 1, .inl (G.2.1 3, 4, .inr (.inr (.inr (.inr (rwF (fun j i => a (2 + (32 * j + i))) 4)))))) :: ips G (fun j i => a (2 + (32 * j + i))) 4) ++ ipw G (fun i => a (130 + i))
def itw (G : Gw) (a : Nat → Nat) : va_W := [(a 0, .inr (1, [.ref (a 1), .int 0, .ref (a 2), .int 0, .int 0, .int 0, .int 0])), (a 1, .inl (G.2.1 1, 60, .inl (fun _ => 0)))] ++ ibw G (fun i => a (2 + i))
def ijw (G : Gw) (a : Nat → Nat) : va_W := ((([(a 0, .inr (4, [.ref (a 1), .ref (a 33), .ref (a 65), .ref (a 227)]))] ++ ipw G (fun i => a (1 + i))) ++ ipw G (fun i => a (33 + i))) ++ ihw G (fun i => a (65 + i))) ++ itw G (fun i => a (227 + i))
theorem ibw_congr {G : Gw} {f g : Nat → Nat} (h : ∀ i, i < 3 → f i = g i) : ibw G f = ibw G g := by
  unfold ibw
  rw [h 0 (by decide), h 1 (by decide), h 2 (by decide)]
theorem ibs_congr {G : Gw} {b c : Nat → Nat → Nat} : ∀ k, (∀ j, j < k → ∀ i, i < 3 → b j i = c j i) → ibs G b k = ibs G c k := by
  intro k
  induction k with
  | zero => intro _; rfl
  | succ k ih =>
    intro h
    show ibs G b k ++ ibw G (b k) = ibs G c k ++ ibw G (c k)
    rw [ih (fun j hj i hi => h j (Nat.lt_succ_of_lt hj) i hi), ibw_congr (fun i hi => h k (Nat.lt_succ_self k) i hi)]
theorem rwF_congr {b c : Nat → Nat → Nat} {k : Nat} (h : ∀ j, j < k → b j 0 = c j 0) : rwF b k = rwF c k := by
  funext j
  unfold rwF
  by_cases hj : j < k
  · rw [if_pos hj, if_pos hj, h j hj]
  · rw [if_neg hj, if_neg hj]
theorem ibs_step {G : Gw} {b : Nat → Nat → Nat} {a : Nat → Nat} {k : Nat} : ibs G b k ++ ibw G a = ibs G (fun j => if j = k then a else b j) (k + 1) := by
  show _ = ibs G (fun j => if j = k then a else b j) k ++ ibw G (if k = k then a else b k)
  rw [if_pos rfl, ibs_congr k (b := b) (c := fun j => if j = k then a else b j) (fun j hj i _ => by rw [if_neg (by omega)])]
theorem rwF_step {b : Nat → Nat → Nat} {a : Nat → Nat} {k : Nat} : va_up (rwF b k) k (some (a 0)) = rwF (fun j => if j = k then a else b j) (k + 1) := by
  funext j
  show (if j = k then some (a 0) else if j < k then some (b j 0) else none) = (if j < k + 1 then some ((if j = k then a else b j) 0) else none)
  by_cases h : j = k
  · rw [if_pos h, if_pos (by omega), if_pos h]
  · rw [if_neg h, if_neg h]
    by_cases h2 : j < k
    · rw [if_pos h2, if_pos (by omega)]
    · rw [if_neg h2, if_neg (by omega)]
theorem rwF_0 {b : Nat → Nat → Nat} : rwF b 0 = (fun _ => none) := funext fun j => if_neg (Nat.not_lt_zero j)
theorem ipw_congr {G : Gw} {f g : Nat → Nat} (h : ∀ i, i < 32 → f i = g i) : ipw G f = ipw G g := by
  unfold ipw
  rw [ibs_congr 8 (b := fun j i => f (2 + (3 * j + i))) (c := fun j i => g (2 + (3 * j + i))) (fun j hj i hi => h _ (by omega)), rwF_congr (b := fun j i => f (2 + (3 * j + i))) (c := fun j i => g (2 + (3 * j + i))) (fun j hj => h _ (by omega)),
    ibw_congr (f := fun i => f (26 + i)) (g := fun i => g (26 + i)) (fun i hi => h _ (by omega)), ibw_congr (f := fun i => f (29 + i)) (g := fun i => g (29 + i)) (fun i hi => h _ (by omega)), h 0 (by decide), h 1 (by decide), h 26 (by decide), h 29 (by decide)]
theorem ips_congr {G : Gw} {b c : Nat → Nat → Nat} : ∀ k, (∀ j, j < k → ∀ i, i < 32 → b j i = c j i) → ips G b k = ips G c k := by
  intro k
  induction k with
  | zero => intro _; rfl
  | succ k ih =>
    intro h
    show ips G b k ++ ipw G (b k) = ips G c k ++ ipw G (c k)
    rw [ih (fun j hj i hi => h j (Nat.lt_succ_of_lt hj) i hi), ipw_congr (fun i hi => h k (Nat.lt_succ_self k) i hi)]
theorem ips_step {G : Gw} {b : Nat → Nat → Nat} {a : Nat → Nat} {k : Nat} : ips G b k ++ ipw G a = ips G (fun j => if j = k then a else b j) (k + 1) := by
  show _ = ips G (fun j => if j = k then a else b j) k ++ ipw G (if k = k then a else b k)
  rw [if_pos rfl, ips_congr k (b := b) (c := fun j => if j = k then a else b j) (fun j hj i _ => by rw [if_neg (by omega)])]
theorem ihw_congr {G : Gw} {f g : Nat → Nat} (h : ∀ i, i < 162 → f i = g i) : ihw G f = ihw G g := by
  unfold ihw
  rw [ips_congr 4 (b := fun j i => f (2 + (32 * j + i))) (c := fun j i => g (2 + (32 * j + i))) (fun j hj i hi => h _ (by omega)), rwF_congr (b := fun j i => f (2 + (32 * j + i))) (c := fun j i => g (2 + (32 * j + i))) (fun j hj => h _ (by omega)),
    ipw_congr (f := fun i => f (130 + i)) (g := fun i => g (130 + i)) (fun i hi => h _ (by omega)), h 0 (by decide), h 1 (by decide), h 130 (by decide)]
theorem itw_congr {G : Gw} {f g : Nat → Nat} (h : ∀ i, i < 5 → f i = g i) : itw G f = itw G g := by
  unfold itw
  rw [ibw_congr (f := fun i => f (2 + i)) (g := fun i => g (2 + i)) (fun i hi => h _ (by omega)), h 0 (by decide), h 1 (by decide), h 2 (by decide)]
/-- the addresses put together -/
def aB (q0 q1 q2 : Nat) : Nat → Nat := fun i => match i with
  | 0 => q0
  | 1 => q1
  | _ => q2
def aP (h0 q1 : Nat) (b : Nat → Nat → Nat) (a1 a2 : Nat → Nat) : Nat → Nat := fun i => if i = 0 then h0 else if i = 1 then q1 else if i < 26 then b ((i - 2) / 3) ((i - 2) % 3) else if i < 29 then a1 (i - 26) else a2 (i - 29)
def aH (h0 q1 : Nat) (b : Nat → Nat → Nat) (a1 : Nat → Nat) : Nat → Nat := fun i => if i = 0 then h0 else if i = 1 then q1 else if i < 130 then b ((i - 2) / 32) ((i - 2) % 32) else a1 (i - 130)
def aT (h0 q1 : Nat) (a1 : Nat → Nat) : Nat → Nat := fun i => if i = 0 then h0 else if i = 1 then q1 else a1 (i - 2)
def aJ (h0 : Nat) (a1 a2 a3 a4 : Nat → Nat) : Nat → Nat := fun i => if i = 0 then h0 else if i < 33 then a1 (i - 1) else if i < 65 then a2 (i - 33) else if i < 227 then a3 (i - 65) else a4 (i - 227)
theorem aP_b {h0 q1 : Nat} {b : Nat → Nat → Nat} {a1 a2 : Nat → Nat} {j i : Nat} (hj : j < 8) (hi : i < 3) : aP h0 q1 b a1 a2 (2 + (3 * j + i)) = b j i := by
  unfold aP
  rw [if_neg (by omega), if_neg (by omega), if_pos (by omega), show (2 + (3 * j + i) - 2) / 3 = j by omega, show (2 + (3 * j + i) - 2) % 3 = i by omega]
theorem aP_1 {h0 q1 : Nat} {b : Nat → Nat → Nat} {a1 a2 : Nat → Nat} {i : Nat} (hi : i < 3) : aP h0 q1 b a1 a2 (26 + i) = a1 i := by
  unfold aP
  rw [if_neg (by omega), if_neg (by omega), if_neg (by omega), if_pos (by omega), show 26 + i - 26 = i by omega]
theorem aP_2 {h0 q1 : Nat} {b : Nat → Nat → Nat} {a1 a2 : Nat → Nat} {i : Nat} : aP h0 q1 b a1 a2 (29 + i) = a2 i := by
  unfold aP
  rw [if_neg (by omega), if_neg (by omega), if_neg (by omega), if_neg (by omega), show 29 + i - 29 = i by omega]
theorem ipw_eq {G : Gw} {h0 q1 : Nat} {b : Nat → Nat → Nat} {a1 a2 : Nat → Nat} : (((h0, .inr (3, [.ref q1, .ref (a1 0), .ref (a2 0), .int 0, .int 20, .int 20])) :: (q1, .inl (G.2.1 2, 8, .inr (.inr (.inr (.inr (rwF b 8)))))) :: ibs G b 8) ++ ibw G a1) ++ ibw G a2 = ipw G (aP h0 q1 b a1 a2) := by
  unfold ipw
  rw [ibs_congr 8 (b := fun j i => aP h0 q1 b a1 a2 (2 + (3 * j + i))) (c := b) (fun j hj i hi => aP_b hj hi), rwF_congr (b := fun j i => aP h0 q1 b a1 a2 (2 + (3 * j + i))) (c := b) (fun j hj => aP_b hj (by decide)),
    ibw_congr (f := fun i => aP h0 q1 b a1 a2 (26 + i)) (g := a1) (fun i hi => aP_1 hi), ibw_congr (f := fun i => aP h0 q1 b a1 a2 (29 + i)) (g := a2) (fun i hi => aP_2)]
  rfl
theorem aH_b {h0 q1 : Nat} {b : Nat → Nat → Nat} {a1 : Nat → Nat} {j i : Nat} (hj : j < 4) (hi : i < 32) : aH h0 q1 b a1 (2 + (32 * j + i)) = b j i := by
  unfold aH
  rw [if_neg (by omega), if_neg (by omega), if_pos (by omega), show (2 + (32 * j + i) - 2) / 32 = j by omega, show (2 + (32 * j + i) - 2) % 32 = i by omega]
theorem aH_1 {h0 q1 : Nat} {b : Nat → Nat → Nat} {a1 : Nat → Nat} {i : Nat} : aH h0 q1 b a1 (130 + i) = a1 i := by
  unfold aH
  rw [if_neg (by omega), if_neg (by omega), if_neg (by omega), show 130 + i - 130 = i by omega]
theorem ihw_eq {G : Gw} {h0 q1 : Nat} {b : Nat → Nat → Nat} {a1 : Nat → Nat} : ((h0, .inr (2, [.ref q1, .ref (a1 0), .int 0, .int 0])) :: (q1, .inl (G.2.1 3, 4, .inr (.inr (.inr (.inr (rwF b 4)))))) :: ips G b 4) ++ ipw G a1 = ihw G (aH h0 q1 b a1) := by
  unfold ihw
  rw [ips_congr 4 (b := fun j i => aH h0 q1 b a1 (2 + (32 * j + i))) (c := b) (fun j hj i hi => aH_b hj hi), rwF_congr (b := fun j i => aH h0 q1 b a1 (2 + (32 * j + i))) (c := b) (fun j hj => aH_b hj (by decide)),
    ipw_congr (f := fun i => aH h0 q1 b a1 (130 + i)) (g := a1) (fun i hi => aH_1)]
  rfl
theorem itw_eq {G : Gw} {h0 q1 : Nat} {a1 : Nat → Nat} : [(h0, .inr (1, [.ref q1, .int 0, .ref (a1 0), .int 0, .int 0, .int 0, .int 0])), (q1, .inl (G.2.1 1, 60, .inl (fun _ => 0)))] ++ ibw G a1 = itw G (aT h0 q1 a1) := by
  unfold itw
  rw [ibw_congr (f := fun i => aT h0 q1 a1 (2 + i)) (g := a1) (fun i hi => by unfold aT; rw [if_neg (by omega), if_neg (by omega), show 2 + i - 2 = i by omega])]
  rfl
theorem ijw_eq {G : Gw} {h0 : Nat} {a1 a2 a3 a4 : Nat → Nat} : ((([(h0, .inr (4, [.ref (a1 0), .ref (a2 0), .ref (a3 0), .ref (a4 0)]))] ++ ipw G a1) ++ ipw G a2) ++ ihw G a3) ++ itw G a4 = ijw G (aJ h0 a1 a2 a3 a4) := by
  unfold ijw
  rw [ipw_congr (f := fun i => aJ h0 a1 a2 a3 a4 (1 + i)) (g := a1) (fun i hi => by unfold aJ; rw [if_neg (by omega), if_pos (by omega), show 1 + i - 1 = i by omega]),
    ipw_congr (f := fun i => aJ h0 a1 a2 a3 a4 (33 + i)) (g := a2) (fun i hi => by unfold aJ; rw [if_neg (by omega), if_neg (by omega), if_pos (by omega), show 33 + i - 33 = i by omega]),
    ihw_congr (f := fun i => aJ h0 a1 a2 a3 a4 (65 + i)) (g := a3) (fun i hi => by unfold aJ; rw [if_neg (by omega), if_neg (by omega), if_neg (by omega), if_pos (by omega), show 65 + i - 65 = i by omega]),
    itw_congr (f := fun i => aJ h0 a1 a2 a3 a4 (227 + i)) (g := a4) (fun i hi => by unfold aJ; rw [if_neg (by omega), if_neg (by omega), if_neg (by omega), if_neg (by omega), show 227 + i - 227 = i by omega])]
  rfl
theorem at_end (w1 w2 : va_W) : (w1 ++ w2)[w1.length]? = w2[0]? := by rw [List.getElem?_append_right (Nat.le_refl _), Nat.sub_self]
theorem dfX0 : ∀ j, j < 3 → defaultValue (tyX0 j) = vp_V [.null, .null, .int 0] j := fun j hj => by rcases (show j = 0 ∨ j = 1 ∨ j = 2 by omega) with rfl | rfl | rfl <;> rfl
theorem dfX1 : ∀ j, j < 7 → defaultValue (tyX1 j) = vp_V [.null, .int 0, .null, .int 0, .int 0, .int 0, .int 0] j := fun j hj => by rcases (show j = 0 ∨ j = 1 ∨ j = 2 ∨ j = 3 ∨ j = 4 ∨ j = 5 ∨ j = 6 by omega) with rfl | rfl | rfl | rfl | rfl | rfl | rfl <;> rfl
theorem dfX2 : ∀ j, j < 4 → defaultValue (tyX2 j) = vp_V [.null, .null, .int 0, .int 0] j := fun j hj => by rcases (show j = 0 ∨ j = 1 ∨ j = 2 ∨ j = 3 by omega) with rfl | rfl | rfl | rfl <;> rfl
theorem dfX3 : ∀ j, j < 6 → defaultValue (tyX3 j) = vp_V [.null, .null, .null, .int 0, .int 0, .int 0] j := fun j hj => by rcases (show j = 0 ∨ j = 1 ∨ j = 2 ∨ j = 3 ∨ j = 4 ∨ j = 5 by omega) with rfl | rfl | rfl | rfl | rfl | rfl <;> rfl
theorem dfX4 : ∀ j, j < 4 → defaultValue (tyX4 j) = vp_V [.null, .null, .null, .null] j := fun j hj => by rcases (show j = 0 ∨ j = 1 ∨ j = 2 ∨ j = 3 by omega) with rfl | rfl | rfl | rfl <;> rfl
set_option maxHeartbeats 4000000 in
set_option maxRecDepth 100000 in
theorem c_X0_init (l : Launch) (G : Gw) : Ck l G yX0_init wsX0_init 1 12 2 12 0 [.null, .null, .int 0] (ibw G) := by
  refine Ck.of (cc := cX0_init) (maxL := 1) (by decide +kernel) rfl rfl (by decide) ?_
  intro x h0 sz hl0 hr hI C
  subst hl0
  have C : CK x G (AH h0 sz) RX0 cX0_init 1 wsX0_init 1 12 2 12 := C
  have in0 : ∀ w ∈ wsX00, w ∈ wsX0_init := by decide +kernel
  have hret : ∀ (a : Nat → Nat) (cs sl pc : Nat) (L : List (Nat × Value)), a 0 = h0 → cs ≤ 2 → sl ≤ 12 → decode cX0_init pc = .ok (.return_, 1) → WK x G (AH h0 sz) 1 cs sl (kE x G h0 sz 2 12 (ibw G)) (ibw G a) pc L [] := fun a cs sl pc L h1 h2 h3 hd => wk_ret C hr a h1 h2 h3 hd
  generalize (kE x G h0 sz 2 12 (ibw G)) = QQ at hret ⊢
  refine wk_aload_n C 0 dX0_init_0 rfl rfl ?_
  refine wk_obj C (by decide +kernel) (by decide +kernel) (by decide +kernel) (by decide) (by decide) dX0_init_1 ?_
  refine wk_aload_n C 0 dX0_init_4 rfl rfl ?_
  refine wk_bipush (v := nI 6) C dX0_init_5 (by decide) ?_
  refine wk_newI (n := 6) C (by decide +kernel) rfl (by decide) (by omega) (by omega) dX0_init_7 (fun q1 => ?_)
  refine wk_putF (v := .ref q1) (ws' := [(h0, .inr (0, [.ref q1, .null, .int 0])), (q1, .inl (G.2.1 0, 6, .inl (fun _ => 0)))]) C hI 0 0 0 tyX0 in0 tyX0_ok nmX0 rfl rfl (by decide) (by decide +kernel) rfl rfl (tyX0_ok 0 (by decide)) rfl rfl (Nat.le_of_ble_eq_true rfl) rfl dX0_init_9 ?_
  refine wk_aload_n C 0 dX0_init_12 rfl rfl ?_
  refine wk_bipush (v := nI 6) C dX0_init_13 (by decide) ?_
  refine wk_newI (n := 6) C (by decide +kernel) rfl (by decide) (by omega) (by omega) dX0_init_15 (fun q2 => ?_)
  refine wk_putF (v := .ref q2) (ws' := [(h0, .inr (0, [.ref q1, .ref q2, .int 0])), (q1, .inl (G.2.1 0, 6, .inl (fun _ => 0))), (q2, .inl (G.2.1 0, 6, .inl (fun _ => 0)))]) C hI 0 0 1 tyX0 in0 tyX0_ok nmX0 rfl rfl (by decide) (by decide +kernel) rfl rfl (tyX0_ok 1 (by decide)) rfl rfl (Nat.le_of_ble_eq_true rfl) rfl dX0_init_17 ?_
  refine wk_aload_n C 0 dX0_init_20 rfl rfl ?_
  refine wk_iconst (v := 0) C dX0_init_21 (by decide) ?_
  refine wk_put (v := .int 0) (ws' := [(h0, .inr (0, [.ref q1, .ref q2, .int 0])), (q1, .inl (G.2.1 0, 6, .inl (fun _ => 0))), (q2, .inl (G.2.1 0, 6, .inl (fun _ => 0)))]) C 0 0 2 tyX0 in0 tyX0_ok nmX0 rfl rfl (by decide) (by decide +kernel) rfl (tyX0_ok 2 (by decide)) rfl rfl (Nat.le_of_ble_eq_true rfl) rfl dX0_init_22 ?_
  refine wk_ws rfl (hret (aB h0 q1 q2) _ _ _ _ rfl (by omega) (by omega) dX0_init_25)
set_option maxHeartbeats 4000000 in
set_option maxRecDepth 100000 in
theorem c_X1_init (l : Launch) (G : Gw) : Ck l G yX1_init wsX1_init 2 32 4 75 1 [.null, .int 0, .null, .int 0, .int 0, .int 0, .int 0] (itw G) := by
  refine Ck.of (cc := cX1_init) (maxL := 1) (by decide +kernel) rfl rfl (by decide) ?_
  intro x h0 sz hl0 hr hI C
  subst hl0
  have C : CK x G (AH h0 sz) RX1 cX1_init 1 wsX1_init 2 32 4 75 := C
  have in0 : ∀ w ∈ wsX00, w ∈ wsX1_init := by decide +kernel
  have in1 : ∀ w ∈ wsX10, w ∈ wsX1_init := by decide +kernel
  have hret : ∀ (a : Nat → Nat) (cs sl pc : Nat) (L : List (Nat × Value)), a 0 = h0 → cs ≤ 4 → sl ≤ 75 → decode cX1_init pc = .ok (.return_, 1) → WK x G (AH h0 sz) 1 cs sl (kE x G h0 sz 4 75 (itw G)) (itw G a) pc L [] := fun a cs sl pc L h1 h2 h3 hd => wk_ret C hr a h1 h2 h3 hd
  generalize (kE x G h0 sz 4 75 (itw G)) = QQ at hret ⊢
  refine wk_aload_n C 0 dX1_init_0 rfl rfl ?_
  refine wk_obj C (by decide +kernel) (by decide +kernel) (by decide +kernel) (by decide) (by decide) dX1_init_1 ?_
  refine wk_aload_n C 0 dX1_init_4 rfl rfl ?_
  refine wk_bipush (v := nI 60) C dX1_init_5 (by decide) ?_
  refine wk_newC (n := 60) C (by decide +kernel) rfl (by decide) (by omega) (by omega) dX1_init_7 (fun q1 => ?_)
  refine wk_putF (v := .ref q1) (ws' := [(h0, .inr (1, [.ref q1, .int 0, .null, .int 0, .int 0, .int 0, .int 0])), (q1, .inl (G.2.1 1, 60, .inl (fun _ => 0)))]) C hI 0 1 0 tyX1 in1 tyX1_ok nmX1 rfl rfl (by decide) (by decide +kernel) rfl rfl (tyX1_ok 0 (by decide)) rfl rfl (Nat.le_of_ble_eq_true rfl) rfl dX1_init_9 ?_
  refine wk_aload_n C 0 dX1_init_12 rfl rfl ?_
  refine wk_new C 0 tyX0 [.null, .null, .int 0] in0 tyX0_ok (by decide +kernel) (by decide +kernel) (by decide +kernel) rfl dfX0 (by omega) (by omega) dX1_init_13 (fun q => ?_)
  refine wk_dup C dX1_init_16 rfl ?_
  refine wk_call (wy := wsX0_init) C [.ref q, .ref h0] (c_X0_init _ G) gX1_init_X0_init rfl (by decide +kernel) (by decide +kernel) (by decide +kernel) rfl (by decide +kernel) (by decide) (by decide) (by omega) (by omega) (Nat.le_of_ble_eq_true rfl) dX1_init_17 (fun a1 ha1 => ?_)
  subst ha1
  refine wk_putF (v := .ref (a1 0)) (ws' := [(h0, .inr (1, [.ref q1, .int 0, .ref (a1 0), .int 0, .int 0, .int 0, .int 0])), (q1, .inl (G.2.1 1, 60, .inl (fun _ => 0)))] ++ ibw G a1) C hI 0 1 2 tyX1 in1 tyX1_ok nmX1 rfl rfl (by decide) (by decide +kernel) rfl rfl (tyX1_ok 2 (by decide)) rfl rfl (Nat.le_of_ble_eq_true rfl) rfl dX1_init_20 ?_
  refine wk_aload_n C 0 dX1_init_23 rfl rfl ?_
  refine wk_iconst (v := 0) C dX1_init_24 (by decide) ?_
  refine wk_put (v := .int 0) (ws' := [(h0, .inr (1, [.ref q1, .int 0, .ref (a1 0), .int 0, .int 0, .int 0, .int 0])), (q1, .inl (G.2.1 1, 60, .inl (fun _ => 0)))] ++ ibw G a1) C 0 1 1 tyX1 in1 tyX1_ok nmX1 rfl rfl (by decide) (by decide +kernel) rfl (tyX1_ok 1 (by decide)) rfl rfl (Nat.le_of_ble_eq_true rfl) rfl dX1_init_25 ?_
  refine wk_aload_n C 0 dX1_init_28 rfl rfl ?_
  refine wk_iconst (v := 0) C dX1_init_29 (by decide) ?_
  refine wk_put (v := .int 0) (ws' := [(h0, .inr (1, [.ref q1, .int 0, .ref (a1 0), .int 0, .int 0, .int 0, .int 0])), (q1, .inl (G.2.1 1, 60, .inl (fun _ => 0)))] ++ ibw G a1) C 0 1 3 tyX1 in1 tyX1_ok nmX1 rfl rfl (by decide) (by decide +kernel) rfl (tyX1_ok 3 (by decide)) rfl rfl (Nat.le_of_ble_eq_true rfl) rfl dX1_init_30 ?_
  refine wk_aload_n C 0 dX1_init_33 rfl rfl ?_
  refine wk_iconst (v := 0) C dX1_init_34 (by decide) ?_
  refine wk_put (v := .int 0) (ws' := [(h0, .inr (1, [.ref q1, .int 0, .ref (a1 0), .int 0, .int 0, .int 0, .int 0])), (q1, .inl (G.2.1 1, 60, .inl (fun _ => 0)))] ++ ibw G a1) C 0 1 4 tyX1 in1 tyX1_ok nmX1 rfl rfl (by decide) (by decide +kernel) rfl (tyX1_ok 4 (by decide)) rfl rfl (Nat.le_of_ble_eq_true rfl) rfl dX1_init_35 ?_
  refine wk_aload_n C 0 dX1_init_38 rfl rfl ?_
  refine wk_iconst (v := 0) C dX1_init_39 (by decide) ?_
  refine wk_put (v := .int 0) (ws' := [(h0, .inr (1, [.ref q1, .int 0, .ref (a1 0), .int 0, .int 0, .int 0, .int 0])), (q1, .inl (G.2.1 1, 60, .inl (fun _ => 0)))] ++ ibw G a1) C 0 1 5 tyX1 in1 tyX1_ok nmX1 rfl rfl (by decide) (by decide +kernel) rfl (tyX1_ok 5 (by decide)) rfl rfl (Nat.le_of_ble_eq_true rfl) rfl dX1_init_40 ?_
  refine wk_aload_n C 0 dX1_init_43 rfl rfl ?_
  refine wk_iconst (v := 0) C dX1_init_44 (by decide) ?_
  refine wk_put (v := .int 0) (ws' := [(h0, .inr (1, [.ref q1, .int 0, .ref (a1 0), .int 0, .int 0, .int 0, .int 0])), (q1, .inl (G.2.1 1, 60, .inl (fun _ => 0)))] ++ ibw G a1) C 0 1 6 tyX1 in1 tyX1_ok nmX1 rfl rfl (by decide) (by decide +kernel) rfl (tyX1_ok 6 (by decide)) rfl rfl (Nat.le_of_ble_eq_true rfl) rfl dX1_init_45 ?_
  refine wk_ws itw_eq (hret (aT h0 q1 a1) _ _ _ _ rfl (by omega) (by omega) dX1_init_48)
set_option maxHeartbeats 4000000 in
set_option maxRecDepth 100000 in
theorem c_X3_init (l : Launch) (G : Gw) : Ck l G yX3_init wsX3_init 2 32 31 158 3 [.null, .null, .null, .int 0, .int 0, .int 0] (ipw G) := by
  refine Ck.of (cc := cX3_init) (maxL := 2) (by decide +kernel) rfl rfl (by decide) ?_
  intro x h0 sz hl0 hr hI C
  subst hl0
  have C : CK x G (AH h0 sz) RX3 cX3_init 2 wsX3_init 2 32 31 158 := C
  have in3 : ∀ w ∈ wsX30, w ∈ wsX3_init := by decide +kernel
  have in0 : ∀ w ∈ wsX00, w ∈ wsX3_init := by decide +kernel
  have hret : ∀ (a : Nat → Nat) (cs sl pc : Nat) (L : List (Nat × Value)), a 0 = h0 → cs ≤ 31 → sl ≤ 158 → decode cX3_init pc = .ok (.return_, 1) → WK x G (AH h0 sz) 2 cs sl (kE x G h0 sz 31 158 (ipw G)) (ipw G a) pc L [] := fun a cs sl pc L h1 h2 h3 hd => wk_ret C hr a h1 h2 h3 hd
  generalize (kE x G h0 sz 31 158 (ipw G)) = QQ at hret ⊢
  refine wk_aload_n C 0 dX3_init_0 rfl rfl ?_
  refine wk_obj C (by decide +kernel) (by decide +kernel) (by decide +kernel) (by decide) (by decide) dX3_init_1 ?_
  refine wk_aload_n C 0 dX3_init_4 rfl rfl ?_
  refine wk_bipush (v := nI 8) C dX3_init_5 (by decide) ?_
  refine wk_newB (n := 8) C (by decide +kernel) rfl (by decide) (by omega) (by omega) dX3_init_7 (fun q1 => ?_)
  refine wk_putF (v := .ref q1) (ws' := [(h0, .inr (3, [.ref q1, .null, .null, .int 0, .int 0, .int 0])), (q1, .inl (G.2.1 2, 8, .inr (.inr (.inr (.inr (fun _ => none))))))]) C hI 0 3 0 tyX3 in3 tyX3_ok nmX3 rfl rfl (by decide) (by decide +kernel) rfl rfl (tyX3_ok 0 (by decide)) rfl rfl (Nat.le_of_ble_eq_true rfl) rfl dX3_init_10 ?_
  refine wk_iconst (v := nI 0) C dX3_init_13 (by decide) ?_
  refine wk_istore_n (L' := [(1, .int (nI 0)), (0, .ref h0)]) C dX3_init_14 rfl (by decide) rfl ?_
  have loop : ∀ k, k ≤ 8 → ∀ b : Nat → Nat → Nat, WK x G (AH h0 sz) 2 (1 + 3 * k) (8 + 15 * k) QQ ((h0, .inr (3, [.ref q1, .null, .null, .int 0, .int 0, .int 0])) :: (q1, .inl (G.2.1 2, 8, .inr (.inr (.inr (.inr (rwF b k)))))) :: ibs G b k) 15 [(1, .int (nI k)), (0, .ref h0)] [] := by
    refine up_loop 8 _ ?_
    intro k hk ih b
    refine wk_iload_n C 0 dX3_init_15 rfl rfl ?_
    refine wk_aload_n C 1 dX3_init_16 rfl rfl ?_
    refine wk_get (v := .ref q1) C 0 3 0 in3 rfl rfl (by decide) (by decide +kernel) rfl dX3_init_17 ?_
    refine wk_alen C 1 2 rfl rfl dX3_init_20 ?_
    refine wk_icmp_ge C 43 dX3_init_21 (by decide) (fun cc => ?_) (fun cc => ?_)
    · have ek : k = 8 := by
        have := (nI_leI (a := 8) (b := k) (by decide) (by omega)).mp cc
        omega
      subst ek
      refine wk_aload_n C 1 dX3_init_43 rfl rfl ?_
      refine wk_new C 0 tyX0 [.null, .null, .int 0] in0 tyX0_ok (by decide +kernel) (by decide +kernel) (by decide +kernel) rfl dfX0 (by omega) (by omega) dX3_init_44 (fun q => ?_)
      refine wk_dup C dX3_init_47 rfl ?_
      refine wk_call (wy := wsX0_init) C [.ref q, .ref h0] (c_X0_init _ G) gX3_init_X0_init rfl (by decide +kernel) (by decide +kernel) (by decide +kernel) rfl (by decide +kernel) (by decide) (by decide) (by omega) (by omega) (Nat.le_of_ble_eq_true rfl) dX3_init_48 (fun a1 ha1 => ?_)
      subst ha1
      refine wk_putF (v := .ref (a1 0)) (ws' := ((h0, .inr (3, [.ref q1, .ref (a1 0), .null, .int 0, .int 0, .int 0])) :: (q1, .inl (G.2.1 2, 8, .inr (.inr (.inr (.inr (rwF b 8)))))) :: ibs G b 8) ++ ibw G a1) C hI 0 3 1 tyX3 in3 tyX3_ok nmX3 rfl rfl (by decide) (by decide +kernel) rfl rfl (tyX3_ok 1 (by decide)) rfl rfl (Nat.le_of_ble_eq_true rfl) rfl dX3_init_51 ?_
      refine wk_aload_n C 1 dX3_init_54 rfl rfl ?_
      refine wk_new C 0 tyX0 [.null, .null, .int 0] in0 tyX0_ok (by decide +kernel) (by decide +kernel) (by decide +kernel) rfl dfX0 (by omega) (by omega) dX3_init_55 (fun q => ?_)
      refine wk_dup C dX3_init_58 rfl ?_
      refine wk_call (wy := wsX0_init) C [.ref q, .ref h0] (c_X0_init _ G) gX3_init_X0_init rfl (by decide +kernel) (by decide +kernel) (by decide +kernel) rfl (by decide +kernel) (by decide) (by decide) (by omega) (by omega) (Nat.le_of_ble_eq_true rfl) dX3_init_59 (fun a2 ha2 => ?_)
      subst ha2
      refine wk_putF (v := .ref (a2 0)) (ws' := ((((h0, .inr (3, [.ref q1, .ref (a1 0), .ref (a2 0), .int 0, .int 0, .int 0])) :: (q1, .inl (G.2.1 2, 8, .inr (.inr (.inr (.inr (rwF b 8)))))) :: ibs G b 8) ++ ibw G a1) ++ ibw G a2)) C hI 0 3 2 tyX3 in3 tyX3_ok nmX3 rfl rfl (by decide) (by decide +kernel) rfl rfl (tyX3_ok 2 (by decide)) rfl rfl (Nat.le_of_ble_eq_true rfl) rfl dX3_init_62 ?_
      refine wk_aload_n C 1 dX3_init_65 rfl rfl ?_
      refine wk_iconst (v := 0) C dX3_init_66 (by decide) ?_
      refine wk_put (v := .int 0) (ws' := ((((h0, .inr (3, [.ref q1, .ref (a1 0), .ref (a2 0), .int 0, .int 0, .int 0])) :: (q1, .inl (G.2.1 2, 8, .inr (.inr (.inr (.inr (rwF b 8)))))) :: ibs G b 8) ++ ibw G a1) ++ ibw G a2)) C 0 3 3 tyX3 in3 tyX3_ok nmX3 rfl rfl (by decide) (by decide +kernel) rfl (tyX3_ok 3 (by decide)) rfl rfl (Nat.le_of_ble_eq_true rfl) rfl dX3_init_67 ?_
      refine wk_aload_n C 1 dX3_init_70 rfl rfl ?_
      refine wk_bipush (v := 20) C dX3_init_71 (by decide) ?_
      refine wk_put (v := .int 20) (ws' := ((((h0, .inr (3, [.ref q1, .ref (a1 0), .ref (a2 0), .int 0, .int 20, .int 0])) :: (q1, .inl (G.2.1 2, 8, .inr (.inr (.inr (.inr (rwF b 8)))))) :: ibs G b 8) ++ ibw G a1) ++ ibw G a2)) C 0 3 4 tyX3 in3 tyX3_ok nmX3 rfl rfl (by decide) (by decide +kernel) rfl (tyX3_ok 4 (by decide)) rfl rfl (Nat.le_of_ble_eq_true rfl) rfl dX3_init_73 ?_
      refine wk_aload_n C 1 dX3_init_76 rfl rfl ?_
      refine wk_bipush (v := 20) C dX3_init_77 (by decide) ?_
      refine wk_put (v := .int 20) (ws' := ((((h0, .inr (3, [.ref q1, .ref (a1 0), .ref (a2 0), .int 0, .int 20, .int 20])) :: (q1, .inl (G.2.1 2, 8, .inr (.inr (.inr (.inr (rwF b 8)))))) :: ibs G b 8) ++ ibw G a1) ++ ibw G a2)) C 0 3 5 tyX3 in3 tyX3_ok nmX3 rfl rfl (by decide) (by decide +kernel) rfl (tyX3_ok 5 (by decide)) rfl rfl (Nat.le_of_ble_eq_true rfl) rfl dX3_init_79 ?_
      refine wk_ws ipw_eq (hret (aP h0 q1 b a1 a2) _ _ _ _ rfl (by omega) (by omega) dX3_init_82)
    · have hk2 : k < 8 := by
        apply Classical.byContradiction
        intro z
        exact cc ((nI_leI (a := 8) (b := k) (by decide) (by omega)).mpr (by omega))
      refine wk_aload_n C 1 dX3_init_24 rfl rfl ?_
      refine wk_get (v := .ref q1) C 0 3 0 in3 rfl rfl (by decide) (by decide +kernel) rfl dX3_init_25 ?_
      refine wk_iload_n C 0 dX3_init_28 rfl rfl ?_
      refine wk_new C 0 tyX0 [.null, .null, .int 0] in0 tyX0_ok (by decide +kernel) (by decide +kernel) (by decide +kernel) rfl dfX0 (by omega) (by omega) dX3_init_29 (fun q => ?_)
      refine wk_dup C dX3_init_32 rfl ?_
      refine wk_call (wy := wsX0_init) C [.ref q, .int (nI k), .ref q1] (c_X0_init _ G) gX3_init_X0_init rfl (by decide +kernel) (by decide +kernel) (by decide +kernel) rfl (by decide +kernel) (by decide) (by decide) (by omega) (by omega) (Nat.le_of_ble_eq_true rfl) dX3_init_33 (fun a ha => ?_)
      subst ha
      refine wk_aast (r := (RX0, TX0, 3)) (ws' := ((h0, .inr (3, [.ref q1, .null, .null, .int 0, .int 0, .int 0])) :: (q1, .inl (G.2.1 2, 8, .inr (.inr (.inr (.inr (va_up (rwF b k) k (some (a 0)))))))) :: ibs G b k) ++ ibw G a) C 1 2 ((h0, .inr (3, [.ref q1, .null, .null, .int 0, .int 0, .int 0])) :: (q1, .inl (G.2.1 2, 8, .inr (.inr (.inr (.inr (rwF b k)))))) :: ibs G b k).length 0 rfl rfl ((at_end _ _).trans rfl) rfl hk2 (by decide) rfl dX3_init_36 ?_
      refine wk_iinc (w := nI (k + 1)) (L' := [(1, .int (nI (k + 1))), (0, .ref h0)]) C 0 dX3_init_37 rfl (nI_1 k) (by decide) rfl ?_
      refine wk_goto C 15 dX3_init_40 (by decide) ?_
      refine wk_widen (cs' := 1 + 3 * (k + 1)) (sl' := 8 + 15 * (k + 1)) (by omega) (by omega) ?_
      refine wk_ws ?_ (ih hk2 (fun j => if j = k then a else b j))
      show (h0, .inr (3, [.ref q1, .null, .null, .int 0, .int 0, .int 0])) :: (q1, .inl (G.2.1 2, 8, .inr (.inr (.inr (.inr (va_up (rwF b k) k (some (a 0)))))))) :: (ibs G b k ++ ibw G a) = _
      rw [rwF_step, ibs_step]
  refine wk_ws (ws' := (h0, .inr (3, [.ref q1, .null, .null, .int 0, .int 0, .int 0])) :: (q1, .inl (G.2.1 2, 8, .inr (.inr (.inr (.inr (rwF (fun _ _ => 0) 0)))))) :: ibs G (fun _ _ => 0) 0) ?_ (loop 0 (Nat.zero_le _) (fun _ _ => 0))
  rw [rwF_0]
  rfl
set_option maxHeartbeats 4000000 in
set_option maxRecDepth 100000 in
theorem c_X2_init (l : Launch) (G : Gw) : Ck l G yX2_init wsX2_init 3 53 161 824 2 [.null, .null, .int 0, .int 0] (ihw G) := by
  refine Ck.of (cc := cX2_init) (maxL := 2) (by decide +kernel) rfl rfl (by decide) ?_
  intro x h0 sz hl0 hr hI C
  subst hl0
  have C : CK x G (AH h0 sz) RX2 cX2_init 2 wsX2_init 3 53 161 824 := C
  have in2 : ∀ w ∈ wsX20, w ∈ wsX2_init := by decide +kernel
  have in3 : ∀ w ∈ wsX30, w ∈ wsX2_init := by decide +kernel
  have hret : ∀ (a : Nat → Nat) (cs sl pc : Nat) (L : List (Nat × Value)), a 0 = h0 → cs ≤ 161 → sl ≤ 824 → decode cX2_init pc = .ok (.return_, 1) → WK x G (AH h0 sz) 2 cs sl (kE x G h0 sz 161 824 (ihw G)) (ihw G a) pc L [] := fun a cs sl pc L h1 h2 h3 hd => wk_ret C hr a h1 h2 h3 hd
  generalize (kE x G h0 sz 161 824 (ihw G)) = QQ at hret ⊢
  refine wk_aload_n C 0 dX2_init_0 rfl rfl ?_
  refine wk_obj C (by decide +kernel) (by decide +kernel) (by decide +kernel) (by decide) (by decide) dX2_init_1 ?_
  refine wk_aload_n C 0 dX2_init_4 rfl rfl ?_
  refine wk_iconst (v := nI 4) C dX2_init_5 (by decide) ?_
  refine wk_newP (n := 4) C (by decide +kernel) rfl (by decide) (by omega) (by omega) dX2_init_6 (fun q1 => ?_)
  refine wk_putF (v := .ref q1) (ws' := [(h0, .inr (2, [.ref q1, .null, .int 0, .int 0])), (q1, .inl (G.2.1 3, 4, .inr (.inr (.inr (.inr (fun _ => none))))))]) C hI 0 2 0 tyX2 in2 tyX2_ok nmX2 rfl rfl (by decide) (by decide +kernel) rfl rfl (tyX2_ok 0 (by decide)) rfl rfl (Nat.le_of_ble_eq_true rfl) rfl dX2_init_9 ?_
  refine wk_iconst (v := nI 0) C dX2_init_12 (by decide) ?_
  refine wk_istore_n (L' := [(1, .int (nI 0)), (0, .ref h0)]) C dX2_init_13 rfl (by decide) rfl ?_
  have loop : ∀ k, k ≤ 4 → ∀ b : Nat → Nat → Nat, WK x G (AH h0 sz) 2 (1 + 32 * k) (4 + 164 * k) QQ ((h0, .inr (2, [.ref q1, .null, .int 0, .int 0])) :: (q1, .inl (G.2.1 3, 4, .inr (.inr (.inr (.inr (rwF b k)))))) :: ips G b k) 14 [(1, .int (nI k)), (0, .ref h0)] [] := by
    refine up_loop 4 _ ?_
    intro k hk ih b
    refine wk_iload_n C 0 dX2_init_14 rfl rfl ?_
    refine wk_aload_n C 1 dX2_init_15 rfl rfl ?_
    refine wk_get (v := .ref q1) C 0 2 0 in2 rfl rfl (by decide) (by decide +kernel) rfl dX2_init_16 ?_
    refine wk_alen C 1 3 rfl rfl dX2_init_19 ?_
    refine wk_icmp_ge C 42 dX2_init_20 (by decide) (fun cc => ?_) (fun cc => ?_)
    · have ek : k = 4 := by
        have := (nI_leI (a := 4) (b := k) (by decide) (by omega)).mp cc
        omega
      subst ek
      refine wk_aload_n C 1 dX2_init_42 rfl rfl ?_
      refine wk_new C 3 tyX3 [.null, .null, .null, .int 0, .int 0, .int 0] in3 tyX3_ok (by decide +kernel) (by decide +kernel) (by decide +kernel) rfl dfX3 (by omega) (by omega) dX2_init_43 (fun q => ?_)
      refine wk_dup C dX2_init_46 rfl ?_
      refine wk_call (wy := wsX3_init) C [.ref q, .ref h0] (c_X3_init _ G) gX2_init_X3_init rfl (by decide +kernel) (by decide +kernel) (by decide +kernel) rfl (by decide +kernel) (by decide) (by decide) (by omega) (by omega) (Nat.le_of_ble_eq_true rfl) dX2_init_47 (fun a1 ha1 => ?_)
      subst ha1
      refine wk_putF (v := .ref (a1 0)) (ws' := ((h0, .inr (2, [.ref q1, .ref (a1 0), .int 0, .int 0])) :: (q1, .inl (G.2.1 3, 4, .inr (.inr (.inr (.inr (rwF b 4)))))) :: ips G b 4) ++ ipw G a1) C hI 0 2 1 tyX2 in2 tyX2_ok nmX2 rfl rfl (by decide) (by decide +kernel) rfl rfl (tyX2_ok 1 (by decide)) rfl rfl (Nat.le_of_ble_eq_true rfl) rfl dX2_init_50 ?_
      refine wk_aload_n C 1 dX2_init_53 rfl rfl ?_
      refine wk_iconst (v := 0) C dX2_init_54 (by decide) ?_
      refine wk_put (v := .int 0) (ws' := ((h0, .inr (2, [.ref q1, .ref (a1 0), .int 0, .int 0])) :: (q1, .inl (G.2.1 3, 4, .inr (.inr (.inr (.inr (rwF b 4)))))) :: ips G b 4) ++ ipw G a1) C 0 2 2 tyX2 in2 tyX2_ok nmX2 rfl rfl (by decide) (by decide +kernel) rfl (tyX2_ok 2 (by decide)) rfl rfl (Nat.le_of_ble_eq_true rfl) rfl dX2_init_55 ?_
      refine wk_aload_n C 1 dX2_init_58 rfl rfl ?_
      refine wk_iconst (v := 0) C dX2_init_59 (by decide) ?_
      refine wk_put (v := .int 0) (ws' := ((h0, .inr (2, [.ref q1, .ref (a1 0), .int 0, .int 0])) :: (q1, .inl (G.2.1 3, 4, .inr (.inr (.inr (.inr (rwF b 4)))))) :: ips G b 4) ++ ipw G a1) C 0 2 3 tyX2 in2 tyX2_ok nmX2 rfl rfl (by decide) (by decide +kernel) rfl (tyX2_ok 3 (by decide)) rfl rfl (Nat.le_of_ble_eq_true rfl) rfl dX2_init_60 ?_
      refine wk_ws ihw_eq (hret (aH h0 q1 b a1) _ _ _ _ rfl (by omega) (by omega) dX2_init_63)
    · have hk2 : k < 4 := by
        apply Classical.byContradiction
        intro z
        exact cc ((nI_leI (a := 4) (b := k) (by decide) (by omega)).mpr (by omega))
      refine wk_aload_n C 1 dX2_init_23 rfl rfl ?_
      refine wk_get (v := .ref q1) C 0 2 0 in2 rfl rfl (by decide) (by decide +kernel) rfl dX2_init_24 ?_
      refine wk_iload_n C 0 dX2_init_27 rfl rfl ?_
      refine wk_new C 3 tyX3 [.null, .null, .null, .int 0, .int 0, .int 0] in3 tyX3_ok (by decide +kernel) (by decide +kernel) (by decide +kernel) rfl dfX3 (by omega) (by omega) dX2_init_28 (fun q => ?_)
      refine wk_dup C dX2_init_31 rfl ?_
      refine wk_call (wy := wsX3_init) C [.ref q, .int (nI k), .ref q1] (c_X3_init _ G) gX2_init_X3_init rfl (by decide +kernel) (by decide +kernel) (by decide +kernel) rfl (by decide +kernel) (by decide) (by decide) (by omega) (by omega) (Nat.le_of_ble_eq_true rfl) dX2_init_32 (fun a ha => ?_)
      subst ha
      refine wk_aast (r := (RX3, TX3, 6)) (ws' := ((h0, .inr (2, [.ref q1, .null, .int 0, .int 0])) :: (q1, .inl (G.2.1 3, 4, .inr (.inr (.inr (.inr (va_up (rwF b k) k (some (a 0)))))))) :: ips G b k) ++ ipw G a) C 1 3 ((h0, .inr (2, [.ref q1, .null, .int 0, .int 0])) :: (q1, .inl (G.2.1 3, 4, .inr (.inr (.inr (.inr (rwF b k)))))) :: ips G b k).length 3 rfl rfl ((at_end _ _).trans rfl) rfl hk2 (by decide) rfl dX2_init_35 ?_
      refine wk_iinc (w := nI (k + 1)) (L' := [(1, .int (nI (k + 1))), (0, .ref h0)]) C 0 dX2_init_36 rfl (nI_1 k) (by decide) rfl ?_
      refine wk_goto C 14 dX2_init_39 (by decide) ?_
      refine wk_widen (cs' := 1 + 32 * (k + 1)) (sl' := 4 + 164 * (k + 1)) (by omega) (by omega) ?_
      refine wk_ws ?_ (ih hk2 (fun j => if j = k then a else b j))
      show (h0, .inr (2, [.ref q1, .null, .int 0, .int 0])) :: (q1, .inl (G.2.1 3, 4, .inr (.inr (.inr (.inr (va_up (rwF b k) k (some (a 0)))))))) :: (ips G b k ++ ipw G a) = _
      rw [rwF_step, ips_step]
  refine wk_ws (ws' := (h0, .inr (2, [.ref q1, .null, .int 0, .int 0])) :: (q1, .inl (G.2.1 3, 4, .inr (.inr (.inr (.inr (rwF (fun _ _ => 0) 0)))))) :: ips G (fun _ _ => 0) 0) ?_ (loop 0 (Nat.zero_le _) (fun _ _ => 0))
  rw [rwF_0]
  rfl
set_option maxHeartbeats 4000000 in
set_option maxRecDepth 100000 in
theorem c_X4_init (l : Launch) (G : Gw) : Ck l G yX4_init wsX4_init 4 74 231 1238 4 [.null, .null, .null, .null] (ijw G) := by
  refine Ck.of (cc := cX4_init) (maxL := 1) (by decide +kernel) rfl rfl (by decide) ?_
  intro x h0 sz hl0 hr hI C
  subst hl0
  have C : CK x G (AH h0 sz) RX4 cX4_init 1 wsX4_init 4 74 231 1238 := C
  have in4 : ∀ w ∈ wsX40, w ∈ wsX4_init := by decide +kernel
  have in3 : ∀ w ∈ wsX30, w ∈ wsX4_init := by decide +kernel
  have in2 : ∀ w ∈ wsX20, w ∈ wsX4_init := by decide +kernel
  have in1 : ∀ w ∈ wsX10, w ∈ wsX4_init := by decide +kernel
  have hret : ∀ (a : Nat → Nat) (cs sl pc : Nat) (L : List (Nat × Value)), a 0 = h0 → cs ≤ 231 → sl ≤ 1238 → decode cX4_init pc = .ok (.return_, 1) → WK x G (AH h0 sz) 1 cs sl (kE x G h0 sz 231 1238 (ijw G)) (ijw G a) pc L [] := fun a cs sl pc L h1 h2 h3 hd => wk_ret C hr a h1 h2 h3 hd
  generalize (kE x G h0 sz 231 1238 (ijw G)) = QQ at hret ⊢
  refine wk_aload_n C 0 dX4_init_0 rfl rfl ?_
  refine wk_obj C (by decide +kernel) (by decide +kernel) (by decide +kernel) (by decide) (by decide) dX4_init_1 ?_
  refine wk_aload_n C 0 dX4_init_4 rfl rfl ?_
  refine wk_new C 3 tyX3 [.null, .null, .null, .int 0, .int 0, .int 0] in3 tyX3_ok (by decide +kernel) (by decide +kernel) (by decide +kernel) rfl dfX3 (by omega) (by omega) dX4_init_5 (fun q => ?_)
  refine wk_dup C dX4_init_8 rfl ?_
  refine wk_call (wy := wsX3_init) C [.ref q, .ref h0] (c_X3_init _ G) gX4_init_X3_init rfl (by decide +kernel) (by decide +kernel) (by decide +kernel) rfl (by decide +kernel) (by decide) (by decide) (by omega) (by omega) (Nat.le_of_ble_eq_true rfl) dX4_init_9 (fun a1 ha1 => ?_)
  subst ha1
  refine wk_putF (v := .ref (a1 0)) (ws' := ([(h0, .inr (4, [.ref (a1 0), .null, .null, .null]))] ++ ipw G a1)) C hI 0 4 0 tyX4 in4 tyX4_ok nmX4 rfl rfl (by decide) (by decide +kernel) rfl rfl (tyX4_ok 0 (by decide)) rfl rfl (Nat.le_of_ble_eq_true rfl) rfl dX4_init_12 ?_
  refine wk_aload_n C 0 dX4_init_15 rfl rfl ?_
  refine wk_new C 3 tyX3 [.null, .null, .null, .int 0, .int 0, .int 0] in3 tyX3_ok (by decide +kernel) (by decide +kernel) (by decide +kernel) rfl dfX3 (by omega) (by omega) dX4_init_16 (fun q => ?_)
  refine wk_dup C dX4_init_19 rfl ?_
  refine wk_call (wy := wsX3_init) C [.ref q, .ref h0] (c_X3_init _ G) gX4_init_X3_init rfl (by decide +kernel) (by decide +kernel) (by decide +kernel) rfl (by decide +kernel) (by decide) (by decide) (by omega) (by omega) (Nat.le_of_ble_eq_true rfl) dX4_init_20 (fun a2 ha2 => ?_)
  subst ha2
  refine wk_putF (v := .ref (a2 0)) (ws' := (([(h0, .inr (4, [.ref (a1 0), .ref (a2 0), .null, .null]))] ++ ipw G a1) ++ ipw G a2)) C hI 0 4 1 tyX4 in4 tyX4_ok nmX4 rfl rfl (by decide) (by decide +kernel) rfl rfl (tyX4_ok 1 (by decide)) rfl rfl (Nat.le_of_ble_eq_true rfl) rfl dX4_init_23 ?_
  refine wk_aload_n C 0 dX4_init_26 rfl rfl ?_
  refine wk_new C 2 tyX2 [.null, .null, .int 0, .int 0] in2 tyX2_ok (by decide +kernel) (by decide +kernel) (by decide +kernel) rfl dfX2 (by omega) (by omega) dX4_init_27 (fun q => ?_)
  refine wk_dup C dX4_init_30 rfl ?_
  refine wk_call (wy := wsX2_init) C [.ref q, .ref h0] (c_X2_init _ G) gX4_init_X2_init rfl (by decide +kernel) (by decide +kernel) (by decide +kernel) rfl (by decide +kernel) (by decide) (by decide) (by omega) (by omega) (Nat.le_of_ble_eq_true rfl) dX4_init_31 (fun a3 ha3 => ?_)
  subst ha3
  refine wk_putF (v := .ref (a3 0)) (ws' := ((([(h0, .inr (4, [.ref (a1 0), .ref (a2 0), .ref (a3 0), .null]))] ++ ipw G a1) ++ ipw G a2) ++ ihw G a3)) C hI 0 4 2 tyX4 in4 tyX4_ok nmX4 rfl rfl (by decide) (by decide +kernel) rfl rfl (tyX4_ok 2 (by decide)) rfl rfl (Nat.le_of_ble_eq_true rfl) rfl dX4_init_34 ?_
  refine wk_aload_n C 0 dX4_init_37 rfl rfl ?_
  refine wk_new C 1 tyX1 [.null, .int 0, .null, .int 0, .int 0, .int 0, .int 0] in1 tyX1_ok (by decide +kernel) (by decide +kernel) (by decide +kernel) rfl dfX1 (by omega) (by omega) dX4_init_38 (fun q => ?_)
  refine wk_dup C dX4_init_41 rfl ?_
  refine wk_call (wy := wsX1_init) C [.ref q, .ref h0] (c_X1_init _ G) gX4_init_X1_init rfl (by decide +kernel) (by decide +kernel) (by decide +kernel) rfl (by decide +kernel) (by decide) (by decide) (by omega) (by omega) (Nat.le_of_ble_eq_true rfl) dX4_init_42 (fun a4 ha4 => ?_)
  subst ha4
  refine wk_putF (v := .ref (a4 0)) (ws' := (((([(h0, .inr (4, [.ref (a1 0), .ref (a2 0), .ref (a3 0), .ref (a4 0)]))] ++ ipw G a1) ++ ipw G a2) ++ ihw G a3) ++ itw G a4)) C hI 0 4 3 tyX4 in4 tyX4_ok nmX4 rfl rfl (by decide) (by decide +kernel) rfl rfl (tyX4_ok 3 (by decide)) rfl rfl (Nat.le_of_ble_eq_true rfl) rfl dX4_init_45 ?_
  refine wk_ws ijw_eq (hret (aJ h0 a1 a2 a3 a4) _ _ _ _ rfl (by omega) (by omega) dX4_init_48)