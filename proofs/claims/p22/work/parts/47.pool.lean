/-! THE POOL OUT OF WHAT THE TWO CONSTRUCTORS MADE -/
/-- the memory behind the constructors: all packings are 20 by 20 -/
def MS : Mem := fun i k => if (i < 224 ∧ i % 32 = 0 ∧ (k = 4 ∨ k = 5)) ∨ (i = 233 ∧ (k = 0 ∨ k = 1)) then 20 else 0
def pmF (i : Nat) : Nat := if i < 64 then i + 1 else if i < 224 then i + 3 else if i = 224 then 0 else if i = 225 then 65 else if i = 226 then 66 else i
def adP (a : Nat → Nat) : Nat → Nat := fun i => a (pmF i)
def gP (G : Gw) (a : Nat → Nat) : Gw := (G.1, G.2.1, adP a, G.2.2.2.1, G.2.2.2.2)
/-- a list of cells whose addresses are g 0 .. g (n - 1) -/
def AdL (w : va_W) (g : Nat → Nat) (n : Nat) : Prop := w.length = n ∧ ∀ i, i < n → ∃ e, w[i]? = some (g i, e)
theorem AdL.app {w1 w2 : va_W} {g : Nat → Nat} {n m : Nat} (h1 : AdL w1 g n) (h2 : AdL w2 (fun i => g (n + i)) m) : AdL (w1 ++ w2) g (n + m) := by
  refine ⟨by rw [List.length_append, h1.1, h2.1], fun i hi => ?_⟩
  by_cases h : i < n
  · obtain ⟨e, he⟩ := h1.2 i h
    exact ⟨e, by rw [List.getElem?_append_left (by rw [h1.1]; exact h)]; exact he⟩
  · obtain ⟨e, he⟩ := h2.2 (i - n) (by omega)
    refine ⟨e, ?_⟩
    rw [List.getElem?_append_right (by rw [h1.1]; omega), h1.1, he]
    show some (g (n + (i - n)), e) = some (g i, e)
    rw [show n + (i - n) = i by omega]
theorem AdL.congr {w : va_W} {g f : Nat → Nat} {n : Nat} (h : AdL w g n) (hf : ∀ i, i < n → f i = g i) : AdL w f n := ⟨h.1, fun i hi => by rw [hf i hi]; exact h.2 i hi⟩
theorem AdL_bw (G : Gw) (g : Nat → Nat) : AdL (ibw G g) g 3 := ⟨rfl, fun i hi => by rcases (show i = 0 ∨ i = 1 ∨ i = 2 by omega) with rfl | rfl | rfl <;> exact ⟨_, rfl⟩⟩
theorem AdL_two {p q : Nat × va_E} {g : Nat → Nat} (h0 : p.1 = g 0) (h1 : q.1 = g 1) : AdL [p, q] g 2 := ⟨rfl, fun i hi => by
  rcases (show i = 0 ∨ i = 1 by omega) with rfl | rfl
  · exact ⟨p.2, by rw [← h0]; rfl⟩
  · exact ⟨q.2, by rw [← h1]; rfl⟩⟩
theorem AdL_bs (G : Gw) (g : Nat → Nat) : ∀ k, AdL (ibs G (fun j i => g (3 * j + i)) k) g (3 * k) := by
  intro k
  induction k with
  | zero => exact ⟨rfl, fun i hi => absurd hi (Nat.not_lt_zero _)⟩
  | succ k ih => exact ih.app (AdL_bw G (fun i => g (3 * k + i)))
theorem AdL_pw (G : Gw) (g : Nat → Nat) : AdL (ipw G g) g 32 :=
  (((AdL_two (g := g) rfl rfl).app (AdL_bs G (fun i => g (2 + i)) 8)).app (AdL_bw G (fun i => g (26 + i)))).app (AdL_bw G (fun i => g (29 + i)))
theorem AdL_ps (G : Gw) (g : Nat → Nat) : ∀ k, AdL (ips G (fun j i => g (32 * j + i)) k) g (32 * k) := by
  intro k
  induction k with
  | zero => exact ⟨rfl, fun i hi => absurd hi (Nat.not_lt_zero _)⟩
  | succ k ih => exact ih.app (AdL_pw G (fun i => g (32 * k + i)))
theorem AdL_hw (G : Gw) (g : Nat → Nat) : AdL (ihw G g) g 162 :=
  ((AdL_two (g := g) rfl rfl).app (AdL_ps G (fun i => g (2 + i)) 4)).app (AdL_pw G (fun i => g (130 + i)))
theorem AdL_tw (G : Gw) (g : Nat → Nat) : AdL (itw G g) g 5 := (AdL_two (g := g) rfl rfl).app (AdL_bw G (fun i => g (2 + i)))
theorem AdL_jw (G : Gw) (g : Nat → Nat) : AdL (ijw G g) g 232 :=
  (((((show AdL [(g 0, (.inr (4, [.ref (g 1), .ref (g 33), .ref (g 65), .ref (g 227)]) : va_E))] g 1 from ⟨rfl, fun i hi => by rw [show i = 0 by omega]; exact ⟨_, rfl⟩⟩).app (AdL_pw G (fun i => g (1 + i)))).app (AdL_pw G (fun i => g (33 + i)))).app (AdL_hw G (fun i => g (65 + i)))).app (AdL_tw G (fun i => g (227 + i))))
theorem AdL.D {w : va_W} {g : Nat → Nat} {n : Nat} {A : Nat → Prop} (h : AdL w g n) (hD : va_D A w) : (∀ i j, i < n → j < n → g i = g j → i = j) ∧ ∀ i, i < n → A (g i) := by
  refine ⟨fun i j hi hj e => ?_, fun i hi => ?_⟩
  · obtain ⟨x, hx⟩ := h.2 i hi
    obtain ⟨y, hy⟩ := h.2 j hj
    exact hD.1 i j _ _ hx hy e
  · obtain ⟨x, hx⟩ := h.2 i hi
    exact hD.2 i _ hx
theorem pmF_lt {i : Nat} (h : i < 232) : pmF i < 232 := by
  unfold pmF
  repeat' split
  all_goals omega
theorem pmF_inj {i j : Nat} (hi : i < 232) (hj : j < 232) (h : pmF i = pmF j) : i = j := by
  unfold pmF at h
  repeat' split at h
  all_goals omega
theorem Ap_of {G : Gw} {a : Nat → Nat} {A : Nat → Prop} (hD : va_D A (ijw G a)) : Ap A (adP a) := by
  obtain ⟨h1, h2⟩ := (AdL_jw G a).D hD
  exact ⟨fun i j hi hj e => pmF_inj hi hj (h1 _ _ (pmF_lt hi) (pmF_lt hj) e), fun i hi => h2 _ (pmF_lt hi)⟩
/-! what lies in the heap -/
theorem arrV_congr {c : ClassId} {n : Nat} {f g : Nat → Value} (h : ∀ j, j < n → f j = g j) : arrV c n f = arrV c n g := by
  have e : (fun j : Fin n => f j.val) = (fun j : Fin n => g j.val) := funext fun j => h j.val j.isLt
  unfold arrV
  rw [e]
theorem row_at {D : va_G} {cl : List vw_C} {q : Nat} {cA : ClassId} {n : Nat} {f g : Nat → Option Nat} {H : Heap} (h : va_at D cl (q, .inl (cA, n, .inr (.inr (.inr (.inr f))))) H) (hfg : ∀ j, j < n → f j = g j) : va_at D cl (q, .inl (cA, n, .inr (.inr (.inr (.inr g))))) H := by
  show H[q]? = some (vp_cell _ _)
  have h1 : H[q]? = some (vp_cell cA (n, .inr (.inr (.inr (.inr f))))) := h
  rw [h1, vp_cell_q, vp_cell_q, arrV_congr (f := fun j => va_rf (f j)) (g := fun j => va_rf (g j)) (fun j hj => by rw [hfg j hj])]
/-- a cell of the pool lies at its address -/
def Hd (D : va_G) (dA : Nat → ClassId) (ad : Nat → Nat) (H : Heap) (i : Nat) : Prop := va_at D vwCl (ad i, cellK dA ad (MS i) i (kd i)) H
theorem MS_0 {i k : Nat} (h : ¬ ((i < 224 ∧ i % 32 = 0 ∧ (k = 4 ∨ k = 5)) ∨ (i = 233 ∧ (k = 0 ∨ k = 1)))) : MS i k = 0 := if_neg h
theorem MS_20 {i k : Nat} (h : (i < 224 ∧ i % 32 = 0 ∧ (k = 4 ∨ k = 5)) ∨ (i = 233 ∧ (k = 0 ∨ k = 1))) : MS i k = 20 := if_pos h
theorem bw_hold {D : va_G} {G : Gw} {ad : Nat → Nat} {b : Nat} {g : Nat → Nat} {H : Heap} (k0 : kd b = 0) (hg : ∀ i, i < 3 → ad (b + i) = g i) (h : va_P D vwCl (ibw G g) H) : ∀ i, i < 3 → Hd D G.2.1 ad H (b + i) := by
  have hb := kd_0 k0
  have z0 : MS b 2 = 0 := MS_0 (by omega)
  have z1 : MS (b + 1) = fun _ => 0 := funext fun k => MS_0 (by omega)
  have z2 : MS (b + 2) = fun _ => 0 := funext fun k => MS_0 (by omega)
  have e0 : ad b = g 0 := hg 0 (by decide)
  have e1 := hg 1 (by decide)
  have e2 := hg 2 (by decide)
  intro i hi
  unfold Hd
  rcases (show i = 0 ∨ i = 1 ∨ i = 2 by omega) with rfl | rfl | rfl
  · rw [Nat.add_zero, k0]
    show va_at D vwCl (ad b, .inr (0, [.ref (ad (b + 1)), .ref (ad (b + 2)), .int (MS b 2)])) H
    rw [e0, e1, e2, z0]
    exact h 0 _ rfl
  · rw [kd_xs k0]
    show va_at D vwCl (ad (b + 1), .inl (G.2.1 0, 6, .inl (MS (b + 1)))) H
    rw [e1, z1]
    exact h 1 _ rfl
  · rw [kd_ys k0]
    show va_at D vwCl (ad (b + 2), .inl (G.2.1 0, 6, .inl (MS (b + 2)))) H
    rw [e2, z2]
    exact h 2 _ rfl
theorem ibs_get {D : va_G} {G : Gw} {b : Nat → Nat → Nat} {H : Heap} : ∀ k, va_P D vwCl (ibs G b k) H → ∀ j, j < k → va_P D vwCl (ibw G (b j)) H := by
  intro k
  induction k with
  | zero => intro _ j hj; exact absurd hj (Nat.not_lt_zero _)
  | succ k ih =>
    intro h j hj
    by_cases e : j = k
    · subst e; exact wP_r h
    · exact ih (wP_l h) j (by omega)
theorem ips_get {D : va_G} {G : Gw} {b : Nat → Nat → Nat} {H : Heap} : ∀ k, va_P D vwCl (ips G b k) H → ∀ j, j < k → va_P D vwCl (ipw G (b j)) H := by
  intro k
  induction k with
  | zero => intro _ j hj; exact absurd hj (Nat.not_lt_zero _)
  | succ k ih =>
    intro h j hj
    by_cases e : j = k
    · subst e; exact wP_r h
    · exact ih (wP_l h) j (by omega)
theorem pw_hold {D : va_G} {G : Gw} {ad : Nat → Nat} {p : Nat} {g : Nat → Nat} {H : Heap} (kp : kd p = 3) (hg : ∀ i, i < 32 → ad (p + i) = g i) (h : va_P D vwCl (ipw G g) H) : ∀ i, i < 32 → Hd D G.2.1 ad H (p + i) := by
  have hp := kd_3 kp
  have h2 := wP_r h
  have h1 := wP_r (wP_l h)
  have h0 := wP_l (wP_l h)
  have hX : va_P D vwCl (ibs G (fun j i => g (2 + (3 * j + i))) 8) H := fun k q hk => h0 (k + 2) q hk
  have e0 : ad p = g 0 := hg 0 (by decide)
  have e1 := hg 1 (by decide)
  intro i hi
  by_cases c0 : i = 0
  · subst c0
    unfold Hd
    rw [Nat.add_zero, kp]
    show va_at D vwCl (ad p, .inr (3, [.ref (ad (p + 1)), .ref (ad (p + 26)), .ref (ad (p + 29)), .int (MS p 3), .int (MS p 4), .int (MS p 5)])) H
    rw [e0, e1, hg 26 (by decide), hg 29 (by decide), MS_0 (i := p) (k := 3) (by omega), MS_20 (i := p) (k := 4) (by omega), MS_20 (i := p) (k := 5) (by omega)]
    exact h0 0 _ rfl
  by_cases c1 : i = 1
  · subst c1
    unfold Hd
    rw [kd_row kp]
    show va_at D vwCl (ad (p + 1), .inl (G.2.1 2, 8, .inr (.inr (.inr (.inr (fun k => some (ad (p + 1 + 1 + 3 * k)))))))) H
    rw [e1]
    refine row_at (h0 1 _ rfl) (fun j hj => ?_)
    show (if j < 8 then some (g (2 + (3 * j + 0))) else none) = _
    rw [if_pos hj, show p + 1 + 1 + 3 * j = p + (2 + (3 * j + 0)) by omega, hg _ (by omega)]
  by_cases c2 : i < 26
  · have hb := bw_hold (G := G) (ad := ad) (b := bo p ((i - 2) / 3)) (kd_bo kp (by omega)) (fun t ht => by unfold bo; rw [show p + 2 + 3 * ((i - 2) / 3) + t = p + (2 + (3 * ((i - 2) / 3) + t)) by omega]; exact hg _ (by omega)) (ibs_get 8 hX ((i - 2) / 3) (by omega)) ((i - 2) % 3) (Nat.mod_lt _ (by decide))
    rw [show bo p ((i - 2) / 3) + (i - 2) % 3 = p + i by unfold bo; omega] at hb
    exact hb
  by_cases c3 : i < 29
  · have hb := bw_hold (G := G) (ad := ad) (b := bo p 8) (kd_bo kp (by decide)) (fun t ht => by unfold bo; rw [show p + 2 + 3 * 8 + t = p + (26 + t) by omega]; exact hg _ (by omega)) h1 (i - 26) (by omega)
    rw [show bo p 8 + (i - 26) = p + i by unfold bo; omega] at hb
    exact hb
  · have hb := bw_hold (G := G) (ad := ad) (b := bo p 9) (kd_bo kp (by decide)) (fun t ht => by unfold bo; rw [show p + 2 + 3 * 9 + t = p + (29 + t) by omega]; exact hg _ (by omega)) h2 (i - 29) (by omega)
    rw [show bo p 9 + (i - 29) = p + i by unfold bo; omega] at hb
    exact hb
theorem adP_of {a : Nat → Nat} {i j : Nat} (h : pmF i = j) : adP a i = a j := by unfold adP; rw [h]
theorem adP_lo {a : Nat → Nat} {i : Nat} (h : i < 64) : adP a i = a (i + 1) := by
  rw [adP_of (j := i + 1) (by unfold pmF; rw [if_pos h])]
theorem adP_mi {a : Nat → Nat} {i : Nat} (h : 64 ≤ i) (h2 : i < 224) : adP a i = a (i + 3) := by
  rw [adP_of (j := i + 3) (by unfold pmF; rw [if_neg (by omega), if_pos h2])]
theorem pmF_hi {i : Nat} (h : 227 ≤ i) : pmF i = i := by
  unfold pmF
  rw [if_neg (by omega), if_neg (by omega), if_neg (by omega), if_neg (by omega), if_neg (by omega)]
theorem adP_hi {a : Nat → Nat} {i : Nat} (h : 227 ≤ i) (h2 : i < 232) : adP a i = a i := by
  rw [adP_of (pmF_hi h)]
theorem adP_224 {a : Nat → Nat} : adP a 224 = a 0 := rfl
theorem adP_225 {a : Nat → Nat} : adP a 225 = a 65 := rfl
theorem adP_226 {a : Nat → Nat} : adP a 226 = a 66 := rfl
set_option maxHeartbeats 4000000 in
set_option maxRecDepth 100000 in
theorem pool_hold {D : va_G} {G : Gw} {a : Nat → Nat} {H : Heap} (h : va_P D vwCl (ijw G a) H) : ∀ i, i < 232 → Hd D G.2.1 (adP a) H i := by
  have hj := h
  have ht := wP_r hj
  have hh := wP_r (wP_l hj)
  have hp2 := wP_r (wP_l (wP_l hj))
  have hp1 := wP_r (wP_l (wP_l (wP_l hj)))
  have h0 := wP_l (wP_l (wP_l (wP_l hj)))
  have hn := wP_r hh
  have hc := wP_l hh
  have hr : va_P D vwCl (ips G (fun j i => a (65 + (2 + (32 * j + i)))) 4) H := fun k q hk => hc (k + 2) q hk
  have hb := wP_r ht
  have ht0 := wP_l ht
  intro i hi
  by_cases c1 : i < 32
  · have := pw_hold (G := G) (ad := adP a) (p := 0) (by decide) (fun t ht => (adP_lo (by omega)).trans (congrArg a (by omega))) hp1 i c1
    rw [Nat.zero_add] at this
    exact this
  by_cases c2 : i < 64
  · have := pw_hold (G := G) (ad := adP a) (p := 32) (by decide) (fun t ht => (adP_lo (by omega)).trans (congrArg a (by omega))) hp2 (i - 32) (by omega)
    rw [show 32 + (i - 32) = i by omega] at this
    exact this
  by_cases c3 : i < 192
  · have := pw_hold (G := G) (ad := adP a) (p := 64 + 32 * ((i - 64) / 32)) (kd_ring _ (by omega)) (fun t ht => (adP_mi (by omega) (by omega)).trans (congrArg a (by omega))) (ips_get 4 hr ((i - 64) / 32) (by omega)) ((i - 64) % 32) (Nat.mod_lt _ (by decide))
    rw [show 64 + 32 * ((i - 64) / 32) + (i - 64) % 32 = i by omega] at this
    exact this
  by_cases c4 : i < 224
  · have := pw_hold (G := G) (ad := adP a) (p := 192) (g := fun t => a (65 + (130 + t))) (by decide) (fun t ht => by rw [adP_mi (by omega) (by omega), show 192 + t + 3 = 65 + (130 + t) by omega]) hn (i - 192) (by omega)
    rw [show 192 + (i - 192) = i by omega] at this
    exact this
  by_cases c5 : 229 ≤ i ∧ i < 232
  · have := bw_hold (G := G) (ad := adP a) (b := 229) (g := fun t => a (227 + (2 + t))) (by decide) (fun t ht => by rw [adP_hi (by omega) (by omega), show 229 + t = 227 + (2 + t) by omega]) hb (i - 229) (by omega)
    rw [show 229 + (i - 229) = i by omega] at this
    exact this
  rcases (show i = 224 ∨ i = 225 ∨ i = 226 ∨ i = 227 ∨ i = 228 by omega) with rfl | rfl | rfl | rfl | rfl
  · show va_at D vwCl (adP a 224, .inr (4, [.ref (adP a 0), .ref (adP a 32), .ref (adP a 225), .ref (adP a 227)])) H
    rw [adP_224, adP_lo (i := 0) (by decide), adP_lo (i := 32) (by decide), adP_225, adP_hi (i := 227) (by decide) (by decide)]
    exact h0 0 _ rfl
  · show va_at D vwCl (adP a 225, .inr (2, [.ref (adP a 226), .ref (adP a 192), .int (MS 225 2), .int (MS 225 3)])) H
    rw [adP_225, adP_226, adP_mi (i := 192) (by decide) (by decide), MS_0 (i := 225) (k := 2) (by decide), MS_0 (i := 225) (k := 3) (by decide)]
    exact hc 0 _ rfl
  · show va_at D vwCl (adP a 226, .inl (G.2.1 3, 4, .inr (.inr (.inr (.inr (fun k => some (adP a (64 + 32 * k)))))))) H
    rw [adP_226]
    refine row_at (hc 1 _ rfl) (fun j hj => ?_)
    show (if j < 4 then some (a (65 + (2 + (32 * j + 0)))) else none) = _
    rw [if_pos hj, adP_mi (by omega) (by omega)]
    exact congrArg (fun z => some (a z)) (by omega)
  · show va_at D vwCl (adP a 227, .inr (1, [.ref (adP a 228), .int (MS 227 1), .ref (adP a 229), .int (MS 227 3), .int (MS 227 4), .int (MS 227 5), .int (MS 227 6)])) H
    rw [adP_hi (i := 227) (by decide) (by decide), adP_hi (i := 228) (by decide) (by decide), adP_hi (i := 229) (by decide) (by decide), MS_0 (i := 227) (k := 1) (by decide), MS_0 (i := 227) (k := 3) (by decide), MS_0 (i := 227) (k := 4) (by decide), MS_0 (i := 227) (k := 5) (by decide), MS_0 (i := 227) (k := 6) (by decide)]
    exact ht0 0 _ rfl
  · show va_at D vwCl (adP a 228, .inl (G.2.1 1, 60, .inl (MS 228))) H
    rw [adP_hi (i := 228) (by decide) (by decide), show MS 228 = (fun _ => 0) from funext fun k => MS_0 (by omega)]
    exact ht0 1 _ rfl
theorem pool_P {G : Gw} {a : Nat → Nat} {H : Heap} (h : va_P G.1 vwCl (ijw G a) H) : va_P (gP G a).1 vwCl (wd (gP G a) MS) H := by
  intro k q hk
  have hl : k < 232 := by
    have := (List.getElem?_eq_some_iff.mp hk).1
    simpa [wd] using this
  rw [wd_at hl] at hk
  cases hk
  exact pool_hold h k hl
theorem MS_RC : RC MS Y0 := RC_start (MS_0 (by decide)) (MS_20 (by decide)) (MS_20 (by decide)) (MS_0 (by decide)) (MS_0 (by decide)) (MS_0 (by decide))
/-- from the cells' list to the pool -/
theorem wk_pool {x : Cn} {G : Gw} {A : Nat → Prop} {nL cs sl : Nat} {Q : State → Prop} {a : Nat → Nat} {pc : Nat} {L : List (Nat × Value)} {st : List Value} (k : Ap A (gP G a).2.2.1 → WL x (gP G a) A nL cs sl Q MS pc L st) : WK x G A nL cs sl Q (ijw G a) pc L st := fun ls H locs hl hP hD hS => k (Ap_of hD) ls H locs hl (pool_P hP) hS
