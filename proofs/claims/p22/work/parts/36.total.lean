/-! BODIES THAT LIE APART FILL NO MORE THAN THE BOX -/
def ParZ (U V U2 V2 : Nat → Int) : Prop := ∃ s, ∀ i, crZ (U s) (V s) (U (s + 1)) (V (s + 1)) (U2 i) (V2 i) ≤ 0
theorem le_of_pos {a b : Int} (ha : 0 < a) (h : 0 ≤ a * b) : 0 ≤ b := by
  apply Classical.byContradiction
  intro z
  have := Int.mul_neg_of_pos_of_neg ha (show b < 0 by omega)
  omega
theorem le_of_neg {a b : Int} (ha : a < 0) (h : 0 ≤ a * b) : b ≤ 0 := by
  apply Classical.byContradiction
  intro z
  have := Int.mul_neg_of_neg_of_pos ha (show 0 < b by omega)
  omega
theorem ge_of_pos {a b : Int} (ha : 0 < a) (h : a * b ≤ 0) : b ≤ 0 := by
  apply Classical.byContradiction
  intro z
  have := Int.mul_pos ha (show 0 < b by omega)
  omega
theorem ge_of_neg {a b : Int} (ha : a < 0) (h : a * b ≤ 0) : 0 ≤ b := by
  apply Classical.byContradiction
  intro z
  have := Int.mul_pos_of_neg_of_neg ha (show b < 0 by omega)
  omega
theorem sides {U V : Nat → Int} (hv : ∀ k, -60 ≤ V (k + 1) - V k ∧ V (k + 1) - V k ≤ 60) {k : Nat} {j u v u' v' : Int} (hk : ¬ se V k j = 0) :
    ∃ w1 w2 : Int, 0 < w1 ∧ 0 < w2 ∧ (∀ p, p * (v' - v) = (DD : Int) → (v' - v) * (xiZ DD p u v (u' - u) j - xe U V k j) = w1 * crZ u v u' v' (U k) (V k) + w2 * crZ u v u' v' (U (k + 1)) (V (k + 1))) ∧ (v' = v → (u' - u) * ((DD : Int) * (2 * (j - v) + 1)) = w1 * crZ u v u' v' (U k) (V k) + w2 * crZ u v u' v' (U (k + 1)) (V (k + 1))) := by
  have hq := qv_mul (se_ne hk) (hv k).1 (hv k).2
  obtain ⟨w1, w2⟩ := w_pos (j := j) DD_pos hq hk
  exact ⟨_, _, w1, w2, fun p hp => xi_side hq hp, fun e => by subst e; exact xi_flat hq⟩
/-- parted: at each half height one lies left of the other -/
theorem parted_level {n : Nat} {U V U2 V2 : Nat → Int} (hc : CvZ n U V) (hv : ∀ k, -60 ≤ V (k + 1) - V k ∧ V (k + 1) - V k ≤ 60) (hv2 : ∀ k, -60 ≤ V2 (k + 1) - V2 k ∧ V2 (k + 1) - V2 k ≤ 60) (hp : ParZ U V U2 V2) (j : Int) :
    (∀ k l, ¬ se V k j = 0 → ¬ se V2 l j = 0 → xe U V k j ≤ xe U2 V2 l j) ∨ (∀ k l, ¬ se V k j = 0 → ¬ se V2 l j = 0 → xe U2 V2 l j ≤ xe U V k j) := by
  obtain ⟨s, hs⟩ := hp
  obtain ⟨h3, hU, hV, hc0, hc1⟩ := hc
  have both : ∀ k l, ¬ se V k j = 0 → ¬ se V2 l j = 0 → (∀ p, p * (V (s + 1) - V s) = (DD : Int) → 0 ≤ (V (s + 1) - V s) * (xiZ DD p (U s) (V s) (U (s + 1) - U s) j - xe U V k j) ∧ (V (s + 1) - V s) * (xiZ DD p (U s) (V s) (U (s + 1) - U s) j - xe U2 V2 l j) ≤ 0) ∧ ¬ V (s + 1) = V s := by
    intro k l hk hl
    obtain ⟨w1, w2, p1, p2, e1, f1⟩ := sides (U := U) (u := U s) (v := V s) (u' := U (s + 1)) (v' := V (s + 1)) hv hk
    obtain ⟨z1, z2, q1, q2, e2, f2⟩ := sides (U := U2) (u := U s) (v := V s) (u' := U (s + 1)) (v' := V (s + 1)) hv2 hl
    have a1 := Int.mul_nonneg (Int.le_of_lt p1) (hc0 s k)
    have a2 := Int.mul_nonneg (Int.le_of_lt p2) (hc0 s (k + 1))
    have b1 := Int.mul_nonpos_of_nonneg_of_nonpos (Int.le_of_lt q1) (hs l)
    have b2 := Int.mul_nonpos_of_nonneg_of_nonpos (Int.le_of_lt q2) (hs (l + 1))
    refine ⟨fun p hp => ⟨by rw [e1 p hp]; omega, by rw [e2 p hp]; omega⟩, fun e => ?_⟩
    have g1 := f1 e
    have g2 := f2 e
    have g3 : (U (s + 1) - U s) * ((DD : Int) * (2 * (j - V s) + 1)) = 0 := by omega
    have g4 : U (s + 1) - U s = 0 := by
      rcases Int.mul_eq_zero.mp g3 with h | h
      · exact h
      · rcases Int.mul_eq_zero.mp h with h | h
        · exact absurd h (by have := DD_pos; omega)
        · omega
    have g5 := hc1 s (s + 2) (fun z => mod_apart (n := n) (a := s) (b := s + 2) (by omega) (by omega) z.symm) (fun z => mod_apart (n := n) (a := s + 1) (b := s + 2) (by omega) (by omega) z.symm)
    unfold crZ at g5
    rw [g4, e, Int.sub_self, Int.zero_mul, Int.zero_mul] at g5
    omega
  rcases Int.lt_trichotomy (V (s + 1) - V s) 0 with h | h | h
  · refine Or.inr (fun k l hk hl => ?_)
    obtain ⟨h1, _⟩ := both k l hk hl
    obtain ⟨x1, x2⟩ := h1 _ (qv_mul (by omega) (hv s).1 (hv s).2)
    have y1 := le_of_neg h x1
    have y2 := ge_of_neg h x2
    omega
  · refine Or.inl (fun k l hk hl => ?_)
    exact absurd (by omega) (both k l hk hl).2
  · refine Or.inl (fun k l hk hl => ?_)
    obtain ⟨h1, _⟩ := both k l hk hl
    obtain ⟨x1, x2⟩ := h1 _ (qv_mul (by omega) (hv s).1 (hv s).2)
    have y1 := le_of_pos h x1
    have y2 := ge_of_pos h x2
    omega
def arZ (n : Nat) (U V : Nat → Int) : Int := suZ (fun k => (U k + U (k + 1)) * (V (k + 1) - V k)) n
theorem total {N : Nat} {n : Nat → Nat} {U V : Nat → Nat → Int} {W H : Nat} (hH : H ≤ 60) (hc : ∀ i, i < N → CvZ (n i) (U i) (V i)) (hb : ∀ i, i < N → ∀ k, 0 ≤ U i k ∧ U i k ≤ W) (hh : ∀ i, i < N → ∀ k, 0 ≤ V i k ∧ V i k ≤ H)
    (hp : ∀ i j, i < N → j < N → i < j → ParZ (U i) (V i) (U j) (V j) ∨ ParZ (U j) (V j) (U i) (V i)) : suZ (fun i => arZ (n i) (U i) (V i)) N ≤ 2 * (W : Int) * H := by
  have hv : ∀ i, i < N → ∀ k, -60 ≤ V i (k + 1) - V i k ∧ V i (k + 1) - V i k ≤ 60 := fun i hi k => by
    have a := hh i hi k
    have b := hh i hi (k + 1)
    omega
  have at_j : ∀ j : Int, suZ (fun i => suZ (fun k => se (V i) k j * xe (U i) (V i) k j) (n i)) N ≤ 2 * (DD : Int) * W := by
    intro j
    have hl : ∀ i, ∃ LR : Int × Int, i < N → (0 ≤ LR.1 ∧ LR.1 ≤ LR.2 ∧ LR.2 ≤ 2 * (DD : Int) * W) ∧ suZ (fun k => se (V i) k j * xe (U i) (V i) k j) (n i) = LR.2 - LR.1 ∧ ((LR.1 = 0 ∧ LR.2 = 0) ∨ ∃ a b, (¬ se (V i) a j = 0 ∧ LR.2 = xe (U i) (V i) a j) ∧ (¬ se (V i) b j = 0 ∧ LR.1 = xe (U i) (V i) b j)) := by
      intro i
      by_cases hi : i < N
      · rcases level (hc i hi) (hb i hi) (hv i hi) j with ⟨_, h2⟩ | ⟨a, b, h1, h2, h3, h4, h5, h6⟩
        · refine ⟨(0, 0), fun _ => ⟨⟨Int.le_refl 0, Int.le_refl 0, ?_⟩, by rw [h2]; rfl, Or.inl ⟨rfl, rfl⟩⟩⟩
          exact Int.mul_nonneg (Int.mul_nonneg (by decide) (Int.le_of_lt DD_pos)) (Int.natCast_nonneg W)
        · exact ⟨(xe (U i) (V i) b j, xe (U i) (V i) a j), fun _ => ⟨⟨h4, h5, h6⟩, h3, Or.inr ⟨a, b, ⟨by omega, rfl⟩, ⟨by omega, rfl⟩⟩⟩⟩
      · exact ⟨(0, 0), fun h => absurd h hi⟩
    obtain ⟨f, hf⟩ := Classical.axiomOfChoice hl
    have e : suZ (fun i => suZ (fun k => se (V i) k j * xe (U i) (V i) k j) (n i)) N = suZ (fun i => (f i).2 - (f i).1) N := suZ_congr N (fun i hi => (hf i hi).2.1)
    have hM : ((2 * DD * W : Nat) : Int) = 2 * (DD : Int) * W := by rw [Int.natCast_mul, Int.natCast_mul]; rfl
    rw [e, ← hM]
    refine chords (fun i hi => by rw [hM]; exact (hf i hi).1) (fun i k hik hk => ?_)
    obtain ⟨⟨a1, a2, a3⟩, _, ha⟩ := hf i (by omega)
    obtain ⟨⟨b1, b2, b3⟩, _, hb2⟩ := hf k hk
    rcases ha with ⟨_, z⟩ | ⟨a, b, ⟨g1, g2⟩, ⟨g3, g4⟩⟩
    · exact Or.inl (by omega)
    · rcases hb2 with ⟨_, z⟩ | ⟨c, d, ⟨g5, g6⟩, ⟨g7, g8⟩⟩
      · exact Or.inr (by omega)
      · rcases hp i k (by omega) hk hik with h | h
        · rcases parted_level (hc i (by omega)) (hv i (by omega)) (hv k hk) h j with y | y
          · exact Or.inl (by rw [g2, g8]; exact y a d g1 g7)
          · exact Or.inr (by rw [g6, g4]; exact y b c g3 g5)
        · rcases parted_level (hc k hk) (hv k hk) (hv i (by omega)) h j with y | y
          · exact Or.inr (by rw [g6, g4]; exact y c b g5 g3)
          · exact Or.inl (by rw [g2, g8]; exact y d a g7 g1)
  have swap : (DD : Int) * suZ (fun i => arZ (n i) (U i) (V i)) N = suZ (fun j : Nat => suZ (fun i => suZ (fun k => se (V i) k (j : Int) * xe (U i) (V i) k (j : Int)) (n i)) N) H := by
    rw [← suZ_swap, ← suZ_mul]
    refine suZ_congr N (fun i hi => ?_)
    show (DD : Int) * suZ (fun k => (U i k + U i (k + 1)) * (V i (k + 1) - V i k)) (n i) = suZ (fun j : Nat => suZ (fun k => se (V i) k (j : Int) * xe (U i) (V i) k (j : Int)) (n i)) H
    rw [← suZ_swap, ← suZ_mul]
    refine suZ_congr (n i) (fun k _ => ?_)
    exact (edge_sum (D := DD) (q := qv (V i (k + 1) - V i k)) (fun h => qv_mul h (hv i hi k).1 (hv i hi k).2) (hh i hi k).1 (hh i hi (k + 1)).1 (hh i hi k).2 (hh i hi (k + 1)).2).symm
  have hle : suZ (fun j : Nat => suZ (fun i => suZ (fun k => se (V i) k (j : Int) * xe (U i) (V i) k (j : Int)) (n i)) N) H ≤ suZ (fun _ => 2 * (DD : Int) * W) H := suZ_le H (fun j _ => at_j j)
  rw [suZ_const, ← swap] at hle
  refine Int.le_of_mul_le_mul_left (a := (DD : Int)) ?_ DD_pos
  have e : (DD : Int) * (2 * (W : Int) * H) = 2 * (DD : Int) * W * H := by grind
  rw [e]
  exact hle
