/-! THE AREAS OF A STATE: bound -/
theorem suZ_pos {f : Nat → Int} : ∀ n, (∀ k, k < n → 0 < f k) → 0 ≤ suZ f n ∧ (0 < n → 0 < suZ f n) := by
  intro n
  induction n with
  | zero => intro _; exact ⟨Int.le_refl 0, fun h => absurd h (Nat.lt_irrefl 0)⟩
  | succ n ih =>
    intro h
    have h1 := (ih (fun k hk => h k (by omega))).1
    have h2 := h n (by omega)
    simp only [suZ]
    exact ⟨by omega, fun _ => by omega⟩
theorem areas_bd {s : St} (h : OkP s) (h8 : s.1 ≤ 8) (h6 : ∀ k, k < s.1 → (s.2.2.2 k).1 ≤ 6) : (areaS s).toInt ≤ 2 * s.2.1.toInt * s.2.2.1.toInt ∧ 0 ≤ (areaS s).toInt ∧ (areaS s = 0 → s.1 = 0) := by
  obtain ⟨hW, hC, hP⟩ := h
  have hb := hW.1
  unfold BoxOk at hb
  have ai := fun k (hk : k < s.1) => area_int (hW.2 k hk) hW.1 (h6 k hk)
  have hcv := fun k (hk : k < s.1) => cvZ_of (hW.sm k hk) (hC k hk)
  have h1 := (sm_toInt (f := arF s) (B := 43200) (by decide) s.1 (by omega) (fun k hk => (ai k hk).2)).1
  have h2 : (areaS s).toInt = suZ (fun k => arZ (s.2.2.2 k).1 (uZ (s.2.2.2 k)) (vZ (s.2.2.2 k))) s.1 := by
    unfold areaS
    rw [h1]
    exact suZ_congr s.1 (fun k hk => (ai k hk).1)
  obtain ⟨W, hWd⟩ : ∃ W : Nat, s.2.1.toInt = W := ⟨s.2.1.toInt.toNat, by omega⟩
  obtain ⟨H, hHt⟩ : ∃ H : Nat, s.2.2.1.toInt = H := ⟨s.2.2.1.toInt.toNat, by omega⟩
  have inb := fun k (hk : k < s.1) (i : Nat) => (hW.2 k hk).2 (i % (s.2.2.2 k).1) (Nat.mod_lt i (by have := (hW.2 k hk).1; omega))
  have h3 := total (N := s.1) (n := fun k => (s.2.2.2 k).1) (U := fun k => uZ (s.2.2.2 k)) (V := fun k => vZ (s.2.2.2 k)) (W := W) (H := H) (by omega) hcv
    (fun k hk i => by have := inb k hk i; unfold uZ; omega) (fun k hk i => by have := inb k hk i; unfold vZ; omega)
    (fun i j hi hj hij => parZ_of (hW.sm i hi) (hW.sm j hj) (hP i j hi hj (by omega)))
  have h4 := suZ_pos (f := fun k => arZ (s.2.2.2 k).1 (uZ (s.2.2.2 k)) (vZ (s.2.2.2 k))) s.1 (fun k hk => ar_pos (hcv k hk))
  rw [hWd, hHt, h2]
  refine ⟨h3, h4.1, fun e => ?_⟩
  apply Classical.byContradiction
  intro hn
  have h5 := h4.2 (by omega)
  rw [← h2, e] at h5
  exact absurd h5 (by decide)
theorem put_okY {σ : Sy} (hO : OkY σ) (h8 : σ.1.1 ≤ 8) : OkY (putY σ).2 := put_ok hO h8 (fun _ h1 h2 h3 => cvx_of h1 h2 h3)
