/-! THE START: no bodies, 20 by 20, no history, no text -/
def P0 : Py := (0, fun _ => 0, fun _ => 0)
def S0 : St := (0, 20, 20, fun _ => P0)
def Y0 : Sy := (S0, 0, fun _ => S0, (0, fun _ => 0))
/-- the memory behind the constructors: all zero but the sizes of the box -/
def M0 : Mem := fun i k => if (i = 0 ∧ (k = 4 ∨ k = 5)) ∨ (i = 233 ∧ (k = 0 ∨ k = 1)) then 20 else 0
theorem start_ok : OkY Y0 :=
  ⟨⟨⟨by unfold BoxOk; decide, fun k hk => absurd hk (Nat.not_lt_zero _)⟩, fun k hk => absurd hk (Nat.not_lt_zero _), fun i j hi => absurd hi (Nat.not_lt_zero _)⟩, fun a ha => absurd ha (Nat.not_lt_zero _), Nat.zero_le _, fun j hj => absurd hj (Nat.not_lt_zero _)⟩
/-- what of a memory the start needs -/
theorem RC_start {M : Mem} (h1 : M 0 3 = 0) (h2 : M 0 4 = 20) (h3 : M 0 5 = 20) (h4 : M 225 2 = 0) (h5 : M 225 3 = 0) (h6 : M 227 3 = 0) : RC M Y0 :=
  ⟨⟨h1, h2, h3, Nat.zero_le _, fun k hk => absurd hk (Nat.not_lt_zero _)⟩, ⟨0, by decide, h4, h5, Nat.zero_le _, fun a ha => absurd ha (Nat.not_lt_zero _)⟩, h6, fun j hj => absurd hj (Nat.not_lt_zero _)⟩
theorem RM_start {M : Mem} (h1 : M 233 2 = 0) (h2 : M 233 0 = 20) (h3 : M 233 1 = 20) (h4 : M 232 3 = 0) (h5 : M 232 5 = 0) : RM M Y0 :=
  ⟨⟨h2, h3, h1, Nat.zero_le _, fun k hk => absurd hk (Nat.not_lt_zero _)⟩, ⟨h4, Nat.zero_le _, fun a ha => absurd ha (Nat.not_lt_zero _)⟩, h5, fun j hj => absurd hj (Nat.not_lt_zero _)⟩
theorem RC.size {M : Mem} {σ : Sy} (h : RC M σ) : σ.1.1 ≤ 8 := h.1.r
/-- the class's call leaves the reference's cells, and the other way round -/
theorem RM.frC {M M' : Mem} {σ : Sy} (h : RM M σ) (hf : FrC M M') : RM M' σ :=
  ⟨by rw [hf 233 (by decide)]; exact h.1, h.2.1.same (by rw [hf 232 (by decide)]) (hf 234 (by decide)), by rw [hf 232 (by decide)]; exact h.2.2.1, fun j hj => by rw [hf 236 (by decide)]; exact h.2.2.2 j hj⟩
theorem RC.frM {M M' : Mem} {σ : Sy} (h : RC M σ) (hf : FrM M M') : RC M' σ := by
  obtain ⟨⟨a1, a2, a3, a4, a5⟩, ⟨o, b1, b2, b3, b4, b5⟩, c1, c2⟩ := h
  have bd : ∀ b P, b + 3 ≤ 232 → Bd M b P → Bd M' b P := fun b P hb ⟨d1, d2, d3, d4⟩ => ⟨by rw [hf _ (by omega)]; exact d1, d2, fun k hk => by rw [hf _ (by omega)]; exact d3 k hk, fun k hk => by rw [hf _ (by omega)]; exact d4 k hk⟩
  have pk : ∀ p s, p + 32 ≤ 232 → Pk M p s → Pk M' p s := fun p s hp ⟨d1, d2, d3, d4, d5⟩ => ⟨by rw [hf _ (by omega)]; exact d1, by rw [hf _ (by omega)]; exact d2, by rw [hf _ (by omega)]; exact d3, d4, fun k hk => bd _ _ (by unfold bo; omega) (d5 k hk)⟩
  refine ⟨pk 0 σ.1 (by decide) ⟨a1, a2, a3, a4, a5⟩, ⟨o, b1, by rw [hf 225 (by decide)]; exact b2, by rw [hf 225 (by decide)]; exact b3, b4, fun a ha => pk _ _ ?_ (b5 a ha)⟩, by rw [hf 227 (by decide)]; exact c1, fun j hj => by rw [hf 228 (by decide)]; exact c2 j hj⟩
  have := Nat.mod_lt (o + a) (show 0 < 4 by decide)
  omega
