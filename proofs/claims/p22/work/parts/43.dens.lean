/-! DENSITY: rows and numbers for both sides -/
section WLFLOAT
variable {x : Cn} {G : Gw} {A : Nat → Prop} {nL cs sl f0 l0 : Nat} {Q : State → Prop} {M : Mem} {pc : Nat} {L : List (Nat × Value)} {st : List Value} {own : String} {cc : ByteArray} {Ts : List Cond}
theorem wl_ldcf (C : CX x G A own cc nL Ts f0 l0 cs sl) {index : Nat} {v : UInt32} (hc : Jvm.Cond.constantFloat own index v ∈ Ts) (hd : decode cc pc = .ok (.ldc index, 2)) (k : WL x G A nL cs sl Q M (pc + 2) L (.float v :: st)) : WL x G A nL cs sl Q M pc L st := by
  obtain ⟨p, l, e, R, s, m, args, below, meth, c⟩ := x
  obtain ⟨hx, hb, hml, hown, hts, hK, hAp, hAu, hST, hlk, hNW, hRf, hRl, hcs, hsl⟩ := C
  intro ls H locs hl hP hS
  exact lv_ldcf hx hb hown (hts _ hc) hd (k ls H locs hl hP hS)
theorem wl_eql {a b : Int64} (h : a = b) (k : WL x G A nL cs sl Q M pc L (.long b :: st)) : WL x G A nL cs sl Q M pc L (.long a :: st) := by rw [h]; exact k
theorem wl_eqf {a b : UInt32} (h : a = b) (k : WL x G A nL cs sl Q M pc L (.float b :: st)) : WL x G A nL cs sl Q M pc L (.float a :: st) := by rw [h]; exact k
end WLFLOAT
theorem nI_dec (n : Nat) : nI (n + 1) + Int32.ofInt (-1) = nI n := by
  rw [show Int32.ofInt (-1) = -1 by decide]
  exact pk_m1 n
theorem nI_dec2 {n : Nat} (h : 0 < n) : nI n + Int32.ofInt (-1) = nI (n - 1) := by
  obtain ⟨m, rfl⟩ : ∃ m, n = m + 1 := ⟨n - 1, by omega⟩
  exact nI_dec m
theorem lI_of {n : Nat} (h : n < 2 ^ 31) : (nI n).toInt64 = lI n := nI_l h
theorem lI_i {n : Nat} (h : n < 2 ^ 31) : (lI n).toInt32 = nI n := by
  rw [← lI_of h]
  exact lg_l2i_i2l _
theorem lI_sub {a b : Nat} (h : b ≤ a) : lI a - lI b = lI (a - b) := by
  obtain ⟨c, rfl⟩ : ∃ c, a = b + c := ⟨a - b, by omega⟩
  rw [← lI_add, Nat.add_sub_cancel_left]
  grind
theorem lI_ne0 {n : Nat} (h0 : 0 < n) (h : n < 2 ^ 63) : ¬ lI n = 0 := by
  intro q
  have h1 := lI_toInt h
  rw [q] at h1
  have h2 : (0 : Int64).toInt = 0 := by decide
  omega
theorem lI_cmp0 {a b : Nat} (ha : a < 2 ^ 63) (hb : b < 2 ^ 63) : lg_cmp (lI a) (lI b) = 0 ↔ a = b := by
  rw [lg_cmp_eq]
  constructor
  · intro q
    have h1 := lI_toInt ha
    have h2 := lI_toInt hb
    rw [q] at h1
    omega
  · intro q; rw [q]
theorem lI_cmpge {a b : Nat} (ha : a < 2 ^ 63) (hb : b < 2 ^ 63) : 0 ≤ lg_cmp (lI a) (lI b) ↔ b ≤ a := by
  have h := lI_lt ha hb
  constructor
  · intro q
    apply Classical.byContradiction
    intro z
    exact absurd (h.mpr (by omega)) (Int32.not_lt.mpr q)
  · intro q
    apply Int32.not_lt.mp
    intro z
    have := h.mp z
    omega
/-- the doubled number, its quotient, its rest, whether it is rounded up -/
def shn (a b : Nat) : Nat := a * 2 ^ nmK a b
def shq (a b : Nat) : Nat := shn a b * 8388608 / b
def shm (a b : Nat) : Nat := shn a b * 8388608 % b
def shU (a b : Nat) : Bool := decide (b < 2 * shm a b ∨ (2 * shm a b = b ∧ shq a b % 2 = 1))
theorem shN_t {a b : Nat} (h : shU a b = true) : shq a b + 1 = shN a b := by
  show _ = (if b < 2 * shm a b ∨ (2 * shm a b = b ∧ shq a b % 2 = 1) then shq a b + 1 else shq a b)
  rw [if_pos (of_decide_eq_true h)]
theorem shN_f {a b : Nat} (h : shU a b = false) : shq a b = shN a b := by
  show _ = (if b < 2 * shm a b ∨ (2 * shm a b = b ∧ shq a b % 2 = 1) then shq a b + 1 else shq a b)
  rw [if_neg (of_decide_eq_false h)]
theorem shn_bd {a b : Nat} (ha : 0 < a) (hb : b < 2 ^ 14) (hab : a ≤ b) : shn a b < 2 ^ 15 ∧ shq a b < 2 ^ 25 ∧ shm a b < b ∧ shq a b * b < 2 ^ 63 := by
  obtain ⟨h1, h2, -, -⟩ := nm2 ha hb hab
  have h3 : shn a b < 2 * b := h2
  have h4 : shq a b < 2 ^ 25 := by
    unfold shq
    refine Nat.div_lt_of_lt_mul ?_
    rw [Nat.mul_comm]
    generalize shn a b = n at h3
    omega
  refine ⟨by omega, h4, Nat.mod_lt _ (by omega), ?_⟩
  have h5 : shq a b * b ≤ shn a b * 8388608 := Nat.div_mul_le_self _ _
  omega
theorem shU_val {a b : Nat} (ha : 0 < a) (hb : b < 2 ^ 14) (hab : a ≤ b) : (if 0 < lg_cmp (lI (2 * shm a b)) (lI b) then (1 : Int32) else (if lg_cmp (lI (2 * shm a b)) (lI b) = 0 then (if lg_cmp (lI (shq a b % 2)) (lI 1) = 0 then (1 : Int32) else (0 : Int32)) else (0 : Int32))) = bi (shU a b) := by
  obtain ⟨h1, h2, h3, -⟩ := shn_bd ha hb hab
  have e1 := lI_gt (a := 2 * shm a b) (b := b) (by omega) (by omega)
  have e2 := lI_cmp0 (a := 2 * shm a b) (b := b) (by omega) (by omega)
  have e3 := lI_cmp0 (a := shq a b % 2) (b := 1) (by omega) (by omega)
  unfold shU
  by_cases g1 : b < 2 * shm a b
  · rw [if_pos (e1.mpr g1), decide_eq_true (Or.inl g1)]; rfl
  · rw [if_neg (fun z => g1 (e1.mp z))]
    by_cases g2 : 2 * shm a b = b
    · rw [if_pos (e2.mpr g2)]
      by_cases g3 : shq a b % 2 = 1
      · rw [if_pos (e3.mpr g3), decide_eq_true (Or.inr ⟨g2, g3⟩)]; rfl
      · rw [if_neg (fun z => g3 (e3.mp z)), decide_eq_false (fun z => by omega)]; rfl
    · rw [if_neg (fun z => g2 (e2.mp z)), decide_eq_false (fun z => by omega)]; rfl
/-- the numbers of a state's density -/
theorem den_num {σ : Sy} (hO : OkY σ) (h8 : σ.1.1 ≤ 8) (h6 : ∀ k, k < σ.1.1 → (σ.1.2.2.2 k).1 ≤ 6) : ∃ a b : Nat, areaS σ.1 = nI a ∧ 2 * σ.1.2.1 * σ.1.2.2.1 = nI b ∧ 0 < b ∧ b < 2 ^ 14 ∧ a ≤ b ∧ denY σ = if a = 0 then 0 else shB a b := by
  obtain ⟨h1, h2, h3⟩ := areas_bd hO.1 h8 h6
  have hb := hO.1.1.1
  unfold BoxOk at hb
  obtain ⟨w, hw⟩ : ∃ w : Nat, σ.1.2.1.toInt = w := ⟨σ.1.2.1.toInt.toNat, by omega⟩
  obtain ⟨h, hh⟩ : ∃ h : Nat, σ.1.2.2.1.toInt = h := ⟨σ.1.2.2.1.toInt.toNat, by omega⟩
  obtain ⟨a, haZ⟩ : ∃ a : Nat, (areaS σ.1).toInt = a := ⟨(areaS σ.1).toInt.toNat, by omega⟩
  rw [hw, hh] at hb h1
  rw [haZ] at h1 h2
  have hwh : w * h ≤ 60 * 60 := Nat.mul_le_mul (by omega) (by omega)
  have hwh0 : 0 < w * h := Nat.mul_pos (by omega) (by omega)
  have h1' : a ≤ 2 * (w * h) := by
    have e : (2 : Int) * (w : Int) * (h : Int) = ((2 * (w * h) : Nat) : Int) := by
      rw [Int.mul_assoc, ← Int.natCast_mul]; rfl
    rw [e] at h1
    omega
  have ew : σ.1.2.1 = nI w := i32_eq.mpr (by rw [hw, nI_toInt (by omega)])
  have eh : σ.1.2.2.1 = nI h := i32_eq.mpr (by rw [hh, nI_toInt (by omega)])
  have ea : areaS σ.1 = nI a := i32_eq.mpr (by rw [haZ, nI_toInt (by omega)])
  refine ⟨a, 2 * (w * h), ea, ?_, by omega, by omega, h1', ?_⟩
  · rw [ew, eh, show (2 : Int32) = nI 2 from rfl, pk_mul, pk_mul, Nat.mul_assoc]
  · unfold denY
    rw [hw, hh, haZ, Int.toNat_natCast, Int.toNat_natCast, Int.toNat_natCast, ea]
    by_cases h0 : a = 0
    · rw [if_pos h0, h0, if_pos nI_0]
    · rw [if_neg h0, if_neg (nI_ne0 (by omega) (by omega))]
