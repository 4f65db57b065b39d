/-! THE QUARTER TURN OF THE BOX: calls -/
def BoxIn (s : St) : Prop := (18 ≤ s.2.1.toInt ∧ s.2.1.toInt ≤ 24) ∧ (18 ≤ s.2.2.1.toInt ∧ s.2.2.1.toInt ≤ 24)
def RYs (σ σ' : Sy) : Prop := rtS σ.1 σ'.1 ∧ σ'.2.1 = σ.2.1 ∧ (∀ a, a < σ.2.1 → rtS (σ.2.2.1 a) (σ'.2.2.1 a)) ∧ BoxIn σ.1 ∧ ∀ a, a < σ.2.1 → BoxIn (σ.2.2.1 a)
def RY (σ σ' : Sy) : Prop := RYs σ σ' ∧ OkY σ ∧ OkY σ'
theorem hasB_t {n k : Nat} (hk : k < n) (hn : n < 2 ^ 31) : hasB n (nI k) = true := by
  unfold hasB
  rw [if_neg (nI_pos (by omega)), if_neg (by rw [nI_leI hn (by omega)]; omega)]
theorem hasB_f {n k : Nat} (hk : n ≤ k) (h : k < 2 ^ 31) : hasB n (nI k) = false := by
  unfold hasB
  rw [if_neg (nI_pos h), if_pos ((nI_leI (by omega) h).mpr hk)]
theorem isDir_t {d : Nat} (h : d < 8) : isDir (nI d) = true := by
  show hasB 8 (nI d) = true
  exact hasB_t h (by decide)
theorem nI_160 {m : Nat} (h1 : 1 ≤ m) (h2 : m ≤ 60) : (1 : Int32) ≤ nI m ∧ nI m ≤ 60 :=
  ⟨by rw [show (1 : Int32) = nI 1 by decide, nI_leI (by decide) (by omega)]; exact h1, by rw [show (60 : Int32) = nI 60 by decide, nI_leI (by omega) (by decide)]; exact h2⟩
theorem sliY_in {σ : Sy} {k d m : Nat} (hk : k < σ.1.1) (h8 : σ.1.1 ≤ 8) (hd : d < 8) (h1 : 1 ≤ m) (h2 : m ≤ 60) : sliY σ (nI k) (nI d) (nI m) = if fsN σ.1 k d m = 0 then (-1000002, σ) else (nI (fsN σ.1 k d m), pushY σ (setS σ.1 k (shP (σ.1.2.2.2 k) d (fsN σ.1 k d m)))) := by
  unfold sliY
  rw [if_pos ⟨hasB_t hk (by omega), isDir_t hd, (nI_160 h1 h2).1, (nI_160 h1 h2).2⟩, nI_clamp (n := k) (by omega), nI_clamp (n := d) (by omega), nI_clamp (n := m) (by omega)]
theorem sliY_out {σ : Sy} {k : Nat} {d m : Int32} (hk : σ.1.1 ≤ k) (h8 : k ≤ 8) : sliY σ (nI k) d m = (-1000001, σ) := by
  unfold sliY
  rw [if_neg (fun h => by have := h.1; rw [hasB_f hk (by omega)] at this; cases this)]
theorem RYs.push {σ σ' : Sy} (h : RYs σ σ') {s s' : St} (hs : rtS s s') (hb : BoxIn s) : RYs (pushY σ s) (pushY σ' s') := by
  obtain ⟨h1, h2, h3, h4, h5⟩ := h
  refine ⟨hs, by show puN σ'.2.1 = puN σ.2.1; rw [h2], fun a ha => ?_, hb, fun a ha => ?_⟩
  · have ha2 : a < puN σ.2.1 := ha
    show rtS (puH σ.2.1 σ.2.2.1 σ.1 a) (puH σ'.2.1 σ'.2.2.1 σ'.1 a)
    rw [h2]
    unfold puN at ha2
    unfold puH
    by_cases q : σ.2.1 = 4
    · rw [if_pos q, if_pos q]
      by_cases q2 : a < 3
      · rw [if_pos q2, if_pos q2]; exact h3 (a + 1) (by omega)
      · rw [if_neg q2, if_neg q2]; exact h1
    · rw [if_neg q, if_neg q]
      by_cases q2 : a < σ.2.1
      · rw [if_pos q2, if_pos q2]; exact h3 a q2
      · rw [if_neg q2, if_neg q2]; exact h1
  · have ha2 : a < puN σ.2.1 := ha
    show BoxIn (puH σ.2.1 σ.2.2.1 σ.1 a)
    unfold puN at ha2
    unfold puH
    by_cases q : σ.2.1 = 4
    · rw [if_pos q]
      by_cases q2 : a < 3
      · rw [if_pos q2]; exact h5 (a + 1) (by omega)
      · rw [if_neg q2]; exact h4
    · rw [if_neg q]
      by_cases q2 : a < σ.2.1
      · rw [if_pos q2]; exact h5 a q2
      · rw [if_neg q2]; exact h4
theorem RY.W {σ σ' : Sy} (h : RY σ σ') : WfS σ.1 := h.2.1.1.1
theorem RY.n {σ σ' : Sy} (h : RY σ σ') : σ'.1.1 = σ.1.1 := h.1.1.1
theorem rt_sli {σ σ' : Sy} (h : RY σ σ') (h8 : σ.1.1 ≤ 8) {k d m : Nat} (hk : k ≤ 8) (hd : d < 8) (h1 : 1 ≤ m) (h2 : m ≤ 60) : (sliY σ' (nI k) (nI (d2 d)) (nI m)).1 = (sliY σ (nI k) (nI d) (nI m)).1 ∧ RY (sliY σ (nI k) (nI d) (nI m)).2 (sliY σ' (nI k) (nI (d2 d)) (nI m)).2 := by
  have o1 := sli_ok (v := nI k) (d := nI d) (m := nI m) h.2.1 h8
  have o2 := sli_ok (v := nI k) (d := nI (d2 d)) (m := nI m) h.2.2 (by rw [h.n]; exact h8)
  have key : (sliY σ' (nI k) (nI (d2 d)) (nI m)).1 = (sliY σ (nI k) (nI d) (nI m)).1 ∧ RYs (sliY σ (nI k) (nI d) (nI m)).2 (sliY σ' (nI k) (nI (d2 d)) (nI m)).2 := by
    rcases Nat.lt_or_ge k σ.1.1 with q | q
    · rw [sliY_in q h8 hd h1 h2, sliY_in (σ := σ') (by rw [h.n]; exact q) (by rw [h.n]; exact h8) (d2_lt d) h1 h2, rt_fs h.1.1 h.W q hd (by omega)]
      split
      · exact ⟨rfl, h.1⟩
      · exact ⟨rfl, h.1.push (rt_set h.1.1 (rt_sh (h.1.1.2.2.2 k q) hd _)) h.1.2.2.2.1⟩
    · rw [sliY_out q hk, sliY_out (σ := σ') (by rw [h.n]; exact q) hk]
      exact ⟨rfl, h.1⟩
  exact ⟨key.1, key.2, o1, o2⟩
theorem setY_in {σ : Sy} {d : Nat} (hd : d < 8) : setY σ (nI d) = (nI (seS d 1000 σ.1 0).2, pushY σ (seS d 1000 σ.1 0).1) := by
  unfold setY
  rw [if_pos (isDir_t hd), nI_clamp (by omega)]
theorem seS_box (d : Nat) : ∀ r (s : St) (a : Nat), (seS d r s a).1.1 = s.1 ∧ (seS d r s a).1.2.1 = s.2.1 ∧ (seS d r s a).1.2.2.1 = s.2.2.1 := by
  intro r
  induction r with
  | zero => intro s a; exact ⟨rfl, rfl, rfl⟩
  | succ r ih =>
    intro s a
    have n1 := rdS_1 s d s.1
    simp only [seS]
    split
    · exact n1
    · have := ih (rdS s d s.1).1 (a + (rdS s d s.1).2)
      rw [n1.1, n1.2.1, n1.2.2] at this
      exact this
theorem rt_setY {σ σ' : Sy} (h : RY σ σ') (h8 : σ.1.1 ≤ 8) {d : Nat} (hd : d < 8) : (setY σ' (nI (d2 d))).1 = (setY σ (nI d)).1 ∧ RY (setY σ (nI d)).2 (setY σ' (nI (d2 d))).2 := by
  have o1 := set_ok (d := nI d) h.2.1 h8
  have o2 := set_ok (d := nI (d2 d)) h.2.2 (by rw [h.n]; exact h8)
  have e := rt_se hd 1000 σ.1 σ'.1 0 h.1.1 h.W
  rw [setY_in hd] at o1 ⊢
  rw [setY_in (d2_lt d)] at o2 ⊢
  refine ⟨by rw [e.2], h.1.push e.1 ?_, o1, o2⟩
  have b := seS_box d 1000 σ.1 0
  have hb := h.1.2.2.2.1
  unfold BoxIn at hb ⊢
  rw [b.2.1, b.2.2]; exact hb
theorem remY_in {σ : Sy} {k : Nat} (hk : k < σ.1.1) (h8 : σ.1.1 ≤ 8) : remY σ (nI k) = (nI (σ.1.1 - 1), pushY σ (outS σ.1 k)) := by
  unfold remY
  rw [if_pos (hasB_t hk (by omega)), nI_clamp (by omega)]
theorem remY_out {σ : Sy} {k : Nat} (hk : σ.1.1 ≤ k) (h8 : k ≤ 8) : remY σ (nI k) = (-1000001, σ) := by
  unfold remY
  rw [hasB_f hk (by omega)]; rfl
theorem rt_rem {σ σ' : Sy} (h : RY σ σ') (h8 : σ.1.1 ≤ 8) {k : Nat} (hk : k ≤ 8) : (remY σ' (nI k)).1 = (remY σ (nI k)).1 ∧ RY (remY σ (nI k)).2 (remY σ' (nI k)).2 := by
  have o1 := rem_ok (v := nI k) h.2.1 h8
  have o2 := rem_ok (v := nI k) h.2.2 (by rw [h.n]; exact h8)
  have key : (remY σ' (nI k)).1 = (remY σ (nI k)).1 ∧ RYs (remY σ (nI k)).2 (remY σ' (nI k)).2 := by
    rcases Nat.lt_or_ge k σ.1.1 with q | q
    · rw [remY_in q h8, remY_in (σ := σ') (by rw [h.n]; exact q) (by rw [h.n]; exact h8), h.n]
      exact ⟨rfl, h.1.push (rt_out h.1.1 q) h.1.2.2.2.1⟩
    · rw [remY_out q hk, remY_out (σ := σ') (by rw [h.n]; exact q) hk]
      exact ⟨rfl, h.1⟩
  exact ⟨key.1, key.2, o1, o2⟩
theorem rt_und {σ σ' : Sy} (h : RY σ σ') : (undY σ').1 = (undY σ).1 ∧ RY (undY σ).2 (undY σ').2 := by
  have o1 := und_ok h.2.1
  have o2 := und_ok h.2.2
  have key : (undY σ').1 = (undY σ).1 ∧ RYs (undY σ).2 (undY σ').2 := by
    obtain ⟨⟨h1, h2, h3, h4, h5⟩, -, -⟩ := h
    unfold undY
    rw [h2]
    by_cases q : σ.2.1 = 0
    · rw [if_pos q, if_pos q]; exact ⟨rfl, h1, h2, h3, h4, h5⟩
    · rw [if_neg q, if_neg q]
      exact ⟨rfl, h3 _ (by omega), rfl, fun a ha => h3 a (by have ha2 : a < σ.2.1 - 1 := ha; omega), h5 _ (by omega), fun a ha => h5 a (by have ha2 : a < σ.2.1 - 1 := ha; omega)⟩
  exact ⟨key.1, key.2, o1, o2⟩
/-! questions -/
theorem rt_cou {σ σ' : Sy} (h : RY σ σ') : couY σ' 0 = couY σ 0 ∧ couY σ' 3 = couY σ 3 ∧ couY σ' 4 = couY σ 4 ∧ couY σ' 5 = couY σ 5 := by
  refine ⟨?_, ?_, ?_, ?_⟩
  · show nI σ'.1.1 = nI σ.1.1
    rw [h.n]
  · show areaS σ'.1 = areaS σ.1
    exact rt_areaS h.1.1 h.W
  · show cornS σ'.1 = cornS σ.1
    exact rt_corn h.1.1
  · show pairS σ'.1 = pairS σ.1
    exact rt_pair h.1.1 h.W
theorem rt_den {σ σ' : Sy} (h : RY σ σ') : denY σ' = denY σ := by
  unfold denY
  rw [rt_areaS h.1.1 h.W, h.1.1.2.1, h.1.1.2.2.1, Nat.mul_comm σ.1.2.2.1.toInt.toNat]
theorem rt_bod {σ σ' : Sy} (h : RY σ σ') : bodY σ' 0 = bodY σ 0 ∧ bodY σ' 1 = bodY σ 1 ∧ bodY σ' 2 = bodY σ 2 := by
  refine ⟨?_, ?_, ?_⟩
  · show jmS σ'.1 = jmS σ.1
    exact rt_jmS h.1.1 h.W
  · show noneS σ'.1 = noneS σ.1
    exact rt_none h.1.1 h.W
  · show wallS σ'.1 15 = wallS σ.1 15
    exact rt_wall h.1.1 h.W
theorem bofY_in {σ : Sy} {k w : Nat} (hk : k < σ.1.1) (h8 : σ.1.1 ≤ 8) (hw : w < 22) : bofY σ (nI k) (nI w) = bofV σ.1 k w := by
  unfold bofY
  rw [if_pos ⟨hasB_t hk (by omega), by rw [show (0 : Int32) = nI 0 by decide, nI_leI (by decide) (by omega)]; omega, by rw [show (22 : Int32) = nI 22 by decide, nI_ltI (by omega) (by decide)]; exact hw⟩, nI_clamp (by omega), nI_clamp (by omega)]
theorem parY_in {σ : Sy} {k j w : Nat} (hk : k < σ.1.1) (hj : j < σ.1.1) (h8 : σ.1.1 ≤ 8) (hne : j ≠ k) (hw : w ≤ 2) : parY σ (nI k) (nI j) (nI w) = parV (σ.1.2.2.2 k) (σ.1.2.2.2 j) (nI w) := by
  unfold parY
  rw [if_pos ⟨hasB_t hk (by omega), hasB_t hj (by omega), fun e => hne ((nI_eq (by omega) (by omega)).mp e).symm, by rw [show (0 : Int32) = nI 0 by decide, nI_leI (by decide) (by omega)]; omega, by rw [show (2 : Int32) = nI 2 by decide, nI_leI (by omega) (by decide)]; exact hw⟩, nI_clamp (by omega), nI_clamp (by omega)]
theorem wayY_in {σ : Sy} {k d w : Nat} (hk : k < σ.1.1) (h8 : σ.1.1 ≤ 8) (hd : d < 8) (hw : w ≤ 2) : wayY σ (nI k) (nI d) (nI w) = wayV σ.1 k d (nI w) := by
  unfold wayY
  rw [if_pos ⟨hasB_t hk (by omega), isDir_t hd, by rw [show (0 : Int32) = nI 0 by decide, nI_leI (by decide) (by omega)]; omega, by rw [show (2 : Int32) = nI 2 by decide, nI_leI (by omega) (by decide)]; exact hw⟩, nI_clamp (by omega), nI_clamp (by omega)]
theorem rt_bof {σ σ' : Sy} (h : RY σ σ') {k : Nat} (hk : k < σ.1.1) : bofV σ'.1 k 8 = tuV (bofV σ.1 k 8) ∧ bofV σ'.1 k 6 = waV (bofV σ.1 k 6) ∧ bofV σ'.1 k 7 = bofV σ.1 k 7 ∧ bofV σ'.1 k 1 = bofV σ.1 k 1 ∧ (bofV σ.1 k 9 = 1 ↔ bofV σ.1 k 8 &&& 85 = 0) := by
  refine ⟨rt_frS h.1.1 h.W hk, ?_, rt_tcS h.1.1 h.W hk, rt_area (h.1.1.2.2.2 k hk) (h.W.p0 hk), ?_⟩
  · show pTouched (σ'.1.2.2.2 k) σ'.1.2.1 σ'.1.2.2.1 = waV (pTouched (σ.1.2.2.2 k) σ.1.2.1 σ.1.2.2.1)
    rw [h.1.1.2.1, h.1.1.2.2.1]
    exact rt_touched (h.1.1.2.2.2 k hk) (h.W.sm k hk) (bx_h h.W)
  · show bi (!jm4 σ.1 k 4) = 1 ↔ frS σ.1 k &&& 85 = 0
    have e := jm_fr (s := σ.1) (k := k)
    cases q : jm4 σ.1 k 4 with
    | true =>
      have := e.mp q
      constructor
      · intro z; exact absurd z (by decide)
      · intro z; exact absurd z this
    | false =>
      constructor
      · intro _
        apply Classical.byContradiction
        intro z
        have := e.mpr z
        rw [q] at this; cases this
      · intro _; rfl
/-- the k-th bit -/
theorem bit_B : ∀ k, k < 8 → ∀ a b c d e f g h : Bool, (b8 a b c d e f g h >>> (nI k &&& 31)) &&& 1 = bi ((fun j : Nat => match j with | 0 => a | 1 => b | 2 => c | 3 => d | 4 => e | 5 => f | 6 => g | _ => h) k) := by decide +kernel
theorem bit_8 {q : Nat → Bool} {k : Nat} (hk : k < 8) : (bsT q 8 >>> (nI k &&& 31)) &&& 1 = bi (q k) := by
  rw [bs8 q]
  refine (bit_B k hk (q 0) (q 1) (q 2) (q 3) (q 4) (q 5) (q 6) (q 7)).trans ?_
  rcases (show k = 0 ∨ k = 1 ∨ k = 2 ∨ k = 3 ∨ k = 4 ∨ k = 5 ∨ k = 6 ∨ k = 7 by omega) with rfl | rfl | rfl | rfl | rfl | rfl | rfl | rfl <;> rfl
theorem bsT_more {q : Nat → Bool} {n : Nat} (hn : n ≤ 8) : bsT q n = bsT (fun j => decide (j < n) && q j) 8 := by
  refine tb_ext (fun i hi => ?_)
  rw [tb_bsT hn hi, tb_bsT (Nat.le_refl 8) hi]
  by_cases h : i < n
  · have : i < 8 := by omega
    simp [h, this]
  · simp [h]
theorem tc_bit {s : St} {k j : Nat} (h8 : s.1 ≤ 8) (hj : j < s.1) : (tcS s k >>> (nI j &&& 31)) &&& 1 = bi (tcF s k j) := by
  unfold tcS
  rw [bsT_more h8, bit_8 (by omega), decide_eq_true hj, Bool.true_and]
/-! ways -/
theorem ov_nn {s : St} {P : Py} {own : Int32} (h8 : s.1 ≤ 8) : 0 ≤ ovS s P own := by
  unfold ovS
  rw [bsT_more h8, bs8]
  exact (show ∀ a b c d e f g h : Bool, 0 ≤ b8 a b c d e f g h by decide +kernel) _ _ _ _ _ _ _ _
theorem b8_ub : ∀ a b c d e f g h : Bool, b8 a b c d e f g h ≤ 255 := by decide +kernel
theorem ov_ub {s : St} {P : Py} {own : Int32} (h8 : s.1 ≤ 8) : ovS s P own ≤ 255 := by
  unfold ovS
  rw [bsT_more h8, bs8]
  exact b8_ub _ _ _ _ _ _ _ _
theorem way_bey {s : St} (hW : WfS s) (h8 : s.1 ≤ 8) {k d : Nat} (hk : k < s.1) (hd : d < 8) : okS s (shP (s.2.2.2 k) d (fsN s k d 60 + 1)) k = false := by
  have h1 := fs61 hW hk hd
  have h2 := fsN_60 (most := 61) hW hk hd
  rw [← h1, ← mvN_sh]
  unfold fsN at h2 ⊢
  cases q : fsT (fkF s k d) 61 with
  | none => rw [q] at h2; exact absurd h2 (by decide)
  | some t =>
    have := (fsT_some q).2.1
    unfold fkF at this
    show okS s (mvN (s.2.2.2 k) d (t + 1)) k = false
    cases r : okS s (mvN (s.2.2.2 k) d (t + 1)) k with
    | false => rfl
    | true => rw [r] at this; cases this
theorem way_pos {s : St} (hW : WfS s) (h8 : s.1 ≤ 8) {k d : Nat} (hk : k < s.1) (hd : d < 8) : 0 < wayV s k d (nI 1) + wayV s k d (nI 2) := by
  have h1 := way_bey hW h8 hk hd
  show 0 < ovS s (shP (s.2.2.2 k) d (fsN s k d 60 + 1)) (nI k) + pBeyond (shP (s.2.2.2 k) d (fsN s k d 60 + 1)) s.2.1 s.2.2.1
  have a1 := ov_nn (P := shP (s.2.2.2 k) d (fsN s k d 60 + 1)) (own := nI k) h8
  have a2 := ov_ub (P := shP (s.2.2.2 k) d (fsN s k d 60 + 1)) (own := nI k) h8
  have a3 := wlB_nn (!decide (0 ≤ pL (shP (s.2.2.2 k) d (fsN s k d 60 + 1)))) (!decide (pR (shP (s.2.2.2 k) d (fsN s k d 60 + 1)) ≤ s.2.1)) (!decide (0 ≤ pB (shP (s.2.2.2 k) d (fsN s k d 60 + 1)))) (!decide (pT (shP (s.2.2.2 k) d (fsN s k d 60 + 1)) ≤ s.2.2.1))
  rw [← bey_B] at a3
  unfold okS at h1
  generalize ovS s (shP (s.2.2.2 k) d (fsN s k d 60 + 1)) (nI k) = u at h1 a1 a2 ⊢
  generalize pBeyond (shP (s.2.2.2 k) d (fsN s k d 60 + 1)) s.2.1 s.2.2.1 = v at h1 a3 ⊢
  have hne : ¬ (v = 0 ∧ u = 0) := by
    rintro ⟨rfl, rfl⟩
    exact absurd h1 (by decide)
  rw [i32_le, i32_le, show (0 : Int32).toInt = 0 by decide, show (15 : Int32).toInt = 15 by decide] at a3
  rw [i32_le, show (0 : Int32).toInt = 0 by decide] at a1
  rw [i32_le, show (255 : Int32).toInt = 255 by decide] at a2
  have e := i32_add (n := 1000) (a := u) (b := v) (by decide) (by omega) (by omega)
  rw [i32_lt, e, show (0 : Int32).toInt = 0 by decide]
  have h3 : ¬ (v.toInt = 0 ∧ u.toInt = 0) := fun z => hne ⟨i32_eq.mpr (by rw [z.1]; decide), i32_eq.mpr (by rw [z.2]; decide)⟩
  omega
theorem fs_01 {s : St} {k d : Nat} : 0 < fsN s k d 60 ↔ fsN s k d 1 = 1 := by
  have key : ∀ m, 0 < m → (0 < fsN s k d m ↔ fkF s k d 0 = false) := by
    intro m hm
    unfold fsN
    cases q : fsT (fkF s k d) m with
    | none =>
      have h1 := anT_false.mp (fsT_none.mp q) 0 hm
      exact ⟨fun _ => h1, fun _ => hm⟩
    | some t =>
      obtain ⟨g1, g2, g3⟩ := fsT_some q
      show 0 < t ↔ _
      constructor
      · intro h; exact anT_false.mp g3 0 h
      · intro h
        rcases Nat.eq_zero_or_pos t with r | r
        · rw [r, h] at g2; cases g2
        · exact r
  rw [key 60 (by decide), ← key 1 (by decide)]
  have := fsN_le s k d 1
  omega
theorem way_bit {s : St} {k d : Nat} (hd : d < 8) : ((0 : Int32) < wayV s k d (nI 0)) ↔ (bofV s k 8 >>> (nI d &&& 31)) &&& 1 = 1 := by
  show 0 < nI (fsN s k d 60) ↔ (frS s k >>> (nI d &&& 31)) &&& 1 = 1
  have h1 := fsN_le s k d 60
  unfold frS
  rw [bit_8 hd, show (0 : Int32) = nI 0 by decide, nI_ltI (by decide) (by omega), fs_01]
  unfold frF
  by_cases q : fsN s k d 1 = 1
  · rw [decide_eq_true q]; exact ⟨fun _ => rfl, fun _ => q⟩
  · rw [decide_eq_false q]; exact ⟨fun z => absurd z q, fun z => absurd z (by decide)⟩
theorem rt_way {σ σ' : Sy} (h : RY σ σ') {k d : Nat} (hk : k < σ.1.1) (hd : d < 8) : wayV σ'.1 k (d2 d) (nI 0) = wayV σ.1 k d (nI 0) ∧ wayV σ'.1 k (d2 d) (nI 1) = wayV σ.1 k d (nI 1) ∧ wayV σ'.1 k (d2 d) (nI 2) = waV (wayV σ.1 k d (nI 2)) := by
  have e := rt_fs h.1.1 h.W (d := d) (m := 60) hk hd (by decide)
  have l := fsN_le σ.1 k d 60
  have r := rt_sh (h.1.1.2.2.2 k hk) hd (fsN σ.1 k d 60 + 1)
  have sm : Smal (shP (σ.1.2.2.2 k) d (fsN σ.1 k d 60 + 1)) := by
    rw [← mvN_sh]; exact mvN_sm (h.W.2 k hk) h.W.1 hd (by omega)
  have p0 : 0 < (shP (σ.1.2.2.2 k) d (fsN σ.1 k d 60 + 1)).1 := h.W.p0 hk
  refine ⟨?_, ?_, ?_⟩
  · show nI (fsN σ'.1 k (d2 d) 60) = nI (fsN σ.1 k d 60)
    rw [e]
  · show ovS σ'.1 (shP (σ'.1.2.2.2 k) (d2 d) (fsN σ'.1 k (d2 d) 60 + 1)) (nI k) = ovS σ.1 (shP (σ.1.2.2.2 k) d (fsN σ.1 k d 60 + 1)) (nI k)
    rw [e]
    exact rt_ovS h.1.1 h.W r p0 _
  · show pBeyond (shP (σ'.1.2.2.2 k) (d2 d) (fsN σ'.1 k (d2 d) 60 + 1)) σ'.1.2.1 σ'.1.2.2.1 = waV (pBeyond (shP (σ.1.2.2.2 k) d (fsN σ.1 k d 60 + 1)) σ.1.2.1 σ.1.2.2.1)
    rw [e, h.1.1.2.1, h.1.1.2.2.1]
    exact rt_beyond r sm (bx_h h.W)
/-! what is settled -/
theorem shP_0 (P : Py) (d : Nat) : shP P d 0 = P := by rw [← mvN_sh]; rfl
theorem rd_still {s : St} {d : Nat} (h : ∀ k, k < s.1 → fsN s k d 60 = 0) : ∀ k, k ≤ s.1 → rdS s d k = (s, 0) := by
  intro k
  induction k with
  | zero => intro _; rfl
  | succ k ih =>
    intro hk
    have e := ih (by omega)
    have f := h k (by omega)
    show (setS (rdS s d k).1 k (shP ((rdS s d k).1.2.2.2 k) d (fsN (rdS s d k).1 k d 60)), (rdS s d k).2 + fsN (rdS s d k).1 k d 60) = (s, 0)
    rw [e]
    show (setS s k (shP (s.2.2.2 k) d (fsN s k d 60)), 0 + fsN s k d 60) = (s, 0)
    rw [f, shP_0, setS_id]
theorem rd_zero {s : St} {d : Nat} : ∀ k, (rdS s d k).2 = 0 → (rdS s d k).1 = s ∧ ∀ j, j < k → fsN s j d 60 = 0 := by
  intro k
  induction k with
  | zero => intro _; exact ⟨rfl, fun j hj => absurd hj (Nat.not_lt_zero _)⟩
  | succ k ih =>
    intro h
    have h1 : (rdS s d k).2 + fsN (rdS s d k).1 k d 60 = 0 := h
    obtain ⟨e, f⟩ := ih (by omega)
    rw [e] at h1
    have g : fsN s k d 60 = 0 := by omega
    refine ⟨?_, fun j hj => ?_⟩
    · show setS (rdS s d k).1 k (shP ((rdS s d k).1.2.2.2 k) d (fsN (rdS s d k).1 k d 60)) = s
      rw [e, g, shP_0, setS_id]
    · rcases Nat.lt_or_ge j k with q | q
      · exact f j q
      · rw [show j = k by omega]; exact g
theorem se_still {s : St} {d : Nat} (h : ∀ k, k < s.1 → fsN s k d 60 = 0) : seS d 1000 s 0 = (s, 0) := by
  have e := rd_still h s.1 (Nat.le_refl _)
  show (if (rdS s d s.1).2 = 0 then ((rdS s d s.1).1, 0) else seS d 999 (rdS s d s.1).1 (0 + (rdS s d s.1).2)) = (s, 0)
  rw [e]; rfl
theorem se_end {d : Nat} (hd : d < 8) : ∀ (r : Nat) (s : St) (a : Nat), WfS s → s.1 ≤ 8 → remS d s.2.2.2 s.1 < r → ∀ k, k < (seS d r s a).1.1 → fsN (seS d r s a).1 k d 60 = 0 := by
  intro r
  induction r with
  | zero =>
    intro s a hW h8 hr
    have := remS_bd (d := d) hW s.1 (Nat.le_refl _)
    omega
  | succ r ih =>
    intro s a hW h8 hr
    have n1 := rdS_1 s d s.1
    have w := rdS_wf (d := d) hW s.1 (Nat.le_refl _)
    have m := rd_rem hW hd s.1 (Nat.le_refl _)
    simp only [seS]
    split
    next q =>
      obtain ⟨e, f⟩ := rd_zero s.1 q
      rw [e]; exact f
    next q =>
      exact ih _ _ w (by rw [n1.1]; exact h8) (by rw [n1.1]; omega)
theorem se_all {s : St} {d : Nat} (hd : d < 8) (hW : WfS s) (h8 : s.1 ≤ 8) : ∀ k, k < s.1 → fsN (seS d 1000 s 0).1 k d 60 = 0 := by
  have h := se_end hd 1000 s 0 hW h8 (by have := remS_bd (d := d) hW s.1 (Nat.le_refl _); omega)
  rw [(seS_box d 1000 s 0).1] at h
  exact h
/-! the keystone -/
theorem ke_some {s : St} {d : Nat} (h8 : s.1 ≤ 8) : ∀ k, 0 < k → k ≤ s.1 → ∃ j, j < k ∧ keI s d k = (nI (seS d 1000 (outS s j) 0).2, nI j) := by
  intro k
  induction k with
  | zero => intro h; exact absurd h (Nat.lt_irrefl _)
  | succ k ih =>
    intro _ hk
    simp only [keI]
    rcases Nat.eq_zero_or_pos k with q | q
    · subst q
      refine ⟨0, by decide, ?_⟩
      rw [if_pos]
      show (-1000004 : Int32) < nI (seS d 1000 (outS s 0) 0).2
      have := ke_big (s := s) (d := d) (k := 0) h8
      rw [i32_lt, nI_toInt this, show (-1000004 : Int32).toInt = -1000004 by decide]
      omega
    · obtain ⟨j, h1, h2⟩ := ih q (by omega)
      split
      · exact ⟨k, by omega, rfl⟩
      · exact ⟨j, by omega, h2⟩
theorem keyY_in {σ : Sy} {d : Nat} (hd : d < 8) : keyY σ (nI d) (nI 0) = (keI σ.1 d σ.1.1).2 ∧ keyY σ (nI d) (nI 1) = (keI σ.1 d σ.1.1).1 := by
  refine ⟨?_, ?_⟩
  · unfold keyY
    rw [if_pos ⟨isDir_t hd, by decide, by decide⟩, nI_clamp (by omega)]
    rfl
  · unfold keyY
    rw [if_pos ⟨isDir_t hd, by decide, by decide⟩, nI_clamp (by omega)]
    rfl
theorem rt_key {σ σ' : Sy} (h : RY σ σ') {d : Nat} (hd : d < 8) : keyY σ' (nI (d2 d)) (nI 0) = keyY σ (nI d) (nI 0) ∧ keyY σ' (nI (d2 d)) (nI 1) = keyY σ (nI d) (nI 1) := by
  rw [(keyY_in hd).1, (keyY_in hd).2, (keyY_in (d2_lt d)).1, (keyY_in (d2_lt d)).2, h.n, rt_ke h.1.1 h.W hd σ.1.1 (Nat.le_refl _)]
  exact ⟨rfl, rfl⟩
/-- two changes are undone -/
theorem und_push {σ : Sy} {s : St} (h4 : σ.2.1 ≤ 4) : 0 < (pushY σ s).2.1 ∧ (pushY σ s).2.2.1 ((pushY σ s).2.1 - 1) = σ.1 ∧ (pushY σ s).2.1 ≤ 4 := by
  show 0 < puN σ.2.1 ∧ puH σ.2.1 σ.2.2.1 σ.1 (puN σ.2.1 - 1) = σ.1 ∧ puN σ.2.1 ≤ 4
  unfold puN puH
  by_cases q : σ.2.1 = 4
  · rw [if_pos q, if_pos q]; exact ⟨by decide, rfl, by decide⟩
  · rw [if_neg q, if_neg q, if_neg (by omega)]; exact ⟨by omega, rfl, by omega⟩
theorem und_two {σ : Sy} {s s2 : St} (h4 : σ.2.1 ≤ 4) : 0 ≤ (undY (pushY (pushY σ s) s2)).1 ∧ 0 ≤ (undY (undY (pushY (pushY σ s) s2)).2).1 ∧ (undY (undY (pushY (pushY σ s) s2)).2).2.1 = σ.1 := by
  obtain ⟨a1, a2, a3⟩ := und_push (s := s) h4
  obtain ⟨b1, b2, b3⟩ := und_push (σ := pushY σ s) (s := s2) a3
  have e1 : undY (pushY (pushY σ s) s2) = (nI ((pushY (pushY σ s) s2).2.1 - 1), ((pushY (pushY σ s) s2).2.2.1 ((pushY (pushY σ s) s2).2.1 - 1), (pushY (pushY σ s) s2).2.1 - 1, (pushY (pushY σ s) s2).2.2.1, (pushY (pushY σ s) s2).2.2.2)) := if_neg (by omega)
  have g : 2 ≤ (pushY (pushY σ s) s2).2.1 ∧ (pushY (pushY σ s) s2).2.2.1 ((pushY (pushY σ s) s2).2.1 - 2) = σ.1 := by
    show 2 ≤ puN (puN σ.2.1) ∧ puH (puN σ.2.1) (puH σ.2.1 σ.2.2.1 σ.1) s (puN (puN σ.2.1) - 2) = σ.1
    unfold puN puH
    rcases (show σ.2.1 = 0 ∨ σ.2.1 = 1 ∨ σ.2.1 = 2 ∨ σ.2.1 = 3 ∨ σ.2.1 = 4 by omega) with q | q | q | q | q <;> rw [q] <;> exact ⟨by decide, rfl⟩
  have nn0 : ∀ n : Nat, n < 2 ^ 31 → (0 : Int32) ≤ nI n := fun n hn => Int32.not_lt.mp (nI_pos hn)
  rw [e1]
  refine ⟨nn0 _ (by omega), ?_, ?_⟩
  · show 0 ≤ (if (pushY (pushY σ s) s2).2.1 - 1 = 0 then _ else _ : Int32 × Sy).1
    rw [if_neg (by omega)]
    exact nn0 _ (by show (pushY (pushY σ s) s2).2.1 - 1 - 1 < _; omega)
  · show (if (pushY (pushY σ s) s2).2.1 - 1 = 0 then _ else _ : Int32 × Sy).2.1 = σ.1
    rw [if_neg (by omega)]
    show (pushY (pushY σ s) s2).2.2.1 ((pushY (pushY σ s) s2).2.1 - 1 - 1) = σ.1
    exact g.2
