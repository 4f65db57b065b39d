/-! THE QUARTER TURN OF THE BOX: states -/
def rtS (s s' : St) : Prop := s'.1 = s.1 ∧ s'.2.1 = s.2.2.1 ∧ s'.2.2.1 = s.2.1 ∧ ∀ k, k < s.1 → rtB s.2.2.1 (s.2.2.2 k) (s'.2.2.2 k)
theorem bx_h {s : St} (h : WfS s) : -1000 ≤ s.2.2.1.toInt ∧ s.2.2.1.toInt ≤ 1000 := by
  have := h.1; unfold BoxOk at this; omega
theorem WfS.p0 {s : St} (h : WfS s) {k : Nat} (hk : k < s.1) : 0 < (s.2.2.2 k).1 := by have := (h.2 k hk).1; omega
theorem rt_ovF {s s' : St} (h : rtS s s') (hW : WfS s) {P P' : Py} (hP : rtB s.2.2.1 P P') (p0 : 0 < P.1) (own : Int32) {k : Nat} (hk : k < s.1) : ovF s' P' own k = ovF s P own k := by
  unfold ovF
  rw [rt_ovl hP (h.2.2.2 k hk) p0 (hW.p0 hk)]
theorem rt_ovS {s s' : St} (h : rtS s s') (hW : WfS s) {P P' : Py} (hP : rtB s.2.2.1 P P') (p0 : 0 < P.1) (own : Int32) : ovS s' P' own = ovS s P own := by
  unfold ovS
  rw [h.1]
  exact bsT_congr _ (fun k hk => rt_ovF h hW hP p0 own hk)
theorem rt_ok {s s' : St} (h : rtS s s') (hW : WfS s) {P P' : Py} (hP : rtB s.2.2.1 P P') (hs : Smal P) (own : Nat) : okS s' P' own = okS s P own := by
  have h3 := hs.1
  unfold okS
  rw [rt_ovS h hW hP (by omega), h.2.1, h.2.2.1, decide_eq_decide.mpr (rt_beyond0 hP hs (bx_h hW))]
theorem rt_fk {s s' : St} (h : rtS s s') (hW : WfS s) {k d t : Nat} (hk : k < s.1) (hd : d < 8) (ht : t < 100) : fkF s' k (d2 d) t = fkF s k d t := by
  unfold fkF
  rw [rt_ok h hW (rt_mvN (h.2.2.2 k hk) hd (t + 1)) (mvN_sm (hW.2 k hk) hW.1 hd (by omega)) k]
theorem rt_fs {s s' : St} (h : rtS s s') (hW : WfS s) {k d m : Nat} (hk : k < s.1) (hd : d < 8) (hm : m ≤ 100) : fsN s' k (d2 d) m = fsN s k d m := by
  unfold fsN
  rw [fsT_congr m (fun j hj => rt_fk h hW hk hd (by omega))]
theorem d2_6 : ∀ d, d < 8 → d2 ((d + 6) % 8) = d := by decide
theorem rt_frF {s s' : St} (h : rtS s s') (hW : WfS s) {k j : Nat} (hk : k < s.1) (hj : j < 8) : frF s' k j = frF s k ((j + 6) % 8) := by
  unfold frF
  have e := rt_fs h hW (d := (j + 6) % 8) (m := 1) hk (Nat.mod_lt _ (by decide)) (by decide)
  rw [d2_6 j hj] at e
  rw [e]
/-- the law's own way: directions two more -/
def tuV (v : Int32) : Int32 := ((v <<< ((2 : Int32) &&& 31)) ||| (v >>> ((6 : Int32) &&& 31))) &&& 255
theorem bs8 (q : Nat → Bool) : bsT q 8 = (fun a b c d e f g h : Bool => bsT (fun j => match j with | 0 => a | 1 => b | 2 => c | 3 => d | 4 => e | 5 => f | 6 => g | _ => h) 8) (q 0) (q 1) (q 2) (q 3) (q 4) (q 5) (q 6) (q 7) :=
  bsT_congr 8 (fun j hj => by rcases (show j = 0 ∨ j = 1 ∨ j = 2 ∨ j = 3 ∨ j = 4 ∨ j = 5 ∨ j = 6 ∨ j = 7 by omega) with rfl | rfl | rfl | rfl | rfl | rfl | rfl | rfl <;> rfl)
def b8 (a b c d e f g h : Bool) : Int32 := bsT (fun j => match j with | 0 => a | 1 => b | 2 => c | 3 => d | 4 => e | 5 => f | 6 => g | _ => h) 8
set_option maxRecDepth 100000 in
theorem tu_8 : ∀ a b c d e f g h : Bool, tuV (b8 a b c d e f g h) = b8 g h a b c d e f := by decide +kernel
set_option maxRecDepth 100000 in
theorem ja_8 : ∀ a b c d e f g h : Bool, (b8 a b c d e f g h &&& 85 = 0) ↔ (a = false ∧ c = false ∧ e = false ∧ g = false) := by decide +kernel
theorem rt_frS {s s' : St} (h : rtS s s') (hW : WfS s) {k : Nat} (hk : k < s.1) : frS s' k = tuV (frS s k) := by
  unfold frS
  rw [bs8 (frF s k), bs8 (frF s' k)]
  have e := fun j hj => rt_frF h hW (j := j) hk hj
  rw [e 0 (by decide), e 1 (by decide), e 2 (by decide), e 3 (by decide), e 4 (by decide), e 5 (by decide), e 6 (by decide), e 7 (by decide)]
  exact (tu_8 _ _ _ _ _ _ _ _).symm
theorem jm_fr {s : St} {k : Nat} : jm4 s k 4 = true ↔ ¬ (frS s k &&& 85 = 0) := by
  unfold frS
  rw [bs8 (frF s k)]
  rw [show ((fun a b c d e f g h : Bool => bsT (fun j => match j with | 0 => a | 1 => b | 2 => c | 3 => d | 4 => e | 5 => f | 6 => g | _ => h) 8) (frF s k 0) (frF s k 1) (frF s k 2) (frF s k 3) (frF s k 4) (frF s k 5) (frF s k 6) (frF s k 7)) = b8 (frF s k 0) (frF s k 1) (frF s k 2) (frF s k 3) (frF s k 4) (frF s k 5) (frF s k 6) (frF s k 7) from rfl, ja_8]
  have e : jm4 s k 4 = (((frF s k 0 || frF s k 2) || frF s k 4) || frF s k 6) := by
    show (if (if (if (if false = true then true else decide (fsN s k (2 * 0) 1 = 1)) = true then true else decide (fsN s k (2 * 1) 1 = 1)) = true then true else decide (fsN s k (2 * 2) 1 = 1)) = true then true else decide (fsN s k (2 * 3) 1 = 1)) = _
    show _ = (((decide (fsN s k 0 1 = 1) || decide (fsN s k 2 1 = 1)) || decide (fsN s k 4 1 = 1)) || decide (fsN s k 6 1 = 1))
    generalize decide (fsN s k (2 * 0) 1 = 1) = a
    generalize decide (fsN s k (2 * 1) 1 = 1) = b
    generalize decide (fsN s k (2 * 2) 1 = 1) = c
    generalize decide (fsN s k (2 * 3) 1 = 1) = d
    cases a <;> cases b <;> cases c <;> cases d <;> rfl
  rw [e]
  generalize frF s k 0 = a
  generalize frF s k 2 = b
  generalize frF s k 4 = c
  generalize frF s k 6 = d
  cases a <;> cases b <;> cases c <;> cases d <;> decide
theorem rt_jm {s s' : St} (h : rtS s s') (hW : WfS s) {k : Nat} (hk : k < s.1) : jm4 s' k 4 = jm4 s k 4 := by
  rw [Bool.eq_iff_iff, jm_fr, jm_fr, rt_frS h hW hk]
  unfold frS
  rw [bs8 (frF s k)]
  rw [show ((fun a b c d e f g h : Bool => bsT (fun j => match j with | 0 => a | 1 => b | 2 => c | 3 => d | 4 => e | 5 => f | 6 => g | _ => h) 8) (frF s k 0) (frF s k 1) (frF s k 2) (frF s k 3) (frF s k 4) (frF s k 5) (frF s k 6) (frF s k 7)) = b8 (frF s k 0) (frF s k 1) (frF s k 2) (frF s k 3) (frF s k 4) (frF s k 5) (frF s k 6) (frF s k 7) from rfl, tu_8, ja_8, ja_8]
  constructor
  · intro q z; exact q ⟨z.2.2.2, z.1, z.2.1, z.2.2.1⟩
  · intro q z; exact q ⟨z.2.1, z.2.2.1, z.2.2.2, z.1⟩
theorem rt_jmS {s s' : St} (h : rtS s s') (hW : WfS s) : jmS s' = jmS s := by
  unfold jmS
  rw [h.1]
  exact bsT_congr _ (fun k hk => by unfold jmF; rw [rt_jm h hW hk])
theorem rt_tcF {s s' : St} (h : rtS s s') (hW : WfS s) {k j : Nat} (hk : k < s.1) (hj : j < s.1) : tcF s' k j = tcF s k j := by
  unfold tcF
  rw [rt_tch (h.2.2.2 k hk) (h.2.2.2 j hj) (hW.p0 hk) (hW.p0 hj)]
theorem rt_tcS {s s' : St} (h : rtS s s') (hW : WfS s) {k : Nat} (hk : k < s.1) : tcS s' k = tcS s k := by
  unfold tcS
  rw [h.1]
  exact bsT_congr _ (fun j hj => rt_tcF h hW hk hj)
theorem tcF_comm (s : St) (k j : Nat) : tcF s k j = tcF s j k := by
  unfold tcF
  rw [tch_comm, decide_eq_decide.mpr (show ¬ j = k ↔ ¬ k = j from ⟨fun h e => h e.symm, fun h e => h e.symm⟩)]
theorem rt_none {s s' : St} (h : rtS s s') (hW : WfS s) : noneS s' = noneS s := by
  unfold noneS
  rw [h.1]
  exact bsT_congr _ (fun j hj => by unfold noF; rw [rt_tcS h hW hj])
theorem wl15 : ∀ a b c d : Bool, (wlB a b c d &&& 15 = 0) ↔ (wlB d c a b &&& 15 = 0) := by decide +kernel
theorem rt_wall {s s' : St} (h : rtS s s') (hW : WfS s) : wallS s' 15 = wallS s 15 := by
  unfold wallS
  rw [h.1]
  refine bsT_congr _ (fun j hj => ?_)
  unfold waF
  rw [h.2.1, h.2.2.1, rt_touched (h.2.2.2 j hj) (hW.sm j hj) (bx_h hW), tou_B (s.2.2.2 j), waV_B]
  exact decide_eq_decide.mpr (not_congr (wl15 _ _ _ _).symm)
theorem rt_areaS {s s' : St} (h : rtS s s') (hW : WfS s) : areaS s' = areaS s := by
  unfold areaS
  rw [h.1]
  exact smT_congr _ (fun j hj => rt_area (h.2.2.2 j hj) (hW.p0 hj))
theorem rt_corn {s s' : St} (h : rtS s s') : cornS s' = cornS s := by
  unfold cornS
  rw [h.1]
  exact smT_congr _ (fun j hj => by unfold coF; rw [(h.2.2.2 j hj).1])
theorem rt_pair {s s' : St} (h : rtS s s') (hW : WfS s) : pairS s' = pairS s := by
  unfold pairS
  rw [h.1, smT_congr s.1 (fun j hj => by unfold paF; rw [rt_tcS h hW hj])]
  rfl
theorem rt_Cls {s s' : St} (h : rtS s s') (hW : WfS s) (R : Nat → Bool) : Cls s' R ↔ Cls s R := by
  unfold Cls
  rw [h.1]
  constructor
  · intro q i j hi hj hR ht; exact q i j hi hj hR (by rw [rt_tcF h hW hi hj]; exact ht)
  · intro q i j hi hj hR ht; exact q i j hi hj hR (by rw [rt_tcF h hW hi hj] at ht; exact ht)
theorem rt_clo {s s' : St} (h : rtS s s') (hW : WfS s) (q : Nat → Bool) (j : Nat) : clo s' q j = clo s q j := by
  rw [Bool.eq_iff_iff, clo_iff, clo_iff, h.1]
  constructor
  · intro z R h1 h2; exact z R h1 ((rt_Cls h hW R).mpr h2)
  · intro z R h1 h2; exact z R h1 ((rt_Cls h hW R).mp h2)
theorem rt_clS {s s' : St} (h : rtS s s') (hW : WfS s) (q : Nat → Bool) : clS s' q = clS s q := by
  unfold clS
  rw [h.1]
  exact bsT_congr _ (fun j _ => rt_clo h hW q j)
theorem rt_grI {s s' : St} (h : rtS s s') (hW : WfS s) : ∀ k, grI s' k = grI s k := by
  intro k
  induction k with
  | zero => rfl
  | succ k ih =>
    simp only [grI]
    rw [ih, show (fun j => (grI s k).1 j || clo s' (fun i => decide (i = k)) j) = (fun j => (grI s k).1 j || clo s (fun i => decide (i = k)) j) from funext fun j => by rw [rt_clo h hW]]
theorem rt_groY {σ σ' : Sy} (h : rtS σ.1 σ'.1) (hW : WfS σ.1) (v : Int32) : groY σ' v = groY σ v := by
  unfold groY
  rw [h.1, rt_grI h hW, show grF σ'.1 v = grF σ.1 v from funext fun k => by unfold grF; rw [rt_grI h hW]]
  split
  · rfl
  · split
    · exact rt_clS h hW _
    · rfl
/-! changes -/
theorem rt_set {s s' : St} (h : rtS s s') {k : Nat} {P P' : Py} (hP : rtB s.2.2.1 P P') : rtS (setS s k P) (setS s' k P') := by
  refine ⟨h.1, h.2.1, h.2.2.1, fun j hj => ?_⟩
  show rtB s.2.2.1 (if j = k then P else s.2.2.2 j) (if j = k then P' else s'.2.2.2 j)
  by_cases q : j = k
  · rw [if_pos q, if_pos q]; exact hP
  · rw [if_neg q, if_neg q]; exact h.2.2.2 j hj
theorem rt_out {s s' : St} (h : rtS s s') {k : Nat} (hk : k < s.1) : rtS (outS s k) (outS s' k) := by
  refine ⟨by show s'.1 - 1 = s.1 - 1; rw [h.1], h.2.1, h.2.2.1, fun j hj => ?_⟩
  have hj2 : j < s.1 - 1 := hj
  show rtB s.2.2.1 (if j < k then s.2.2.2 j else s.2.2.2 (j + 1)) (if j < k then s'.2.2.2 j else s'.2.2.2 (j + 1))
  by_cases q : j < k
  · rw [if_pos q, if_pos q]; exact h.2.2.2 j (by omega)
  · rw [if_neg q, if_neg q]; exact h.2.2.2 (j + 1) (by omega)
theorem rt_add {s s' : St} (h : rtS s s') {P P' : Py} (hP : rtB s.2.2.1 P P') : rtS (addS s P) (addS s' P') := by
  refine ⟨by show s'.1 + 1 = s.1 + 1; rw [h.1], h.2.1, h.2.2.1, fun j hj => ?_⟩
  have hj2 : j < s.1 + 1 := hj
  show rtB s.2.2.1 (if j = s.1 then P else s.2.2.2 j) (if j = s'.1 then P' else s'.2.2.2 j)
  rw [h.1]
  by_cases q : j = s.1
  · rw [if_pos q, if_pos q]; exact hP
  · rw [if_neg q, if_neg q]; exact h.2.2.2 j (by omega)
theorem rt_sh {H : Int32} {P P' : Py} (h : rtB H P P') {d : Nat} (hd : d < 8) (t : Nat) : rtB H (shP P d t) (shP P' (d2 d) t) := by
  rw [← mvN_sh, ← mvN_sh]; exact rt_mvN h hd t
theorem rt_rd {s s' : St} (h : rtS s s') (hW : WfS s) {d : Nat} (hd : d < 8) : ∀ k, k ≤ s.1 → rtS (rdS s d k).1 (rdS s' (d2 d) k).1 ∧ (rdS s' (d2 d) k).2 = (rdS s d k).2 := by
  intro k
  induction k with
  | zero => intro _; exact ⟨h, rfl⟩
  | succ k ih =>
    intro hk
    obtain ⟨h1, h2⟩ := ih (by omega)
    have w := rdS_wf (d := d) hW k (by omega)
    have n1 := rdS_1 s d k
    have hk1 : k < (rdS s d k).1.1 := by rw [n1.1]; omega
    have e := rt_fs h1 w (m := 60) hk1 hd (by decide)
    refine ⟨?_, ?_⟩
    · show rtS (setS (rdS s d k).1 k (shP ((rdS s d k).1.2.2.2 k) d (fsN (rdS s d k).1 k d 60))) (setS (rdS s' (d2 d) k).1 k (shP ((rdS s' (d2 d) k).1.2.2.2 k) (d2 d) (fsN (rdS s' (d2 d) k).1 k (d2 d) 60)))
      rw [e]
      exact rt_set h1 (rt_sh (h1.2.2.2 k hk1) hd _)
    · show (rdS s' (d2 d) k).2 + fsN (rdS s' (d2 d) k).1 k (d2 d) 60 = (rdS s d k).2 + fsN (rdS s d k).1 k d 60
      rw [e, h2]
theorem rt_se {d : Nat} (hd : d < 8) : ∀ r (s s' : St) (a : Nat), rtS s s' → WfS s → rtS (seS d r s a).1 (seS (d2 d) r s' a).1 ∧ (seS (d2 d) r s' a).2 = (seS d r s a).2 := by
  intro r
  induction r with
  | zero => intro s s' a h _; exact ⟨h, rfl⟩
  | succ r ih =>
    intro s s' a h hW
    obtain ⟨h1, h2⟩ := rt_rd h hW hd s.1 (Nat.le_refl _)
    have w := rdS_wf (d := d) hW s.1 (Nat.le_refl _)
    simp only [seS]
    rw [h.1, h2]
    split
    · exact ⟨h1, rfl⟩
    · exact ih _ _ _ h1 w
theorem rt_ke {s s' : St} (h : rtS s s') (hW : WfS s) {d : Nat} (hd : d < 8) : ∀ k, k ≤ s.1 → keI s' (d2 d) k = keI s d k := by
  intro k
  induction k with
  | zero => intro _; rfl
  | succ k ih =>
    intro hk
    simp only [keI]
    rw [ih (by omega), (rt_se hd 1000 _ _ 0 (rt_out h (by omega)) (outS_wf hW (by omega))).2]
