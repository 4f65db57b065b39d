/-! every call keeps what holds of the states -/
theorem ovl_comm (P Q : Py) : ovl P Q = ovl Q P := by unfold ovl; exact Bool.and_comm _ _
theorem crs_mv {ax ay bx by' cx cy dx dy : Int32} : crs (ax + dx) (ay + dy) (bx + dx) (by' + dy) (cx + dx) (cy + dy) = crs ax ay bx by' cx cy := by unfold crs; grind
theorem crs_tn {ax ay bx by' cx cy u v : Int32} : crs (u - ay) (v + ax) (u - by') (v + bx) (u - cy) (v + cx) = crs ax ay bx by' cx cy := by unfold crs; grind
theorem pC_mv {P : Py} {k j : Nat} {dx dy : Int32} : pC (mvP P dx dy) k (mvP P dx dy) j = pC P k P j := crs_mv
theorem pC_tn {P : Py} {k j : Nat} : pC (tnP P) k (tnP P) j = pC P k P j := by
  show crs (pL P + pT P - P.2.2 k) (pB P + P.2.1 k - pL P) (pL P + pT P - P.2.2 (nx P.1 k)) (pB P + P.2.1 (nx P.1 k) - pL P) (pL P + pT P - P.2.2 j) (pB P + P.2.1 j - pL P) = _
  have e : ∀ z : Int32, pB P + z - pL P = (pB P - pL P) + z := fun z => by grind
  rw [e, e, e]
  exact crs_tn
theorem Cvx.mv {P : Py} {dx dy : Int32} (h : Cvx P) : Cvx (mvP P dx dy) := fun k j hk hj h1 h2 => by rw [pC_mv]; exact h k j hk hj h1 h2
theorem Cvx.tn {P : Py} (h : Cvx P) : Cvx (tnP P) := fun k j hk hj h1 h2 => by rw [pC_tn]; exact h k j hk hj h1 h2
theorem Cvx.mvN {P : Py} {d : Nat} (h : Cvx P) : ∀ t, Cvx (mvN P d t) := by
  intro t
  induction t with
  | zero => exact h
  | succ t ih => exact ih.mv
theorem OkP.set {s : St} {k : Nat} {P : Py} (h : OkP s) (hc : Cvx P) (h3 : 3 ≤ P.1) (hk : k < s.1) (h8 : s.1 ≤ 8) (ho : okS s P k = true) : OkP (setS s k P) := by
  obtain ⟨hW, hC, hP⟩ := h
  have ho2 := (Bool.and_eq_true _ _).mp ho
  have hb : InB P s.2.1 s.2.2.1 := (beyond_iff (by omega)).mp (of_decide_eq_true ho2.1)
  have hv := (bsT_eq0 h8).mp (of_decide_eq_true ho2.2)
  have hov : ∀ j, j < s.1 → j ≠ k → ovl P (s.2.2.2 j) = false := by
    intro j hj hne
    have h1 := hv j hj
    unfold ovF at h1
    rw [decide_eq_true (show ¬ nI j = nI k from fun z => hne ((nI_eq (by omega) (by omega)).mp z)), Bool.true_and] at h1
    exact h1
  refine ⟨setS_wf hW ⟨h3, hb⟩, fun j hj => ?_, fun i j hi hj hne => ?_⟩
  · have hj2 : j < s.1 := hj
    show Cvx (if j = k then P else s.2.2.2 j)
    by_cases q : j = k
    · rw [if_pos q]; exact hc
    · rw [if_neg q]; exact hC j hj2
  · have hi2 : i < s.1 := hi
    have hj2 : j < s.1 := hj
    show ovl (if i = k then P else s.2.2.2 i) (if j = k then P else s.2.2.2 j) = false
    by_cases q : i = k
    · rw [if_pos q, if_neg (by omega)]; exact hov j hj2 (by omega)
    · rw [if_neg q]
      by_cases q2 : j = k
      · rw [if_pos q2, ovl_comm]; exact hov i hi2 (by omega)
      · rw [if_neg q2]; exact hP i j hi2 hj2 hne
theorem OkP.out {s : St} {k : Nat} (h : OkP s) (hk : k < s.1) : OkP (outS s k) := by
  obtain ⟨hW, hC, hP⟩ := h
  refine ⟨outS_wf hW hk, fun j hj => ?_, fun i j hi hj hne => ?_⟩
  · have hj2 : j < s.1 - 1 := hj
    show Cvx (if j < k then s.2.2.2 j else s.2.2.2 (j + 1))
    split
    · exact hC j (by omega)
    · exact hC (j + 1) (by omega)
  · have hi2 : i < s.1 - 1 := hi
    have hj2 : j < s.1 - 1 := hj
    show ovl (if i < k then s.2.2.2 i else s.2.2.2 (i + 1)) (if j < k then s.2.2.2 j else s.2.2.2 (j + 1)) = false
    split
    · split
      · exact hP i j (by omega) (by omega) hne
      · exact hP i (j + 1) (by omega) (by omega) (by omega)
    · split
      · exact hP (i + 1) j (by omega) (by omega) (by omega)
      · exact hP (i + 1) (j + 1) (by omega) (by omega) (by omega)
theorem OkP.add {s : St} {P : Py} (h : OkP s) (h8 : s.1 ≤ 8) (hc : Cvx P) (hw : WfB P s.2.1 s.2.2.1) (ho : ovS s P (-1) = 0) : OkP (addS s P) := by
  obtain ⟨hW, hC, hP⟩ := h
  have hv := (bsT_eq0 h8).mp ho
  have hov : ∀ j, j < s.1 → ovl P (s.2.2.2 j) = false := by
    intro j hj
    have h1 := hv j hj
    unfold ovF at h1
    rw [decide_eq_true (nI_ne1 (n := j) (by omega)), Bool.true_and] at h1
    exact h1
  refine ⟨⟨hW.1, fun j hj => ?_⟩, fun j hj => ?_, fun i j hi hj hne => ?_⟩
  · have hj2 : j < s.1 + 1 := hj
    show WfB (if j = s.1 then P else s.2.2.2 j) s.2.1 s.2.2.1
    by_cases q : j = s.1
    · rw [if_pos q]; exact hw
    · rw [if_neg q]; exact hW.2 j (by omega)
  · have hj2 : j < s.1 + 1 := hj
    show Cvx (if j = s.1 then P else s.2.2.2 j)
    by_cases q : j = s.1
    · rw [if_pos q]; exact hc
    · rw [if_neg q]; exact hC j (by omega)
  · have hi2 : i < s.1 + 1 := hi
    have hj2 : j < s.1 + 1 := hj
    show ovl (if i = s.1 then P else s.2.2.2 i) (if j = s.1 then P else s.2.2.2 j) = false
    by_cases q : i = s.1
    · rw [if_pos q, if_neg (by omega)]; exact hov j (by omega)
    · rw [if_neg q]
      by_cases q2 : j = s.1
      · rw [if_pos q2, ovl_comm]; exact hov i (by omega)
      · rw [if_neg q2]; exact hP i j (by omega) (by omega) hne
theorem OkP.slide {s : St} {k d most : Nat} (h : OkP s) (hk : k < s.1) (h8 : s.1 ≤ 8) : OkP (setS s k (shP (s.2.2.2 k) d (fsN s k d most))) := by
  rw [← mvN_sh]
  have h1 := fsN_ok (s := s) (k := k) (d := d) (most := most)
  generalize fsN s k d most = t at h1 ⊢
  cases t with
  | zero =>
    show OkP (setS s k (s.2.2.2 k))
    rw [setS_id]; exact h
  | succ t =>
    have h2 := anT_false.mp h1 t (Nat.lt_succ_self t)
    have h3 : okS s (mvN (s.2.2.2 k) d (t + 1)) k = true := by
      unfold fkF at h2
      cases hq : okS s (mvN (s.2.2.2 k) d (t + 1)) k with
      | true => rfl
      | false => rw [hq] at h2; cases h2
    have h4 := (h.1.2 k hk).1
    exact h.set ((h.2.1 k hk).mvN _) (by rw [mvN_n]; exact h4) hk h8 h3
theorem OkP.round {s : St} {d : Nat} (h : OkP s) (h8 : s.1 ≤ 8) : ∀ k, k ≤ s.1 → OkP (rdS s d k).1 := by
  intro k
  induction k with
  | zero => intro _; exact h
  | succ k ih =>
    intro hk
    have h1 := rdS_1 s d k
    exact (ih (by omega)).slide (by rw [h1.1]; omega) (by rw [h1.1]; exact h8)
theorem OkP.settle {d : Nat} : ∀ r (s : St) (a : Nat), OkP s → s.1 ≤ 8 → OkP (seS d r s a).1 := by
  intro r
  induction r with
  | zero => intro s a h _; exact h
  | succ r ih =>
    intro s a h h8
    simp only [seS]
    split
    · exact h.round h8 s.1 (Nat.le_refl _)
    · exact ih _ _ (h.round h8 s.1 (Nat.le_refl _)) (by rw [(rdS_1 s d s.1).1]; exact h8)
theorem OkY.push {σ : Sy} {s' : St} (hO : OkY σ) (hs : OkP s') : OkY (pushY σ s') := by
  refine ⟨hs, fun a ha => ?_, hO.2.2⟩
  have ha2 : a < puN σ.2.1 := ha
  show OkP (puH σ.2.1 σ.2.2.1 σ.1 a)
  unfold puN at ha2
  unfold puH
  by_cases q : σ.2.1 = 4
  · rw [if_pos q]
    by_cases q2 : a < 3
    · rw [if_pos q2]; exact hO.2.1 (a + 1) (by omega)
    · rw [if_neg q2]; exact hO.1
  · rw [if_neg q]
    by_cases q2 : a < σ.2.1
    · rw [if_pos q2]; exact hO.2.1 a q2
    · rw [if_neg q2]; exact hO.1
theorem isSz_bd {w : Int32} (h : isSz w = true) : 10 ≤ w.toInt ∧ w.toInt ≤ 60 := by
  unfold isSz at h
  by_cases h1 : w < 10
  · rw [if_pos h1] at h; cases h
  · rw [if_neg h1] at h
    by_cases h2 : 60 < w
    · rw [if_pos h2] at h; cases h
    · rw [Int32.not_lt, i32_le, show (10 : Int32).toInt = 10 by decide] at h1
      rw [Int32.not_lt, i32_le, show (60 : Int32).toInt = 60 by decide] at h2
      exact ⟨h1, h2⟩
theorem box_ok {σ : Sy} {w h : Int32} (hO : OkY σ) : OkY (boxY σ w h).2 := by
  unfold boxY
  by_cases h1 : isSz w = true ∧ isSz h = true
  · rw [if_pos h1]
    by_cases h2 : fitS σ.1 w h = true
    · rw [if_pos h2]
      refine hO.push ⟨⟨⟨isSz_bd h1.1, isSz_bd h1.2⟩, fun k hk => ?_⟩, hO.1.2.1, hO.1.2.2⟩
      have hk2 : k < σ.1.1 := hk
      have h3 := (hO.1.1.2 k hk2).1
      refine ⟨h3, (beyond_iff (P := σ.1.2.2.2 k) (by omega)).mp ?_⟩
      apply Classical.byContradiction
      intro q
      exact fit_no hk2 q h2
    · rw [if_neg h2]; exact hO
  · rw [if_neg h1]; exact hO
theorem rem_ok {σ : Sy} {v : Int32} (hO : OkY σ) (h8 : σ.1.1 ≤ 8) : OkY (remY σ v).2 := by
  unfold remY
  by_cases h1 : hasB σ.1.1 v = true
  · rw [if_pos h1]; exact hO.push (hO.1.out (hasB_cl (by omega) h1).1)
  · rw [if_neg h1]; exact hO
theorem emp_ok {σ : Sy} (hO : OkY σ) : OkY (empY σ).2 := hO.push ⟨⟨hO.1.1.1, fun k hk => absurd hk (Nat.not_lt_zero _)⟩, fun k hk => absurd hk (Nat.not_lt_zero _), fun i j hi => absurd hi (Nat.not_lt_zero _)⟩
theorem sli_ok {σ : Sy} {v d m : Int32} (hO : OkY σ) (h8 : σ.1.1 ≤ 8) : OkY (sliY σ v d m).2 := by
  unfold sliY
  by_cases h1 : hasB σ.1.1 v = true ∧ isDir d = true ∧ 1 ≤ m ∧ m ≤ 60
  · rw [if_pos h1]
    split
    · exact hO
    · exact hO.push (hO.1.slide (hasB_cl (by omega) h1.1).1 h8)
  · rw [if_neg h1]; exact hO
theorem tur_ok {σ : Sy} {v : Int32} (hO : OkY σ) (h8 : σ.1.1 ≤ 8) : OkY (turY σ v).2 := by
  unfold turY
  by_cases h1 : hasB σ.1.1 v = true
  · rw [if_pos h1]
    have hk := (hasB_cl (by omega) h1).1
    split
    next h2 => exact hO.push (hO.1.set (hO.1.2.1 _ hk).tn (hO.1.1.2 _ hk).1 hk h8 h2)
    · exact hO
  · rw [if_neg h1]; exact hO
theorem set_ok {σ : Sy} {d : Int32} (hO : OkY σ) (h8 : σ.1.1 ≤ 8) : OkY (setY σ d).2 := by
  unfold setY
  split
  · exact hO.push (OkP.settle _ _ _ hO.1 h8)
  · exact hO
theorem und_ok {σ : Sy} (hO : OkY σ) : OkY (undY σ).2 := by
  unfold undY
  by_cases h1 : σ.2.1 = 0
  · rw [if_pos h1]; exact hO
  · rw [if_neg h1]
    exact ⟨hO.2.1 (σ.2.1 - 1) (by omega), fun a ha => hO.2.1 a (by have ha2 : a < σ.2.1 - 1 := ha; omega), hO.2.2⟩
theorem typ_ok {σ : Sy} {v : Int32} (hO : OkY σ) : OkY (typY σ v).2 := by
  unfold typY
  by_cases h1 : 32 ≤ v ∧ v ≤ 126
  · rw [if_pos h1]
    by_cases h2 : σ.2.2.2.1 < 60
    · rw [if_pos h2]
      refine ⟨hO.1, hO.2.1, by show σ.2.2.2.1 + 1 ≤ 60; omega, fun j hj => ?_⟩
      have hj2 : j < σ.2.2.2.1 + 1 := hj
      show ∃ q : Nat, 32 ≤ q ∧ q ≤ 126 ∧ (if j = σ.2.2.2.1 then v else σ.2.2.2.2 j) = nI q
      by_cases q : j = σ.2.2.2.1
      · rw [if_pos q]; exact chr_k (Int32.not_lt.mpr h1.1) h1.2
      · rw [if_neg q]; exact hO.2.2.2 j (by omega)
    · rw [if_neg h2]; exact hO
  · rw [if_neg h1]; exact hO
theorem cle_ok {σ : Sy} (hO : OkY σ) : OkY (cleY σ).2 := ⟨hO.1, hO.2.1, Nat.zero_le _, fun j hj => absurd hj (Nat.not_lt_zero _)⟩
/-- put, if what has no fault is convex -/
theorem put_ok {σ : Sy} (hO : OkY σ) (h8 : σ.1.1 ≤ 8) (hc : ∀ P : Py, Smal P → P.1 ≤ 6 → pShape P < 0 → Cvx P) : OkY (putY σ).2 := by
  unfold putY
  by_cases h1 : (fltT σ.2.2.2 σ.1).2.1 = 0
  · rw [if_pos h1]
    split
    · refine hO.push ?_
      unfold fltT at h1
      split at h1
      · exact absurd h1 (show ¬ (1 : Int32) = 0 by decide)
      next hf =>
        have hf2 : (formT σ.2.2.2).1 = true := by
          cases hq : (formT σ.2.2.2).1 with
          | true => rfl
          | false => exact absurd hq hf
        split at h1
        · exact absurd h1 (by show ¬ (2 : Int32) = 0; decide)
        next ho =>
          have hw := polyT_wf hf2 ho
          split at h1
          next hs =>
            split at h1
            next hv => exact hO.1.add h8 (hc _ (hw.smal hO.1.1.1) (formT_ok hf2).2.1 hs) hw hv
            · exact absurd h1 (by show ¬ (4 : Int32) = 0; decide)
          · exact absurd h1 (by show ¬ (3 : Int32) = 0; decide)
    · exact hO
  · rw [if_neg h1]; exact hO
