set_option maxHeartbeats 4000000 in
set_option maxRecDepth 100000 in
theorem c_X3_has (l : Launch) (G : Gw) (M : Mem) (p : Nat) (s : St) (hp : kd p = 3) (hs : Pk M p s) (v : Int32) : Cp l G yX3_has wsX3_has 0 0 [.ref (G.2.2.1 p), .int v] M (bi (hasB s.1 v)) := by
  refine Ci.of (cc := cX3_has) (maxL := 2) (ret := (some .boolean)) (by decide +kernel) rfl (Nat.le_of_ble_eq_true rfl) ?_
  intro x sz hl0 hr C
  subst hl0
  have C : CX x G (AA G sz) RX3 cX3_has 2 wsX3_has 0 0 0 0 := C
  have hret : ∀ (M0 : Mem) (pc0 : Nat) (L0 : List (Nat × Value)) (rv0 : Int32), narrow .boolean (.int rv0) = .int rv0 → decode cX3_has pc0 = .ok (.ireturn, 1) → (fun (r : Int32) (M' : Mem) => r = bi (hasB s.1 v) ∧ M' = M) rv0 M0 → WL x G (AA G sz) 2 0 0 (xQ x (va_Qi (fun (r : Int32) (M' : Mem) => r = bi (hasB s.1 v) ∧ M' = M) (WE G) (AA G sz)) (AA G sz)) M0 pc0 L0 [.int rv0] := fun M0 pc0 L0 rv0 hn hd hp => wl_zret (post := (fun (r : Int32) (M' : Mem) => r = bi (hasB s.1 v) ∧ M' = M)) C hr hn hd hp
  show WL x G (AA G sz) 2 0 0 (xQ x (va_Qi (fun (r : Int32) (M' : Mem) => r = bi (hasB s.1 v) ∧ M' = M) (WE G) (AA G sz)) (AA G sz)) M 0 [(0, .ref (G.2.2.1 p)), (1, .int v)] []
  generalize (xQ x (va_Qi (fun (r : Int32) (M' : Mem) => r = bi (hasB s.1 v) ∧ M' = M) (WE G) (AA G sz)) (AA G sz)) = QQ at hret ⊢
  have in3 : ∀ w ∈ wsX30, w ∈ wsX3_has := by decide +kernel
  have fl25 : Jvm.Cond.fieldLink RX3 25 "JammedBodies$Packing" "size" "I" ∈ wsX3_has := by decide +kernel
  refine wl_iload_n C 1 dX3_has_0 rfl rfl ?_
  refine wl_if_lt C 16 dX3_has_1 (by decide) (fun c_1 => ?_) (fun c_1 => ?_)
  · refine wl_iconst (v := 0) C dX3_has_16 (by decide) ?_
    exact hret _ 17 _ 0 (rfl) dX3_has_17 (⟨by simp [hasB, bi, *], rfl⟩)
  · refine wl_iload_n C 1 dX3_has_4 rfl rfl ?_
    refine wl_aload_n C 0 dX3_has_5 rfl rfl ?_
    refine wl_get_Packing_size (i := p) (v := nI s.1) C hp in3 fl25 hs.1 dX3_has_6 ?_
    refine wl_icmp_ge C 16 dX3_has_9 (by decide) (fun c_9 => ?_) (fun c_9 => ?_)
    · refine wl_iconst (v := 0) C dX3_has_16 (by decide) ?_
      exact hret _ 17 _ 0 (rfl) dX3_has_17 (⟨by simp [hasB, bi, *], rfl⟩)
    · refine wl_iconst (v := 1) C dX3_has_12 (by decide) ?_
      refine wl_goto C 17 dX3_has_13 (by decide) ?_
      exact hret _ 17 _ 1 (rfl) dX3_has_17 (⟨by simp [hasB, bi, *], rfl⟩)
set_option maxHeartbeats 4000000 in
set_option maxRecDepth 100000 in
theorem c_X3_at (l : Launch) (G : Gw) (M : Mem) (p k : Nat) (hp : kd p = 3) (hk : k < 8) : Ca l G yX3_at wsX3_at 0 0 [.ref (G.2.2.1 p), .int (nI k)] M (bo p k) := by
  refine Cr.of (cc := cX3_at) (maxL := 2) (ret := (some (.object "JammedBodies$Body"))) (by decide +kernel) rfl (Nat.le_of_ble_eq_true rfl) ?_
  intro x sz hl0 hr C
  subst hl0
  have C : CX x G (AA G sz) RX3 cX3_at 2 wsX3_at 0 0 0 0 := C
  have hret : ∀ (M0 : Mem) (pc0 : Nat) (L0 : List (Nat × Value)) (ri0 : Nat), decode cX3_at pc0 = .ok (.areturn, 1) → (fun (r : Nat) (M' : Mem) => r = bo p k ∧ M' = M) ri0 M0 → WL x G (AA G sz) 2 0 0 (xQ x (va_Qr (fun u : Nat × Mem => (fun (r : Nat) (M' : Mem) => r = bo p k ∧ M' = M) u.1 u.2) (fun u a t => a = G.2.2.1 u.1 ∧ WE G u.2 t) (AA G sz)) (AA G sz)) M0 pc0 L0 [.ref (G.2.2.1 ri0)] := fun M0 pc0 L0 ri0 hd hp => wl_aret (post := (fun (r : Nat) (M' : Mem) => r = bo p k ∧ M' = M)) C hr hd hp
  show WL x G (AA G sz) 2 0 0 (xQ x (va_Qr (fun u : Nat × Mem => (fun (r : Nat) (M' : Mem) => r = bo p k ∧ M' = M) u.1 u.2) (fun u a t => a = G.2.2.1 u.1 ∧ WE G u.2 t) (AA G sz)) (AA G sz)) M 0 [(0, .ref (G.2.2.1 p)), (1, .int (nI k))] []
  generalize (xQ x (va_Qr (fun u : Nat × Mem => (fun (r : Nat) (M' : Mem) => r = bo p k ∧ M' = M) u.1 u.2) (fun u a t => a = G.2.2.1 u.1 ∧ WE G u.2 t) (AA G sz)) (AA G sz)) = QQ at hret ⊢
  have in3 : ∀ w ∈ wsX30, w ∈ wsX3_at := by decide +kernel
  have fl11 : Jvm.Cond.fieldLink RX3 11 "JammedBodies$Packing" "row" "[LJammedBodies$Body;" ∈ wsX3_at := by decide +kernel
  refine wl_iload_n C 1 dX3_at_0 rfl rfl ?_
  refine wl_if_lt C 22 dX3_at_1 (by decide) (fun c_1 => absurd c_1 (nI_pos (by omega))) (fun c_1 => ?_)
  refine wl_iload_n C 1 dX3_at_4 rfl rfl ?_
  refine wl_aload_n C 0 dX3_at_5 rfl rfl ?_
  refine wl_get_Packing_row (i := p) C hp in3 fl11 dX3_at_6 ?_
  refine wl_alenB (i := p + 1) C (kd_row hp) dX3_at_9 ?_
  refine wl_eqi (b := nI 8) (rfl) ?_
  refine wl_icmp_geN C (a := k) (b := 8) (by omega) (by omega) 22 dX3_at_10 (by decide) (fun c_10 => absurd c_10 (by omega)) (fun c_10 => ?_)
  refine wl_aload_n C 0 dX3_at_13 rfl rfl ?_
  refine wl_get_Packing_row (i := p) C hp in3 fl11 dX3_at_14 ?_
  refine wl_iload_n C 1 dX3_at_17 rfl rfl ?_
  refine wl_aaldB (j := k) C (kd_row hp) (rfl) (hk) dX3_at_18 ?_
  refine wl_ifnonnull C 27 dX3_at_19 (by decide) ?_
  refine wl_aload_n C 0 dX3_at_27 rfl rfl ?_
  refine wl_get_Packing_row (i := p) C hp in3 fl11 dX3_at_28 ?_
  refine wl_iload_n C 1 dX3_at_31 rfl rfl ?_
  refine wl_aaldB (j := k) C (kd_row hp) (rfl) (hk) dX3_at_32 ?_
  exact hret _ 33 _ (bo p k) dX3_at_33 (⟨rfl, rfl⟩)
set_option maxHeartbeats 4000000 in
set_option maxRecDepth 100000 in
theorem c_X3_copyFrom (l : Launch) (G : Gw) (M : Mem) (p q : Nat) (s : St) (hp : kd p = 3) (hq : kd q = 3) (hs : Pk M q s) (hpq : p + 32 ≤ q ∨ q + 32 ≤ p) : Cv l G yX3_copyFrom wsX3_copyFrom 2 45 [.ref (G.2.2.1 p), .ref (G.2.2.1 q)] M (fun M' => Pk M' p s ∧ FrP p M M') := by
  refine Cv.of (cc := cX3_copyFrom) (maxL := 3) (ret := none) (by decide +kernel) rfl (Nat.le_of_ble_eq_true rfl) ?_
  intro x sz hl0 hr C
  subst hl0
  have C : CX x G (AA G sz) RX3 cX3_copyFrom 3 wsX3_copyFrom 2 45 0 0 := C
  have hret : ∀ (M0 : Mem) (pc0 : Nat) (L0 : List (Nat × Value)), decode cX3_copyFrom pc0 = .ok (.return_, 1) → (fun M' => Pk M' p s ∧ FrP p M M') M0 → WL x G (AA G sz) 3 0 0 (xQ x (va_Qv (fun M' => Pk M' p s ∧ FrP p M M') (WE G) (AA G sz)) (AA G sz)) M0 pc0 L0 [] := fun M0 pc0 L0 hd hp => wl_vret (post := (fun M' => Pk M' p s ∧ FrP p M M')) C hr hd hp
  show WL x G (AA G sz) 3 0 0 (xQ x (va_Qv (fun M' => Pk M' p s ∧ FrP p M M') (WE G) (AA G sz)) (AA G sz)) M 0 [(0, .ref (G.2.2.1 p)), (1, .ref (G.2.2.1 q))] []
  generalize (xQ x (va_Qv (fun M' => Pk M' p s ∧ FrP p M M') (WE G) (AA G sz)) (AA G sz)) = QQ at hret ⊢
  have in3 : ∀ w ∈ wsX30, w ∈ wsX3_copyFrom := by decide +kernel
  have fl25 : Jvm.Cond.fieldLink RX3 25 "JammedBodies$Packing" "size" "I" ∈ wsX3_copyFrom := by decide +kernel
  have fl29 : Jvm.Cond.fieldLink RX3 29 "JammedBodies$Packing" "width" "I" ∈ wsX3_copyFrom := by decide +kernel
  have fl32 : Jvm.Cond.fieldLink RX3 32 "JammedBodies$Packing" "height" "I" ∈ wsX3_copyFrom := by decide +kernel
  have h8 := hs.2.2.2.1
  refine wl_aload_n C 0 dX3_copyFrom_0 rfl rfl ?_
  refine wl_aload_n C 1 dX3_copyFrom_1 rfl rfl ?_
  refine wl_get_Packing_size (i := q) (v := nI s.1) C hq in3 fl25 hs.1 dX3_copyFrom_2 ?_
  refine wl_put_Packing_size (i := p) C hp in3 fl25 dX3_copyFrom_5 ?_
  obtain ⟨M1, eM1⟩ : ∃ z : Mem, z = (mset M p 3 (nI s.1)) := ⟨_, rfl⟩
  rw [← eM1]
  have f1 : FrP p M M1 := fun i hi => by rw [eM1]; exact mset_off i (by omega)
  have a1 : M1 p 3 = nI s.1 := by rw [eM1]; exact mset_self _ _ _ _
  have s1 : Pk M1 q s := hs.frP f1 (by omega)
  refine wl_aload_n C 0 dX3_copyFrom_8 rfl rfl ?_
  refine wl_aload_n C 1 dX3_copyFrom_9 rfl rfl ?_
  refine wl_get_Packing_width (i := q) (v := s.2.1) C hq in3 fl29 s1.2.1 dX3_copyFrom_10 ?_
  refine wl_put_Packing_width (i := p) C hp in3 fl29 dX3_copyFrom_13 ?_
  obtain ⟨M3, eM3⟩ : ∃ z : Mem, z = (mset M1 p 4 s.2.1) := ⟨_, rfl⟩
  rw [← eM3]
  have f3 : FrP p M M3 := f1.tr (fun i hi => by rw [eM3]; exact mset_off i (by omega))
  have a3 : M3 p 3 = nI s.1 := by rw [eM3, mset_ne (by omega)]; exact a1
  have b3 : M3 p 4 = s.2.1 := by rw [eM3]; exact mset_self _ _ _ _
  have s3 : Pk M3 q s := hs.frP f3 (by omega)
  refine wl_aload_n C 0 dX3_copyFrom_16 rfl rfl ?_
  refine wl_aload_n C 1 dX3_copyFrom_17 rfl rfl ?_
  refine wl_get_Packing_height (i := q) (v := s.2.2.1) C hq in3 fl32 s3.2.2.1 dX3_copyFrom_18 ?_
  refine wl_put_Packing_height (i := p) C hp in3 fl32 dX3_copyFrom_21 ?_
  obtain ⟨M4, eM4⟩ : ∃ z : Mem, z = (mset M3 p 5 s.2.2.1) := ⟨_, rfl⟩
  rw [← eM4]
  have f4 : FrP p M M4 := f3.tr (fun i hi => by rw [eM4]; exact mset_off i (by omega))
  have a4 : M4 p 3 = nI s.1 := by rw [eM4, mset_ne (by omega)]; exact a3
  have b4 : M4 p 4 = s.2.1 := by rw [eM4, mset_ne (by omega)]; exact b3
  have c4 : M4 p 5 = s.2.2.1 := by rw [eM4]; exact mset_self _ _ _ _
  refine wl_iconst (v := nI 0) C dX3_copyFrom_24 (by first | decide | rfl) ?_
  refine wl_istore_n (L' := [(2, .int (nI 0)), (0, .ref (G.2.2.1 p)), (1, .ref (G.2.2.1 q))]) C dX3_copyFrom_25 rfl (by decide) rfl ?_
  have h26 : ∀ k, k ≤ s.1 → ∀ M2 : Mem, M2 p 3 = nI s.1 ∧ M2 p 4 = s.2.1 ∧ M2 p 5 = s.2.2.1 ∧ (∀ j, j < k → Bd M2 (bo p j) (s.2.2.2 j)) ∧ FrP p M M2 → WL x G (AA G sz) 3 0 0 QQ M2 26 [(0, .ref (G.2.2.1 p)), (1, .ref (G.2.2.1 q)), (2, .int (nI k))] [] := by
    refine up_loop s.1 _ ?_
    intro k hk ih M2 hI
    have hQ2 : Pk M2 q s := hs.frP hI.2.2.2.2 (by omega)
    refine wl_iload_n C 2 dX3_copyFrom_26 rfl rfl ?_
    refine wl_aload_n C 0 dX3_copyFrom_27 rfl rfl ?_
    refine wl_get_Packing_size (i := p) (v := nI s.1) C hp in3 fl25 hI.1 dX3_copyFrom_28 ?_
    refine wl_icmp_geN C (a := k) (b := s.1) (by omega) (by omega) 53 dX3_copyFrom_31 (by decide) (fun c_31 => ?_) (fun c_31 => ?_)
    · exact hret _ 53 _ dX3_copyFrom_53 (⟨⟨hI.1, hI.2.1, hI.2.2.1, h8, fun j hj => hI.2.2.2.1 j (by omega)⟩, hI.2.2.2.2⟩)
    · refine wl_aload_n C 0 dX3_copyFrom_34 rfl rfl ?_
      refine wl_iload_n C 2 dX3_copyFrom_35 rfl rfl ?_
      refine wl_callVa (i := p) (n := 1) C [.int (nI k)] [] (c_X3_at _ G M2 p k hp (by omega)) gX3_copyFrom_X3_at rfl (by decide +kernel) (by decide) (by decide) (kd_lt hp (by decide)) (cell_k hp) rfl rfl rfl (Nat.le_of_ble_eq_true rfl) dX3_copyFrom_36 ?_
      refine wl_aload_n C 1 dX3_copyFrom_39 rfl rfl ?_
      refine wl_iload_n C 2 dX3_copyFrom_40 rfl rfl ?_
      refine wl_callVa (i := q) (n := 1) C [.int (nI k)] [.ref (G.2.2.1 (bo p k))] (c_X3_at _ G M2 q k hq (by omega)) gX3_copyFrom_X3_at rfl (by decide +kernel) (by decide) (by decide) (kd_lt hq (by decide)) (cell_k hq) rfl rfl rfl (Nat.le_of_ble_eq_true rfl) dX3_copyFrom_41 ?_
      refine wl_callVv (i := bo p k) (n := 1) C [.ref (G.2.2.1 (bo q k))] [] (c_X0_copyFrom _ G M2 (bo p k) (bo q k) (s.2.2.2 k) 0 (kd_bo hp (by omega)) (kd_bo hq (by omega)) (hQ2.2.2.2.2 k (by omega)) (by unfold bo; omega)) gX3_copyFrom_X0_copyFrom rfl (by decide +kernel) (by decide) (by decide) (kd_lt (kd_bo hp (by omega)) (by decide)) (cell_k (kd_bo hp (by omega))) rfl rfl rfl (Nat.le_of_ble_eq_true rfl) dX3_copyFrom_44 (fun M5 e5 => ?_)
      refine wl_iinc1 (k := k) (L' := [(2, .int (nI (k + 1))), (0, .ref (G.2.2.1 p)), (1, .ref (G.2.2.1 q))]) C 2 dX3_copyFrom_47 rfl (by decide) rfl ?_
      refine wl_goto C 26 dX3_copyFrom_50 (by decide) ?_
      refine wl_sub (L' := [(0, .ref (G.2.2.1 p)), (1, .ref (G.2.2.1 q)), (2, .int (nI (k + 1)))]) [1, 2, 0] rfl ?_
      have hM5 : M5 p = M2 p := e5.2 p (by unfold bo; omega)
      exact ih (by omega) M5 ⟨by rw [hM5]; exact hI.1, by rw [hM5]; exact hI.2.1, by rw [hM5]; exact hI.2.2.1, fun j hj => by
        by_cases q2 : j = k
        · rw [q2]; exact e5.1
        · exact (hI.2.2.2.1 j (by omega)).fr e5.2 (by unfold bo; omega), hI.2.2.2.2.tr (e5.2.P (by omega))⟩
  refine wl_sub (L' := [(0, .ref (G.2.2.1 p)), (1, .ref (G.2.2.1 q)), (2, .int (nI 0))]) [1, 2, 0] rfl ?_
  exact h26 0 (Nat.zero_le _) M4 ⟨a4, b4, c4, fun j hj => absurd hj (Nat.not_lt_zero _), f4⟩
set_option maxHeartbeats 4000000 in
set_option maxRecDepth 100000 in
theorem c_X3_add (l : Launch) (G : Gw) (M : Mem) (p : Nat) (s : St) (hp : kd p = 3) (hs : Pk M p s) (c : Nat) (P : Py) (hc : kd c = 0) (hP : Bd M c P) (h7 : s.1 < 8) (hpc : c + 3 ≤ p ∨ p + 32 ≤ c) : Ci l G yX3_add wsX3_add 2 45 [.ref (G.2.2.1 p), .ref (G.2.2.1 c)] M (fun r M' => r = nI s.1 ∧ Pk M' p (addS s P) ∧ FrP p M M') := by
  refine Ci.of (cc := cX3_add) (maxL := 2) (ret := (some .int)) (by decide +kernel) rfl (Nat.le_of_ble_eq_true rfl) ?_
  intro x sz hl0 hr C
  subst hl0
  have C : CX x G (AA G sz) RX3 cX3_add 2 wsX3_add 2 45 0 0 := C
  have hret : ∀ (M0 : Mem) (pc0 : Nat) (L0 : List (Nat × Value)) (rv0 : Int32), decode cX3_add pc0 = .ok (.ireturn, 1) → (fun r M' => r = nI s.1 ∧ Pk M' p (addS s P) ∧ FrP p M M') rv0 M0 → WL x G (AA G sz) 2 0 0 (xQ x (va_Qi (fun r M' => r = nI s.1 ∧ Pk M' p (addS s P) ∧ FrP p M M') (WE G) (AA G sz)) (AA G sz)) M0 pc0 L0 [.int rv0] := fun M0 pc0 L0 rv0 hd hp => wl_iret (post := (fun r M' => r = nI s.1 ∧ Pk M' p (addS s P) ∧ FrP p M M')) C hr hd hp
  show WL x G (AA G sz) 2 0 0 (xQ x (va_Qi (fun r M' => r = nI s.1 ∧ Pk M' p (addS s P) ∧ FrP p M M') (WE G) (AA G sz)) (AA G sz)) M 0 [(0, .ref (G.2.2.1 p)), (1, .ref (G.2.2.1 c))] []
  generalize (xQ x (va_Qi (fun r M' => r = nI s.1 ∧ Pk M' p (addS s P) ∧ FrP p M M') (WE G) (AA G sz)) (AA G sz)) = QQ at hret ⊢
  have in3 : ∀ w ∈ wsX30, w ∈ wsX3_add := by decide +kernel
  have fl25 : Jvm.Cond.fieldLink RX3 25 "JammedBodies$Packing" "size" "I" ∈ wsX3_add := by decide +kernel
  refine wl_aload_n C 0 dX3_add_0 rfl rfl ?_
  refine wl_aload_n C 0 dX3_add_1 rfl rfl ?_
  refine wl_get_Packing_size (i := p) (v := nI s.1) C hp in3 fl25 hs.1 dX3_add_2 ?_
  refine wl_callVa (i := p) (n := 1) C [.int (nI s.1)] [] (c_X3_at _ G M p s.1 hp (by omega)) gX3_add_X3_at rfl (by decide +kernel) (by decide) (by decide) (kd_lt hp (by decide)) (cell_k hp) rfl rfl rfl (Nat.le_of_ble_eq_true rfl) dX3_add_5 ?_
  refine wl_aload_n C 1 dX3_add_8 rfl rfl ?_
  refine wl_callVv (i := bo p s.1) (n := 1) C [.ref (G.2.2.1 c)] [] (c_X0_copyFrom _ G M (bo p s.1) c P 0 (kd_bo hp (by omega)) hc hP (by unfold bo; omega)) gX3_add_X0_copyFrom rfl (by decide +kernel) (by decide) (by decide) (kd_lt (kd_bo hp (by omega)) (by decide)) (cell_k (kd_bo hp (by omega))) rfl rfl rfl (Nat.le_of_ble_eq_true rfl) dX3_add_9 (fun M1 e1 => ?_)
  have q1 : M1 p = M p := e1.2 p (by unfold bo; omega)
  have h1 : M1 p 3 = nI s.1 := by rw [q1]; exact hs.1
  refine wl_aload_n C 0 dX3_add_12 rfl rfl ?_
  refine wl_dup C dX3_add_13 rfl ?_
  refine wl_get_Packing_size (i := p) (v := nI s.1) C hp in3 fl25 h1 dX3_add_14 ?_
  refine wl_iconst (v := 1) C dX3_add_17 (by decide) ?_
  refine wl_iadd C dX3_add_18 ?_
  refine wl_eqi (b := nI (s.1 + 1)) (nI_1 _) ?_
  refine wl_put_Packing_size (i := p) C hp in3 fl25 dX3_add_19 ?_
  obtain ⟨M3, eM3⟩ : ∃ z : Mem, z = (mset M1 p 3 (nI (s.1 + 1))) := ⟨_, rfl⟩
  rw [← eM3]
  have h3 : M3 p 3 = nI (s.1 + 1) := by rw [eM3]; exact mset_self _ _ _ _
  refine wl_aload_n C 0 dX3_add_22 rfl rfl ?_
  refine wl_get_Packing_size (i := p) (v := nI (s.1 + 1)) C hp in3 fl25 h3 dX3_add_23 ?_
  refine wl_iconst (v := 1) C dX3_add_26 (by decide) ?_
  refine wl_isub C dX3_add_27 ?_
  refine wl_eqi (b := nI s.1) (nI_pred _) ?_
  exact hret _ 28 _ (nI s.1) dX3_add_28 (⟨rfl, ⟨h3, by rw [eM3, mset_ne (by omega), q1]; exact hs.2.1, by rw [eM3, mset_ne (by omega), q1]; exact hs.2.2.1, h7, fun j hj => by
    have f3 : Bd M1 (bo p j) ((addS s P).2.2.2 j) := by
      show Bd M1 (bo p j) (if j = s.1 then P else s.2.2.2 j)
      by_cases q2 : j = s.1
      · rw [if_pos q2, q2]; exact e1.1
      · rw [if_neg q2]; exact (hs.2.2.2.2 j (by have : j < s.1 + 1 := hj; omega)).fr e1.2 (by unfold bo; omega)
    obtain ⟨g1, g2, g3, g4⟩ := f3
    exact ⟨by rw [eM3, mset_ne (by unfold bo; omega)]; exact g1, g2, fun i hi => by rw [eM3, mset_ne (by unfold bo; omega)]; exact g3 i hi, fun i hi => by rw [eM3, mset_ne (by unfold bo; omega)]; exact g4 i hi⟩⟩, (e1.2.P (by omega)).tr (fun i hi => by rw [eM3]; exact mset_off i (by omega))⟩)
set_option maxHeartbeats 4000000 in
set_option maxRecDepth 100000 in
theorem c_X3_takeOut (l : Launch) (G : Gw) (M : Mem) (p : Nat) (s : St) (hp : kd p = 3) (hs : Pk M p s) (k : Nat) (hk : k < s.1) : Cv l G yX3_takeOut wsX3_takeOut 2 45 [.ref (G.2.2.1 p), .int (nI k)] M (fun M' => Pk M' p (outS s k) ∧ FrP p M M') := by
  refine Cv.of (cc := cX3_takeOut) (maxL := 3) (ret := none) (by decide +kernel) rfl (Nat.le_of_ble_eq_true rfl) ?_
  intro x sz hl0 hr C
  subst hl0
  have C : CX x G (AA G sz) RX3 cX3_takeOut 3 wsX3_takeOut 2 45 0 0 := C
  have hret : ∀ (M0 : Mem) (pc0 : Nat) (L0 : List (Nat × Value)), decode cX3_takeOut pc0 = .ok (.return_, 1) → (fun M' => Pk M' p (outS s k) ∧ FrP p M M') M0 → WL x G (AA G sz) 3 0 0 (xQ x (va_Qv (fun M' => Pk M' p (outS s k) ∧ FrP p M M') (WE G) (AA G sz)) (AA G sz)) M0 pc0 L0 [] := fun M0 pc0 L0 hd hp => wl_vret (post := (fun M' => Pk M' p (outS s k) ∧ FrP p M M')) C hr hd hp
  show WL x G (AA G sz) 3 0 0 (xQ x (va_Qv (fun M' => Pk M' p (outS s k) ∧ FrP p M M') (WE G) (AA G sz)) (AA G sz)) M 0 [(0, .ref (G.2.2.1 p)), (1, .int (nI k))] []
  generalize (xQ x (va_Qv (fun M' => Pk M' p (outS s k) ∧ FrP p M M') (WE G) (AA G sz)) (AA G sz)) = QQ at hret ⊢
  have in3 : ∀ w ∈ wsX30, w ∈ wsX3_takeOut := by decide +kernel
  have fl25 : Jvm.Cond.fieldLink RX3 25 "JammedBodies$Packing" "size" "I" ∈ wsX3_takeOut := by decide +kernel
  have h8 := hs.2.2.2.1
  refine wl_iload_n C 1 dX3_takeOut_0 rfl rfl ?_
  refine wl_istore_n (L' := [(2, .int (nI k)), (0, .ref (G.2.2.1 p)), (1, .int (nI k))]) C dX3_takeOut_1 rfl (by decide) rfl ?_
  have h2 : ∀ i, i ≤ s.1 - 1 → k ≤ i → ∀ M2 : Mem, M2 p 3 = nI s.1 ∧ M2 p 4 = s.2.1 ∧ M2 p 5 = s.2.2.1 ∧ (∀ j, j < s.1 → Bd M2 (bo p j) (toF s k i j)) ∧ FrP p M M2 → WL x G (AA G sz) 3 0 0 QQ M2 2 [(0, .ref (G.2.2.1 p)), (1, .int (nI k)), (2, .int (nI i))] [] := by
    refine up_loop (s.1 - 1) _ ?_
    intro i hi ih hki M2 hI
    refine wl_iload_n C 2 dX3_takeOut_2 rfl rfl ?_
    refine wl_iconst (v := 1) C dX3_takeOut_3 (by decide) ?_
    refine wl_iadd C dX3_takeOut_4 ?_
    refine wl_eqi (b := nI (i + 1)) (nI_1 i) ?_
    refine wl_aload_n C 0 dX3_takeOut_5 rfl rfl ?_
    refine wl_get_Packing_size (i := p) (v := nI s.1) C hp in3 fl25 hI.1 dX3_takeOut_6 ?_
    refine wl_icmp_geN C (a := (i + 1)) (b := s.1) (by omega) (by omega) 33 dX3_takeOut_9 (by decide) (fun c_9 => ?_) (fun c_9 => ?_)
    · refine wl_aload_n C 0 dX3_takeOut_33 rfl rfl ?_
      refine wl_dup C dX3_takeOut_34 rfl ?_
      refine wl_get_Packing_size (i := p) (v := nI s.1) C hp in3 fl25 hI.1 dX3_takeOut_35 ?_
      refine wl_iconst (v := 1) C dX3_takeOut_38 (by decide) ?_
      refine wl_isub C dX3_takeOut_39 ?_
      refine wl_eqi (b := nI (s.1 - 1)) (nI_sub1 (by omega)) ?_
      refine wl_put_Packing_size (i := p) C hp in3 fl25 dX3_takeOut_40 ?_
      exact hret _ 43 _ dX3_takeOut_43 (⟨⟨mset_self _ _ _ _, by rw [mset_ne (by omega)]; exact hI.2.1, by rw [mset_ne (by omega)]; exact hI.2.2.1, (by show s.1 - 1 ≤ 8; omega), fun j hj => by
    have hj1 : j < s.1 - 1 := hj
    have f3 := hI.2.2.2.1 j (by omega)
    rw [show i = s.1 - 1 by omega, toF_end (by omega)] at f3
    obtain ⟨g1, g2, g3, g4⟩ := f3
    exact ⟨by rw [mset_ne (by unfold bo; omega)]; exact g1, g2, fun i hi => by rw [mset_ne (by unfold bo; omega)]; exact g3 i hi, fun i hi => by rw [mset_ne (by unfold bo; omega)]; exact g4 i hi⟩⟩, hI.2.2.2.2.tr (fun i hi => mset_off i (by omega))⟩)
    · refine wl_aload_n C 0 dX3_takeOut_12 rfl rfl ?_
      refine wl_iload_n C 2 dX3_takeOut_13 rfl rfl ?_
      refine wl_callVa (i := p) (n := 1) C [.int (nI i)] [] (c_X3_at _ G M2 p i hp (by omega)) gX3_takeOut_X3_at rfl (by decide +kernel) (by decide) (by decide) (kd_lt hp (by decide)) (cell_k hp) rfl rfl rfl (Nat.le_of_ble_eq_true rfl) dX3_takeOut_14 ?_
      refine wl_aload_n C 0 dX3_takeOut_17 rfl rfl ?_
      refine wl_iload_n C 2 dX3_takeOut_18 rfl rfl ?_
      refine wl_iconst (v := 1) C dX3_takeOut_19 (by decide) ?_
      refine wl_iadd C dX3_takeOut_20 ?_
      refine wl_eqi (b := nI (i + 1)) (nI_1 i) ?_
      refine wl_callVa (i := p) (n := 1) C [.int (nI (i + 1))] [.ref (G.2.2.1 (bo p i))] (c_X3_at _ G M2 p (i + 1) hp (by omega)) gX3_takeOut_X3_at rfl (by decide +kernel) (by decide) (by decide) (kd_lt hp (by decide)) (cell_k hp) rfl rfl rfl (Nat.le_of_ble_eq_true rfl) dX3_takeOut_21 ?_
      refine wl_callVv (i := bo p i) (n := 1) C [.ref (G.2.2.1 (bo p (i + 1)))] [] (c_X0_copyFrom _ G M2 (bo p i) (bo p (i + 1)) (s.2.2.2 (i + 1)) 0 (kd_bo hp (by omega)) (kd_bo hp (by omega)) (by have := hI.2.2.2.1 (i + 1) (by omega); rw [toF_hi (by omega)] at this; exact this) (by unfold bo; omega)) gX3_takeOut_X0_copyFrom rfl (by decide +kernel) (by decide) (by decide) (kd_lt (kd_bo hp (by omega)) (by decide)) (cell_k (kd_bo hp (by omega))) rfl rfl rfl (Nat.le_of_ble_eq_true rfl) dX3_takeOut_24 (fun M3 e3 => ?_)
      refine wl_iinc1 (k := i) (L' := [(2, .int (nI (i + 1))), (0, .ref (G.2.2.1 p)), (1, .int (nI k))]) C 2 dX3_takeOut_27 rfl (by decide) rfl ?_
      refine wl_goto C 2 dX3_takeOut_30 (by decide) ?_
      refine wl_sub (L' := [(0, .ref (G.2.2.1 p)), (1, .int (nI k)), (2, .int (nI (i + 1)))]) [1, 2, 0] rfl ?_
      have hM3 : M3 p = M2 p := e3.2 p (by unfold bo; omega)
      exact ih (by omega) (by omega) M3 ⟨by rw [hM3]; exact hI.1, by rw [hM3]; exact hI.2.1, by rw [hM3]; exact hI.2.2.1, fun j hj => by
        by_cases q2 : j = i
        · rw [q2, toF_at hki]; exact e3.1
        · rw [toF_ne q2]; exact (hI.2.2.2.1 j hj).fr e3.2 (by unfold bo; omega), hI.2.2.2.2.tr (e3.2.P (by omega))⟩
  refine wl_sub (L' := [(0, .ref (G.2.2.1 p)), (1, .int (nI k)), (2, .int (nI k))]) [1, 2, 0] rfl ?_
  exact h2 k (by omega) (Nat.le_refl k) M ⟨hs.1, hs.2.1, hs.2.2.1, fun j hj => by rw [toF_0]; exact hs.2.2.2.2 j hj, FrP.rf⟩
set_option maxHeartbeats 4000000 in
set_option maxRecDepth 100000 in
theorem c_X3_fitsInto (l : Launch) (G : Gw) (M : Mem) (p : Nat) (s : St) (hp : kd p = 3) (hs : Pk M p s) (hW : WfS s) (w h : Int32) : Cp l G yX3_fitsInto wsX3_fitsInto 3 66 [.ref (G.2.2.1 p), .int w, .int h] M (bi (fitS s w h)) := by
  refine Ci.of (cc := cX3_fitsInto) (maxL := 4) (ret := (some .boolean)) (by decide +kernel) rfl (Nat.le_of_ble_eq_true rfl) ?_
  intro x sz hl0 hr C
  subst hl0
  have C : CX x G (AA G sz) RX3 cX3_fitsInto 4 wsX3_fitsInto 3 66 0 0 := C
  have hret : ∀ (M0 : Mem) (pc0 : Nat) (L0 : List (Nat × Value)) (rv0 : Int32), narrow .boolean (.int rv0) = .int rv0 → decode cX3_fitsInto pc0 = .ok (.ireturn, 1) → (fun (r : Int32) (M' : Mem) => r = bi (fitS s w h) ∧ M' = M) rv0 M0 → WL x G (AA G sz) 4 0 0 (xQ x (va_Qi (fun (r : Int32) (M' : Mem) => r = bi (fitS s w h) ∧ M' = M) (WE G) (AA G sz)) (AA G sz)) M0 pc0 L0 [.int rv0] := fun M0 pc0 L0 rv0 hn hd hp => wl_zret (post := (fun (r : Int32) (M' : Mem) => r = bi (fitS s w h) ∧ M' = M)) C hr hn hd hp
  show WL x G (AA G sz) 4 0 0 (xQ x (va_Qi (fun (r : Int32) (M' : Mem) => r = bi (fitS s w h) ∧ M' = M) (WE G) (AA G sz)) (AA G sz)) M 0 [(0, .ref (G.2.2.1 p)), (1, .int w), (2, .int h)] []
  generalize (xQ x (va_Qi (fun (r : Int32) (M' : Mem) => r = bi (fitS s w h) ∧ M' = M) (WE G) (AA G sz)) (AA G sz)) = QQ at hret ⊢
  have in3 : ∀ w ∈ wsX30, w ∈ wsX3_fitsInto := by decide +kernel
  have fl25 : Jvm.Cond.fieldLink RX3 25 "JammedBodies$Packing" "size" "I" ∈ wsX3_fitsInto := by decide +kernel
  have h8 := hs.2.2.2.1
  refine wl_iconst (v := nI 0) C dX3_fitsInto_0 (by first | decide | rfl) ?_
  refine wl_istore_n (L' := [(3, .int (nI 0)), (0, .ref (G.2.2.1 p)), (1, .int w), (2, .int h)]) C dX3_fitsInto_1 rfl (by decide) rfl ?_
  have h2 : ∀ k, k ≤ s.1 → anT (fun k => decide (¬ pBeyond (s.2.2.2 k) w h = 0)) k = false → WL x G (AA G sz) 4 0 0 QQ M 2 [(0, .ref (G.2.2.1 p)), (1, .int w), (2, .int h), (3, .int (nI k))] [] := by
    refine up_loop s.1 _ ?_
    intro k hk ih hI
    refine wl_iload_n C 3 dX3_fitsInto_2 rfl rfl ?_
    refine wl_aload_n C 0 dX3_fitsInto_3 rfl rfl ?_
    refine wl_get_Packing_size (i := p) (v := nI s.1) C hp in3 fl25 hs.1 dX3_fitsInto_4 ?_
    refine wl_icmp_geN C (a := k) (b := s.1) (by omega) (by omega) 31 dX3_fitsInto_7 (by decide) (fun c_7 => ?_) (fun c_7 => ?_)
    · refine wl_iconst (v := 1) C dX3_fitsInto_31 (by decide) ?_
      exact hret _ 32 _ 1 (rfl) dX3_fitsInto_32 (⟨(bi_t (by unfold fitS; rw [show s.1 = k by omega, hI]; rfl)).symm, rfl⟩)
    · refine wl_aload_n C 0 dX3_fitsInto_10 rfl rfl ?_
      refine wl_iload_n C 3 dX3_fitsInto_11 rfl rfl ?_
      refine wl_callVa (i := p) (n := 1) C [.int (nI k)] [] (c_X3_at _ G M p k hp (by omega)) gX3_fitsInto_X3_at rfl (by decide +kernel) (by decide) (by decide) (kd_lt hp (by decide)) (cell_k hp) rfl rfl rfl (Nat.le_of_ble_eq_true rfl) dX3_fitsInto_12 ?_
      refine wl_iload_n C 1 dX3_fitsInto_15 rfl rfl ?_
      refine wl_iload_n C 2 dX3_fitsInto_16 rfl rfl ?_
      refine wl_callVp (i := bo p k) (n := 2) C [.int w, .int h] [] (c_X0_wallsBeyond _ G M (bo p k) (s.2.2.2 k) (kd_bo hp (by omega)) (hs.2.2.2.2 k (by omega)) w h (by have := (hW.2 k (by omega)).1; omega)) gX3_fitsInto_X0_wallsBeyond rfl (by decide +kernel) (by decide) (by decide) (kd_lt (kd_bo hp (by omega)) (by decide)) (cell_k (kd_bo hp (by omega))) rfl rfl rfl (Nat.le_of_ble_eq_true rfl) dX3_fitsInto_17 ?_
      refine wl_if_eq C 25 dX3_fitsInto_20 (by decide) (fun c_20 => ?_) (fun c_20 => ?_)
      · refine wl_iinc1 (k := k) (L' := [(3, .int (nI (k + 1))), (0, .ref (G.2.2.1 p)), (1, .int w), (2, .int h)]) C 3 dX3_fitsInto_25 rfl (by decide) rfl ?_
        refine wl_goto C 2 dX3_fitsInto_28 (by decide) ?_
        refine wl_sub (L' := [(0, .ref (G.2.2.1 p)), (1, .int w), (2, .int h), (3, .int (nI (k + 1)))]) [1, 2, 3, 0] rfl ?_
        exact ih (by omega) (by simp only [anT, hI, Bool.false_or, decide_eq_false_iff_not, Decidable.not_not]; exact c_20)
      · refine wl_iconst (v := 0) C dX3_fitsInto_23 (by decide) ?_
        exact hret _ 24 _ 0 (rfl) dX3_fitsInto_24 (⟨(bi_f (by unfold fitS; rw [anT_true.mpr ⟨k, by omega, decide_eq_true c_20⟩]; rfl)).symm, rfl⟩)
  refine wl_sub (L' := [(0, .ref (G.2.2.1 p)), (1, .int w), (2, .int h), (3, .int (nI 0))]) [1, 2, 3, 0] rfl ?_
  exact h2 0 (Nat.zero_le _) rfl
set_option maxHeartbeats 4000000 in
set_option maxRecDepth 100000 in
theorem c_X3_overlapped (l : Launch) (G : Gw) (M : Mem) (p : Nat) (s : St) (hp : kd p = 3) (hs : Pk M p s) (c : Nat) (P : Py) (own : Int32) (hc : kd c = 0) (hP : Bd M c P) (hSP : Smal P) (hS : SmS s) : Cp l G yX3_overlapped wsX3_overlapped 3 77 [.ref (G.2.2.1 p), .ref (G.2.2.1 c), .int own] M (ovS s P own) := by
  refine Ci.of (cc := cX3_overlapped) (maxL := 5) (ret := (some .int)) (by decide +kernel) rfl (Nat.le_of_ble_eq_true rfl) ?_
  intro x sz hl0 hr C
  subst hl0
  have C : CX x G (AA G sz) RX3 cX3_overlapped 5 wsX3_overlapped 3 77 0 0 := C
  have hret : ∀ (M0 : Mem) (pc0 : Nat) (L0 : List (Nat × Value)) (rv0 : Int32), decode cX3_overlapped pc0 = .ok (.ireturn, 1) → (fun (r : Int32) (M' : Mem) => r = ovS s P own ∧ M' = M) rv0 M0 → WL x G (AA G sz) 5 0 0 (xQ x (va_Qi (fun (r : Int32) (M' : Mem) => r = ovS s P own ∧ M' = M) (WE G) (AA G sz)) (AA G sz)) M0 pc0 L0 [.int rv0] := fun M0 pc0 L0 rv0 hd hp => wl_iret (post := (fun (r : Int32) (M' : Mem) => r = ovS s P own ∧ M' = M)) C hr hd hp
  show WL x G (AA G sz) 5 0 0 (xQ x (va_Qi (fun (r : Int32) (M' : Mem) => r = ovS s P own ∧ M' = M) (WE G) (AA G sz)) (AA G sz)) M 0 [(0, .ref (G.2.2.1 p)), (1, .ref (G.2.2.1 c)), (2, .int own)] []
  generalize (xQ x (va_Qi (fun (r : Int32) (M' : Mem) => r = ovS s P own ∧ M' = M) (WE G) (AA G sz)) (AA G sz)) = QQ at hret ⊢
  have in3 : ∀ w ∈ wsX30, w ∈ wsX3_overlapped := by decide +kernel
  have fl25 : Jvm.Cond.fieldLink RX3 25 "JammedBodies$Packing" "size" "I" ∈ wsX3_overlapped := by decide +kernel
  have h8 := hs.2.2.2.1
  refine wl_iconst (v := bsT (ovF s P own) 0) C dX3_overlapped_0 (by first | decide | rfl) ?_
  refine wl_istore_n (L' := [(3, .int (bsT (ovF s P own) 0)), (0, .ref (G.2.2.1 p)), (1, .ref (G.2.2.1 c)), (2, .int own)]) C dX3_overlapped_1 rfl (by decide) rfl ?_
  refine wl_iconst (v := nI 0) C dX3_overlapped_2 (by first | decide | rfl) ?_
  refine wl_istore (L' := [(4, .int (nI 0)), (3, .int (bsT (ovF s P own) 0)), (0, .ref (G.2.2.1 p)), (1, .ref (G.2.2.1 c)), (2, .int own)]) C dX3_overlapped_3 (by decide) rfl ?_
  have h5 : ∀ k, k ≤ s.1 → WL x G (AA G sz) 5 0 0 QQ M 5 [(0, .ref (G.2.2.1 p)), (1, .ref (G.2.2.1 c)), (2, .int own), (3, .int (bsT (ovF s P own) k)), (4, .int (nI k))] [] := by
    refine up_loop s.1 _ ?_
    intro k hk ih
    refine wl_iload C 4 dX3_overlapped_5 rfl ?_
    refine wl_aload_n C 0 dX3_overlapped_7 rfl rfl ?_
    refine wl_get_Packing_size (i := p) (v := nI s.1) C hp in3 fl25 hs.1 dX3_overlapped_8 ?_
    refine wl_icmp_geN C (a := k) (b := s.1) (by omega) (by omega) 59 dX3_overlapped_11 (by decide) (fun c_11 => ?_) (fun c_11 => ?_)
    · refine wl_iload_n C 3 dX3_overlapped_59 rfl rfl ?_
      exact hret _ 60 _ (bsT (ovF s P own) k) dX3_overlapped_60 (⟨by unfold ovS; rw [show s.1 = k by omega], rfl⟩)
    · have h53 : WL x G (AA G sz) 5 0 0 QQ M 53 [(0, .ref (G.2.2.1 p)), (1, .ref (G.2.2.1 c)), (2, .int own), (3, .int (bsT (ovF s P own) (k + 1))), (4, .int (nI k))] [] := by
        refine wl_iinc1 (k := k) (L' := [(4, .int (nI (k + 1))), (0, .ref (G.2.2.1 p)), (1, .ref (G.2.2.1 c)), (2, .int own), (3, .int (bsT (ovF s P own) (k + 1)))]) C 4 dX3_overlapped_53 rfl (by decide) rfl ?_
        refine wl_goto C 5 dX3_overlapped_56 (by decide) ?_
        refine wl_sub (L' := [(0, .ref (G.2.2.1 p)), (1, .ref (G.2.2.1 c)), (2, .int own), (3, .int (bsT (ovF s P own) (k + 1))), (4, .int (nI (k + 1)))]) [1, 2, 3, 4, 0] rfl ?_
        exact ih (by omega)
      refine wl_iload C 4 dX3_overlapped_14 rfl ?_
      refine wl_iload_n C 2 dX3_overlapped_16 rfl rfl ?_
      refine wl_icmp_eq C 53 dX3_overlapped_17 (by decide) (fun c_17 => ?_) (fun c_17 => ?_)
      · refine wl_locs (L' := [(0, .ref (G.2.2.1 p)), (1, .ref (G.2.2.1 c)), (2, .int own), (3, .int (bsT (ovF s P own) (k + 1))), (4, .int (nI k))]) (by rw [bsT_f (by simp [ovF, c_17])]) ?_
        exact h53
      · refine wl_aload_n C 1 dX3_overlapped_20 rfl rfl ?_
        refine wl_aload_n C 0 dX3_overlapped_21 rfl rfl ?_
        refine wl_iload C 4 dX3_overlapped_22 rfl ?_
        refine wl_callVa (i := p) (n := 1) C [.int (nI k)] [.ref (G.2.2.1 c)] (c_X3_at _ G M p k hp (by omega)) gX3_overlapped_X3_at rfl (by decide +kernel) (by decide) (by decide) (kd_lt hp (by decide)) (cell_k hp) rfl rfl rfl (Nat.le_of_ble_eq_true rfl) dX3_overlapped_24 ?_
        refine wl_callVq (i := c) (n := 1) C [.ref (G.2.2.1 (bo p k))] [] (c_X0_leastReach _ G M c (bo p k) P (s.2.2.2 k) hc (kd_bo hp (by omega)) hP (hs.2.2.2.2 k (by omega)) (by have := (hS k (by omega)).1; omega) (Far.of (hSP) (hS k (by omega)))) gX3_overlapped_X0_leastReach rfl (by decide +kernel) (by decide) (by decide) (kd_lt hc (by decide)) (cell_k hc) rfl rfl rfl (Nat.le_of_ble_eq_true rfl) dX3_overlapped_27 (fun r1 e1 => ?_)
        refine wl_if_le C 53 dX3_overlapped_30 (by decide) (fun c_30 => ?_) (fun c_30 => ?_)
        · refine wl_locs (L' := [(0, .ref (G.2.2.1 p)), (1, .ref (G.2.2.1 c)), (2, .int own), (3, .int (bsT (ovF s P own) (k + 1))), (4, .int (nI k))]) (by rw [bsT_f (by simp [ovF, ovl, lr_f e1 c_30])]) ?_
          exact h53
        · refine wl_aload_n C 0 dX3_overlapped_33 rfl rfl ?_
          refine wl_iload C 4 dX3_overlapped_34 rfl ?_
          refine wl_callVa (i := p) (n := 1) C [.int (nI k)] [] (c_X3_at _ G M p k hp (by omega)) gX3_overlapped_X3_at rfl (by decide +kernel) (by decide) (by decide) (kd_lt hp (by decide)) (cell_k hp) rfl rfl rfl (Nat.le_of_ble_eq_true rfl) dX3_overlapped_36 ?_
          refine wl_aload_n C 1 dX3_overlapped_39 rfl rfl ?_
          refine wl_callVq (i := bo p k) (n := 1) C [.ref (G.2.2.1 c)] [] (c_X0_leastReach _ G M (bo p k) c (s.2.2.2 k) P (kd_bo hp (by omega)) hc (hs.2.2.2.2 k (by omega)) hP (by have := (hSP).1; omega) (Far.of (hS k (by omega)) (hSP))) gX3_overlapped_X0_leastReach rfl (by decide +kernel) (by decide) (by decide) (kd_lt (kd_bo hp (by omega)) (by decide)) (cell_k (kd_bo hp (by omega))) rfl rfl rfl (Nat.le_of_ble_eq_true rfl) dX3_overlapped_40 (fun r2 e2 => ?_)
          refine wl_if_le C 53 dX3_overlapped_43 (by decide) (fun c_43 => ?_) (fun c_43 => ?_)
          · refine wl_locs (L' := [(0, .ref (G.2.2.1 p)), (1, .ref (G.2.2.1 c)), (2, .int own), (3, .int (bsT (ovF s P own) (k + 1))), (4, .int (nI k))]) (by rw [bsT_f (by simp [ovF, ovl, lr_f e2 c_43])]) ?_
            exact h53
          · refine wl_iload_n C 3 dX3_overlapped_46 rfl rfl ?_
            refine wl_iconst (v := 1) C dX3_overlapped_47 (by decide) ?_
            refine wl_iload C 4 dX3_overlapped_48 rfl ?_
            refine wl_ishl C dX3_overlapped_50 ?_
            refine wl_ior C dX3_overlapped_51 ?_
            refine wl_istore_n (L' := [(3, .int ((bsT (ovF s P own) k) ||| (1 <<< ((nI k) &&& 31)))), (0, .ref (G.2.2.1 p)), (1, .ref (G.2.2.1 c)), (2, .int own), (4, .int (nI k))]) C dX3_overlapped_52 rfl (by decide) rfl ?_
            refine wl_sub (L' := [(0, .ref (G.2.2.1 p)), (1, .ref (G.2.2.1 c)), (2, .int own), (3, .int ((bsT (ovF s P own) k) ||| (1 <<< ((nI k) &&& 31)))), (4, .int (nI k))]) [1, 2, 3, 0, 4] rfl ?_
            refine wl_locs (L' := [(0, .ref (G.2.2.1 p)), (1, .ref (G.2.2.1 c)), (2, .int own), (3, .int (bsT (ovF s P own) (k + 1))), (4, .int (nI k))]) (by rw [bsT_t (by simp [ovF, ovl, c_17, (lr_pos e1).mp c_30, (lr_pos e2).mp c_43])]) ?_
            exact h53
  refine wl_sub (L' := [(0, .ref (G.2.2.1 p)), (1, .ref (G.2.2.1 c)), (2, .int own), (3, .int (bsT (ovF s P own) 0)), (4, .int (nI 0))]) [2, 3, 4, 1, 0] rfl ?_
  exact h5 0 (Nat.zero_le _)
set_option maxHeartbeats 4000000 in
set_option maxRecDepth 100000 in
theorem c_X3_touching (l : Launch) (G : Gw) (M : Mem) (p : Nat) (s : St) (hp : kd p = 3) (hs : Pk M p s) (k : Nat) (hk : k < s.1) (hS : SmS s) : Cp l G yX3_touching wsX3_touching 3 77 [.ref (G.2.2.1 p), .int (nI k)] M (tcS s k) := by
  refine Ci.of (cc := cX3_touching) (maxL := 5) (ret := (some .int)) (by decide +kernel) rfl (Nat.le_of_ble_eq_true rfl) ?_
  intro x sz hl0 hr C
  subst hl0
  have C : CX x G (AA G sz) RX3 cX3_touching 5 wsX3_touching 3 77 0 0 := C
  have hret : ∀ (M0 : Mem) (pc0 : Nat) (L0 : List (Nat × Value)) (rv0 : Int32), decode cX3_touching pc0 = .ok (.ireturn, 1) → (fun (r : Int32) (M' : Mem) => r = tcS s k ∧ M' = M) rv0 M0 → WL x G (AA G sz) 5 0 0 (xQ x (va_Qi (fun (r : Int32) (M' : Mem) => r = tcS s k ∧ M' = M) (WE G) (AA G sz)) (AA G sz)) M0 pc0 L0 [.int rv0] := fun M0 pc0 L0 rv0 hd hp => wl_iret (post := (fun (r : Int32) (M' : Mem) => r = tcS s k ∧ M' = M)) C hr hd hp
  show WL x G (AA G sz) 5 0 0 (xQ x (va_Qi (fun (r : Int32) (M' : Mem) => r = tcS s k ∧ M' = M) (WE G) (AA G sz)) (AA G sz)) M 0 [(0, .ref (G.2.2.1 p)), (1, .int (nI k))] []
  generalize (xQ x (va_Qi (fun (r : Int32) (M' : Mem) => r = tcS s k ∧ M' = M) (WE G) (AA G sz)) (AA G sz)) = QQ at hret ⊢
  have in3 : ∀ w ∈ wsX30, w ∈ wsX3_touching := by decide +kernel
  have fl25 : Jvm.Cond.fieldLink RX3 25 "JammedBodies$Packing" "size" "I" ∈ wsX3_touching := by decide +kernel
  have ml51 : Jvm.Cond.methodLink RX3 51 Lib.Math.min.name ∈ wsX3_touching := by decide +kernel
  have m2min : Jvm.Cond.static Lib.Math.min.name ∈ wsX3_touching := by decide +kernel
  have m3 : Jvm.Cond.initialized "java/lang/Math" ∈ wsX3_touching := by decide +kernel
  have m4min : Jvm.Cond.code Lib.Math.min.name Lib.Math.min.code 2 (some .int) ∈ wsX3_touching := by decide +kernel
  have h8 := hs.2.2.2.1
  refine wl_aload_n C 0 dX3_touching_0 rfl rfl ?_
  refine wl_iload_n C 1 dX3_touching_1 rfl rfl ?_
  refine wl_callVa (i := p) (n := 1) C [.int (nI k)] [] (c_X3_at _ G M p k hp (by omega)) gX3_touching_X3_at rfl (by decide +kernel) (by decide) (by decide) (kd_lt hp (by decide)) (cell_k hp) rfl rfl rfl (Nat.le_of_ble_eq_true rfl) dX3_touching_2 ?_
  refine wl_astore_n (L' := [(2, .ref (G.2.2.1 (bo p k))), (0, .ref (G.2.2.1 p)), (1, .int (nI k))]) C dX3_touching_5 rfl (by decide) rfl ?_
  refine wl_iconst (v := bsT (tcF s k) 0) C dX3_touching_6 (by first | decide | rfl) ?_
  refine wl_istore_n (L' := [(3, .int (bsT (tcF s k) 0)), (2, .ref (G.2.2.1 (bo p k))), (0, .ref (G.2.2.1 p)), (1, .int (nI k))]) C dX3_touching_7 rfl (by decide) rfl ?_
  refine wl_iconst (v := nI 0) C dX3_touching_8 (by first | decide | rfl) ?_
  refine wl_istore (L' := [(4, .int (nI 0)), (3, .int (bsT (tcF s k) 0)), (2, .ref (G.2.2.1 (bo p k))), (0, .ref (G.2.2.1 p)), (1, .int (nI k))]) C dX3_touching_9 (by decide) rfl ?_
  have h11 : ∀ j, j ≤ s.1 → WL x G (AA G sz) 5 0 0 QQ M 11 [(0, .ref (G.2.2.1 p)), (1, .int (nI k)), (2, .ref (G.2.2.1 (bo p k))), (3, .int (bsT (tcF s k) j)), (4, .int (nI j))] [] := by
    refine up_loop s.1 _ ?_
    intro j hj ih
    refine wl_iload C 4 dX3_touching_11 rfl ?_
    refine wl_aload_n C 0 dX3_touching_13 rfl rfl ?_
    refine wl_get_Packing_size (i := p) (v := nI s.1) C hp in3 fl25 hs.1 dX3_touching_14 ?_
    refine wl_icmp_geN C (a := j) (b := s.1) (by omega) (by omega) 65 dX3_touching_17 (by decide) (fun c_17 => ?_) (fun c_17 => ?_)
    · refine wl_iload_n C 3 dX3_touching_65 rfl rfl ?_
      exact hret _ 66 _ (bsT (tcF s k) j) dX3_touching_66 (⟨by unfold tcS; rw [show s.1 = j by omega], rfl⟩)
    · have h59 : WL x G (AA G sz) 5 0 0 QQ M 59 [(0, .ref (G.2.2.1 p)), (1, .int (nI k)), (2, .ref (G.2.2.1 (bo p k))), (3, .int (bsT (tcF s k) (j + 1))), (4, .int (nI j))] [] := by
        refine wl_iinc1 (k := j) (L' := [(4, .int (nI (j + 1))), (0, .ref (G.2.2.1 p)), (1, .int (nI k)), (2, .ref (G.2.2.1 (bo p k))), (3, .int (bsT (tcF s k) (j + 1)))]) C 4 dX3_touching_59 rfl (by decide) rfl ?_
        refine wl_goto C 11 dX3_touching_62 (by decide) ?_
        refine wl_sub (L' := [(0, .ref (G.2.2.1 p)), (1, .int (nI k)), (2, .ref (G.2.2.1 (bo p k))), (3, .int (bsT (tcF s k) (j + 1))), (4, .int (nI (j + 1)))]) [1, 2, 3, 4, 0] rfl ?_
        exact ih (by omega)
      refine wl_iload C 4 dX3_touching_20 rfl ?_
      refine wl_iload_n C 1 dX3_touching_22 rfl rfl ?_
      refine wl_icmp_eqN C (a := j) (b := k) (by omega) (by omega) 59 dX3_touching_23 (by decide) (fun c_23 => ?_) (fun c_23 => ?_)
      · refine wl_locs (L' := [(0, .ref (G.2.2.1 p)), (1, .int (nI k)), (2, .ref (G.2.2.1 (bo p k))), (3, .int (bsT (tcF s k) (j + 1))), (4, .int (nI j))]) (by rw [bsT_f (by simp [tcF, c_23])]) ?_
        exact h59
      · refine wl_aload_n C 2 dX3_touching_26 rfl rfl ?_
        refine wl_aload_n C 0 dX3_touching_27 rfl rfl ?_
        refine wl_iload C 4 dX3_touching_28 rfl ?_
        refine wl_callVa (i := p) (n := 1) C [.int (nI j)] [.ref (G.2.2.1 (bo p k))] (c_X3_at _ G M p j hp (by omega)) gX3_touching_X3_at rfl (by decide +kernel) (by decide) (by decide) (kd_lt hp (by decide)) (cell_k hp) rfl rfl rfl (Nat.le_of_ble_eq_true rfl) dX3_touching_30 ?_
        refine wl_callVq (i := bo p k) (n := 1) C [.ref (G.2.2.1 (bo p j))] [] (c_X0_leastReach _ G M (bo p k) (bo p j) (s.2.2.2 k) (s.2.2.2 j) (kd_bo hp (by omega)) (kd_bo hp (by omega)) (hs.2.2.2.2 k (by omega)) (hs.2.2.2.2 j (by omega)) (by have := (hS j (by omega)).1; omega) (Far.of (hS k (by omega)) (hS j (by omega)))) gX3_touching_X0_leastReach rfl (by decide +kernel) (by decide) (by decide) (kd_lt (kd_bo hp (by omega)) (by decide)) (cell_k (kd_bo hp (by omega))) rfl rfl rfl (Nat.le_of_ble_eq_true rfl) dX3_touching_33 (fun r1 e1 => ?_)
        refine wl_aload_n C 0 dX3_touching_36 rfl rfl ?_
        refine wl_iload C 4 dX3_touching_37 rfl ?_
        refine wl_callVa (i := p) (n := 1) C [.int (nI j)] [.int r1] (c_X3_at _ G M p j hp (by omega)) gX3_touching_X3_at rfl (by decide +kernel) (by decide) (by decide) (kd_lt hp (by decide)) (cell_k hp) rfl rfl rfl (Nat.le_of_ble_eq_true rfl) dX3_touching_39 ?_
        refine wl_aload_n C 2 dX3_touching_42 rfl rfl ?_
        refine wl_callVq (i := bo p j) (n := 1) C [.ref (G.2.2.1 (bo p k))] [.int r1] (c_X0_leastReach _ G M (bo p j) (bo p k) (s.2.2.2 j) (s.2.2.2 k) (kd_bo hp (by omega)) (kd_bo hp (by omega)) (hs.2.2.2.2 j (by omega)) (hs.2.2.2.2 k (by omega)) (by have := (hS k (by omega)).1; omega) (Far.of (hS j (by omega)) (hS k (by omega)))) gX3_touching_X0_leastReach rfl (by decide +kernel) (by decide) (by decide) (kd_lt (kd_bo hp (by omega)) (by decide)) (cell_k (kd_bo hp (by omega))) rfl rfl rfl (Nat.le_of_ble_eq_true rfl) dX3_touching_43 (fun r2 e2 => ?_)
        refine wl_min C ml51 m2min m3 m4min (by decide) (Nat.le_of_ble_eq_true rfl) dX3_touching_46 ?_
        refine wl_if_ne C 59 dX3_touching_49 (by decide) (fun c_49 => ?_) (fun c_49 => ?_)
        · refine wl_locs (L' := [(0, .ref (G.2.2.1 p)), (1, .int (nI k)), (2, .ref (G.2.2.1 (bo p k))), (3, .int (bsT (tcF s k) (j + 1))), (4, .int (nI j))]) (by rw [bsT_f (by simp only [tcF, Bool.eq_false_iff.mpr (fun q => c_49 ((lr_tch e1 e2).mpr q)), Bool.and_false])]) ?_
          exact h59
        · refine wl_iload_n C 3 dX3_touching_52 rfl rfl ?_
          refine wl_iconst (v := 1) C dX3_touching_53 (by decide) ?_
          refine wl_iload C 4 dX3_touching_54 rfl ?_
          refine wl_ishl C dX3_touching_56 ?_
          refine wl_ior C dX3_touching_57 ?_
          refine wl_istore_n (L' := [(3, .int ((bsT (tcF s k) j) ||| (1 <<< ((nI j) &&& 31)))), (0, .ref (G.2.2.1 p)), (1, .int (nI k)), (2, .ref (G.2.2.1 (bo p k))), (4, .int (nI j))]) C dX3_touching_58 rfl (by decide) rfl ?_
          refine wl_sub (L' := [(0, .ref (G.2.2.1 p)), (1, .int (nI k)), (2, .ref (G.2.2.1 (bo p k))), (3, .int ((bsT (tcF s k) j) ||| (1 <<< ((nI j) &&& 31)))), (4, .int (nI j))]) [1, 2, 3, 0, 4] rfl ?_
          refine wl_locs (L' := [(0, .ref (G.2.2.1 p)), (1, .int (nI k)), (2, .ref (G.2.2.1 (bo p k))), (3, .int (bsT (tcF s k) (j + 1))), (4, .int (nI j))]) (by rw [bsT_t (by simp [tcF, c_23, (lr_tch e1 e2).mp c_49])]) ?_
          exact h59
  refine wl_sub (L' := [(0, .ref (G.2.2.1 p)), (1, .int (nI k)), (2, .ref (G.2.2.1 (bo p k))), (3, .int (bsT (tcF s k) 0)), (4, .int (nI 0))]) [3, 4, 2, 1, 0] rfl ?_
  exact h11 0 (Nat.zero_le _)
set_option maxHeartbeats 4000000 in
set_option maxRecDepth 100000 in
theorem c_X3_touchingNone (l : Launch) (G : Gw) (M : Mem) (p : Nat) (s : St) (hp : kd p = 3) (hs : Pk M p s) (hS : SmS s) : Cp l G yX3_touchingNone wsX3_touchingNone 4 101 [.ref (G.2.2.1 p)] M (noneS s) := by
  refine Ci.of (cc := cX3_touchingNone) (maxL := 3) (ret := (some .int)) (by decide +kernel) rfl (Nat.le_of_ble_eq_true rfl) ?_
  intro x sz hl0 hr C
  subst hl0
  have C : CX x G (AA G sz) RX3 cX3_touchingNone 3 wsX3_touchingNone 4 101 0 0 := C
  have hret : ∀ (M0 : Mem) (pc0 : Nat) (L0 : List (Nat × Value)) (rv0 : Int32), decode cX3_touchingNone pc0 = .ok (.ireturn, 1) → (fun (r : Int32) (M' : Mem) => r = noneS s ∧ M' = M) rv0 M0 → WL x G (AA G sz) 3 0 0 (xQ x (va_Qi (fun (r : Int32) (M' : Mem) => r = noneS s ∧ M' = M) (WE G) (AA G sz)) (AA G sz)) M0 pc0 L0 [.int rv0] := fun M0 pc0 L0 rv0 hd hp => wl_iret (post := (fun (r : Int32) (M' : Mem) => r = noneS s ∧ M' = M)) C hr hd hp
  show WL x G (AA G sz) 3 0 0 (xQ x (va_Qi (fun (r : Int32) (M' : Mem) => r = noneS s ∧ M' = M) (WE G) (AA G sz)) (AA G sz)) M 0 [(0, .ref (G.2.2.1 p))] []
  generalize (xQ x (va_Qi (fun (r : Int32) (M' : Mem) => r = noneS s ∧ M' = M) (WE G) (AA G sz)) (AA G sz)) = QQ at hret ⊢
  have in3 : ∀ w ∈ wsX30, w ∈ wsX3_touchingNone := by decide +kernel
  have fl25 : Jvm.Cond.fieldLink RX3 25 "JammedBodies$Packing" "size" "I" ∈ wsX3_touchingNone := by decide +kernel
  have h8 := hs.2.2.2.1
  refine wl_iconst (v := bsT (noF s) 0) C dX3_touchingNone_0 (by first | decide | rfl) ?_
  refine wl_istore_n (L' := [(1, .int (bsT (noF s) 0)), (0, .ref (G.2.2.1 p))]) C dX3_touchingNone_1 rfl (by decide) rfl ?_
  refine wl_iconst (v := nI 0) C dX3_touchingNone_2 (by first | decide | rfl) ?_
  refine wl_istore_n (L' := [(2, .int (nI 0)), (1, .int (bsT (noF s) 0)), (0, .ref (G.2.2.1 p))]) C dX3_touchingNone_3 rfl (by decide) rfl ?_
  have h4 : ∀ k, k ≤ s.1 → WL x G (AA G sz) 3 0 0 QQ M 4 [(0, .ref (G.2.2.1 p)), (1, .int (bsT (noF s) k)), (2, .int (nI k))] [] := by
    refine up_loop s.1 _ ?_
    intro k hk ih
    refine wl_iload_n C 2 dX3_touchingNone_4 rfl rfl ?_
    refine wl_aload_n C 0 dX3_touchingNone_5 rfl rfl ?_
    refine wl_get_Packing_size (i := p) (v := nI s.1) C hp in3 fl25 hs.1 dX3_touchingNone_6 ?_
    refine wl_icmp_geN C (a := k) (b := s.1) (by omega) (by omega) 32 dX3_touchingNone_9 (by decide) (fun c_9 => ?_) (fun c_9 => ?_)
    · refine wl_iload_n C 1 dX3_touchingNone_32 rfl rfl ?_
      exact hret _ 33 _ (bsT (noF s) k) dX3_touchingNone_33 (⟨by unfold noneS; rw [show s.1 = k by omega], rfl⟩)
    · have h26 : WL x G (AA G sz) 3 0 0 QQ M 26 [(0, .ref (G.2.2.1 p)), (1, .int (bsT (noF s) (k + 1))), (2, .int (nI k))] [] := by
        refine wl_iinc1 (k := k) (L' := [(2, .int (nI (k + 1))), (0, .ref (G.2.2.1 p)), (1, .int (bsT (noF s) (k + 1)))]) C 2 dX3_touchingNone_26 rfl (by decide) rfl ?_
        refine wl_goto C 4 dX3_touchingNone_29 (by decide) ?_
        refine wl_sub (L' := [(0, .ref (G.2.2.1 p)), (1, .int (bsT (noF s) (k + 1))), (2, .int (nI (k + 1)))]) [1, 2, 0] rfl ?_
        exact ih (by omega)
      refine wl_aload_n C 0 dX3_touchingNone_12 rfl rfl ?_
      refine wl_iload_n C 2 dX3_touchingNone_13 rfl rfl ?_
      refine wl_callVp (i := p) (n := 1) C [.int (nI k)] [] (c_X3_touching _ G M p s hp hs k (by omega) hS) gX3_touchingNone_X3_touching rfl (by decide +kernel) (by decide) (by decide) (kd_lt hp (by decide)) (cell_k hp) rfl rfl rfl (Nat.le_of_ble_eq_true rfl) dX3_touchingNone_14 ?_
      refine wl_if_ne C 26 dX3_touchingNone_17 (by decide) (fun c_17 => ?_) (fun c_17 => ?_)
      · refine wl_locs (L' := [(0, .ref (G.2.2.1 p)), (1, .int (bsT (noF s) (k + 1))), (2, .int (nI k))]) (by rw [bsT_f (by simp [noF, c_17])]) ?_
        exact h26
      · refine wl_iload_n C 1 dX3_touchingNone_20 rfl rfl ?_
        refine wl_iconst (v := 1) C dX3_touchingNone_21 (by decide) ?_
        refine wl_iload_n C 2 dX3_touchingNone_22 rfl rfl ?_
        refine wl_ishl C dX3_touchingNone_23 ?_
        refine wl_ior C dX3_touchingNone_24 ?_
        refine wl_istore_n (L' := [(1, .int ((bsT (noF s) k) ||| (1 <<< ((nI k) &&& 31)))), (0, .ref (G.2.2.1 p)), (2, .int (nI k))]) C dX3_touchingNone_25 rfl (by decide) rfl ?_
        refine wl_sub (L' := [(0, .ref (G.2.2.1 p)), (1, .int ((bsT (noF s) k) ||| (1 <<< ((nI k) &&& 31)))), (2, .int (nI k))]) [1, 0, 2] rfl ?_
        refine wl_locs (L' := [(0, .ref (G.2.2.1 p)), (1, .int (bsT (noF s) (k + 1))), (2, .int (nI k))]) (by rw [bsT_t (by simp [noF, c_17])]) ?_
        exact h26
  refine wl_sub (L' := [(0, .ref (G.2.2.1 p)), (1, .int (bsT (noF s) 0)), (2, .int (nI 0))]) [2, 1, 0] rfl ?_
  exact h4 0 (Nat.zero_le _)
set_option maxHeartbeats 4000000 in
set_option maxRecDepth 100000 in
theorem c_X3_touchingWalls (l : Launch) (G : Gw) (M : Mem) (p : Nat) (s : St) (hp : kd p = 3) (hs : Pk M p s) (mask : Int32) (hW : WfS s) : Cp l G yX3_touchingWalls wsX3_touchingWalls 3 66 [.ref (G.2.2.1 p), .int mask] M (wallS s mask) := by
  refine Ci.of (cc := cX3_touchingWalls) (maxL := 4) (ret := (some .int)) (by decide +kernel) rfl (Nat.le_of_ble_eq_true rfl) ?_
  intro x sz hl0 hr C
  subst hl0
  have C : CX x G (AA G sz) RX3 cX3_touchingWalls 4 wsX3_touchingWalls 3 66 0 0 := C
  have hret : ∀ (M0 : Mem) (pc0 : Nat) (L0 : List (Nat × Value)) (rv0 : Int32), decode cX3_touchingWalls pc0 = .ok (.ireturn, 1) → (fun (r : Int32) (M' : Mem) => r = wallS s mask ∧ M' = M) rv0 M0 → WL x G (AA G sz) 4 0 0 (xQ x (va_Qi (fun (r : Int32) (M' : Mem) => r = wallS s mask ∧ M' = M) (WE G) (AA G sz)) (AA G sz)) M0 pc0 L0 [.int rv0] := fun M0 pc0 L0 rv0 hd hp => wl_iret (post := (fun (r : Int32) (M' : Mem) => r = wallS s mask ∧ M' = M)) C hr hd hp
  show WL x G (AA G sz) 4 0 0 (xQ x (va_Qi (fun (r : Int32) (M' : Mem) => r = wallS s mask ∧ M' = M) (WE G) (AA G sz)) (AA G sz)) M 0 [(0, .ref (G.2.2.1 p)), (1, .int mask)] []
  generalize (xQ x (va_Qi (fun (r : Int32) (M' : Mem) => r = wallS s mask ∧ M' = M) (WE G) (AA G sz)) (AA G sz)) = QQ at hret ⊢
  have in3 : ∀ w ∈ wsX30, w ∈ wsX3_touchingWalls := by decide +kernel
  have fl25 : Jvm.Cond.fieldLink RX3 25 "JammedBodies$Packing" "size" "I" ∈ wsX3_touchingWalls := by decide +kernel
  have fl29 : Jvm.Cond.fieldLink RX3 29 "JammedBodies$Packing" "width" "I" ∈ wsX3_touchingWalls := by decide +kernel
  have fl32 : Jvm.Cond.fieldLink RX3 32 "JammedBodies$Packing" "height" "I" ∈ wsX3_touchingWalls := by decide +kernel
  have h8 := hs.2.2.2.1
  refine wl_iconst (v := bsT (waF s mask) 0) C dX3_touchingWalls_0 (by first | decide | rfl) ?_
  refine wl_istore_n (L' := [(2, .int (bsT (waF s mask) 0)), (0, .ref (G.2.2.1 p)), (1, .int mask)]) C dX3_touchingWalls_1 rfl (by decide) rfl ?_
  refine wl_iconst (v := nI 0) C dX3_touchingWalls_2 (by first | decide | rfl) ?_
  refine wl_istore_n (L' := [(3, .int (nI 0)), (2, .int (bsT (waF s mask) 0)), (0, .ref (G.2.2.1 p)), (1, .int mask)]) C dX3_touchingWalls_3 rfl (by decide) rfl ?_
  have h4 : ∀ k, k ≤ s.1 → WL x G (AA G sz) 4 0 0 QQ M 4 [(0, .ref (G.2.2.1 p)), (1, .int mask), (2, .int (bsT (waF s mask) k)), (3, .int (nI k))] [] := by
    refine up_loop s.1 _ ?_
    intro k hk ih
    refine wl_iload_n C 3 dX3_touchingWalls_4 rfl rfl ?_
    refine wl_aload_n C 0 dX3_touchingWalls_5 rfl rfl ?_
    refine wl_get_Packing_size (i := p) (v := nI s.1) C hp in3 fl25 hs.1 dX3_touchingWalls_6 ?_
    refine wl_icmp_geN C (a := k) (b := s.1) (by omega) (by omega) 45 dX3_touchingWalls_9 (by decide) (fun c_9 => ?_) (fun c_9 => ?_)
    · refine wl_iload_n C 2 dX3_touchingWalls_45 rfl rfl ?_
      exact hret _ 46 _ (bsT (waF s mask) k) dX3_touchingWalls_46 (⟨by unfold wallS; rw [show s.1 = k by omega], rfl⟩)
    · have h39 : WL x G (AA G sz) 4 0 0 QQ M 39 [(0, .ref (G.2.2.1 p)), (1, .int mask), (2, .int (bsT (waF s mask) (k + 1))), (3, .int (nI k))] [] := by
        refine wl_iinc1 (k := k) (L' := [(3, .int (nI (k + 1))), (0, .ref (G.2.2.1 p)), (1, .int mask), (2, .int (bsT (waF s mask) (k + 1)))]) C 3 dX3_touchingWalls_39 rfl (by decide) rfl ?_
        refine wl_goto C 4 dX3_touchingWalls_42 (by decide) ?_
        refine wl_sub (L' := [(0, .ref (G.2.2.1 p)), (1, .int mask), (2, .int (bsT (waF s mask) (k + 1))), (3, .int (nI (k + 1)))]) [1, 2, 3, 0] rfl ?_
        exact ih (by omega)
      refine wl_aload_n C 0 dX3_touchingWalls_12 rfl rfl ?_
      refine wl_iload_n C 3 dX3_touchingWalls_13 rfl rfl ?_
      refine wl_callVa (i := p) (n := 1) C [.int (nI k)] [] (c_X3_at _ G M p k hp (by omega)) gX3_touchingWalls_X3_at rfl (by decide +kernel) (by decide) (by decide) (kd_lt hp (by decide)) (cell_k hp) rfl rfl rfl (Nat.le_of_ble_eq_true rfl) dX3_touchingWalls_14 ?_
      refine wl_aload_n C 0 dX3_touchingWalls_17 rfl rfl ?_
      refine wl_get_Packing_width (i := p) (v := s.2.1) C hp in3 fl29 hs.2.1 dX3_touchingWalls_18 ?_
      refine wl_aload_n C 0 dX3_touchingWalls_21 rfl rfl ?_
      refine wl_get_Packing_height (i := p) (v := s.2.2.1) C hp in3 fl32 hs.2.2.1 dX3_touchingWalls_22 ?_
      refine wl_callVp (i := bo p k) (n := 2) C [.int s.2.1, .int s.2.2.1] [] (c_X0_wallsTouched _ G M (bo p k) (s.2.2.2 k) (kd_bo hp (by omega)) (hs.2.2.2.2 k (by omega)) s.2.1 s.2.2.1 (by have := (hW.2 k (by omega)).1; omega)) gX3_touchingWalls_X0_wallsTouched rfl (by decide +kernel) (by decide) (by decide) (kd_lt (kd_bo hp (by omega)) (by decide)) (cell_k (kd_bo hp (by omega))) rfl rfl rfl (Nat.le_of_ble_eq_true rfl) dX3_touchingWalls_25 ?_
      refine wl_iload_n C 1 dX3_touchingWalls_28 rfl rfl ?_
      refine wl_iand C dX3_touchingWalls_29 ?_
      refine wl_if_eq C 39 dX3_touchingWalls_30 (by decide) (fun c_30 => ?_) (fun c_30 => ?_)
      · refine wl_locs (L' := [(0, .ref (G.2.2.1 p)), (1, .int mask), (2, .int (bsT (waF s mask) (k + 1))), (3, .int (nI k))]) (by rw [bsT_f (by simp [waF, c_30])]) ?_
        exact h39
      · refine wl_iload_n C 2 dX3_touchingWalls_33 rfl rfl ?_
        refine wl_iconst (v := 1) C dX3_touchingWalls_34 (by decide) ?_
        refine wl_iload_n C 3 dX3_touchingWalls_35 rfl rfl ?_
        refine wl_ishl C dX3_touchingWalls_36 ?_
        refine wl_ior C dX3_touchingWalls_37 ?_
        refine wl_istore_n (L' := [(2, .int ((bsT (waF s mask) k) ||| (1 <<< ((nI k) &&& 31)))), (0, .ref (G.2.2.1 p)), (1, .int mask), (3, .int (nI k))]) C dX3_touchingWalls_38 rfl (by decide) rfl ?_
        refine wl_sub (L' := [(0, .ref (G.2.2.1 p)), (1, .int mask), (2, .int ((bsT (waF s mask) k) ||| (1 <<< ((nI k) &&& 31)))), (3, .int (nI k))]) [1, 2, 0, 3] rfl ?_
        refine wl_locs (L' := [(0, .ref (G.2.2.1 p)), (1, .int mask), (2, .int (bsT (waF s mask) (k + 1))), (3, .int (nI k))]) (by rw [bsT_t (by simp [waF, c_30])]) ?_
        exact h39
  refine wl_sub (L' := [(0, .ref (G.2.2.1 p)), (1, .int mask), (2, .int (bsT (waF s mask) 0)), (3, .int (nI 0))]) [2, 3, 1, 0] rfl ?_
  exact h4 0 (Nat.zero_le _)
set_option maxHeartbeats 4000000 in
set_option maxRecDepth 100000 in
theorem c_X3_doubleArea (l : Launch) (G : Gw) (M : Mem) (p : Nat) (s : St) (hp : kd p = 3) (hs : Pk M p s) : Cp l G yX3_doubleArea wsX3_doubleArea 2 44 [.ref (G.2.2.1 p)] M (areaS s) := by
  refine Ci.of (cc := cX3_doubleArea) (maxL := 3) (ret := (some .int)) (by decide +kernel) rfl (Nat.le_of_ble_eq_true rfl) ?_
  intro x sz hl0 hr C
  subst hl0
  have C : CX x G (AA G sz) RX3 cX3_doubleArea 3 wsX3_doubleArea 2 44 0 0 := C
  have hret : ∀ (M0 : Mem) (pc0 : Nat) (L0 : List (Nat × Value)) (rv0 : Int32), decode cX3_doubleArea pc0 = .ok (.ireturn, 1) → (fun (r : Int32) (M' : Mem) => r = areaS s ∧ M' = M) rv0 M0 → WL x G (AA G sz) 3 0 0 (xQ x (va_Qi (fun (r : Int32) (M' : Mem) => r = areaS s ∧ M' = M) (WE G) (AA G sz)) (AA G sz)) M0 pc0 L0 [.int rv0] := fun M0 pc0 L0 rv0 hd hp => wl_iret (post := (fun (r : Int32) (M' : Mem) => r = areaS s ∧ M' = M)) C hr hd hp
  show WL x G (AA G sz) 3 0 0 (xQ x (va_Qi (fun (r : Int32) (M' : Mem) => r = areaS s ∧ M' = M) (WE G) (AA G sz)) (AA G sz)) M 0 [(0, .ref (G.2.2.1 p))] []
  generalize (xQ x (va_Qi (fun (r : Int32) (M' : Mem) => r = areaS s ∧ M' = M) (WE G) (AA G sz)) (AA G sz)) = QQ at hret ⊢
  have in3 : ∀ w ∈ wsX30, w ∈ wsX3_doubleArea := by decide +kernel
  have fl25 : Jvm.Cond.fieldLink RX3 25 "JammedBodies$Packing" "size" "I" ∈ wsX3_doubleArea := by decide +kernel
  have h8 := hs.2.2.2.1
  refine wl_iconst (v := smT (arF s) 0) C dX3_doubleArea_0 (by first | decide | rfl) ?_
  refine wl_istore_n (L' := [(1, .int (smT (arF s) 0)), (0, .ref (G.2.2.1 p))]) C dX3_doubleArea_1 rfl (by decide) rfl ?_
  refine wl_iconst (v := nI 0) C dX3_doubleArea_2 (by first | decide | rfl) ?_
  refine wl_istore_n (L' := [(2, .int (nI 0)), (1, .int (smT (arF s) 0)), (0, .ref (G.2.2.1 p))]) C dX3_doubleArea_3 rfl (by decide) rfl ?_
  have h4 : ∀ k, k ≤ s.1 → WL x G (AA G sz) 3 0 0 QQ M 4 [(0, .ref (G.2.2.1 p)), (1, .int (smT (arF s) k)), (2, .int (nI k))] [] := by
    refine up_loop s.1 _ ?_
    intro k hk ih
    refine wl_iload_n C 2 dX3_doubleArea_4 rfl rfl ?_
    refine wl_aload_n C 0 dX3_doubleArea_5 rfl rfl ?_
    refine wl_get_Packing_size (i := p) (v := nI s.1) C hp in3 fl25 hs.1 dX3_doubleArea_6 ?_
    refine wl_icmp_geN C (a := k) (b := s.1) (by omega) (by omega) 29 dX3_doubleArea_9 (by decide) (fun c_9 => ?_) (fun c_9 => ?_)
    · refine wl_iload_n C 1 dX3_doubleArea_29 rfl rfl ?_
      exact hret _ 30 _ (smT (arF s) k) dX3_doubleArea_30 (⟨by unfold areaS; rw [show s.1 = k by omega], rfl⟩)
    · refine wl_iload_n C 1 dX3_doubleArea_12 rfl rfl ?_
      refine wl_aload_n C 0 dX3_doubleArea_13 rfl rfl ?_
      refine wl_iload_n C 2 dX3_doubleArea_14 rfl rfl ?_
      refine wl_callVa (i := p) (n := 1) C [.int (nI k)] [.int (smT (arF s) k)] (c_X3_at _ G M p k hp (by omega)) gX3_doubleArea_X3_at rfl (by decide +kernel) (by decide) (by decide) (kd_lt hp (by decide)) (cell_k hp) rfl rfl rfl (Nat.le_of_ble_eq_true rfl) dX3_doubleArea_15 ?_
      refine wl_callVp (i := bo p k) (n := 0) C [] [.int (smT (arF s) k)] (c_X0_doubleArea _ G M (bo p k) (s.2.2.2 k) (kd_bo hp (by omega)) (hs.2.2.2.2 k (by omega)) ) gX3_doubleArea_X0_doubleArea rfl (by decide +kernel) (by decide) (by decide) (kd_lt (kd_bo hp (by omega)) (by decide)) (cell_k (kd_bo hp (by omega))) rfl rfl rfl (Nat.le_of_ble_eq_true rfl) dX3_doubleArea_18 ?_
      refine wl_iadd C dX3_doubleArea_21 ?_
      refine wl_eqi (b := smT (arF s) (k + 1)) (rfl) ?_
      refine wl_istore_n (L' := [(1, .int (smT (arF s) (k + 1))), (0, .ref (G.2.2.1 p)), (2, .int (nI k))]) C dX3_doubleArea_22 rfl (by decide) rfl ?_
      refine wl_iinc1 (k := k) (L' := [(2, .int (nI (k + 1))), (1, .int (smT (arF s) (k + 1))), (0, .ref (G.2.2.1 p))]) C 2 dX3_doubleArea_23 rfl (by decide) rfl ?_
      refine wl_goto C 4 dX3_doubleArea_26 (by decide) ?_
      refine wl_sub (L' := [(0, .ref (G.2.2.1 p)), (1, .int (smT (arF s) (k + 1))), (2, .int (nI (k + 1)))]) [2, 1, 0] rfl ?_
      exact ih (by omega)
  refine wl_sub (L' := [(0, .ref (G.2.2.1 p)), (1, .int (smT (arF s) 0)), (2, .int (nI 0))]) [2, 1, 0] rfl ?_
  exact h4 0 (Nat.zero_le _)
set_option maxHeartbeats 4000000 in
set_option maxRecDepth 100000 in
theorem c_X3_allCorners (l : Launch) (G : Gw) (M : Mem) (p : Nat) (s : St) (hp : kd p = 3) (hs : Pk M p s) : Cp l G yX3_allCorners wsX3_allCorners 1 21 [.ref (G.2.2.1 p)] M (cornS s) := by
  refine Ci.of (cc := cX3_allCorners) (maxL := 3) (ret := (some .int)) (by decide +kernel) rfl (Nat.le_of_ble_eq_true rfl) ?_
  intro x sz hl0 hr C
  subst hl0
  have C : CX x G (AA G sz) RX3 cX3_allCorners 3 wsX3_allCorners 1 21 0 0 := C
  have hret : ∀ (M0 : Mem) (pc0 : Nat) (L0 : List (Nat × Value)) (rv0 : Int32), decode cX3_allCorners pc0 = .ok (.ireturn, 1) → (fun (r : Int32) (M' : Mem) => r = cornS s ∧ M' = M) rv0 M0 → WL x G (AA G sz) 3 0 0 (xQ x (va_Qi (fun (r : Int32) (M' : Mem) => r = cornS s ∧ M' = M) (WE G) (AA G sz)) (AA G sz)) M0 pc0 L0 [.int rv0] := fun M0 pc0 L0 rv0 hd hp => wl_iret (post := (fun (r : Int32) (M' : Mem) => r = cornS s ∧ M' = M)) C hr hd hp
  show WL x G (AA G sz) 3 0 0 (xQ x (va_Qi (fun (r : Int32) (M' : Mem) => r = cornS s ∧ M' = M) (WE G) (AA G sz)) (AA G sz)) M 0 [(0, .ref (G.2.2.1 p))] []
  generalize (xQ x (va_Qi (fun (r : Int32) (M' : Mem) => r = cornS s ∧ M' = M) (WE G) (AA G sz)) (AA G sz)) = QQ at hret ⊢
  have in3 : ∀ w ∈ wsX30, w ∈ wsX3_allCorners := by decide +kernel
  have fl25 : Jvm.Cond.fieldLink RX3 25 "JammedBodies$Packing" "size" "I" ∈ wsX3_allCorners := by decide +kernel
  have in0 : ∀ w ∈ wsX00, w ∈ wsX3_allCorners := by decide +kernel
  have fl100 : Jvm.Cond.fieldLink RX3 100 "JammedBodies$Body" "corners" "I" ∈ wsX3_allCorners := by decide +kernel
  have h8 := hs.2.2.2.1
  refine wl_iconst (v := smT (coF s) 0) C dX3_allCorners_0 (by first | decide | rfl) ?_
  refine wl_istore_n (L' := [(1, .int (smT (coF s) 0)), (0, .ref (G.2.2.1 p))]) C dX3_allCorners_1 rfl (by decide) rfl ?_
  refine wl_iconst (v := nI 0) C dX3_allCorners_2 (by first | decide | rfl) ?_
  refine wl_istore_n (L' := [(2, .int (nI 0)), (1, .int (smT (coF s) 0)), (0, .ref (G.2.2.1 p))]) C dX3_allCorners_3 rfl (by decide) rfl ?_
  have h4 : ∀ k, k ≤ s.1 → WL x G (AA G sz) 3 0 0 QQ M 4 [(0, .ref (G.2.2.1 p)), (1, .int (smT (coF s) k)), (2, .int (nI k))] [] := by
    refine up_loop s.1 _ ?_
    intro k hk ih
    refine wl_iload_n C 2 dX3_allCorners_4 rfl rfl ?_
    refine wl_aload_n C 0 dX3_allCorners_5 rfl rfl ?_
    refine wl_get_Packing_size (i := p) (v := nI s.1) C hp in3 fl25 hs.1 dX3_allCorners_6 ?_
    refine wl_icmp_geN C (a := k) (b := s.1) (by omega) (by omega) 29 dX3_allCorners_9 (by decide) (fun c_9 => ?_) (fun c_9 => ?_)
    · refine wl_iload_n C 1 dX3_allCorners_29 rfl rfl ?_
      exact hret _ 30 _ (smT (coF s) k) dX3_allCorners_30 (⟨by unfold cornS; rw [show s.1 = k by omega], rfl⟩)
    · refine wl_iload_n C 1 dX3_allCorners_12 rfl rfl ?_
      refine wl_aload_n C 0 dX3_allCorners_13 rfl rfl ?_
      refine wl_iload_n C 2 dX3_allCorners_14 rfl rfl ?_
      refine wl_callVa (i := p) (n := 1) C [.int (nI k)] [.int (smT (coF s) k)] (c_X3_at _ G M p k hp (by omega)) gX3_allCorners_X3_at rfl (by decide +kernel) (by decide) (by decide) (kd_lt hp (by decide)) (cell_k hp) rfl rfl rfl (Nat.le_of_ble_eq_true rfl) dX3_allCorners_15 ?_
      refine wl_get_Body_corners (i := bo p k) (v := nI (s.2.2.2 k).1) C (kd_bo hp (by omega)) in0 fl100 (hs.2.2.2.2 k (by omega)).1 dX3_allCorners_18 ?_
      refine wl_iadd C dX3_allCorners_21 ?_
      refine wl_eqi (b := smT (coF s) (k + 1)) (rfl) ?_
      refine wl_istore_n (L' := [(1, .int (smT (coF s) (k + 1))), (0, .ref (G.2.2.1 p)), (2, .int (nI k))]) C dX3_allCorners_22 rfl (by decide) rfl ?_
      refine wl_iinc1 (k := k) (L' := [(2, .int (nI (k + 1))), (1, .int (smT (coF s) (k + 1))), (0, .ref (G.2.2.1 p))]) C 2 dX3_allCorners_23 rfl (by decide) rfl ?_
      refine wl_goto C 4 dX3_allCorners_26 (by decide) ?_
      refine wl_sub (L' := [(0, .ref (G.2.2.1 p)), (1, .int (smT (coF s) (k + 1))), (2, .int (nI (k + 1)))]) [2, 1, 0] rfl ?_
      exact ih (by omega)
  refine wl_sub (L' := [(0, .ref (G.2.2.1 p)), (1, .int (smT (coF s) 0)), (2, .int (nI 0))]) [2, 1, 0] rfl ?_
  exact h4 0 (Nat.zero_le _)
