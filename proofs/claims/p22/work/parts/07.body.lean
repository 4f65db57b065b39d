set_option maxHeartbeats 4000000 in
set_option maxRecDepth 100000 in
theorem c_X4_cross (l : Launch) (G : Gw) (M : Mem) (a1 a2 b1 b2 c1 c2 : Int32) : Cp l G yX4_cross wsX4_cross 0 0 [.int a1, .int a2, .int b1, .int b2, .int c1, .int c2] M (crs a1 a2 b1 b2 c1 c2) := by
  refine Ci.of (cc := cX4_cross) (maxL := 6) (ret := (some .int)) (by decide +kernel) rfl (Nat.le_of_ble_eq_true rfl) ?_
  intro x sz hl0 hr C
  subst hl0
  have C : CX x G (AA G sz) RX4 cX4_cross 6 wsX4_cross 0 0 0 0 := C
  have hret : ∀ (M0 : Mem) (pc0 : Nat) (L0 : List (Nat × Value)) (rv0 : Int32), decode cX4_cross pc0 = .ok (.ireturn, 1) → (fun (r : Int32) (M' : Mem) => r = crs a1 a2 b1 b2 c1 c2 ∧ M' = M) rv0 M0 → WL x G (AA G sz) 6 0 0 (xQ x (va_Qi (fun (r : Int32) (M' : Mem) => r = crs a1 a2 b1 b2 c1 c2 ∧ M' = M) (WE G) (AA G sz)) (AA G sz)) M0 pc0 L0 [.int rv0] := fun M0 pc0 L0 rv0 hd hp => wl_iret (post := (fun (r : Int32) (M' : Mem) => r = crs a1 a2 b1 b2 c1 c2 ∧ M' = M)) C hr hd hp
  show WL x G (AA G sz) 6 0 0 (xQ x (va_Qi (fun (r : Int32) (M' : Mem) => r = crs a1 a2 b1 b2 c1 c2 ∧ M' = M) (WE G) (AA G sz)) (AA G sz)) M 0 [(0, .int a1), (1, .int a2), (2, .int b1), (3, .int b2), (4, .int c1), (5, .int c2)] []
  generalize (xQ x (va_Qi (fun (r : Int32) (M' : Mem) => r = crs a1 a2 b1 b2 c1 c2 ∧ M' = M) (WE G) (AA G sz)) (AA G sz)) = QQ at hret ⊢
  refine wl_iload_n C 2 dX4_cross_0 rfl rfl ?_
  refine wl_iload_n C 0 dX4_cross_1 rfl rfl ?_
  refine wl_isub C dX4_cross_2 ?_
  refine wl_iload C 5 dX4_cross_3 rfl ?_
  refine wl_iload_n C 1 dX4_cross_5 rfl rfl ?_
  refine wl_isub C dX4_cross_6 ?_
  refine wl_imul C dX4_cross_7 ?_
  refine wl_iload_n C 3 dX4_cross_8 rfl rfl ?_
  refine wl_iload_n C 1 dX4_cross_9 rfl rfl ?_
  refine wl_isub C dX4_cross_10 ?_
  refine wl_iload C 4 dX4_cross_11 rfl ?_
  refine wl_iload_n C 0 dX4_cross_13 rfl rfl ?_
  refine wl_isub C dX4_cross_14 ?_
  refine wl_imul C dX4_cross_15 ?_
  refine wl_isub C dX4_cross_16 ?_
  exact hret _ 17 _ (((b1 - a1) * (c2 - a2)) - ((b2 - a2) * (c1 - a1))) dX4_cross_17 (⟨rfl, rfl⟩)
set_option maxHeartbeats 4000000 in
set_option maxRecDepth 100000 in
theorem c_X4_stepX (l : Launch) (G : Gw) (M : Mem) (d : Nat) (hd : d < 8) : Cp l G yX4_stepX wsX4_stepX 0 0 [.int (nI d)] M (stX d) := by
  refine Ci.of (cc := cX4_stepX) (maxL := 1) (ret := (some .int)) (by decide +kernel) rfl (Nat.le_of_ble_eq_true rfl) ?_
  intro x sz hl0 hr C
  subst hl0
  have C : CX x G (AA G sz) RX4 cX4_stepX 1 wsX4_stepX 0 0 0 0 := C
  have hret : ∀ (M0 : Mem) (pc0 : Nat) (L0 : List (Nat × Value)) (rv0 : Int32), decode cX4_stepX pc0 = .ok (.ireturn, 1) → (fun (r : Int32) (M' : Mem) => r = stX d ∧ M' = M) rv0 M0 → WL x G (AA G sz) 1 0 0 (xQ x (va_Qi (fun (r : Int32) (M' : Mem) => r = stX d ∧ M' = M) (WE G) (AA G sz)) (AA G sz)) M0 pc0 L0 [.int rv0] := fun M0 pc0 L0 rv0 hd hp => wl_iret (post := (fun (r : Int32) (M' : Mem) => r = stX d ∧ M' = M)) C hr hd hp
  show WL x G (AA G sz) 1 0 0 (xQ x (va_Qi (fun (r : Int32) (M' : Mem) => r = stX d ∧ M' = M) (WE G) (AA G sz)) (AA G sz)) M 0 [(0, .int (nI d))] []
  generalize (xQ x (va_Qi (fun (r : Int32) (M' : Mem) => r = stX d ∧ M' = M) (WE G) (AA G sz)) (AA G sz)) = QQ at hret ⊢
  have fl203 : Jvm.Cond.fieldLink RX4 203 "JammedBodies" "STEP_X" "[I" ∈ wsX4_stepX := by decide +kernel
  refine wl_iload_n C 0 dX4_stepX_0 rfl rfl ?_
  refine wl_if_lt C 20 dX4_stepX_1 (by decide) (fun c_1 => absurd c_1 (nI_pos (by omega))) (fun c_1 => ?_)
  refine wl_iload_n C 0 dX4_stepX_4 rfl rfl ?_
  refine wl_stepX C fl203 dX4_stepX_5 ?_
  refine wl_tabLenX C dX4_stepX_8 ?_
  refine wl_eqi (b := nI 8) (rfl) ?_
  refine wl_icmp_geN C (a := d) (b := 8) (by omega) (by omega) 20 dX4_stepX_9 (by decide) (fun c_9 => absurd c_9 (by omega)) (fun c_9 => ?_)
  refine wl_stepX C fl203 dX4_stepX_12 ?_
  refine wl_iload_n C 0 dX4_stepX_15 rfl rfl ?_
  refine wl_tabX (j := d) C (hd) dX4_stepX_16 ?_
  refine wl_goto C 21 dX4_stepX_17 (by decide) ?_
  exact hret _ 21 _ (stX d) dX4_stepX_21 (⟨rfl, rfl⟩)
set_option maxHeartbeats 4000000 in
set_option maxRecDepth 100000 in
theorem c_X4_stepY (l : Launch) (G : Gw) (M : Mem) (d : Nat) (hd : d < 8) : Cp l G yX4_stepY wsX4_stepY 0 0 [.int (nI d)] M (stY d) := by
  refine Ci.of (cc := cX4_stepY) (maxL := 1) (ret := (some .int)) (by decide +kernel) rfl (Nat.le_of_ble_eq_true rfl) ?_
  intro x sz hl0 hr C
  subst hl0
  have C : CX x G (AA G sz) RX4 cX4_stepY 1 wsX4_stepY 0 0 0 0 := C
  have hret : ∀ (M0 : Mem) (pc0 : Nat) (L0 : List (Nat × Value)) (rv0 : Int32), decode cX4_stepY pc0 = .ok (.ireturn, 1) → (fun (r : Int32) (M' : Mem) => r = stY d ∧ M' = M) rv0 M0 → WL x G (AA G sz) 1 0 0 (xQ x (va_Qi (fun (r : Int32) (M' : Mem) => r = stY d ∧ M' = M) (WE G) (AA G sz)) (AA G sz)) M0 pc0 L0 [.int rv0] := fun M0 pc0 L0 rv0 hd hp => wl_iret (post := (fun (r : Int32) (M' : Mem) => r = stY d ∧ M' = M)) C hr hd hp
  show WL x G (AA G sz) 1 0 0 (xQ x (va_Qi (fun (r : Int32) (M' : Mem) => r = stY d ∧ M' = M) (WE G) (AA G sz)) (AA G sz)) M 0 [(0, .int (nI d))] []
  generalize (xQ x (va_Qi (fun (r : Int32) (M' : Mem) => r = stY d ∧ M' = M) (WE G) (AA G sz)) (AA G sz)) = QQ at hret ⊢
  have fl207 : Jvm.Cond.fieldLink RX4 207 "JammedBodies" "STEP_Y" "[I" ∈ wsX4_stepY := by decide +kernel
  refine wl_iload_n C 0 dX4_stepY_0 rfl rfl ?_
  refine wl_if_lt C 20 dX4_stepY_1 (by decide) (fun c_1 => absurd c_1 (nI_pos (by omega))) (fun c_1 => ?_)
  refine wl_iload_n C 0 dX4_stepY_4 rfl rfl ?_
  refine wl_stepY C fl207 dX4_stepY_5 ?_
  refine wl_tabLenY C dX4_stepY_8 ?_
  refine wl_eqi (b := nI 8) (rfl) ?_
  refine wl_icmp_geN C (a := d) (b := 8) (by omega) (by omega) 20 dX4_stepY_9 (by decide) (fun c_9 => absurd c_9 (by omega)) (fun c_9 => ?_)
  refine wl_stepY C fl207 dX4_stepY_12 ?_
  refine wl_iload_n C 0 dX4_stepY_15 rfl rfl ?_
  refine wl_tabY (j := d) C (hd) dX4_stepY_16 ?_
  refine wl_goto C 21 dX4_stepY_17 (by decide) ?_
  exact hret _ 21 _ (stY d) dX4_stepY_21 (⟨rfl, rfl⟩)
set_option maxHeartbeats 4000000 in
set_option maxRecDepth 100000 in
theorem c_X0_x (l : Launch) (G : Gw) (M : Mem) (b k : Nat) (P : Py) (hb : kd b = 0) (hB : Bd M b P) (hk : k < P.1) : Cp l G yX0_x wsX0_x 0 0 [.ref (G.2.2.1 b), .int (nI k)] M (P.2.1 k) := by
  refine Ci.of (cc := cX0_x) (maxL := 2) (ret := (some .int)) (by decide +kernel) rfl (Nat.le_of_ble_eq_true rfl) ?_
  intro x sz hl0 hr C
  subst hl0
  have C : CX x G (AA G sz) RX0 cX0_x 2 wsX0_x 0 0 0 0 := C
  have hret : ∀ (M0 : Mem) (pc0 : Nat) (L0 : List (Nat × Value)) (rv0 : Int32), decode cX0_x pc0 = .ok (.ireturn, 1) → (fun (r : Int32) (M' : Mem) => r = P.2.1 k ∧ M' = M) rv0 M0 → WL x G (AA G sz) 2 0 0 (xQ x (va_Qi (fun (r : Int32) (M' : Mem) => r = P.2.1 k ∧ M' = M) (WE G) (AA G sz)) (AA G sz)) M0 pc0 L0 [.int rv0] := fun M0 pc0 L0 rv0 hd hp => wl_iret (post := (fun (r : Int32) (M' : Mem) => r = P.2.1 k ∧ M' = M)) C hr hd hp
  show WL x G (AA G sz) 2 0 0 (xQ x (va_Qi (fun (r : Int32) (M' : Mem) => r = P.2.1 k ∧ M' = M) (WE G) (AA G sz)) (AA G sz)) M 0 [(0, .ref (G.2.2.1 b)), (1, .int (nI k))] []
  generalize (xQ x (va_Qi (fun (r : Int32) (M' : Mem) => r = P.2.1 k ∧ M' = M) (WE G) (AA G sz)) (AA G sz)) = QQ at hret ⊢
  have in0 : ∀ w ∈ wsX00, w ∈ wsX0_x := by decide +kernel
  have fl9 : Jvm.Cond.fieldLink RX0 9 "JammedBodies$Body" "xs" "[I" ∈ wsX0_x := by decide +kernel
  have h6 : k < 6 := Nat.lt_of_lt_of_le hk hB.2.1
  refine wl_iload_n C 1 dX0_x_0 rfl rfl ?_
  refine wl_if_lt C 22 dX0_x_1 (by decide) (fun c_1 => absurd c_1 (nI_pos (by omega))) (fun c_1 => ?_)
  refine wl_iload_n C 1 dX0_x_4 rfl rfl ?_
  refine wl_aload_n C 0 dX0_x_5 rfl rfl ?_
  refine wl_get_Body_xs (i := b) C hb in0 fl9 dX0_x_6 ?_
  refine wl_alenI (i := b + 1) C (kd_xs hb) dX0_x_9 ?_
  refine wl_eqi (b := nI 6) (rfl) ?_
  refine wl_icmp_geN C (a := k) (b := 6) (by omega) (by omega) 22 dX0_x_10 (by decide) (fun c_10 => absurd c_10 (by omega)) (fun c_10 => ?_)
  refine wl_aload_n C 0 dX0_x_13 rfl rfl ?_
  refine wl_get_Body_xs (i := b) C hb in0 fl9 dX0_x_14 ?_
  refine wl_iload_n C 1 dX0_x_17 rfl rfl ?_
  refine wl_iald (j := k) (n := 6) (v := P.2.1 k) C (kd_lt (kd_xs hb) (by decide)) (cell_k (kd_xs hb)) (rfl) (h6) (by decide) (hB.2.2.1 k hk) dX0_x_18 ?_
  refine wl_goto C 23 dX0_x_19 (by decide) ?_
  exact hret _ 23 _ (P.2.1 k) dX0_x_23 (⟨rfl, rfl⟩)
set_option maxHeartbeats 4000000 in
set_option maxRecDepth 100000 in
theorem c_X0_y (l : Launch) (G : Gw) (M : Mem) (b k : Nat) (P : Py) (hb : kd b = 0) (hB : Bd M b P) (hk : k < P.1) : Cp l G yX0_y wsX0_y 0 0 [.ref (G.2.2.1 b), .int (nI k)] M (P.2.2 k) := by
  refine Ci.of (cc := cX0_y) (maxL := 2) (ret := (some .int)) (by decide +kernel) rfl (Nat.le_of_ble_eq_true rfl) ?_
  intro x sz hl0 hr C
  subst hl0
  have C : CX x G (AA G sz) RX0 cX0_y 2 wsX0_y 0 0 0 0 := C
  have hret : ∀ (M0 : Mem) (pc0 : Nat) (L0 : List (Nat × Value)) (rv0 : Int32), decode cX0_y pc0 = .ok (.ireturn, 1) → (fun (r : Int32) (M' : Mem) => r = P.2.2 k ∧ M' = M) rv0 M0 → WL x G (AA G sz) 2 0 0 (xQ x (va_Qi (fun (r : Int32) (M' : Mem) => r = P.2.2 k ∧ M' = M) (WE G) (AA G sz)) (AA G sz)) M0 pc0 L0 [.int rv0] := fun M0 pc0 L0 rv0 hd hp => wl_iret (post := (fun (r : Int32) (M' : Mem) => r = P.2.2 k ∧ M' = M)) C hr hd hp
  show WL x G (AA G sz) 2 0 0 (xQ x (va_Qi (fun (r : Int32) (M' : Mem) => r = P.2.2 k ∧ M' = M) (WE G) (AA G sz)) (AA G sz)) M 0 [(0, .ref (G.2.2.1 b)), (1, .int (nI k))] []
  generalize (xQ x (va_Qi (fun (r : Int32) (M' : Mem) => r = P.2.2 k ∧ M' = M) (WE G) (AA G sz)) (AA G sz)) = QQ at hret ⊢
  have in0 : ∀ w ∈ wsX00, w ∈ wsX0_y := by decide +kernel
  have fl15 : Jvm.Cond.fieldLink RX0 15 "JammedBodies$Body" "ys" "[I" ∈ wsX0_y := by decide +kernel
  have h6 : k < 6 := Nat.lt_of_lt_of_le hk hB.2.1
  refine wl_iload_n C 1 dX0_y_0 rfl rfl ?_
  refine wl_if_lt C 22 dX0_y_1 (by decide) (fun c_1 => absurd c_1 (nI_pos (by omega))) (fun c_1 => ?_)
  refine wl_iload_n C 1 dX0_y_4 rfl rfl ?_
  refine wl_aload_n C 0 dX0_y_5 rfl rfl ?_
  refine wl_get_Body_ys (i := b) C hb in0 fl15 dX0_y_6 ?_
  refine wl_alenI (i := b + 2) C (kd_ys hb) dX0_y_9 ?_
  refine wl_eqi (b := nI 6) (rfl) ?_
  refine wl_icmp_geN C (a := k) (b := 6) (by omega) (by omega) 22 dX0_y_10 (by decide) (fun c_10 => absurd c_10 (by omega)) (fun c_10 => ?_)
  refine wl_aload_n C 0 dX0_y_13 rfl rfl ?_
  refine wl_get_Body_ys (i := b) C hb in0 fl15 dX0_y_14 ?_
  refine wl_iload_n C 1 dX0_y_17 rfl rfl ?_
  refine wl_iald (j := k) (n := 6) (v := P.2.2 k) C (kd_lt (kd_ys hb) (by decide)) (cell_k (kd_ys hb)) (rfl) (h6) (by decide) (hB.2.2.2 k hk) dX0_y_18 ?_
  refine wl_goto C 23 dX0_y_19 (by decide) ?_
  exact hret _ 23 _ (P.2.2 k) dX0_y_23 (⟨rfl, rfl⟩)
set_option maxHeartbeats 4000000 in
set_option maxRecDepth 100000 in
theorem c_X0_place (l : Launch) (G : Gw) (M : Mem) (b k : Nat) (u v : Int32) (hb : kd b = 0) (hk : k < 6) : Cv l G yX0_place wsX0_place 0 0 [.ref (G.2.2.1 b), .int (nI k), .int u, .int v] M (fun M' => M' = mset (mset M (b + 1) k u) (b + 2) k v) := by
  refine Cv.of (cc := cX0_place) (maxL := 4) (ret := none) (by decide +kernel) rfl (Nat.le_of_ble_eq_true rfl) ?_
  intro x sz hl0 hr C
  subst hl0
  have C : CX x G (AA G sz) RX0 cX0_place 4 wsX0_place 0 0 0 0 := C
  have hret : ∀ (M0 : Mem) (pc0 : Nat) (L0 : List (Nat × Value)), decode cX0_place pc0 = .ok (.return_, 1) → (fun M' => M' = mset (mset M (b + 1) k u) (b + 2) k v) M0 → WL x G (AA G sz) 4 0 0 (xQ x (va_Qv (fun M' => M' = mset (mset M (b + 1) k u) (b + 2) k v) (WE G) (AA G sz)) (AA G sz)) M0 pc0 L0 [] := fun M0 pc0 L0 hd hp => wl_vret (post := (fun M' => M' = mset (mset M (b + 1) k u) (b + 2) k v)) C hr hd hp
  show WL x G (AA G sz) 4 0 0 (xQ x (va_Qv (fun M' => M' = mset (mset M (b + 1) k u) (b + 2) k v) (WE G) (AA G sz)) (AA G sz)) M 0 [(0, .ref (G.2.2.1 b)), (1, .int (nI k)), (2, .int u), (3, .int v)] []
  generalize (xQ x (va_Qv (fun M' => M' = mset (mset M (b + 1) k u) (b + 2) k v) (WE G) (AA G sz)) (AA G sz)) = QQ at hret ⊢
  have in0 : ∀ w ∈ wsX00, w ∈ wsX0_place := by decide +kernel
  have fl9 : Jvm.Cond.fieldLink RX0 9 "JammedBodies$Body" "xs" "[I" ∈ wsX0_place := by decide +kernel
  have fl15 : Jvm.Cond.fieldLink RX0 15 "JammedBodies$Body" "ys" "[I" ∈ wsX0_place := by decide +kernel
  refine wl_iload_n C 1 dX0_place_0 rfl rfl ?_
  refine wl_if_lt C 36 dX0_place_1 (by decide) (fun c_1 => absurd c_1 (nI_pos (by omega))) (fun c_1 => ?_)
  refine wl_iload_n C 1 dX0_place_4 rfl rfl ?_
  refine wl_aload_n C 0 dX0_place_5 rfl rfl ?_
  refine wl_get_Body_xs (i := b) C hb in0 fl9 dX0_place_6 ?_
  refine wl_alenI (i := b + 1) C (kd_xs hb) dX0_place_9 ?_
  refine wl_eqi (b := nI 6) (rfl) ?_
  refine wl_icmp_geN C (a := k) (b := 6) (by omega) (by omega) 36 dX0_place_10 (by decide) (fun c_10 => absurd c_10 (by omega)) (fun c_10 => ?_)
  refine wl_iload_n C 1 dX0_place_13 rfl rfl ?_
  refine wl_aload_n C 0 dX0_place_14 rfl rfl ?_
  refine wl_get_Body_ys (i := b) C hb in0 fl15 dX0_place_15 ?_
  refine wl_alenI (i := b + 2) C (kd_ys hb) dX0_place_18 ?_
  refine wl_eqi (b := nI 6) (rfl) ?_
  refine wl_icmp_geN C (a := k) (b := 6) (by omega) (by omega) 36 dX0_place_19 (by decide) (fun c_19 => absurd c_19 (by omega)) (fun c_19 => ?_)
  refine wl_aload_n C 0 dX0_place_22 rfl rfl ?_
  refine wl_get_Body_xs (i := b) C hb in0 fl9 dX0_place_23 ?_
  refine wl_iload_n C 1 dX0_place_26 rfl rfl ?_
  refine wl_iload_n C 2 dX0_place_27 rfl rfl ?_
  refine wl_iast (j := k) (n := 6) C (kd_lt (kd_xs hb) (by decide)) (fun M => (cell_k (kd_xs hb))) (rfl) (hk) (by decide) dX0_place_28 ?_
  refine wl_aload_n C 0 dX0_place_29 rfl rfl ?_
  refine wl_get_Body_ys (i := b) C hb in0 fl15 dX0_place_30 ?_
  refine wl_iload_n C 1 dX0_place_33 rfl rfl ?_
  refine wl_iload_n C 3 dX0_place_34 rfl rfl ?_
  refine wl_iast (j := k) (n := 6) C (kd_lt (kd_ys hb) (by decide)) (fun M => (cell_k (kd_ys hb))) (rfl) (hk) (by decide) dX0_place_35 ?_
  exact hret _ 36 _ dX0_place_36 (rfl)
set_option maxHeartbeats 4000000 in
set_option maxRecDepth 100000 in
theorem c_X0_addCorner (l : Launch) (G : Gw) (M : Mem) (b n : Nat) (u v : Int32) (hb : kd b = 0) (hn : M b 2 = nI n) (h6 : n < 6) : Cv l G yX0_addCorner wsX0_addCorner 1 23 [.ref (G.2.2.1 b), .int u, .int v] M (fun M' => M' = mset (mset (mset M (b + 1) n u) (b + 2) n v) b 2 (nI (n + 1))) := by
  refine Cv.of (cc := cX0_addCorner) (maxL := 3) (ret := none) (by decide +kernel) rfl (Nat.le_of_ble_eq_true rfl) ?_
  intro x sz hl0 hr C
  subst hl0
  have C : CX x G (AA G sz) RX0 cX0_addCorner 3 wsX0_addCorner 1 23 0 0 := C
  have hret : ∀ (M0 : Mem) (pc0 : Nat) (L0 : List (Nat × Value)), decode cX0_addCorner pc0 = .ok (.return_, 1) → (fun M' => M' = mset (mset (mset M (b + 1) n u) (b + 2) n v) b 2 (nI (n + 1))) M0 → WL x G (AA G sz) 3 0 0 (xQ x (va_Qv (fun M' => M' = mset (mset (mset M (b + 1) n u) (b + 2) n v) b 2 (nI (n + 1))) (WE G) (AA G sz)) (AA G sz)) M0 pc0 L0 [] := fun M0 pc0 L0 hd hp => wl_vret (post := (fun M' => M' = mset (mset (mset M (b + 1) n u) (b + 2) n v) b 2 (nI (n + 1)))) C hr hd hp
  show WL x G (AA G sz) 3 0 0 (xQ x (va_Qv (fun M' => M' = mset (mset (mset M (b + 1) n u) (b + 2) n v) b 2 (nI (n + 1))) (WE G) (AA G sz)) (AA G sz)) M 0 [(0, .ref (G.2.2.1 b)), (1, .int u), (2, .int v)] []
  generalize (xQ x (va_Qv (fun M' => M' = mset (mset (mset M (b + 1) n u) (b + 2) n v) b 2 (nI (n + 1))) (WE G) (AA G sz)) (AA G sz)) = QQ at hret ⊢
  have in0 : ∀ w ∈ wsX00, w ∈ wsX0_addCorner := by decide +kernel
  have fl18 : Jvm.Cond.fieldLink RX0 18 "JammedBodies$Body" "corners" "I" ∈ wsX0_addCorner := by decide +kernel
  refine wl_aload_n C 0 dX0_addCorner_0 rfl rfl ?_
  refine wl_get_Body_corners (i := b) (v := nI n) C hb in0 fl18 hn dX0_addCorner_1 ?_
  refine wl_bipush (v := nI 6) C dX0_addCorner_4 (by decide) ?_
  refine wl_icmp_geN C (a := n) (b := 6) (by omega) (by omega) 29 dX0_addCorner_6 (by decide) (fun c_6 => absurd c_6 (by omega)) (fun c_6 => ?_)
  refine wl_aload_n C 0 dX0_addCorner_9 rfl rfl ?_
  refine wl_aload_n C 0 dX0_addCorner_10 rfl rfl ?_
  refine wl_get_Body_corners (i := b) (v := nI n) C hb in0 fl18 hn dX0_addCorner_11 ?_
  refine wl_iload_n C 1 dX0_addCorner_14 rfl rfl ?_
  refine wl_iload_n C 2 dX0_addCorner_15 rfl rfl ?_
  refine wl_callVv (i := b) (n := 3) C [.int (nI n), .int u, .int v] [] (c_X0_place _ G M b n u v hb h6) gX0_addCorner_X0_place rfl (by decide +kernel) (by decide) (by decide) (kd_lt hb (by decide)) (cell_k hb) rfl rfl rfl (Nat.le_of_ble_eq_true rfl) dX0_addCorner_16 (fun M1 e1 => ?_)
  have hn1 : M1 b 2 = nI n := by rw [e1, mset_ne (by omega), mset_ne (by omega)]; exact hn
  refine wl_aload_n C 0 dX0_addCorner_19 rfl rfl ?_
  refine wl_dup C dX0_addCorner_20 rfl ?_
  refine wl_get_Body_corners (i := b) (v := nI n) C hb in0 fl18 hn1 dX0_addCorner_21 ?_
  refine wl_iconst (v := 1) C dX0_addCorner_24 (by decide) ?_
  refine wl_iadd C dX0_addCorner_25 ?_
  refine wl_eqi (b := nI (n + 1)) (nI_1 n) ?_
  refine wl_put_Body_corners (i := b) C hb in0 fl18 dX0_addCorner_26 ?_
  exact hret _ 29 _ dX0_addCorner_29 (by rw [e1])
set_option maxHeartbeats 4000000 in
set_option maxRecDepth 100000 in
theorem c_X0_following (l : Launch) (G : Gw) (M : Mem) (b k : Nat) (P : Py) (hb : kd b = 0) (hB : Bd M b P) (hk : k < P.1) : Cp l G yX0_following wsX0_following 0 0 [.ref (G.2.2.1 b), .int (nI k)] M (nI (nx P.1 k)) := by
  refine Ci.of (cc := cX0_following) (maxL := 2) (ret := (some .int)) (by decide +kernel) rfl (Nat.le_of_ble_eq_true rfl) ?_
  intro x sz hl0 hr C
  subst hl0
  have C : CX x G (AA G sz) RX0 cX0_following 2 wsX0_following 0 0 0 0 := C
  have hret : ∀ (M0 : Mem) (pc0 : Nat) (L0 : List (Nat × Value)) (rv0 : Int32), decode cX0_following pc0 = .ok (.ireturn, 1) → (fun (r : Int32) (M' : Mem) => r = nI (nx P.1 k) ∧ M' = M) rv0 M0 → WL x G (AA G sz) 2 0 0 (xQ x (va_Qi (fun (r : Int32) (M' : Mem) => r = nI (nx P.1 k) ∧ M' = M) (WE G) (AA G sz)) (AA G sz)) M0 pc0 L0 [.int rv0] := fun M0 pc0 L0 rv0 hd hp => wl_iret (post := (fun (r : Int32) (M' : Mem) => r = nI (nx P.1 k) ∧ M' = M)) C hr hd hp
  show WL x G (AA G sz) 2 0 0 (xQ x (va_Qi (fun (r : Int32) (M' : Mem) => r = nI (nx P.1 k) ∧ M' = M) (WE G) (AA G sz)) (AA G sz)) M 0 [(0, .ref (G.2.2.1 b)), (1, .int (nI k))] []
  generalize (xQ x (va_Qi (fun (r : Int32) (M' : Mem) => r = nI (nx P.1 k) ∧ M' = M) (WE G) (AA G sz)) (AA G sz)) = QQ at hret ⊢
  have in0 : ∀ w ∈ wsX00, w ∈ wsX0_following := by decide +kernel
  have fl18 : Jvm.Cond.fieldLink RX0 18 "JammedBodies$Body" "corners" "I" ∈ wsX0_following := by decide +kernel
  have h6 : k < 6 := Nat.lt_of_lt_of_le hk hB.2.1
  have h7 := hB.2.1
  refine wl_iload_n C 1 dX0_following_0 rfl rfl ?_
  refine wl_iconst (v := 1) C dX0_following_1 (by decide) ?_
  refine wl_iadd C dX0_following_2 ?_
  refine wl_eqi (b := nI (k + 1)) (nI_1 k) ?_
  refine wl_aload_n C 0 dX0_following_3 rfl rfl ?_
  refine wl_get_Body_corners (i := b) (v := nI P.1) C hb in0 fl18 hB.1 dX0_following_4 ?_
  refine wl_icmp_geN C (a := (k + 1)) (b := P.1) (by omega) (by omega) 16 dX0_following_7 (by decide) (fun c_7 => ?_) (fun c_7 => ?_)
  · refine wl_iconst (v := 0) C dX0_following_16 (by decide) ?_
    exact hret _ 17 _ 0 dX0_following_17 (⟨by unfold nx; rw [if_neg (by omega)]; rfl, rfl⟩)
  · refine wl_iload_n C 1 dX0_following_10 rfl rfl ?_
    refine wl_iconst (v := 1) C dX0_following_11 (by decide) ?_
    refine wl_iadd C dX0_following_12 ?_
    refine wl_eqi (b := nI (k + 1)) (nI_1 k) ?_
    refine wl_goto C 17 dX0_following_13 (by decide) ?_
    exact hret _ 17 _ (nI (k + 1)) dX0_following_17 (⟨by unfold nx; rw [if_pos (by omega)], rfl⟩)
set_option maxHeartbeats 4000000 in
set_option maxRecDepth 100000 in
theorem c_X0_left (l : Launch) (G : Gw) (M : Mem) (b : Nat) (P : Py) (hb : kd b = 0) (hB : Bd M b P) (h0 : 0 < P.1) : Cp l G yX0_left wsX0_left 1 21 [.ref (G.2.2.1 b)] M (pL P) := by
  refine Ci.of (cc := cX0_left) (maxL := 3) (ret := (some .int)) (by decide +kernel) rfl (Nat.le_of_ble_eq_true rfl) ?_
  intro x sz hl0 hr C
  subst hl0
  have C : CX x G (AA G sz) RX0 cX0_left 3 wsX0_left 1 21 0 0 := C
  have hret : ∀ (M0 : Mem) (pc0 : Nat) (L0 : List (Nat × Value)) (rv0 : Int32), decode cX0_left pc0 = .ok (.ireturn, 1) → (fun (r : Int32) (M' : Mem) => r = pL P ∧ M' = M) rv0 M0 → WL x G (AA G sz) 3 0 0 (xQ x (va_Qi (fun (r : Int32) (M' : Mem) => r = pL P ∧ M' = M) (WE G) (AA G sz)) (AA G sz)) M0 pc0 L0 [.int rv0] := fun M0 pc0 L0 rv0 hd hp => wl_iret (post := (fun (r : Int32) (M' : Mem) => r = pL P ∧ M' = M)) C hr hd hp
  show WL x G (AA G sz) 3 0 0 (xQ x (va_Qi (fun (r : Int32) (M' : Mem) => r = pL P ∧ M' = M) (WE G) (AA G sz)) (AA G sz)) M 0 [(0, .ref (G.2.2.1 b))] []
  generalize (xQ x (va_Qi (fun (r : Int32) (M' : Mem) => r = pL P ∧ M' = M) (WE G) (AA G sz)) (AA G sz)) = QQ at hret ⊢
  have in0 : ∀ w ∈ wsX00, w ∈ wsX0_left := by decide +kernel
  have fl18 : Jvm.Cond.fieldLink RX0 18 "JammedBodies$Body" "corners" "I" ∈ wsX0_left := by decide +kernel
  have ml43 : Jvm.Cond.methodLink RX0 43 Lib.Math.min.name ∈ wsX0_left := by decide +kernel
  have m2min : Jvm.Cond.static Lib.Math.min.name ∈ wsX0_left := by decide +kernel
  have m3 : Jvm.Cond.initialized "java/lang/Math" ∈ wsX0_left := by decide +kernel
  have m4min : Jvm.Cond.code Lib.Math.min.name Lib.Math.min.code 2 (some .int) ∈ wsX0_left := by decide +kernel
  have h7 := hB.2.1
  refine wl_aload_n C 0 dX0_left_0 rfl rfl ?_
  refine wl_iconst (v := nI 0) C dX0_left_1 (by first | decide | rfl) ?_
  refine wl_callVp (i := b) (n := 1) C [.int (nI 0)] [] (c_X0_x _ G M b 0 P hb hB (by omega)) gX0_left_X0_x rfl (by decide +kernel) (by decide) (by decide) (kd_lt hb (by decide)) (cell_k hb) rfl rfl rfl (Nat.le_of_ble_eq_true rfl) dX0_left_2 ?_
  refine wl_eqi (b := mnT P.2.1 0) (rfl) ?_
  refine wl_istore_n (L' := [(1, .int (mnT P.2.1 0)), (0, .ref (G.2.2.1 b))]) C dX0_left_5 rfl (by decide) rfl ?_
  refine wl_iconst (v := nI (0 + 1)) C dX0_left_6 (by first | decide | rfl) ?_
  refine wl_istore_n (L' := [(2, .int (nI (0 + 1))), (1, .int (mnT P.2.1 0)), (0, .ref (G.2.2.1 b))]) C dX0_left_7 rfl (by decide) rfl ?_
  have h8 : ∀ k, k ≤ P.1 - 1 → WL x G (AA G sz) 3 0 0 QQ M 8 [(0, .ref (G.2.2.1 b)), (1, .int (mnT P.2.1 k)), (2, .int (nI (k + 1)))] [] := by
    refine up_loop (P.1 - 1) _ ?_
    intro k hk ih
    refine wl_iload_n C 2 dX0_left_8 rfl rfl ?_
    refine wl_aload_n C 0 dX0_left_9 rfl rfl ?_
    refine wl_get_Body_corners (i := b) (v := nI P.1) C hb in0 fl18 hB.1 dX0_left_10 ?_
    refine wl_icmp_geN C (a := (k + 1)) (b := P.1) (by omega) (by omega) 32 dX0_left_13 (by decide) (fun c_13 => ?_) (fun c_13 => ?_)
    · refine wl_iload_n C 1 dX0_left_32 rfl rfl ?_
      exact hret _ 33 _ (mnT P.2.1 k) dX0_left_33 (⟨by unfold pL; rw [show P.1 - 1 = k by omega], rfl⟩)
    · refine wl_iload_n C 1 dX0_left_16 rfl rfl ?_
      refine wl_aload_n C 0 dX0_left_17 rfl rfl ?_
      refine wl_iload_n C 2 dX0_left_18 rfl rfl ?_
      refine wl_callVp (i := b) (n := 1) C [.int (nI (k + 1))] [.int (mnT P.2.1 k)] (c_X0_x _ G M b (k + 1) P hb hB (by omega)) gX0_left_X0_x rfl (by decide +kernel) (by decide) (by decide) (kd_lt hb (by decide)) (cell_k hb) rfl rfl rfl (Nat.le_of_ble_eq_true rfl) dX0_left_19 ?_
      refine wl_min C ml43 m2min m3 m4min (by decide) (Nat.le_of_ble_eq_true rfl) dX0_left_22 ?_
      refine wl_eqi (b := mnT P.2.1 (k + 1)) (rfl) ?_
      refine wl_istore_n (L' := [(1, .int (mnT P.2.1 (k + 1))), (0, .ref (G.2.2.1 b)), (2, .int (nI (k + 1)))]) C dX0_left_25 rfl (by decide) rfl ?_
      refine wl_iinc1 (k := (k + 1)) (L' := [(2, .int (nI ((k + 1) + 1))), (1, .int (mnT P.2.1 (k + 1))), (0, .ref (G.2.2.1 b))]) C 2 dX0_left_26 rfl (by decide) rfl ?_
      refine wl_goto C 8 dX0_left_29 (by decide) ?_
      refine wl_sub (L' := [(0, .ref (G.2.2.1 b)), (1, .int (mnT P.2.1 (k + 1))), (2, .int (nI ((k + 1) + 1)))]) [2, 1, 0] rfl ?_
      exact ih (by omega)
  refine wl_sub (L' := [(0, .ref (G.2.2.1 b)), (1, .int (mnT P.2.1 0)), (2, .int (nI (0 + 1)))]) [2, 1, 0] rfl ?_
  exact h8 0 (Nat.zero_le _)
set_option maxHeartbeats 4000000 in
set_option maxRecDepth 100000 in
theorem c_X0_right (l : Launch) (G : Gw) (M : Mem) (b : Nat) (P : Py) (hb : kd b = 0) (hB : Bd M b P) (h0 : 0 < P.1) : Cp l G yX0_right wsX0_right 1 21 [.ref (G.2.2.1 b)] M (pR P) := by
  refine Ci.of (cc := cX0_right) (maxL := 3) (ret := (some .int)) (by decide +kernel) rfl (Nat.le_of_ble_eq_true rfl) ?_
  intro x sz hl0 hr C
  subst hl0
  have C : CX x G (AA G sz) RX0 cX0_right 3 wsX0_right 1 21 0 0 := C
  have hret : ∀ (M0 : Mem) (pc0 : Nat) (L0 : List (Nat × Value)) (rv0 : Int32), decode cX0_right pc0 = .ok (.ireturn, 1) → (fun (r : Int32) (M' : Mem) => r = pR P ∧ M' = M) rv0 M0 → WL x G (AA G sz) 3 0 0 (xQ x (va_Qi (fun (r : Int32) (M' : Mem) => r = pR P ∧ M' = M) (WE G) (AA G sz)) (AA G sz)) M0 pc0 L0 [.int rv0] := fun M0 pc0 L0 rv0 hd hp => wl_iret (post := (fun (r : Int32) (M' : Mem) => r = pR P ∧ M' = M)) C hr hd hp
  show WL x G (AA G sz) 3 0 0 (xQ x (va_Qi (fun (r : Int32) (M' : Mem) => r = pR P ∧ M' = M) (WE G) (AA G sz)) (AA G sz)) M 0 [(0, .ref (G.2.2.1 b))] []
  generalize (xQ x (va_Qi (fun (r : Int32) (M' : Mem) => r = pR P ∧ M' = M) (WE G) (AA G sz)) (AA G sz)) = QQ at hret ⊢
  have in0 : ∀ w ∈ wsX00, w ∈ wsX0_right := by decide +kernel
  have fl18 : Jvm.Cond.fieldLink RX0 18 "JammedBodies$Body" "corners" "I" ∈ wsX0_right := by decide +kernel
  have ml49 : Jvm.Cond.methodLink RX0 49 Lib.Math.max.name ∈ wsX0_right := by decide +kernel
  have m2max : Jvm.Cond.static Lib.Math.max.name ∈ wsX0_right := by decide +kernel
  have m3 : Jvm.Cond.initialized "java/lang/Math" ∈ wsX0_right := by decide +kernel
  have m4max : Jvm.Cond.code Lib.Math.max.name Lib.Math.max.code 2 (some .int) ∈ wsX0_right := by decide +kernel
  have h7 := hB.2.1
  refine wl_aload_n C 0 dX0_right_0 rfl rfl ?_
  refine wl_iconst (v := nI 0) C dX0_right_1 (by first | decide | rfl) ?_
  refine wl_callVp (i := b) (n := 1) C [.int (nI 0)] [] (c_X0_x _ G M b 0 P hb hB (by omega)) gX0_right_X0_x rfl (by decide +kernel) (by decide) (by decide) (kd_lt hb (by decide)) (cell_k hb) rfl rfl rfl (Nat.le_of_ble_eq_true rfl) dX0_right_2 ?_
  refine wl_eqi (b := mxT P.2.1 0) (rfl) ?_
  refine wl_istore_n (L' := [(1, .int (mxT P.2.1 0)), (0, .ref (G.2.2.1 b))]) C dX0_right_5 rfl (by decide) rfl ?_
  refine wl_iconst (v := nI (0 + 1)) C dX0_right_6 (by first | decide | rfl) ?_
  refine wl_istore_n (L' := [(2, .int (nI (0 + 1))), (1, .int (mxT P.2.1 0)), (0, .ref (G.2.2.1 b))]) C dX0_right_7 rfl (by decide) rfl ?_
  have h8 : ∀ k, k ≤ P.1 - 1 → WL x G (AA G sz) 3 0 0 QQ M 8 [(0, .ref (G.2.2.1 b)), (1, .int (mxT P.2.1 k)), (2, .int (nI (k + 1)))] [] := by
    refine up_loop (P.1 - 1) _ ?_
    intro k hk ih
    refine wl_iload_n C 2 dX0_right_8 rfl rfl ?_
    refine wl_aload_n C 0 dX0_right_9 rfl rfl ?_
    refine wl_get_Body_corners (i := b) (v := nI P.1) C hb in0 fl18 hB.1 dX0_right_10 ?_
    refine wl_icmp_geN C (a := (k + 1)) (b := P.1) (by omega) (by omega) 32 dX0_right_13 (by decide) (fun c_13 => ?_) (fun c_13 => ?_)
    · refine wl_iload_n C 1 dX0_right_32 rfl rfl ?_
      exact hret _ 33 _ (mxT P.2.1 k) dX0_right_33 (⟨by unfold pR; rw [show P.1 - 1 = k by omega], rfl⟩)
    · refine wl_iload_n C 1 dX0_right_16 rfl rfl ?_
      refine wl_aload_n C 0 dX0_right_17 rfl rfl ?_
      refine wl_iload_n C 2 dX0_right_18 rfl rfl ?_
      refine wl_callVp (i := b) (n := 1) C [.int (nI (k + 1))] [.int (mxT P.2.1 k)] (c_X0_x _ G M b (k + 1) P hb hB (by omega)) gX0_right_X0_x rfl (by decide +kernel) (by decide) (by decide) (kd_lt hb (by decide)) (cell_k hb) rfl rfl rfl (Nat.le_of_ble_eq_true rfl) dX0_right_19 ?_
      refine wl_max C ml49 m2max m3 m4max (by decide) (Nat.le_of_ble_eq_true rfl) dX0_right_22 ?_
      refine wl_eqi (b := mxT P.2.1 (k + 1)) (rfl) ?_
      refine wl_istore_n (L' := [(1, .int (mxT P.2.1 (k + 1))), (0, .ref (G.2.2.1 b)), (2, .int (nI (k + 1)))]) C dX0_right_25 rfl (by decide) rfl ?_
      refine wl_iinc1 (k := (k + 1)) (L' := [(2, .int (nI ((k + 1) + 1))), (1, .int (mxT P.2.1 (k + 1))), (0, .ref (G.2.2.1 b))]) C 2 dX0_right_26 rfl (by decide) rfl ?_
      refine wl_goto C 8 dX0_right_29 (by decide) ?_
      refine wl_sub (L' := [(0, .ref (G.2.2.1 b)), (1, .int (mxT P.2.1 (k + 1))), (2, .int (nI ((k + 1) + 1)))]) [2, 1, 0] rfl ?_
      exact ih (by omega)
  refine wl_sub (L' := [(0, .ref (G.2.2.1 b)), (1, .int (mxT P.2.1 0)), (2, .int (nI (0 + 1)))]) [2, 1, 0] rfl ?_
  exact h8 0 (Nat.zero_le _)
set_option maxHeartbeats 4000000 in
set_option maxRecDepth 100000 in
theorem c_X0_low (l : Launch) (G : Gw) (M : Mem) (b : Nat) (P : Py) (hb : kd b = 0) (hB : Bd M b P) (h0 : 0 < P.1) : Cp l G yX0_low wsX0_low 1 21 [.ref (G.2.2.1 b)] M (pB P) := by
  refine Ci.of (cc := cX0_low) (maxL := 3) (ret := (some .int)) (by decide +kernel) rfl (Nat.le_of_ble_eq_true rfl) ?_
  intro x sz hl0 hr C
  subst hl0
  have C : CX x G (AA G sz) RX0 cX0_low 3 wsX0_low 1 21 0 0 := C
  have hret : ∀ (M0 : Mem) (pc0 : Nat) (L0 : List (Nat × Value)) (rv0 : Int32), decode cX0_low pc0 = .ok (.ireturn, 1) → (fun (r : Int32) (M' : Mem) => r = pB P ∧ M' = M) rv0 M0 → WL x G (AA G sz) 3 0 0 (xQ x (va_Qi (fun (r : Int32) (M' : Mem) => r = pB P ∧ M' = M) (WE G) (AA G sz)) (AA G sz)) M0 pc0 L0 [.int rv0] := fun M0 pc0 L0 rv0 hd hp => wl_iret (post := (fun (r : Int32) (M' : Mem) => r = pB P ∧ M' = M)) C hr hd hp
  show WL x G (AA G sz) 3 0 0 (xQ x (va_Qi (fun (r : Int32) (M' : Mem) => r = pB P ∧ M' = M) (WE G) (AA G sz)) (AA G sz)) M 0 [(0, .ref (G.2.2.1 b))] []
  generalize (xQ x (va_Qi (fun (r : Int32) (M' : Mem) => r = pB P ∧ M' = M) (WE G) (AA G sz)) (AA G sz)) = QQ at hret ⊢
  have in0 : ∀ w ∈ wsX00, w ∈ wsX0_low := by decide +kernel
  have fl18 : Jvm.Cond.fieldLink RX0 18 "JammedBodies$Body" "corners" "I" ∈ wsX0_low := by decide +kernel
  have ml43 : Jvm.Cond.methodLink RX0 43 Lib.Math.min.name ∈ wsX0_low := by decide +kernel
  have m2min : Jvm.Cond.static Lib.Math.min.name ∈ wsX0_low := by decide +kernel
  have m3 : Jvm.Cond.initialized "java/lang/Math" ∈ wsX0_low := by decide +kernel
  have m4min : Jvm.Cond.code Lib.Math.min.name Lib.Math.min.code 2 (some .int) ∈ wsX0_low := by decide +kernel
  have h7 := hB.2.1
  refine wl_aload_n C 0 dX0_low_0 rfl rfl ?_
  refine wl_iconst (v := nI 0) C dX0_low_1 (by first | decide | rfl) ?_
  refine wl_callVp (i := b) (n := 1) C [.int (nI 0)] [] (c_X0_y _ G M b 0 P hb hB (by omega)) gX0_low_X0_y rfl (by decide +kernel) (by decide) (by decide) (kd_lt hb (by decide)) (cell_k hb) rfl rfl rfl (Nat.le_of_ble_eq_true rfl) dX0_low_2 ?_
  refine wl_eqi (b := mnT P.2.2 0) (rfl) ?_
  refine wl_istore_n (L' := [(1, .int (mnT P.2.2 0)), (0, .ref (G.2.2.1 b))]) C dX0_low_5 rfl (by decide) rfl ?_
  refine wl_iconst (v := nI (0 + 1)) C dX0_low_6 (by first | decide | rfl) ?_
  refine wl_istore_n (L' := [(2, .int (nI (0 + 1))), (1, .int (mnT P.2.2 0)), (0, .ref (G.2.2.1 b))]) C dX0_low_7 rfl (by decide) rfl ?_
  have h8 : ∀ k, k ≤ P.1 - 1 → WL x G (AA G sz) 3 0 0 QQ M 8 [(0, .ref (G.2.2.1 b)), (1, .int (mnT P.2.2 k)), (2, .int (nI (k + 1)))] [] := by
    refine up_loop (P.1 - 1) _ ?_
    intro k hk ih
    refine wl_iload_n C 2 dX0_low_8 rfl rfl ?_
    refine wl_aload_n C 0 dX0_low_9 rfl rfl ?_
    refine wl_get_Body_corners (i := b) (v := nI P.1) C hb in0 fl18 hB.1 dX0_low_10 ?_
    refine wl_icmp_geN C (a := (k + 1)) (b := P.1) (by omega) (by omega) 32 dX0_low_13 (by decide) (fun c_13 => ?_) (fun c_13 => ?_)
    · refine wl_iload_n C 1 dX0_low_32 rfl rfl ?_
      exact hret _ 33 _ (mnT P.2.2 k) dX0_low_33 (⟨by unfold pB; rw [show P.1 - 1 = k by omega], rfl⟩)
    · refine wl_iload_n C 1 dX0_low_16 rfl rfl ?_
      refine wl_aload_n C 0 dX0_low_17 rfl rfl ?_
      refine wl_iload_n C 2 dX0_low_18 rfl rfl ?_
      refine wl_callVp (i := b) (n := 1) C [.int (nI (k + 1))] [.int (mnT P.2.2 k)] (c_X0_y _ G M b (k + 1) P hb hB (by omega)) gX0_low_X0_y rfl (by decide +kernel) (by decide) (by decide) (kd_lt hb (by decide)) (cell_k hb) rfl rfl rfl (Nat.le_of_ble_eq_true rfl) dX0_low_19 ?_
      refine wl_min C ml43 m2min m3 m4min (by decide) (Nat.le_of_ble_eq_true rfl) dX0_low_22 ?_
      refine wl_eqi (b := mnT P.2.2 (k + 1)) (rfl) ?_
      refine wl_istore_n (L' := [(1, .int (mnT P.2.2 (k + 1))), (0, .ref (G.2.2.1 b)), (2, .int (nI (k + 1)))]) C dX0_low_25 rfl (by decide) rfl ?_
      refine wl_iinc1 (k := (k + 1)) (L' := [(2, .int (nI ((k + 1) + 1))), (1, .int (mnT P.2.2 (k + 1))), (0, .ref (G.2.2.1 b))]) C 2 dX0_low_26 rfl (by decide) rfl ?_
      refine wl_goto C 8 dX0_low_29 (by decide) ?_
      refine wl_sub (L' := [(0, .ref (G.2.2.1 b)), (1, .int (mnT P.2.2 (k + 1))), (2, .int (nI ((k + 1) + 1)))]) [2, 1, 0] rfl ?_
      exact ih (by omega)
  refine wl_sub (L' := [(0, .ref (G.2.2.1 b)), (1, .int (mnT P.2.2 0)), (2, .int (nI (0 + 1)))]) [2, 1, 0] rfl ?_
  exact h8 0 (Nat.zero_le _)
set_option maxHeartbeats 4000000 in
set_option maxRecDepth 100000 in
theorem c_X0_high (l : Launch) (G : Gw) (M : Mem) (b : Nat) (P : Py) (hb : kd b = 0) (hB : Bd M b P) (h0 : 0 < P.1) : Cp l G yX0_high wsX0_high 1 21 [.ref (G.2.2.1 b)] M (pT P) := by
  refine Ci.of (cc := cX0_high) (maxL := 3) (ret := (some .int)) (by decide +kernel) rfl (Nat.le_of_ble_eq_true rfl) ?_
  intro x sz hl0 hr C
  subst hl0
  have C : CX x G (AA G sz) RX0 cX0_high 3 wsX0_high 1 21 0 0 := C
  have hret : ∀ (M0 : Mem) (pc0 : Nat) (L0 : List (Nat × Value)) (rv0 : Int32), decode cX0_high pc0 = .ok (.ireturn, 1) → (fun (r : Int32) (M' : Mem) => r = pT P ∧ M' = M) rv0 M0 → WL x G (AA G sz) 3 0 0 (xQ x (va_Qi (fun (r : Int32) (M' : Mem) => r = pT P ∧ M' = M) (WE G) (AA G sz)) (AA G sz)) M0 pc0 L0 [.int rv0] := fun M0 pc0 L0 rv0 hd hp => wl_iret (post := (fun (r : Int32) (M' : Mem) => r = pT P ∧ M' = M)) C hr hd hp
  show WL x G (AA G sz) 3 0 0 (xQ x (va_Qi (fun (r : Int32) (M' : Mem) => r = pT P ∧ M' = M) (WE G) (AA G sz)) (AA G sz)) M 0 [(0, .ref (G.2.2.1 b))] []
  generalize (xQ x (va_Qi (fun (r : Int32) (M' : Mem) => r = pT P ∧ M' = M) (WE G) (AA G sz)) (AA G sz)) = QQ at hret ⊢
  have in0 : ∀ w ∈ wsX00, w ∈ wsX0_high := by decide +kernel
  have fl18 : Jvm.Cond.fieldLink RX0 18 "JammedBodies$Body" "corners" "I" ∈ wsX0_high := by decide +kernel
  have ml49 : Jvm.Cond.methodLink RX0 49 Lib.Math.max.name ∈ wsX0_high := by decide +kernel
  have m2max : Jvm.Cond.static Lib.Math.max.name ∈ wsX0_high := by decide +kernel
  have m3 : Jvm.Cond.initialized "java/lang/Math" ∈ wsX0_high := by decide +kernel
  have m4max : Jvm.Cond.code Lib.Math.max.name Lib.Math.max.code 2 (some .int) ∈ wsX0_high := by decide +kernel
  have h7 := hB.2.1
  refine wl_aload_n C 0 dX0_high_0 rfl rfl ?_
  refine wl_iconst (v := nI 0) C dX0_high_1 (by first | decide | rfl) ?_
  refine wl_callVp (i := b) (n := 1) C [.int (nI 0)] [] (c_X0_y _ G M b 0 P hb hB (by omega)) gX0_high_X0_y rfl (by decide +kernel) (by decide) (by decide) (kd_lt hb (by decide)) (cell_k hb) rfl rfl rfl (Nat.le_of_ble_eq_true rfl) dX0_high_2 ?_
  refine wl_eqi (b := mxT P.2.2 0) (rfl) ?_
  refine wl_istore_n (L' := [(1, .int (mxT P.2.2 0)), (0, .ref (G.2.2.1 b))]) C dX0_high_5 rfl (by decide) rfl ?_
  refine wl_iconst (v := nI (0 + 1)) C dX0_high_6 (by first | decide | rfl) ?_
  refine wl_istore_n (L' := [(2, .int (nI (0 + 1))), (1, .int (mxT P.2.2 0)), (0, .ref (G.2.2.1 b))]) C dX0_high_7 rfl (by decide) rfl ?_
  have h8 : ∀ k, k ≤ P.1 - 1 → WL x G (AA G sz) 3 0 0 QQ M 8 [(0, .ref (G.2.2.1 b)), (1, .int (mxT P.2.2 k)), (2, .int (nI (k + 1)))] [] := by
    refine up_loop (P.1 - 1) _ ?_
    intro k hk ih
    refine wl_iload_n C 2 dX0_high_8 rfl rfl ?_
    refine wl_aload_n C 0 dX0_high_9 rfl rfl ?_
    refine wl_get_Body_corners (i := b) (v := nI P.1) C hb in0 fl18 hB.1 dX0_high_10 ?_
    refine wl_icmp_geN C (a := (k + 1)) (b := P.1) (by omega) (by omega) 32 dX0_high_13 (by decide) (fun c_13 => ?_) (fun c_13 => ?_)
    · refine wl_iload_n C 1 dX0_high_32 rfl rfl ?_
      exact hret _ 33 _ (mxT P.2.2 k) dX0_high_33 (⟨by unfold pT; rw [show P.1 - 1 = k by omega], rfl⟩)
    · refine wl_iload_n C 1 dX0_high_16 rfl rfl ?_
      refine wl_aload_n C 0 dX0_high_17 rfl rfl ?_
      refine wl_iload_n C 2 dX0_high_18 rfl rfl ?_
      refine wl_callVp (i := b) (n := 1) C [.int (nI (k + 1))] [.int (mxT P.2.2 k)] (c_X0_y _ G M b (k + 1) P hb hB (by omega)) gX0_high_X0_y rfl (by decide +kernel) (by decide) (by decide) (kd_lt hb (by decide)) (cell_k hb) rfl rfl rfl (Nat.le_of_ble_eq_true rfl) dX0_high_19 ?_
      refine wl_max C ml49 m2max m3 m4max (by decide) (Nat.le_of_ble_eq_true rfl) dX0_high_22 ?_
      refine wl_eqi (b := mxT P.2.2 (k + 1)) (rfl) ?_
      refine wl_istore_n (L' := [(1, .int (mxT P.2.2 (k + 1))), (0, .ref (G.2.2.1 b)), (2, .int (nI (k + 1)))]) C dX0_high_25 rfl (by decide) rfl ?_
      refine wl_iinc1 (k := (k + 1)) (L' := [(2, .int (nI ((k + 1) + 1))), (1, .int (mxT P.2.2 (k + 1))), (0, .ref (G.2.2.1 b))]) C 2 dX0_high_26 rfl (by decide) rfl ?_
      refine wl_goto C 8 dX0_high_29 (by decide) ?_
      refine wl_sub (L' := [(0, .ref (G.2.2.1 b)), (1, .int (mxT P.2.2 (k + 1))), (2, .int (nI ((k + 1) + 1)))]) [2, 1, 0] rfl ?_
      exact ih (by omega)
  refine wl_sub (L' := [(0, .ref (G.2.2.1 b)), (1, .int (mxT P.2.2 0)), (2, .int (nI (0 + 1)))]) [2, 1, 0] rfl ?_
  exact h8 0 (Nat.zero_le _)
set_option maxHeartbeats 4000000 in
set_option maxRecDepth 100000 in
theorem c_X0_doubleArea (l : Launch) (G : Gw) (M : Mem) (b : Nat) (P : Py) (hb : kd b = 0) (hB : Bd M b P) : Cp l G yX0_doubleArea wsX0_doubleArea 1 21 [.ref (G.2.2.1 b)] M (pArea P) := by
  refine Ci.of (cc := cX0_doubleArea) (maxL := 4) (ret := (some .int)) (by decide +kernel) rfl (Nat.le_of_ble_eq_true rfl) ?_
  intro x sz hl0 hr C
  subst hl0
  have C : CX x G (AA G sz) RX0 cX0_doubleArea 4 wsX0_doubleArea 1 21 0 0 := C
  have hret : ∀ (M0 : Mem) (pc0 : Nat) (L0 : List (Nat × Value)) (rv0 : Int32), decode cX0_doubleArea pc0 = .ok (.ireturn, 1) → (fun (r : Int32) (M' : Mem) => r = pArea P ∧ M' = M) rv0 M0 → WL x G (AA G sz) 4 0 0 (xQ x (va_Qi (fun (r : Int32) (M' : Mem) => r = pArea P ∧ M' = M) (WE G) (AA G sz)) (AA G sz)) M0 pc0 L0 [.int rv0] := fun M0 pc0 L0 rv0 hd hp => wl_iret (post := (fun (r : Int32) (M' : Mem) => r = pArea P ∧ M' = M)) C hr hd hp
  show WL x G (AA G sz) 4 0 0 (xQ x (va_Qi (fun (r : Int32) (M' : Mem) => r = pArea P ∧ M' = M) (WE G) (AA G sz)) (AA G sz)) M 0 [(0, .ref (G.2.2.1 b))] []
  generalize (xQ x (va_Qi (fun (r : Int32) (M' : Mem) => r = pArea P ∧ M' = M) (WE G) (AA G sz)) (AA G sz)) = QQ at hret ⊢
  have in0 : ∀ w ∈ wsX00, w ∈ wsX0_doubleArea := by decide +kernel
  have fl18 : Jvm.Cond.fieldLink RX0 18 "JammedBodies$Body" "corners" "I" ∈ wsX0_doubleArea := by decide +kernel
  have h7 := hB.2.1
  refine wl_iconst (v := smT (pAf P) 0) C dX0_doubleArea_0 (by first | decide | rfl) ?_
  refine wl_istore_n (L' := [(1, .int (smT (pAf P) 0)), (0, .ref (G.2.2.1 b))]) C dX0_doubleArea_1 rfl (by decide) rfl ?_
  refine wl_iconst (v := nI 0) C dX0_doubleArea_2 (by first | decide | rfl) ?_
  refine wl_istore_n (L' := [(2, .int (nI 0)), (1, .int (smT (pAf P) 0)), (0, .ref (G.2.2.1 b))]) C dX0_doubleArea_3 rfl (by decide) rfl ?_
  have h4 : ∀ k, k ≤ P.1 → WL x G (AA G sz) 4 0 0 QQ M 4 [(0, .ref (G.2.2.1 b)), (1, .int (smT (pAf P) k)), (2, .int (nI k))] [] := by
    refine up_loop P.1 _ ?_
    intro k hk ih
    refine wl_iload_n C 2 dX0_doubleArea_4 rfl rfl ?_
    refine wl_aload_n C 0 dX0_doubleArea_5 rfl rfl ?_
    refine wl_get_Body_corners (i := b) (v := nI P.1) C hb in0 fl18 hB.1 dX0_doubleArea_6 ?_
    refine wl_icmp_geN C (a := k) (b := P.1) (by omega) (by omega) 50 dX0_doubleArea_9 (by decide) (fun c_9 => ?_) (fun c_9 => ?_)
    · refine wl_iload_n C 1 dX0_doubleArea_50 rfl rfl ?_
      exact hret _ 51 _ (smT (pAf P) k) dX0_doubleArea_51 (⟨by unfold pArea; rw [show P.1 = k by omega], rfl⟩)
    · refine wl_aload_n C 0 dX0_doubleArea_12 rfl rfl ?_
      refine wl_iload_n C 2 dX0_doubleArea_13 rfl rfl ?_
      refine wl_callVp (i := b) (n := 1) C [.int (nI k)] [] (c_X0_following _ G M b k P hb hB (by omega)) gX0_doubleArea_X0_following rfl (by decide +kernel) (by decide) (by decide) (kd_lt hb (by decide)) (cell_k hb) rfl rfl rfl (Nat.le_of_ble_eq_true rfl) dX0_doubleArea_14 ?_
      refine wl_istore_n (L' := [(3, .int (nI (nx P.1 k))), (0, .ref (G.2.2.1 b)), (1, .int (smT (pAf P) k)), (2, .int (nI k))]) C dX0_doubleArea_17 rfl (by decide) rfl ?_
      refine wl_iload_n C 2 dX0_doubleArea_18 rfl rfl ?_
      refine wl_aload_n C 1 dX0_doubleArea_19 rfl rfl ?_
      refine wl_iload_n C 3 dX0_doubleArea_20 rfl rfl ?_
      refine wl_callVp (i := b) (n := 1) C [.int (nI k)] [.int (smT (pAf P) k)] (c_X0_x _ G M b k P hb hB (by omega)) gX0_doubleArea_X0_x rfl (by decide +kernel) (by decide) (by decide) (kd_lt hb (by decide)) (cell_k hb) rfl rfl rfl (Nat.le_of_ble_eq_true rfl) dX0_doubleArea_21 ?_
      refine wl_aload_n C 1 dX0_doubleArea_24 rfl rfl ?_
      refine wl_iload_n C 0 dX0_doubleArea_25 rfl rfl ?_
      refine wl_callVp (i := b) (n := 1) C [.int (nI (nx P.1 k))] [.int (P.2.1 k), .int (smT (pAf P) k)] (c_X0_y _ G M b (nx P.1 k) P hb hB (nx_lt (by omega))) gX0_doubleArea_X0_y rfl (by decide +kernel) (by decide) (by decide) (kd_lt hb (by decide)) (cell_k hb) rfl rfl rfl (Nat.le_of_ble_eq_true rfl) dX0_doubleArea_26 ?_
      refine wl_imul C dX0_doubleArea_29 ?_
      refine wl_aload_n C 1 dX0_doubleArea_30 rfl rfl ?_
      refine wl_iload_n C 0 dX0_doubleArea_31 rfl rfl ?_
      refine wl_callVp (i := b) (n := 1) C [.int (nI (nx P.1 k))] [.int ((P.2.1 k) * (P.2.2 (nx P.1 k))), .int (smT (pAf P) k)] (c_X0_x _ G M b (nx P.1 k) P hb hB (nx_lt (by omega))) gX0_doubleArea_X0_x rfl (by decide +kernel) (by decide) (by decide) (kd_lt hb (by decide)) (cell_k hb) rfl rfl rfl (Nat.le_of_ble_eq_true rfl) dX0_doubleArea_32 ?_
      refine wl_aload_n C 1 dX0_doubleArea_35 rfl rfl ?_
      refine wl_iload_n C 3 dX0_doubleArea_36 rfl rfl ?_
      refine wl_callVp (i := b) (n := 1) C [.int (nI k)] [.int (P.2.1 (nx P.1 k)), .int ((P.2.1 k) * (P.2.2 (nx P.1 k))), .int (smT (pAf P) k)] (c_X0_y _ G M b k P hb hB (by omega)) gX0_doubleArea_X0_y rfl (by decide +kernel) (by decide) (by decide) (kd_lt hb (by decide)) (cell_k hb) rfl rfl rfl (Nat.le_of_ble_eq_true rfl) dX0_doubleArea_37 ?_
      refine wl_imul C dX0_doubleArea_40 ?_
      refine wl_isub C dX0_doubleArea_41 ?_
      refine wl_iadd C dX0_doubleArea_42 ?_
      refine wl_eqi (b := smT (pAf P) (k + 1)) (rfl) ?_
      refine wl_istore_n (L' := [(1, .int (smT (pAf P) (k + 1))), (3, .int (nI (nx P.1 k))), (0, .ref (G.2.2.1 b)), (2, .int (nI k))]) C dX0_doubleArea_43 rfl (by decide) rfl ?_
      refine wl_iinc1 (k := k) (L' := [(2, .int (nI (k + 1))), (1, .int (smT (pAf P) (k + 1))), (3, .int (nI (nx P.1 k))), (0, .ref (G.2.2.1 b))]) C 3 dX0_doubleArea_44 rfl (by decide) rfl ?_
      refine wl_goto C 4 dX0_doubleArea_47 (by decide) ?_
      refine wl_sub (L' := [(0, .ref (G.2.2.1 b)), (1, .int (smT (pAf P) (k + 1))), (2, .int (nI (k + 1)))]) [3, 1, 0] rfl ?_
      exact ih (by omega)
  refine wl_sub (L' := [(0, .ref (G.2.2.1 b)), (1, .int (smT (pAf P) 0)), (2, .int (nI 0))]) [2, 1, 0] rfl ?_
  exact h4 0 (Nat.zero_le _)
set_option maxHeartbeats 4000000 in
set_option maxRecDepth 100000 in
theorem c_X0_wallsTouched (l : Launch) (G : Gw) (M : Mem) (b : Nat) (P : Py) (hb : kd b = 0) (hB : Bd M b P) (w h : Int32) (h0 : 0 < P.1) : Cp l G yX0_wallsTouched wsX0_wallsTouched 2 43 [.ref (G.2.2.1 b), .int w, .int h] M (pTouched P w h) := by
  refine Ci.of (cc := cX0_wallsTouched) (maxL := 4) (ret := (some .int)) (by decide +kernel) rfl (Nat.le_of_ble_eq_true rfl) ?_
  intro x sz hl0 hr C
  subst hl0
  have C : CX x G (AA G sz) RX0 cX0_wallsTouched 4 wsX0_wallsTouched 2 43 0 0 := C
  have hret : ∀ (M0 : Mem) (pc0 : Nat) (L0 : List (Nat × Value)) (rv0 : Int32), decode cX0_wallsTouched pc0 = .ok (.ireturn, 1) → (fun (r : Int32) (M' : Mem) => r = pTouched P w h ∧ M' = M) rv0 M0 → WL x G (AA G sz) 4 0 0 (xQ x (va_Qi (fun (r : Int32) (M' : Mem) => r = pTouched P w h ∧ M' = M) (WE G) (AA G sz)) (AA G sz)) M0 pc0 L0 [.int rv0] := fun M0 pc0 L0 rv0 hd hp => wl_iret (post := (fun (r : Int32) (M' : Mem) => r = pTouched P w h ∧ M' = M)) C hr hd hp
  show WL x G (AA G sz) 4 0 0 (xQ x (va_Qi (fun (r : Int32) (M' : Mem) => r = pTouched P w h ∧ M' = M) (WE G) (AA G sz)) (AA G sz)) M 0 [(0, .ref (G.2.2.1 b)), (1, .int w), (2, .int h)] []
  generalize (xQ x (va_Qi (fun (r : Int32) (M' : Mem) => r = pTouched P w h ∧ M' = M) (WE G) (AA G sz)) (AA G sz)) = QQ at hret ⊢
  refine wl_aload_n C 0 dX0_wallsTouched_0 rfl rfl ?_
  refine wl_callVp (i := b) (n := 0) C [] [] (c_X0_left _ G M b P hb hB h0) gX0_wallsTouched_X0_left rfl (by decide +kernel) (by decide) (by decide) (kd_lt hb (by decide)) (cell_k hb) rfl rfl rfl (Nat.le_of_ble_eq_true rfl) dX0_wallsTouched_1 ?_
  suffices hJ4 : WL x G (AA G sz) 4 0 0 QQ M 12 [(0, .ref (G.2.2.1 b)), (1, .int w), (2, .int h)] [.int (if (pL P) = 0 then 1 else 0)] by
    refine wl_if_ne C 11 dX0_wallsTouched_4 (by decide) (fun c_4 => ?_) (fun c_4 => ?_)
    · rw [if_neg c_4] at hJ4
      refine wl_iconst (v := 0) C dX0_wallsTouched_11 (by decide) ?_
      exact hJ4
    · rw [if_pos c_4] at hJ4
      refine wl_iconst (v := 1) C dX0_wallsTouched_7 (by decide) ?_
      refine wl_goto C 12 dX0_wallsTouched_8 (by decide) ?_
      exact hJ4
  refine wl_istore_n (L' := [(3, .int (if (pL P) = 0 then 1 else 0)), (0, .ref (G.2.2.1 b)), (1, .int w), (2, .int h)]) C dX0_wallsTouched_12 rfl (by decide) rfl ?_
  refine wl_iload_n C 0 dX0_wallsTouched_13 rfl rfl ?_
  refine wl_aload_n C 1 dX0_wallsTouched_14 rfl rfl ?_
  refine wl_callVp (i := b) (n := 0) C [] [.int (if (pL P) = 0 then 1 else 0)] (c_X0_right _ G M b P hb hB h0) gX0_wallsTouched_X0_right rfl (by decide +kernel) (by decide) (by decide) (kd_lt hb (by decide)) (cell_k hb) rfl rfl rfl (Nat.le_of_ble_eq_true rfl) dX0_wallsTouched_15 ?_
  refine wl_iload_n C 2 dX0_wallsTouched_18 rfl rfl ?_
  suffices hJ19 : WL x G (AA G sz) 4 0 0 QQ M 27 [(3, .int (if (pL P) = 0 then 1 else 0)), (0, .ref (G.2.2.1 b)), (1, .int w), (2, .int h)] [.int (if (pR P) = w then 2 else 0), .int (if (pL P) = 0 then 1 else 0)] by
    refine wl_icmp_ne C 26 dX0_wallsTouched_19 (by decide) (fun c_19 => ?_) (fun c_19 => ?_)
    · rw [if_neg c_19] at hJ19
      refine wl_iconst (v := 0) C dX0_wallsTouched_26 (by decide) ?_
      exact hJ19
    · rw [if_pos c_19] at hJ19
      refine wl_iconst (v := 2) C dX0_wallsTouched_22 (by decide) ?_
      refine wl_goto C 27 dX0_wallsTouched_23 (by decide) ?_
      exact hJ19
  refine wl_ior C dX0_wallsTouched_27 ?_
  refine wl_istore_n (L' := [(3, .int ((if (pL P) = 0 then 1 else 0) ||| (if (pR P) = w then 2 else 0))), (0, .ref (G.2.2.1 b)), (1, .int w), (2, .int h)]) C dX0_wallsTouched_28 rfl (by decide) rfl ?_
  refine wl_iload_n C 0 dX0_wallsTouched_29 rfl rfl ?_
  refine wl_aload_n C 1 dX0_wallsTouched_30 rfl rfl ?_
  refine wl_callVp (i := b) (n := 0) C [] [.int ((if (pL P) = 0 then 1 else 0) ||| (if (pR P) = w then 2 else 0))] (c_X0_low _ G M b P hb hB h0) gX0_wallsTouched_X0_low rfl (by decide +kernel) (by decide) (by decide) (kd_lt hb (by decide)) (cell_k hb) rfl rfl rfl (Nat.le_of_ble_eq_true rfl) dX0_wallsTouched_31 ?_
  suffices hJ34 : WL x G (AA G sz) 4 0 0 QQ M 42 [(3, .int ((if (pL P) = 0 then 1 else 0) ||| (if (pR P) = w then 2 else 0))), (0, .ref (G.2.2.1 b)), (1, .int w), (2, .int h)] [.int (if (pB P) = 0 then 4 else 0), .int ((if (pL P) = 0 then 1 else 0) ||| (if (pR P) = w then 2 else 0))] by
    refine wl_if_ne C 41 dX0_wallsTouched_34 (by decide) (fun c_34 => ?_) (fun c_34 => ?_)
    · rw [if_neg c_34] at hJ34
      refine wl_iconst (v := 0) C dX0_wallsTouched_41 (by decide) ?_
      exact hJ34
    · rw [if_pos c_34] at hJ34
      refine wl_iconst (v := 4) C dX0_wallsTouched_37 (by decide) ?_
      refine wl_goto C 42 dX0_wallsTouched_38 (by decide) ?_
      exact hJ34
  refine wl_ior C dX0_wallsTouched_42 ?_
  refine wl_istore_n (L' := [(3, .int (((if (pL P) = 0 then 1 else 0) ||| (if (pR P) = w then 2 else 0)) ||| (if (pB P) = 0 then 4 else 0))), (0, .ref (G.2.2.1 b)), (1, .int w), (2, .int h)]) C dX0_wallsTouched_43 rfl (by decide) rfl ?_
  refine wl_iload_n C 0 dX0_wallsTouched_44 rfl rfl ?_
  refine wl_aload_n C 1 dX0_wallsTouched_45 rfl rfl ?_
  refine wl_callVp (i := b) (n := 0) C [] [.int (((if (pL P) = 0 then 1 else 0) ||| (if (pR P) = w then 2 else 0)) ||| (if (pB P) = 0 then 4 else 0))] (c_X0_high _ G M b P hb hB h0) gX0_wallsTouched_X0_high rfl (by decide +kernel) (by decide) (by decide) (kd_lt hb (by decide)) (cell_k hb) rfl rfl rfl (Nat.le_of_ble_eq_true rfl) dX0_wallsTouched_46 ?_
  refine wl_iload_n C 3 dX0_wallsTouched_49 rfl rfl ?_
  suffices hJ50 : WL x G (AA G sz) 4 0 0 QQ M 59 [(3, .int (((if (pL P) = 0 then 1 else 0) ||| (if (pR P) = w then 2 else 0)) ||| (if (pB P) = 0 then 4 else 0))), (0, .ref (G.2.2.1 b)), (1, .int w), (2, .int h)] [.int (if (pT P) = h then 8 else 0), .int (((if (pL P) = 0 then 1 else 0) ||| (if (pR P) = w then 2 else 0)) ||| (if (pB P) = 0 then 4 else 0))] by
    refine wl_icmp_ne C 58 dX0_wallsTouched_50 (by decide) (fun c_50 => ?_) (fun c_50 => ?_)
    · rw [if_neg c_50] at hJ50
      refine wl_iconst (v := 0) C dX0_wallsTouched_58 (by decide) ?_
      exact hJ50
    · rw [if_pos c_50] at hJ50
      refine wl_bipush (v := 8) C dX0_wallsTouched_53 (by decide) ?_
      refine wl_goto C 59 dX0_wallsTouched_55 (by decide) ?_
      exact hJ50
  refine wl_ior C dX0_wallsTouched_59 ?_
  refine wl_istore_n (L' := [(3, .int ((((if (pL P) = 0 then 1 else 0) ||| (if (pR P) = w then 2 else 0)) ||| (if (pB P) = 0 then 4 else 0)) ||| (if (pT P) = h then 8 else 0))), (0, .ref (G.2.2.1 b)), (1, .int w), (2, .int h)]) C dX0_wallsTouched_60 rfl (by decide) rfl ?_
  refine wl_iload_n C 0 dX0_wallsTouched_61 rfl rfl ?_
  exact hret _ 62 _ ((((if (pL P) = 0 then 1 else 0) ||| (if (pR P) = w then 2 else 0)) ||| (if (pB P) = 0 then 4 else 0)) ||| (if (pT P) = h then 8 else 0)) dX0_wallsTouched_62 (⟨rfl, rfl⟩)
set_option maxHeartbeats 4000000 in
set_option maxRecDepth 100000 in
theorem c_X0_wallsBeyond (l : Launch) (G : Gw) (M : Mem) (b : Nat) (P : Py) (hb : kd b = 0) (hB : Bd M b P) (w h : Int32) (h0 : 0 < P.1) : Cp l G yX0_wallsBeyond wsX0_wallsBeyond 2 43 [.ref (G.2.2.1 b), .int w, .int h] M (pBeyond P w h) := by
  refine Ci.of (cc := cX0_wallsBeyond) (maxL := 4) (ret := (some .int)) (by decide +kernel) rfl (Nat.le_of_ble_eq_true rfl) ?_
  intro x sz hl0 hr C
  subst hl0
  have C : CX x G (AA G sz) RX0 cX0_wallsBeyond 4 wsX0_wallsBeyond 2 43 0 0 := C
  have hret : ∀ (M0 : Mem) (pc0 : Nat) (L0 : List (Nat × Value)) (rv0 : Int32), decode cX0_wallsBeyond pc0 = .ok (.ireturn, 1) → (fun (r : Int32) (M' : Mem) => r = pBeyond P w h ∧ M' = M) rv0 M0 → WL x G (AA G sz) 4 0 0 (xQ x (va_Qi (fun (r : Int32) (M' : Mem) => r = pBeyond P w h ∧ M' = M) (WE G) (AA G sz)) (AA G sz)) M0 pc0 L0 [.int rv0] := fun M0 pc0 L0 rv0 hd hp => wl_iret (post := (fun (r : Int32) (M' : Mem) => r = pBeyond P w h ∧ M' = M)) C hr hd hp
  show WL x G (AA G sz) 4 0 0 (xQ x (va_Qi (fun (r : Int32) (M' : Mem) => r = pBeyond P w h ∧ M' = M) (WE G) (AA G sz)) (AA G sz)) M 0 [(0, .ref (G.2.2.1 b)), (1, .int w), (2, .int h)] []
  generalize (xQ x (va_Qi (fun (r : Int32) (M' : Mem) => r = pBeyond P w h ∧ M' = M) (WE G) (AA G sz)) (AA G sz)) = QQ at hret ⊢
  refine wl_aload_n C 0 dX0_wallsBeyond_0 rfl rfl ?_
  refine wl_callVp (i := b) (n := 0) C [] [] (c_X0_left _ G M b P hb hB h0) gX0_wallsBeyond_X0_left rfl (by decide +kernel) (by decide) (by decide) (kd_lt hb (by decide)) (cell_k hb) rfl rfl rfl (Nat.le_of_ble_eq_true rfl) dX0_wallsBeyond_1 ?_
  suffices hJ4 : WL x G (AA G sz) 4 0 0 QQ M 12 [(0, .ref (G.2.2.1 b)), (1, .int w), (2, .int h)] [.int (if 0 ≤ (pL P) then 0 else 1)] by
    refine wl_if_ge C 11 dX0_wallsBeyond_4 (by decide) (fun c_4 => ?_) (fun c_4 => ?_)
    · rw [if_pos c_4] at hJ4
      refine wl_iconst (v := 0) C dX0_wallsBeyond_11 (by decide) ?_
      exact hJ4
    · rw [if_neg c_4] at hJ4
      refine wl_iconst (v := 1) C dX0_wallsBeyond_7 (by decide) ?_
      refine wl_goto C 12 dX0_wallsBeyond_8 (by decide) ?_
      exact hJ4
  refine wl_istore_n (L' := [(3, .int (if 0 ≤ (pL P) then 0 else 1)), (0, .ref (G.2.2.1 b)), (1, .int w), (2, .int h)]) C dX0_wallsBeyond_12 rfl (by decide) rfl ?_
  refine wl_iload_n C 0 dX0_wallsBeyond_13 rfl rfl ?_
  refine wl_aload_n C 1 dX0_wallsBeyond_14 rfl rfl ?_
  refine wl_callVp (i := b) (n := 0) C [] [.int (if 0 ≤ (pL P) then 0 else 1)] (c_X0_right _ G M b P hb hB h0) gX0_wallsBeyond_X0_right rfl (by decide +kernel) (by decide) (by decide) (kd_lt hb (by decide)) (cell_k hb) rfl rfl rfl (Nat.le_of_ble_eq_true rfl) dX0_wallsBeyond_15 ?_
  refine wl_iload_n C 2 dX0_wallsBeyond_18 rfl rfl ?_
  suffices hJ19 : WL x G (AA G sz) 4 0 0 QQ M 27 [(3, .int (if 0 ≤ (pL P) then 0 else 1)), (0, .ref (G.2.2.1 b)), (1, .int w), (2, .int h)] [.int (if (pR P) ≤ w then 0 else 2), .int (if 0 ≤ (pL P) then 0 else 1)] by
    refine wl_icmp_le C 26 dX0_wallsBeyond_19 (by decide) (fun c_19 => ?_) (fun c_19 => ?_)
    · rw [if_pos c_19] at hJ19
      refine wl_iconst (v := 0) C dX0_wallsBeyond_26 (by decide) ?_
      exact hJ19
    · rw [if_neg c_19] at hJ19
      refine wl_iconst (v := 2) C dX0_wallsBeyond_22 (by decide) ?_
      refine wl_goto C 27 dX0_wallsBeyond_23 (by decide) ?_
      exact hJ19
  refine wl_ior C dX0_wallsBeyond_27 ?_
  refine wl_istore_n (L' := [(3, .int ((if 0 ≤ (pL P) then 0 else 1) ||| (if (pR P) ≤ w then 0 else 2))), (0, .ref (G.2.2.1 b)), (1, .int w), (2, .int h)]) C dX0_wallsBeyond_28 rfl (by decide) rfl ?_
  refine wl_iload_n C 0 dX0_wallsBeyond_29 rfl rfl ?_
  refine wl_aload_n C 1 dX0_wallsBeyond_30 rfl rfl ?_
  refine wl_callVp (i := b) (n := 0) C [] [.int ((if 0 ≤ (pL P) then 0 else 1) ||| (if (pR P) ≤ w then 0 else 2))] (c_X0_low _ G M b P hb hB h0) gX0_wallsBeyond_X0_low rfl (by decide +kernel) (by decide) (by decide) (kd_lt hb (by decide)) (cell_k hb) rfl rfl rfl (Nat.le_of_ble_eq_true rfl) dX0_wallsBeyond_31 ?_
  suffices hJ34 : WL x G (AA G sz) 4 0 0 QQ M 42 [(3, .int ((if 0 ≤ (pL P) then 0 else 1) ||| (if (pR P) ≤ w then 0 else 2))), (0, .ref (G.2.2.1 b)), (1, .int w), (2, .int h)] [.int (if 0 ≤ (pB P) then 0 else 4), .int ((if 0 ≤ (pL P) then 0 else 1) ||| (if (pR P) ≤ w then 0 else 2))] by
    refine wl_if_ge C 41 dX0_wallsBeyond_34 (by decide) (fun c_34 => ?_) (fun c_34 => ?_)
    · rw [if_pos c_34] at hJ34
      refine wl_iconst (v := 0) C dX0_wallsBeyond_41 (by decide) ?_
      exact hJ34
    · rw [if_neg c_34] at hJ34
      refine wl_iconst (v := 4) C dX0_wallsBeyond_37 (by decide) ?_
      refine wl_goto C 42 dX0_wallsBeyond_38 (by decide) ?_
      exact hJ34
  refine wl_ior C dX0_wallsBeyond_42 ?_
  refine wl_istore_n (L' := [(3, .int (((if 0 ≤ (pL P) then 0 else 1) ||| (if (pR P) ≤ w then 0 else 2)) ||| (if 0 ≤ (pB P) then 0 else 4))), (0, .ref (G.2.2.1 b)), (1, .int w), (2, .int h)]) C dX0_wallsBeyond_43 rfl (by decide) rfl ?_
  refine wl_iload_n C 0 dX0_wallsBeyond_44 rfl rfl ?_
  refine wl_aload_n C 1 dX0_wallsBeyond_45 rfl rfl ?_
  refine wl_callVp (i := b) (n := 0) C [] [.int (((if 0 ≤ (pL P) then 0 else 1) ||| (if (pR P) ≤ w then 0 else 2)) ||| (if 0 ≤ (pB P) then 0 else 4))] (c_X0_high _ G M b P hb hB h0) gX0_wallsBeyond_X0_high rfl (by decide +kernel) (by decide) (by decide) (kd_lt hb (by decide)) (cell_k hb) rfl rfl rfl (Nat.le_of_ble_eq_true rfl) dX0_wallsBeyond_46 ?_
  refine wl_iload_n C 3 dX0_wallsBeyond_49 rfl rfl ?_
  suffices hJ50 : WL x G (AA G sz) 4 0 0 QQ M 59 [(3, .int (((if 0 ≤ (pL P) then 0 else 1) ||| (if (pR P) ≤ w then 0 else 2)) ||| (if 0 ≤ (pB P) then 0 else 4))), (0, .ref (G.2.2.1 b)), (1, .int w), (2, .int h)] [.int (if (pT P) ≤ h then 0 else 8), .int (((if 0 ≤ (pL P) then 0 else 1) ||| (if (pR P) ≤ w then 0 else 2)) ||| (if 0 ≤ (pB P) then 0 else 4))] by
    refine wl_icmp_le C 58 dX0_wallsBeyond_50 (by decide) (fun c_50 => ?_) (fun c_50 => ?_)
    · rw [if_pos c_50] at hJ50
      refine wl_iconst (v := 0) C dX0_wallsBeyond_58 (by decide) ?_
      exact hJ50
    · rw [if_neg c_50] at hJ50
      refine wl_bipush (v := 8) C dX0_wallsBeyond_53 (by decide) ?_
      refine wl_goto C 59 dX0_wallsBeyond_55 (by decide) ?_
      exact hJ50
  refine wl_ior C dX0_wallsBeyond_59 ?_
  refine wl_istore_n (L' := [(3, .int ((((if 0 ≤ (pL P) then 0 else 1) ||| (if (pR P) ≤ w then 0 else 2)) ||| (if 0 ≤ (pB P) then 0 else 4)) ||| (if (pT P) ≤ h then 0 else 8))), (0, .ref (G.2.2.1 b)), (1, .int w), (2, .int h)]) C dX0_wallsBeyond_60 rfl (by decide) rfl ?_
  refine wl_iload_n C 0 dX0_wallsBeyond_61 rfl rfl ?_
  exact hret _ 62 _ ((((if 0 ≤ (pL P) then 0 else 1) ||| (if (pR P) ≤ w then 0 else 2)) ||| (if 0 ≤ (pB P) then 0 else 4)) ||| (if (pT P) ≤ h then 0 else 8)) dX0_wallsBeyond_62 (⟨rfl, rfl⟩)
