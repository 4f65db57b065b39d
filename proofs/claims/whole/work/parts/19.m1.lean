set_option maxHeartbeats 4000000 in
set_option maxRecDepth 100000 in
theorem c_X5_in (l : Launch) (G : Gw) (M : Mem) (v lo hi : Int64) : Cp l G yX5_in wsX5_in 0 0 [.long v, .long lo, .long hi] M (bi (inL v lo hi)) := by
  refine Ci.of (cc := cX5_in) (maxL := 6) (ret := (some .boolean)) (by decide +kernel) rfl (Nat.le_of_ble_eq_true rfl) ?_
  intro x sz hl0 hr C
  subst hl0
  have C : CX x G (AA G sz) RX5 cX5_in 6 wsX5_in 0 0 0 0 := C
  have hret : ∀ (M0 : Mem) (pc0 : Nat) (L0 : List (Nat × Value)) (rv0 : Int32), narrow .boolean (.int rv0) = .int rv0 → decode cX5_in pc0 = .ok (.ireturn, 1) → (fun (r : Int32) (M' : Mem) => r = bi (inL v lo hi) ∧ M' = M) rv0 M0 → WL x G (AA G sz) 6 0 0 (xQ x (va_Qi (fun (r : Int32) (M' : Mem) => r = bi (inL v lo hi) ∧ M' = M) (WE G) (AA G sz)) (AA G sz)) M0 pc0 L0 [.int rv0] := fun M0 pc0 L0 rv0 hn hd hp => wl_zret (post := (fun (r : Int32) (M' : Mem) => r = bi (inL v lo hi) ∧ M' = M)) C hr hn hd hp
  show WL x G (AA G sz) 6 0 0 (xQ x (va_Qi (fun (r : Int32) (M' : Mem) => r = bi (inL v lo hi) ∧ M' = M) (WE G) (AA G sz)) (AA G sz)) M 0 [(0, .long v), (2, .long lo), (4, .long hi)] []
  generalize (xQ x (va_Qi (fun (r : Int32) (M' : Mem) => r = bi (inL v lo hi) ∧ M' = M) (WE G) (AA G sz)) (AA G sz)) = QQ at hret ⊢
  refine wl_lload_n C 0 dX5_in_0 rfl rfl ?_
  refine wl_lload_n C 1 dX5_in_1 rfl rfl ?_
  refine wl_lcmp C dX5_in_2 ?_
  refine wl_if_lt C 17 dX5_in_3 (by decide) (fun c_3 => ?_) (fun c_3 => ?_)
  · refine wl_iconst (v := 0) C dX5_in_17 (by decide) ?_
    exact hret _ 18 _ 0 (rfl) dX5_in_18 (⟨by simp [inL, bi, *], rfl⟩)
  · refine wl_lload_n C 0 dX5_in_6 rfl rfl ?_
    refine wl_lload C 2 dX5_in_7 rfl ?_
    refine wl_lcmp C dX5_in_9 ?_
    refine wl_if_gt C 17 dX5_in_10 (by decide) (fun c_10 => ?_) (fun c_10 => ?_)
    · refine wl_iconst (v := 0) C dX5_in_17 (by decide) ?_
      exact hret _ 18 _ 0 (rfl) dX5_in_18 (⟨by simp [inL, bi, *], rfl⟩)
    · refine wl_iconst (v := 1) C dX5_in_13 (by decide) ?_
      refine wl_goto C 18 dX5_in_14 (by decide) ?_
      exact hret _ 18 _ 1 (rfl) dX5_in_18 (⟨by simp [inL, bi, *], rfl⟩)
set_option maxHeartbeats 4000000 in
set_option maxRecDepth 100000 in
theorem c_X5_dx (l : Launch) (G : Gw) (M : Mem) (d : Nat) (hd : d < 8) : Cp l G yX5_dx wsX5_dx 0 0 [.int (nI d)] M (stX d) := by
  refine Ci.of (cc := cX5_dx) (maxL := 1) (ret := (some .int)) (by decide +kernel) rfl (Nat.le_of_ble_eq_true rfl) ?_
  intro x sz hl0 hr C
  subst hl0
  have C : CX x G (AA G sz) RX5 cX5_dx 1 wsX5_dx 0 0 0 0 := C
  have hret : ∀ (M0 : Mem) (pc0 : Nat) (L0 : List (Nat × Value)) (rv0 : Int32), decode cX5_dx pc0 = .ok (.ireturn, 1) → (fun (r : Int32) (M' : Mem) => r = stX d ∧ M' = M) rv0 M0 → WL x G (AA G sz) 1 0 0 (xQ x (va_Qi (fun (r : Int32) (M' : Mem) => r = stX d ∧ M' = M) (WE G) (AA G sz)) (AA G sz)) M0 pc0 L0 [.int rv0] := fun M0 pc0 L0 rv0 hd hp => wl_iret (post := (fun (r : Int32) (M' : Mem) => r = stX d ∧ M' = M)) C hr hd hp
  show WL x G (AA G sz) 1 0 0 (xQ x (va_Qi (fun (r : Int32) (M' : Mem) => r = stX d ∧ M' = M) (WE G) (AA G sz)) (AA G sz)) M 0 [(0, .int (nI d))] []
  generalize (xQ x (va_Qi (fun (r : Int32) (M' : Mem) => r = stX d ∧ M' = M) (WE G) (AA G sz)) (AA G sz)) = QQ at hret ⊢
  refine wl_iload_n C 0 dX5_dx_0 rfl rfl ?_
  refine wl_iconst (v := nI 2) C dX5_dx_1 (by first | decide | rfl) ?_
  refine wl_icmp_eqN C (a := d) (b := 2) (by omega) (by omega) 11 dX5_dx_2 (by decide) (fun c_2 => ?_) (fun c_2 => ?_)
  · refine wl_iconst (v := 0) C dX5_dx_11 (by decide) ?_
    refine wl_goto C 31 dX5_dx_12 (by decide) ?_
    exact hret _ 31 _ 0 dX5_dx_31 (⟨(stX_0 d hd (by omega)).symm, rfl⟩)
  · refine wl_iload_n C 0 dX5_dx_5 rfl rfl ?_
    refine wl_bipush (v := nI 6) C dX5_dx_6 (by decide) ?_
    refine wl_icmp_neN C (a := d) (b := 6) (by omega) (by omega) 15 dX5_dx_8 (by decide) (fun c_8 => ?_) (fun c_8 => ?_)
    · refine wl_iload_n C 0 dX5_dx_15 rfl rfl ?_
      refine wl_iconst (v := nI 2) C dX5_dx_16 (by first | decide | rfl) ?_
      refine wl_icmp_leN C (a := d) (b := 2) (by omega) (by omega) 30 dX5_dx_17 (by decide) (fun c_17 => ?_) (fun c_17 => ?_)
      · refine wl_iconst (v := 1) C dX5_dx_30 (by decide) ?_
        exact hret _ 31 _ 1 dX5_dx_31 (⟨(stX_1 d hd (by omega) (by omega) (by omega)).symm, rfl⟩)
      · refine wl_iload_n C 0 dX5_dx_20 rfl rfl ?_
        refine wl_bipush (v := nI 6) C dX5_dx_21 (by decide) ?_
        refine wl_icmp_geN C (a := d) (b := 6) (by omega) (by omega) 30 dX5_dx_23 (by decide) (fun c_23 => ?_) (fun c_23 => ?_)
        · refine wl_iconst (v := 1) C dX5_dx_30 (by decide) ?_
          exact hret _ 31 _ 1 dX5_dx_31 (⟨(stX_1 d hd (by omega) (by omega) (by omega)).symm, rfl⟩)
        · refine wl_iconst (v := (-1)) C dX5_dx_26 (by decide) ?_
          refine wl_goto C 31 dX5_dx_27 (by decide) ?_
          exact hret _ 31 _ (-1) dX5_dx_31 (⟨(stX_m d hd (by omega) (by omega)).symm, rfl⟩)
    · refine wl_iconst (v := 0) C dX5_dx_11 (by decide) ?_
      refine wl_goto C 31 dX5_dx_12 (by decide) ?_
      exact hret _ 31 _ 0 dX5_dx_31 (⟨(stX_0 d hd (by omega)).symm, rfl⟩)
set_option maxHeartbeats 4000000 in
set_option maxRecDepth 100000 in
theorem c_X5_dy (l : Launch) (G : Gw) (M : Mem) (d : Nat) (hd : d < 8) : Cp l G yX5_dy wsX5_dy 0 0 [.int (nI d)] M (stY d) := by
  refine Ci.of (cc := cX5_dy) (maxL := 1) (ret := (some .int)) (by decide +kernel) rfl (Nat.le_of_ble_eq_true rfl) ?_
  intro x sz hl0 hr C
  subst hl0
  have C : CX x G (AA G sz) RX5 cX5_dy 1 wsX5_dy 0 0 0 0 := C
  have hret : ∀ (M0 : Mem) (pc0 : Nat) (L0 : List (Nat × Value)) (rv0 : Int32), decode cX5_dy pc0 = .ok (.ireturn, 1) → (fun (r : Int32) (M' : Mem) => r = stY d ∧ M' = M) rv0 M0 → WL x G (AA G sz) 1 0 0 (xQ x (va_Qi (fun (r : Int32) (M' : Mem) => r = stY d ∧ M' = M) (WE G) (AA G sz)) (AA G sz)) M0 pc0 L0 [.int rv0] := fun M0 pc0 L0 rv0 hd hp => wl_iret (post := (fun (r : Int32) (M' : Mem) => r = stY d ∧ M' = M)) C hr hd hp
  show WL x G (AA G sz) 1 0 0 (xQ x (va_Qi (fun (r : Int32) (M' : Mem) => r = stY d ∧ M' = M) (WE G) (AA G sz)) (AA G sz)) M 0 [(0, .int (nI d))] []
  generalize (xQ x (va_Qi (fun (r : Int32) (M' : Mem) => r = stY d ∧ M' = M) (WE G) (AA G sz)) (AA G sz)) = QQ at hret ⊢
  refine wl_iload_n C 0 dX5_dy_0 rfl rfl ?_
  refine wl_iconst (v := nI 4) C dX5_dy_1 (by first | decide | rfl) ?_
  refine wl_irem C dX5_dy_2 (by decide) ?_
  refine wl_eqi (b := nI (d % 4)) (pk_rem (by omega) (by decide) (by decide)) ?_
  refine wl_if_ne C 10 dX5_dy_3 (by decide) (fun c_3 => ?_) (fun c_3 => ?_)
  · refine wl_iload_n C 0 dX5_dy_10 rfl rfl ?_
    refine wl_iconst (v := nI 4) C dX5_dy_11 (by first | decide | rfl) ?_
    refine wl_icmp_geN C (a := d) (b := 4) (by omega) (by omega) 19 dX5_dy_12 (by decide) (fun c_12 => ?_) (fun c_12 => ?_)
    · refine wl_iconst (v := (-1)) C dX5_dy_19 (by decide) ?_
      exact hret _ 20 _ (-1) dX5_dy_20 (⟨(stY_m d hd (fun z => c_3 (by rw [z]; rfl)) (by omega)).symm, rfl⟩)
    · refine wl_iconst (v := 1) C dX5_dy_15 (by decide) ?_
      refine wl_goto C 20 dX5_dy_16 (by decide) ?_
      exact hret _ 20 _ 1 dX5_dy_20 (⟨(stY_1 d hd (fun z => c_3 (by rw [z]; rfl)) (by omega)).symm, rfl⟩)
  · refine wl_iconst (v := 0) C dX5_dy_6 (by decide) ?_
    refine wl_goto C 20 dX5_dy_7 (by decide) ?_
    exact hret _ 20 _ 0 dX5_dy_20 (⟨(stY_0 d hd (Nat.eq_zero_of_not_pos (fun q => nI_ne0 q (by omega) c_3))).symm, rfl⟩)
set_option maxHeartbeats 4000000 in
set_option maxRecDepth 100000 in
theorem c_X5_corners (l : Launch) (G : Gw) (M : Mem) (b : Nat) (P : Py) (hb : b ≤ 8) (hB : BdM (M 233) b P) : Cp l G yX5_corners wsX5_corners 0 0 [.ref (G.2.2.1 232), .int (nI b)] M (nI P.1) := by
  refine Ci.of (cc := cX5_corners) (maxL := 2) (ret := (some .int)) (by decide +kernel) rfl (Nat.le_of_ble_eq_true rfl) ?_
  intro x sz hl0 hr C
  subst hl0
  have C : CX x G (AA G sz) RX5 cX5_corners 2 wsX5_corners 0 0 0 0 := C
  have hret : ∀ (M0 : Mem) (pc0 : Nat) (L0 : List (Nat × Value)) (rv0 : Int32), decode cX5_corners pc0 = .ok (.ireturn, 1) → (fun (r : Int32) (M' : Mem) => r = nI P.1 ∧ M' = M) rv0 M0 → WL x G (AA G sz) 2 0 0 (xQ x (va_Qi (fun (r : Int32) (M' : Mem) => r = nI P.1 ∧ M' = M) (WE G) (AA G sz)) (AA G sz)) M0 pc0 L0 [.int rv0] := fun M0 pc0 L0 rv0 hd hp => wl_iret (post := (fun (r : Int32) (M' : Mem) => r = nI P.1 ∧ M' = M)) C hr hd hp
  show WL x G (AA G sz) 2 0 0 (xQ x (va_Qi (fun (r : Int32) (M' : Mem) => r = nI P.1 ∧ M' = M) (WE G) (AA G sz)) (AA G sz)) M 0 [(0, .ref (G.2.2.1 232)), (1, .int (nI b))] []
  generalize (xQ x (va_Qi (fun (r : Int32) (M' : Mem) => r = nI P.1 ∧ M' = M) (WE G) (AA G sz)) (AA G sz)) = QQ at hret ⊢
  have in5 : ∀ w ∈ wsX50, w ∈ wsX5_corners := by decide +kernel
  have fl7 : Jvm.Cond.fieldLink RX5 7 "JammedBodiesModel" "all" "[I" ∈ wsX5_corners := by decide +kernel
  refine wl_aload_n C 0 dX5_corners_0 rfl rfl ?_
  refine wl_get_Model_all (i := 232) C (by decide) in5 fl7 dX5_corners_1 ?_
  refine wl_iconst (v := nI 3) C dX5_corners_4 (by first | decide | rfl) ?_
  refine wl_iload_n C 1 dX5_corners_5 rfl rfl ?_
  refine wl_iadd C dX5_corners_6 ?_
  refine wl_iald (j := 3 + b) (n := 120) (v := nI P.1) C (by decide) (cell_k (k := 10) (by decide)) (nI_add 3 b) (by omega) (by decide) hB.1 dX5_corners_7 ?_
  exact hret _ 8 _ (nI P.1) dX5_corners_8 (⟨rfl, rfl⟩)
set_option maxHeartbeats 4000000 in
set_option maxRecDepth 100000 in
theorem c_X5_isBody (l : Launch) (G : Gw) (M : Mem) (s : St) (hs : PkM (M 233) s) (v : Int32) : Cp l G yX5_isBody wsX5_isBody 1 25 [.ref (G.2.2.1 232), .int v] M (bi (hasB s.1 v)) := by
  refine Ci.of (cc := cX5_isBody) (maxL := 2) (ret := (some .boolean)) (by decide +kernel) rfl (Nat.le_of_ble_eq_true rfl) ?_
  intro x sz hl0 hr C
  subst hl0
  have C : CX x G (AA G sz) RX5 cX5_isBody 2 wsX5_isBody 1 25 0 0 := C
  have hret : ∀ (M0 : Mem) (pc0 : Nat) (L0 : List (Nat × Value)) (rv0 : Int32), narrow .boolean (.int rv0) = .int rv0 → decode cX5_isBody pc0 = .ok (.ireturn, 1) → (fun (r : Int32) (M' : Mem) => r = bi (hasB s.1 v) ∧ M' = M) rv0 M0 → WL x G (AA G sz) 2 0 0 (xQ x (va_Qi (fun (r : Int32) (M' : Mem) => r = bi (hasB s.1 v) ∧ M' = M) (WE G) (AA G sz)) (AA G sz)) M0 pc0 L0 [.int rv0] := fun M0 pc0 L0 rv0 hn hd hp => wl_zret (post := (fun (r : Int32) (M' : Mem) => r = bi (hasB s.1 v) ∧ M' = M)) C hr hn hd hp
  show WL x G (AA G sz) 2 0 0 (xQ x (va_Qi (fun (r : Int32) (M' : Mem) => r = bi (hasB s.1 v) ∧ M' = M) (WE G) (AA G sz)) (AA G sz)) M 0 [(0, .ref (G.2.2.1 232)), (1, .int v)] []
  generalize (xQ x (va_Qi (fun (r : Int32) (M' : Mem) => r = bi (hasB s.1 v) ∧ M' = M) (WE G) (AA G sz)) (AA G sz)) = QQ at hret ⊢
  have in5 : ∀ w ∈ wsX50, w ∈ wsX5_isBody := by decide +kernel
  have fl7 : Jvm.Cond.fieldLink RX5 7 "JammedBodiesModel" "all" "[I" ∈ wsX5_isBody := by decide +kernel
  have h8 := hs.r
  refine wl_iload_n C 1 dX5_isBody_0 rfl rfl ?_
  refine wl_i2l (v := v.toInt64) C dX5_isBody_1 (rfl) ?_
  refine wl_lconst (v := 0) C dX5_isBody_2 (by decide) ?_
  refine wl_aload_n C 0 dX5_isBody_3 rfl rfl ?_
  refine wl_get_Model_all (i := 232) C (by decide) in5 fl7 dX5_isBody_4 ?_
  refine wl_iconst (v := 2) C dX5_isBody_7 (by decide) ?_
  refine wl_iald (j := 2) (n := 120) (v := nI s.1) C (by decide) (cell_k (k := 10) (by decide)) (rfl) (by decide) (by decide) hs.2.2.1 dX5_isBody_8 ?_
  refine wl_i2l (v := (nI s.1).toInt64) C dX5_isBody_9 (rfl) ?_
  refine wl_lconst (v := 1) C dX5_isBody_10 (by decide) ?_
  refine wl_lsub C dX5_isBody_11 ?_
  refine wl_callSp (n := 3) C [.long v.toInt64, .long 0, .long (((nI s.1).toInt64) - 1)] [] (c_X5_in _ G M v.toInt64 0 (((nI s.1).toInt64) - 1)) gX5_isBody_X5_in rfl (by decide +kernel) (by decide) (by decide) rfl rfl (Nat.le_of_ble_eq_true rfl) dX5_isBody_12 ?_
  refine wl_eqi (b := bi (hasB s.1 v)) (by rw [inL_has h8]) ?_
  exact hret _ 15 _ (bi (hasB s.1 v)) (narrow_bi _) dX5_isBody_15 (⟨rfl, rfl⟩)
set_option maxHeartbeats 4000000 in
set_option maxRecDepth 100000 in
theorem c_X5_isDirection (l : Launch) (G : Gw) (M : Mem) (v : Int32) : Cp l G yX5_isDirection wsX5_isDirection 1 25 [.int v] M (bi (isDir v)) := by
  refine Ci.of (cc := cX5_isDirection) (maxL := 1) (ret := (some .boolean)) (by decide +kernel) rfl (Nat.le_of_ble_eq_true rfl) ?_
  intro x sz hl0 hr C
  subst hl0
  have C : CX x G (AA G sz) RX5 cX5_isDirection 1 wsX5_isDirection 1 25 0 0 := C
  have hret : ∀ (M0 : Mem) (pc0 : Nat) (L0 : List (Nat × Value)) (rv0 : Int32), narrow .boolean (.int rv0) = .int rv0 → decode cX5_isDirection pc0 = .ok (.ireturn, 1) → (fun (r : Int32) (M' : Mem) => r = bi (isDir v) ∧ M' = M) rv0 M0 → WL x G (AA G sz) 1 0 0 (xQ x (va_Qi (fun (r : Int32) (M' : Mem) => r = bi (isDir v) ∧ M' = M) (WE G) (AA G sz)) (AA G sz)) M0 pc0 L0 [.int rv0] := fun M0 pc0 L0 rv0 hn hd hp => wl_zret (post := (fun (r : Int32) (M' : Mem) => r = bi (isDir v) ∧ M' = M)) C hr hn hd hp
  show WL x G (AA G sz) 1 0 0 (xQ x (va_Qi (fun (r : Int32) (M' : Mem) => r = bi (isDir v) ∧ M' = M) (WE G) (AA G sz)) (AA G sz)) M 0 [(0, .int v)] []
  generalize (xQ x (va_Qi (fun (r : Int32) (M' : Mem) => r = bi (isDir v) ∧ M' = M) (WE G) (AA G sz)) (AA G sz)) = QQ at hret ⊢
  have cn104 : Jvm.Cond.constantLong RX5 104 (7) ∈ wsX5_isDirection := by decide +kernel
  refine wl_iload_n C 0 dX5_isDirection_0 rfl rfl ?_
  refine wl_i2l (v := v.toInt64) C dX5_isDirection_1 (rfl) ?_
  refine wl_lconst (v := 0) C dX5_isDirection_2 (by decide) ?_
  refine wl_ldc2 C cn104 dX5_isDirection_3 ?_
  refine wl_callSp (n := 3) C [.long v.toInt64, .long 0, .long 7] [] (c_X5_in _ G M v.toInt64 0 7) gX5_isDirection_X5_in rfl (by decide +kernel) (by decide) (by decide) rfl rfl (Nat.le_of_ble_eq_true rfl) dX5_isDirection_6 ?_
  refine wl_eqi (b := bi (isDir v)) (by rw [inL_dir]) ?_
  exact hret _ 9 _ (bi (isDir v)) (narrow_bi _) dX5_isDirection_9 (⟨rfl, rfl⟩)
set_option maxHeartbeats 4000000 in
set_option maxRecDepth 100000 in
theorem c_X5_x (l : Launch) (G : Gw) (M : Mem) (b c : Nat) (P : Py) (hb : b ≤ 8) (hB : BdM (M 233) b P) (h0 : 0 < P.1) (hc : c < 1000) : Cp l G yX5_x wsX5_x 1 21 [.ref (G.2.2.1 232), .int (nI b), .int (nI c)] M (P.2.1 (c % P.1)) := by
  refine Ci.of (cc := cX5_x) (maxL := 3) (ret := (some .int)) (by decide +kernel) rfl (Nat.le_of_ble_eq_true rfl) ?_
  intro x sz hl0 hr C
  subst hl0
  have C : CX x G (AA G sz) RX5 cX5_x 3 wsX5_x 1 21 0 0 := C
  have hret : ∀ (M0 : Mem) (pc0 : Nat) (L0 : List (Nat × Value)) (rv0 : Int32), decode cX5_x pc0 = .ok (.ireturn, 1) → (fun (r : Int32) (M' : Mem) => r = P.2.1 (c % P.1) ∧ M' = M) rv0 M0 → WL x G (AA G sz) 3 0 0 (xQ x (va_Qi (fun (r : Int32) (M' : Mem) => r = P.2.1 (c % P.1) ∧ M' = M) (WE G) (AA G sz)) (AA G sz)) M0 pc0 L0 [.int rv0] := fun M0 pc0 L0 rv0 hd hp => wl_iret (post := (fun (r : Int32) (M' : Mem) => r = P.2.1 (c % P.1) ∧ M' = M)) C hr hd hp
  show WL x G (AA G sz) 3 0 0 (xQ x (va_Qi (fun (r : Int32) (M' : Mem) => r = P.2.1 (c % P.1) ∧ M' = M) (WE G) (AA G sz)) (AA G sz)) M 0 [(0, .ref (G.2.2.1 232)), (1, .int (nI b)), (2, .int (nI c))] []
  generalize (xQ x (va_Qi (fun (r : Int32) (M' : Mem) => r = P.2.1 (c % P.1) ∧ M' = M) (WE G) (AA G sz)) (AA G sz)) = QQ at hret ⊢
  have in5 : ∀ w ∈ wsX50, w ∈ wsX5_x := by decide +kernel
  have fl7 : Jvm.Cond.fieldLink RX5 7 "JammedBodiesModel" "all" "[I" ∈ wsX5_x := by decide +kernel
  have h7 := hB.2.1
  have hm : c % P.1 < P.1 := Nat.mod_lt _ h0
  refine wl_aload_n C 0 dX5_x_0 rfl rfl ?_
  refine wl_get_Model_all (i := 232) C (by decide) in5 fl7 dX5_x_1 ?_
  refine wl_bipush (v := 12) C dX5_x_4 (by decide) ?_
  refine wl_bipush (v := 6) C dX5_x_6 (by decide) ?_
  refine wl_iload_n C 1 dX5_x_8 rfl rfl ?_
  refine wl_imul C dX5_x_9 ?_
  refine wl_iadd C dX5_x_10 ?_
  refine wl_iload_n C 2 dX5_x_11 rfl rfl ?_
  refine wl_aload_n C 0 dX5_x_12 rfl rfl ?_
  refine wl_iload_n C 1 dX5_x_13 rfl rfl ?_
  refine wl_callVp (i := 232) (n := 1) C [.int (nI b)] [.int (nI c), .int (12 + (6 * (nI b))), .ref (G.2.2.1 233)] (c_X5_corners _ G M b P hb hB) gX5_x_X5_corners rfl (by decide +kernel) (by decide) (by decide) (kd_lt (k := 5) (by decide) (by decide)) (cell_k (k := 5) (by decide)) rfl rfl rfl (Nat.le_of_ble_eq_true rfl) dX5_x_14 ?_
  refine wl_irem C dX5_x_17 (nI_ne0 h0 (by omega)) ?_
  refine wl_eqi (b := nI (c % P.1)) (pk_rem (by omega) h0 (by omega)) ?_
  refine wl_iadd C dX5_x_18 ?_
  refine wl_iald (j := 12 + 6 * b + c % P.1) (n := 120) (v := P.2.1 (c % P.1)) C (by decide) (cell_k (k := 10) (by decide)) (ixA 12 b (c % P.1)) (by omega) (by decide) (hB.2.2.1 _ hm) dX5_x_19 ?_
  exact hret _ 20 _ (P.2.1 (c % P.1)) dX5_x_20 (⟨rfl, rfl⟩)
set_option maxHeartbeats 4000000 in
set_option maxRecDepth 100000 in
theorem c_X5_y (l : Launch) (G : Gw) (M : Mem) (b c : Nat) (P : Py) (hb : b ≤ 8) (hB : BdM (M 233) b P) (h0 : 0 < P.1) (hc : c < 1000) : Cp l G yX5_y wsX5_y 1 21 [.ref (G.2.2.1 232), .int (nI b), .int (nI c)] M (P.2.2 (c % P.1)) := by
  refine Ci.of (cc := cX5_y) (maxL := 3) (ret := (some .int)) (by decide +kernel) rfl (Nat.le_of_ble_eq_true rfl) ?_
  intro x sz hl0 hr C
  subst hl0
  have C : CX x G (AA G sz) RX5 cX5_y 3 wsX5_y 1 21 0 0 := C
  have hret : ∀ (M0 : Mem) (pc0 : Nat) (L0 : List (Nat × Value)) (rv0 : Int32), decode cX5_y pc0 = .ok (.ireturn, 1) → (fun (r : Int32) (M' : Mem) => r = P.2.2 (c % P.1) ∧ M' = M) rv0 M0 → WL x G (AA G sz) 3 0 0 (xQ x (va_Qi (fun (r : Int32) (M' : Mem) => r = P.2.2 (c % P.1) ∧ M' = M) (WE G) (AA G sz)) (AA G sz)) M0 pc0 L0 [.int rv0] := fun M0 pc0 L0 rv0 hd hp => wl_iret (post := (fun (r : Int32) (M' : Mem) => r = P.2.2 (c % P.1) ∧ M' = M)) C hr hd hp
  show WL x G (AA G sz) 3 0 0 (xQ x (va_Qi (fun (r : Int32) (M' : Mem) => r = P.2.2 (c % P.1) ∧ M' = M) (WE G) (AA G sz)) (AA G sz)) M 0 [(0, .ref (G.2.2.1 232)), (1, .int (nI b)), (2, .int (nI c))] []
  generalize (xQ x (va_Qi (fun (r : Int32) (M' : Mem) => r = P.2.2 (c % P.1) ∧ M' = M) (WE G) (AA G sz)) (AA G sz)) = QQ at hret ⊢
  have in5 : ∀ w ∈ wsX50, w ∈ wsX5_y := by decide +kernel
  have fl7 : Jvm.Cond.fieldLink RX5 7 "JammedBodiesModel" "all" "[I" ∈ wsX5_y := by decide +kernel
  have h7 := hB.2.1
  have hm : c % P.1 < P.1 := Nat.mod_lt _ h0
  refine wl_aload_n C 0 dX5_y_0 rfl rfl ?_
  refine wl_get_Model_all (i := 232) C (by decide) in5 fl7 dX5_y_1 ?_
  refine wl_bipush (v := 66) C dX5_y_4 (by decide) ?_
  refine wl_bipush (v := 6) C dX5_y_6 (by decide) ?_
  refine wl_iload_n C 1 dX5_y_8 rfl rfl ?_
  refine wl_imul C dX5_y_9 ?_
  refine wl_iadd C dX5_y_10 ?_
  refine wl_iload_n C 2 dX5_y_11 rfl rfl ?_
  refine wl_aload_n C 0 dX5_y_12 rfl rfl ?_
  refine wl_iload_n C 1 dX5_y_13 rfl rfl ?_
  refine wl_callVp (i := 232) (n := 1) C [.int (nI b)] [.int (nI c), .int (66 + (6 * (nI b))), .ref (G.2.2.1 233)] (c_X5_corners _ G M b P hb hB) gX5_y_X5_corners rfl (by decide +kernel) (by decide) (by decide) (kd_lt (k := 5) (by decide) (by decide)) (cell_k (k := 5) (by decide)) rfl rfl rfl (Nat.le_of_ble_eq_true rfl) dX5_y_14 ?_
  refine wl_irem C dX5_y_17 (nI_ne0 h0 (by omega)) ?_
  refine wl_eqi (b := nI (c % P.1)) (pk_rem (by omega) h0 (by omega)) ?_
  refine wl_iadd C dX5_y_18 ?_
  refine wl_iald (j := 66 + 6 * b + c % P.1) (n := 120) (v := P.2.2 (c % P.1)) C (by decide) (cell_k (k := 10) (by decide)) (ixA 66 b (c % P.1)) (by omega) (by decide) (hB.2.2.2 _ hm) dX5_y_19 ?_
  exact hret _ 20 _ (P.2.2 (c % P.1)) dX5_y_20 (⟨rfl, rfl⟩)
set_option maxHeartbeats 4000000 in
set_option maxRecDepth 100000 in
theorem c_X5_moves (l : Launch) (G : Gw) (M : Mem) (b : Nat) (P : Py) (hb : b ≤ 8) (hB : BdM (M 233) b P) (dx dy : Int32) : Cv l G yX5_moves wsX5_moves 1 21 [.ref (G.2.2.1 232), .int (nI b), .int dx, .int dy] M (fun M' => M' = rwA M (mvR (M 233) b P.1 dx dy)) := by
  refine Cv.of (cc := cX5_moves) (maxL := 5) (ret := none) (by decide +kernel) rfl (Nat.le_of_ble_eq_true rfl) ?_
  intro x sz hl0 hr C
  subst hl0
  have C : CX x G (AA G sz) RX5 cX5_moves 5 wsX5_moves 1 21 0 0 := C
  have hret : ∀ (M0 : Mem) (pc0 : Nat) (L0 : List (Nat × Value)), decode cX5_moves pc0 = .ok (.return_, 1) → (fun M' => M' = rwA M (mvR (M 233) b P.1 dx dy)) M0 → WL x G (AA G sz) 5 0 0 (xQ x (va_Qv (fun M' => M' = rwA M (mvR (M 233) b P.1 dx dy)) (WE G) (AA G sz)) (AA G sz)) M0 pc0 L0 [] := fun M0 pc0 L0 hd hp => wl_vret (post := (fun M' => M' = rwA M (mvR (M 233) b P.1 dx dy))) C hr hd hp
  show WL x G (AA G sz) 5 0 0 (xQ x (va_Qv (fun M' => M' = rwA M (mvR (M 233) b P.1 dx dy)) (WE G) (AA G sz)) (AA G sz)) M 0 [(0, .ref (G.2.2.1 232)), (1, .int (nI b)), (2, .int dx), (3, .int dy)] []
  generalize (xQ x (va_Qv (fun M' => M' = rwA M (mvR (M 233) b P.1 dx dy)) (WE G) (AA G sz)) (AA G sz)) = QQ at hret ⊢
  have in5 : ∀ w ∈ wsX50, w ∈ wsX5_moves := by decide +kernel
  have fl7 : Jvm.Cond.fieldLink RX5 7 "JammedBodiesModel" "all" "[I" ∈ wsX5_moves := by decide +kernel
  have h7 := hB.2.1
  refine wl_iconst (v := nI 0) C dX5_moves_0 (by first | decide | rfl) ?_
  refine wl_istore (L' := [(4, .int (nI 0)), (0, .ref (G.2.2.1 232)), (1, .int (nI b)), (2, .int dx), (3, .int dy)]) C dX5_moves_1 (by decide) rfl ?_
  have h3 : ∀ n, n ≤ P.1 → WL x G (AA G sz) 5 0 0 QQ (rwA M (mvR (M 233) b n dx dy)) 3 [(0, .ref (G.2.2.1 232)), (1, .int (nI b)), (2, .int dx), (3, .int dy), (4, .int (nI n))] [] := by
    refine up_loop P.1 _ ?_
    intro n hn ih
    refine wl_iload C 4 dX5_moves_3 rfl ?_
    refine wl_aload_n C 0 dX5_moves_5 rfl rfl ?_
    refine wl_iload_n C 1 dX5_moves_6 rfl rfl ?_
    refine wl_callVp (i := 232) (n := 1) C [.int (nI b)] [.int (nI n)] (c_X5_corners _ G (rwA M (mvR (M 233) b n dx dy)) b (P.1, fun k => mvR (M 233) b n dx dy (12 + 6 * b + k), fun k => mvR (M 233) b n dx dy (66 + 6 * b + k)) hb ⟨by rw [rwA_at, mvR_c hb]; exact hB.1, h7, fun k hk => by rw [rwA_at], fun k hk => by rw [rwA_at]⟩) gX5_moves_X5_corners rfl (by decide +kernel) (by decide) (by decide) (kd_lt (k := 5) (by decide) (by decide)) (cell_k (k := 5) (by decide)) rfl rfl rfl (Nat.le_of_ble_eq_true rfl) dX5_moves_7 ?_
    refine wl_icmp_geN C (a := n) (b := P.1) (by omega) (by omega) 57 dX5_moves_10 (by decide) (fun c_10 => ?_) (fun c_10 => ?_)
    · exact hret _ 57 _ dX5_moves_57 (by rw [show P.1 = n by omega])
    · refine wl_aload_n C 0 dX5_moves_13 rfl rfl ?_
      refine wl_get_Model_all (i := 232) C (by decide) in5 fl7 dX5_moves_14 ?_
      refine wl_bipush (v := 12) C dX5_moves_17 (by decide) ?_
      refine wl_bipush (v := 6) C dX5_moves_19 (by decide) ?_
      refine wl_iload_n C 1 dX5_moves_21 rfl rfl ?_
      refine wl_imul C dX5_moves_22 ?_
      refine wl_iadd C dX5_moves_23 ?_
      refine wl_iload C 4 dX5_moves_24 rfl ?_
      refine wl_iadd C dX5_moves_26 ?_
      refine wl_dup2 C dX5_moves_27 rfl rfl ?_
      refine wl_iald (j := 12 + 6 * b + n) (n := 120) (v := M 233 (12 + 6 * b + n)) C (by decide) (cell_k (k := 10) (by decide)) (ixA 12 b n) (by omega) (by decide) (by rw [rwA_at]; exact (mvR_x (by omega) hb).1) dX5_moves_28 ?_
      refine wl_iload_n C 2 dX5_moves_29 rfl rfl ?_
      refine wl_iadd C dX5_moves_30 ?_
      refine wl_iast (j := 12 + 6 * b + n) (n := 120) C (by decide) (fun M => (cell_k (k := 10) (by decide))) (ixA 12 b n) (by omega) (by decide) dX5_moves_31 ?_
      refine wl_aload_n C 0 dX5_moves_32 rfl rfl ?_
      refine wl_get_Model_all (i := 232) C (by decide) in5 fl7 dX5_moves_33 ?_
      refine wl_bipush (v := 66) C dX5_moves_36 (by decide) ?_
      refine wl_bipush (v := 6) C dX5_moves_38 (by decide) ?_
      refine wl_iload_n C 1 dX5_moves_40 rfl rfl ?_
      refine wl_imul C dX5_moves_41 ?_
      refine wl_iadd C dX5_moves_42 ?_
      refine wl_iload C 4 dX5_moves_43 rfl ?_
      refine wl_iadd C dX5_moves_45 ?_
      refine wl_dup2 C dX5_moves_46 rfl rfl ?_
      refine wl_iald (j := 66 + 6 * b + n) (n := 120) (v := M 233 (66 + 6 * b + n)) C (by decide) (cell_k (k := 10) (by decide)) (ixA 66 b n) (by omega) (by decide) (by rw [mset_ne (by omega), rwA_at]; exact (mvR_x (by omega) hb).2) dX5_moves_47 ?_
      refine wl_iload_n C 3 dX5_moves_48 rfl rfl ?_
      refine wl_iadd C dX5_moves_49 ?_
      refine wl_iast (j := 66 + 6 * b + n) (n := 120) C (by decide) (fun M => (cell_k (k := 10) (by decide))) (ixA 66 b n) (by omega) (by decide) dX5_moves_50 ?_
      refine wl_iinc1 (k := n) (L' := [(4, .int (nI (n + 1))), (0, .ref (G.2.2.1 232)), (1, .int (nI b)), (2, .int dx), (3, .int dy)]) C 4 dX5_moves_51 rfl (by decide) rfl ?_
      refine wl_goto C 3 dX5_moves_54 (by decide) ?_
      refine wl_sub (L' := [(0, .ref (G.2.2.1 232)), (1, .int (nI b)), (2, .int dx), (3, .int dy), (4, .int (nI (n + 1)))]) [1, 2, 3, 4, 0] rfl ?_
      rw [mvR_step hb (by omega)]
      exact ih (by omega)
  refine wl_sub (L' := [(0, .ref (G.2.2.1 232)), (1, .int (nI b)), (2, .int dx), (3, .int dy), (4, .int (nI 0))]) [1, 2, 3, 4, 0] rfl ?_
  have h0 := h3 0 (Nat.zero_le _)
  rw [mvR_0, rwA_id] at h0
  exact h0
set_option maxHeartbeats 4000000 in
set_option maxRecDepth 100000 in
theorem c_X5_side (l : Launch) (G : Gw) (M : Mem) (b c : Nat) (P Q : Py) (hb : b ≤ 8) (hc : c ≤ 8) (hB : BdM (M 233) b P) (hQ : BdM (M 233) c Q) (hp0 : 0 < P.1) (hq0 : 0 < Q.1) (s j : Nat) (hs : s < 900) (hj : j < 900) : Cp l G yX5_side wsX5_side 2 43 [.ref (G.2.2.1 232), .int (nI b), .int (nI s), .int (nI c), .int (nI j)] M (sdV P s Q j) := by
  refine Ci.of (cc := cX5_side) (maxL := 7) (ret := (some .int)) (by decide +kernel) rfl (Nat.le_of_ble_eq_true rfl) ?_
  intro x sz hl0 hr C
  subst hl0
  have C : CX x G (AA G sz) RX5 cX5_side 7 wsX5_side 2 43 0 0 := C
  have hret : ∀ (M0 : Mem) (pc0 : Nat) (L0 : List (Nat × Value)) (rv0 : Int32), decode cX5_side pc0 = .ok (.ireturn, 1) → (fun (r : Int32) (M' : Mem) => r = sdV P s Q j ∧ M' = M) rv0 M0 → WL x G (AA G sz) 7 0 0 (xQ x (va_Qi (fun (r : Int32) (M' : Mem) => r = sdV P s Q j ∧ M' = M) (WE G) (AA G sz)) (AA G sz)) M0 pc0 L0 [.int rv0] := fun M0 pc0 L0 rv0 hd hp => wl_iret (post := (fun (r : Int32) (M' : Mem) => r = sdV P s Q j ∧ M' = M)) C hr hd hp
  show WL x G (AA G sz) 7 0 0 (xQ x (va_Qi (fun (r : Int32) (M' : Mem) => r = sdV P s Q j ∧ M' = M) (WE G) (AA G sz)) (AA G sz)) M 0 [(0, .ref (G.2.2.1 232)), (1, .int (nI b)), (2, .int (nI s)), (3, .int (nI c)), (4, .int (nI j))] []
  generalize (xQ x (va_Qi (fun (r : Int32) (M' : Mem) => r = sdV P s Q j ∧ M' = M) (WE G) (AA G sz)) (AA G sz)) = QQ at hret ⊢
  refine wl_aload_n C 0 dX5_side_0 rfl rfl ?_
  refine wl_iload_n C 1 dX5_side_1 rfl rfl ?_
  refine wl_iload_n C 2 dX5_side_2 rfl rfl ?_
  refine wl_iconst (v := 1) C dX5_side_3 (by decide) ?_
  refine wl_iadd C dX5_side_4 ?_
  refine wl_eqi (b := nI (s + 1)) (nI_1 s) ?_
  refine wl_callVp (i := 232) (n := 2) C [.int (nI b), .int (nI (s + 1))] [] (c_X5_x _ G M b (s + 1) P hb hB hp0 (by omega)) gX5_side_X5_x rfl (by decide +kernel) (by decide) (by decide) (kd_lt (k := 5) (by decide) (by decide)) (cell_k (k := 5) (by decide)) rfl rfl rfl (Nat.le_of_ble_eq_true rfl) dX5_side_5 ?_
  refine wl_aload_n C 0 dX5_side_8 rfl rfl ?_
  refine wl_iload_n C 1 dX5_side_9 rfl rfl ?_
  refine wl_iload_n C 2 dX5_side_10 rfl rfl ?_
  refine wl_callVp (i := 232) (n := 2) C [.int (nI b), .int (nI s)] [.int (P.2.1 ((s + 1) % P.1))] (c_X5_x _ G M b s P hb hB hp0 (by omega)) gX5_side_X5_x rfl (by decide +kernel) (by decide) (by decide) (kd_lt (k := 5) (by decide) (by decide)) (cell_k (k := 5) (by decide)) rfl rfl rfl (Nat.le_of_ble_eq_true rfl) dX5_side_11 ?_
  refine wl_isub C dX5_side_14 ?_
  refine wl_istore (L' := [(5, .int ((P.2.1 ((s + 1) % P.1)) - (P.2.1 (s % P.1)))), (0, .ref (G.2.2.1 232)), (1, .int (nI b)), (2, .int (nI s)), (3, .int (nI c)), (4, .int (nI j))]) C dX5_side_15 (by decide) rfl ?_
  refine wl_aload_n C 1 dX5_side_17 rfl rfl ?_
  refine wl_iload_n C 2 dX5_side_18 rfl rfl ?_
  refine wl_iload_n C 3 dX5_side_19 rfl rfl ?_
  refine wl_iconst (v := 1) C dX5_side_20 (by decide) ?_
  refine wl_iadd C dX5_side_21 ?_
  refine wl_eqi (b := nI (s + 1)) (nI_1 s) ?_
  refine wl_callVp (i := 232) (n := 2) C [.int (nI b), .int (nI (s + 1))] [] (c_X5_y _ G M b (s + 1) P hb hB hp0 (by omega)) gX5_side_X5_y rfl (by decide +kernel) (by decide) (by decide) (kd_lt (k := 5) (by decide) (by decide)) (cell_k (k := 5) (by decide)) rfl rfl rfl (Nat.le_of_ble_eq_true rfl) dX5_side_22 ?_
  refine wl_aload_n C 1 dX5_side_25 rfl rfl ?_
  refine wl_iload_n C 2 dX5_side_26 rfl rfl ?_
  refine wl_iload_n C 3 dX5_side_27 rfl rfl ?_
  refine wl_callVp (i := 232) (n := 2) C [.int (nI b), .int (nI s)] [.int (P.2.2 ((s + 1) % P.1))] (c_X5_y _ G M b s P hb hB hp0 (by omega)) gX5_side_X5_y rfl (by decide +kernel) (by decide) (by decide) (kd_lt (k := 5) (by decide) (by decide)) (cell_k (k := 5) (by decide)) rfl rfl rfl (Nat.le_of_ble_eq_true rfl) dX5_side_28 ?_
  refine wl_isub C dX5_side_31 ?_
  refine wl_istore (L' := [(6, .int ((P.2.2 ((s + 1) % P.1)) - (P.2.2 (s % P.1)))), (5, .int ((P.2.1 ((s + 1) % P.1)) - (P.2.1 (s % P.1)))), (0, .ref (G.2.2.1 232)), (1, .int (nI b)), (2, .int (nI s)), (3, .int (nI c)), (4, .int (nI j))]) C dX5_side_32 (by decide) rfl ?_
  refine wl_iload C 1 dX5_side_34 rfl ?_
  refine wl_aload_n C 2 dX5_side_36 rfl rfl ?_
  refine wl_iload_n C 5 dX5_side_37 rfl rfl ?_
  refine wl_iload C 6 dX5_side_38 rfl ?_
  refine wl_callVp (i := 232) (n := 2) C [.int (nI c), .int (nI j)] [.int ((P.2.1 ((s + 1) % P.1)) - (P.2.1 (s % P.1)))] (c_X5_y _ G M c j Q hc hQ hq0 (by omega)) gX5_side_X5_y rfl (by decide +kernel) (by decide) (by decide) (kd_lt (k := 5) (by decide) (by decide)) (cell_k (k := 5) (by decide)) rfl rfl rfl (Nat.le_of_ble_eq_true rfl) dX5_side_40 ?_
  refine wl_aload_n C 2 dX5_side_43 rfl rfl ?_
  refine wl_iload_n C 3 dX5_side_44 rfl rfl ?_
  refine wl_iload_n C 4 dX5_side_45 rfl rfl ?_
  refine wl_callVp (i := 232) (n := 2) C [.int (nI b), .int (nI s)] [.int (Q.2.2 (j % Q.1)), .int ((P.2.1 ((s + 1) % P.1)) - (P.2.1 (s % P.1)))] (c_X5_y _ G M b s P hb hB hp0 (by omega)) gX5_side_X5_y rfl (by decide +kernel) (by decide) (by decide) (kd_lt (k := 5) (by decide) (by decide)) (cell_k (k := 5) (by decide)) rfl rfl rfl (Nat.le_of_ble_eq_true rfl) dX5_side_46 ?_
  refine wl_isub C dX5_side_49 ?_
  refine wl_imul C dX5_side_50 ?_
  refine wl_iload C 0 dX5_side_51 rfl ?_
  refine wl_aload_n C 2 dX5_side_53 rfl rfl ?_
  refine wl_iload_n C 5 dX5_side_54 rfl rfl ?_
  refine wl_iload C 6 dX5_side_55 rfl ?_
  refine wl_callVp (i := 232) (n := 2) C [.int (nI c), .int (nI j)] [.int ((P.2.2 ((s + 1) % P.1)) - (P.2.2 (s % P.1))), .int (((P.2.1 ((s + 1) % P.1)) - (P.2.1 (s % P.1))) * ((Q.2.2 (j % Q.1)) - (P.2.2 (s % P.1))))] (c_X5_x _ G M c j Q hc hQ hq0 (by omega)) gX5_side_X5_x rfl (by decide +kernel) (by decide) (by decide) (kd_lt (k := 5) (by decide) (by decide)) (cell_k (k := 5) (by decide)) rfl rfl rfl (Nat.le_of_ble_eq_true rfl) dX5_side_57 ?_
  refine wl_aload_n C 2 dX5_side_60 rfl rfl ?_
  refine wl_iload_n C 3 dX5_side_61 rfl rfl ?_
  refine wl_iload_n C 4 dX5_side_62 rfl rfl ?_
  refine wl_callVp (i := 232) (n := 2) C [.int (nI b), .int (nI s)] [.int (Q.2.1 (j % Q.1)), .int ((P.2.2 ((s + 1) % P.1)) - (P.2.2 (s % P.1))), .int (((P.2.1 ((s + 1) % P.1)) - (P.2.1 (s % P.1))) * ((Q.2.2 (j % Q.1)) - (P.2.2 (s % P.1))))] (c_X5_x _ G M b s P hb hB hp0 (by omega)) gX5_side_X5_x rfl (by decide +kernel) (by decide) (by decide) (kd_lt (k := 5) (by decide) (by decide)) (cell_k (k := 5) (by decide)) rfl rfl rfl (Nat.le_of_ble_eq_true rfl) dX5_side_63 ?_
  refine wl_isub C dX5_side_66 ?_
  refine wl_imul C dX5_side_67 ?_
  refine wl_isub C dX5_side_68 ?_
  exact hret _ 69 _ ((((P.2.1 ((s + 1) % P.1)) - (P.2.1 (s % P.1))) * ((Q.2.2 (j % Q.1)) - (P.2.2 (s % P.1)))) - (((P.2.2 ((s + 1) % P.1)) - (P.2.2 (s % P.1))) * ((Q.2.1 (j % Q.1)) - (P.2.1 (s % P.1))))) dX5_side_69 (⟨rfl, rfl⟩)
set_option maxHeartbeats 4000000 in
set_option maxRecDepth 100000 in
theorem c_X5_nearest (l : Launch) (G : Gw) (M : Mem) (b c : Nat) (P Q : Py) (hb : b ≤ 8) (hc : c ≤ 8) (hB : BdM (M 233) b P) (hQ : BdM (M 233) c Q) (hp0 : 0 < P.1) (hq0 : 0 < Q.1) (s : Nat) (hs : s < P.1) : Cp l G yX5_nearest wsX5_nearest 3 69 [.ref (G.2.2.1 232), .int (nI b), .int (nI s), .int (nI c)] M (nI (pNear P s Q)) := by
  refine Ci.of (cc := cX5_nearest) (maxL := 6) (ret := (some .int)) (by decide +kernel) rfl (Nat.le_of_ble_eq_true rfl) ?_
  intro x sz hl0 hr C
  subst hl0
  have C : CX x G (AA G sz) RX5 cX5_nearest 6 wsX5_nearest 3 69 0 0 := C
  have hret : ∀ (M0 : Mem) (pc0 : Nat) (L0 : List (Nat × Value)) (rv0 : Int32), decode cX5_nearest pc0 = .ok (.ireturn, 1) → (fun (r : Int32) (M' : Mem) => r = nI (pNear P s Q) ∧ M' = M) rv0 M0 → WL x G (AA G sz) 6 0 0 (xQ x (va_Qi (fun (r : Int32) (M' : Mem) => r = nI (pNear P s Q) ∧ M' = M) (WE G) (AA G sz)) (AA G sz)) M0 pc0 L0 [.int rv0] := fun M0 pc0 L0 rv0 hd hp => wl_iret (post := (fun (r : Int32) (M' : Mem) => r = nI (pNear P s Q) ∧ M' = M)) C hr hd hp
  show WL x G (AA G sz) 6 0 0 (xQ x (va_Qi (fun (r : Int32) (M' : Mem) => r = nI (pNear P s Q) ∧ M' = M) (WE G) (AA G sz)) (AA G sz)) M 0 [(0, .ref (G.2.2.1 232)), (1, .int (nI b)), (2, .int (nI s)), (3, .int (nI c))] []
  generalize (xQ x (va_Qi (fun (r : Int32) (M' : Mem) => r = nI (pNear P s Q) ∧ M' = M) (WE G) (AA G sz)) (AA G sz)) = QQ at hret ⊢
  have h7 := hB.2.1
  have h9 := hQ.2.1
  refine wl_iconst (v := nI (amT (pC P s Q) 0)) C dX5_nearest_0 (by first | decide | rfl) ?_
  refine wl_istore (L' := [(4, .int (nI (amT (pC P s Q) 0))), (0, .ref (G.2.2.1 232)), (1, .int (nI b)), (2, .int (nI s)), (3, .int (nI c))]) C dX5_nearest_1 (by decide) rfl ?_
  refine wl_iconst (v := nI (0 + 1)) C dX5_nearest_3 (by first | decide | rfl) ?_
  refine wl_istore (L' := [(5, .int (nI (0 + 1))), (4, .int (nI (amT (pC P s Q) 0))), (0, .ref (G.2.2.1 232)), (1, .int (nI b)), (2, .int (nI s)), (3, .int (nI c))]) C dX5_nearest_4 (by decide) rfl ?_
  have h6 : ∀ k, k ≤ Q.1 - 1 → WL x G (AA G sz) 6 0 0 QQ M 6 [(0, .ref (G.2.2.1 232)), (1, .int (nI b)), (2, .int (nI s)), (3, .int (nI c)), (4, .int (nI (amT (pC P s Q) k))), (5, .int (nI (k + 1)))] [] := by
    refine up_loop (Q.1 - 1) _ ?_
    intro k hk ih
    refine wl_iload C 5 dX5_nearest_6 rfl ?_
    refine wl_aload_n C 0 dX5_nearest_8 rfl rfl ?_
    refine wl_iload_n C 3 dX5_nearest_9 rfl rfl ?_
    refine wl_callVp (i := 232) (n := 1) C [.int (nI c)] [.int (nI (k + 1))] (c_X5_corners _ G M c Q hc hQ) gX5_nearest_X5_corners rfl (by decide +kernel) (by decide) (by decide) (kd_lt (k := 5) (by decide) (by decide)) (cell_k (k := 5) (by decide)) rfl rfl rfl (Nat.le_of_ble_eq_true rfl) dX5_nearest_10 ?_
    have ha := amT_le (pC P s Q) k
    refine wl_icmp_geN C (a := (k + 1)) (b := Q.1) (by omega) (by omega) 52 dX5_nearest_13 (by decide) (fun c_13 => ?_) (fun c_13 => ?_)
    · refine wl_iload C 4 dX5_nearest_52 rfl ?_
      exact hret _ 54 _ (nI (amT (pC P s Q) k)) dX5_nearest_54 (⟨by unfold pNear; rw [show Q.1 - 1 = k by omega], rfl⟩)
    · refine wl_aload_n C 0 dX5_nearest_16 rfl rfl ?_
      refine wl_iload_n C 1 dX5_nearest_17 rfl rfl ?_
      refine wl_iload_n C 2 dX5_nearest_18 rfl rfl ?_
      refine wl_iload_n C 3 dX5_nearest_19 rfl rfl ?_
      refine wl_iload C 5 dX5_nearest_20 rfl ?_
      refine wl_callVp (i := 232) (n := 4) C [.int (nI b), .int (nI s), .int (nI c), .int (nI (k + 1))] [] (c_X5_side _ G M b c P Q hb hc hB hQ hp0 hq0 s (k + 1) (by omega) (by omega)) gX5_nearest_X5_side rfl (by decide +kernel) (by decide) (by decide) (kd_lt (k := 5) (by decide) (by decide)) (cell_k (k := 5) (by decide)) rfl rfl rfl (Nat.le_of_ble_eq_true rfl) dX5_nearest_22 ?_
      refine wl_eqi (b := pC P s Q (k + 1)) (sdV_pC hs (by omega)) ?_
      refine wl_aload_n C 0 dX5_nearest_25 rfl rfl ?_
      refine wl_iload_n C 1 dX5_nearest_26 rfl rfl ?_
      refine wl_iload_n C 2 dX5_nearest_27 rfl rfl ?_
      refine wl_iload_n C 3 dX5_nearest_28 rfl rfl ?_
      refine wl_iload C 4 dX5_nearest_29 rfl ?_
      refine wl_callVp (i := 232) (n := 4) C [.int (nI b), .int (nI s), .int (nI c), .int (nI (amT (pC P s Q) k))] [.int (pC P s Q (k + 1))] (c_X5_side _ G M b c P Q hb hc hB hQ hp0 hq0 s (amT (pC P s Q) k) (by omega) (by omega)) gX5_nearest_X5_side rfl (by decide +kernel) (by decide) (by decide) (kd_lt (k := 5) (by decide) (by decide)) (cell_k (k := 5) (by decide)) rfl rfl rfl (Nat.le_of_ble_eq_true rfl) dX5_nearest_31 ?_
      refine wl_eqi (b := pC P s Q (amT (pC P s Q) k)) (sdV_pC hs (by have := amT_le (pC P s Q) k; omega)) ?_
      suffices hJ34 : WL x G (AA G sz) 6 0 0 QQ M 44 [(0, .ref (G.2.2.1 232)), (1, .int (nI b)), (2, .int (nI s)), (3, .int (nI c)), (4, .int (nI (amT (pC P s Q) k))), (5, .int (nI (k + 1)))] [.int (if (pC P s Q (k + 1)) ≤ (pC P s Q (amT (pC P s Q) k)) then nI (amT (pC P s Q) k) else nI (k + 1))] by
        refine wl_icmp_le C 42 dX5_nearest_34 (by decide) (fun c_34 => ?_) (fun c_34 => ?_)
        · rw [if_pos c_34] at hJ34
          refine wl_iload C 4 dX5_nearest_42 rfl ?_
          exact hJ34
        · rw [if_neg c_34] at hJ34
          refine wl_iload C 5 dX5_nearest_37 rfl ?_
          refine wl_goto C 44 dX5_nearest_39 (by decide) ?_
          exact hJ34
      refine wl_eqi (b := nI (amT (pC P s Q) (k + 1))) (am_step) ?_
      refine wl_istore (L' := [(4, .int (nI (amT (pC P s Q) (k + 1)))), (0, .ref (G.2.2.1 232)), (1, .int (nI b)), (2, .int (nI s)), (3, .int (nI c)), (5, .int (nI (k + 1)))]) C dX5_nearest_44 (by decide) rfl ?_
      refine wl_iinc1 (k := (k + 1)) (L' := [(5, .int (nI ((k + 1) + 1))), (4, .int (nI (amT (pC P s Q) (k + 1)))), (0, .ref (G.2.2.1 232)), (1, .int (nI b)), (2, .int (nI s)), (3, .int (nI c))]) C 5 dX5_nearest_46 rfl (by decide) rfl ?_
      refine wl_goto C 6 dX5_nearest_49 (by decide) ?_
      refine wl_sub (L' := [(0, .ref (G.2.2.1 232)), (1, .int (nI b)), (2, .int (nI s)), (3, .int (nI c)), (4, .int (nI (amT (pC P s Q) (k + 1)))), (5, .int (nI ((k + 1) + 1)))]) [2, 3, 4, 5, 1, 0] rfl ?_
      exact ih (by omega)
  refine wl_sub (L' := [(0, .ref (G.2.2.1 232)), (1, .int (nI b)), (2, .int (nI s)), (3, .int (nI c)), (4, .int (nI (amT (pC P s Q) 0))), (5, .int (nI (0 + 1)))]) [2, 3, 4, 5, 1, 0] rfl ?_
  exact h6 0 (Nat.zero_le _)
set_option maxHeartbeats 4000000 in
set_option maxRecDepth 100000 in
theorem c_X5_parting (l : Launch) (G : Gw) (M : Mem) (b c : Nat) (P Q : Py) (hb : b ≤ 8) (hc : c ≤ 8) (hB : BdM (M 233) b P) (hQ : BdM (M 233) c Q) (hp0 : 0 < P.1) (hq0 : 0 < Q.1) (t : Int32) : Cp l G yX5_parting wsX5_parting 4 94 [.ref (G.2.2.1 232), .int (nI b), .int (nI c), .int t] M (opI (pSep P Q t)) := by
  refine Ci.of (cc := cX5_parting) (maxL := 5) (ret := (some .int)) (by decide +kernel) rfl (Nat.le_of_ble_eq_true rfl) ?_
  intro x sz hl0 hr C
  subst hl0
  have C : CX x G (AA G sz) RX5 cX5_parting 5 wsX5_parting 4 94 0 0 := C
  have hret : ∀ (M0 : Mem) (pc0 : Nat) (L0 : List (Nat × Value)) (rv0 : Int32), decode cX5_parting pc0 = .ok (.ireturn, 1) → (fun (r : Int32) (M' : Mem) => r = opI (pSep P Q t) ∧ M' = M) rv0 M0 → WL x G (AA G sz) 5 0 0 (xQ x (va_Qi (fun (r : Int32) (M' : Mem) => r = opI (pSep P Q t) ∧ M' = M) (WE G) (AA G sz)) (AA G sz)) M0 pc0 L0 [.int rv0] := fun M0 pc0 L0 rv0 hd hp => wl_iret (post := (fun (r : Int32) (M' : Mem) => r = opI (pSep P Q t) ∧ M' = M)) C hr hd hp
  show WL x G (AA G sz) 5 0 0 (xQ x (va_Qi (fun (r : Int32) (M' : Mem) => r = opI (pSep P Q t) ∧ M' = M) (WE G) (AA G sz)) (AA G sz)) M 0 [(0, .ref (G.2.2.1 232)), (1, .int (nI b)), (2, .int (nI c)), (3, .int t)] []
  generalize (xQ x (va_Qi (fun (r : Int32) (M' : Mem) => r = opI (pSep P Q t) ∧ M' = M) (WE G) (AA G sz)) (AA G sz)) = QQ at hret ⊢
  have h7 := hB.2.1
  have h9 := hQ.2.1
  refine wl_iconst (v := nI 0) C dX5_parting_0 (by first | decide | rfl) ?_
  refine wl_istore (L' := [(4, .int (nI 0)), (0, .ref (G.2.2.1 232)), (1, .int (nI b)), (2, .int (nI c)), (3, .int t)]) C dX5_parting_1 (by decide) rfl ?_
  have h3 : ∀ k, k ≤ P.1 → anT (fun k => decide (pReach P k Q ≤ t)) k = false → WL x G (AA G sz) 5 0 0 QQ M 3 [(0, .ref (G.2.2.1 232)), (1, .int (nI b)), (2, .int (nI c)), (3, .int t), (4, .int (nI k))] [] := by
    refine up_loop P.1 _ ?_
    intro k hk ih hI
    refine wl_iload C 4 dX5_parting_3 rfl ?_
    refine wl_aload_n C 0 dX5_parting_5 rfl rfl ?_
    refine wl_iload_n C 1 dX5_parting_6 rfl rfl ?_
    refine wl_callVp (i := 232) (n := 1) C [.int (nI b)] [.int (nI k)] (c_X5_corners _ G M b P hb hB) gX5_parting_X5_corners rfl (by decide +kernel) (by decide) (by decide) (kd_lt (k := 5) (by decide) (by decide)) (cell_k (k := 5) (by decide)) rfl rfl rfl (Nat.le_of_ble_eq_true rfl) dX5_parting_7 ?_
    refine wl_icmp_geN C (a := k) (b := P.1) (by omega) (by omega) 42 dX5_parting_10 (by decide) (fun c_10 => ?_) (fun c_10 => ?_)
    · refine wl_iconst (v := (-1)) C dX5_parting_42 (by decide) ?_
      exact hret _ 43 _ (-1) dX5_parting_43 (⟨by unfold pSep; rw [fsT_none.mpr (by rw [show P.1 = k by omega]; exact hI)]; rfl, rfl⟩)
    · have ha : pNear P k Q ≤ Q.1 - 1 := amT_le _ _
      refine wl_aload_n C 0 dX5_parting_13 rfl rfl ?_
      refine wl_iload_n C 1 dX5_parting_14 rfl rfl ?_
      refine wl_iload C 4 dX5_parting_15 rfl ?_
      refine wl_iload_n C 2 dX5_parting_17 rfl rfl ?_
      refine wl_aload_n C 0 dX5_parting_18 rfl rfl ?_
      refine wl_iload_n C 1 dX5_parting_19 rfl rfl ?_
      refine wl_iload C 4 dX5_parting_20 rfl ?_
      refine wl_iload_n C 2 dX5_parting_22 rfl rfl ?_
      refine wl_callVp (i := 232) (n := 3) C [.int (nI b), .int (nI k), .int (nI c)] [.int (nI c), .int (nI k), .int (nI b), .ref (G.2.2.1 232)] (c_X5_nearest _ G M b c P Q hb hc hB hQ hp0 hq0 k (by omega)) gX5_parting_X5_nearest rfl (by decide +kernel) (by decide) (by decide) (kd_lt (k := 5) (by decide) (by decide)) (cell_k (k := 5) (by decide)) rfl rfl rfl (Nat.le_of_ble_eq_true rfl) dX5_parting_23 ?_
      refine wl_callVp (i := 232) (n := 4) C [.int (nI b), .int (nI k), .int (nI c), .int (nI (pNear P k Q))] [] (c_X5_side _ G M b c P Q hb hc hB hQ hp0 hq0 k (pNear P k Q) (by omega) (by omega)) gX5_parting_X5_side rfl (by decide +kernel) (by decide) (by decide) (kd_lt (k := 5) (by decide) (by decide)) (cell_k (k := 5) (by decide)) rfl rfl rfl (Nat.le_of_ble_eq_true rfl) dX5_parting_26 ?_
      refine wl_eqi (b := pReach P k Q) ((sdV_pC (by omega) (by omega)).trans (amT_mx _ _)) ?_
      refine wl_iload_n C 3 dX5_parting_29 rfl rfl ?_
      refine wl_icmp_gt C 36 dX5_parting_30 (by decide) (fun c_30 => ?_) (fun c_30 => ?_)
      · refine wl_iinc1 (k := k) (L' := [(4, .int (nI (k + 1))), (0, .ref (G.2.2.1 232)), (1, .int (nI b)), (2, .int (nI c)), (3, .int t)]) C 4 dX5_parting_36 rfl (by decide) rfl ?_
        refine wl_goto C 3 dX5_parting_39 (by decide) ?_
        refine wl_sub (L' := [(0, .ref (G.2.2.1 232)), (1, .int (nI b)), (2, .int (nI c)), (3, .int t), (4, .int (nI (k + 1)))]) [1, 2, 3, 4, 0] rfl ?_
        exact ih (by omega) (by simp only [anT, hI, Bool.false_or, decide_eq_false_iff_not]; exact Int32.not_le.mpr c_30)
      · refine wl_iload C 4 dX5_parting_33 rfl ?_
        exact hret _ 35 _ (nI k) dX5_parting_35 (⟨by unfold pSep; rw [fsT_first hI (decide_eq_true (Int32.not_lt.mp c_30)) (by omega)]; rfl, rfl⟩)
  refine wl_sub (L' := [(0, .ref (G.2.2.1 232)), (1, .int (nI b)), (2, .int (nI c)), (3, .int t), (4, .int (nI 0))]) [1, 2, 3, 4, 0] rfl ?_
  exact h3 0 (Nat.zero_le _) rfl
set_option maxHeartbeats 4000000 in
set_option maxRecDepth 100000 in
theorem c_X5_isParted (l : Launch) (G : Gw) (M : Mem) (b c : Nat) (P Q : Py) (hb : b ≤ 8) (hc : c ≤ 8) (hB : BdM (M 233) b P) (hQ : BdM (M 233) c Q) (hp0 : 0 < P.1) (hq0 : 0 < Q.1) (t : Int32) : Cp l G yX5_isParted wsX5_isParted 5 118 [.ref (G.2.2.1 232), .int (nI b), .int (nI c), .int t] M (bi ((pSep P Q t).isSome || (pSep Q P t).isSome)) := by
  refine Ci.of (cc := cX5_isParted) (maxL := 4) (ret := (some .boolean)) (by decide +kernel) rfl (Nat.le_of_ble_eq_true rfl) ?_
  intro x sz hl0 hr C
  subst hl0
  have C : CX x G (AA G sz) RX5 cX5_isParted 4 wsX5_isParted 5 118 0 0 := C
  have hret : ∀ (M0 : Mem) (pc0 : Nat) (L0 : List (Nat × Value)) (rv0 : Int32), narrow .boolean (.int rv0) = .int rv0 → decode cX5_isParted pc0 = .ok (.ireturn, 1) → (fun (r : Int32) (M' : Mem) => r = bi ((pSep P Q t).isSome || (pSep Q P t).isSome) ∧ M' = M) rv0 M0 → WL x G (AA G sz) 4 0 0 (xQ x (va_Qi (fun (r : Int32) (M' : Mem) => r = bi ((pSep P Q t).isSome || (pSep Q P t).isSome) ∧ M' = M) (WE G) (AA G sz)) (AA G sz)) M0 pc0 L0 [.int rv0] := fun M0 pc0 L0 rv0 hn hd hp => wl_zret (post := (fun (r : Int32) (M' : Mem) => r = bi ((pSep P Q t).isSome || (pSep Q P t).isSome) ∧ M' = M)) C hr hn hd hp
  show WL x G (AA G sz) 4 0 0 (xQ x (va_Qi (fun (r : Int32) (M' : Mem) => r = bi ((pSep P Q t).isSome || (pSep Q P t).isSome) ∧ M' = M) (WE G) (AA G sz)) (AA G sz)) M 0 [(0, .ref (G.2.2.1 232)), (1, .int (nI b)), (2, .int (nI c)), (3, .int t)] []
  generalize (xQ x (va_Qi (fun (r : Int32) (M' : Mem) => r = bi ((pSep P Q t).isSome || (pSep Q P t).isSome) ∧ M' = M) (WE G) (AA G sz)) (AA G sz)) = QQ at hret ⊢
  have h7 := hB.2.1
  have h9 := hQ.2.1
  refine wl_aload_n C 0 dX5_isParted_0 rfl rfl ?_
  refine wl_iload_n C 1 dX5_isParted_1 rfl rfl ?_
  refine wl_iload_n C 2 dX5_isParted_2 rfl rfl ?_
  refine wl_iload_n C 3 dX5_isParted_3 rfl rfl ?_
  refine wl_callVp (i := 232) (n := 3) C [.int (nI b), .int (nI c), .int t] [] (c_X5_parting _ G M b c P Q hb hc hB hQ hp0 hq0 t) gX5_isParted_X5_parting rfl (by decide +kernel) (by decide) (by decide) (kd_lt (k := 5) (by decide) (by decide)) (cell_k (k := 5) (by decide)) rfl rfl rfl (Nat.le_of_ble_eq_true rfl) dX5_isParted_4 ?_
  refine wl_iconst (v := (-1)) C dX5_isParted_7 (by decide) ?_
  refine wl_icmp_ne C 22 dX5_isParted_8 (by decide) (fun c_8 => ?_) (fun c_8 => ?_)
  · refine wl_iconst (v := 1) C dX5_isParted_22 (by decide) ?_
    refine wl_goto C 27 dX5_isParted_23 (by decide) ?_
    exact hret _ 27 _ 1 (rfl) dX5_isParted_27 (⟨(bi_t (by first | (rw [ip_t (sep_lt h7) c_8]; rfl) | (rw [ip_t (sep_lt h9) c_19]; exact Bool.or_true _))).symm, rfl⟩)
  · refine wl_aload_n C 0 dX5_isParted_11 rfl rfl ?_
    refine wl_iload_n C 2 dX5_isParted_12 rfl rfl ?_
    refine wl_iload_n C 1 dX5_isParted_13 rfl rfl ?_
    refine wl_iload_n C 3 dX5_isParted_14 rfl rfl ?_
    refine wl_callVp (i := 232) (n := 3) C [.int (nI c), .int (nI b), .int t] [] (c_X5_parting _ G M c b Q P hc hb hQ hB hq0 hp0 t) gX5_isParted_X5_parting rfl (by decide +kernel) (by decide) (by decide) (kd_lt (k := 5) (by decide) (by decide)) (cell_k (k := 5) (by decide)) rfl rfl rfl (Nat.le_of_ble_eq_true rfl) dX5_isParted_15 ?_
    refine wl_iconst (v := (-1)) C dX5_isParted_18 (by decide) ?_
    refine wl_icmp_eq C 26 dX5_isParted_19 (by decide) (fun c_19 => ?_) (fun c_19 => ?_)
    · refine wl_iconst (v := 0) C dX5_isParted_26 (by decide) ?_
      exact hret _ 27 _ 0 (rfl) dX5_isParted_27 (⟨(bi_f (by rw [ip_f (sep_lt h7) c_8, ip_f (sep_lt h9) c_19]; rfl)).symm, rfl⟩)
    · refine wl_iconst (v := 1) C dX5_isParted_22 (by decide) ?_
      refine wl_goto C 27 dX5_isParted_23 (by decide) ?_
      exact hret _ 27 _ 1 (rfl) dX5_isParted_27 (⟨(bi_t (by first | (rw [ip_t (sep_lt h7) c_8]; rfl) | (rw [ip_t (sep_lt h9) c_19]; exact Bool.or_true _))).symm, rfl⟩)
set_option maxHeartbeats 4000000 in
set_option maxRecDepth 100000 in
theorem c_X5_touch (l : Launch) (G : Gw) (M : Mem) (b c : Nat) (P Q : Py) (hb : b ≤ 8) (hc : c ≤ 8) (hB : BdM (M 233) b P) (hQ : BdM (M 233) c Q) (hp0 : 0 < P.1) (hq0 : 0 < Q.1) : Cp l G yX5_touch wsX5_touch 6 141 [.ref (G.2.2.1 232), .int (nI b), .int (nI c)] M (bi (tch P Q)) := by
  refine Ci.of (cc := cX5_touch) (maxL := 3) (ret := (some .boolean)) (by decide +kernel) rfl (Nat.le_of_ble_eq_true rfl) ?_
  intro x sz hl0 hr C
  subst hl0
  have C : CX x G (AA G sz) RX5 cX5_touch 3 wsX5_touch 6 141 0 0 := C
  have hret : ∀ (M0 : Mem) (pc0 : Nat) (L0 : List (Nat × Value)) (rv0 : Int32), narrow .boolean (.int rv0) = .int rv0 → decode cX5_touch pc0 = .ok (.ireturn, 1) → (fun (r : Int32) (M' : Mem) => r = bi (tch P Q) ∧ M' = M) rv0 M0 → WL x G (AA G sz) 3 0 0 (xQ x (va_Qi (fun (r : Int32) (M' : Mem) => r = bi (tch P Q) ∧ M' = M) (WE G) (AA G sz)) (AA G sz)) M0 pc0 L0 [.int rv0] := fun M0 pc0 L0 rv0 hn hd hp => wl_zret (post := (fun (r : Int32) (M' : Mem) => r = bi (tch P Q) ∧ M' = M)) C hr hn hd hp
  show WL x G (AA G sz) 3 0 0 (xQ x (va_Qi (fun (r : Int32) (M' : Mem) => r = bi (tch P Q) ∧ M' = M) (WE G) (AA G sz)) (AA G sz)) M 0 [(0, .ref (G.2.2.1 232)), (1, .int (nI b)), (2, .int (nI c))] []
  generalize (xQ x (va_Qi (fun (r : Int32) (M' : Mem) => r = bi (tch P Q) ∧ M' = M) (WE G) (AA G sz)) (AA G sz)) = QQ at hret ⊢
  refine wl_aload_n C 0 dX5_touch_0 rfl rfl ?_
  refine wl_iload_n C 1 dX5_touch_1 rfl rfl ?_
  refine wl_iload_n C 2 dX5_touch_2 rfl rfl ?_
  refine wl_iconst (v := 0) C dX5_touch_3 (by decide) ?_
  refine wl_callVp (i := 232) (n := 3) C [.int (nI b), .int (nI c), .int 0] [] (c_X5_isParted _ G M b c P Q hb hc hB hQ hp0 hq0 0) gX5_touch_X5_isParted rfl (by decide +kernel) (by decide) (by decide) (kd_lt (k := 5) (by decide) (by decide)) (cell_k (k := 5) (by decide)) rfl rfl rfl (Nat.le_of_ble_eq_true rfl) dX5_touch_4 ?_
  refine wl_if_eqB C 24 dX5_touch_7 (by decide) (fun c_7 => ?_) (fun c_7 => ?_)
  · refine wl_iconst (v := 0) C dX5_touch_24 (by decide) ?_
    exact hret _ 25 _ 0 (rfl) dX5_touch_25 (⟨(bi_f (by unfold tch; first | (rw [c_7]; rfl) | (rw [no_or c_17]; exact Bool.and_false _))).symm, rfl⟩)
  · refine wl_aload_n C 0 dX5_touch_10 rfl rfl ?_
    refine wl_iload_n C 1 dX5_touch_11 rfl rfl ?_
    refine wl_iload_n C 2 dX5_touch_12 rfl rfl ?_
    refine wl_iconst (v := (-1)) C dX5_touch_13 (by decide) ?_
    refine wl_callVp (i := 232) (n := 3) C [.int (nI b), .int (nI c), .int (-1)] [] (c_X5_isParted _ G M b c P Q hb hc hB hQ hp0 hq0 (-1)) gX5_touch_X5_isParted rfl (by decide +kernel) (by decide) (by decide) (kd_lt (k := 5) (by decide) (by decide)) (cell_k (k := 5) (by decide)) rfl rfl rfl (Nat.le_of_ble_eq_true rfl) dX5_touch_14 ?_
    refine wl_if_neB C 24 dX5_touch_17 (by decide) (fun c_17 => ?_) (fun c_17 => ?_)
    · refine wl_iconst (v := 0) C dX5_touch_24 (by decide) ?_
      exact hret _ 25 _ 0 (rfl) dX5_touch_25 (⟨(bi_f (by unfold tch; first | (rw [c_7]; rfl) | (rw [no_or c_17]; exact Bool.and_false _))).symm, rfl⟩)
    · refine wl_iconst (v := 1) C dX5_touch_20 (by decide) ?_
      refine wl_goto C 25 dX5_touch_21 (by decide) ?_
      exact hret _ 25 _ 1 (rfl) dX5_touch_25 (⟨(bi_t (by unfold tch; rw [c_7, no_or2 c_17]; rfl)).symm, rfl⟩)
