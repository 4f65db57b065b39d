set_option maxHeartbeats 4000000 in
set_option maxRecDepth 100000 in
theorem c_X4_isSize (l : Launch) (G : Gw) (M : Mem) (v : Int32) : Cp l G yX4_isSize wsX4_isSize 0 0 [.int v] M (bi (isSz v)) := by
  refine Ci.of (cc := cX4_isSize) (maxL := 1) (ret := (some .boolean)) (by decide +kernel) rfl (Nat.le_of_ble_eq_true rfl) ?_
  intro x sz hl0 hr C
  subst hl0
  have C : CX x G (AA G sz) RX4 cX4_isSize 1 wsX4_isSize 0 0 0 0 := C
  have hret : ∀ (M0 : Mem) (pc0 : Nat) (L0 : List (Nat × Value)) (rv0 : Int32), narrow .boolean (.int rv0) = .int rv0 → decode cX4_isSize pc0 = .ok (.ireturn, 1) → (fun (r : Int32) (M' : Mem) => r = bi (isSz v) ∧ M' = M) rv0 M0 → WL x G (AA G sz) 1 0 0 (xQ x (va_Qi (fun (r : Int32) (M' : Mem) => r = bi (isSz v) ∧ M' = M) (WE G) (AA G sz)) (AA G sz)) M0 pc0 L0 [.int rv0] := fun M0 pc0 L0 rv0 hn hd hp => wl_zret (post := (fun (r : Int32) (M' : Mem) => r = bi (isSz v) ∧ M' = M)) C hr hn hd hp
  show WL x G (AA G sz) 1 0 0 (xQ x (va_Qi (fun (r : Int32) (M' : Mem) => r = bi (isSz v) ∧ M' = M) (WE G) (AA G sz)) (AA G sz)) M 0 [(0, .int v)] []
  generalize (xQ x (va_Qi (fun (r : Int32) (M' : Mem) => r = bi (isSz v) ∧ M' = M) (WE G) (AA G sz)) (AA G sz)) = QQ at hret ⊢
  refine wl_iload_n C 0 dX4_isSize_0 rfl rfl ?_
  refine wl_bipush (v := 10) C dX4_isSize_1 (by decide) ?_
  refine wl_icmp_lt C 16 dX4_isSize_3 (by decide) (fun c_3 => ?_) (fun c_3 => ?_)
  · refine wl_iconst (v := 0) C dX4_isSize_16 (by decide) ?_
    exact hret _ 17 _ 0 (rfl) dX4_isSize_17 (⟨by simp [isSz, bi, *], rfl⟩)
  · refine wl_iload_n C 0 dX4_isSize_6 rfl rfl ?_
    refine wl_bipush (v := 60) C dX4_isSize_7 (by decide) ?_
    refine wl_icmp_gt C 16 dX4_isSize_9 (by decide) (fun c_9 => ?_) (fun c_9 => ?_)
    · refine wl_iconst (v := 0) C dX4_isSize_16 (by decide) ?_
      exact hret _ 17 _ 0 (rfl) dX4_isSize_17 (⟨by simp [isSz, bi, *], rfl⟩)
    · refine wl_iconst (v := 1) C dX4_isSize_12 (by decide) ?_
      refine wl_goto C 17 dX4_isSize_13 (by decide) ?_
      exact hret _ 17 _ 1 (rfl) dX4_isSize_17 (⟨by simp [isSz, bi, *], rfl⟩)
set_option maxHeartbeats 4000000 in
set_option maxRecDepth 100000 in
theorem c_X4_isDirection (l : Launch) (G : Gw) (M : Mem) (v : Int32) : Cp l G yX4_isDirection wsX4_isDirection 0 0 [.int v] M (bi (isDir v)) := by
  refine Ci.of (cc := cX4_isDirection) (maxL := 1) (ret := (some .boolean)) (by decide +kernel) rfl (Nat.le_of_ble_eq_true rfl) ?_
  intro x sz hl0 hr C
  subst hl0
  have C : CX x G (AA G sz) RX4 cX4_isDirection 1 wsX4_isDirection 0 0 0 0 := C
  have hret : ∀ (M0 : Mem) (pc0 : Nat) (L0 : List (Nat × Value)) (rv0 : Int32), narrow .boolean (.int rv0) = .int rv0 → decode cX4_isDirection pc0 = .ok (.ireturn, 1) → (fun (r : Int32) (M' : Mem) => r = bi (isDir v) ∧ M' = M) rv0 M0 → WL x G (AA G sz) 1 0 0 (xQ x (va_Qi (fun (r : Int32) (M' : Mem) => r = bi (isDir v) ∧ M' = M) (WE G) (AA G sz)) (AA G sz)) M0 pc0 L0 [.int rv0] := fun M0 pc0 L0 rv0 hn hd hp => wl_zret (post := (fun (r : Int32) (M' : Mem) => r = bi (isDir v) ∧ M' = M)) C hr hn hd hp
  show WL x G (AA G sz) 1 0 0 (xQ x (va_Qi (fun (r : Int32) (M' : Mem) => r = bi (isDir v) ∧ M' = M) (WE G) (AA G sz)) (AA G sz)) M 0 [(0, .int v)] []
  generalize (xQ x (va_Qi (fun (r : Int32) (M' : Mem) => r = bi (isDir v) ∧ M' = M) (WE G) (AA G sz)) (AA G sz)) = QQ at hret ⊢
  refine wl_iload_n C 0 dX4_isDirection_0 rfl rfl ?_
  refine wl_if_lt C 14 dX4_isDirection_1 (by decide) (fun c_1 => ?_) (fun c_1 => ?_)
  · refine wl_iconst (v := 0) C dX4_isDirection_14 (by decide) ?_
    exact hret _ 15 _ 0 (rfl) dX4_isDirection_15 (⟨by simp [isDir, bi, *], rfl⟩)
  · refine wl_iload_n C 0 dX4_isDirection_4 rfl rfl ?_
    refine wl_bipush (v := 8) C dX4_isDirection_5 (by decide) ?_
    refine wl_icmp_ge C 14 dX4_isDirection_7 (by decide) (fun c_7 => ?_) (fun c_7 => ?_)
    · refine wl_iconst (v := 0) C dX4_isDirection_14 (by decide) ?_
      exact hret _ 15 _ 0 (rfl) dX4_isDirection_15 (⟨by simp [isDir, bi, *], rfl⟩)
    · refine wl_iconst (v := 1) C dX4_isDirection_10 (by decide) ?_
      refine wl_goto C 15 dX4_isDirection_11 (by decide) ?_
      exact hret _ 15 _ 1 (rfl) dX4_isDirection_15 (⟨by simp [isDir, bi, *], rfl⟩)
set_option maxHeartbeats 4000000 in
set_option maxRecDepth 100000 in
theorem c_X4_box (l : Launch) (G : Gw) (M : Mem) (σ : Sy) (hR : RC M σ) (hO : OkY σ) (w : Int32) (h : Int32) : Ci l G yX4_box wsX4_box 4 89 [.ref (G.2.2.1 224), .int w, .int h] M (fun r M' => r = (boxY σ w h).1 ∧ RC M' (boxY σ w h).2 ∧ FrC M M') := by
  refine Ci.of (cc := cX4_box) (maxL := 4) (ret := (some .int)) (by decide +kernel) rfl (Nat.le_of_ble_eq_true rfl) ?_
  intro x sz hl0 hr C
  subst hl0
  have C : CX x G (AA G sz) RX4 cX4_box 4 wsX4_box 4 89 0 0 := C
  have hret : ∀ (M0 : Mem) (pc0 : Nat) (L0 : List (Nat × Value)) (rv0 : Int32), decode cX4_box pc0 = .ok (.ireturn, 1) → (fun r M' => r = (boxY σ w h).1 ∧ RC M' (boxY σ w h).2 ∧ FrC M M') rv0 M0 → WL x G (AA G sz) 4 0 0 (xQ x (va_Qi (fun r M' => r = (boxY σ w h).1 ∧ RC M' (boxY σ w h).2 ∧ FrC M M') (WE G) (AA G sz)) (AA G sz)) M0 pc0 L0 [.int rv0] := fun M0 pc0 L0 rv0 hd hp => wl_iret (post := (fun r M' => r = (boxY σ w h).1 ∧ RC M' (boxY σ w h).2 ∧ FrC M M')) C hr hd hp
  show WL x G (AA G sz) 4 0 0 (xQ x (va_Qi (fun r M' => r = (boxY σ w h).1 ∧ RC M' (boxY σ w h).2 ∧ FrC M M') (WE G) (AA G sz)) (AA G sz)) M 0 [(0, .ref (G.2.2.1 224)), (1, .int w), (2, .int h)] []
  generalize (xQ x (va_Qi (fun r M' => r = (boxY σ w h).1 ∧ RC M' (boxY σ w h).2 ∧ FrC M M') (WE G) (AA G sz)) (AA G sz)) = QQ at hret ⊢
  have cn37 : Jvm.Cond.constant RX4 37 (-1000001) ∈ wsX4_box := by decide +kernel
  have in4 : ∀ w ∈ wsX40, w ∈ wsX4_box := by decide +kernel
  have fl10 : Jvm.Cond.fieldLink RX4 10 "JammedBodies" "packing" "LJammedBodies$Packing;" ∈ wsX4_box := by decide +kernel
  have fl22 : Jvm.Cond.fieldLink RX4 22 "JammedBodies" "history" "LJammedBodies$History;" ∈ wsX4_box := by decide +kernel
  have in3 : ∀ w ∈ wsX30, w ∈ wsX4_box := by decide +kernel
  have fl47 : Jvm.Cond.fieldLink RX4 47 "JammedBodies$Packing" "width" "I" ∈ wsX4_box := by decide +kernel
  have fl51 : Jvm.Cond.fieldLink RX4 51 "JammedBodies$Packing" "height" "I" ∈ wsX4_box := by decide +kernel
  have cn42 : Jvm.Cond.constant RX4 42 (-1000002) ∈ wsX4_box := by decide +kernel
  have hs := hR.1
  have hW := hO.1.1
  have h8 := hs.r
  refine wl_iload_n C 1 dX4_box_0 rfl rfl ?_
  refine wl_callSp (n := 1) C [.int w] [] (c_X4_isSize _ G M w) gX4_box_X4_isSize rfl (by decide +kernel) (by decide) (by decide) rfl rfl (Nat.le_of_ble_eq_true rfl) dX4_box_1 ?_
  refine wl_if_eqB C 14 dX4_box_4 (by decide) (fun c_4 => ?_) (fun c_4 => ?_)
  · refine wl_ldc C cn37 dX4_box_14 ?_
    exact hret _ 16 _ (-1000001) dX4_box_16 (by (have e : boxY σ w h = (-1000001, σ) := (by unfold boxY; rw [if_neg (fun q => by first | exact bcf q.1 c_4 | exact bcf q.2 c_11)])); rw [e]; exact ⟨rfl, hR, FrC.rf⟩)
  · refine wl_iload_n C 2 dX4_box_7 rfl rfl ?_
    refine wl_callSp (n := 1) C [.int h] [] (c_X4_isSize _ G M h) gX4_box_X4_isSize rfl (by decide +kernel) (by decide) (by decide) rfl rfl (Nat.le_of_ble_eq_true rfl) dX4_box_8 ?_
    refine wl_if_neB C 17 dX4_box_11 (by decide) (fun c_11 => ?_) (fun c_11 => ?_)
    · refine wl_aload_n C 0 dX4_box_17 rfl rfl ?_
      refine wl_get_Main_packing (i := 224) C (by decide) in4 fl10 dX4_box_18 ?_
      refine wl_iload_n C 1 dX4_box_21 rfl rfl ?_
      refine wl_iload_n C 2 dX4_box_22 rfl rfl ?_
      refine wl_callVp (i := 0) (n := 2) C [.int w, .int h] [] (c_X3_fitsInto _ G M 0 σ.1 (by decide) hs hW w h) gX4_box_X3_fitsInto rfl (by decide +kernel) (by decide) (by decide) (kd_lt (k := 3) (by decide) (by decide)) (cell_k (k := 3) (by decide)) rfl rfl rfl (Nat.le_of_ble_eq_true rfl) dX4_box_23 ?_
      refine wl_if_neB C 32 dX4_box_26 (by decide) (fun c_26 => ?_) (fun c_26 => ?_)
      · refine wl_aload_n C 0 dX4_box_32 rfl rfl ?_
        refine wl_get_Main_history (i := 224) C (by decide) in4 fl22 dX4_box_33 ?_
        refine wl_aload_n C 0 dX4_box_36 rfl rfl ?_
        refine wl_get_Main_packing (i := 224) C (by decide) in4 fl10 dX4_box_37 ?_
        refine wl_callVv (i := 225) (n := 1) C [.ref (G.2.2.1 0)] [] (c_X2_keep _ G M 0 σ.2.1 σ.1 σ.2.2.1 (by decide) (by decide) hR.1 hR.2.1) gX4_box_X2_keep rfl (by decide +kernel) (by decide) (by decide) (kd_lt (k := 2) (by decide) (by decide)) (cell_k (k := 2) (by decide)) rfl rfl rfl (Nat.le_of_ble_eq_true rfl) dX4_box_40 (fun M1 ek => ?_)
        have s1 : Pk M1 0 σ.1 := hR.1.frH ek.2 (by decide)
        refine wl_bipush (v := 100) C dX4_box_43 (by decide) ?_
        refine wl_aload_n C 0 dX4_box_45 rfl rfl ?_
        refine wl_get_Main_packing (i := 224) C (by decide) in4 fl10 dX4_box_46 ?_
        refine wl_get_Packing_width (i := 0) (v := σ.1.2.1) C (by decide) in3 fl47 s1.2.1 dX4_box_49 ?_
        refine wl_imul C dX4_box_52 ?_
        refine wl_aload_n C 0 dX4_box_53 rfl rfl ?_
        refine wl_get_Main_packing (i := 224) C (by decide) in4 fl10 dX4_box_54 ?_
        refine wl_get_Packing_height (i := 0) (v := σ.1.2.2.1) C (by decide) in3 fl51 s1.2.2.1 dX4_box_57 ?_
        refine wl_iadd C dX4_box_60 ?_
        refine wl_istore_n (L' := [(3, .int ((100 * σ.1.2.1) + σ.1.2.2.1)), (0, .ref (G.2.2.1 224)), (1, .int w), (2, .int h)]) C dX4_box_61 rfl (by decide) rfl ?_
        refine wl_aload_n C 1 dX4_box_62 rfl rfl ?_
        refine wl_get_Main_packing (i := 224) C (by decide) in4 fl10 dX4_box_63 ?_
        refine wl_iload_n C 2 dX4_box_66 rfl rfl ?_
        refine wl_put_Packing_width (i := 0) C (by decide) in3 fl47 dX4_box_67 ?_
        refine wl_aload_n C 1 dX4_box_70 rfl rfl ?_
        refine wl_get_Main_packing (i := 224) C (by decide) in4 fl10 dX4_box_71 ?_
        refine wl_iload_n C 3 dX4_box_74 rfl rfl ?_
        refine wl_put_Packing_height (i := 0) C (by decide) in3 fl51 dX4_box_75 ?_
        refine wl_iload_n C 0 dX4_box_78 rfl rfl ?_
        exact hret _ 79 _ ((100 * σ.1.2.1) + σ.1.2.2.1) dX4_box_79 (by (have e : boxY σ w h = (100 * σ.1.2.1 + σ.1.2.2.1, pushY σ (σ.1.1, w, h, σ.1.2.2.2)) := (by unfold boxY; rw [if_pos ⟨c_4, c_11⟩, if_pos c_26])); rw [e]; (have q := hR.push ek ((LoF.set (by omega)).tr (LoF.set (by omega))) (s1.box w h)); exact ⟨rfl, q.1, q.2⟩)
      · refine wl_ldc C cn42 dX4_box_29 ?_
        exact hret _ 31 _ (-1000002) dX4_box_31 (by (have e : boxY σ w h = (-1000002, σ) := (by unfold boxY; rw [if_pos ⟨c_4, c_11⟩, if_neg (fun q => bcf q c_26)])); rw [e]; exact ⟨rfl, hR, FrC.rf⟩)
    · refine wl_ldc C cn37 dX4_box_14 ?_
      exact hret _ 16 _ (-1000001) dX4_box_16 (by (have e : boxY σ w h = (-1000001, σ) := (by unfold boxY; rw [if_neg (fun q => by first | exact bcf q.1 c_4 | exact bcf q.2 c_11)])); rw [e]; exact ⟨rfl, hR, FrC.rf⟩)
set_option maxHeartbeats 4000000 in
set_option maxRecDepth 100000 in
theorem c_X4_put (l : Launch) (G : Gw) (M : Mem) (σ : Sy) (hR : RC M σ) (hO : OkY σ) : Ci l G yX4_put wsX4_put 5 125 [.ref (G.2.2.1 224)] M (fun r M' => r = (putY σ).1 ∧ RC M' (putY σ).2 ∧ FrC M M') := by
  refine Ci.of (cc := cX4_put) (maxL := 1) (ret := (some .int)) (by decide +kernel) rfl (Nat.le_of_ble_eq_true rfl) ?_
  intro x sz hl0 hr C
  subst hl0
  have C : CX x G (AA G sz) RX4 cX4_put 1 wsX4_put 5 125 0 0 := C
  have hret : ∀ (M0 : Mem) (pc0 : Nat) (L0 : List (Nat × Value)) (rv0 : Int32), decode cX4_put pc0 = .ok (.ireturn, 1) → (fun r M' => r = (putY σ).1 ∧ RC M' (putY σ).2 ∧ FrC M M') rv0 M0 → WL x G (AA G sz) 1 0 0 (xQ x (va_Qi (fun r M' => r = (putY σ).1 ∧ RC M' (putY σ).2 ∧ FrC M M') (WE G) (AA G sz)) (AA G sz)) M0 pc0 L0 [.int rv0] := fun M0 pc0 L0 rv0 hd hp => wl_iret (post := (fun r M' => r = (putY σ).1 ∧ RC M' (putY σ).2 ∧ FrC M M')) C hr hd hp
  show WL x G (AA G sz) 1 0 0 (xQ x (va_Qi (fun r M' => r = (putY σ).1 ∧ RC M' (putY σ).2 ∧ FrC M M') (WE G) (AA G sz)) (AA G sz)) M 0 [(0, .ref (G.2.2.1 224))] []
  generalize (xQ x (va_Qi (fun r M' => r = (putY σ).1 ∧ RC M' (putY σ).2 ∧ FrC M M') (WE G) (AA G sz)) (AA G sz)) = QQ at hret ⊢
  have in4 : ∀ w ∈ wsX40, w ∈ wsX4_put := by decide +kernel
  have fl29 : Jvm.Cond.fieldLink RX4 29 "JammedBodies" "text" "LJammedBodies$BodyText;" ∈ wsX4_put := by decide +kernel
  have fl10 : Jvm.Cond.fieldLink RX4 10 "JammedBodies" "packing" "LJammedBodies$Packing;" ∈ wsX4_put := by decide +kernel
  have in1 : ∀ w ∈ wsX10, w ∈ wsX4_put := by decide +kernel
  have fl57 : Jvm.Cond.fieldLink RX4 57 "JammedBodies$BodyText" "reason" "I" ∈ wsX4_put := by decide +kernel
  have in3 : ∀ w ∈ wsX30, w ∈ wsX4_put := by decide +kernel
  have fl60 : Jvm.Cond.fieldLink RX4 60 "JammedBodies$Packing" "size" "I" ∈ wsX4_put := by decide +kernel
  have fl22 : Jvm.Cond.fieldLink RX4 22 "JammedBodies" "history" "LJammedBodies$History;" ∈ wsX4_put := by decide +kernel
  have fl64 : Jvm.Cond.fieldLink RX4 64 "JammedBodies$BodyText" "told" "LJammedBodies$Body;" ∈ wsX4_put := by decide +kernel
  have cn63 : Jvm.Cond.constant RX4 63 (-1000003) ∈ wsX4_put := by decide +kernel
  have cn42 : Jvm.Cond.constant RX4 42 (-1000002) ∈ wsX4_put := by decide +kernel
  have hs := hR.1
  have hW := hO.1.1
  have h8 := hs.r
  refine wl_aload_n C 0 dX4_put_0 rfl rfl ?_
  refine wl_get_Main_text (i := 224) C (by decide) in4 fl29 dX4_put_1 ?_
  refine wl_aload_n C 0 dX4_put_4 rfl rfl ?_
  refine wl_get_Main_packing (i := 224) C (by decide) in4 fl10 dX4_put_5 ?_
  refine wl_callVv (i := 227) (n := 1) C [.ref (G.2.2.1 0)] [] (c_X1_examine _ G M σ.2.2.2 0 σ.1 (by decide) hs hW hR.2.2 hO.2.2) gX4_put_X1_examine rfl (by decide +kernel) (by decide) (by decide) (kd_lt (k := 1) (by decide) (by decide)) (cell_k (k := 1) (by decide)) rfl rfl rfl (Nat.le_of_ble_eq_true rfl) dX4_put_8 (fun Ma ee => ?_)
  have tx : RC Ma σ := ⟨hs.frT ee.2.2.2.2.1 (by decide), hR.2.1.frT ee.2.2.2.2.1, hR.2.2.fr ee.2.2.2.2.1 ee.2.2.2.1⟩
  have fx : FrC M Ma := ee.2.2.2.2.1.C
  refine wl_aload_n C 0 dX4_put_11 rfl rfl ?_
  refine wl_get_Main_text (i := 224) C (by decide) in4 fl29 dX4_put_12 ?_
  refine wl_get_BodyText_reason (i := 227) (v := (fltT σ.2.2.2 σ.1).2.1) C (by decide) in1 fl57 ee.2.1 dX4_put_15 ?_
  refine wl_if_eq C 24 dX4_put_18 (by decide) (fun c_18 => ?_) (fun c_18 => ?_)
  · refine wl_aload_n C 0 dX4_put_24 rfl rfl ?_
    refine wl_get_Main_packing (i := 224) C (by decide) in4 fl10 dX4_put_25 ?_
    refine wl_get_Packing_size (i := 0) (v := nI σ.1.1) C (by decide) in3 fl60 tx.1.1 dX4_put_28 ?_
    refine wl_bipush (v := nI 8) C dX4_put_31 (by decide) ?_
    refine wl_icmp_ltN C (a := σ.1.1) (b := 8) (by omega) (by omega) 39 dX4_put_33 (by decide) (fun c_33 => ?_) (fun c_33 => ?_)
    · refine wl_aload_n C 0 dX4_put_39 rfl rfl ?_
      refine wl_get_Main_history (i := 224) C (by decide) in4 fl22 dX4_put_40 ?_
      refine wl_aload_n C 0 dX4_put_43 rfl rfl ?_
      refine wl_get_Main_packing (i := 224) C (by decide) in4 fl10 dX4_put_44 ?_
      refine wl_callVv (i := 225) (n := 1) C [.ref (G.2.2.1 0)] [] (c_X2_keep _ G Ma 0 σ.2.1 σ.1 σ.2.2.1 (by decide) (by decide) tx.1 tx.2.1) gX4_put_X2_keep rfl (by decide +kernel) (by decide) (by decide) (kd_lt (k := 2) (by decide) (by decide)) (cell_k (k := 2) (by decide)) rfl rfl rfl (Nat.le_of_ble_eq_true rfl) dX4_put_47 (fun M1 ek => ?_)
      have s1 : Pk M1 0 σ.1 := tx.1.frH ek.2 (by decide)
      have b1 : Bd M1 229 (polyT σ.2.2.2) := (ee.2.2.2.2.2 c_18).frH ek.2
      refine wl_aload_n C 0 dX4_put_50 rfl rfl ?_
      refine wl_get_Main_packing (i := 224) C (by decide) in4 fl10 dX4_put_51 ?_
      refine wl_aload_n C 0 dX4_put_54 rfl rfl ?_
      refine wl_get_Main_text (i := 224) C (by decide) in4 fl29 dX4_put_55 ?_
      refine wl_get_BodyText_told (i := 227) C (by decide) in1 fl64 dX4_put_58 ?_
      refine wl_callVi (i := 0) (n := 1) C [.ref (G.2.2.1 229)] [] (c_X3_add _ G M1 0 σ.1 (by decide) s1 229 (polyT σ.2.2.2) (by decide) b1 (by omega) (by omega)) gX4_put_X3_add rfl (by decide +kernel) (by decide) (by decide) (kd_lt (k := 3) (by decide) (by decide)) (cell_k (k := 3) (by decide)) rfl rfl rfl (Nat.le_of_ble_eq_true rfl) dX4_put_61 (fun r1 M2 ea => ?_)
      obtain ⟨qa, pa, fa⟩ := ea
      subst qa
      exact hret _ 64 _ (nI σ.1.1) dX4_put_64 (by (have e : putY σ = (nI σ.1.1, pushY σ (addS σ.1 (polyT σ.2.2.2))) := (by unfold putY; rw [if_pos c_18, if_pos c_33])); rw [e]; (have q := tx.push ek (fa.Lo (Or.inl rfl)) pa); exact ⟨rfl, q.1, fx.tr q.2⟩)
    · refine wl_ldc C cn63 dX4_put_36 ?_
      exact hret _ 38 _ (-1000003) dX4_put_38 (by (have e : putY σ = (-1000003, σ) := (by unfold putY; rw [if_pos c_18, if_neg c_33])); rw [e]; exact ⟨rfl, tx, fx⟩)
  · refine wl_ldc C cn42 dX4_put_21 ?_
    exact hret _ 23 _ (-1000002) dX4_put_23 (by (have e : putY σ = (-1000002, σ) := (by unfold putY; rw [if_neg c_18])); rw [e]; exact ⟨rfl, tx, fx⟩)
set_option maxHeartbeats 4000000 in
set_option maxRecDepth 100000 in
theorem c_X4_remove (l : Launch) (G : Gw) (M : Mem) (σ : Sy) (hR : RC M σ) (hO : OkY σ) (v : Int32) : Ci l G yX4_remove wsX4_remove 4 88 [.ref (G.2.2.1 224), .int v] M (fun r M' => r = (remY σ v).1 ∧ RC M' (remY σ v).2 ∧ FrC M M') := by
  refine Ci.of (cc := cX4_remove) (maxL := 2) (ret := (some .int)) (by decide +kernel) rfl (Nat.le_of_ble_eq_true rfl) ?_
  intro x sz hl0 hr C
  subst hl0
  have C : CX x G (AA G sz) RX4 cX4_remove 2 wsX4_remove 4 88 0 0 := C
  have hret : ∀ (M0 : Mem) (pc0 : Nat) (L0 : List (Nat × Value)) (rv0 : Int32), decode cX4_remove pc0 = .ok (.ireturn, 1) → (fun r M' => r = (remY σ v).1 ∧ RC M' (remY σ v).2 ∧ FrC M M') rv0 M0 → WL x G (AA G sz) 2 0 0 (xQ x (va_Qi (fun r M' => r = (remY σ v).1 ∧ RC M' (remY σ v).2 ∧ FrC M M') (WE G) (AA G sz)) (AA G sz)) M0 pc0 L0 [.int rv0] := fun M0 pc0 L0 rv0 hd hp => wl_iret (post := (fun r M' => r = (remY σ v).1 ∧ RC M' (remY σ v).2 ∧ FrC M M')) C hr hd hp
  show WL x G (AA G sz) 2 0 0 (xQ x (va_Qi (fun r M' => r = (remY σ v).1 ∧ RC M' (remY σ v).2 ∧ FrC M M') (WE G) (AA G sz)) (AA G sz)) M 0 [(0, .ref (G.2.2.1 224)), (1, .int v)] []
  generalize (xQ x (va_Qi (fun r M' => r = (remY σ v).1 ∧ RC M' (remY σ v).2 ∧ FrC M M') (WE G) (AA G sz)) (AA G sz)) = QQ at hret ⊢
  have in4 : ∀ w ∈ wsX40, w ∈ wsX4_remove := by decide +kernel
  have fl10 : Jvm.Cond.fieldLink RX4 10 "JammedBodies" "packing" "LJammedBodies$Packing;" ∈ wsX4_remove := by decide +kernel
  have fl22 : Jvm.Cond.fieldLink RX4 22 "JammedBodies" "history" "LJammedBodies$History;" ∈ wsX4_remove := by decide +kernel
  have in3 : ∀ w ∈ wsX30, w ∈ wsX4_remove := by decide +kernel
  have fl60 : Jvm.Cond.fieldLink RX4 60 "JammedBodies$Packing" "size" "I" ∈ wsX4_remove := by decide +kernel
  have cn37 : Jvm.Cond.constant RX4 37 (-1000001) ∈ wsX4_remove := by decide +kernel
  have hs := hR.1
  have hW := hO.1.1
  have h8 := hs.r
  refine wl_aload_n C 0 dX4_remove_0 rfl rfl ?_
  refine wl_get_Main_packing (i := 224) C (by decide) in4 fl10 dX4_remove_1 ?_
  refine wl_iload_n C 1 dX4_remove_4 rfl rfl ?_
  refine wl_callVp (i := 0) (n := 1) C [.int v] [] (c_X3_has _ G M 0 σ.1 (by decide) hs v) gX4_remove_X3_has rfl (by decide +kernel) (by decide) (by decide) (kd_lt (k := 3) (by decide) (by decide)) (cell_k (k := 3) (by decide)) rfl rfl rfl (Nat.le_of_ble_eq_true rfl) dX4_remove_5 ?_
  refine wl_if_neB C 14 dX4_remove_8 (by decide) (fun c_8 => ?_) (fun c_8 => ?_)
  · obtain ⟨k, hk, hv, hkc⟩ := hasB_k c_8 (by omega)
    refine wl_aload_n C 0 dX4_remove_14 rfl rfl ?_
    refine wl_get_Main_history (i := 224) C (by decide) in4 fl22 dX4_remove_15 ?_
    refine wl_aload_n C 0 dX4_remove_18 rfl rfl ?_
    refine wl_get_Main_packing (i := 224) C (by decide) in4 fl10 dX4_remove_19 ?_
    refine wl_callVv (i := 225) (n := 1) C [.ref (G.2.2.1 0)] [] (c_X2_keep _ G M 0 σ.2.1 σ.1 σ.2.2.1 (by decide) (by decide) hR.1 hR.2.1) gX4_remove_X2_keep rfl (by decide +kernel) (by decide) (by decide) (kd_lt (k := 2) (by decide) (by decide)) (cell_k (k := 2) (by decide)) rfl rfl rfl (Nat.le_of_ble_eq_true rfl) dX4_remove_22 (fun M1 ek => ?_)
    have s1 : Pk M1 0 σ.1 := hR.1.frH ek.2 (by decide)
    refine wl_aload_n C 0 dX4_remove_25 rfl rfl ?_
    refine wl_get_Main_packing (i := 224) C (by decide) in4 fl10 dX4_remove_26 ?_
    refine wl_iload_n C 1 dX4_remove_29 rfl rfl ?_
    refine wl_eqi (b := nI k) (hv) ?_
    refine wl_callVv (i := 0) (n := 1) C [.int (nI k)] [] (c_X3_takeOut _ G M1 0 σ.1 (by decide) s1 k hk) gX4_remove_X3_takeOut rfl (by decide +kernel) (by decide) (by decide) (kd_lt (k := 3) (by decide) (by decide)) (cell_k (k := 3) (by decide)) rfl rfl rfl (Nat.le_of_ble_eq_true rfl) dX4_remove_30 (fun M2 et => ?_)
    refine wl_aload_n C 0 dX4_remove_33 rfl rfl ?_
    refine wl_get_Main_packing (i := 224) C (by decide) in4 fl10 dX4_remove_34 ?_
    refine wl_get_Packing_size (i := 0) (v := nI (σ.1.1 - 1)) C (by decide) in3 fl60 et.1.1 dX4_remove_37 ?_
    exact hret _ 40 _ (nI (σ.1.1 - 1)) dX4_remove_40 (by (have e : remY σ v = (nI (σ.1.1 - 1), pushY σ (outS σ.1 k)) := (by unfold remY; rw [if_pos c_8, hkc])); rw [e]; (have q := hR.push ek (et.2.Lo (Or.inl rfl)) et.1); exact ⟨rfl, q.1, q.2⟩)
  · refine wl_ldc C cn37 dX4_remove_11 ?_
    exact hret _ 13 _ (-1000001) dX4_remove_13 (by (have e : remY σ v = (-1000001, σ) := (by unfold remY; rw [if_neg (fun q => bcf q c_8)])); rw [e]; exact ⟨rfl, hR, FrC.rf⟩)
set_option maxHeartbeats 4000000 in
set_option maxRecDepth 100000 in
theorem c_X4_slide (l : Launch) (G : Gw) (M : Mem) (σ : Sy) (hR : RC M σ) (hO : OkY σ) (v : Int32) (d : Int32) (m : Int32) : Ci l G yX4_slide wsX4_slide 5 125 [.ref (G.2.2.1 224), .int v, .int d, .int m] M (fun r M' => r = (sliY σ v d m).1 ∧ RC M' (sliY σ v d m).2 ∧ FrC M M') := by
  refine Ci.of (cc := cX4_slide) (maxL := 5) (ret := (some .int)) (by decide +kernel) rfl (Nat.le_of_ble_eq_true rfl) ?_
  intro x sz hl0 hr C
  subst hl0
  have C : CX x G (AA G sz) RX4 cX4_slide 5 wsX4_slide 5 125 0 0 := C
  have hret : ∀ (M0 : Mem) (pc0 : Nat) (L0 : List (Nat × Value)) (rv0 : Int32), decode cX4_slide pc0 = .ok (.ireturn, 1) → (fun r M' => r = (sliY σ v d m).1 ∧ RC M' (sliY σ v d m).2 ∧ FrC M M') rv0 M0 → WL x G (AA G sz) 5 0 0 (xQ x (va_Qi (fun r M' => r = (sliY σ v d m).1 ∧ RC M' (sliY σ v d m).2 ∧ FrC M M') (WE G) (AA G sz)) (AA G sz)) M0 pc0 L0 [.int rv0] := fun M0 pc0 L0 rv0 hd hp => wl_iret (post := (fun r M' => r = (sliY σ v d m).1 ∧ RC M' (sliY σ v d m).2 ∧ FrC M M')) C hr hd hp
  show WL x G (AA G sz) 5 0 0 (xQ x (va_Qi (fun r M' => r = (sliY σ v d m).1 ∧ RC M' (sliY σ v d m).2 ∧ FrC M M') (WE G) (AA G sz)) (AA G sz)) M 0 [(0, .ref (G.2.2.1 224)), (1, .int v), (2, .int d), (3, .int m)] []
  generalize (xQ x (va_Qi (fun r M' => r = (sliY σ v d m).1 ∧ RC M' (sliY σ v d m).2 ∧ FrC M M') (WE G) (AA G sz)) (AA G sz)) = QQ at hret ⊢
  have in4 : ∀ w ∈ wsX40, w ∈ wsX4_slide := by decide +kernel
  have fl10 : Jvm.Cond.fieldLink RX4 10 "JammedBodies" "packing" "LJammedBodies$Packing;" ∈ wsX4_slide := by decide +kernel
  have cn37 : Jvm.Cond.constant RX4 37 (-1000001) ∈ wsX4_slide := by decide +kernel
  have fl22 : Jvm.Cond.fieldLink RX4 22 "JammedBodies" "history" "LJammedBodies$History;" ∈ wsX4_slide := by decide +kernel
  have cn42 : Jvm.Cond.constant RX4 42 (-1000002) ∈ wsX4_slide := by decide +kernel
  have hs := hR.1
  have hW := hO.1.1
  have h8 := hs.r
  refine wl_aload_n C 0 dX4_slide_0 rfl rfl ?_
  refine wl_get_Main_packing (i := 224) C (by decide) in4 fl10 dX4_slide_1 ?_
  refine wl_iload_n C 1 dX4_slide_4 rfl rfl ?_
  refine wl_callVp (i := 0) (n := 1) C [.int v] [] (c_X3_has _ G M 0 σ.1 (by decide) hs v) gX4_slide_X3_has rfl (by decide +kernel) (by decide) (by decide) (kd_lt (k := 3) (by decide) (by decide)) (cell_k (k := 3) (by decide)) rfl rfl rfl (Nat.le_of_ble_eq_true rfl) dX4_slide_5 ?_
  refine wl_if_eqB C 29 dX4_slide_8 (by decide) (fun c_8 => ?_) (fun c_8 => ?_)
  · refine wl_ldc C cn37 dX4_slide_29 ?_
    exact hret _ 31 _ (-1000001) dX4_slide_31 (by (have e : sliY σ v d m = (-1000001, σ) := (by unfold sliY; rw [if_neg (fun q => by first | exact bcf q.1 c_8 | exact bcf q.2.1 c_15 | exact (Int32.not_le.mpr c_20) q.2.2.1 | exact c_26 q.2.2.2)])); rw [e]; exact ⟨rfl, hR, FrC.rf⟩)
  · refine wl_iload_n C 2 dX4_slide_11 rfl rfl ?_
    refine wl_callSp (n := 1) C [.int d] [] (c_X4_isDirection _ G M d) gX4_slide_X4_isDirection rfl (by decide +kernel) (by decide) (by decide) rfl rfl (Nat.le_of_ble_eq_true rfl) dX4_slide_12 ?_
    refine wl_if_eqB C 29 dX4_slide_15 (by decide) (fun c_15 => ?_) (fun c_15 => ?_)
    · refine wl_ldc C cn37 dX4_slide_29 ?_
      exact hret _ 31 _ (-1000001) dX4_slide_31 (by (have e : sliY σ v d m = (-1000001, σ) := (by unfold sliY; rw [if_neg (fun q => by first | exact bcf q.1 c_8 | exact bcf q.2.1 c_15 | exact (Int32.not_le.mpr c_20) q.2.2.1 | exact c_26 q.2.2.2)])); rw [e]; exact ⟨rfl, hR, FrC.rf⟩)
    · refine wl_iload_n C 3 dX4_slide_18 rfl rfl ?_
      refine wl_iconst (v := 1) C dX4_slide_19 (by decide) ?_
      refine wl_icmp_lt C 29 dX4_slide_20 (by decide) (fun c_20 => ?_) (fun c_20 => ?_)
      · refine wl_ldc C cn37 dX4_slide_29 ?_
        exact hret _ 31 _ (-1000001) dX4_slide_31 (by (have e : sliY σ v d m = (-1000001, σ) := (by unfold sliY; rw [if_neg (fun q => by first | exact bcf q.1 c_8 | exact bcf q.2.1 c_15 | exact (Int32.not_le.mpr c_20) q.2.2.1 | exact c_26 q.2.2.2)])); rw [e]; exact ⟨rfl, hR, FrC.rf⟩)
      · refine wl_iload_n C 3 dX4_slide_23 rfl rfl ?_
        refine wl_bipush (v := 60) C dX4_slide_24 (by decide) ?_
        refine wl_icmp_le C 32 dX4_slide_26 (by decide) (fun c_26 => ?_) (fun c_26 => ?_)
        · obtain ⟨k, hk, hv, hkc⟩ := hasB_k c_8 (by omega)
          obtain ⟨d2, hd, hdv, hdc⟩ := isDir_k c_15
          obtain ⟨m2, hm1, hm60, hmv, hmc⟩ := num_k (a := 1) (b := 60) (by decide) (Int32.not_lt.mp c_20) c_26 (by decide)
          refine wl_aload_n C 0 dX4_slide_32 rfl rfl ?_
          refine wl_get_Main_packing (i := 224) C (by decide) in4 fl10 dX4_slide_33 ?_
          refine wl_iload_n C 1 dX4_slide_36 rfl rfl ?_
          refine wl_eqi (b := nI k) (hv) ?_
          refine wl_iload_n C 2 dX4_slide_37 rfl rfl ?_
          refine wl_eqi (b := nI d2) (hdv) ?_
          refine wl_iload_n C 3 dX4_slide_38 rfl rfl ?_
          refine wl_eqi (b := nI m2) (hmv) ?_
          refine wl_callVi (i := 0) (n := 3) C [.int (nI k), .int (nI d2), .int (nI m2)] [] (c_X3_freeSteps _ G M 0 σ.1 (by decide) hs hW k d2 m2 hk hd (by omega)) gX4_slide_X3_freeSteps rfl (by decide +kernel) (by decide) (by decide) (kd_lt (k := 3) (by decide) (by decide)) (cell_k (k := 3) (by decide)) rfl rfl rfl (Nat.le_of_ble_eq_true rfl) dX4_slide_39 (fun r1 Ma ea => ?_)
          obtain ⟨qa, fa⟩ := ea
          subst qa
          have tx := hR.gh fa
          have fx : FrC M Ma := (fa.Lo (by omega)).C
          have hle := fsN_le σ.1 k d2 m2
          refine wl_istore (L' := [(4, .int (nI (fsN σ.1 k d2 m2))), (0, .ref (G.2.2.1 224)), (1, .int v), (2, .int d), (3, .int m)]) C dX4_slide_42 (by decide) rfl ?_
          refine wl_iload C 0 dX4_slide_44 rfl ?_
          refine wl_if_ne C 52 dX4_slide_46 (by decide) (fun c_46 => ?_) (fun c_46 => ?_)
          · refine wl_aload_n C 1 dX4_slide_52 rfl rfl ?_
            refine wl_get_Main_history (i := 224) C (by decide) in4 fl22 dX4_slide_53 ?_
            refine wl_aload_n C 1 dX4_slide_56 rfl rfl ?_
            refine wl_get_Main_packing (i := 224) C (by decide) in4 fl10 dX4_slide_57 ?_
            refine wl_callVv (i := 225) (n := 1) C [.ref (G.2.2.1 0)] [] (c_X2_keep _ G Ma 0 σ.2.1 σ.1 σ.2.2.1 (by decide) (by decide) tx.1 tx.2.1) gX4_slide_X2_keep rfl (by decide +kernel) (by decide) (by decide) (kd_lt (k := 2) (by decide) (by decide)) (cell_k (k := 2) (by decide)) rfl rfl rfl (Nat.le_of_ble_eq_true rfl) dX4_slide_60 (fun M1 ek => ?_)
            have s1 : Pk M1 0 σ.1 := tx.1.frH ek.2 (by decide)
            refine wl_aload_n C 1 dX4_slide_63 rfl rfl ?_
            refine wl_get_Main_packing (i := 224) C (by decide) in4 fl10 dX4_slide_64 ?_
            refine wl_iload_n C 2 dX4_slide_67 rfl rfl ?_
            refine wl_eqi (b := nI k) (hv) ?_
            refine wl_iload_n C 3 dX4_slide_68 rfl rfl ?_
            refine wl_eqi (b := nI d2) (hdv) ?_
            refine wl_iload C 0 dX4_slide_69 rfl ?_
            refine wl_callVv (i := 0) (n := 3) C [.int (nI k), .int (nI d2), .int (nI (fsN σ.1 k d2 m2))] [] (c_X3_shift _ G M1 0 σ.1 (by decide) s1 k d2 (fsN σ.1 k d2 m2) hk hd) gX4_slide_X3_shift rfl (by decide +kernel) (by decide) (by decide) (kd_lt (k := 3) (by decide) (by decide)) (cell_k (k := 3) (by decide)) rfl rfl rfl (Nat.le_of_ble_eq_true rfl) dX4_slide_71 (fun M2 es => ?_)
            refine wl_iload C 0 dX4_slide_74 rfl ?_
            exact hret _ 76 _ (nI (fsN σ.1 k d2 m2)) dX4_slide_76 (by (have e : sliY σ v d m = (nI (fsN σ.1 k d2 m2), pushY σ (setS σ.1 k (shP (σ.1.2.2.2 k) d2 (fsN σ.1 k d2 m2)))) := (by unfold sliY; rw [if_pos ⟨c_8, c_15, Int32.not_lt.mp c_20, c_26⟩, hkc, hdc, hmc, if_neg (fun z => c_46 (by rw [z]; rfl))])); rw [e]; (have q := tx.push ek (es.2.Lo (by omega)) es.1); exact ⟨rfl, q.1, fx.tr q.2⟩)
          · refine wl_ldc C cn42 dX4_slide_49 ?_
            exact hret _ 51 _ (-1000002) dX4_slide_51 (by (have e : sliY σ v d m = (-1000002, σ) := (by unfold sliY; rw [if_pos ⟨c_8, c_15, Int32.not_lt.mp c_20, c_26⟩, hkc, hdc, hmc, if_pos (Nat.eq_zero_of_not_pos (fun q => nI_ne0 q (by omega) c_46))])); rw [e]; exact ⟨rfl, tx, fx⟩)
        · refine wl_ldc C cn37 dX4_slide_29 ?_
          exact hret _ 31 _ (-1000001) dX4_slide_31 (by (have e : sliY σ v d m = (-1000001, σ) := (by unfold sliY; rw [if_neg (fun q => by first | exact bcf q.1 c_8 | exact bcf q.2.1 c_15 | exact (Int32.not_le.mpr c_20) q.2.2.1 | exact c_26 q.2.2.2)])); rw [e]; exact ⟨rfl, hR, FrC.rf⟩)
set_option maxHeartbeats 4000000 in
set_option maxRecDepth 100000 in
theorem c_X4_settle (l : Launch) (G : Gw) (M : Mem) (σ : Sy) (hR : RC M σ) (hO : OkY σ) (d : Int32) : Ci l G yX4_settle wsX4_settle 6 151 [.ref (G.2.2.1 224), .int d] M (fun r M' => r = (setY σ d).1 ∧ RC M' (setY σ d).2 ∧ FrC M M') := by
  refine Ci.of (cc := cX4_settle) (maxL := 2) (ret := (some .int)) (by decide +kernel) rfl (Nat.le_of_ble_eq_true rfl) ?_
  intro x sz hl0 hr C
  subst hl0
  have C : CX x G (AA G sz) RX4 cX4_settle 2 wsX4_settle 6 151 0 0 := C
  have hret : ∀ (M0 : Mem) (pc0 : Nat) (L0 : List (Nat × Value)) (rv0 : Int32), decode cX4_settle pc0 = .ok (.ireturn, 1) → (fun r M' => r = (setY σ d).1 ∧ RC M' (setY σ d).2 ∧ FrC M M') rv0 M0 → WL x G (AA G sz) 2 0 0 (xQ x (va_Qi (fun r M' => r = (setY σ d).1 ∧ RC M' (setY σ d).2 ∧ FrC M M') (WE G) (AA G sz)) (AA G sz)) M0 pc0 L0 [.int rv0] := fun M0 pc0 L0 rv0 hd hp => wl_iret (post := (fun r M' => r = (setY σ d).1 ∧ RC M' (setY σ d).2 ∧ FrC M M')) C hr hd hp
  show WL x G (AA G sz) 2 0 0 (xQ x (va_Qi (fun r M' => r = (setY σ d).1 ∧ RC M' (setY σ d).2 ∧ FrC M M') (WE G) (AA G sz)) (AA G sz)) M 0 [(0, .ref (G.2.2.1 224)), (1, .int d)] []
  generalize (xQ x (va_Qi (fun r M' => r = (setY σ d).1 ∧ RC M' (setY σ d).2 ∧ FrC M M') (WE G) (AA G sz)) (AA G sz)) = QQ at hret ⊢
  have in4 : ∀ w ∈ wsX40, w ∈ wsX4_settle := by decide +kernel
  have fl22 : Jvm.Cond.fieldLink RX4 22 "JammedBodies" "history" "LJammedBodies$History;" ∈ wsX4_settle := by decide +kernel
  have fl10 : Jvm.Cond.fieldLink RX4 10 "JammedBodies" "packing" "LJammedBodies$Packing;" ∈ wsX4_settle := by decide +kernel
  have cn37 : Jvm.Cond.constant RX4 37 (-1000001) ∈ wsX4_settle := by decide +kernel
  have hs := hR.1
  have hW := hO.1.1
  have h8 := hs.r
  refine wl_iload_n C 1 dX4_settle_0 rfl rfl ?_
  refine wl_callSp (n := 1) C [.int d] [] (c_X4_isDirection _ G M d) gX4_settle_X4_isDirection rfl (by decide +kernel) (by decide) (by decide) rfl rfl (Nat.le_of_ble_eq_true rfl) dX4_settle_1 ?_
  refine wl_if_neB C 10 dX4_settle_4 (by decide) (fun c_4 => ?_) (fun c_4 => ?_)
  · obtain ⟨d2, hd, hdv, hdc⟩ := isDir_k c_4
    refine wl_aload_n C 0 dX4_settle_10 rfl rfl ?_
    refine wl_get_Main_history (i := 224) C (by decide) in4 fl22 dX4_settle_11 ?_
    refine wl_aload_n C 0 dX4_settle_14 rfl rfl ?_
    refine wl_get_Main_packing (i := 224) C (by decide) in4 fl10 dX4_settle_15 ?_
    refine wl_callVv (i := 225) (n := 1) C [.ref (G.2.2.1 0)] [] (c_X2_keep _ G M 0 σ.2.1 σ.1 σ.2.2.1 (by decide) (by decide) hR.1 hR.2.1) gX4_settle_X2_keep rfl (by decide +kernel) (by decide) (by decide) (kd_lt (k := 2) (by decide) (by decide)) (cell_k (k := 2) (by decide)) rfl rfl rfl (Nat.le_of_ble_eq_true rfl) dX4_settle_18 (fun M1 ek => ?_)
    have s1 : Pk M1 0 σ.1 := hR.1.frH ek.2 (by decide)
    refine wl_aload_n C 0 dX4_settle_21 rfl rfl ?_
    refine wl_get_Main_packing (i := 224) C (by decide) in4 fl10 dX4_settle_22 ?_
    refine wl_iload_n C 1 dX4_settle_25 rfl rfl ?_
    refine wl_eqi (b := nI d2) (hdv) ?_
    refine wl_callVi (i := 0) (n := 1) C [.int (nI d2)] [] (c_X3_settleAll _ G M1 0 σ.1 (by decide) s1 hW d2 hd) gX4_settle_X3_settleAll rfl (by decide +kernel) (by decide) (by decide) (kd_lt (k := 3) (by decide) (by decide)) (cell_k (k := 3) (by decide)) rfl rfl rfl (Nat.le_of_ble_eq_true rfl) dX4_settle_26 (fun r1 M2 ea => ?_)
    obtain ⟨qa, pa, fa⟩ := ea
    subst qa
    exact hret _ 29 _ (nI (seS d2 1000 σ.1 0).2) dX4_settle_29 (by (have e : setY σ d = (nI (seS d2 1000 σ.1 0).2, pushY σ (seS d2 1000 σ.1 0).1) := (by unfold setY; rw [if_pos c_4, hdc])); rw [e]; (have q := hR.push ek (fa.Lo (Or.inl rfl)) pa); exact ⟨rfl, q.1, q.2⟩)
  · refine wl_ldc C cn37 dX4_settle_7 ?_
    exact hret _ 9 _ (-1000001) dX4_settle_9 (by (have e : setY σ d = (-1000001, σ) := (by unfold setY; rw [if_neg (fun q => bcf q c_4)])); rw [e]; exact ⟨rfl, hR, FrC.rf⟩)
set_option maxHeartbeats 4000000 in
set_option maxRecDepth 100000 in
theorem c_X4_placeOfCorner (l : Launch) (G : Gw) (M : Mem) (b j : Nat) (P : Py) (hb : kd b = 0) (hB : Bd M b P) (hj : j < 1000) : Cp l G yX4_placeOfCorner wsX4_placeOfCorner 1 21 [.ref (G.2.2.1 b), .int (nI j)] M (cornY P j) := by
  refine Ci.of (cc := cX4_placeOfCorner) (maxL := 3) (ret := (some .int)) (by decide +kernel) rfl (Nat.le_of_ble_eq_true rfl) ?_
  intro x sz hl0 hr C
  subst hl0
  have C : CX x G (AA G sz) RX4 cX4_placeOfCorner 3 wsX4_placeOfCorner 1 21 0 0 := C
  have hret : ∀ (M0 : Mem) (pc0 : Nat) (L0 : List (Nat × Value)) (rv0 : Int32), decode cX4_placeOfCorner pc0 = .ok (.ireturn, 1) → (fun (r : Int32) (M' : Mem) => r = cornY P j ∧ M' = M) rv0 M0 → WL x G (AA G sz) 3 0 0 (xQ x (va_Qi (fun (r : Int32) (M' : Mem) => r = cornY P j ∧ M' = M) (WE G) (AA G sz)) (AA G sz)) M0 pc0 L0 [.int rv0] := fun M0 pc0 L0 rv0 hd hp => wl_iret (post := (fun (r : Int32) (M' : Mem) => r = cornY P j ∧ M' = M)) C hr hd hp
  show WL x G (AA G sz) 3 0 0 (xQ x (va_Qi (fun (r : Int32) (M' : Mem) => r = cornY P j ∧ M' = M) (WE G) (AA G sz)) (AA G sz)) M 0 [(0, .ref (G.2.2.1 b)), (1, .int (nI j))] []
  generalize (xQ x (va_Qi (fun (r : Int32) (M' : Mem) => r = cornY P j ∧ M' = M) (WE G) (AA G sz)) (AA G sz)) = QQ at hret ⊢
  have in0 : ∀ w ∈ wsX00, w ∈ wsX4_placeOfCorner := by decide +kernel
  have fl113 : Jvm.Cond.fieldLink RX4 113 "JammedBodies$Body" "corners" "I" ∈ wsX4_placeOfCorner := by decide +kernel
  have cn171 : Jvm.Cond.constant RX4 171 (-1000004) ∈ wsX4_placeOfCorner := by decide +kernel
  have h7 := hB.2.1
  refine wl_iload_n C 1 dX4_placeOfCorner_0 rfl rfl ?_
  refine wl_iconst (v := 1) C dX4_placeOfCorner_1 (by decide) ?_
  refine wl_ishr C dX4_placeOfCorner_2 ?_
  refine wl_eqi (b := nI (j / 2)) (shr1 (by omega)) ?_
  refine wl_istore_n (L' := [(2, .int (nI (j / 2))), (0, .ref (G.2.2.1 b)), (1, .int (nI j))]) C dX4_placeOfCorner_3 rfl (by decide) rfl ?_
  refine wl_iload_n C 0 dX4_placeOfCorner_4 rfl rfl ?_
  refine wl_aload_n C 1 dX4_placeOfCorner_5 rfl rfl ?_
  refine wl_get_Body_corners (i := b) (v := nI P.1) C hb in0 fl113 hB.1 dX4_placeOfCorner_6 ?_
  refine wl_icmp_ltN C (a := (j / 2)) (b := P.1) (by omega) (by omega) 15 dX4_placeOfCorner_9 (by decide) (fun c_9 => ?_) (fun c_9 => ?_)
  · refine wl_iload_n C 2 dX4_placeOfCorner_15 rfl rfl ?_
    refine wl_iconst (v := 1) C dX4_placeOfCorner_16 (by decide) ?_
    refine wl_iand C dX4_placeOfCorner_17 ?_
    refine wl_eqi (b := nI (j % 2)) (and1 (by omega)) ?_
    refine wl_if_ne C 29 dX4_placeOfCorner_18 (by decide) (fun c_18 => ?_) (fun c_18 => ?_)
    · refine wl_aload_n C 1 dX4_placeOfCorner_29 rfl rfl ?_
      refine wl_iload_n C 0 dX4_placeOfCorner_30 rfl rfl ?_
      refine wl_callVp (i := b) (n := 1) C [.int (nI (j / 2))] [] (c_X0_y _ G M b (j / 2) P hb hB c_9) gX4_placeOfCorner_X0_y rfl (by decide +kernel) (by decide) (by decide) (kd_lt (k := 0) hb (by decide)) (cell_k (k := 0) hb) rfl rfl rfl (Nat.le_of_ble_eq_true rfl) dX4_placeOfCorner_31 ?_
      exact hret _ 34 _ (P.2.2 (j / 2)) dX4_placeOfCorner_34 (⟨by unfold cornY; rw [if_pos c_9, if_neg (fun z => c_18 (by rw [z]; rfl))], rfl⟩)
    · refine wl_aload_n C 1 dX4_placeOfCorner_21 rfl rfl ?_
      refine wl_iload_n C 0 dX4_placeOfCorner_22 rfl rfl ?_
      refine wl_callVp (i := b) (n := 1) C [.int (nI (j / 2))] [] (c_X0_x _ G M b (j / 2) P hb hB c_9) gX4_placeOfCorner_X0_x rfl (by decide +kernel) (by decide) (by decide) (kd_lt (k := 0) hb (by decide)) (cell_k (k := 0) hb) rfl rfl rfl (Nat.le_of_ble_eq_true rfl) dX4_placeOfCorner_23 ?_
      refine wl_goto C 34 dX4_placeOfCorner_26 (by decide) ?_
      exact hret _ 34 _ (P.2.1 (j / 2)) dX4_placeOfCorner_34 (⟨by unfold cornY; rw [if_pos c_9, if_pos (Nat.eq_zero_of_not_pos (fun q => nI_ne0 q (by omega) c_18))], rfl⟩)
  · refine wl_ldc C cn171 dX4_placeOfCorner_12 ?_
    exact hret _ 14 _ (-1000004) dX4_placeOfCorner_14 (⟨by unfold cornY; rw [if_neg c_9], rfl⟩)
set_option maxHeartbeats 4000000 in
set_option maxRecDepth 100000 in
theorem c_X4_bodyOf (l : Launch) (G : Gw) (M : Mem) (σ : Sy) (hR : RC M σ) (hO : OkY σ) (v : Int32) (w : Int32) : Ci l G yX4_bodyOf wsX4_bodyOf 6 149 [.ref (G.2.2.1 224), .int v, .int w] M (fun r M' => r = bofY σ v w ∧ RC M' σ ∧ FrC M M') := by
  refine Ci.of (cc := cX4_bodyOf) (maxL := 4) (ret := (some .int)) (by decide +kernel) rfl (Nat.le_of_ble_eq_true rfl) ?_
  intro x sz hl0 hr C
  subst hl0
  have C : CX x G (AA G sz) RX4 cX4_bodyOf 4 wsX4_bodyOf 6 149 0 0 := C
  have hret : ∀ (M0 : Mem) (pc0 : Nat) (L0 : List (Nat × Value)) (rv0 : Int32), decode cX4_bodyOf pc0 = .ok (.ireturn, 1) → (fun r M' => r = bofY σ v w ∧ RC M' σ ∧ FrC M M') rv0 M0 → WL x G (AA G sz) 4 0 0 (xQ x (va_Qi (fun r M' => r = bofY σ v w ∧ RC M' σ ∧ FrC M M') (WE G) (AA G sz)) (AA G sz)) M0 pc0 L0 [.int rv0] := fun M0 pc0 L0 rv0 hd hp => wl_iret (post := (fun r M' => r = bofY σ v w ∧ RC M' σ ∧ FrC M M')) C hr hd hp
  show WL x G (AA G sz) 4 0 0 (xQ x (va_Qi (fun r M' => r = bofY σ v w ∧ RC M' σ ∧ FrC M M') (WE G) (AA G sz)) (AA G sz)) M 0 [(0, .ref (G.2.2.1 224)), (1, .int v), (2, .int w)] []
  generalize (xQ x (va_Qi (fun r M' => r = bofY σ v w ∧ RC M' σ ∧ FrC M M') (WE G) (AA G sz)) (AA G sz)) = QQ at hret ⊢
  have in4 : ∀ w ∈ wsX40, w ∈ wsX4_bodyOf := by decide +kernel
  have fl10 : Jvm.Cond.fieldLink RX4 10 "JammedBodies" "packing" "LJammedBodies$Packing;" ∈ wsX4_bodyOf := by decide +kernel
  have cn37 : Jvm.Cond.constant RX4 37 (-1000001) ∈ wsX4_bodyOf := by decide +kernel
  have in0 : ∀ w ∈ wsX00, w ∈ wsX4_bodyOf := by decide +kernel
  have fl113 : Jvm.Cond.fieldLink RX4 113 "JammedBodies$Body" "corners" "I" ∈ wsX4_bodyOf := by decide +kernel
  have in3 : ∀ w ∈ wsX30, w ∈ wsX4_bodyOf := by decide +kernel
  have fl47 : Jvm.Cond.fieldLink RX4 47 "JammedBodies$Packing" "width" "I" ∈ wsX4_bodyOf := by decide +kernel
  have fl51 : Jvm.Cond.fieldLink RX4 51 "JammedBodies$Packing" "height" "I" ∈ wsX4_bodyOf := by decide +kernel
  have hs := hR.1
  have hW := hO.1.1
  have h8 := hs.r
  refine wl_aload_n C 0 dX4_bodyOf_0 rfl rfl ?_
  refine wl_get_Main_packing (i := 224) C (by decide) in4 fl10 dX4_bodyOf_1 ?_
  refine wl_iload_n C 1 dX4_bodyOf_4 rfl rfl ?_
  refine wl_callVp (i := 0) (n := 1) C [.int v] [] (c_X3_has _ G M 0 σ.1 (by decide) hs v) gX4_bodyOf_X3_has rfl (by decide +kernel) (by decide) (by decide) (kd_lt (k := 3) (by decide) (by decide)) (cell_k (k := 3) (by decide)) rfl rfl rfl (Nat.le_of_ble_eq_true rfl) dX4_bodyOf_5 ?_
  refine wl_if_eqB C 21 dX4_bodyOf_8 (by decide) (fun c_8 => ?_) (fun c_8 => ?_)
  · refine wl_ldc C cn37 dX4_bodyOf_21 ?_
    exact hret _ 23 _ (-1000001) dX4_bodyOf_23 (by (have e : bofY σ v w = -1000001 := (by unfold bofY; rw [if_neg (fun q => by first | exact bcf q.1 c_8 | exact (Int32.not_le.mpr c_12) q.2.1 | exact c_18 q.2.2)])); rw [e]; exact ⟨rfl, hR, FrC.rf⟩)
  · refine wl_iload_n C 2 dX4_bodyOf_11 rfl rfl ?_
    refine wl_if_lt C 21 dX4_bodyOf_12 (by decide) (fun c_12 => ?_) (fun c_12 => ?_)
    · refine wl_ldc C cn37 dX4_bodyOf_21 ?_
      exact hret _ 23 _ (-1000001) dX4_bodyOf_23 (by (have e : bofY σ v w = -1000001 := (by unfold bofY; rw [if_neg (fun q => by first | exact bcf q.1 c_8 | exact (Int32.not_le.mpr c_12) q.2.1 | exact c_18 q.2.2)])); rw [e]; exact ⟨rfl, hR, FrC.rf⟩)
    · refine wl_iload_n C 2 dX4_bodyOf_15 rfl rfl ?_
      refine wl_bipush (v := 22) C dX4_bodyOf_16 (by decide) ?_
      refine wl_icmp_lt C 24 dX4_bodyOf_18 (by decide) (fun c_18 => ?_) (fun c_18 => ?_)
      · obtain ⟨k, hk, hv, hkc⟩ := hasB_k c_8 (by omega)
        obtain ⟨j, hj0, hj, hw, hwc⟩ := num_k (a := 0) (b := 21) (by decide) (Int32.not_lt.mp c_12) (lt_22 c_18) (by decide)
        refine wl_aload_n C 0 dX4_bodyOf_24 rfl rfl ?_
        refine wl_get_Main_packing (i := 224) C (by decide) in4 fl10 dX4_bodyOf_25 ?_
        refine wl_iload_n C 1 dX4_bodyOf_28 rfl rfl ?_
        refine wl_eqi (b := nI k) (hv) ?_
        refine wl_callVa (i := 0) (n := 1) C [.int (nI k)] [] (c_X3_at _ G M 0 k (by decide) (by omega)) gX4_bodyOf_X3_at rfl (by decide +kernel) (by decide) (by decide) (kd_lt (k := 3) (by decide) (by decide)) (cell_k (k := 3) (by decide)) rfl rfl rfl (Nat.le_of_ble_eq_true rfl) dX4_bodyOf_29 ?_
        refine wl_astore_n (L' := [(3, .ref (G.2.2.1 (bo 0 k))), (0, .ref (G.2.2.1 224)), (1, .int v), (2, .int w)]) C dX4_bodyOf_32 rfl (by decide) rfl ?_
        refine wl_iload_n C 3 dX4_bodyOf_33 rfl rfl ?_
        rcases sw10 w with z_34 | z_34 | z_34 | z_34 | z_34 | z_34 | z_34 | z_34 | z_34 | z_34 | z_34
        · refine wl_swIn C 88 dX4_bodyOf_34 (by rw [z_34]; decide) (by rw [z_34]; decide) (by rw [z_34]; rfl) (by decide) ?_
          refine wl_aload_n C 0 dX4_bodyOf_88 rfl rfl ?_
          refine wl_get_Body_corners (i := bo 0 k) (v := nI (σ.1.2.2.2 k).1) C (kd_bo (p := 0) (by decide) (by omega)) in0 fl113 (hs.2.2.2.2 k hk).1 dX4_bodyOf_89 ?_
          exact hret _ 92 _ (nI (σ.1.2.2.2 k).1) dX4_bodyOf_92 (by (have e : bofY σ v w = _ := (by unfold bofY; rw [if_pos ⟨c_8, Int32.not_lt.mp c_12, c_18⟩, hkc, z_34])); rw [e]; exact ⟨rfl, hR, FrC.rf⟩)
        · refine wl_swIn C 93 dX4_bodyOf_34 (by rw [z_34]; decide) (by rw [z_34]; decide) (by rw [z_34]; rfl) (by decide) ?_
          refine wl_aload_n C 0 dX4_bodyOf_93 rfl rfl ?_
          refine wl_callVp (i := bo 0 k) (n := 0) C [] [] (c_X0_doubleArea _ G M (bo 0 k) (σ.1.2.2.2 k) (kd_bo (p := 0) (by decide) (by omega)) (hs.2.2.2.2 k hk) ) gX4_bodyOf_X0_doubleArea rfl (by decide +kernel) (by decide) (by decide) (kd_lt (k := 0) (kd_bo (p := 0) (by decide) (by omega)) (by decide)) (cell_k (k := 0) (kd_bo (p := 0) (by decide) (by omega))) rfl rfl rfl (Nat.le_of_ble_eq_true rfl) dX4_bodyOf_94 ?_
          exact hret _ 97 _ (pArea (σ.1.2.2.2 k)) dX4_bodyOf_97 (by (have e : bofY σ v w = _ := (by unfold bofY; rw [if_pos ⟨c_8, Int32.not_lt.mp c_12, c_18⟩, hkc, z_34])); rw [e]; exact ⟨rfl, hR, FrC.rf⟩)
        · refine wl_swIn C 98 dX4_bodyOf_34 (by rw [z_34]; decide) (by rw [z_34]; decide) (by rw [z_34]; rfl) (by decide) ?_
          refine wl_aload_n C 0 dX4_bodyOf_98 rfl rfl ?_
          refine wl_callVp (i := bo 0 k) (n := 0) C [] [] (c_X0_left _ G M (bo 0 k) (σ.1.2.2.2 k) (kd_bo (p := 0) (by decide) (by omega)) (hs.2.2.2.2 k hk) (by have := (hW.2 k hk).1; omega)) gX4_bodyOf_X0_left rfl (by decide +kernel) (by decide) (by decide) (kd_lt (k := 0) (kd_bo (p := 0) (by decide) (by omega)) (by decide)) (cell_k (k := 0) (kd_bo (p := 0) (by decide) (by omega))) rfl rfl rfl (Nat.le_of_ble_eq_true rfl) dX4_bodyOf_99 ?_
          exact hret _ 102 _ (pL (σ.1.2.2.2 k)) dX4_bodyOf_102 (by (have e : bofY σ v w = _ := (by unfold bofY; rw [if_pos ⟨c_8, Int32.not_lt.mp c_12, c_18⟩, hkc, z_34])); rw [e]; exact ⟨rfl, hR, FrC.rf⟩)
        · refine wl_swIn C 103 dX4_bodyOf_34 (by rw [z_34]; decide) (by rw [z_34]; decide) (by rw [z_34]; rfl) (by decide) ?_
          refine wl_aload_n C 0 dX4_bodyOf_103 rfl rfl ?_
          refine wl_callVp (i := bo 0 k) (n := 0) C [] [] (c_X0_right _ G M (bo 0 k) (σ.1.2.2.2 k) (kd_bo (p := 0) (by decide) (by omega)) (hs.2.2.2.2 k hk) (by have := (hW.2 k hk).1; omega)) gX4_bodyOf_X0_right rfl (by decide +kernel) (by decide) (by decide) (kd_lt (k := 0) (kd_bo (p := 0) (by decide) (by omega)) (by decide)) (cell_k (k := 0) (kd_bo (p := 0) (by decide) (by omega))) rfl rfl rfl (Nat.le_of_ble_eq_true rfl) dX4_bodyOf_104 ?_
          exact hret _ 107 _ (pR (σ.1.2.2.2 k)) dX4_bodyOf_107 (by (have e : bofY σ v w = _ := (by unfold bofY; rw [if_pos ⟨c_8, Int32.not_lt.mp c_12, c_18⟩, hkc, z_34])); rw [e]; exact ⟨rfl, hR, FrC.rf⟩)
        · refine wl_swIn C 108 dX4_bodyOf_34 (by rw [z_34]; decide) (by rw [z_34]; decide) (by rw [z_34]; rfl) (by decide) ?_
          refine wl_aload_n C 0 dX4_bodyOf_108 rfl rfl ?_
          refine wl_callVp (i := bo 0 k) (n := 0) C [] [] (c_X0_low _ G M (bo 0 k) (σ.1.2.2.2 k) (kd_bo (p := 0) (by decide) (by omega)) (hs.2.2.2.2 k hk) (by have := (hW.2 k hk).1; omega)) gX4_bodyOf_X0_low rfl (by decide +kernel) (by decide) (by decide) (kd_lt (k := 0) (kd_bo (p := 0) (by decide) (by omega)) (by decide)) (cell_k (k := 0) (kd_bo (p := 0) (by decide) (by omega))) rfl rfl rfl (Nat.le_of_ble_eq_true rfl) dX4_bodyOf_109 ?_
          exact hret _ 112 _ (pB (σ.1.2.2.2 k)) dX4_bodyOf_112 (by (have e : bofY σ v w = _ := (by unfold bofY; rw [if_pos ⟨c_8, Int32.not_lt.mp c_12, c_18⟩, hkc, z_34])); rw [e]; exact ⟨rfl, hR, FrC.rf⟩)
        · refine wl_swIn C 113 dX4_bodyOf_34 (by rw [z_34]; decide) (by rw [z_34]; decide) (by rw [z_34]; rfl) (by decide) ?_
          refine wl_aload_n C 0 dX4_bodyOf_113 rfl rfl ?_
          refine wl_callVp (i := bo 0 k) (n := 0) C [] [] (c_X0_high _ G M (bo 0 k) (σ.1.2.2.2 k) (kd_bo (p := 0) (by decide) (by omega)) (hs.2.2.2.2 k hk) (by have := (hW.2 k hk).1; omega)) gX4_bodyOf_X0_high rfl (by decide +kernel) (by decide) (by decide) (kd_lt (k := 0) (kd_bo (p := 0) (by decide) (by omega)) (by decide)) (cell_k (k := 0) (kd_bo (p := 0) (by decide) (by omega))) rfl rfl rfl (Nat.le_of_ble_eq_true rfl) dX4_bodyOf_114 ?_
          exact hret _ 117 _ (pT (σ.1.2.2.2 k)) dX4_bodyOf_117 (by (have e : bofY σ v w = _ := (by unfold bofY; rw [if_pos ⟨c_8, Int32.not_lt.mp c_12, c_18⟩, hkc, z_34])); rw [e]; exact ⟨rfl, hR, FrC.rf⟩)
        · refine wl_swIn C 118 dX4_bodyOf_34 (by rw [z_34]; decide) (by rw [z_34]; decide) (by rw [z_34]; rfl) (by decide) ?_
          refine wl_aload_n C 0 dX4_bodyOf_118 rfl rfl ?_
          refine wl_aload_n C 1 dX4_bodyOf_119 rfl rfl ?_
          refine wl_get_Main_packing (i := 224) C (by decide) in4 fl10 dX4_bodyOf_120 ?_
          refine wl_get_Packing_width (i := 0) (v := σ.1.2.1) C (by decide) in3 fl47 hs.2.1 dX4_bodyOf_123 ?_
          refine wl_aload_n C 1 dX4_bodyOf_126 rfl rfl ?_
          refine wl_get_Main_packing (i := 224) C (by decide) in4 fl10 dX4_bodyOf_127 ?_
          refine wl_get_Packing_height (i := 0) (v := σ.1.2.2.1) C (by decide) in3 fl51 hs.2.2.1 dX4_bodyOf_130 ?_
          refine wl_callVp (i := bo 0 k) (n := 2) C [.int σ.1.2.1, .int σ.1.2.2.1] [] (c_X0_wallsTouched _ G M (bo 0 k) (σ.1.2.2.2 k) (kd_bo (p := 0) (by decide) (by omega)) (hs.2.2.2.2 k hk) σ.1.2.1 σ.1.2.2.1 (by have := (hW.2 k hk).1; omega)) gX4_bodyOf_X0_wallsTouched rfl (by decide +kernel) (by decide) (by decide) (kd_lt (k := 0) (kd_bo (p := 0) (by decide) (by omega)) (by decide)) (cell_k (k := 0) (kd_bo (p := 0) (by decide) (by omega))) rfl rfl rfl (Nat.le_of_ble_eq_true rfl) dX4_bodyOf_133 ?_
          exact hret _ 136 _ (pTouched (σ.1.2.2.2 k) σ.1.2.1 σ.1.2.2.1) dX4_bodyOf_136 (by (have e : bofY σ v w = _ := (by unfold bofY; rw [if_pos ⟨c_8, Int32.not_lt.mp c_12, c_18⟩, hkc, z_34])); rw [e]; exact ⟨rfl, hR, FrC.rf⟩)
        · refine wl_swIn C 137 dX4_bodyOf_34 (by rw [z_34]; decide) (by rw [z_34]; decide) (by rw [z_34]; rfl) (by decide) ?_
          refine wl_aload_n C 1 dX4_bodyOf_137 rfl rfl ?_
          refine wl_get_Main_packing (i := 224) C (by decide) in4 fl10 dX4_bodyOf_138 ?_
          refine wl_iload_n C 2 dX4_bodyOf_141 rfl rfl ?_
          refine wl_eqi (b := nI k) (hv) ?_
          refine wl_callVp (i := 0) (n := 1) C [.int (nI k)] [] (c_X3_touching _ G M 0 σ.1 (by decide) hs k hk hW.sm) gX4_bodyOf_X3_touching rfl (by decide +kernel) (by decide) (by decide) (kd_lt (k := 3) (by decide) (by decide)) (cell_k (k := 3) (by decide)) rfl rfl rfl (Nat.le_of_ble_eq_true rfl) dX4_bodyOf_142 ?_
          exact hret _ 145 _ (tcS σ.1 k) dX4_bodyOf_145 (by (have e : bofY σ v w = _ := (by unfold bofY; rw [if_pos ⟨c_8, Int32.not_lt.mp c_12, c_18⟩, hkc, z_34])); rw [e]; exact ⟨rfl, hR, FrC.rf⟩)
        · refine wl_swIn C 146 dX4_bodyOf_34 (by rw [z_34]; decide) (by rw [z_34]; decide) (by rw [z_34]; rfl) (by decide) ?_
          refine wl_aload_n C 1 dX4_bodyOf_146 rfl rfl ?_
          refine wl_get_Main_packing (i := 224) C (by decide) in4 fl10 dX4_bodyOf_147 ?_
          refine wl_iload_n C 2 dX4_bodyOf_150 rfl rfl ?_
          refine wl_eqi (b := nI k) (hv) ?_
          refine wl_callVi (i := 0) (n := 1) C [.int (nI k)] [] (c_X3_freeDirections _ G M 0 σ.1 (by decide) hs hW k hk) gX4_bodyOf_X3_freeDirections rfl (by decide +kernel) (by decide) (by decide) (kd_lt (k := 3) (by decide) (by decide)) (cell_k (k := 3) (by decide)) rfl rfl rfl (Nat.le_of_ble_eq_true rfl) dX4_bodyOf_151 (fun r1 Ma ea => ?_)
          obtain ⟨qa, fa⟩ := ea
          subst qa
          exact hret _ 154 _ (frS σ.1 k) dX4_bodyOf_154 (by (have e : bofY σ v w = _ := (by unfold bofY; rw [if_pos ⟨c_8, Int32.not_lt.mp c_12, c_18⟩, hkc, z_34])); rw [e]; exact ⟨rfl, (hR.gh fa), (fa.Lo (by omega)).C⟩)
        · refine wl_swIn C 155 dX4_bodyOf_34 (by rw [z_34]; decide) (by rw [z_34]; decide) (by rw [z_34]; rfl) (by decide) ?_
          refine wl_aload_n C 1 dX4_bodyOf_155 rfl rfl ?_
          refine wl_get_Main_packing (i := 224) C (by decide) in4 fl10 dX4_bodyOf_156 ?_
          refine wl_callVi (i := 0) (n := 0) C [] [] (c_X3_jammed _ G M 0 σ.1 (by decide) hs hW) gX4_bodyOf_X3_jammed rfl (by decide +kernel) (by decide) (by decide) (kd_lt (k := 3) (by decide) (by decide)) (cell_k (k := 3) (by decide)) rfl rfl rfl (Nat.le_of_ble_eq_true rfl) dX4_bodyOf_159 (fun r1 Ma ea => ?_)
          obtain ⟨qa, fa⟩ := ea
          subst qa
          refine wl_iload_n C 2 dX4_bodyOf_162 rfl rfl ?_
          refine wl_eqi (b := nI k) (hv) ?_
          refine wl_ishr C dX4_bodyOf_163 ?_
          refine wl_iconst (v := 1) C dX4_bodyOf_164 (by decide) ?_
          refine wl_iand C dX4_bodyOf_165 ?_
          refine wl_eqi (b := bi (!jm4 σ.1 k 4)) (bsT_shr h8 hk) ?_
          exact hret _ 166 _ (bi (!jm4 σ.1 k 4)) dX4_bodyOf_166 (by (have e : bofY σ v w = _ := (by unfold bofY; rw [if_pos ⟨c_8, Int32.not_lt.mp c_12, c_18⟩, hkc, z_34])); rw [e]; exact ⟨rfl, (hR.gh fa), (fa.Lo (by omega)).C⟩)
        · refine wl_swOut C 167 dX4_bodyOf_34 z_34 (by decide) ?_
          have h10 : 10 ≤ j := by rw [hw, nI_toInt (by omega)] at z_34; omega
          refine wl_aload_n C 0 dX4_bodyOf_167 rfl rfl ?_
          refine wl_iload_n C 3 dX4_bodyOf_168 rfl rfl ?_
          refine wl_eqi (b := nI j) (hw) ?_
          refine wl_bipush (v := 10) C dX4_bodyOf_169 (by decide) ?_
          refine wl_isub C dX4_bodyOf_171 ?_
          refine wl_eqi (b := nI (j - 10)) (pk_sub (b := 10) h10) ?_
          refine wl_callSp (n := 2) C [.ref (G.2.2.1 (bo 0 k)), .int (nI (j - 10))] [] (c_X4_placeOfCorner _ G M (bo 0 k) (j - 10) (σ.1.2.2.2 k) (kd_bo (p := 0) (by decide) (by omega)) (hs.2.2.2.2 k hk) (by omega)) gX4_bodyOf_X4_placeOfCorner rfl (by decide +kernel) (by decide) (by decide) rfl rfl (Nat.le_of_ble_eq_true rfl) dX4_bodyOf_172 ?_
          exact hret _ 175 _ (cornY (σ.1.2.2.2 k) (j - 10)) dX4_bodyOf_175 (by (have e : bofY σ v w = cornY (σ.1.2.2.2 k) (j - 10) := (by unfold bofY; rw [if_pos ⟨c_8, Int32.not_lt.mp c_12, c_18⟩, hkc, hwc]; (obtain ⟨i, rfl⟩ : ∃ i, j = i + 10 := ⟨j - 10, by omega⟩); rfl)); rw [e]; exact ⟨rfl, hR, FrC.rf⟩)
      · refine wl_ldc C cn37 dX4_bodyOf_21 ?_
        exact hret _ 23 _ (-1000001) dX4_bodyOf_23 (by (have e : bofY σ v w = -1000001 := (by unfold bofY; rw [if_neg (fun q => by first | exact bcf q.1 c_8 | exact (Int32.not_le.mpr c_12) q.2.1 | exact c_18 q.2.2)])); rw [e]; exact ⟨rfl, hR, FrC.rf⟩)
set_option maxHeartbeats 4000000 in
set_option maxRecDepth 100000 in
theorem c_X4_parts (l : Launch) (G : Gw) (M : Mem) (σ : Sy) (hR : RC M σ) (hO : OkY σ) (u v w : Int32) : Cp l G yX4_parts wsX4_parts 3 79 [.ref (G.2.2.1 224), .int u, .int v, .int w] M (parY σ u v w) := by
  refine Ci.of (cc := cX4_parts) (maxL := 8) (ret := (some .int)) (by decide +kernel) rfl (Nat.le_of_ble_eq_true rfl) ?_
  intro x sz hl0 hr C
  subst hl0
  have C : CX x G (AA G sz) RX4 cX4_parts 8 wsX4_parts 3 79 0 0 := C
  have hret : ∀ (M0 : Mem) (pc0 : Nat) (L0 : List (Nat × Value)) (rv0 : Int32), decode cX4_parts pc0 = .ok (.ireturn, 1) → (fun (r : Int32) (M' : Mem) => r = parY σ u v w ∧ M' = M) rv0 M0 → WL x G (AA G sz) 8 0 0 (xQ x (va_Qi (fun (r : Int32) (M' : Mem) => r = parY σ u v w ∧ M' = M) (WE G) (AA G sz)) (AA G sz)) M0 pc0 L0 [.int rv0] := fun M0 pc0 L0 rv0 hd hp => wl_iret (post := (fun (r : Int32) (M' : Mem) => r = parY σ u v w ∧ M' = M)) C hr hd hp
  show WL x G (AA G sz) 8 0 0 (xQ x (va_Qi (fun (r : Int32) (M' : Mem) => r = parY σ u v w ∧ M' = M) (WE G) (AA G sz)) (AA G sz)) M 0 [(0, .ref (G.2.2.1 224)), (1, .int u), (2, .int v), (3, .int w)] []
  generalize (xQ x (va_Qi (fun (r : Int32) (M' : Mem) => r = parY σ u v w ∧ M' = M) (WE G) (AA G sz)) (AA G sz)) = QQ at hret ⊢
  have in4 : ∀ w ∈ wsX40, w ∈ wsX4_parts := by decide +kernel
  have fl10 : Jvm.Cond.fieldLink RX4 10 "JammedBodies" "packing" "LJammedBodies$Packing;" ∈ wsX4_parts := by decide +kernel
  have cn37 : Jvm.Cond.constant RX4 37 (-1000001) ∈ wsX4_parts := by decide +kernel
  have hs := hR.1
  have hW := hO.1.1
  have h8 := hs.r
  have hsm := hW.sm
  refine wl_aload_n C 0 dX4_parts_0 rfl rfl ?_
  refine wl_get_Main_packing (i := 224) C (by decide) in4 fl10 dX4_parts_1 ?_
  refine wl_iload_n C 1 dX4_parts_4 rfl rfl ?_
  refine wl_callVp (i := 0) (n := 1) C [.int u] [] (c_X3_has _ G M 0 σ.1 (by decide) hs u) gX4_parts_X3_has rfl (by decide +kernel) (by decide) (by decide) (kd_lt (k := 3) (by decide) (by decide)) (cell_k (k := 3) (by decide)) rfl rfl rfl (Nat.le_of_ble_eq_true rfl) dX4_parts_5 ?_
  refine wl_if_eqB C 36 dX4_parts_8 (by decide) (fun c_8 => ?_) (fun c_8 => ?_)
  · refine wl_ldc C cn37 dX4_parts_36 ?_
    exact hret _ 38 _ (-1000001) dX4_parts_38 (⟨by unfold parY; rw [if_neg (fun q => by first | exact bcf q.1 c_8 | exact bcf q.2.1 c_19 | exact q.2.2.1 c_24 | exact (Int32.not_le.mpr c_28) q.2.2.2.1 | exact c_33 q.2.2.2.2)], rfl⟩)
  · refine wl_aload_n C 0 dX4_parts_11 rfl rfl ?_
    refine wl_get_Main_packing (i := 224) C (by decide) in4 fl10 dX4_parts_12 ?_
    refine wl_iload_n C 2 dX4_parts_15 rfl rfl ?_
    refine wl_callVp (i := 0) (n := 1) C [.int v] [] (c_X3_has _ G M 0 σ.1 (by decide) hs v) gX4_parts_X3_has rfl (by decide +kernel) (by decide) (by decide) (kd_lt (k := 3) (by decide) (by decide)) (cell_k (k := 3) (by decide)) rfl rfl rfl (Nat.le_of_ble_eq_true rfl) dX4_parts_16 ?_
    refine wl_if_eqB C 36 dX4_parts_19 (by decide) (fun c_19 => ?_) (fun c_19 => ?_)
    · refine wl_ldc C cn37 dX4_parts_36 ?_
      exact hret _ 38 _ (-1000001) dX4_parts_38 (⟨by unfold parY; rw [if_neg (fun q => by first | exact bcf q.1 c_8 | exact bcf q.2.1 c_19 | exact q.2.2.1 c_24 | exact (Int32.not_le.mpr c_28) q.2.2.2.1 | exact c_33 q.2.2.2.2)], rfl⟩)
    · refine wl_iload_n C 1 dX4_parts_22 rfl rfl ?_
      refine wl_iload_n C 2 dX4_parts_23 rfl rfl ?_
      refine wl_icmp_eq C 36 dX4_parts_24 (by decide) (fun c_24 => ?_) (fun c_24 => ?_)
      · refine wl_ldc C cn37 dX4_parts_36 ?_
        exact hret _ 38 _ (-1000001) dX4_parts_38 (⟨by unfold parY; rw [if_neg (fun q => by first | exact bcf q.1 c_8 | exact bcf q.2.1 c_19 | exact q.2.2.1 c_24 | exact (Int32.not_le.mpr c_28) q.2.2.2.1 | exact c_33 q.2.2.2.2)], rfl⟩)
      · refine wl_iload_n C 3 dX4_parts_27 rfl rfl ?_
        refine wl_if_lt C 36 dX4_parts_28 (by decide) (fun c_28 => ?_) (fun c_28 => ?_)
        · refine wl_ldc C cn37 dX4_parts_36 ?_
          exact hret _ 38 _ (-1000001) dX4_parts_38 (⟨by unfold parY; rw [if_neg (fun q => by first | exact bcf q.1 c_8 | exact bcf q.2.1 c_19 | exact q.2.2.1 c_24 | exact (Int32.not_le.mpr c_28) q.2.2.2.1 | exact c_33 q.2.2.2.2)], rfl⟩)
        · refine wl_iload_n C 3 dX4_parts_31 rfl rfl ?_
          refine wl_iconst (v := 2) C dX4_parts_32 (by decide) ?_
          refine wl_icmp_le C 39 dX4_parts_33 (by decide) (fun c_33 => ?_) (fun c_33 => ?_)
          · obtain ⟨k1, hk1, hv1, hkc1⟩ := hasB_k c_8 (by omega)
            obtain ⟨k2, hk2, hv2, hkc2⟩ := hasB_k c_19 (by omega)
            have hne : k1 ≠ k2 := fun z => c_24 (by rw [hv1, hv2, z])
            have hp0 : parY σ u v w = parV (σ.1.2.2.2 k1) (σ.1.2.2.2 k2) w := by unfold parY; rw [if_pos ⟨c_8, c_19, c_24, Int32.not_lt.mp c_28, c_33⟩, hkc1, hkc2]
            refine wl_aload_n C 0 dX4_parts_39 rfl rfl ?_
            refine wl_get_Main_packing (i := 224) C (by decide) in4 fl10 dX4_parts_40 ?_
            refine wl_iload_n C 1 dX4_parts_43 rfl rfl ?_
            refine wl_eqi (b := nI k1) (hv1) ?_
            refine wl_callVa (i := 0) (n := 1) C [.int (nI k1)] [] (c_X3_at _ G M 0 k1 (by decide) (by omega)) gX4_parts_X3_at rfl (by decide +kernel) (by decide) (by decide) (kd_lt (k := 3) (by decide) (by decide)) (cell_k (k := 3) (by decide)) rfl rfl rfl (Nat.le_of_ble_eq_true rfl) dX4_parts_44 ?_
            refine wl_astore (L' := [(4, .ref (G.2.2.1 (bo 0 k1))), (0, .ref (G.2.2.1 224)), (1, .int u), (2, .int v), (3, .int w)]) C dX4_parts_47 (by decide) rfl ?_
            refine wl_aload_n C 1 dX4_parts_49 rfl rfl ?_
            refine wl_get_Main_packing (i := 224) C (by decide) in4 fl10 dX4_parts_50 ?_
            refine wl_iload_n C 3 dX4_parts_53 rfl rfl ?_
            refine wl_eqi (b := nI k2) (hv2) ?_
            refine wl_callVa (i := 0) (n := 1) C [.int (nI k2)] [] (c_X3_at _ G M 0 k2 (by decide) (by omega)) gX4_parts_X3_at rfl (by decide +kernel) (by decide) (by decide) (kd_lt (k := 3) (by decide) (by decide)) (cell_k (k := 3) (by decide)) rfl rfl rfl (Nat.le_of_ble_eq_true rfl) dX4_parts_54 ?_
            refine wl_astore (L' := [(5, .ref (G.2.2.1 (bo 0 k2))), (4, .ref (G.2.2.1 (bo 0 k1))), (0, .ref (G.2.2.1 224)), (1, .int u), (2, .int v), (3, .int w)]) C dX4_parts_57 (by decide) rfl ?_
            refine wl_iconst (v := 0) C dX4_parts_59 (by decide) ?_
            refine wl_istore (L' := [(6, .int 0), (5, .ref (G.2.2.1 (bo 0 k2))), (4, .ref (G.2.2.1 (bo 0 k1))), (0, .ref (G.2.2.1 224)), (1, .int u), (2, .int v), (3, .int w)]) C dX4_parts_60 (by decide) rfl ?_
            have h109 : ∀ (a b i : Nat) (plus : Int32), a < σ.1.1 → b < σ.1.1 → pSep (σ.1.2.2.2 a) (σ.1.2.2.2 b) 0 = some i → parV (σ.1.2.2.2 k1) (σ.1.2.2.2 k2) w = (if w = 0 then nI i + plus else if w = 1 then nI (pNear (σ.1.2.2.2 a) i (σ.1.2.2.2 b)) else -(pReach (σ.1.2.2.2 a) i (σ.1.2.2.2 b))) → WL x G (AA G sz) 8 0 0 QQ M 109 [(0, .ref (G.2.2.1 224)), (3, .int w), (4, .ref (G.2.2.1 (bo 0 a))), (5, .ref (G.2.2.1 (bo 0 b))), (6, .int plus), (7, .int (nI i))] [] := by
              intro a b i plus ha hb hi hpv
              refine wl_iload_n C 1 dX4_parts_109 rfl rfl ?_
              refine wl_if_ne C 119 dX4_parts_110 (by decide) (fun c_110 => ?_) (fun c_110 => ?_)
              · refine wl_iload_n C 1 dX4_parts_119 rfl rfl ?_
                refine wl_iconst (v := 1) C dX4_parts_120 (by decide) ?_
                refine wl_icmp_ne C 136 dX4_parts_121 (by decide) (fun c_121 => ?_) (fun c_121 => ?_)
                · refine wl_aload C 2 dX4_parts_136 rfl ?_
                  refine wl_iload C 5 dX4_parts_138 rfl ?_
                  refine wl_aload C 3 dX4_parts_140 rfl ?_
                  refine wl_callVp (i := bo 0 a) (n := 2) C [.int (nI i), .ref (G.2.2.1 (bo 0 b))] [] (c_X0_reach _ G M (bo 0 a) (bo 0 b) (σ.1.2.2.2 a) (σ.1.2.2.2 b) (kd_bo (p := 0) (by decide) (by omega)) (kd_bo (p := 0) (by decide) (by omega)) (hs.2.2.2.2 a ha) (hs.2.2.2.2 b hb) i (fsT_some hi).1 (by have := (hW.2 b hb).1; omega) (Far.of (hsm a ha) (hsm b hb))) gX4_parts_X0_reach rfl (by decide +kernel) (by decide) (by decide) (kd_lt (k := 0) (kd_bo (p := 0) (by decide) (by omega)) (by decide)) (cell_k (k := 0) (kd_bo (p := 0) (by decide) (by omega))) rfl rfl rfl (Nat.le_of_ble_eq_true rfl) dX4_parts_142 ?_
                  refine wl_ineg C dX4_parts_145 ?_
                  exact hret _ 146 _ (-(pReach (σ.1.2.2.2 a) i (σ.1.2.2.2 b))) dX4_parts_146 (⟨by rw [hp0, hpv, if_neg c_110, if_neg c_121], rfl⟩)
                · refine wl_aload C 2 dX4_parts_124 rfl ?_
                  refine wl_iload C 5 dX4_parts_126 rfl ?_
                  refine wl_aload C 3 dX4_parts_128 rfl ?_
                  refine wl_callVp (i := bo 0 a) (n := 2) C [.int (nI i), .ref (G.2.2.1 (bo 0 b))] [] (c_X0_nearestCorner _ G M (bo 0 a) (bo 0 b) (σ.1.2.2.2 a) (σ.1.2.2.2 b) (kd_bo (p := 0) (by decide) (by omega)) (kd_bo (p := 0) (by decide) (by omega)) (hs.2.2.2.2 a ha) (hs.2.2.2.2 b hb) i (fsT_some hi).1 (by have := (hW.2 b hb).1; omega) (Far.of (hsm a ha) (hsm b hb))) gX4_parts_X0_nearestCorner rfl (by decide +kernel) (by decide) (by decide) (kd_lt (k := 0) (kd_bo (p := 0) (by decide) (by omega)) (by decide)) (cell_k (k := 0) (kd_bo (p := 0) (by decide) (by omega))) rfl rfl rfl (Nat.le_of_ble_eq_true rfl) dX4_parts_130 ?_
                  refine wl_goto C 146 dX4_parts_133 (by decide) ?_
                  exact hret _ 146 _ (nI (pNear (σ.1.2.2.2 a) i (σ.1.2.2.2 b))) dX4_parts_146 (⟨by rw [hp0, hpv, if_neg c_110, if_pos c_121], rfl⟩)
              · refine wl_iload C 5 dX4_parts_113 rfl ?_
                refine wl_iload C 4 dX4_parts_115 rfl ?_
                refine wl_iadd C dX4_parts_117 ?_
                exact hret _ 118 _ ((nI i) + plus) dX4_parts_118 (⟨by rw [hp0, hpv, if_pos c_110], rfl⟩)
            refine wl_aload C 2 dX4_parts_62 rfl ?_
            refine wl_aload C 1 dX4_parts_64 rfl ?_
            refine wl_callVp (i := bo 0 k1) (n := 1) C [.ref (G.2.2.1 (bo 0 k2))] [] (c_X0_partingSide _ G M (bo 0 k1) (bo 0 k2) (σ.1.2.2.2 k1) (σ.1.2.2.2 k2) (kd_bo (p := 0) (by decide) (by omega)) (kd_bo (p := 0) (by decide) (by omega)) (hs.2.2.2.2 k1 hk1) (hs.2.2.2.2 k2 hk2) (by have := (hW.2 k2 hk2).1; omega) (Far.of (hsm k1 hk1) (hsm k2 hk2))) gX4_parts_X0_partingSide rfl (by decide +kernel) (by decide) (by decide) (kd_lt (k := 0) (kd_bo (p := 0) (by decide) (by omega)) (by decide)) (cell_k (k := 0) (kd_bo (p := 0) (by decide) (by omega))) rfl rfl rfl (Nat.le_of_ble_eq_true rfl) dX4_parts_66 ?_
            refine wl_istore (L' := [(7, .int (opI (pSep (σ.1.2.2.2 k1) (σ.1.2.2.2 k2) 0))), (6, .int 0), (5, .ref (G.2.2.1 (bo 0 k2))), (4, .ref (G.2.2.1 (bo 0 k1))), (0, .ref (G.2.2.1 224)), (1, .int u), (2, .int v), (3, .int w)]) C dX4_parts_69 (by decide) rfl ?_
            refine wl_iload C 0 dX4_parts_71 rfl ?_
            refine wl_if_ge C 109 dX4_parts_73 (by decide) (fun c_73 => ?_) (fun c_73 => ?_)
            · refine wl_sub (L' := [(0, .ref (G.2.2.1 224)), (3, .int w), (4, .ref (G.2.2.1 (bo 0 k1))), (5, .ref (G.2.2.1 (bo 0 k2))), (6, .int 0), (7, .int (opI (pSep (σ.1.2.2.2 k1) (σ.1.2.2.2 k2) 0)))]) [4, 7, 3, 2, 1, 0] rfl ?_
              obtain ⟨i1, hi1⟩ := opI_some c_73
              rw [show opI (pSep (σ.1.2.2.2 k1) (σ.1.2.2.2 k2) 0) = nI i1 by rw [hi1]; rfl]
              exact h109 k1 k2 i1 0 hk1 hk2 hi1 (by unfold parV; rw [hi1, Int32.add_zero])
            · have hn1 := opI_none c_73 (fun j hj => by have h1 := (fsT_some hj).1; have h2 := (hs.2.2.2.2 k1 hk1).2.1; omega)
              obtain ⟨i2, hi2⟩ := parted hO.1 hk1 hk2 hne hn1
              refine wl_aload_n C 4 dX4_parts_76 rfl rfl ?_
              refine wl_get_Main_packing (i := 224) C (by decide) in4 fl10 dX4_parts_77 ?_
              refine wl_iload_n C 6 dX4_parts_80 rfl rfl ?_
              refine wl_eqi (b := nI k2) (hv2) ?_
              refine wl_callVa (i := 0) (n := 1) C [.int (nI k2)] [] (c_X3_at _ G M 0 k2 (by decide) (by omega)) gX4_parts_X3_at rfl (by decide +kernel) (by decide) (by decide) (kd_lt (k := 3) (by decide) (by decide)) (cell_k (k := 3) (by decide)) rfl rfl rfl (Nat.le_of_ble_eq_true rfl) dX4_parts_81 ?_
              refine wl_astore (L' := [(4, .ref (G.2.2.1 (bo 0 k2))), (7, .int (opI (pSep (σ.1.2.2.2 k1) (σ.1.2.2.2 k2) 0))), (6, .int 0), (5, .ref (G.2.2.1 (bo 0 k2))), (0, .ref (G.2.2.1 224)), (1, .int u), (2, .int v), (3, .int w)]) C dX4_parts_84 (by decide) rfl ?_
              refine wl_aload_n C 4 dX4_parts_86 rfl rfl ?_
              refine wl_get_Main_packing (i := 224) C (by decide) in4 fl10 dX4_parts_87 ?_
              refine wl_iload_n C 5 dX4_parts_90 rfl rfl ?_
              refine wl_eqi (b := nI k1) (hv1) ?_
              refine wl_callVa (i := 0) (n := 1) C [.int (nI k1)] [] (c_X3_at _ G M 0 k1 (by decide) (by omega)) gX4_parts_X3_at rfl (by decide +kernel) (by decide) (by decide) (kd_lt (k := 3) (by decide) (by decide)) (cell_k (k := 3) (by decide)) rfl rfl rfl (Nat.le_of_ble_eq_true rfl) dX4_parts_91 ?_
              refine wl_astore (L' := [(5, .ref (G.2.2.1 (bo 0 k1))), (4, .ref (G.2.2.1 (bo 0 k2))), (7, .int (opI (pSep (σ.1.2.2.2 k1) (σ.1.2.2.2 k2) 0))), (6, .int 0), (0, .ref (G.2.2.1 224)), (1, .int u), (2, .int v), (3, .int w)]) C dX4_parts_94 (by decide) rfl ?_
              refine wl_bipush (v := 10) C dX4_parts_96 (by decide) ?_
              refine wl_istore (L' := [(6, .int 10), (5, .ref (G.2.2.1 (bo 0 k1))), (4, .ref (G.2.2.1 (bo 0 k2))), (7, .int (opI (pSep (σ.1.2.2.2 k1) (σ.1.2.2.2 k2) 0))), (0, .ref (G.2.2.1 224)), (1, .int u), (2, .int v), (3, .int w)]) C dX4_parts_98 (by decide) rfl ?_
              refine wl_aload C 2 dX4_parts_100 rfl ?_
              refine wl_aload C 1 dX4_parts_102 rfl ?_
              refine wl_callVp (i := bo 0 k2) (n := 1) C [.ref (G.2.2.1 (bo 0 k1))] [] (c_X0_partingSide _ G M (bo 0 k2) (bo 0 k1) (σ.1.2.2.2 k2) (σ.1.2.2.2 k1) (kd_bo (p := 0) (by decide) (by omega)) (kd_bo (p := 0) (by decide) (by omega)) (hs.2.2.2.2 k2 hk2) (hs.2.2.2.2 k1 hk1) (by have := (hW.2 k1 hk1).1; omega) (Far.of (hsm k2 hk2) (hsm k1 hk1))) gX4_parts_X0_partingSide rfl (by decide +kernel) (by decide) (by decide) (kd_lt (k := 0) (kd_bo (p := 0) (by decide) (by omega)) (by decide)) (cell_k (k := 0) (kd_bo (p := 0) (by decide) (by omega))) rfl rfl rfl (Nat.le_of_ble_eq_true rfl) dX4_parts_104 ?_
              refine wl_eqi (b := nI i2) (by rw [hi2]; rfl) ?_
              refine wl_istore (L' := [(7, .int (nI i2)), (6, .int 10), (5, .ref (G.2.2.1 (bo 0 k1))), (4, .ref (G.2.2.1 (bo 0 k2))), (0, .ref (G.2.2.1 224)), (1, .int u), (2, .int v), (3, .int w)]) C dX4_parts_107 (by decide) rfl ?_
              refine wl_sub (L' := [(0, .ref (G.2.2.1 224)), (3, .int w), (4, .ref (G.2.2.1 (bo 0 k2))), (5, .ref (G.2.2.1 (bo 0 k1))), (6, .int 10), (7, .int (nI i2))]) [4, 7, 3, 2, 1, 0] rfl ?_
              exact h109 k2 k1 i2 10 hk2 hk1 hi2 (by unfold parV; rw [hn1, hi2])
          · refine wl_ldc C cn37 dX4_parts_36 ?_
            exact hret _ 38 _ (-1000001) dX4_parts_38 (⟨by unfold parY; rw [if_neg (fun q => by first | exact bcf q.1 c_8 | exact bcf q.2.1 c_19 | exact q.2.2.1 c_24 | exact (Int32.not_le.mpr c_28) q.2.2.2.1 | exact c_33 q.2.2.2.2)], rfl⟩)
set_option maxHeartbeats 4000000 in
set_option maxRecDepth 100000 in
theorem c_X4_way (l : Launch) (G : Gw) (M : Mem) (σ : Sy) (hR : RC M σ) (hO : OkY σ) (v : Int32) (d : Int32) (w : Int32) : Ci l G yX4_way wsX4_way 5 125 [.ref (G.2.2.1 224), .int v, .int d, .int w] M (fun r M' => r = wayY σ v d w ∧ RC M' σ ∧ FrC M M') := by
  refine Ci.of (cc := cX4_way) (maxL := 6) (ret := (some .int)) (by decide +kernel) rfl (Nat.le_of_ble_eq_true rfl) ?_
  intro x sz hl0 hr C
  subst hl0
  have C : CX x G (AA G sz) RX4 cX4_way 6 wsX4_way 5 125 0 0 := C
  have hret : ∀ (M0 : Mem) (pc0 : Nat) (L0 : List (Nat × Value)) (rv0 : Int32), decode cX4_way pc0 = .ok (.ireturn, 1) → (fun r M' => r = wayY σ v d w ∧ RC M' σ ∧ FrC M M') rv0 M0 → WL x G (AA G sz) 6 0 0 (xQ x (va_Qi (fun r M' => r = wayY σ v d w ∧ RC M' σ ∧ FrC M M') (WE G) (AA G sz)) (AA G sz)) M0 pc0 L0 [.int rv0] := fun M0 pc0 L0 rv0 hd hp => wl_iret (post := (fun r M' => r = wayY σ v d w ∧ RC M' σ ∧ FrC M M')) C hr hd hp
  show WL x G (AA G sz) 6 0 0 (xQ x (va_Qi (fun r M' => r = wayY σ v d w ∧ RC M' σ ∧ FrC M M') (WE G) (AA G sz)) (AA G sz)) M 0 [(0, .ref (G.2.2.1 224)), (1, .int v), (2, .int d), (3, .int w)] []
  generalize (xQ x (va_Qi (fun r M' => r = wayY σ v d w ∧ RC M' σ ∧ FrC M M') (WE G) (AA G sz)) (AA G sz)) = QQ at hret ⊢
  have in4 : ∀ w ∈ wsX40, w ∈ wsX4_way := by decide +kernel
  have fl10 : Jvm.Cond.fieldLink RX4 10 "JammedBodies" "packing" "LJammedBodies$Packing;" ∈ wsX4_way := by decide +kernel
  have cn37 : Jvm.Cond.constant RX4 37 (-1000001) ∈ wsX4_way := by decide +kernel
  have in3 : ∀ w ∈ wsX30, w ∈ wsX4_way := by decide +kernel
  have fl47 : Jvm.Cond.fieldLink RX4 47 "JammedBodies$Packing" "width" "I" ∈ wsX4_way := by decide +kernel
  have fl51 : Jvm.Cond.fieldLink RX4 51 "JammedBodies$Packing" "height" "I" ∈ wsX4_way := by decide +kernel
  have hs := hR.1
  have hW := hO.1.1
  have h8 := hs.r
  refine wl_aload_n C 0 dX4_way_0 rfl rfl ?_
  refine wl_get_Main_packing (i := 224) C (by decide) in4 fl10 dX4_way_1 ?_
  refine wl_iload_n C 1 dX4_way_4 rfl rfl ?_
  refine wl_callVp (i := 0) (n := 1) C [.int v] [] (c_X3_has _ G M 0 σ.1 (by decide) hs v) gX4_way_X3_has rfl (by decide +kernel) (by decide) (by decide) (kd_lt (k := 3) (by decide) (by decide)) (cell_k (k := 3) (by decide)) rfl rfl rfl (Nat.le_of_ble_eq_true rfl) dX4_way_5 ?_
  refine wl_if_eqB C 27 dX4_way_8 (by decide) (fun c_8 => ?_) (fun c_8 => ?_)
  · refine wl_ldc C cn37 dX4_way_27 ?_
    exact hret _ 29 _ (-1000001) dX4_way_29 (by (have e : wayY σ v d w = -1000001 := (by unfold wayY; rw [if_neg (fun q => by first | exact bcf q.1 c_8 | exact bcf q.2.1 c_15 | exact (Int32.not_le.mpr c_19) q.2.2.1 | exact c_24 q.2.2.2)])); rw [e]; exact ⟨rfl, hR, FrC.rf⟩)
  · refine wl_iload_n C 2 dX4_way_11 rfl rfl ?_
    refine wl_callSp (n := 1) C [.int d] [] (c_X4_isDirection _ G M d) gX4_way_X4_isDirection rfl (by decide +kernel) (by decide) (by decide) rfl rfl (Nat.le_of_ble_eq_true rfl) dX4_way_12 ?_
    refine wl_if_eqB C 27 dX4_way_15 (by decide) (fun c_15 => ?_) (fun c_15 => ?_)
    · refine wl_ldc C cn37 dX4_way_27 ?_
      exact hret _ 29 _ (-1000001) dX4_way_29 (by (have e : wayY σ v d w = -1000001 := (by unfold wayY; rw [if_neg (fun q => by first | exact bcf q.1 c_8 | exact bcf q.2.1 c_15 | exact (Int32.not_le.mpr c_19) q.2.2.1 | exact c_24 q.2.2.2)])); rw [e]; exact ⟨rfl, hR, FrC.rf⟩)
    · refine wl_iload_n C 3 dX4_way_18 rfl rfl ?_
      refine wl_if_lt C 27 dX4_way_19 (by decide) (fun c_19 => ?_) (fun c_19 => ?_)
      · refine wl_ldc C cn37 dX4_way_27 ?_
        exact hret _ 29 _ (-1000001) dX4_way_29 (by (have e : wayY σ v d w = -1000001 := (by unfold wayY; rw [if_neg (fun q => by first | exact bcf q.1 c_8 | exact bcf q.2.1 c_15 | exact (Int32.not_le.mpr c_19) q.2.2.1 | exact c_24 q.2.2.2)])); rw [e]; exact ⟨rfl, hR, FrC.rf⟩)
      · refine wl_iload_n C 3 dX4_way_22 rfl rfl ?_
        refine wl_iconst (v := 2) C dX4_way_23 (by decide) ?_
        refine wl_icmp_le C 30 dX4_way_24 (by decide) (fun c_24 => ?_) (fun c_24 => ?_)
        · obtain ⟨k, hk, hv, hkc⟩ := hasB_k c_8 (by omega)
          obtain ⟨d2, hd, hdv, hdc⟩ := isDir_k c_15
          have hle := fsN_le σ.1 k d2 60
          have smw : Smal (shP (σ.1.2.2.2 k) d2 (fsN σ.1 k d2 60 + 1)) := by rw [← mvN_sh]; exact smal_mvN hW hk hd fsN_ok
          refine wl_aload_n C 0 dX4_way_30 rfl rfl ?_
          refine wl_get_Main_packing (i := 224) C (by decide) in4 fl10 dX4_way_31 ?_
          refine wl_iload_n C 1 dX4_way_34 rfl rfl ?_
          refine wl_eqi (b := nI k) (hv) ?_
          refine wl_iload_n C 2 dX4_way_35 rfl rfl ?_
          refine wl_eqi (b := nI d2) (hdv) ?_
          refine wl_bipush (v := nI 60) C dX4_way_36 (by decide) ?_
          refine wl_callVi (i := 0) (n := 3) C [.int (nI k), .int (nI d2), .int (nI 60)] [] (c_X3_freeSteps _ G M 0 σ.1 (by decide) hs hW k d2 60 hk hd (by decide)) gX4_way_X3_freeSteps rfl (by decide +kernel) (by decide) (by decide) (kd_lt (k := 3) (by decide) (by decide)) (cell_k (k := 3) (by decide)) rfl rfl rfl (Nat.le_of_ble_eq_true rfl) dX4_way_38 (fun r1 Ma ea => ?_)
          obtain ⟨qa, fa⟩ := ea
          subst qa
          have tx := hR.gh fa
          refine wl_istore (L' := [(4, .int (nI (fsN σ.1 k d2 60))), (0, .ref (G.2.2.1 224)), (1, .int v), (2, .int d), (3, .int w)]) C dX4_way_41 (by decide) rfl ?_
          refine wl_iload_n C 4 dX4_way_43 rfl rfl ?_
          refine wl_if_ne C 50 dX4_way_44 (by decide) (fun c_44 => ?_) (fun c_44 => ?_)
          · refine wl_aload_n C 1 dX4_way_50 rfl rfl ?_
            refine wl_get_Main_packing (i := 224) C (by decide) in4 fl10 dX4_way_51 ?_
            refine wl_iload_n C 2 dX4_way_54 rfl rfl ?_
            refine wl_eqi (b := nI k) (hv) ?_
            refine wl_iload_n C 3 dX4_way_55 rfl rfl ?_
            refine wl_eqi (b := nI d2) (hdv) ?_
            refine wl_iload C 0 dX4_way_56 rfl ?_
            refine wl_iconst (v := 1) C dX4_way_58 (by decide) ?_
            refine wl_iadd C dX4_way_59 ?_
            refine wl_eqi (b := nI (fsN σ.1 k d2 60 + 1)) (nI_1 _) ?_
            refine wl_callVr (i := 0) (n := 3) C [.int (nI k), .int (nI d2), .int (nI (fsN σ.1 k d2 60 + 1))] [] (c_X3_shifted _ G Ma 0 σ.1 (by decide) tx.1 k d2 (fsN σ.1 k d2 60 + 1) hk hd) gX4_way_X3_shifted rfl (by decide +kernel) (by decide) (by decide) (kd_lt (k := 3) (by decide) (by decide)) (cell_k (k := 3) (by decide)) rfl rfl rfl (Nat.le_of_ble_eq_true rfl) dX4_way_60 (fun r2 Mb eb => ?_)
            obtain ⟨qb, bb, fb⟩ := eb
            subst qb
            have ty := tx.gh fb
            have fy : FrC M Mb := ((fa.tr fb).Lo (by omega)).C
            refine wl_astore (L' := [(5, .ref (G.2.2.1 (bo 0 9))), (4, .int (nI (fsN σ.1 k d2 60))), (0, .ref (G.2.2.1 224)), (1, .int v), (2, .int d), (3, .int w)]) C dX4_way_63 (by decide) rfl ?_
            refine wl_iload_n C 5 dX4_way_65 rfl rfl ?_
            refine wl_iconst (v := 1) C dX4_way_66 (by decide) ?_
            refine wl_icmp_ne C 81 dX4_way_67 (by decide) (fun c_67 => ?_) (fun c_67 => ?_)
            · refine wl_aload C 0 dX4_way_81 rfl ?_
              refine wl_aload_n C 2 dX4_way_83 rfl rfl ?_
              refine wl_get_Main_packing (i := 224) C (by decide) in4 fl10 dX4_way_84 ?_
              refine wl_get_Packing_width (i := 0) (v := σ.1.2.1) C (by decide) in3 fl47 ty.1.2.1 dX4_way_87 ?_
              refine wl_aload_n C 2 dX4_way_90 rfl rfl ?_
              refine wl_get_Main_packing (i := 224) C (by decide) in4 fl10 dX4_way_91 ?_
              refine wl_get_Packing_height (i := 0) (v := σ.1.2.2.1) C (by decide) in3 fl51 ty.1.2.2.1 dX4_way_94 ?_
              refine wl_callVp (i := bo 0 9) (n := 2) C [.int σ.1.2.1, .int σ.1.2.2.1] [] (c_X0_wallsBeyond _ G Mb (bo 0 9) (shP (σ.1.2.2.2 k) d2 (fsN σ.1 k d2 60 + 1)) (kd_bo (p := 0) (by decide) (by omega)) bb σ.1.2.1 σ.1.2.2.1 (by have := smw.1; omega)) gX4_way_X0_wallsBeyond rfl (by decide +kernel) (by decide) (by decide) (kd_lt (k := 0) (kd_bo (p := 0) (by decide) (by omega)) (by decide)) (cell_k (k := 0) (kd_bo (p := 0) (by decide) (by omega))) rfl rfl rfl (Nat.le_of_ble_eq_true rfl) dX4_way_97 ?_
              exact hret _ 100 _ (pBeyond (shP (σ.1.2.2.2 k) d2 (fsN σ.1 k d2 60 + 1)) σ.1.2.1 σ.1.2.2.1) dX4_way_100 (by (have e : wayY σ v d w = _ := (by unfold wayY wayV; rw [if_pos ⟨c_8, c_15, Int32.not_lt.mp c_19, c_24⟩, hkc, hdc, if_neg c_44, if_neg c_67])); rw [e]; exact ⟨rfl, ty, fy⟩)
            · refine wl_aload_n C 2 dX4_way_70 rfl rfl ?_
              refine wl_get_Main_packing (i := 224) C (by decide) in4 fl10 dX4_way_71 ?_
              refine wl_aload C 0 dX4_way_74 rfl ?_
              refine wl_iload_n C 3 dX4_way_76 rfl rfl ?_
              refine wl_eqi (b := nI k) (hv) ?_
              refine wl_callVp (i := 0) (n := 2) C [.ref (G.2.2.1 (bo 0 9)), .int (nI k)] [] (c_X3_overlapped _ G Mb 0 σ.1 (by decide) ty.1 (bo 0 9) (shP (σ.1.2.2.2 k) d2 (fsN σ.1 k d2 60 + 1)) (nI k) (kd_bo (p := 0) (by decide) (by omega)) bb smw hW.sm) gX4_way_X3_overlapped rfl (by decide +kernel) (by decide) (by decide) (kd_lt (k := 3) (by decide) (by decide)) (cell_k (k := 3) (by decide)) rfl rfl rfl (Nat.le_of_ble_eq_true rfl) dX4_way_77 ?_
              exact hret _ 80 _ (ovS σ.1 (shP (σ.1.2.2.2 k) d2 (fsN σ.1 k d2 60 + 1)) (nI k)) dX4_way_80 (by (have e : wayY σ v d w = _ := (by unfold wayY wayV; rw [if_pos ⟨c_8, c_15, Int32.not_lt.mp c_19, c_24⟩, hkc, hdc, if_neg c_44, if_pos c_67])); rw [e]; exact ⟨rfl, ty, fy⟩)
          · refine wl_iload C 0 dX4_way_47 rfl ?_
            exact hret _ 49 _ (nI (fsN σ.1 k d2 60)) dX4_way_49 (by (have e : wayY σ v d w = _ := (by unfold wayY wayV; rw [if_pos ⟨c_8, c_15, Int32.not_lt.mp c_19, c_24⟩, hkc, hdc, if_pos c_44])); rw [e]; exact ⟨rfl, tx, (fa.Lo (by omega)).C⟩)
        · refine wl_ldc C cn37 dX4_way_27 ?_
          exact hret _ 29 _ (-1000001) dX4_way_29 (by (have e : wayY σ v d w = -1000001 := (by unfold wayY; rw [if_neg (fun q => by first | exact bcf q.1 c_8 | exact bcf q.2.1 c_15 | exact (Int32.not_le.mpr c_19) q.2.2.1 | exact c_24 q.2.2.2)])); rw [e]; exact ⟨rfl, hR, FrC.rf⟩)
set_option maxHeartbeats 4000000 in
set_option maxRecDepth 100000 in
theorem c_X4_bodies (l : Launch) (G : Gw) (M : Mem) (σ : Sy) (hR : RC M σ) (hO : OkY σ) (w : Int32) : Ci l G yX4_bodies wsX4_bodies 6 149 [.ref (G.2.2.1 224), .int w] M (fun r M' => r = bodY σ w ∧ RC M' σ ∧ FrC M M') := by
  refine Ci.of (cc := cX4_bodies) (maxL := 2) (ret := (some .int)) (by decide +kernel) rfl (Nat.le_of_ble_eq_true rfl) ?_
  intro x sz hl0 hr C
  subst hl0
  have C : CX x G (AA G sz) RX4 cX4_bodies 2 wsX4_bodies 6 149 0 0 := C
  have hret : ∀ (M0 : Mem) (pc0 : Nat) (L0 : List (Nat × Value)) (rv0 : Int32), decode cX4_bodies pc0 = .ok (.ireturn, 1) → (fun r M' => r = bodY σ w ∧ RC M' σ ∧ FrC M M') rv0 M0 → WL x G (AA G sz) 2 0 0 (xQ x (va_Qi (fun r M' => r = bodY σ w ∧ RC M' σ ∧ FrC M M') (WE G) (AA G sz)) (AA G sz)) M0 pc0 L0 [.int rv0] := fun M0 pc0 L0 rv0 hd hp => wl_iret (post := (fun r M' => r = bodY σ w ∧ RC M' σ ∧ FrC M M')) C hr hd hp
  show WL x G (AA G sz) 2 0 0 (xQ x (va_Qi (fun r M' => r = bodY σ w ∧ RC M' σ ∧ FrC M M') (WE G) (AA G sz)) (AA G sz)) M 0 [(0, .ref (G.2.2.1 224)), (1, .int w)] []
  generalize (xQ x (va_Qi (fun r M' => r = bodY σ w ∧ RC M' σ ∧ FrC M M') (WE G) (AA G sz)) (AA G sz)) = QQ at hret ⊢
  have in4 : ∀ w ∈ wsX40, w ∈ wsX4_bodies := by decide +kernel
  have fl10 : Jvm.Cond.fieldLink RX4 10 "JammedBodies" "packing" "LJammedBodies$Packing;" ∈ wsX4_bodies := by decide +kernel
  have cn37 : Jvm.Cond.constant RX4 37 (-1000001) ∈ wsX4_bodies := by decide +kernel
  have hs := hR.1
  have hW := hO.1.1
  have h8 := hs.r
  refine wl_iload_n C 1 dX4_bodies_0 rfl rfl ?_
  rcases sw4 w with z_1 | z_1 | z_1 | z_1 | z_1
  · refine wl_swIn C 32 dX4_bodies_1 (by rw [z_1]; decide) (by rw [z_1]; decide) (by rw [z_1]; rfl) (by decide) ?_
    refine wl_aload_n C 0 dX4_bodies_32 rfl rfl ?_
    refine wl_get_Main_packing (i := 224) C (by decide) in4 fl10 dX4_bodies_33 ?_
    refine wl_callVi (i := 0) (n := 0) C [] [] (c_X3_jammed _ G M 0 σ.1 (by decide) hs hW) gX4_bodies_X3_jammed rfl (by decide +kernel) (by decide) (by decide) (kd_lt (k := 3) (by decide) (by decide)) (cell_k (k := 3) (by decide)) rfl rfl rfl (Nat.le_of_ble_eq_true rfl) dX4_bodies_36 (fun r1 Ma ea => ?_)
    obtain ⟨qa, fa⟩ := ea
    subst qa
    exact hret _ 39 _ (jmS σ.1) dX4_bodies_39 (by (have e : bodY σ w = jmS σ.1 := (by unfold bodY; rw [if_pos z_1])); rw [e]; exact ⟨rfl, (hR.gh fa), (fa.Lo (by omega)).C⟩)
  · refine wl_swIn C 40 dX4_bodies_1 (by rw [z_1]; decide) (by rw [z_1]; decide) (by rw [z_1]; rfl) (by decide) ?_
    refine wl_aload_n C 0 dX4_bodies_40 rfl rfl ?_
    refine wl_get_Main_packing (i := 224) C (by decide) in4 fl10 dX4_bodies_41 ?_
    refine wl_callVp (i := 0) (n := 0) C [] [] (c_X3_touchingNone _ G M 0 σ.1 (by decide) hs hW.sm) gX4_bodies_X3_touchingNone rfl (by decide +kernel) (by decide) (by decide) (kd_lt (k := 3) (by decide) (by decide)) (cell_k (k := 3) (by decide)) rfl rfl rfl (Nat.le_of_ble_eq_true rfl) dX4_bodies_44 ?_
    exact hret _ 47 _ (noneS σ.1) dX4_bodies_47 (by (have e : bodY σ w = noneS σ.1 := (by unfold bodY; rw [z_1]; rfl)); rw [e]; exact ⟨rfl, hR, FrC.rf⟩)
  · refine wl_swIn C 48 dX4_bodies_1 (by rw [z_1]; decide) (by rw [z_1]; decide) (by rw [z_1]; rfl) (by decide) ?_
    refine wl_aload_n C 0 dX4_bodies_48 rfl rfl ?_
    refine wl_get_Main_packing (i := 224) C (by decide) in4 fl10 dX4_bodies_49 ?_
    refine wl_bipush (v := 15) C dX4_bodies_52 (by decide) ?_
    refine wl_callVp (i := 0) (n := 1) C [.int 15] [] (c_X3_touchingWalls _ G M 0 σ.1 (by decide) hs 15 hW) gX4_bodies_X3_touchingWalls rfl (by decide +kernel) (by decide) (by decide) (kd_lt (k := 3) (by decide) (by decide)) (cell_k (k := 3) (by decide)) rfl rfl rfl (Nat.le_of_ble_eq_true rfl) dX4_bodies_54 ?_
    exact hret _ 57 _ (wallS σ.1 15) dX4_bodies_57 (by (have e : bodY σ w = wallS σ.1 15 := (by unfold bodY; rw [z_1]; rfl)); rw [e]; exact ⟨rfl, hR, FrC.rf⟩)
  · refine wl_swIn C 58 dX4_bodies_1 (by rw [z_1]; decide) (by rw [z_1]; decide) (by rw [z_1]; rfl) (by decide) ?_
    refine wl_aload_n C 0 dX4_bodies_58 rfl rfl ?_
    refine wl_get_Main_packing (i := 224) C (by decide) in4 fl10 dX4_bodies_59 ?_
    refine wl_aload_n C 0 dX4_bodies_62 rfl rfl ?_
    refine wl_get_Main_packing (i := 224) C (by decide) in4 fl10 dX4_bodies_63 ?_
    refine wl_iconst (v := 4) C dX4_bodies_66 (by decide) ?_
    refine wl_callVp (i := 0) (n := 1) C [.int 4] [.ref (G.2.2.1 0)] (c_X3_touchingWalls _ G M 0 σ.1 (by decide) hs 4 hW) gX4_bodies_X3_touchingWalls rfl (by decide +kernel) (by decide) (by decide) (kd_lt (k := 3) (by decide) (by decide)) (cell_k (k := 3) (by decide)) rfl rfl rfl (Nat.le_of_ble_eq_true rfl) dX4_bodies_67 ?_
    refine wl_eqi (b := bsT (waF σ.1 4) σ.1.1) (rfl) ?_
    refine wl_callVp (i := 0) (n := 1) C [.int (bsT (waF σ.1 4) σ.1.1)] [] (c_X3_spread _ G M 0 σ.1 (by decide) hs (waF σ.1 4) hW.sm) gX4_bodies_X3_spread rfl (by decide +kernel) (by decide) (by decide) (kd_lt (k := 3) (by decide) (by decide)) (cell_k (k := 3) (by decide)) rfl rfl rfl (Nat.le_of_ble_eq_true rfl) dX4_bodies_70 ?_
    exact hret _ 73 _ (clS σ.1 (waF σ.1 4)) dX4_bodies_73 (by (have e : bodY σ w = clS σ.1 (waF σ.1 4) := (by unfold bodY; rw [z_1]; rfl)); rw [e]; exact ⟨rfl, hR, FrC.rf⟩)
  · refine wl_swOut C 74 dX4_bodies_1 z_1 (by decide) ?_
    refine wl_ldc C cn37 dX4_bodies_74 ?_
    exact hret _ 76 _ (-1000001) dX4_bodies_76 (by (have e : bodY σ w = -1000001 := (by unfold bodY; rw [if_neg (sw_ne z_1 (by decide)), if_neg (sw_ne z_1 (by decide)), if_neg (sw_ne z_1 (by decide)), if_neg (sw_ne z_1 (by decide))])); rw [e]; exact ⟨rfl, hR, FrC.rf⟩)
set_option maxHeartbeats 4000000 in
set_option maxRecDepth 100000 in
theorem c_X4_group (l : Launch) (G : Gw) (M : Mem) (σ : Sy) (hR : RC M σ) (hO : OkY σ) (v : Int32) : Cp l G yX4_group wsX4_group 5 126 [.ref (G.2.2.1 224), .int v] M (groY σ v) := by
  refine Ci.of (cc := cX4_group) (maxL := 6) (ret := (some .int)) (by decide +kernel) rfl (Nat.le_of_ble_eq_true rfl) ?_
  intro x sz hl0 hr C
  subst hl0
  have C : CX x G (AA G sz) RX4 cX4_group 6 wsX4_group 5 126 0 0 := C
  have hret : ∀ (M0 : Mem) (pc0 : Nat) (L0 : List (Nat × Value)) (rv0 : Int32), decode cX4_group pc0 = .ok (.ireturn, 1) → (fun (r : Int32) (M' : Mem) => r = groY σ v ∧ M' = M) rv0 M0 → WL x G (AA G sz) 6 0 0 (xQ x (va_Qi (fun (r : Int32) (M' : Mem) => r = groY σ v ∧ M' = M) (WE G) (AA G sz)) (AA G sz)) M0 pc0 L0 [.int rv0] := fun M0 pc0 L0 rv0 hd hp => wl_iret (post := (fun (r : Int32) (M' : Mem) => r = groY σ v ∧ M' = M)) C hr hd hp
  show WL x G (AA G sz) 6 0 0 (xQ x (va_Qi (fun (r : Int32) (M' : Mem) => r = groY σ v ∧ M' = M) (WE G) (AA G sz)) (AA G sz)) M 0 [(0, .ref (G.2.2.1 224)), (1, .int v)] []
  generalize (xQ x (va_Qi (fun (r : Int32) (M' : Mem) => r = groY σ v ∧ M' = M) (WE G) (AA G sz)) (AA G sz)) = QQ at hret ⊢
  have in4 : ∀ w ∈ wsX40, w ∈ wsX4_group := by decide +kernel
  have fl10 : Jvm.Cond.fieldLink RX4 10 "JammedBodies" "packing" "LJammedBodies$Packing;" ∈ wsX4_group := by decide +kernel
  have in3 : ∀ w ∈ wsX30, w ∈ wsX4_group := by decide +kernel
  have fl60 : Jvm.Cond.fieldLink RX4 60 "JammedBodies$Packing" "size" "I" ∈ wsX4_group := by decide +kernel
  have cn171 : Jvm.Cond.constant RX4 171 (-1000004) ∈ wsX4_group := by decide +kernel
  have cn37 : Jvm.Cond.constant RX4 37 (-1000001) ∈ wsX4_group := by decide +kernel
  have hs := hR.1
  have hW := hO.1.1
  have h8 := hs.r
  refine wl_iload_n C 1 dX4_group_0 rfl rfl ?_
  refine wl_iconst (v := (-1)) C dX4_group_1 (by decide) ?_
  refine wl_icmp_ge C 8 dX4_group_2 (by decide) (fun c_2 => ?_) (fun c_2 => ?_)
  · refine wl_iconst (v := bsT (grI σ.1 0).1 σ.1.1) C dX4_group_8 (Eq.trans (b := (0 : Int32)) (by decide) (bsT_00.symm)) ?_
    refine wl_istore_n (L' := [(2, .int (bsT (grI σ.1 0).1 σ.1.1)), (0, .ref (G.2.2.1 224)), (1, .int v)]) C dX4_group_9 rfl (by decide) rfl ?_
    refine wl_iconst (v := nI (grI σ.1 0).2) C dX4_group_10 (by first | decide | rfl) ?_
    refine wl_istore_n (L' := [(3, .int (nI (grI σ.1 0).2)), (2, .int (bsT (grI σ.1 0).1 σ.1.1)), (0, .ref (G.2.2.1 224)), (1, .int v)]) C dX4_group_11 rfl (by decide) rfl ?_
    refine wl_iconst (v := nI 0) C dX4_group_12 (by first | decide | rfl) ?_
    refine wl_istore (L' := [(4, .int (nI 0)), (3, .int (nI (grI σ.1 0).2)), (2, .int (bsT (grI σ.1 0).1 σ.1.1)), (0, .ref (G.2.2.1 224)), (1, .int v)]) C dX4_group_13 (by decide) rfl ?_
    have h15 : ∀ k, k ≤ σ.1.1 → anT (grF σ.1 v) k = false → WL x G (AA G sz) 6 0 0 QQ M 15 [(0, .ref (G.2.2.1 224)), (1, .int v), (2, .int (bsT (grI σ.1 k).1 σ.1.1)), (3, .int (nI (grI σ.1 k).2)), (4, .int (nI k))] [] := by
      refine up_loop σ.1.1 _ ?_
      intro k hk ih hI
      refine wl_iload C 4 dX4_group_15 rfl ?_
      refine wl_aload_n C 0 dX4_group_17 rfl rfl ?_
      refine wl_get_Main_packing (i := 224) C (by decide) in4 fl10 dX4_group_18 ?_
      refine wl_get_Packing_size (i := 0) (v := nI σ.1.1) C (by decide) in3 fl60 hs.1 dX4_group_21 ?_
      refine wl_icmp_geN C (a := k) (b := σ.1.1) (by omega) (by omega) 71 dX4_group_24 (by decide) (fun c_24 => ?_) (fun c_24 => ?_)
      · refine wl_iload_n C 1 dX4_group_71 rfl rfl ?_
        refine wl_iconst (v := (-1)) C dX4_group_72 (by decide) ?_
        refine wl_icmp_ne C 80 dX4_group_73 (by decide) (fun c_73 => ?_) (fun c_73 => ?_)
        · refine wl_ldc C cn171 dX4_group_80 ?_
          exact hret _ 82 _ (-1000004) dX4_group_82 (⟨by unfold groY; rw [if_neg (Int32.not_lt.mpr c_2), fsT_none.mpr (by rw [show σ.1.1 = k by omega]; exact hI)]; simp only []; rw [if_neg c_73], rfl⟩)
        · refine wl_iload_n C 3 dX4_group_76 rfl rfl ?_
          refine wl_goto C 82 dX4_group_77 (by decide) ?_
          exact hret _ 82 _ (nI (grI σ.1 k).2) dX4_group_82 (⟨by unfold groY; rw [if_neg (Int32.not_lt.mpr c_2), fsT_none.mpr (by rw [show σ.1.1 = k by omega]; exact hI)]; simp only []; rw [if_pos c_73, show σ.1.1 = k by omega], rfl⟩)
      · have h65 : anT (grF σ.1 v) (k + 1) = false → WL x G (AA G sz) 6 0 0 QQ M 65 [(0, .ref (G.2.2.1 224)), (1, .int v), (2, .int (bsT (grI σ.1 (k + 1)).1 σ.1.1)), (3, .int (nI (grI σ.1 (k + 1)).2)), (4, .int (nI k))] [] := by
          intro hA
          refine wl_iinc1 (k := k) (L' := [(4, .int (nI (k + 1))), (0, .ref (G.2.2.1 224)), (1, .int v), (2, .int (bsT (grI σ.1 (k + 1)).1 σ.1.1)), (3, .int (nI (grI σ.1 (k + 1)).2))]) C 4 dX4_group_65 rfl (by decide) rfl ?_
          refine wl_goto C 15 dX4_group_68 (by decide) ?_
          refine wl_sub (L' := [(0, .ref (G.2.2.1 224)), (1, .int v), (2, .int (bsT (grI σ.1 (k + 1)).1 σ.1.1)), (3, .int (nI (grI σ.1 (k + 1)).2)), (4, .int (nI (k + 1)))]) [1, 2, 3, 4, 0] rfl ?_
          exact ih (by omega) hA
        refine wl_iload_n C 2 dX4_group_27 rfl rfl ?_
        refine wl_iconst (v := 1) C dX4_group_28 (by decide) ?_
        refine wl_iload C 4 dX4_group_29 rfl ?_
        refine wl_ishl C dX4_group_31 ?_
        refine wl_iand C dX4_group_32 ?_
        refine wl_if_ne C 65 dX4_group_33 (by decide) (fun c_33 => ?_) (fun c_33 => ?_)
        · refine wl_locs (L' := [(0, .ref (G.2.2.1 224)), (1, .int v), (2, .int (bsT (grI σ.1 (k + 1)).1 σ.1.1)), (3, .int (nI (grI σ.1 (k + 1)).2)), (4, .int (nI k))]) (by rw [grI_old (gr_seen h8 (by omega) c_33)]) ?_
          exact h65 (by simp only [anT, hI, Bool.false_or, grF]; rw [gr_seen h8 (by omega) c_33]; rfl)
        · refine wl_aload_n C 0 dX4_group_36 rfl rfl ?_
          refine wl_get_Main_packing (i := 224) C (by decide) in4 fl10 dX4_group_37 ?_
          refine wl_iconst (v := 1) C dX4_group_40 (by decide) ?_
          refine wl_iload C 4 dX4_group_41 rfl ?_
          refine wl_ishl C dX4_group_43 ?_
          refine wl_eqi (b := bsT (fun i => decide (i = k)) σ.1.1) (bsT_one h8 (by omega)) ?_
          refine wl_callVp (i := 0) (n := 1) C [.int (bsT (fun i => decide (i = k)) σ.1.1)] [] (c_X3_spread _ G M 0 σ.1 (by decide) hs (fun i => decide (i = k)) hW.sm) gX4_group_X3_spread rfl (by decide +kernel) (by decide) (by decide) (kd_lt (k := 3) (by decide) (by decide)) (cell_k (k := 3) (by decide)) rfl rfl rfl (Nat.le_of_ble_eq_true rfl) dX4_group_44 ?_
          refine wl_istore (L' := [(5, .int (clS σ.1 (fun i => decide (i = k)))), (0, .ref (G.2.2.1 224)), (1, .int v), (2, .int (bsT (grI σ.1 k).1 σ.1.1)), (3, .int (nI (grI σ.1 k).2)), (4, .int (nI k))]) C dX4_group_47 (by decide) rfl ?_
          refine wl_iload_n C 4 dX4_group_49 rfl rfl ?_
          refine wl_iload_n C 2 dX4_group_50 rfl rfl ?_
          refine wl_icmp_ne C 57 dX4_group_51 (by decide) (fun c_51 => ?_) (fun c_51 => ?_)
          · refine wl_iload_n C 3 dX4_group_57 rfl rfl ?_
            refine wl_iload C 0 dX4_group_58 rfl ?_
            refine wl_ior C dX4_group_60 ?_
            refine wl_eqi (b := bsT (grI σ.1 (k + 1)).1 σ.1.1) (by rw [grI_new (by rw [← bsT_bit h8 (by omega)]; exact c_33)]; unfold clS; rw [bsT_or h8]) ?_
            refine wl_istore_n (L' := [(2, .int (bsT (grI σ.1 (k + 1)).1 σ.1.1)), (5, .int (clS σ.1 (fun i => decide (i = k)))), (0, .ref (G.2.2.1 224)), (1, .int v), (3, .int (nI (grI σ.1 k).2)), (4, .int (nI k))]) C dX4_group_61 rfl (by decide) rfl ?_
            refine wl_iinc1 (k := (grI σ.1 k).2) (L' := [(3, .int (nI ((grI σ.1 k).2 + 1))), (2, .int (bsT (grI σ.1 (k + 1)).1 σ.1.1)), (5, .int (clS σ.1 (fun i => decide (i = k)))), (0, .ref (G.2.2.1 224)), (1, .int v), (4, .int (nI k))]) C 4 dX4_group_62 rfl (by decide) rfl ?_
            refine wl_sub (L' := [(0, .ref (G.2.2.1 224)), (1, .int v), (2, .int (bsT (grI σ.1 (k + 1)).1 σ.1.1)), (3, .int (nI ((grI σ.1 k).2 + 1))), (4, .int (nI k))]) [3, 4, 1, 0, 5] rfl ?_
            refine wl_locs (L' := [(0, .ref (G.2.2.1 224)), (1, .int v), (2, .int (bsT (grI σ.1 (k + 1)).1 σ.1.1)), (3, .int (nI (grI σ.1 (k + 1)).2)), (4, .int (nI k))]) (by rw [grI_new (by rw [← bsT_bit h8 (by omega)]; exact c_33)]) ?_
            exact h65 (by simp only [anT, hI, Bool.false_or, grF]; rw [decide_eq_false c_51, Bool.and_false])
          · refine wl_iload C 0 dX4_group_54 rfl ?_
            exact hret _ 56 _ (clS σ.1 (fun i => decide (i = k))) dX4_group_56 (⟨by unfold groY; rw [if_neg (Int32.not_lt.mpr c_2), fsT_first hI (gr_found h8 (by omega) c_33 c_51) (by omega)], rfl⟩)
    refine wl_sub (L' := [(0, .ref (G.2.2.1 224)), (1, .int v), (2, .int (bsT (grI σ.1 0).1 σ.1.1)), (3, .int (nI (grI σ.1 0).2)), (4, .int (nI 0))]) [3, 4, 2, 1, 0] rfl ?_
    exact h15 0 (Nat.zero_le _) rfl
  · refine wl_ldc C cn37 dX4_group_5 ?_
    exact hret _ 7 _ (-1000001) dX4_group_7 (⟨by unfold groY; rw [if_pos (Int32.not_le.mp c_2)], rfl⟩)
set_option maxHeartbeats 4000000 in
set_option maxRecDepth 100000 in
theorem c_X4_keystone (l : Launch) (G : Gw) (M : Mem) (σ : Sy) (hR : RC M σ) (hO : OkY σ) (d : Int32) (w : Int32) : Ci l G yX4_keystone wsX4_keystone 6 151 [.ref (G.2.2.1 224), .int d, .int w] M (fun r M' => r = keyY σ d w ∧ RC M' σ ∧ FrC M M') := by
  refine Ci.of (cc := cX4_keystone) (maxL := 7) (ret := (some .int)) (by decide +kernel) rfl (Nat.le_of_ble_eq_true rfl) ?_
  intro x sz hl0 hr C
  subst hl0
  have C : CX x G (AA G sz) RX4 cX4_keystone 7 wsX4_keystone 6 151 0 0 := C
  have hret : ∀ (M0 : Mem) (pc0 : Nat) (L0 : List (Nat × Value)) (rv0 : Int32), decode cX4_keystone pc0 = .ok (.ireturn, 1) → (fun r M' => r = keyY σ d w ∧ RC M' σ ∧ FrC M M') rv0 M0 → WL x G (AA G sz) 7 0 0 (xQ x (va_Qi (fun r M' => r = keyY σ d w ∧ RC M' σ ∧ FrC M M') (WE G) (AA G sz)) (AA G sz)) M0 pc0 L0 [.int rv0] := fun M0 pc0 L0 rv0 hd hp => wl_iret (post := (fun r M' => r = keyY σ d w ∧ RC M' σ ∧ FrC M M')) C hr hd hp
  show WL x G (AA G sz) 7 0 0 (xQ x (va_Qi (fun r M' => r = keyY σ d w ∧ RC M' σ ∧ FrC M M') (WE G) (AA G sz)) (AA G sz)) M 0 [(0, .ref (G.2.2.1 224)), (1, .int d), (2, .int w)] []
  generalize (xQ x (va_Qi (fun r M' => r = keyY σ d w ∧ RC M' σ ∧ FrC M M') (WE G) (AA G sz)) (AA G sz)) = QQ at hret ⊢
  have cn37 : Jvm.Cond.constant RX4 37 (-1000001) ∈ wsX4_keystone := by decide +kernel
  have cn171 : Jvm.Cond.constant RX4 171 (-1000004) ∈ wsX4_keystone := by decide +kernel
  have in4 : ∀ w ∈ wsX40, w ∈ wsX4_keystone := by decide +kernel
  have fl10 : Jvm.Cond.fieldLink RX4 10 "JammedBodies" "packing" "LJammedBodies$Packing;" ∈ wsX4_keystone := by decide +kernel
  have in3 : ∀ w ∈ wsX30, w ∈ wsX4_keystone := by decide +kernel
  have fl60 : Jvm.Cond.fieldLink RX4 60 "JammedBodies$Packing" "size" "I" ∈ wsX4_keystone := by decide +kernel
  have fl16 : Jvm.Cond.fieldLink RX4 16 "JammedBodies" "trial" "LJammedBodies$Packing;" ∈ wsX4_keystone := by decide +kernel
  have hs := hR.1
  have hW := hO.1.1
  have h8 := hs.r
  refine wl_iload_n C 1 dX4_keystone_0 rfl rfl ?_
  refine wl_callSp (n := 1) C [.int d] [] (c_X4_isDirection _ G M d) gX4_keystone_X4_isDirection rfl (by decide +kernel) (by decide) (by decide) rfl rfl (Nat.le_of_ble_eq_true rfl) dX4_keystone_1 ?_
  refine wl_if_eqB C 16 dX4_keystone_4 (by decide) (fun c_4 => ?_) (fun c_4 => ?_)
  · refine wl_ldc C cn37 dX4_keystone_16 ?_
    exact hret _ 18 _ (-1000001) dX4_keystone_18 (by (have e : keyY σ d w = -1000001 := (by unfold keyY; rw [if_neg (fun q => by first | exact bcf q.1 c_4 | exact (Int32.not_le.mpr c_8) q.2.1 | exact c_13 q.2.2)])); rw [e]; exact ⟨rfl, hR, FrC.rf⟩)
  · refine wl_iload_n C 2 dX4_keystone_7 rfl rfl ?_
    refine wl_if_lt C 16 dX4_keystone_8 (by decide) (fun c_8 => ?_) (fun c_8 => ?_)
    · refine wl_ldc C cn37 dX4_keystone_16 ?_
      exact hret _ 18 _ (-1000001) dX4_keystone_18 (by (have e : keyY σ d w = -1000001 := (by unfold keyY; rw [if_neg (fun q => by first | exact bcf q.1 c_4 | exact (Int32.not_le.mpr c_8) q.2.1 | exact c_13 q.2.2)])); rw [e]; exact ⟨rfl, hR, FrC.rf⟩)
    · refine wl_iload_n C 2 dX4_keystone_11 rfl rfl ?_
      refine wl_iconst (v := 1) C dX4_keystone_12 (by decide) ?_
      refine wl_icmp_le C 19 dX4_keystone_13 (by decide) (fun c_13 => ?_) (fun c_13 => ?_)
      · obtain ⟨d2, hd, hdv, hdc⟩ := isDir_k c_4
        refine wl_ldc C cn171 dX4_keystone_19 ?_
        refine wl_eqi (b := (keI σ.1 d2 0).1) (rfl) ?_
        refine wl_istore_n (L' := [(3, .int ((keI σ.1 d2 0).1)), (0, .ref (G.2.2.1 224)), (1, .int d), (2, .int w)]) C dX4_keystone_21 rfl (by decide) rfl ?_
        refine wl_ldc C cn171 dX4_keystone_22 ?_
        refine wl_eqi (b := (keI σ.1 d2 0).2) (rfl) ?_
        refine wl_istore (L' := [(4, .int ((keI σ.1 d2 0).2)), (3, .int ((keI σ.1 d2 0).1)), (0, .ref (G.2.2.1 224)), (1, .int d), (2, .int w)]) C dX4_keystone_24 (by decide) rfl ?_
        refine wl_iconst (v := nI 0) C dX4_keystone_26 (by first | decide | rfl) ?_
        refine wl_istore (L' := [(5, .int (nI 0)), (4, .int ((keI σ.1 d2 0).2)), (3, .int ((keI σ.1 d2 0).1)), (0, .ref (G.2.2.1 224)), (1, .int d), (2, .int w)]) C dX4_keystone_27 (by decide) rfl ?_
        have h29 : ∀ k, k ≤ σ.1.1 → ∀ M2 : Mem, Pk M2 0 σ.1 ∧ LoF M M2 → WL x G (AA G sz) 7 0 0 QQ M2 29 [(0, .ref (G.2.2.1 224)), (1, .int d), (2, .int w), (3, .int ((keI σ.1 d2 k).1)), (4, .int ((keI σ.1 d2 k).2)), (5, .int (nI k))] [] := by
          refine up_loop σ.1.1 _ ?_
          intro k hk ih M2 hI
          refine wl_iload C 5 dX4_keystone_29 rfl ?_
          refine wl_aload_n C 0 dX4_keystone_31 rfl rfl ?_
          refine wl_get_Main_packing (i := 224) C (by decide) in4 fl10 dX4_keystone_32 ?_
          refine wl_get_Packing_size (i := 0) (v := nI σ.1.1) C (by decide) in3 fl60 hI.1.1 dX4_keystone_35 ?_
          refine wl_icmp_geN C (a := k) (b := σ.1.1) (by omega) (by omega) 90 dX4_keystone_38 (by decide) (fun c_38 => ?_) (fun c_38 => ?_)
          · refine wl_iload_n C 2 dX4_keystone_90 rfl rfl ?_
            refine wl_if_ne C 99 dX4_keystone_91 (by decide) (fun c_91 => ?_) (fun c_91 => ?_)
            · refine wl_iload_n C 3 dX4_keystone_99 rfl rfl ?_
              exact hret _ 100 _ ((keI σ.1 d2 k).1) dX4_keystone_100 (by (have e : keyY σ d w = (keI σ.1 d2 k).1 := (by unfold keyY; rw [if_pos ⟨c_4, Int32.not_lt.mp c_8, c_13⟩, hdc, show σ.1.1 = k by omega, if_neg c_91])); rw [e]; exact ⟨rfl, (hR.lo hI.2 hI.1), hI.2.C⟩)
            · refine wl_iload C 4 dX4_keystone_94 rfl ?_
              refine wl_goto C 100 dX4_keystone_96 (by decide) ?_
              exact hret _ 100 _ ((keI σ.1 d2 k).2) dX4_keystone_100 (by (have e : keyY σ d w = (keI σ.1 d2 k).2 := (by unfold keyY; rw [if_pos ⟨c_4, Int32.not_lt.mp c_8, c_13⟩, hdc, show σ.1.1 = k by omega, if_pos c_91])); rw [e]; exact ⟨rfl, (hR.lo hI.2 hI.1), hI.2.C⟩)
          · refine wl_aload_n C 0 dX4_keystone_41 rfl rfl ?_
            refine wl_get_Main_trial (i := 224) C (by decide) in4 fl16 dX4_keystone_42 ?_
            refine wl_aload_n C 0 dX4_keystone_45 rfl rfl ?_
            refine wl_get_Main_packing (i := 224) C (by decide) in4 fl10 dX4_keystone_46 ?_
            refine wl_callVv (i := 32) (n := 1) C [.ref (G.2.2.1 0)] [] (c_X3_copyFrom _ G M2 32 0 σ.1 (by decide) (by decide) hI.1 (by omega)) gX4_keystone_X3_copyFrom rfl (by decide +kernel) (by decide) (by decide) (kd_lt (k := 3) (by decide) (by decide)) (cell_k (k := 3) (by decide)) rfl rfl rfl (Nat.le_of_ble_eq_true rfl) dX4_keystone_49 (fun Ma ea => ?_)
            refine wl_aload_n C 0 dX4_keystone_52 rfl rfl ?_
            refine wl_get_Main_trial (i := 224) C (by decide) in4 fl16 dX4_keystone_53 ?_
            refine wl_iload C 5 dX4_keystone_56 rfl ?_
            refine wl_callVv (i := 32) (n := 1) C [.int (nI k)] [] (c_X3_takeOut _ G Ma 32 σ.1 (by decide) ea.1 k (by omega)) gX4_keystone_X3_takeOut rfl (by decide +kernel) (by decide) (by decide) (kd_lt (k := 3) (by decide) (by decide)) (cell_k (k := 3) (by decide)) rfl rfl rfl (Nat.le_of_ble_eq_true rfl) dX4_keystone_58 (fun Mb eb => ?_)
            refine wl_aload_n C 0 dX4_keystone_61 rfl rfl ?_
            refine wl_get_Main_trial (i := 224) C (by decide) in4 fl16 dX4_keystone_62 ?_
            refine wl_iload_n C 1 dX4_keystone_65 rfl rfl ?_
            refine wl_eqi (b := nI d2) (hdv) ?_
            refine wl_callVi (i := 32) (n := 1) C [.int (nI d2)] [] (c_X3_settleAll _ G Mb 32 (outS σ.1 k) (by decide) eb.1 (outS_wf hW (by omega)) d2 hd) gX4_keystone_X3_settleAll rfl (by decide +kernel) (by decide) (by decide) (kd_lt (k := 3) (by decide) (by decide)) (cell_k (k := 3) (by decide)) rfl rfl rfl (Nat.le_of_ble_eq_true rfl) dX4_keystone_66 (fun r1 Mc ec => ?_)
            obtain ⟨qc, pc, fc⟩ := ec
            subst qc
            have f3 : FrP 32 M2 Mc := ea.2.tr (eb.2.tr fc)
            have p3 : Pk Mc 0 σ.1 := hI.1.frP f3 (by omega)
            have l3 : LoF M Mc := hI.2.tr (f3.Lo (Or.inr rfl))
            refine wl_istore (L' := [(6, .int (nI (seS d2 1000 (outS σ.1 k) 0).2)), (0, .ref (G.2.2.1 224)), (1, .int d), (2, .int w), (3, .int ((keI σ.1 d2 k).1)), (4, .int ((keI σ.1 d2 k).2)), (5, .int (nI k))]) C dX4_keystone_69 (by decide) rfl ?_
            have h84 : WL x G (AA G sz) 7 0 0 QQ Mc 84 [(0, .ref (G.2.2.1 224)), (1, .int d), (2, .int w), (3, .int ((keI σ.1 d2 (k + 1)).1)), (4, .int ((keI σ.1 d2 (k + 1)).2)), (5, .int (nI k))] [] := by
              refine wl_iinc1 (k := k) (L' := [(5, .int (nI (k + 1))), (0, .ref (G.2.2.1 224)), (1, .int d), (2, .int w), (3, .int ((keI σ.1 d2 (k + 1)).1)), (4, .int ((keI σ.1 d2 (k + 1)).2))]) C 5 dX4_keystone_84 rfl (by decide) rfl ?_
              refine wl_goto C 29 dX4_keystone_87 (by decide) ?_
              refine wl_sub (L' := [(0, .ref (G.2.2.1 224)), (1, .int d), (2, .int w), (3, .int ((keI σ.1 d2 (k + 1)).1)), (4, .int ((keI σ.1 d2 (k + 1)).2)), (5, .int (nI (k + 1)))]) [1, 2, 3, 4, 5, 0] rfl ?_
              exact ih (by omega) Mc ⟨p3, l3⟩
            refine wl_iload C 0 dX4_keystone_71 rfl ?_
            refine wl_iload_n C 4 dX4_keystone_73 rfl rfl ?_
            refine wl_icmp_le C 84 dX4_keystone_74 (by decide) (fun c_74 => ?_) (fun c_74 => ?_)
            · refine wl_sub (L' := [(0, .ref (G.2.2.1 224)), (1, .int d), (2, .int w), (3, .int ((keI σ.1 d2 k).1)), (4, .int ((keI σ.1 d2 k).2)), (5, .int (nI k))]) [1, 2, 3, 4, 5, 6] rfl ?_
              refine wl_locs (L' := [(0, .ref (G.2.2.1 224)), (1, .int d), (2, .int w), (3, .int ((keI σ.1 d2 (k + 1)).1)), (4, .int ((keI σ.1 d2 (k + 1)).2)), (5, .int (nI k))]) (by simp only [keI]; rw [if_neg (Int32.not_lt.mpr c_74)]) ?_
              exact h84
            · refine wl_iload C 0 dX4_keystone_77 rfl ?_
              refine wl_istore_n (L' := [(3, .int (nI (seS d2 1000 (outS σ.1 k) 0).2)), (6, .int (nI (seS d2 1000 (outS σ.1 k) 0).2)), (0, .ref (G.2.2.1 224)), (1, .int d), (2, .int w), (4, .int ((keI σ.1 d2 k).2)), (5, .int (nI k))]) C dX4_keystone_79 rfl (by decide) rfl ?_
              refine wl_iload C 6 dX4_keystone_80 rfl ?_
              refine wl_istore (L' := [(4, .int (nI k)), (3, .int (nI (seS d2 1000 (outS σ.1 k) 0).2)), (6, .int (nI (seS d2 1000 (outS σ.1 k) 0).2)), (0, .ref (G.2.2.1 224)), (1, .int d), (2, .int w), (5, .int (nI k))]) C dX4_keystone_82 (by decide) rfl ?_
              refine wl_sub (L' := [(0, .ref (G.2.2.1 224)), (1, .int d), (2, .int w), (3, .int (nI (seS d2 1000 (outS σ.1 k) 0).2)), (4, .int (nI k)), (5, .int (nI k))]) [3, 4, 5, 1, 0, 6] rfl ?_
              refine wl_locs (L' := [(0, .ref (G.2.2.1 224)), (1, .int d), (2, .int w), (3, .int ((keI σ.1 d2 (k + 1)).1)), (4, .int ((keI σ.1 d2 (k + 1)).2)), (5, .int (nI k))]) (by simp only [keI]; rw [if_pos (Int32.not_le.mp c_74)]) ?_
              exact h84
        refine wl_sub (L' := [(0, .ref (G.2.2.1 224)), (1, .int d), (2, .int w), (3, .int ((keI σ.1 d2 0).1)), (4, .int ((keI σ.1 d2 0).2)), (5, .int (nI 0))]) [3, 4, 5, 2, 1, 0] rfl ?_
        exact h29 0 (Nat.zero_le _) M ⟨hs, LoF.rf⟩
      · refine wl_ldc C cn37 dX4_keystone_16 ?_
        exact hret _ 18 _ (-1000001) dX4_keystone_18 (by (have e : keyY σ d w = -1000001 := (by unfold keyY; rw [if_neg (fun q => by first | exact bcf q.1 c_4 | exact (Int32.not_le.mpr c_8) q.2.1 | exact c_13 q.2.2)])); rw [e]; exact ⟨rfl, hR, FrC.rf⟩)
set_option maxHeartbeats 4000000 in
set_option maxRecDepth 100000 in
theorem c_X4_count (l : Launch) (G : Gw) (M : Mem) (σ : Sy) (hR : RC M σ) (hO : OkY σ) (w : Int32) : Cp l G yX4_count wsX4_count 5 123 [.ref (G.2.2.1 224), .int w] M (couY σ w) := by
  refine Ci.of (cc := cX4_count) (maxL := 2) (ret := (some .int)) (by decide +kernel) rfl (Nat.le_of_ble_eq_true rfl) ?_
  intro x sz hl0 hr C
  subst hl0
  have C : CX x G (AA G sz) RX4 cX4_count 2 wsX4_count 5 123 0 0 := C
  have hret : ∀ (M0 : Mem) (pc0 : Nat) (L0 : List (Nat × Value)) (rv0 : Int32), decode cX4_count pc0 = .ok (.ireturn, 1) → (fun (r : Int32) (M' : Mem) => r = couY σ w ∧ M' = M) rv0 M0 → WL x G (AA G sz) 2 0 0 (xQ x (va_Qi (fun (r : Int32) (M' : Mem) => r = couY σ w ∧ M' = M) (WE G) (AA G sz)) (AA G sz)) M0 pc0 L0 [.int rv0] := fun M0 pc0 L0 rv0 hd hp => wl_iret (post := (fun (r : Int32) (M' : Mem) => r = couY σ w ∧ M' = M)) C hr hd hp
  show WL x G (AA G sz) 2 0 0 (xQ x (va_Qi (fun (r : Int32) (M' : Mem) => r = couY σ w ∧ M' = M) (WE G) (AA G sz)) (AA G sz)) M 0 [(0, .ref (G.2.2.1 224)), (1, .int w)] []
  generalize (xQ x (va_Qi (fun (r : Int32) (M' : Mem) => r = couY σ w ∧ M' = M) (WE G) (AA G sz)) (AA G sz)) = QQ at hret ⊢
  have in4 : ∀ w ∈ wsX40, w ∈ wsX4_count := by decide +kernel
  have fl10 : Jvm.Cond.fieldLink RX4 10 "JammedBodies" "packing" "LJammedBodies$Packing;" ∈ wsX4_count := by decide +kernel
  have in3 : ∀ w ∈ wsX30, w ∈ wsX4_count := by decide +kernel
  have fl60 : Jvm.Cond.fieldLink RX4 60 "JammedBodies$Packing" "size" "I" ∈ wsX4_count := by decide +kernel
  have fl47 : Jvm.Cond.fieldLink RX4 47 "JammedBodies$Packing" "width" "I" ∈ wsX4_count := by decide +kernel
  have fl51 : Jvm.Cond.fieldLink RX4 51 "JammedBodies$Packing" "height" "I" ∈ wsX4_count := by decide +kernel
  have fl22 : Jvm.Cond.fieldLink RX4 22 "JammedBodies" "history" "LJammedBodies$History;" ∈ wsX4_count := by decide +kernel
  have in2 : ∀ w ∈ wsX20, w ∈ wsX4_count := by decide +kernel
  have fl186 : Jvm.Cond.fieldLink RX4 186 "JammedBodies$History" "size" "I" ∈ wsX4_count := by decide +kernel
  have fl29 : Jvm.Cond.fieldLink RX4 29 "JammedBodies" "text" "LJammedBodies$BodyText;" ∈ wsX4_count := by decide +kernel
  have in1 : ∀ w ∈ wsX10, w ∈ wsX4_count := by decide +kernel
  have fl187 : Jvm.Cond.fieldLink RX4 187 "JammedBodies$BodyText" "length" "I" ∈ wsX4_count := by decide +kernel
  have cn37 : Jvm.Cond.constant RX4 37 (-1000001) ∈ wsX4_count := by decide +kernel
  have hs := hR.1
  have hW := hO.1.1
  have h8 := hs.r
  obtain ⟨o, ho4, ho, hh, hn4, hHa⟩ := hR.2.1
  refine wl_iload_n C 1 dX4_count_0 rfl rfl ?_
  rcases sw8 w with z_1 | z_1 | z_1 | z_1 | z_1 | z_1 | z_1 | z_1 | z_1
  · refine wl_swIn C 48 dX4_count_1 (by rw [z_1]; decide) (by rw [z_1]; decide) (by rw [z_1]; rfl) (by decide) ?_
    refine wl_aload_n C 0 dX4_count_48 rfl rfl ?_
    refine wl_get_Main_packing (i := 224) C (by decide) in4 fl10 dX4_count_49 ?_
    refine wl_get_Packing_size (i := 0) (v := nI σ.1.1) C (by decide) in3 fl60 hs.1 dX4_count_52 ?_
    exact hret _ 55 _ (nI σ.1.1) dX4_count_55 (⟨by unfold couY; rw [z_1]; rfl, rfl⟩)
  · refine wl_swIn C 56 dX4_count_1 (by rw [z_1]; decide) (by rw [z_1]; decide) (by rw [z_1]; rfl) (by decide) ?_
    refine wl_aload_n C 0 dX4_count_56 rfl rfl ?_
    refine wl_get_Main_packing (i := 224) C (by decide) in4 fl10 dX4_count_57 ?_
    refine wl_get_Packing_width (i := 0) (v := σ.1.2.1) C (by decide) in3 fl47 hs.2.1 dX4_count_60 ?_
    exact hret _ 63 _ σ.1.2.1 dX4_count_63 (⟨by unfold couY; rw [z_1]; rfl, rfl⟩)
  · refine wl_swIn C 64 dX4_count_1 (by rw [z_1]; decide) (by rw [z_1]; decide) (by rw [z_1]; rfl) (by decide) ?_
    refine wl_aload_n C 0 dX4_count_64 rfl rfl ?_
    refine wl_get_Main_packing (i := 224) C (by decide) in4 fl10 dX4_count_65 ?_
    refine wl_get_Packing_height (i := 0) (v := σ.1.2.2.1) C (by decide) in3 fl51 hs.2.2.1 dX4_count_68 ?_
    exact hret _ 71 _ σ.1.2.2.1 dX4_count_71 (⟨by unfold couY; rw [z_1]; rfl, rfl⟩)
  · refine wl_swIn C 72 dX4_count_1 (by rw [z_1]; decide) (by rw [z_1]; decide) (by rw [z_1]; rfl) (by decide) ?_
    refine wl_aload_n C 0 dX4_count_72 rfl rfl ?_
    refine wl_get_Main_packing (i := 224) C (by decide) in4 fl10 dX4_count_73 ?_
    refine wl_callVp (i := 0) (n := 0) C [] [] (c_X3_doubleArea _ G M 0 σ.1 (by decide) hs) gX4_count_X3_doubleArea rfl (by decide +kernel) (by decide) (by decide) (kd_lt (k := 3) (by decide) (by decide)) (cell_k (k := 3) (by decide)) rfl rfl rfl (Nat.le_of_ble_eq_true rfl) dX4_count_76 ?_
    exact hret _ 79 _ (areaS σ.1) dX4_count_79 (⟨by unfold couY; rw [z_1]; rfl, rfl⟩)
  · refine wl_swIn C 80 dX4_count_1 (by rw [z_1]; decide) (by rw [z_1]; decide) (by rw [z_1]; rfl) (by decide) ?_
    refine wl_aload_n C 0 dX4_count_80 rfl rfl ?_
    refine wl_get_Main_packing (i := 224) C (by decide) in4 fl10 dX4_count_81 ?_
    refine wl_callVp (i := 0) (n := 0) C [] [] (c_X3_allCorners _ G M 0 σ.1 (by decide) hs) gX4_count_X3_allCorners rfl (by decide +kernel) (by decide) (by decide) (kd_lt (k := 3) (by decide) (by decide)) (cell_k (k := 3) (by decide)) rfl rfl rfl (Nat.le_of_ble_eq_true rfl) dX4_count_84 ?_
    exact hret _ 87 _ (cornS σ.1) dX4_count_87 (⟨by unfold couY; rw [z_1]; rfl, rfl⟩)
  · refine wl_swIn C 88 dX4_count_1 (by rw [z_1]; decide) (by rw [z_1]; decide) (by rw [z_1]; rfl) (by decide) ?_
    refine wl_aload_n C 0 dX4_count_88 rfl rfl ?_
    refine wl_get_Main_packing (i := 224) C (by decide) in4 fl10 dX4_count_89 ?_
    refine wl_callVp (i := 0) (n := 0) C [] [] (c_X3_touchingPairs _ G M 0 σ.1 (by decide) hs hW.sm) gX4_count_X3_touchingPairs rfl (by decide +kernel) (by decide) (by decide) (kd_lt (k := 3) (by decide) (by decide)) (cell_k (k := 3) (by decide)) rfl rfl rfl (Nat.le_of_ble_eq_true rfl) dX4_count_92 ?_
    exact hret _ 95 _ (pairS σ.1) dX4_count_95 (⟨by unfold couY; rw [z_1]; rfl, rfl⟩)
  · refine wl_swIn C 96 dX4_count_1 (by rw [z_1]; decide) (by rw [z_1]; decide) (by rw [z_1]; rfl) (by decide) ?_
    refine wl_aload_n C 0 dX4_count_96 rfl rfl ?_
    refine wl_get_Main_history (i := 224) C (by decide) in4 fl22 dX4_count_97 ?_
    refine wl_get_History_size (i := 225) (v := nI σ.2.1) C (by decide) in2 fl186 hh dX4_count_100 ?_
    exact hret _ 103 _ (nI σ.2.1) dX4_count_103 (⟨by unfold couY; rw [z_1]; rfl, rfl⟩)
  · refine wl_swIn C 104 dX4_count_1 (by rw [z_1]; decide) (by rw [z_1]; decide) (by rw [z_1]; rfl) (by decide) ?_
    refine wl_aload_n C 0 dX4_count_104 rfl rfl ?_
    refine wl_get_Main_text (i := 224) C (by decide) in4 fl29 dX4_count_105 ?_
    refine wl_get_BodyText_length (i := 227) (v := nI σ.2.2.2.1) C (by decide) in1 fl187 hR.2.2.1 dX4_count_108 ?_
    exact hret _ 111 _ (nI σ.2.2.2.1) dX4_count_111 (⟨by unfold couY; rw [z_1]; rfl, rfl⟩)
  · refine wl_swOut C 112 dX4_count_1 z_1 (by decide) ?_
    refine wl_ldc C cn37 dX4_count_112 ?_
    exact hret _ 114 _ (-1000001) dX4_count_114 (⟨by unfold couY; rw [if_neg (sw_ne z_1 (by decide)), if_neg (sw_ne z_1 (by decide)), if_neg (sw_ne z_1 (by decide)), if_neg (sw_ne z_1 (by decide)), if_neg (sw_ne z_1 (by decide)), if_neg (sw_ne z_1 (by decide)), if_neg (sw_ne z_1 (by decide)), if_neg (sw_ne z_1 (by decide))], rfl⟩)
set_option maxHeartbeats 4000000 in
set_option maxRecDepth 100000 in
theorem c_X4_undo (l : Launch) (G : Gw) (M : Mem) (σ : Sy) (hR : RC M σ) (hO : OkY σ) : Ci l G yX4_undo wsX4_undo 4 88 [.ref (G.2.2.1 224)] M (fun r M' => r = (undY σ).1 ∧ RC M' (undY σ).2 ∧ FrC M M') := by
  refine Ci.of (cc := cX4_undo) (maxL := 1) (ret := (some .int)) (by decide +kernel) rfl (Nat.le_of_ble_eq_true rfl) ?_
  intro x sz hl0 hr C
  subst hl0
  have C : CX x G (AA G sz) RX4 cX4_undo 1 wsX4_undo 4 88 0 0 := C
  have hret : ∀ (M0 : Mem) (pc0 : Nat) (L0 : List (Nat × Value)) (rv0 : Int32), decode cX4_undo pc0 = .ok (.ireturn, 1) → (fun r M' => r = (undY σ).1 ∧ RC M' (undY σ).2 ∧ FrC M M') rv0 M0 → WL x G (AA G sz) 1 0 0 (xQ x (va_Qi (fun r M' => r = (undY σ).1 ∧ RC M' (undY σ).2 ∧ FrC M M') (WE G) (AA G sz)) (AA G sz)) M0 pc0 L0 [.int rv0] := fun M0 pc0 L0 rv0 hd hp => wl_iret (post := (fun r M' => r = (undY σ).1 ∧ RC M' (undY σ).2 ∧ FrC M M')) C hr hd hp
  show WL x G (AA G sz) 1 0 0 (xQ x (va_Qi (fun r M' => r = (undY σ).1 ∧ RC M' (undY σ).2 ∧ FrC M M') (WE G) (AA G sz)) (AA G sz)) M 0 [(0, .ref (G.2.2.1 224))] []
  generalize (xQ x (va_Qi (fun r M' => r = (undY σ).1 ∧ RC M' (undY σ).2 ∧ FrC M M') (WE G) (AA G sz)) (AA G sz)) = QQ at hret ⊢
  have in4 : ∀ w ∈ wsX40, w ∈ wsX4_undo := by decide +kernel
  have fl22 : Jvm.Cond.fieldLink RX4 22 "JammedBodies" "history" "LJammedBodies$History;" ∈ wsX4_undo := by decide +kernel
  have in2 : ∀ w ∈ wsX20, w ∈ wsX4_undo := by decide +kernel
  have fl186 : Jvm.Cond.fieldLink RX4 186 "JammedBodies$History" "size" "I" ∈ wsX4_undo := by decide +kernel
  have fl10 : Jvm.Cond.fieldLink RX4 10 "JammedBodies" "packing" "LJammedBodies$Packing;" ∈ wsX4_undo := by decide +kernel
  have cn42 : Jvm.Cond.constant RX4 42 (-1000002) ∈ wsX4_undo := by decide +kernel
  have hs := hR.1
  have hW := hO.1.1
  have h8 := hs.r
  have hH := hR.2.1
  obtain ⟨o, ho4, ho, hh, hn4, hHa⟩ := hH
  refine wl_aload_n C 0 dX4_undo_0 rfl rfl ?_
  refine wl_get_Main_history (i := 224) C (by decide) in4 fl22 dX4_undo_1 ?_
  refine wl_get_History_size (i := 225) (v := nI σ.2.1) C (by decide) in2 fl186 hh dX4_undo_4 ?_
  refine wl_if_ne C 13 dX4_undo_7 (by decide) (fun c_7 => ?_) (fun c_7 => ?_)
  · refine wl_aload_n C 0 dX4_undo_13 rfl rfl ?_
    refine wl_get_Main_history (i := 224) C (by decide) in4 fl22 dX4_undo_14 ?_
    refine wl_aload_n C 0 dX4_undo_17 rfl rfl ?_
    refine wl_get_Main_packing (i := 224) C (by decide) in4 fl10 dX4_undo_18 ?_
    refine wl_callVv (i := 225) (n := 1) C [.ref (G.2.2.1 0)] [] (c_X2_restore _ G M 0 σ.2.1 σ.2.2.1 (by decide) (by decide) hR.2.1 (Nat.pos_of_ne_zero (fun z => c_7 (by rw [z]; rfl)))) gX4_undo_X2_restore rfl (by decide +kernel) (by decide) (by decide) (kd_lt (k := 2) (by decide) (by decide)) (cell_k (k := 2) (by decide)) rfl rfl rfl (Nat.le_of_ble_eq_true rfl) dX4_undo_21 (fun M1 er => ?_)
    refine wl_aload_n C 0 dX4_undo_24 rfl rfl ?_
    refine wl_get_Main_history (i := 224) C (by decide) in4 fl22 dX4_undo_25 ?_
    refine wl_get_History_size (i := 225) (v := nI (σ.2.1 - 1)) C (by decide) in2 fl186 (hs_n er.2.1) dX4_undo_28 ?_
    exact hret _ 31 _ (nI (σ.2.1 - 1)) dX4_undo_31 (by (have e : undY σ = (nI (σ.2.1 - 1), (σ.2.2.1 (σ.2.1 - 1), σ.2.1 - 1, σ.2.2.1, σ.2.2.2)) := (by unfold undY; rw [if_neg (fun z => c_7 (by rw [z]; rfl))])); rw [e]; exact ⟨rfl, ⟨er.1, er.2.1, ⟨by rw [er.2.2 227 (by omega) (by omega)]; exact hR.2.2.1, fun j hj => by rw [er.2.2 228 (by omega) (by omega)]; exact hR.2.2.2 j hj⟩⟩, fun i hi => er.2.2 i (by omega) (by omega)⟩)
  · refine wl_ldc C cn42 dX4_undo_10 ?_
    exact hret _ 12 _ (-1000002) dX4_undo_12 (by (have e : undY σ = (-1000002, σ) := (by unfold undY; rw [if_pos (Nat.eq_zero_of_not_pos (fun q => nI_ne0 q (by omega) c_7))])); rw [e]; exact ⟨rfl, hR, FrC.rf⟩)
set_option maxHeartbeats 4000000 in
set_option maxRecDepth 100000 in
theorem c_X4_type (l : Launch) (G : Gw) (M : Mem) (σ : Sy) (hR : RC M σ) (hO : OkY σ) (v : Int32) : Ci l G yX4_type wsX4_type 1 21 [.ref (G.2.2.1 224), .int v] M (fun r M' => r = (typY σ v).1 ∧ RC M' (typY σ v).2 ∧ FrC M M') := by
  refine Ci.of (cc := cX4_type) (maxL := 2) (ret := (some .int)) (by decide +kernel) rfl (Nat.le_of_ble_eq_true rfl) ?_
  intro x sz hl0 hr C
  subst hl0
  have C : CX x G (AA G sz) RX4 cX4_type 2 wsX4_type 1 21 0 0 := C
  have hret : ∀ (M0 : Mem) (pc0 : Nat) (L0 : List (Nat × Value)) (rv0 : Int32), decode cX4_type pc0 = .ok (.ireturn, 1) → (fun r M' => r = (typY σ v).1 ∧ RC M' (typY σ v).2 ∧ FrC M M') rv0 M0 → WL x G (AA G sz) 2 0 0 (xQ x (va_Qi (fun r M' => r = (typY σ v).1 ∧ RC M' (typY σ v).2 ∧ FrC M M') (WE G) (AA G sz)) (AA G sz)) M0 pc0 L0 [.int rv0] := fun M0 pc0 L0 rv0 hd hp => wl_iret (post := (fun r M' => r = (typY σ v).1 ∧ RC M' (typY σ v).2 ∧ FrC M M')) C hr hd hp
  show WL x G (AA G sz) 2 0 0 (xQ x (va_Qi (fun r M' => r = (typY σ v).1 ∧ RC M' (typY σ v).2 ∧ FrC M M') (WE G) (AA G sz)) (AA G sz)) M 0 [(0, .ref (G.2.2.1 224)), (1, .int v)] []
  generalize (xQ x (va_Qi (fun r M' => r = (typY σ v).1 ∧ RC M' (typY σ v).2 ∧ FrC M M') (WE G) (AA G sz)) (AA G sz)) = QQ at hret ⊢
  have cn37 : Jvm.Cond.constant RX4 37 (-1000001) ∈ wsX4_type := by decide +kernel
  have in4 : ∀ w ∈ wsX40, w ∈ wsX4_type := by decide +kernel
  have fl29 : Jvm.Cond.fieldLink RX4 29 "JammedBodies" "text" "LJammedBodies$BodyText;" ∈ wsX4_type := by decide +kernel
  have in1 : ∀ w ∈ wsX10, w ∈ wsX4_type := by decide +kernel
  have fl187 : Jvm.Cond.fieldLink RX4 187 "JammedBodies$BodyText" "length" "I" ∈ wsX4_type := by decide +kernel
  have cn63 : Jvm.Cond.constant RX4 63 (-1000003) ∈ wsX4_type := by decide +kernel
  have hs := hR.1
  have hW := hO.1.1
  have h8 := hs.r
  have h60 := hO.2.2.1
  refine wl_iload_n C 1 dX4_type_0 rfl rfl ?_
  refine wl_bipush (v := 32) C dX4_type_1 (by decide) ?_
  refine wl_icmp_lt C 12 dX4_type_3 (by decide) (fun c_3 => ?_) (fun c_3 => ?_)
  · refine wl_ldc C cn37 dX4_type_12 ?_
    exact hret _ 14 _ (-1000001) dX4_type_14 (by (have e : typY σ v = (-1000001, σ) := (by unfold typY; rw [if_neg (fun q => by first | exact (Int32.not_le.mpr c_3) q.1 | exact c_9 q.2)])); rw [e]; exact ⟨rfl, hR, FrC.rf⟩)
  · refine wl_iload_n C 1 dX4_type_6 rfl rfl ?_
    refine wl_bipush (v := 126) C dX4_type_7 (by decide) ?_
    refine wl_icmp_le C 15 dX4_type_9 (by decide) (fun c_9 => ?_) (fun c_9 => ?_)
    · obtain ⟨q, hq1, hq2, hq⟩ := chr_k c_3 c_9
      refine wl_aload_n C 0 dX4_type_15 rfl rfl ?_
      refine wl_get_Main_text (i := 224) C (by decide) in4 fl29 dX4_type_16 ?_
      refine wl_get_BodyText_length (i := 227) (v := nI σ.2.2.2.1) C (by decide) in1 fl187 hR.2.2.1 dX4_type_19 ?_
      refine wl_bipush (v := nI 60) C dX4_type_22 (by decide) ?_
      refine wl_icmp_ltN C (a := σ.2.2.2.1) (b := 60) (by omega) (by omega) 30 dX4_type_24 (by decide) (fun c_24 => ?_) (fun c_24 => ?_)
      · refine wl_aload_n C 0 dX4_type_30 rfl rfl ?_
        refine wl_get_Main_text (i := 224) C (by decide) in4 fl29 dX4_type_31 ?_
        refine wl_iload_n C 1 dX4_type_34 rfl rfl ?_
        refine wl_eqi (b := nI q) (hq) ?_
        refine wl_i2c (v := nI q) C dX4_type_35 (ch_i2c q (by omega)) ?_
        refine wl_callVv (i := 227) (n := 1) C [.int (nI q)] [] (c_X1_append _ G M σ.2.2.2 q hR.2.2 (by omega) hq2) gX4_type_X1_append rfl (by decide +kernel) (by decide) (by decide) (kd_lt (k := 1) (by decide) (by decide)) (cell_k (k := 1) (by decide)) rfl rfl rfl (Nat.le_of_ble_eq_true rfl) dX4_type_36 (fun M1 ea => ?_)
        refine wl_aload_n C 0 dX4_type_39 rfl rfl ?_
        refine wl_get_Main_text (i := 224) C (by decide) in4 fl29 dX4_type_40 ?_
        refine wl_get_BodyText_length (i := 227) (v := nI (σ.2.2.2.1 + 1)) C (by decide) in1 fl187 (by rw [ea]; exact mset_self _ _ _ _) dX4_type_43 ?_
        exact hret _ 46 _ (nI (σ.2.2.2.1 + 1)) dX4_type_46 (by (have e : typY σ v = (nI (σ.2.2.2.1 + 1), (σ.1, σ.2.1, σ.2.2.1, (σ.2.2.2.1 + 1, fun j => if j = σ.2.2.2.1 then v else σ.2.2.2.2 j))) := (by unfold typY; rw [if_pos ⟨Int32.not_lt.mp c_3, c_9⟩, if_pos c_24])); rw [e]; exact ⟨rfl, typ_end hR (by rw [hq]; exact ea)⟩)
      · refine wl_ldc C cn63 dX4_type_27 ?_
        exact hret _ 29 _ (-1000003) dX4_type_29 (by (have e : typY σ v = (-1000003, σ) := (by unfold typY; rw [if_pos ⟨Int32.not_lt.mp c_3, c_9⟩, if_neg c_24])); rw [e]; exact ⟨rfl, hR, FrC.rf⟩)
    · refine wl_ldc C cn37 dX4_type_12 ?_
      exact hret _ 14 _ (-1000001) dX4_type_14 (by (have e : typY σ v = (-1000001, σ) := (by unfold typY; rw [if_neg (fun q => by first | exact (Int32.not_le.mpr c_3) q.1 | exact c_9 q.2)])); rw [e]; exact ⟨rfl, hR, FrC.rf⟩)
set_option maxHeartbeats 4000000 in
set_option maxRecDepth 100000 in
theorem c_X4_clearText (l : Launch) (G : Gw) (M : Mem) (σ : Sy) (hR : RC M σ) (hO : OkY σ) : Ci l G yX4_clearText wsX4_clearText 0 0 [.ref (G.2.2.1 224)] M (fun r M' => r = (cleY σ).1 ∧ RC M' (cleY σ).2 ∧ FrC M M') := by
  refine Ci.of (cc := cX4_clearText) (maxL := 2) (ret := (some .int)) (by decide +kernel) rfl (Nat.le_of_ble_eq_true rfl) ?_
  intro x sz hl0 hr C
  subst hl0
  have C : CX x G (AA G sz) RX4 cX4_clearText 2 wsX4_clearText 0 0 0 0 := C
  have hret : ∀ (M0 : Mem) (pc0 : Nat) (L0 : List (Nat × Value)) (rv0 : Int32), decode cX4_clearText pc0 = .ok (.ireturn, 1) → (fun r M' => r = (cleY σ).1 ∧ RC M' (cleY σ).2 ∧ FrC M M') rv0 M0 → WL x G (AA G sz) 2 0 0 (xQ x (va_Qi (fun r M' => r = (cleY σ).1 ∧ RC M' (cleY σ).2 ∧ FrC M M') (WE G) (AA G sz)) (AA G sz)) M0 pc0 L0 [.int rv0] := fun M0 pc0 L0 rv0 hd hp => wl_iret (post := (fun r M' => r = (cleY σ).1 ∧ RC M' (cleY σ).2 ∧ FrC M M')) C hr hd hp
  show WL x G (AA G sz) 2 0 0 (xQ x (va_Qi (fun r M' => r = (cleY σ).1 ∧ RC M' (cleY σ).2 ∧ FrC M M') (WE G) (AA G sz)) (AA G sz)) M 0 [(0, .ref (G.2.2.1 224))] []
  generalize (xQ x (va_Qi (fun r M' => r = (cleY σ).1 ∧ RC M' (cleY σ).2 ∧ FrC M M') (WE G) (AA G sz)) (AA G sz)) = QQ at hret ⊢
  have in4 : ∀ w ∈ wsX40, w ∈ wsX4_clearText := by decide +kernel
  have fl29 : Jvm.Cond.fieldLink RX4 29 "JammedBodies" "text" "LJammedBodies$BodyText;" ∈ wsX4_clearText := by decide +kernel
  have in1 : ∀ w ∈ wsX10, w ∈ wsX4_clearText := by decide +kernel
  have fl187 : Jvm.Cond.fieldLink RX4 187 "JammedBodies$BodyText" "length" "I" ∈ wsX4_clearText := by decide +kernel
  have hs := hR.1
  have hW := hO.1.1
  have h8 := hs.r
  refine wl_aload_n C 0 dX4_clearText_0 rfl rfl ?_
  refine wl_get_Main_text (i := 224) C (by decide) in4 fl29 dX4_clearText_1 ?_
  refine wl_get_BodyText_length (i := 227) (v := nI σ.2.2.2.1) C (by decide) in1 fl187 hR.2.2.1 dX4_clearText_4 ?_
  refine wl_istore_n (L' := [(1, .int (nI σ.2.2.2.1)), (0, .ref (G.2.2.1 224))]) C dX4_clearText_7 rfl (by decide) rfl ?_
  refine wl_aload_n C 1 dX4_clearText_8 rfl rfl ?_
  refine wl_get_Main_text (i := 224) C (by decide) in4 fl29 dX4_clearText_9 ?_
  refine wl_iconst (v := 0) C dX4_clearText_12 (by decide) ?_
  refine wl_put_BodyText_length (i := 227) C (by decide) in1 fl187 dX4_clearText_13 ?_
  refine wl_iload_n C 0 dX4_clearText_16 rfl rfl ?_
  exact hret _ 17 _ (nI σ.2.2.2.1) dX4_clearText_17 (⟨rfl, cle_end hR⟩)
set_option maxHeartbeats 4000000 in
set_option maxRecDepth 100000 in
theorem c_X4_fault (l : Launch) (G : Gw) (M : Mem) (σ : Sy) (hR : RC M σ) (hO : OkY σ) (w : Int32) : Ci l G yX4_fault wsX4_fault 5 125 [.ref (G.2.2.1 224), .int w] M (fun r M' => r = fauY σ w ∧ RC M' σ ∧ FrC M M') := by
  refine Ci.of (cc := cX4_fault) (maxL := 2) (ret := (some .int)) (by decide +kernel) rfl (Nat.le_of_ble_eq_true rfl) ?_
  intro x sz hl0 hr C
  subst hl0
  have C : CX x G (AA G sz) RX4 cX4_fault 2 wsX4_fault 5 125 0 0 := C
  have hret : ∀ (M0 : Mem) (pc0 : Nat) (L0 : List (Nat × Value)) (rv0 : Int32), decode cX4_fault pc0 = .ok (.ireturn, 1) → (fun r M' => r = fauY σ w ∧ RC M' σ ∧ FrC M M') rv0 M0 → WL x G (AA G sz) 2 0 0 (xQ x (va_Qi (fun r M' => r = fauY σ w ∧ RC M' σ ∧ FrC M M') (WE G) (AA G sz)) (AA G sz)) M0 pc0 L0 [.int rv0] := fun M0 pc0 L0 rv0 hd hp => wl_iret (post := (fun r M' => r = fauY σ w ∧ RC M' σ ∧ FrC M M')) C hr hd hp
  show WL x G (AA G sz) 2 0 0 (xQ x (va_Qi (fun r M' => r = fauY σ w ∧ RC M' σ ∧ FrC M M') (WE G) (AA G sz)) (AA G sz)) M 0 [(0, .ref (G.2.2.1 224)), (1, .int w)] []
  generalize (xQ x (va_Qi (fun r M' => r = fauY σ w ∧ RC M' σ ∧ FrC M M') (WE G) (AA G sz)) (AA G sz)) = QQ at hret ⊢
  have cn37 : Jvm.Cond.constant RX4 37 (-1000001) ∈ wsX4_fault := by decide +kernel
  have in4 : ∀ w ∈ wsX40, w ∈ wsX4_fault := by decide +kernel
  have fl29 : Jvm.Cond.fieldLink RX4 29 "JammedBodies" "text" "LJammedBodies$BodyText;" ∈ wsX4_fault := by decide +kernel
  have fl10 : Jvm.Cond.fieldLink RX4 10 "JammedBodies" "packing" "LJammedBodies$Packing;" ∈ wsX4_fault := by decide +kernel
  have in1 : ∀ w ∈ wsX10, w ∈ wsX4_fault := by decide +kernel
  have fl57 : Jvm.Cond.fieldLink RX4 57 "JammedBodies$BodyText" "reason" "I" ∈ wsX4_fault := by decide +kernel
  have fl200 : Jvm.Cond.fieldLink RX4 200 "JammedBodies$BodyText" "cause" "I" ∈ wsX4_fault := by decide +kernel
  have fl197 : Jvm.Cond.fieldLink RX4 197 "JammedBodies$BodyText" "place" "I" ∈ wsX4_fault := by decide +kernel
  have cn171 : Jvm.Cond.constant RX4 171 (-1000004) ∈ wsX4_fault := by decide +kernel
  have hs := hR.1
  have hW := hO.1.1
  have h8 := hs.r
  refine wl_iload_n C 1 dX4_fault_0 rfl rfl ?_
  refine wl_if_lt C 9 dX4_fault_1 (by decide) (fun c_1 => ?_) (fun c_1 => ?_)
  · refine wl_ldc C cn37 dX4_fault_9 ?_
    exact hret _ 11 _ (-1000001) dX4_fault_11 (by (have e : fauY σ w = -1000001 := (by unfold fauY; rw [if_neg (fun q => by first | exact (Int32.not_le.mpr c_1) q.1 | exact c_6 q.2)])); rw [e]; exact ⟨rfl, hR, FrC.rf⟩)
  · refine wl_iload_n C 1 dX4_fault_4 rfl rfl ?_
    refine wl_iconst (v := 2) C dX4_fault_5 (by decide) ?_
    refine wl_icmp_le C 12 dX4_fault_6 (by decide) (fun c_6 => ?_) (fun c_6 => ?_)
    · refine wl_aload_n C 0 dX4_fault_12 rfl rfl ?_
      refine wl_get_Main_text (i := 224) C (by decide) in4 fl29 dX4_fault_13 ?_
      refine wl_aload_n C 0 dX4_fault_16 rfl rfl ?_
      refine wl_get_Main_packing (i := 224) C (by decide) in4 fl10 dX4_fault_17 ?_
      refine wl_callVv (i := 227) (n := 1) C [.ref (G.2.2.1 0)] [] (c_X1_examine _ G M σ.2.2.2 0 σ.1 (by decide) hs hW hR.2.2 hO.2.2) gX4_fault_X1_examine rfl (by decide +kernel) (by decide) (by decide) (kd_lt (k := 1) (by decide) (by decide)) (cell_k (k := 1) (by decide)) rfl rfl rfl (Nat.le_of_ble_eq_true rfl) dX4_fault_20 (fun Ma ee => ?_)
      have tx : RC Ma σ := ⟨hs.frT ee.2.2.2.2.1 (by decide), hR.2.1.frT ee.2.2.2.2.1, hR.2.2.fr ee.2.2.2.2.1 ee.2.2.2.1⟩
      have fx : FrC M Ma := ee.2.2.2.2.1.C
      refine wl_aload_n C 0 dX4_fault_23 rfl rfl ?_
      refine wl_get_Main_text (i := 224) C (by decide) in4 fl29 dX4_fault_24 ?_
      refine wl_get_BodyText_reason (i := 227) (v := (fltT σ.2.2.2 σ.1).2.1) C (by decide) in1 fl57 ee.2.1 dX4_fault_27 ?_
      refine wl_if_ne C 36 dX4_fault_30 (by decide) (fun c_30 => ?_) (fun c_30 => ?_)
      · refine wl_iload_n C 1 dX4_fault_36 rfl rfl ?_
        refine wl_if_ne C 48 dX4_fault_37 (by decide) (fun c_37 => ?_) (fun c_37 => ?_)
        · refine wl_iload_n C 1 dX4_fault_48 rfl rfl ?_
          refine wl_iconst (v := 1) C dX4_fault_49 (by decide) ?_
          refine wl_icmp_ne C 63 dX4_fault_50 (by decide) (fun c_50 => ?_) (fun c_50 => ?_)
          · refine wl_aload_n C 0 dX4_fault_63 rfl rfl ?_
            refine wl_get_Main_text (i := 224) C (by decide) in4 fl29 dX4_fault_64 ?_
            refine wl_get_BodyText_cause (i := 227) (v := (fltT σ.2.2.2 σ.1).2.2) C (by decide) in1 fl200 ee.2.2.1 dX4_fault_67 ?_
            exact hret _ 70 _ ((fltT σ.2.2.2 σ.1).2.2) dX4_fault_70 (by (have e : fauY σ w = (fltT σ.2.2.2 σ.1).2.2 := (by unfold fauY; rw [if_pos ⟨Int32.not_lt.mp c_1, c_6⟩, if_neg c_30, if_neg c_37, if_neg c_50])); rw [e]; exact ⟨rfl, tx, fx⟩)
          · refine wl_aload_n C 0 dX4_fault_53 rfl rfl ?_
            refine wl_get_Main_text (i := 224) C (by decide) in4 fl29 dX4_fault_54 ?_
            refine wl_get_BodyText_reason (i := 227) (v := (fltT σ.2.2.2 σ.1).2.1) C (by decide) in1 fl57 ee.2.1 dX4_fault_57 ?_
            refine wl_goto C 70 dX4_fault_60 (by decide) ?_
            exact hret _ 70 _ ((fltT σ.2.2.2 σ.1).2.1) dX4_fault_70 (by (have e : fauY σ w = (fltT σ.2.2.2 σ.1).2.1 := (by unfold fauY; rw [if_pos ⟨Int32.not_lt.mp c_1, c_6⟩, if_neg c_30, if_neg c_37, if_pos c_50])); rw [e]; exact ⟨rfl, tx, fx⟩)
        · refine wl_aload_n C 0 dX4_fault_40 rfl rfl ?_
          refine wl_get_Main_text (i := 224) C (by decide) in4 fl29 dX4_fault_41 ?_
          refine wl_get_BodyText_place (i := 227) (v := (fltT σ.2.2.2 σ.1).1) C (by decide) in1 fl197 ee.1 dX4_fault_44 ?_
          exact hret _ 47 _ ((fltT σ.2.2.2 σ.1).1) dX4_fault_47 (by (have e : fauY σ w = (fltT σ.2.2.2 σ.1).1 := (by unfold fauY; rw [if_pos ⟨Int32.not_lt.mp c_1, c_6⟩, if_neg c_30, if_pos c_37])); rw [e]; exact ⟨rfl, tx, fx⟩)
      · refine wl_ldc C cn171 dX4_fault_33 ?_
        exact hret _ 35 _ (-1000004) dX4_fault_35 (by (have e : fauY σ w = -1000004 := (by unfold fauY; rw [if_pos ⟨Int32.not_lt.mp c_1, c_6⟩, if_pos c_30])); rw [e]; exact ⟨rfl, tx, fx⟩)
    · refine wl_ldc C cn37 dX4_fault_9 ?_
      exact hret _ 11 _ (-1000001) dX4_fault_11 (by (have e : fauY σ w = -1000001 := (by unfold fauY; rw [if_neg (fun q => by first | exact (Int32.not_le.mpr c_1) q.1 | exact c_6 q.2)])); rw [e]; exact ⟨rfl, hR, FrC.rf⟩)
